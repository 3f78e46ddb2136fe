section GGrows2
variable {ρ : Type} {p : Program} {l : Launch} {e : Env} {R : Room} {s : State} {m : MethodId} {args : Array Value} {below : List Frame} {meth : Method} {c : Code} {K : q_KK} {A : Nat → Prop} {g0 : q_Mem} {ad0 : Nat → Nat} {al : Bool} {nL : Nat} {Q : ρ → State → Prop} {F F' : Option ρ} {pc : Nat} {lv lv' : List (Nat × Value)} {st : List Value} {g : q_Mem} {kc kn : Nat} {cc : ByteArray} {own : String} {ret : Option FieldType}
theorem g_iconst (X : q_X p s m args meth c K A ad0 nL cc own ret) {n : Int} {v : Int32} (hd : decode cc pc = .ok (.iconst n, 1)) (hv : Int32.ofInt n = v)
    (kk : GG p l e R s m args below meth c K A g0 ad0 al nL Q F (pc + 1) lv (.int v :: st) g kc kn) : GG p l e R s m args below meth c K A g0 ad0 al nL Q F pc lv st g kc kn :=
  fun res hF ad H locs ls h1 h2 h3 h4 => lv_iconst X.1 X.2.1 hd hv (kk res hF ad H locs ls h1 h2 h3 h4)
theorem g_bipush (X : q_X p s m args meth c K A ad0 nL cc own ret) {n : Int} {v : Int32} (hd : decode cc pc = .ok (.bipush n, 2)) (hv : (Int8.ofInt n).toInt32 = v)
    (kk : GG p l e R s m args below meth c K A g0 ad0 al nL Q F (pc + 2) lv (.int v :: st) g kc kn) : GG p l e R s m args below meth c K A g0 ad0 al nL Q F pc lv st g kc kn :=
  fun res hF ad H locs ls h1 h2 h3 h4 => lv_bipush X.1 X.2.1 hd hv (kk res hF ad H locs ls h1 h2 h3 h4)
theorem g_sipush (X : q_X p s m args meth c K A ad0 nL cc own ret) {n : Int} {v : Int32} (hd : decode cc pc = .ok (.sipush n, 3)) (hv : (Int16.ofInt n).toInt32 = v)
    (kk : GG p l e R s m args below meth c K A g0 ad0 al nL Q F (pc + 3) lv (.int v :: st) g kc kn) : GG p l e R s m args below meth c K A g0 ad0 al nL Q F pc lv st g kc kn :=
  fun res hF ad H locs ls h1 h2 h3 h4 => lv_sipush X.1 X.2.1 hd hv (kk res hF ad H locs ls h1 h2 h3 h4)
theorem g_lconst (X : q_X p s m args meth c K A ad0 nL cc own ret) {n : Fin 2} {v : Int64} (hd : decode cc pc = .ok (.lconst n, 1)) (hv : Int64.ofNat (n : Nat) = v)
    (kk : GG p l e R s m args below meth c K A g0 ad0 al nL Q F (pc + 1) lv (.long v :: st) g kc kn) : GG p l e R s m args below meth c K A g0 ad0 al nL Q F pc lv st g kc kn :=
  fun res hF ad H locs ls h1 h2 h3 h4 => lv_lconst X.1 X.2.1 hd hv (kk res hF ad H locs ls h1 h2 h3 h4)
theorem g_ldc (X : q_X p s m args meth c K A ad0 nL cc own ret) {index : Nat} {v : Int32} (hw : Cond.constant own index v ∈ q_gtb) (hd : decode cc pc = .ok (.ldc index, 2))
    (kk : GG p l e R s m args below meth c K A g0 ad0 al nL Q F (pc + 2) lv (.int v :: st) g kc kn) : GG p l e R s m args below meth c K A g0 ad0 al nL Q F pc lv st g kc kn :=
  fun res hF ad H locs ls h1 h2 h3 h4 => lv_ldc X.1 X.2.1 X.2.2.2.1 (X.2.2.2.2.1 _ hw) hd (kk res hF ad H locs ls h1 h2 h3 h4)
theorem g_ldc2 (X : q_X p s m args meth c K A ad0 nL cc own ret) {index : Nat} {v : Int64} (hw : Cond.constantLong own index v ∈ q_gtb) (hd : decode cc pc = .ok (.ldc2_w index, 3))
    (kk : GG p l e R s m args below meth c K A g0 ad0 al nL Q F (pc + 3) lv (.long v :: st) g kc kn) : GG p l e R s m args below meth c K A g0 ad0 al nL Q F pc lv st g kc kn :=
  fun res hF ad H locs ls h1 h2 h3 h4 => lv_ldc2 X.1 X.2.1 X.2.2.2.1 (X.2.2.2.2.1 _ hw) hd (kk res hF ad H locs ls h1 h2 h3 h4)
theorem g_null (X : q_X p s m args meth c K A ad0 nL cc own ret)  (hd : decode cc pc = .ok (.aconst_null, 1))
    (kk : GG p l e R s m args below meth c K A g0 ad0 al nL Q F (pc + 1) lv (.ref 0 :: st) g kc kn) : GG p l e R s m args below meth c K A g0 ad0 al nL Q F pc lv st g kc kn :=
  fun res hF ad H locs ls h1 h2 h3 h4 => lv_null X.1 X.2.1 hd (kk res hF ad H locs ls h1 h2 h3 h4)
theorem g_iadd (X : q_X p s m args meth c K A ad0 nL cc own ret) {x y : Int32} (hd : decode cc pc = .ok (.iadd, 1))
    (kk : GG p l e R s m args below meth c K A g0 ad0 al nL Q F (pc + 1) lv (.int (x + y) :: st) g kc kn) : GG p l e R s m args below meth c K A g0 ad0 al nL Q F pc lv (.int y :: .int x :: st) g kc kn :=
  fun res hF ad H locs ls h1 h2 h3 h4 => lv_iadd X.1 X.2.1 hd (kk res hF ad H locs ls h1 h2 h3 h4)
theorem g_isub (X : q_X p s m args meth c K A ad0 nL cc own ret) {x y : Int32} (hd : decode cc pc = .ok (.isub, 1))
    (kk : GG p l e R s m args below meth c K A g0 ad0 al nL Q F (pc + 1) lv (.int (x - y) :: st) g kc kn) : GG p l e R s m args below meth c K A g0 ad0 al nL Q F pc lv (.int y :: .int x :: st) g kc kn :=
  fun res hF ad H locs ls h1 h2 h3 h4 => lv_isub X.1 X.2.1 hd (kk res hF ad H locs ls h1 h2 h3 h4)
theorem g_imul (X : q_X p s m args meth c K A ad0 nL cc own ret) {x y : Int32} (hd : decode cc pc = .ok (.imul, 1))
    (kk : GG p l e R s m args below meth c K A g0 ad0 al nL Q F (pc + 1) lv (.int (x * y) :: st) g kc kn) : GG p l e R s m args below meth c K A g0 ad0 al nL Q F pc lv (.int y :: .int x :: st) g kc kn :=
  fun res hF ad H locs ls h1 h2 h3 h4 => lv_imul X.1 X.2.1 hd (kk res hF ad H locs ls h1 h2 h3 h4)
theorem g_iand (X : q_X p s m args meth c K A ad0 nL cc own ret) {x y : Int32} (hd : decode cc pc = .ok (.iand, 1))
    (kk : GG p l e R s m args below meth c K A g0 ad0 al nL Q F (pc + 1) lv (.int (x &&& y) :: st) g kc kn) : GG p l e R s m args below meth c K A g0 ad0 al nL Q F pc lv (.int y :: .int x :: st) g kc kn :=
  fun res hF ad H locs ls h1 h2 h3 h4 => lv_iand X.1 X.2.1 hd (kk res hF ad H locs ls h1 h2 h3 h4)
theorem g_ior (X : q_X p s m args meth c K A ad0 nL cc own ret) {x y : Int32} (hd : decode cc pc = .ok (.ior, 1))
    (kk : GG p l e R s m args below meth c K A g0 ad0 al nL Q F (pc + 1) lv (.int (x ||| y) :: st) g kc kn) : GG p l e R s m args below meth c K A g0 ad0 al nL Q F pc lv (.int y :: .int x :: st) g kc kn :=
  fun res hF ad H locs ls h1 h2 h3 h4 => lv_ior X.1 X.2.1 hd (kk res hF ad H locs ls h1 h2 h3 h4)
theorem g_ixor (X : q_X p s m args meth c K A ad0 nL cc own ret) {x y : Int32} (hd : decode cc pc = .ok (.ixor, 1))
    (kk : GG p l e R s m args below meth c K A g0 ad0 al nL Q F (pc + 1) lv (.int (x ^^^ y) :: st) g kc kn) : GG p l e R s m args below meth c K A g0 ad0 al nL Q F pc lv (.int y :: .int x :: st) g kc kn :=
  fun res hF ad H locs ls h1 h2 h3 h4 => lv_ixor X.1 X.2.1 hd (kk res hF ad H locs ls h1 h2 h3 h4)
theorem g_ishl (X : q_X p s m args meth c K A ad0 nL cc own ret) {x y : Int32} (hd : decode cc pc = .ok (.ishl, 1))
    (kk : GG p l e R s m args below meth c K A g0 ad0 al nL Q F (pc + 1) lv (.int (x <<< (y &&& 31)) :: st) g kc kn) : GG p l e R s m args below meth c K A g0 ad0 al nL Q F pc lv (.int y :: .int x :: st) g kc kn :=
  fun res hF ad H locs ls h1 h2 h3 h4 => lv_ishl X.1 X.2.1 hd (kk res hF ad H locs ls h1 h2 h3 h4)
theorem g_ishr (X : q_X p s m args meth c K A ad0 nL cc own ret) {x y : Int32} (hd : decode cc pc = .ok (.ishr, 1))
    (kk : GG p l e R s m args below meth c K A g0 ad0 al nL Q F (pc + 1) lv (.int (x >>> (y &&& 31)) :: st) g kc kn) : GG p l e R s m args below meth c K A g0 ad0 al nL Q F pc lv (.int y :: .int x :: st) g kc kn :=
  fun res hF ad H locs ls h1 h2 h3 h4 => lv_ishr X.1 X.2.1 hd (kk res hF ad H locs ls h1 h2 h3 h4)
theorem g_ineg (X : q_X p s m args meth c K A ad0 nL cc own ret) {x : Int32} (hd : decode cc pc = .ok (.ineg, 1))
    (kk : GG p l e R s m args below meth c K A g0 ad0 al nL Q F (pc + 1) lv (.int (-x) :: st) g kc kn) : GG p l e R s m args below meth c K A g0 ad0 al nL Q F pc lv (.int x :: st) g kc kn :=
  fun res hF ad H locs ls h1 h2 h3 h4 => lv_ineg X.1 X.2.1 hd (kk res hF ad H locs ls h1 h2 h3 h4)
theorem g_iushr (X : q_X p s m args meth c K A ad0 nL cc own ret) {x y : Int32} (hd : decode cc pc = .ok (.iushr, 1))
    (kk : GG p l e R s m args below meth c K A g0 ad0 al nL Q F (pc + 1) lv (.int (x.toUInt32 >>> (y.toUInt32 &&& Int32.toUInt32 31)).toInt32 :: st) g kc kn) : GG p l e R s m args below meth c K A g0 ad0 al nL Q F pc lv (.int y :: .int x :: st) g kc kn :=
  fun res hF ad H locs ls h1 h2 h3 h4 => lv_iushr X.1 X.2.1 hd rfl (kk res hF ad H locs ls h1 h2 h3 h4)
theorem g_ladd (X : q_X p s m args meth c K A ad0 nL cc own ret) {x y : Int64} (hd : decode cc pc = .ok (.ladd, 1))
    (kk : GG p l e R s m args below meth c K A g0 ad0 al nL Q F (pc + 1) lv (.long (x + y) :: st) g kc kn) : GG p l e R s m args below meth c K A g0 ad0 al nL Q F pc lv (.long y :: .long x :: st) g kc kn :=
  fun res hF ad H locs ls h1 h2 h3 h4 => lv_ladd X.1 X.2.1 hd (kk res hF ad H locs ls h1 h2 h3 h4)
theorem g_lcmp (X : q_X p s m args meth c K A ad0 nL cc own ret) {x y : Int64} (hd : decode cc pc = .ok (.lcmp, 1))
    (kk : GG p l e R s m args below meth c K A g0 ad0 al nL Q F (pc + 1) lv (.int (lg_cmp x y) :: st) g kc kn) : GG p l e R s m args below meth c K A g0 ad0 al nL Q F pc lv (.long y :: .long x :: st) g kc kn :=
  fun res hF ad H locs ls h1 h2 h3 h4 => W.lcmp X.1 X.2.1 hd (kk res hF ad H locs ls h1 h2 h3 h4)
theorem g_i2l (X : q_X p s m args meth c K A ad0 nL cc own ret) {x : Int32} (hd : decode cc pc = .ok (.i2l, 1))
    (kk : GG p l e R s m args below meth c K A g0 ad0 al nL Q F (pc + 1) lv (.long x.toInt64 :: st) g kc kn) : GG p l e R s m args below meth c K A g0 ad0 al nL Q F pc lv (.int x :: st) g kc kn :=
  fun res hF ad H locs ls h1 h2 h3 h4 => lv_i2l X.1 X.2.1 hd rfl (kk res hF ad H locs ls h1 h2 h3 h4)
theorem g_i2b (X : q_X p s m args meth c K A ad0 nL cc own ret) {x : Int32} (hd : decode cc pc = .ok (.i2b, 1))
    (kk : GG p l e R s m args below meth c K A g0 ad0 al nL Q F (pc + 1) lv (.int x.toInt8.toInt32 :: st) g kc kn) : GG p l e R s m args below meth c K A g0 ad0 al nL Q F pc lv (.int x :: st) g kc kn :=
  fun res hF ad H locs ls h1 h2 h3 h4 => lv_i2b X.1 X.2.1 hd rfl (kk res hF ad H locs ls h1 h2 h3 h4)
theorem g_i2s (X : q_X p s m args meth c K A ad0 nL cc own ret) {x : Int32} (hd : decode cc pc = .ok (.i2s, 1))
    (kk : GG p l e R s m args below meth c K A g0 ad0 al nL Q F (pc + 1) lv (.int x.toInt16.toInt32 :: st) g kc kn) : GG p l e R s m args below meth c K A g0 ad0 al nL Q F pc lv (.int x :: st) g kc kn :=
  fun res hF ad H locs ls h1 h2 h3 h4 => lv_i2s X.1 X.2.1 hd rfl (kk res hF ad H locs ls h1 h2 h3 h4)
theorem g_i2c (X : q_X p s m args meth c K A ad0 nL cc own ret) {x : Int32} (hd : decode cc pc = .ok (.i2c, 1))
    (kk : GG p l e R s m args below meth c K A g0 ad0 al nL Q F (pc + 1) lv (.int (x.toUInt32 % 65536).toInt32 :: st) g kc kn) : GG p l e R s m args below meth c K A g0 ad0 al nL Q F pc lv (.int x :: st) g kc kn :=
  fun res hF ad H locs ls h1 h2 h3 h4 => lv_i2c X.1 X.2.1 hd rfl (kk res hF ad H locs ls h1 h2 h3 h4)
theorem g_dup (X : q_X p s m args meth c K A ad0 nL cc own ret) {v : Value} (hd : decode cc pc = .ok (.dup, 1)) (hv : v.category = 1)
    (kk : GG p l e R s m args below meth c K A g0 ad0 al nL Q F (pc + 1) lv (v :: v :: st) g kc kn) : GG p l e R s m args below meth c K A g0 ad0 al nL Q F pc lv (v :: st) g kc kn :=
  fun res hF ad H locs ls h1 h2 h3 h4 => lv_dup X.1 X.2.1 hd (by rw [q_tr_cat]; exact hv) (kk res hF ad H locs ls h1 h2 h3 h4)
theorem g_pop (X : q_X p s m args meth c K A ad0 nL cc own ret) {v : Value} (hd : decode cc pc = .ok (.pop, 1)) (hv : v.category = 1)
    (kk : GG p l e R s m args below meth c K A g0 ad0 al nL Q F (pc + 1) lv st g kc kn) : GG p l e R s m args below meth c K A g0 ad0 al nL Q F pc lv (v :: st) g kc kn :=
  fun res hF ad H locs ls h1 h2 h3 h4 => lv_pop X.1 X.2.1 hd (by rw [q_tr_cat]; exact hv) (kk res hF ad H locs ls h1 h2 h3 h4)
theorem g_dup2 (X : q_X p s m args meth c K A ad0 nL cc own ret) {v w : Value} (hd : decode cc pc = .ok (.dup2, 1)) (hv : v.category = 1) (hw : w.category = 1)
    (kk : GG p l e R s m args below meth c K A g0 ad0 al nL Q F (pc + 1) lv (v :: w :: v :: w :: st) g kc kn) : GG p l e R s m args below meth c K A g0 ad0 al nL Q F pc lv (v :: w :: st) g kc kn :=
  fun res hF ad H locs ls h1 h2 h3 h4 => lv_dup2_11 X.1 X.2.1 hd (by rw [q_tr_cat]; exact hv) (by rw [q_tr_cat]; exact hw) (kk res hF ad H locs ls h1 h2 h3 h4)
theorem g_lload_n (X : q_X p s m args meth c K A ad0 nL cc own ret) {k : Fin 4} {i : Nat} {x : Int64} (hd : decode cc pc = .ok (.lload_n k, 1)) (hi : (k : Nat) = i) (j : Nat) (hl : lv[j]? = some (i, .long x))
    (kk : GG p l e R s m args below meth c K A g0 ad0 al nL Q F (pc + 1) lv (.long x :: st) g kc kn) : GG p l e R s m args below meth c K A g0 ad0 al nL Q F pc lv st g kc kn :=
  fun res hF ad H locs ls h1 h2 h3 h4 => lv_lload_n X.1 X.2.1 hd hi (lv_at h4 j (q_lm_at hl)) (kk res hF ad H locs ls h1 h2 h3 h4)
theorem g_lload (X : q_X p s m args meth c K A ad0 nL cc own ret) {i : Nat} {x : Int64} (hd : decode cc pc = .ok (.lload i, 2)) (j : Nat) (hl : lv[j]? = some (i, .long x))
    (kk : GG p l e R s m args below meth c K A g0 ad0 al nL Q F (pc + 2) lv (.long x :: st) g kc kn) : GG p l e R s m args below meth c K A g0 ad0 al nL Q F pc lv st g kc kn :=
  fun res hF ad H locs ls h1 h2 h3 h4 => lv_lload X.1 X.2.1 hd (lv_at h4 j (q_lm_at hl)) (kk res hF ad H locs ls h1 h2 h3 h4)
theorem g_lstore_n (X : q_X p s m args meth c K A ad0 nL cc own ret) {k : Fin 4} {i : Nat} {x : Int64} (lv' : List (Nat × Value)) (hd : decode cc pc = .ok (.lstore_n k, 1)) (hi : (k : Nat) = i) (hn : i + 1 < nL) (hl : (i, Value.long x) :: lv.filter (fun q => !(q.1 == i) && (!(q.1 == i + 1) && !(q.1 + 1 == i && q.2.category == 2))) = lv')
    (kk : GG p l e R s m args below meth c K A g0 ad0 al nL Q F (pc + 1) lv' st g kc kn) : GG p l e R s m args below meth c K A g0 ad0 al nL Q F pc lv (.long x :: st) g kc kn :=
  fun res hF ad H locs ls h1 h2 h3 h4 => lv_lstore_n X.1 X.2.1 (lv' := q_lm ad lv') hd hi h4 hn (by rw [q_lm_filter2, ← hl]; rfl) (fun ls' h => kk res hF ad H locs ls' h1 h2 h3 h)
theorem g_idiv (X : q_X p s m args meth c K A ad0 nL cc own ret) {x y : Int32} (hd : decode cc pc = .ok (.idiv, 1))
    (kk : GG p l e R s m args below meth c K A g0 ad0 al nL Q F (pc + 1) lv (.int (x / y) :: st) g kc kn) : GG p l e R s m args below meth c K A g0 ad0 al nL Q (if y = 0 then none else F) pc lv (.int y :: .int x :: st) g kc kn := by
  intro res hF ad H locs ls h1 h2 h3 h4
  by_cases hy : y = 0
  · rw [if_pos hy] at hF; cases hF
  · rw [if_neg hy] at hF
    exact lv_idiv X.1 X.2.1 hd hy (kk res hF ad H locs ls h1 h2 h3 h4)
theorem g_irem (X : q_X p s m args meth c K A ad0 nL cc own ret) {x y : Int32} (hd : decode cc pc = .ok (.irem, 1))
    (kk : GG p l e R s m args below meth c K A g0 ad0 al nL Q F (pc + 1) lv (.int (x - x / y * y) :: st) g kc kn) : GG p l e R s m args below meth c K A g0 ad0 al nL Q (if y = 0 then none else F) pc lv (.int y :: .int x :: st) g kc kn := by
  intro res hF ad H locs ls h1 h2 h3 h4
  by_cases hy : y = 0
  · rw [if_pos hy] at hF; cases hF
  · rw [if_neg hy] at hF
    exact lv_irem X.1 X.2.1 hd hy (kk res hF ad H locs ls h1 h2 h3 h4)
theorem g_goto (X : q_X p s m args meth c K A ad0 nL cc own ret) {off : Int} (tgt : Nat) (hd : decode cc pc = .ok (.goto off, 3)) (ht : (pc : Int) + off = (tgt : Int))
    (kk : GG p l e R s m args below meth c K A g0 ad0 al nL Q F tgt lv st g kc kn) : GG p l e R s m args below meth c K A g0 ad0 al nL Q F pc lv st g kc kn :=
  fun res hF ad H locs ls h1 h2 h3 h4 => lv_goto X.1 X.2.1 hd ht (kk res hF ad H locs ls h1 h2 h3 h4)
theorem g_if_eq (X : q_X p s m args meth c K A ad0 nL cc own ret) {x : Int32} {off : Int} (tgt : Nat) (hd : decode cc pc = .ok (.ifCond .eq off, 3)) (ht : (pc : Int) + off = (tgt : Int))
    (kt : x = 0 → GG p l e R s m args below meth c K A g0 ad0 al nL Q F tgt lv st g kc kn) (kf : ¬ (x = 0) → GG p l e R s m args below meth c K A g0 ad0 al nL Q F' (pc + 3) lv st g kc kn) : GG p l e R s m args below meth c K A g0 ad0 al nL Q (if x = 0 then F else F') pc lv (.int x :: st) g kc kn := by
  intro res hF ad H locs ls h1 h2 h3 h4
  refine lv_if_eq X.1 X.2.1 hd ht (fun z => ?_) (fun z => ?_)
  · rw [if_pos z] at hF; exact kt z res hF ad H locs ls h1 h2 h3 h4
  · rw [if_neg z] at hF; exact kf z res hF ad H locs ls h1 h2 h3 h4
theorem g_if_ne (X : q_X p s m args meth c K A ad0 nL cc own ret) {x : Int32} {off : Int} (tgt : Nat) (hd : decode cc pc = .ok (.ifCond .ne off, 3)) (ht : (pc : Int) + off = (tgt : Int))
    (kf : x = 0 → GG p l e R s m args below meth c K A g0 ad0 al nL Q F (pc + 3) lv st g kc kn) (kt : ¬ (x = 0) → GG p l e R s m args below meth c K A g0 ad0 al nL Q F' tgt lv st g kc kn) : GG p l e R s m args below meth c K A g0 ad0 al nL Q (if x = 0 then F else F') pc lv (.int x :: st) g kc kn := by
  intro res hF ad H locs ls h1 h2 h3 h4
  refine lv_if_ne X.1 X.2.1 hd ht (fun z => ?_) (fun z => ?_)
  · rw [if_neg z] at hF; exact kt z res hF ad H locs ls h1 h2 h3 h4
  · rw [if_pos z] at hF; exact kf z res hF ad H locs ls h1 h2 h3 h4
theorem g_if_lt (X : q_X p s m args meth c K A ad0 nL cc own ret) {x : Int32} {off : Int} (tgt : Nat) (hd : decode cc pc = .ok (.ifCond .lt off, 3)) (ht : (pc : Int) + off = (tgt : Int))
    (kt : x < 0 → GG p l e R s m args below meth c K A g0 ad0 al nL Q F tgt lv st g kc kn) (kf : ¬ (x < 0) → GG p l e R s m args below meth c K A g0 ad0 al nL Q F' (pc + 3) lv st g kc kn) : GG p l e R s m args below meth c K A g0 ad0 al nL Q (if x < 0 then F else F') pc lv (.int x :: st) g kc kn := by
  intro res hF ad H locs ls h1 h2 h3 h4
  refine lv_if_lt X.1 X.2.1 hd ht (fun z => ?_) (fun z => ?_)
  · rw [if_pos z] at hF; exact kt z res hF ad H locs ls h1 h2 h3 h4
  · rw [if_neg z] at hF; exact kf z res hF ad H locs ls h1 h2 h3 h4
theorem g_if_ge (X : q_X p s m args meth c K A ad0 nL cc own ret) {x : Int32} {off : Int} (tgt : Nat) (hd : decode cc pc = .ok (.ifCond .ge off, 3)) (ht : (pc : Int) + off = (tgt : Int))
    (kt : 0 ≤ x → GG p l e R s m args below meth c K A g0 ad0 al nL Q F tgt lv st g kc kn) (kf : ¬ (0 ≤ x) → GG p l e R s m args below meth c K A g0 ad0 al nL Q F' (pc + 3) lv st g kc kn) : GG p l e R s m args below meth c K A g0 ad0 al nL Q (if 0 ≤ x then F else F') pc lv (.int x :: st) g kc kn := by
  intro res hF ad H locs ls h1 h2 h3 h4
  refine lv_if_ge X.1 X.2.1 hd ht (fun z => ?_) (fun z => ?_)
  · rw [if_pos z] at hF; exact kt z res hF ad H locs ls h1 h2 h3 h4
  · rw [if_neg z] at hF; exact kf z res hF ad H locs ls h1 h2 h3 h4
theorem g_if_gt (X : q_X p s m args meth c K A ad0 nL cc own ret) {x : Int32} {off : Int} (tgt : Nat) (hd : decode cc pc = .ok (.ifCond .gt off, 3)) (ht : (pc : Int) + off = (tgt : Int))
    (kt : 0 < x → GG p l e R s m args below meth c K A g0 ad0 al nL Q F tgt lv st g kc kn) (kf : ¬ (0 < x) → GG p l e R s m args below meth c K A g0 ad0 al nL Q F' (pc + 3) lv st g kc kn) : GG p l e R s m args below meth c K A g0 ad0 al nL Q (if 0 < x then F else F') pc lv (.int x :: st) g kc kn := by
  intro res hF ad H locs ls h1 h2 h3 h4
  refine lv_if_gt X.1 X.2.1 hd ht (fun z => ?_) (fun z => ?_)
  · rw [if_pos z] at hF; exact kt z res hF ad H locs ls h1 h2 h3 h4
  · rw [if_neg z] at hF; exact kf z res hF ad H locs ls h1 h2 h3 h4
theorem g_if_le (X : q_X p s m args meth c K A ad0 nL cc own ret) {x : Int32} {off : Int} (tgt : Nat) (hd : decode cc pc = .ok (.ifCond .le off, 3)) (ht : (pc : Int) + off = (tgt : Int))
    (kt : x ≤ 0 → GG p l e R s m args below meth c K A g0 ad0 al nL Q F tgt lv st g kc kn) (kf : ¬ (x ≤ 0) → GG p l e R s m args below meth c K A g0 ad0 al nL Q F' (pc + 3) lv st g kc kn) : GG p l e R s m args below meth c K A g0 ad0 al nL Q (if x ≤ 0 then F else F') pc lv (.int x :: st) g kc kn := by
  intro res hF ad H locs ls h1 h2 h3 h4
  refine lv_if_le X.1 X.2.1 hd ht (fun z => ?_) (fun z => ?_)
  · rw [if_pos z] at hF; exact kt z res hF ad H locs ls h1 h2 h3 h4
  · rw [if_neg z] at hF; exact kf z res hF ad H locs ls h1 h2 h3 h4
theorem g_icmp_eq (X : q_X p s m args meth c K A ad0 nL cc own ret) {x y : Int32} {off : Int} (tgt : Nat) (hd : decode cc pc = .ok (.if_icmp .eq off, 3)) (ht : (pc : Int) + off = (tgt : Int))
    (kt : x = y → GG p l e R s m args below meth c K A g0 ad0 al nL Q F tgt lv st g kc kn) (kf : ¬ (x = y) → GG p l e R s m args below meth c K A g0 ad0 al nL Q F' (pc + 3) lv st g kc kn) : GG p l e R s m args below meth c K A g0 ad0 al nL Q (if x = y then F else F') pc lv (.int y :: .int x :: st) g kc kn := by
  intro res hF ad H locs ls h1 h2 h3 h4
  refine lv_icmp_eq X.1 X.2.1 hd ht (fun z => ?_) (fun z => ?_)
  · rw [if_pos z] at hF; exact kt z res hF ad H locs ls h1 h2 h3 h4
  · rw [if_neg z] at hF; exact kf z res hF ad H locs ls h1 h2 h3 h4
theorem g_icmp_ne (X : q_X p s m args meth c K A ad0 nL cc own ret) {x y : Int32} {off : Int} (tgt : Nat) (hd : decode cc pc = .ok (.if_icmp .ne off, 3)) (ht : (pc : Int) + off = (tgt : Int))
    (kf : x = y → GG p l e R s m args below meth c K A g0 ad0 al nL Q F (pc + 3) lv st g kc kn) (kt : ¬ (x = y) → GG p l e R s m args below meth c K A g0 ad0 al nL Q F' tgt lv st g kc kn) : GG p l e R s m args below meth c K A g0 ad0 al nL Q (if x = y then F else F') pc lv (.int y :: .int x :: st) g kc kn := by
  intro res hF ad H locs ls h1 h2 h3 h4
  refine lv_icmp_ne X.1 X.2.1 hd ht (fun z => ?_) (fun z => ?_)
  · rw [if_neg z] at hF; exact kt z res hF ad H locs ls h1 h2 h3 h4
  · rw [if_pos z] at hF; exact kf z res hF ad H locs ls h1 h2 h3 h4
theorem g_icmp_lt (X : q_X p s m args meth c K A ad0 nL cc own ret) {x y : Int32} {off : Int} (tgt : Nat) (hd : decode cc pc = .ok (.if_icmp .lt off, 3)) (ht : (pc : Int) + off = (tgt : Int))
    (kt : x < y → GG p l e R s m args below meth c K A g0 ad0 al nL Q F tgt lv st g kc kn) (kf : ¬ (x < y) → GG p l e R s m args below meth c K A g0 ad0 al nL Q F' (pc + 3) lv st g kc kn) : GG p l e R s m args below meth c K A g0 ad0 al nL Q (if x < y then F else F') pc lv (.int y :: .int x :: st) g kc kn := by
  intro res hF ad H locs ls h1 h2 h3 h4
  refine lv_icmp_lt X.1 X.2.1 hd ht (fun z => ?_) (fun z => ?_)
  · rw [if_pos z] at hF; exact kt z res hF ad H locs ls h1 h2 h3 h4
  · rw [if_neg z] at hF; exact kf z res hF ad H locs ls h1 h2 h3 h4
theorem g_icmp_ge (X : q_X p s m args meth c K A ad0 nL cc own ret) {x y : Int32} {off : Int} (tgt : Nat) (hd : decode cc pc = .ok (.if_icmp .ge off, 3)) (ht : (pc : Int) + off = (tgt : Int))
    (kt : y ≤ x → GG p l e R s m args below meth c K A g0 ad0 al nL Q F tgt lv st g kc kn) (kf : ¬ (y ≤ x) → GG p l e R s m args below meth c K A g0 ad0 al nL Q F' (pc + 3) lv st g kc kn) : GG p l e R s m args below meth c K A g0 ad0 al nL Q (if y ≤ x then F else F') pc lv (.int y :: .int x :: st) g kc kn := by
  intro res hF ad H locs ls h1 h2 h3 h4
  refine lv_icmp_ge X.1 X.2.1 hd ht (fun z => ?_) (fun z => ?_)
  · rw [if_pos z] at hF; exact kt z res hF ad H locs ls h1 h2 h3 h4
  · rw [if_neg z] at hF; exact kf z res hF ad H locs ls h1 h2 h3 h4
theorem g_icmp_gt (X : q_X p s m args meth c K A ad0 nL cc own ret) {x y : Int32} {off : Int} (tgt : Nat) (hd : decode cc pc = .ok (.if_icmp .gt off, 3)) (ht : (pc : Int) + off = (tgt : Int))
    (kt : y < x → GG p l e R s m args below meth c K A g0 ad0 al nL Q F tgt lv st g kc kn) (kf : ¬ (y < x) → GG p l e R s m args below meth c K A g0 ad0 al nL Q F' (pc + 3) lv st g kc kn) : GG p l e R s m args below meth c K A g0 ad0 al nL Q (if y < x then F else F') pc lv (.int y :: .int x :: st) g kc kn := by
  intro res hF ad H locs ls h1 h2 h3 h4
  refine lv_icmp_gt X.1 X.2.1 hd ht (fun z => ?_) (fun z => ?_)
  · rw [if_pos z] at hF; exact kt z res hF ad H locs ls h1 h2 h3 h4
  · rw [if_neg z] at hF; exact kf z res hF ad H locs ls h1 h2 h3 h4
theorem g_icmp_le (X : q_X p s m args meth c K A ad0 nL cc own ret) {x y : Int32} {off : Int} (tgt : Nat) (hd : decode cc pc = .ok (.if_icmp .le off, 3)) (ht : (pc : Int) + off = (tgt : Int))
    (kt : x ≤ y → GG p l e R s m args below meth c K A g0 ad0 al nL Q F tgt lv st g kc kn) (kf : ¬ (x ≤ y) → GG p l e R s m args below meth c K A g0 ad0 al nL Q F' (pc + 3) lv st g kc kn) : GG p l e R s m args below meth c K A g0 ad0 al nL Q (if x ≤ y then F else F') pc lv (.int y :: .int x :: st) g kc kn := by
  intro res hF ad H locs ls h1 h2 h3 h4
  refine lv_icmp_le X.1 X.2.1 hd ht (fun z => ?_) (fun z => ?_)
  · rw [if_pos z] at hF; exact kt z res hF ad H locs ls h1 h2 h3 h4
  · rw [if_neg z] at hF; exact kf z res hF ad H locs ls h1 h2 h3 h4
theorem g_ifnull (X : q_X p s m args meth c K A ad0 nL cc own ret) {x : Nat} {off : Int} (tgt : Nat) (hd : decode cc pc = .ok (.ifnull off, 3)) (ht : (pc : Int) + off = (tgt : Int))
    (kz : x = 0 → GG p l e R s m args below meth c K A g0 ad0 al nL Q F tgt lv st g kc kn) (kn' : ¬ x = 0 → GG p l e R s m args below meth c K A g0 ad0 al nL Q F' (pc + 3) lv st g kc kn) : GG p l e R s m args below meth c K A g0 ad0 al nL Q (if x = 0 then F else F') pc lv (.ref x :: st) g kc kn := by
  intro res hF ad H locs ls h1 h2 h3 h4
  by_cases z : x = 0
  · rw [if_pos z] at hF
    subst z
    exact lv_ifnullN X.1 X.2.1 hd ht (kz rfl res hF ad H locs ls h1 h2 h3 h4)
  · rw [if_neg z] at hF
    have e1 : q_tr ad (.ref x) = .ref (ad x) := by simp [q_tr, q_rf, z]
    rw [List.map_cons, e1]
    exact lv_ifnull X.1 X.2.1 hd (kn' z res hF ad H locs ls h1 h2 h3 h4)
theorem g_ifnonnull (X : q_X p s m args meth c K A ad0 nL cc own ret) {x : Nat} {off : Int} (tgt : Nat) (hd : decode cc pc = .ok (.ifnonnull off, 3)) (ht : (pc : Int) + off = (tgt : Int))
    (kz : x = 0 → GG p l e R s m args below meth c K A g0 ad0 al nL Q F (pc + 3) lv st g kc kn) (kn' : ¬ x = 0 → GG p l e R s m args below meth c K A g0 ad0 al nL Q F' tgt lv st g kc kn) : GG p l e R s m args below meth c K A g0 ad0 al nL Q (if x = 0 then F else F') pc lv (.ref x :: st) g kc kn := by
  intro res hF ad H locs ls h1 h2 h3 h4
  by_cases z : x = 0
  · rw [if_pos z] at hF
    subst z
    exact lv_ifnonnullN X.1 X.2.1 hd (kz rfl res hF ad H locs ls h1 h2 h3 h4)
  · rw [if_neg z] at hF
    have e1 : q_tr ad (.ref x) = .ref (ad x) := by simp [q_tr, q_rf, z]
    rw [List.map_cons, e1]
    exact lv_ifnonnull X.1 X.2.1 hd ht (kn' z res hF ad H locs ls h1 h2 h3 h4)
theorem q_cell_arr {K : q_KK} {ad : Nat → Nat} {g : q_Mem} {o : Nat} (h : g.1 o = 1) : q_cell K ad g o = .inl (K.2.1, g.2.1 o, .inl (g.2.2.2 o)) := by unfold q_cell; rw [if_pos h]
theorem q_cell_bool {K : q_KK} {ad : Nat → Nat} {g : q_Mem} {o : Nat} (h : g.1 o = 2) : q_cell K ad g o = .inl (K.2.2.1, g.2.1 o, .inl (g.2.2.2 o)) := by unfold q_cell; rw [if_neg (by omega), if_pos h]
theorem q_cell_obj {K : q_KK} {ad : Nat → Nat} {g : q_Mem} {o ci : Nat} (h : g.1 o = ci + 10) : q_cell K ad g o = .inr (ci, q_fs ad (g.2.2.1 o) (g.2.2.2 o) (q_rt ci)) := by
  unfold q_cell
  rw [if_neg (by omega), if_neg (by omega), if_neg (by omega), if_neg (by omega), h, Nat.add_sub_cancel]
theorem q_Wd.at {K : q_KK} {ad : Nat → Nat} {A : Nat → Prop} {g : q_Mem} {H : Heap} (h : q_Wd K ad A g H) {o : Nat} (ho : g.1 o ≠ 0) : o ≠ 0 ∧ ∃ (ws : va_W) (q0 : Nat), va_P K.1 q_classes ws H ∧ va_D A ws ∧ ws[q0]? = some (ad o, q_cell K ad g o) ∧ ∀ g' : q_Mem, (∀ o', g'.1 o' = g.1 o') → (∀ o', o' ≠ o → q_cell K ad g' o' = q_cell K ad g o') → ∀ H1 : Heap, va_P K.1 q_classes (ws.set q0 (ad o, q_cell K ad g' o)) H1 → va_D A (ws.set q0 (ad o, q_cell K ad g' o)) → q_Wd K ad A g' H1 := by
  obtain ⟨ids, hn, hi, h0, hP, hD⟩ := h
  have hm := (hi o).mp ho
  obtain ⟨q0, e0, e1⟩ := q_ws_at (K := K) (ad := ad) (g := g) hm
  refine ⟨fun z => h0 (z ▸ hm), q_ws K ad g ids, q0, hP, hD, e1, fun g' ht hc H1 hP1 hD1 => ⟨ids, hn, fun o' => by rw [ht o']; exact hi o', h0, ?_, ?_⟩⟩
  · rw [q_ws_set hn e0 hc] at hP1; exact hP1
  · rw [q_ws_set hn e0 hc] at hD1; exact hD1
/-- what the tables say of a field's use at a place of the pool -/
def q_FA (own : String) (idx ci k : Nat) (b : Bool) : Prop := ∃ (C : String) (T : u_T) (N : Nat) (ty : Nat → FieldType), q_classes[ci]? = some (C, T, N) ∧ k < N ∧ (q_rt ci).length = N ∧ (q_rt ci).getD k false = b ∧ Cond.fieldLink own idx (T k).1 (T k).2.1 (T k).2.2.1 ∈ q_gtb ∧ (∀ w ∈ u_ws C T N, w ∈ q_gtb) ∧ (∀ k, k < N → parseFieldDescriptor (T k).2.2.1 = some (ty k)) ∧ (∀ a, a < N → ∀ b, b < N → a ≠ b → (T a).2.1 ≠ (T b).2.1) ∧ q_isr (ty k) = b ∧ (b = false → ty k = .int ∨ ty k = .boolean)
def q_dsc (ci k : Nat) : String := match q_classes[ci]? with
  | some (_, T, _) => (T k).2.2.1
  | none => ""
def q_nofin (ci k : Nat) : Bool := match q_classes[ci]? with
  | some (_, T, _) => !(T k).2.2.2
  | none => false
theorem g_geti (X : q_X p s m args meth c K A ad0 nL cc own ret) {ci k idx o : Nat} (fa : q_FA own idx ci k false) (hT : g.1 o = ci + 10) (hd : decode cc pc = .ok (.getfield idx, 3))
    (kk : GG p l e R s m args below meth c K A g0 ad0 al nL Q F (pc + 3) lv (.int (g.2.2.2 o k) :: st) g kc kn) : GG p l e R s m args below meth c K A g0 ad0 al nL Q F pc lv (.ref o :: st) g kc kn := by
  intro res hF ad H locs ls h1 h2 h3 h4
  obtain ⟨C, T, N, ty, f1, f2, f3, f4, f5, f6, -⟩ := fa
  obtain ⟨h0, ws, q0, hP, hD, e, -⟩ := h2.at (o := o) (by omega)
  rw [q_cell_obj hT] at e
  have e1 : q_tr ad (.ref o) = .ref (ad o) := by simp [q_tr, q_rf, h0]
  rw [List.map_cons, e1]
  refine va_get X.1 X.2.1 X.2.2.2.2.1 f6 X.2.2.2.1 X.2.2.2.2.2.1 hP q0 e f1 k f2 (X.2.2.2.2.1 _ f5) (fun _ z => z) (v := .int (g.2.2.2 o k)) ?_ hd (kk res hF ad H locs ls h1 h2 h3 h4)
  rw [q_fs_at (by omega), f4]
  rfl
theorem g_getr (X : q_X p s m args meth c K A ad0 nL cc own ret) {ci k idx o : Nat} {r : Nat} (fa : q_FA own idx ci k true) (hT : g.1 o = ci + 10) (hr : g.2.2.1 o k = r) (hd : decode cc pc = .ok (.getfield idx, 3))
    (kk : GG p l e R s m args below meth c K A g0 ad0 al nL Q F (pc + 3) lv (.ref r :: st) g kc kn) : GG p l e R s m args below meth c K A g0 ad0 al nL Q F pc lv (.ref o :: st) g kc kn := by
  subst hr
  intro res hF ad H locs ls h1 h2 h3 h4
  obtain ⟨C, T, N, ty, f1, f2, f3, f4, f5, f6, -⟩ := fa
  obtain ⟨h0, ws, q0, hP, hD, e, -⟩ := h2.at (o := o) (by omega)
  rw [q_cell_obj hT] at e
  have e1 : q_tr ad (.ref o) = .ref (ad o) := by simp [q_tr, q_rf, h0]
  rw [List.map_cons, e1]
  refine va_get X.1 X.2.1 X.2.2.2.2.1 f6 X.2.2.2.1 X.2.2.2.2.2.1 hP q0 e f1 k f2 (X.2.2.2.2.1 _ f5) (fun _ z => z) (v := q_tr ad (.ref (g.2.2.1 o k))) ?_ hd (kk res hF ad H locs ls h1 h2 h3 h4)
  rw [q_fs_at (by omega), f4]
  rfl
theorem q_fs_seti {ad : Nat → Nat} {P : Nat → Nat} {M : Nat → Int32} {rt : List Bool} {k : Nat} {v : Int32} (h : rt.getD k false = false) (hk : k < rt.length) : (q_fs ad P M rt).set k (.int v) = q_fs ad P (upd M k v) rt := by
  apply List.ext_getElem?
  intro j
  by_cases hj : j = k
  · subst hj
    rw [List.getElem?_set_self (by rw [q_fs_len]; exact hk), q_fs_at hk, h]
    simp [upd]
  · rw [List.getElem?_set_ne (Ne.symm hj)]
    by_cases hl : j < rt.length
    · rw [q_fs_at hl, q_fs_at hl]
      simp [upd, hj]
    · rw [List.getElem?_eq_none (by rw [q_fs_len]; omega), List.getElem?_eq_none (by rw [q_fs_len]; omega)]
theorem q_fs_setr {ad : Nat → Nat} {P : Nat → Nat} {M : Nat → Int32} {rt : List Bool} {k : Nat} {v : Nat} (h : rt.getD k false = true) (hk : k < rt.length) : (q_fs ad P M rt).set k (q_rf ad v) = q_fs ad (fun k' => if k' = k then v else P k') M rt := by
  apply List.ext_getElem?
  intro j
  by_cases hj : j = k
  · subst hj
    rw [List.getElem?_set_self (by rw [q_fs_len]; exact hk), q_fs_at hk, h]
    simp
  · rw [List.getElem?_set_ne (Ne.symm hj)]
    by_cases hl : j < rt.length
    · rw [q_fs_at hl, q_fs_at hl]
      simp [hj]
    · rw [List.getElem?_eq_none (by rw [q_fs_len]; omega), List.getElem?_eq_none (by rw [q_fs_len]; omega)]
theorem q_cell_u2 {K : q_KK} {ad : Nat → Nat} {T : Nat → Nat} {L : Nat → Nat} {P : Nat → Nat → Nat} {M : Nat → Nat → Int32} {o k : Nat} {v : Int32} (o' : Nat) (h : o' ≠ o) : q_cell K ad (T, L, P, q_u2 M o k v) o' = q_cell K ad (T, L, P, M) o' := by
  unfold q_cell
  simp only [q_u2, if_neg h]
theorem q_cell_p2 {K : q_KK} {ad : Nat → Nat} {T : Nat → Nat} {L : Nat → Nat} {P : Nat → Nat → Nat} {M : Nat → Nat → Int32} {o k : Nat} {v : Nat} (o' : Nat) (h : o' ≠ o) : q_cell K ad (T, L, q_p2 P o k v, M) o' = q_cell K ad (T, L, P, M) o' := by
  unfold q_cell
  simp only [q_p2, if_neg h]
variable {T : Nat → Nat} {L : Nat → Nat} {P : Nat → Nat → Nat} {M : Nat → Nat → Int32}
theorem g_puti (X : q_X p s m args meth c K A ad0 nL cc own ret) {ci k idx o : Nat} {v : Int32} (fa : q_FA own idx ci k false) (hfin : q_nofin ci k = true) (hT : T o = ci + 10) (hv : ∀ ty : FieldType, ty = .int ∨ ty = .boolean → parseFieldDescriptor (q_dsc ci k) = some ty → narrow ty (.int v) = .int v ∧ fits ty (.int v) = true) (hd : decode cc pc = .ok (.putfield idx, 3))
    (kk : GG p l e R s m args below meth c K A g0 ad0 al nL Q F (pc + 3) lv st (T, L, P, q_u2 M o k v) kc kn) : GG p l e R s m args below meth c K A g0 ad0 al nL Q F pc lv (.int v :: .ref o :: st) (T, L, P, M) kc kn := by
  intro res hF ad H locs ls h1 h2 h3 h4
  obtain ⟨C, Tt, N, ty, f1, f2, f3, f4, f5, f6, f7, f8, f9, f10⟩ := fa
  obtain ⟨h0, ws, q0, hP, hD, e, hset⟩ := h2.at (o := o) (by show T o ≠ 0; omega)
  rw [q_cell_obj (ci := ci) hT] at e
  have e1 : q_tr ad (.ref o) = .ref (ad o) := by simp [q_tr, q_rf, h0]
  rw [List.map_cons, List.map_cons, e1]
  have hf : (Tt k).2.2.2 = false := by
    have z := hfin
    unfold q_nofin at z
    rw [f1] at z
    simpa using z
  have hvv := hv (ty k) (f10 rfl) (by unfold q_dsc; rw [f1]; exact f7 k f2)
  refine va_put (v := .int v) X.1 X.2.1 X.2.2.2.2.1 f6 ty f7 f8 X.2.2.2.1 X.2.2.2.2.2.1 hP hD h3 q0 e f1 k f2 (X.2.2.2.2.1 _ f5) (fun _ z => z) hf (f7 k f2) hvv.1 hvv.2 (by rw [q_fs_len]; omega) hd (fun H1 locs1 hP1 hD1 hS1 => ?_)
  have e2 : q_cell K ad (T, L, P, q_u2 M o k v) o = .inr (ci, (q_fs ad (P o) (M o) (q_rt ci)).set k (.int v)) := by
    rw [q_cell_obj (ci := ci) hT, q_fs_seti f4 (by omega)]
    simp only [q_u2, if_pos]
  exact kk res hF ad H1 locs1 ls h1 (hset (T, L, P, q_u2 M o k v) (fun _ => rfl) (fun o' z => q_cell_u2 o' z) H1 (by rw [e2]; exact hP1) (by rw [e2]; exact hD1)) hS1 h4
theorem g_iald (X : q_X p s m args meth c K A ad0 nL cc own ret) {o : Nat} {i : Int32} {n : Nat} {f : Int32 → Option ρ} (hT : g.1 o = 1) (hL : g.2.1 o = n) (hd : decode cc pc = .ok (.iaload, 1))
    (kk : vp_in i n → GG p l e R s m args below meth c K A g0 ad0 al nL Q (f (g.2.2.2 o i.toNatClampNeg)) (pc + 1) lv (.int (g.2.2.2 o i.toNatClampNeg) :: st) g kc kn) : GG p l e R s m args below meth c K A g0 ad0 al nL Q (if i < 0 ∨ n ≤ i.toNatClampNeg then none else f (g.2.2.2 o i.toNatClampNeg)) pc lv (.int i :: .ref o :: st) g kc kn := by
  intro res hF ad H locs ls h1 h2 h3 h4
  by_cases z : i < 0 ∨ n ≤ i.toNatClampNeg
  · rw [if_pos z] at hF; cases hF
  rw [if_neg z] at hF
  obtain ⟨h0, ws, q0, hP, hD, e, -⟩ := h2.at (o := o) (by omega)
  rw [q_cell_arr hT] at e
  have e1 : q_tr ad (.ref o) = .ref (ad o) := by simp [q_tr, q_rf, h0]
  rw [List.map_cons, List.map_cons, e1]
  exact va_iald X.1 X.2.1 X.2.2.2.2.2.1 hP q0 0 e rfl (by rw [hL]; exact z) hd (kk z res hF ad H locs ls h1 h2 h3 h4)
theorem g_bald (X : q_X p s m args meth c K A ad0 nL cc own ret) {o : Nat} {i : Int32} {n : Nat} {f : Int32 → Option ρ} (hT : g.1 o = 2) (hL : g.2.1 o = n) (hd : decode cc pc = .ok (.baload, 1))
    (kk : vp_in i n → GG p l e R s m args below meth c K A g0 ad0 al nL Q (f (g.2.2.2 o i.toNatClampNeg)) (pc + 1) lv (.int (g.2.2.2 o i.toNatClampNeg) :: st) g kc kn) : GG p l e R s m args below meth c K A g0 ad0 al nL Q (if i < 0 ∨ n ≤ i.toNatClampNeg then none else f (g.2.2.2 o i.toNatClampNeg)) pc lv (.int i :: .ref o :: st) g kc kn := by
  intro res hF ad H locs ls h1 h2 h3 h4
  by_cases z : i < 0 ∨ n ≤ i.toNatClampNeg
  · rw [if_pos z] at hF; cases hF
  rw [if_neg z] at hF
  obtain ⟨h0, ws, q0, hP, hD, e, -⟩ := h2.at (o := o) (by omega)
  rw [q_cell_bool hT] at e
  have e1 : q_tr ad (.ref o) = .ref (ad o) := by simp [q_tr, q_rf, h0]
  rw [List.map_cons, List.map_cons, e1]
  exact va_zald X.1 X.2.1 X.2.2.2.2.2.1 hP q0 1 e rfl (by rw [hL]; exact z) hd (kk z res hF ad H locs ls h1 h2 h3 h4)
theorem g_iast (X : q_X p s m args meth c K A ad0 nL cc own ret) {o : Nat} {i x : Int32} {n : Nat} (hT : T o = 1) (hL : L o = n) (hd : decode cc pc = .ok (.iastore, 1))
    (kk : vp_in i n → GG p l e R s m args below meth c K A g0 ad0 al nL Q F (pc + 1) lv st (T, L, P, q_u2 M o i.toNatClampNeg x) kc kn) : GG p l e R s m args below meth c K A g0 ad0 al nL Q (if i < 0 ∨ n ≤ i.toNatClampNeg then none else F) pc lv (.int x :: .int i :: .ref o :: st) (T, L, P, M) kc kn := by
  intro res hF ad H locs ls h1 h2 h3 h4
  by_cases z : i < 0 ∨ n ≤ i.toNatClampNeg
  · rw [if_pos z] at hF; cases hF
  rw [if_neg z] at hF
  obtain ⟨h0, ws, q0, hP, hD, e, hset⟩ := h2.at (o := o) (by show T o ≠ 0; omega)
  rw [q_cell_arr hT] at e
  have e1 : q_tr ad (.ref o) = .ref (ad o) := by simp [q_tr, q_rf, h0]
  rw [List.map_cons, List.map_cons, List.map_cons, e1]
  refine va_iast X.1 X.2.1 X.2.2.2.2.2.1 hP hD h3 q0 0 e rfl (by show vp_in i (L o); rw [hL]; exact z) hd (fun H1 locs1 hP1 hD1 hS1 => ?_)
  have e2 : q_cell K ad (T, L, P, q_u2 M o i.toNatClampNeg x) o = .inl (K.2.1, L o, .inl (upd (M o) i.toNatClampNeg x)) := by
    rw [q_cell_arr hT]
    simp only [q_u2, if_pos]
  exact kk z res hF ad H1 locs1 ls h1 (hset (T, L, P, q_u2 M o i.toNatClampNeg x) (fun _ => rfl) (fun o' z => q_cell_u2 o' z) H1 (by rw [e2]; exact hP1) (by rw [e2]; exact hD1)) hS1 h4
theorem g_bast (X : q_X p s m args meth c K A ad0 nL cc own ret) {o : Nat} {i x : Int32} {n : Nat} (hT : T o = 2) (hL : L o = n) (hd : decode cc pc = .ok (.bastore, 1))
    (kk : vp_in i n → GG p l e R s m args below meth c K A g0 ad0 al nL Q F (pc + 1) lv st (T, L, P, q_u2 M o i.toNatClampNeg (vp_nar .boolean x)) kc kn) : GG p l e R s m args below meth c K A g0 ad0 al nL Q (if i < 0 ∨ n ≤ i.toNatClampNeg then none else F) pc lv (.int x :: .int i :: .ref o :: st) (T, L, P, M) kc kn := by
  intro res hF ad H locs ls h1 h2 h3 h4
  by_cases z : i < 0 ∨ n ≤ i.toNatClampNeg
  · rw [if_pos z] at hF; cases hF
  rw [if_neg z] at hF
  obtain ⟨h0, ws, q0, hP, hD, e, hset⟩ := h2.at (o := o) (by show T o ≠ 0; omega)
  rw [q_cell_bool hT] at e
  have e1 : q_tr ad (.ref o) = .ref (ad o) := by simp [q_tr, q_rf, h0]
  rw [List.map_cons, List.map_cons, List.map_cons, e1]
  refine va_zast X.1 X.2.1 X.2.2.2.2.2.1 hP hD h3 q0 1 e rfl (by show vp_in i (L o); rw [hL]; exact z) hd (fun H1 locs1 hP1 hD1 hS1 => ?_)
  have e2 : q_cell K ad (T, L, P, q_u2 M o i.toNatClampNeg (vp_nar .boolean x)) o = .inl (K.2.2.1, L o, .inl (upd (M o) i.toNatClampNeg (vp_nar .boolean x))) := by
    rw [q_cell_bool hT]
    simp only [q_u2, if_pos]
  exact kk z res hF ad H1 locs1 ls h1 (hset (T, L, P, q_u2 M o i.toNatClampNeg (vp_nar .boolean x)) (fun _ => rfl) (fun o' z => q_cell_u2 o' z) H1 (by rw [e2]; exact hP1) (by rw [e2]; exact hD1)) hS1 h4
theorem g_alen (X : q_X p s m args meth c K A ad0 nL cc own ret) {o n : Nat} {v : Int32} (hT : g.1 o = 1 ∨ g.1 o = 2) (hL : g.2.1 o = n) (hv : Int32.ofNat n = v) (hd : decode cc pc = .ok (.arraylength, 1))
    (kk : GG p l e R s m args below meth c K A g0 ad0 al nL Q F (pc + 1) lv (.int v :: st) g kc kn) : GG p l e R s m args below meth c K A g0 ad0 al nL Q F pc lv (.ref o :: st) g kc kn := by
  intro res hF ad H locs ls h1 h2 h3 h4
  obtain ⟨h0, ws, q0, hP, hD, e, -⟩ := h2.at (o := o) (by omega)
  have e1 : q_tr ad (.ref o) = .ref (ad o) := by simp [q_tr, q_rf, h0]
  rw [List.map_cons, e1]
  rcases hT with hT | hT
  · rw [q_cell_arr hT] at e
    exact va_alen X.1 X.2.1 X.2.2.2.2.2.1 hP q0 0 e rfl (by rw [← hv, ← hL]) hd (kk res hF ad H locs ls h1 h2 h3 h4)
  · rw [q_cell_bool hT] at e
    exact va_alen X.1 X.2.1 X.2.2.2.2.2.1 hP q0 1 e rfl (by rw [← hv, ← hL]) hd (kk res hF ad H locs ls h1 h2 h3 h4)
end GGrows2
