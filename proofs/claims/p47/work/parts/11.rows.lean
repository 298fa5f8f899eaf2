section MW
variable {own : String} {cc : ByteArray} {nL : Nat} {rt : Option FieldType} {ini : Bool} {R : Room} {n0 mc ms : Nat} {Ex : mh_X} {Φ : mh_P} {slots : Nat} {sh : List mh_C} {I : mh_I} {L : mh_L} {pc : Nat} {lv : List (Nat × Value)} {st : List Value}

theorem mw_iadd {x y : Int32} (hd : decode cc pc = .ok (.iadd, 1)) (k : mh_W own cc nL rt ini R n0 mc ms Ex Φ slots sh I L (pc + 1) lv (.int (x + y) :: st)) : mh_W own cc nL rt ini R n0 mc ms Ex Φ slots sh I L pc lv (.int y :: .int x :: st) := by
  intro p l e s m args below meth c D ad A cA H locs ls K S
  exact lv_iadd K.1 K.2.1 hd (k p l e s m args below meth c D ad A cA H locs ls K S)
theorem mw_isub {x y : Int32} (hd : decode cc pc = .ok (.isub, 1)) (k : mh_W own cc nL rt ini R n0 mc ms Ex Φ slots sh I L (pc + 1) lv (.int (x - y) :: st)) : mh_W own cc nL rt ini R n0 mc ms Ex Φ slots sh I L pc lv (.int y :: .int x :: st) := by
  intro p l e s m args below meth c D ad A cA H locs ls K S
  exact lv_isub K.1 K.2.1 hd (k p l e s m args below meth c D ad A cA H locs ls K S)
theorem mw_imul {x y : Int32} (hd : decode cc pc = .ok (.imul, 1)) (k : mh_W own cc nL rt ini R n0 mc ms Ex Φ slots sh I L (pc + 1) lv (.int (x * y) :: st)) : mh_W own cc nL rt ini R n0 mc ms Ex Φ slots sh I L pc lv (.int y :: .int x :: st) := by
  intro p l e s m args below meth c D ad A cA H locs ls K S
  exact lv_imul K.1 K.2.1 hd (k p l e s m args below meth c D ad A cA H locs ls K S)
theorem mw_iand {x y : Int32} (hd : decode cc pc = .ok (.iand, 1)) (k : mh_W own cc nL rt ini R n0 mc ms Ex Φ slots sh I L (pc + 1) lv (.int (x &&& y) :: st)) : mh_W own cc nL rt ini R n0 mc ms Ex Φ slots sh I L pc lv (.int y :: .int x :: st) := by
  intro p l e s m args below meth c D ad A cA H locs ls K S
  exact lv_iand K.1 K.2.1 hd (k p l e s m args below meth c D ad A cA H locs ls K S)
theorem mw_ior {x y : Int32} (hd : decode cc pc = .ok (.ior, 1)) (k : mh_W own cc nL rt ini R n0 mc ms Ex Φ slots sh I L (pc + 1) lv (.int (x ||| y) :: st)) : mh_W own cc nL rt ini R n0 mc ms Ex Φ slots sh I L pc lv (.int y :: .int x :: st) := by
  intro p l e s m args below meth c D ad A cA H locs ls K S
  exact lv_ior K.1 K.2.1 hd (k p l e s m args below meth c D ad A cA H locs ls K S)
theorem mw_ixor {x y : Int32} (hd : decode cc pc = .ok (.ixor, 1)) (k : mh_W own cc nL rt ini R n0 mc ms Ex Φ slots sh I L (pc + 1) lv (.int (x ^^^ y) :: st)) : mh_W own cc nL rt ini R n0 mc ms Ex Φ slots sh I L pc lv (.int y :: .int x :: st) := by
  intro p l e s m args below meth c D ad A cA H locs ls K S
  exact lv_ixor K.1 K.2.1 hd (k p l e s m args below meth c D ad A cA H locs ls K S)
theorem mw_ishl {x y : Int32} (hd : decode cc pc = .ok (.ishl, 1)) (k : mh_W own cc nL rt ini R n0 mc ms Ex Φ slots sh I L (pc + 1) lv (.int (x <<< (y &&& 31)) :: st)) : mh_W own cc nL rt ini R n0 mc ms Ex Φ slots sh I L pc lv (.int y :: .int x :: st) := by
  intro p l e s m args below meth c D ad A cA H locs ls K S
  exact lv_ishl K.1 K.2.1 hd (k p l e s m args below meth c D ad A cA H locs ls K S)
theorem mw_ishr {x y : Int32} (hd : decode cc pc = .ok (.ishr, 1)) (k : mh_W own cc nL rt ini R n0 mc ms Ex Φ slots sh I L (pc + 1) lv (.int (x >>> (y &&& 31)) :: st)) : mh_W own cc nL rt ini R n0 mc ms Ex Φ slots sh I L pc lv (.int y :: .int x :: st) := by
  intro p l e s m args below meth c D ad A cA H locs ls K S
  exact lv_ishr K.1 K.2.1 hd (k p l e s m args below meth c D ad A cA H locs ls K S)
theorem mw_idiv {x y : Int32} (hd : decode cc pc = .ok (.idiv, 1)) (hne : ¬ y = 0) (k : mh_W own cc nL rt ini R n0 mc ms Ex Φ slots sh I L (pc + 1) lv (.int (x / y) :: st)) : mh_W own cc nL rt ini R n0 mc ms Ex Φ slots sh I L pc lv (.int y :: .int x :: st) := by
  intro p l e s m args below meth c D ad A cA H locs ls K S
  exact lv_idiv K.1 K.2.1 hd hne (k p l e s m args below meth c D ad A cA H locs ls K S)
theorem mw_irem {x y : Int32} (hd : decode cc pc = .ok (.irem, 1)) (hne : ¬ y = 0) (k : mh_W own cc nL rt ini R n0 mc ms Ex Φ slots sh I L (pc + 1) lv (.int (x - x / y * y) :: st)) : mh_W own cc nL rt ini R n0 mc ms Ex Φ slots sh I L pc lv (.int y :: .int x :: st) := by
  intro p l e s m args below meth c D ad A cA H locs ls K S
  exact lv_irem K.1 K.2.1 hd hne (k p l e s m args below meth c D ad A cA H locs ls K S)
theorem mw_ineg {x : Int32} (hd : decode cc pc = .ok (.ineg, 1)) (k : mh_W own cc nL rt ini R n0 mc ms Ex Φ slots sh I L (pc + 1) lv (.int (-x) :: st)) : mh_W own cc nL rt ini R n0 mc ms Ex Φ slots sh I L pc lv (.int x :: st) := by
  intro p l e s m args below meth c D ad A cA H locs ls K S
  exact lv_ineg K.1 K.2.1 hd (k p l e s m args below meth c D ad A cA H locs ls K S)
theorem mw_ladd {x y : Int64} (hd : decode cc pc = .ok (.ladd, 1)) (k : mh_W own cc nL rt ini R n0 mc ms Ex Φ slots sh I L (pc + 1) lv (.long (x + y) :: st)) : mh_W own cc nL rt ini R n0 mc ms Ex Φ slots sh I L pc lv (.long y :: .long x :: st) := by
  intro p l e s m args below meth c D ad A cA H locs ls K S
  exact lv_ladd K.1 K.2.1 hd (k p l e s m args below meth c D ad A cA H locs ls K S)
theorem mw_lmul {x y : Int64} (hd : decode cc pc = .ok (.lmul, 1)) (k : mh_W own cc nL rt ini R n0 mc ms Ex Φ slots sh I L (pc + 1) lv (.long (x * y) :: st)) : mh_W own cc nL rt ini R n0 mc ms Ex Φ slots sh I L pc lv (.long y :: .long x :: st) := by
  intro p l e s m args below meth c D ad A cA H locs ls K S
  exact lv_lmul K.1 K.2.1 hd (k p l e s m args below meth c D ad A cA H locs ls K S)
theorem mw_land {x y : Int64} (hd : decode cc pc = .ok (.land, 1)) (k : mh_W own cc nL rt ini R n0 mc ms Ex Φ slots sh I L (pc + 1) lv (.long (x &&& y) :: st)) : mh_W own cc nL rt ini R n0 mc ms Ex Φ slots sh I L pc lv (.long y :: .long x :: st) := by
  intro p l e s m args below meth c D ad A cA H locs ls K S
  exact lv_land K.1 K.2.1 hd (k p l e s m args below meth c D ad A cA H locs ls K S)
theorem mw_lor {x y : Int64} (hd : decode cc pc = .ok (.lor, 1)) (k : mh_W own cc nL rt ini R n0 mc ms Ex Φ slots sh I L (pc + 1) lv (.long (x ||| y) :: st)) : mh_W own cc nL rt ini R n0 mc ms Ex Φ slots sh I L pc lv (.long y :: .long x :: st) := by
  intro p l e s m args below meth c D ad A cA H locs ls K S
  exact lv_lor K.1 K.2.1 hd (k p l e s m args below meth c D ad A cA H locs ls K S)
theorem mw_lxor {x y : Int64} (hd : decode cc pc = .ok (.lxor, 1)) (k : mh_W own cc nL rt ini R n0 mc ms Ex Φ slots sh I L (pc + 1) lv (.long (x ^^^ y) :: st)) : mh_W own cc nL rt ini R n0 mc ms Ex Φ slots sh I L pc lv (.long y :: .long x :: st) := by
  intro p l e s m args below meth c D ad A cA H locs ls K S
  exact lv_lxor K.1 K.2.1 hd (k p l e s m args below meth c D ad A cA H locs ls K S)
theorem mw_ldiv {x y : Int64} (hd : decode cc pc = .ok (.ldiv, 1)) (hne : ¬ y = 0) (k : mh_W own cc nL rt ini R n0 mc ms Ex Φ slots sh I L (pc + 1) lv (.long (x / y) :: st)) : mh_W own cc nL rt ini R n0 mc ms Ex Φ slots sh I L pc lv (.long y :: .long x :: st) := by
  intro p l e s m args below meth c D ad A cA H locs ls K S
  exact lv_ldiv K.1 K.2.1 hd hne (k p l e s m args below meth c D ad A cA H locs ls K S)
theorem mw_lrem {x y : Int64} (hd : decode cc pc = .ok (.lrem, 1)) (hne : ¬ y = 0) (k : mh_W own cc nL rt ini R n0 mc ms Ex Φ slots sh I L (pc + 1) lv (.long (x - x / y * y) :: st)) : mh_W own cc nL rt ini R n0 mc ms Ex Φ slots sh I L pc lv (.long y :: .long x :: st) := by
  intro p l e s m args below meth c D ad A cA H locs ls K S
  exact lv_lrem K.1 K.2.1 hd hne (k p l e s m args below meth c D ad A cA H locs ls K S)
theorem mw_lshl {x : Int64} {y : Int32} (hd : decode cc pc = .ok (.lshl, 1)) (k : mh_W own cc nL rt ini R n0 mc ms Ex Φ slots sh I L (pc + 1) lv (.long (x <<< (y.toInt64 &&& 63)) :: st)) : mh_W own cc nL rt ini R n0 mc ms Ex Φ slots sh I L pc lv (.int y :: .long x :: st) := by
  intro p l e s m args below meth c D ad A cA H locs ls K S
  exact lv_lshl K.1 K.2.1 hd rfl (k p l e s m args below meth c D ad A cA H locs ls K S)
theorem mw_lshr {x : Int64} {y : Int32} (hd : decode cc pc = .ok (.lshr, 1)) (k : mh_W own cc nL rt ini R n0 mc ms Ex Φ slots sh I L (pc + 1) lv (.long (x >>> (y.toInt64 &&& 63)) :: st)) : mh_W own cc nL rt ini R n0 mc ms Ex Φ slots sh I L pc lv (.int y :: .long x :: st) := by
  intro p l e s m args below meth c D ad A cA H locs ls K S
  exact lv_lshr K.1 K.2.1 hd rfl (k p l e s m args below meth c D ad A cA H locs ls K S)
theorem mw_i2l {x : Int32} (hd : decode cc pc = .ok (.i2l, 1)) (k : mh_W own cc nL rt ini R n0 mc ms Ex Φ slots sh I L (pc + 1) lv (.long (x.toInt64) :: st)) : mh_W own cc nL rt ini R n0 mc ms Ex Φ slots sh I L pc lv (.int x :: st) := by
  intro p l e s m args below meth c D ad A cA H locs ls K S
  exact lv_i2l K.1 K.2.1 hd rfl (k p l e s m args below meth c D ad A cA H locs ls K S)
theorem mw_i2b {x : Int32} (hd : decode cc pc = .ok (.i2b, 1)) (k : mh_W own cc nL rt ini R n0 mc ms Ex Φ slots sh I L (pc + 1) lv (.int (x.toInt8.toInt32) :: st)) : mh_W own cc nL rt ini R n0 mc ms Ex Φ slots sh I L pc lv (.int x :: st) := by
  intro p l e s m args below meth c D ad A cA H locs ls K S
  exact lv_i2b K.1 K.2.1 hd rfl (k p l e s m args below meth c D ad A cA H locs ls K S)
theorem mw_i2s {x : Int32} (hd : decode cc pc = .ok (.i2s, 1)) (k : mh_W own cc nL rt ini R n0 mc ms Ex Φ slots sh I L (pc + 1) lv (.int (x.toInt16.toInt32) :: st)) : mh_W own cc nL rt ini R n0 mc ms Ex Φ slots sh I L pc lv (.int x :: st) := by
  intro p l e s m args below meth c D ad A cA H locs ls K S
  exact lv_i2s K.1 K.2.1 hd rfl (k p l e s m args below meth c D ad A cA H locs ls K S)
theorem mw_iconst {n : Int} {v : Int32} (hd : decode cc pc = .ok (.iconst n, 1)) (hv : Int32.ofInt n = v) (k : mh_W own cc nL rt ini R n0 mc ms Ex Φ slots sh I L (pc + 1) lv (.int v :: st)) : mh_W own cc nL rt ini R n0 mc ms Ex Φ slots sh I L pc lv ( st) := by
  intro p l e s m args below meth c D ad A cA H locs ls K S
  exact lv_iconst K.1 K.2.1 hd hv (k p l e s m args below meth c D ad A cA H locs ls K S)
theorem mw_bipush {n : Int} {v : Int32} (hd : decode cc pc = .ok (.bipush n, 2)) (hv : (Int8.ofInt n).toInt32 = v) (k : mh_W own cc nL rt ini R n0 mc ms Ex Φ slots sh I L (pc + 2) lv (.int v :: st)) : mh_W own cc nL rt ini R n0 mc ms Ex Φ slots sh I L pc lv ( st) := by
  intro p l e s m args below meth c D ad A cA H locs ls K S
  exact lv_bipush K.1 K.2.1 hd hv (k p l e s m args below meth c D ad A cA H locs ls K S)
theorem mw_sipush {n : Int} {v : Int32} (hd : decode cc pc = .ok (.sipush n, 3)) (hv : (Int16.ofInt n).toInt32 = v) (k : mh_W own cc nL rt ini R n0 mc ms Ex Φ slots sh I L (pc + 3) lv (.int v :: st)) : mh_W own cc nL rt ini R n0 mc ms Ex Φ slots sh I L pc lv ( st) := by
  intro p l e s m args below meth c D ad A cA H locs ls K S
  exact lv_sipush K.1 K.2.1 hd hv (k p l e s m args below meth c D ad A cA H locs ls K S)
theorem mw_lconst {n : Fin 2} {v : Int64} (hd : decode cc pc = .ok (.lconst n, 1)) (hv : Int64.ofNat (n : Nat) = v) (k : mh_W own cc nL rt ini R n0 mc ms Ex Φ slots sh I L (pc + 1) lv (.long v :: st)) : mh_W own cc nL rt ini R n0 mc ms Ex Φ slots sh I L pc lv ( st) := by
  intro p l e s m args below meth c D ad A cA H locs ls K S
  exact lv_lconst K.1 K.2.1 hd hv (k p l e s m args below meth c D ad A cA H locs ls K S)
theorem mw_lcmp {x y : Int64} (hd : decode cc pc = .ok (.lcmp, 1)) (k : mh_W own cc nL rt ini R n0 mc ms Ex Φ slots sh I L (pc + 1) lv (.int (lg_cmp x y) :: st)) : mh_W own cc nL rt ini R n0 mc ms Ex Φ slots sh I L pc lv (.long y :: .long x :: st) := by
  intro p l e s m args below meth c D ad A cA H locs ls K S
  exact W.lcmp K.1 K.2.1 hd (k p l e s m args below meth c D ad A cA H locs ls K S)
theorem mw_ldc {index : Nat} {v : Int32} (hd : decode cc pc = .ok (.ldc index, 2)) (hw : Cond.constant own index v ∈ mh_TB) (k : mh_W own cc nL rt ini R n0 mc ms Ex Φ slots sh I L (pc + 2) lv (.int v :: st)) : mh_W own cc nL rt ini R n0 mc ms Ex Φ slots sh I L pc lv st := by
  intro p l e s m args below meth c D ad A cA H locs ls K S
  exact lv_ldc K.1 K.2.1 K.hown (K.tb _ hw) hd (k p l e s m args below meth c D ad A cA H locs ls K S)
theorem mw_ldc2 {index : Nat} {v : Int64} (hd : decode cc pc = .ok (.ldc2_w index, 3)) (hw : Cond.constantLong own index v ∈ mh_TB) (k : mh_W own cc nL rt ini R n0 mc ms Ex Φ slots sh I L (pc + 3) lv (.long v :: st)) : mh_W own cc nL rt ini R n0 mc ms Ex Φ slots sh I L pc lv st := by
  intro p l e s m args below meth c D ad A cA H locs ls K S
  exact lv_ldc2 K.1 K.2.1 K.hown (K.tb _ hw) hd (k p l e s m args below meth c D ad A cA H locs ls K S)
theorem mw_pop {v : Value} (hd : decode cc pc = .ok (.pop, 1)) (hv : v.category = 1) (k : mh_W own cc nL rt ini R n0 mc ms Ex Φ slots sh I L (pc + 1) lv st) : mh_W own cc nL rt ini R n0 mc ms Ex Φ slots sh I L pc lv (v :: st) := by
  intro p l e s m args below meth c D ad A cA H locs ls K S
  exact lv_pop K.1 K.2.1 hd ((mh_v_cat ad v).trans hv) (k p l e s m args below meth c D ad A cA H locs ls K S)
theorem mw_dup {v : Value} (hd : decode cc pc = .ok (.dup, 1)) (hv : v.category = 1) (k : mh_W own cc nL rt ini R n0 mc ms Ex Φ slots sh I L (pc + 1) lv (v :: v :: st)) : mh_W own cc nL rt ini R n0 mc ms Ex Φ slots sh I L pc lv (v :: st) := by
  intro p l e s m args below meth c D ad A cA H locs ls K S
  exact lv_dup K.1 K.2.1 hd ((mh_v_cat ad v).trans hv) (k p l e s m args below meth c D ad A cA H locs ls K S)
theorem mw_dup_x1 {v w : Value} (hd : decode cc pc = .ok (.dup_x1, 1)) (hv : v.category = 1) (hw : w.category = 1) (k : mh_W own cc nL rt ini R n0 mc ms Ex Φ slots sh I L (pc + 1) lv (v :: w :: v :: st)) : mh_W own cc nL rt ini R n0 mc ms Ex Φ slots sh I L pc lv (v :: w :: st) := by
  intro p l e s m args below meth c D ad A cA H locs ls K S
  exact lv_dup_x1 K.1 K.2.1 hd ((mh_v_cat ad v).trans hv) ((mh_v_cat ad w).trans hw) (k p l e s m args below meth c D ad A cA H locs ls K S)
theorem mw_iload_n {k4 : Fin 4} {x : Int32} (hd : decode cc pc = .ok (.iload_n k4, 1)) (j : Nat) (h : lv[j]? = some ((k4 : Nat), .int x)) (k : mh_W own cc nL rt ini R n0 mc ms Ex Φ slots sh I L (pc + 1) lv (.int x :: st)) : mh_W own cc nL rt ini R n0 mc ms Ex Φ slots sh I L pc lv st := by
  intro p l e s m args below meth c D ad A cA H locs ls K S
  exact lv_iload_n K.1 K.2.1 hd rfl (mh_lv S.hlv j h) (k p l e s m args below meth c D ad A cA H locs ls K S)
theorem mw_iload {i : Nat} {x : Int32} (hd : decode cc pc = .ok (.iload i, 2)) (j : Nat) (h : lv[j]? = some (i, .int x)) (k : mh_W own cc nL rt ini R n0 mc ms Ex Φ slots sh I L (pc + 2) lv (.int x :: st)) : mh_W own cc nL rt ini R n0 mc ms Ex Φ slots sh I L pc lv st := by
  intro p l e s m args below meth c D ad A cA H locs ls K S
  exact lv_iload K.1 K.2.1 hd (mh_lv S.hlv j h) (k p l e s m args below meth c D ad A cA H locs ls K S)
theorem mw_lload_n {k4 : Fin 4} {x : Int64} (hd : decode cc pc = .ok (.lload_n k4, 1)) (j : Nat) (h : lv[j]? = some ((k4 : Nat), .long x)) (k : mh_W own cc nL rt ini R n0 mc ms Ex Φ slots sh I L (pc + 1) lv (.long x :: st)) : mh_W own cc nL rt ini R n0 mc ms Ex Φ slots sh I L pc lv st := by
  intro p l e s m args below meth c D ad A cA H locs ls K S
  exact lv_lload_n K.1 K.2.1 hd rfl (mh_lv S.hlv j h) (k p l e s m args below meth c D ad A cA H locs ls K S)
theorem mw_lload {i : Nat} {x : Int64} (hd : decode cc pc = .ok (.lload i, 2)) (j : Nat) (h : lv[j]? = some (i, .long x)) (k : mh_W own cc nL rt ini R n0 mc ms Ex Φ slots sh I L (pc + 2) lv (.long x :: st)) : mh_W own cc nL rt ini R n0 mc ms Ex Φ slots sh I L pc lv st := by
  intro p l e s m args below meth c D ad A cA H locs ls K S
  exact lv_lload K.1 K.2.1 hd (mh_lv S.hlv j h) (k p l e s m args below meth c D ad A cA H locs ls K S)
theorem mw_aload_n {k4 : Fin 4} {x : Nat} (hd : decode cc pc = .ok (.aload_n k4, 1)) (j : Nat) (h : lv[j]? = some ((k4 : Nat), .ref x)) (k : mh_W own cc nL rt ini R n0 mc ms Ex Φ slots sh I L (pc + 1) lv (.ref x :: st)) : mh_W own cc nL rt ini R n0 mc ms Ex Φ slots sh I L pc lv st := by
  intro p l e s m args below meth c D ad A cA H locs ls K S
  exact lv_aload_n K.1 K.2.1 hd rfl (mh_lv S.hlv j h) (k p l e s m args below meth c D ad A cA H locs ls K S)
theorem mw_aload {i : Nat} {x : Nat} (hd : decode cc pc = .ok (.aload i, 2)) (j : Nat) (h : lv[j]? = some (i, .ref x)) (k : mh_W own cc nL rt ini R n0 mc ms Ex Φ slots sh I L (pc + 2) lv (.ref x :: st)) : mh_W own cc nL rt ini R n0 mc ms Ex Φ slots sh I L pc lv st := by
  intro p l e s m args below meth c D ad A cA H locs ls K S
  exact lv_aload K.1 K.2.1 hd (mh_lv S.hlv j h) (k p l e s m args below meth c D ad A cA H locs ls K S)
theorem mw_istore {i : Nat} {x : Int32} {lv' : List (Nat × Value)} (hd : decode cc pc = .ok (.istore i, 2)) (hn : i < nL) (hl : mh_st i (.int x) lv = lv') (k : mh_W own cc nL rt ini R n0 mc ms Ex Φ slots sh I L (pc + 2) lv' st) : mh_W own cc nL rt ini R n0 mc ms Ex Φ slots sh I L pc lv (.int x :: st) := by
  intro p l e s m args below meth c D ad A cA H locs ls K S
  subst hl
  exact lv_istore K.1 K.2.1 hd S.hlv hn (mh_st_map ad i (.int x) lv) (fun ls' h' => k p l e s m args below meth c D ad A cA H locs ls' K (S.lvs h'))
theorem mw_istore_n {k4 : Fin 4} {x : Int32} {lv' : List (Nat × Value)} (hd : decode cc pc = .ok (.istore_n k4, 1)) (hn : (k4 : Nat) < nL) (hl : mh_st (k4 : Nat) (.int x) lv = lv') (k : mh_W own cc nL rt ini R n0 mc ms Ex Φ slots sh I L (pc + 1) lv' st) : mh_W own cc nL rt ini R n0 mc ms Ex Φ slots sh I L pc lv (.int x :: st) := by
  intro p l e s m args below meth c D ad A cA H locs ls K S
  subst hl
  exact lv_istore_n K.1 K.2.1 hd rfl S.hlv hn (mh_st_map ad (k4 : Nat) (.int x) lv) (fun ls' h' => k p l e s m args below meth c D ad A cA H locs ls' K (S.lvs h'))
theorem mw_lstore {i : Nat} {x : Int64} {lv' : List (Nat × Value)} (hd : decode cc pc = .ok (.lstore i, 2)) (hn : i + 1 < nL) (hl : mh_stl i (.long x) lv = lv') (k : mh_W own cc nL rt ini R n0 mc ms Ex Φ slots sh I L (pc + 2) lv' st) : mh_W own cc nL rt ini R n0 mc ms Ex Φ slots sh I L pc lv (.long x :: st) := by
  intro p l e s m args below meth c D ad A cA H locs ls K S
  subst hl
  exact lv_lstore K.1 K.2.1 hd S.hlv hn (mh_stl_map ad i (.long x) lv) (fun ls' h' => k p l e s m args below meth c D ad A cA H locs ls' K (S.lvs h'))
theorem mw_lstore_n {k4 : Fin 4} {x : Int64} {lv' : List (Nat × Value)} (hd : decode cc pc = .ok (.lstore_n k4, 1)) (hn : (k4 : Nat) + 1 < nL) (hl : mh_stl (k4 : Nat) (.long x) lv = lv') (k : mh_W own cc nL rt ini R n0 mc ms Ex Φ slots sh I L (pc + 1) lv' st) : mh_W own cc nL rt ini R n0 mc ms Ex Φ slots sh I L pc lv (.long x :: st) := by
  intro p l e s m args below meth c D ad A cA H locs ls K S
  subst hl
  exact lv_lstore_n K.1 K.2.1 hd rfl S.hlv hn (mh_stl_map ad (k4 : Nat) (.long x) lv) (fun ls' h' => k p l e s m args below meth c D ad A cA H locs ls' K (S.lvs h'))
theorem mw_astore {i : Nat} {x : Nat} {lv' : List (Nat × Value)} (hd : decode cc pc = .ok (.astore i, 2)) (hn : i < nL) (hl : mh_st i (.ref x) lv = lv') (k : mh_W own cc nL rt ini R n0 mc ms Ex Φ slots sh I L (pc + 2) lv' st) : mh_W own cc nL rt ini R n0 mc ms Ex Φ slots sh I L pc lv (.ref x :: st) := by
  intro p l e s m args below meth c D ad A cA H locs ls K S
  subst hl
  exact lv_astore K.1 K.2.1 hd S.hlv hn (mh_st_map ad i (.ref x) lv) (fun ls' h' => k p l e s m args below meth c D ad A cA H locs ls' K (S.lvs h'))
theorem mw_astore_n {k4 : Fin 4} {x : Nat} {lv' : List (Nat × Value)} (hd : decode cc pc = .ok (.astore_n k4, 1)) (hn : (k4 : Nat) < nL) (hl : mh_st (k4 : Nat) (.ref x) lv = lv') (k : mh_W own cc nL rt ini R n0 mc ms Ex Φ slots sh I L (pc + 1) lv' st) : mh_W own cc nL rt ini R n0 mc ms Ex Φ slots sh I L pc lv (.ref x :: st) := by
  intro p l e s m args below meth c D ad A cA H locs ls K S
  subst hl
  exact lv_astore_n K.1 K.2.1 hd rfl S.hlv hn (mh_st_map ad (k4 : Nat) (.ref x) lv) (fun ls' h' => k p l e s m args below meth c D ad A cA H locs ls' K (S.lvs h'))
theorem mw_iinc {i : Nat} {n : Int} {x v : Int32} {lv' : List (Nat × Value)} (hd : decode cc pc = .ok (.iinc i n, 3)) (j : Nat) (hj : lv[j]? = some (i, .int x)) (hv : x + Int32.ofInt n = v) (hn : i < nL) (hl : mh_st i (.int v) lv = lv') (k : mh_W own cc nL rt ini R n0 mc ms Ex Φ slots sh I L (pc + 3) lv' st) : mh_W own cc nL rt ini R n0 mc ms Ex Φ slots sh I L pc lv st := by
  intro p l e s m args below meth c D ad A cA H locs ls K S
  subst hl
  exact lv_iinc K.1 K.2.1 hd S.hlv (mh_lvm ad j hj) hv hn (mh_st_map ad i (.int v) lv) (fun ls' h' => k p l e s m args below meth c D ad A cA H locs ls' K (S.lvs h'))
theorem mw_loc (ks : List Nat) {lv' : List (Nat × Value)} (hl : lv_pick lv ks = lv') (k : mh_W own cc nL rt ini R n0 mc ms Ex Φ slots sh I L pc lv' st) : mh_W own cc nL rt ini R n0 mc ms Ex Φ slots sh I L pc lv st := by
  intro p l e s m args below meth c D ad A cA H locs ls K S
  subst hl
  exact k p l e s m args below meth c D ad A cA H locs ls K (S.lvs (lv_sub S.hlv ks (mh_pick_map ad lv ks)))
theorem mw_goto {off : Int} {tgt : Nat} (hd : decode cc pc = .ok (.goto off, 3)) (ht : (pc : Int) + off = (tgt : Int)) (k : mh_W own cc nL rt ini R n0 mc ms Ex Φ slots sh I L tgt lv st) : mh_W own cc nL rt ini R n0 mc ms Ex Φ slots sh I L pc lv st := by
  intro p l e s m args below meth c D ad A cA H locs ls K S
  exact lv_goto K.1 K.2.1 hd ht (k p l e s m args below meth c D ad A cA H locs ls K S)
theorem mw_if_eq {x : Int32} {off : Int} {tgt : Nat} (hd : decode cc pc = .ok (.ifCond .eq off, 3)) (ht : (pc : Int) + off = (tgt : Int)) (kt : x = 0 → mh_W own cc nL rt ini R n0 mc ms Ex Φ slots sh I L tgt lv st) (kf : ¬ x = 0 → mh_W own cc nL rt ini R n0 mc ms Ex Φ slots sh I L (pc + 3) lv st) : mh_W own cc nL rt ini R n0 mc ms Ex Φ slots sh I L pc lv (.int x :: st) := by
  intro p l e s m args below meth c D ad A cA H locs ls K S
  exact lv_if_eq K.1 K.2.1 hd ht (fun h => kt h p l e s m args below meth c D ad A cA H locs ls K S) (fun h => kf h p l e s m args below meth c D ad A cA H locs ls K S)
theorem mw_icmp_eq {x y : Int32} {off : Int} {tgt : Nat} (hd : decode cc pc = .ok (.if_icmp .eq off, 3)) (ht : (pc : Int) + off = (tgt : Int)) (kt : x = y → mh_W own cc nL rt ini R n0 mc ms Ex Φ slots sh I L tgt lv st) (kf : ¬ x = y → mh_W own cc nL rt ini R n0 mc ms Ex Φ slots sh I L (pc + 3) lv st) : mh_W own cc nL rt ini R n0 mc ms Ex Φ slots sh I L pc lv (.int y :: .int x :: st) := by
  intro p l e s m args below meth c D ad A cA H locs ls K S
  exact lv_icmp_eq K.1 K.2.1 hd ht (fun h => kt h p l e s m args below meth c D ad A cA H locs ls K S) (fun h => kf h p l e s m args below meth c D ad A cA H locs ls K S)
theorem mw_if_ne {x : Int32} {off : Int} {tgt : Nat} (hd : decode cc pc = .ok (.ifCond .ne off, 3)) (ht : (pc : Int) + off = (tgt : Int)) (kt : ¬ x = 0 → mh_W own cc nL rt ini R n0 mc ms Ex Φ slots sh I L tgt lv st) (kf : x = 0 → mh_W own cc nL rt ini R n0 mc ms Ex Φ slots sh I L (pc + 3) lv st) : mh_W own cc nL rt ini R n0 mc ms Ex Φ slots sh I L pc lv (.int x :: st) := by
  intro p l e s m args below meth c D ad A cA H locs ls K S
  exact lv_if_ne K.1 K.2.1 hd ht (fun h => kt h p l e s m args below meth c D ad A cA H locs ls K S) (fun h => kf h p l e s m args below meth c D ad A cA H locs ls K S)
theorem mw_icmp_ne {x y : Int32} {off : Int} {tgt : Nat} (hd : decode cc pc = .ok (.if_icmp .ne off, 3)) (ht : (pc : Int) + off = (tgt : Int)) (kt : ¬ x = y → mh_W own cc nL rt ini R n0 mc ms Ex Φ slots sh I L tgt lv st) (kf : x = y → mh_W own cc nL rt ini R n0 mc ms Ex Φ slots sh I L (pc + 3) lv st) : mh_W own cc nL rt ini R n0 mc ms Ex Φ slots sh I L pc lv (.int y :: .int x :: st) := by
  intro p l e s m args below meth c D ad A cA H locs ls K S
  exact lv_icmp_ne K.1 K.2.1 hd ht (fun h => kt h p l e s m args below meth c D ad A cA H locs ls K S) (fun h => kf h p l e s m args below meth c D ad A cA H locs ls K S)
theorem mw_if_lt {x : Int32} {off : Int} {tgt : Nat} (hd : decode cc pc = .ok (.ifCond .lt off, 3)) (ht : (pc : Int) + off = (tgt : Int)) (kt : x < 0 → mh_W own cc nL rt ini R n0 mc ms Ex Φ slots sh I L tgt lv st) (kf : ¬ x < 0 → mh_W own cc nL rt ini R n0 mc ms Ex Φ slots sh I L (pc + 3) lv st) : mh_W own cc nL rt ini R n0 mc ms Ex Φ slots sh I L pc lv (.int x :: st) := by
  intro p l e s m args below meth c D ad A cA H locs ls K S
  exact lv_if_lt K.1 K.2.1 hd ht (fun h => kt h p l e s m args below meth c D ad A cA H locs ls K S) (fun h => kf h p l e s m args below meth c D ad A cA H locs ls K S)
theorem mw_icmp_lt {x y : Int32} {off : Int} {tgt : Nat} (hd : decode cc pc = .ok (.if_icmp .lt off, 3)) (ht : (pc : Int) + off = (tgt : Int)) (kt : x < y → mh_W own cc nL rt ini R n0 mc ms Ex Φ slots sh I L tgt lv st) (kf : ¬ x < y → mh_W own cc nL rt ini R n0 mc ms Ex Φ slots sh I L (pc + 3) lv st) : mh_W own cc nL rt ini R n0 mc ms Ex Φ slots sh I L pc lv (.int y :: .int x :: st) := by
  intro p l e s m args below meth c D ad A cA H locs ls K S
  exact lv_icmp_lt K.1 K.2.1 hd ht (fun h => kt h p l e s m args below meth c D ad A cA H locs ls K S) (fun h => kf h p l e s m args below meth c D ad A cA H locs ls K S)
theorem mw_if_ge {x : Int32} {off : Int} {tgt : Nat} (hd : decode cc pc = .ok (.ifCond .ge off, 3)) (ht : (pc : Int) + off = (tgt : Int)) (kt : 0 ≤ x → mh_W own cc nL rt ini R n0 mc ms Ex Φ slots sh I L tgt lv st) (kf : ¬ 0 ≤ x → mh_W own cc nL rt ini R n0 mc ms Ex Φ slots sh I L (pc + 3) lv st) : mh_W own cc nL rt ini R n0 mc ms Ex Φ slots sh I L pc lv (.int x :: st) := by
  intro p l e s m args below meth c D ad A cA H locs ls K S
  exact lv_if_ge K.1 K.2.1 hd ht (fun h => kt h p l e s m args below meth c D ad A cA H locs ls K S) (fun h => kf h p l e s m args below meth c D ad A cA H locs ls K S)
theorem mw_icmp_ge {x y : Int32} {off : Int} {tgt : Nat} (hd : decode cc pc = .ok (.if_icmp .ge off, 3)) (ht : (pc : Int) + off = (tgt : Int)) (kt : y ≤ x → mh_W own cc nL rt ini R n0 mc ms Ex Φ slots sh I L tgt lv st) (kf : ¬ y ≤ x → mh_W own cc nL rt ini R n0 mc ms Ex Φ slots sh I L (pc + 3) lv st) : mh_W own cc nL rt ini R n0 mc ms Ex Φ slots sh I L pc lv (.int y :: .int x :: st) := by
  intro p l e s m args below meth c D ad A cA H locs ls K S
  exact lv_icmp_ge K.1 K.2.1 hd ht (fun h => kt h p l e s m args below meth c D ad A cA H locs ls K S) (fun h => kf h p l e s m args below meth c D ad A cA H locs ls K S)
theorem mw_if_gt {x : Int32} {off : Int} {tgt : Nat} (hd : decode cc pc = .ok (.ifCond .gt off, 3)) (ht : (pc : Int) + off = (tgt : Int)) (kt : 0 < x → mh_W own cc nL rt ini R n0 mc ms Ex Φ slots sh I L tgt lv st) (kf : ¬ 0 < x → mh_W own cc nL rt ini R n0 mc ms Ex Φ slots sh I L (pc + 3) lv st) : mh_W own cc nL rt ini R n0 mc ms Ex Φ slots sh I L pc lv (.int x :: st) := by
  intro p l e s m args below meth c D ad A cA H locs ls K S
  exact lv_if_gt K.1 K.2.1 hd ht (fun h => kt h p l e s m args below meth c D ad A cA H locs ls K S) (fun h => kf h p l e s m args below meth c D ad A cA H locs ls K S)
theorem mw_icmp_gt {x y : Int32} {off : Int} {tgt : Nat} (hd : decode cc pc = .ok (.if_icmp .gt off, 3)) (ht : (pc : Int) + off = (tgt : Int)) (kt : y < x → mh_W own cc nL rt ini R n0 mc ms Ex Φ slots sh I L tgt lv st) (kf : ¬ y < x → mh_W own cc nL rt ini R n0 mc ms Ex Φ slots sh I L (pc + 3) lv st) : mh_W own cc nL rt ini R n0 mc ms Ex Φ slots sh I L pc lv (.int y :: .int x :: st) := by
  intro p l e s m args below meth c D ad A cA H locs ls K S
  exact lv_icmp_gt K.1 K.2.1 hd ht (fun h => kt h p l e s m args below meth c D ad A cA H locs ls K S) (fun h => kf h p l e s m args below meth c D ad A cA H locs ls K S)
theorem mw_if_le {x : Int32} {off : Int} {tgt : Nat} (hd : decode cc pc = .ok (.ifCond .le off, 3)) (ht : (pc : Int) + off = (tgt : Int)) (kt : x ≤ 0 → mh_W own cc nL rt ini R n0 mc ms Ex Φ slots sh I L tgt lv st) (kf : ¬ x ≤ 0 → mh_W own cc nL rt ini R n0 mc ms Ex Φ slots sh I L (pc + 3) lv st) : mh_W own cc nL rt ini R n0 mc ms Ex Φ slots sh I L pc lv (.int x :: st) := by
  intro p l e s m args below meth c D ad A cA H locs ls K S
  exact lv_if_le K.1 K.2.1 hd ht (fun h => kt h p l e s m args below meth c D ad A cA H locs ls K S) (fun h => kf h p l e s m args below meth c D ad A cA H locs ls K S)
theorem mw_icmp_le {x y : Int32} {off : Int} {tgt : Nat} (hd : decode cc pc = .ok (.if_icmp .le off, 3)) (ht : (pc : Int) + off = (tgt : Int)) (kt : x ≤ y → mh_W own cc nL rt ini R n0 mc ms Ex Φ slots sh I L tgt lv st) (kf : ¬ x ≤ y → mh_W own cc nL rt ini R n0 mc ms Ex Φ slots sh I L (pc + 3) lv st) : mh_W own cc nL rt ini R n0 mc ms Ex Φ slots sh I L pc lv (.int y :: .int x :: st) := by
  intro p l e s m args below meth c D ad A cA H locs ls K S
  exact lv_icmp_le K.1 K.2.1 hd ht (fun h => kt h p l e s m args below meth c D ad A cA H locs ls K S) (fun h => kf h p l e s m args below meth c D ad A cA H locs ls K S)
theorem mw_tableIn {dflt lo hi : Int} {offs : Array Int} {len : Nat} {x : Int32} {off : Int} {tgt : Nat} (hd : decode cc pc = .ok (.tableswitch dflt lo hi offs, len)) (h1 : ¬ x.toInt < lo) (h2 : ¬ hi < x.toInt) (ho : offs[(x.toInt - lo).toNat]? = some off) (ht : (pc : Int) + off = (tgt : Int)) (k : mh_W own cc nL rt ini R n0 mc ms Ex Φ slots sh I L tgt lv st) : mh_W own cc nL rt ini R n0 mc ms Ex Φ slots sh I L pc lv (.int x :: st) := by
  intro p l e s m args below meth c D ad A cA H locs ls K S
  exact lv_tableIn K.1 K.2.1 hd h1 h2 ho ht (k p l e s m args below meth c D ad A cA H locs ls K S)
theorem mw_tableOut {dflt lo hi : Int} {offs : Array Int} {len : Nat} {x : Int32} {tgt : Nat} (hd : decode cc pc = .ok (.tableswitch dflt lo hi offs, len)) (h : x.toInt < lo ∨ hi < x.toInt) (ht : (pc : Int) + dflt = (tgt : Int)) (k : mh_W own cc nL rt ini R n0 mc ms Ex Φ slots sh I L tgt lv st) : mh_W own cc nL rt ini R n0 mc ms Ex Φ slots sh I L pc lv (.int x :: st) := by
  intro p l e s m args below meth c D ad A cA H locs ls K S
  exact lv_tableOut K.1 K.2.1 hd h ht (k p l e s m args below meth c D ad A cA H locs ls K S)
theorem mw_lookup {dflt : Int} {ps : Array (Int × Int)} {len : Nat} {x : Int32} {off : Int} {tgt : Nat} (hd : decode cc pc = .ok (.lookupswitch dflt ps, len)) (hp : (ps.toList.zip (ps.toList.drop 1)).all (fun (a, next) => a.1 < next.1) = true) (ho : Op.lookupswitch.offset ps.toList dflt x.toInt = off) (ht : (pc : Int) + off = (tgt : Int)) (k : mh_W own cc nL rt ini R n0 mc ms Ex Φ slots sh I L tgt lv st) : mh_W own cc nL rt ini R n0 mc ms Ex Φ slots sh I L pc lv (.int x :: st) := by
  intro p l e s m args below meth c D ad A cA H locs ls K S
  exact lv_lookup K.1 K.2.1 hd hp ho ht (k p l e s m args below meth c D ad A cA H locs ls K S)
end MW
