section RUL
variable {l : Launch} {E : EE} {M : MRec} {d mc ms : Nat} {post : Outc → HP → Prop} {pc : Nat} {lv : LVs} {st : List Value} {h : HP} {cu su : Nat}

theorem x_iadd {x y : Int32} (hf : decode M.2.1 pc = .ok (.iadd, 1)) (k : XX l E M d mc ms post (pc + 1) lv (.int (x + y) :: st) h cu su) : XX l E M d mc ms post pc lv (.int y :: .int x :: st) h cu su := by
  intro p e s m args below meth c H locs ls K hR hS hL
  exact lv_iadd K.1 K.2.1 hf (k p e s m args below meth c H locs ls K hR hS hL)

theorem x_isub {x y : Int32} (hf : decode M.2.1 pc = .ok (.isub, 1)) (k : XX l E M d mc ms post (pc + 1) lv (.int (x - y) :: st) h cu su) : XX l E M d mc ms post pc lv (.int y :: .int x :: st) h cu su := by
  intro p e s m args below meth c H locs ls K hR hS hL
  exact lv_isub K.1 K.2.1 hf (k p e s m args below meth c H locs ls K hR hS hL)

theorem x_imul {x y : Int32} (hf : decode M.2.1 pc = .ok (.imul, 1)) (k : XX l E M d mc ms post (pc + 1) lv (.int (x * y) :: st) h cu su) : XX l E M d mc ms post pc lv (.int y :: .int x :: st) h cu su := by
  intro p e s m args below meth c H locs ls K hR hS hL
  exact lv_imul K.1 K.2.1 hf (k p e s m args below meth c H locs ls K hR hS hL)

theorem x_iand {x y : Int32} (hf : decode M.2.1 pc = .ok (.iand, 1)) (k : XX l E M d mc ms post (pc + 1) lv (.int (x &&& y) :: st) h cu su) : XX l E M d mc ms post pc lv (.int y :: .int x :: st) h cu su := by
  intro p e s m args below meth c H locs ls K hR hS hL
  exact lv_iand K.1 K.2.1 hf (k p e s m args below meth c H locs ls K hR hS hL)

theorem x_ior {x y : Int32} (hf : decode M.2.1 pc = .ok (.ior, 1)) (k : XX l E M d mc ms post (pc + 1) lv (.int (x ||| y) :: st) h cu su) : XX l E M d mc ms post pc lv (.int y :: .int x :: st) h cu su := by
  intro p e s m args below meth c H locs ls K hR hS hL
  exact lv_ior K.1 K.2.1 hf (k p e s m args below meth c H locs ls K hR hS hL)

theorem x_ixor {x y : Int32} (hf : decode M.2.1 pc = .ok (.ixor, 1)) (k : XX l E M d mc ms post (pc + 1) lv (.int (x ^^^ y) :: st) h cu su) : XX l E M d mc ms post pc lv (.int y :: .int x :: st) h cu su := by
  intro p e s m args below meth c H locs ls K hR hS hL
  exact lv_ixor K.1 K.2.1 hf (k p e s m args below meth c H locs ls K hR hS hL)

theorem x_ishl {x y : Int32} (hf : decode M.2.1 pc = .ok (.ishl, 1)) (k : XX l E M d mc ms post (pc + 1) lv (.int (x <<< (y &&& 31)) :: st) h cu su) : XX l E M d mc ms post pc lv (.int y :: .int x :: st) h cu su := by
  intro p e s m args below meth c H locs ls K hR hS hL
  exact lv_ishl K.1 K.2.1 hf (k p e s m args below meth c H locs ls K hR hS hL)

theorem x_ishr {x y : Int32} (hf : decode M.2.1 pc = .ok (.ishr, 1)) (k : XX l E M d mc ms post (pc + 1) lv (.int (x >>> (y &&& 31)) :: st) h cu su) : XX l E M d mc ms post pc lv (.int y :: .int x :: st) h cu su := by
  intro p e s m args below meth c H locs ls K hR hS hL
  exact lv_ishr K.1 K.2.1 hf (k p e s m args below meth c H locs ls K hR hS hL)

theorem x_idiv {x y : Int32} (hf : decode M.2.1 pc = .ok (.idiv, 1)) (h0 : ¬ y = 0) (k : XX l E M d mc ms post (pc + 1) lv (.int (x / y) :: st) h cu su) : XX l E M d mc ms post pc lv (.int y :: .int x :: st) h cu su := by
  intro p e s m args below meth c H locs ls K hR hS hL
  exact lv_idiv K.1 K.2.1 hf h0 (k p e s m args below meth c H locs ls K hR hS hL)

theorem x_irem {x y : Int32} (hf : decode M.2.1 pc = .ok (.irem, 1)) (h0 : ¬ y = 0) (k : XX l E M d mc ms post (pc + 1) lv (.int (x - x / y * y) :: st) h cu su) : XX l E M d mc ms post pc lv (.int y :: .int x :: st) h cu su := by
  intro p e s m args below meth c H locs ls K hR hS hL
  exact lv_irem K.1 K.2.1 hf h0 (k p e s m args below meth c H locs ls K hR hS hL)

theorem x_ineg {x : Int32} (hf : decode M.2.1 pc = .ok (.ineg, 1)) (k : XX l E M d mc ms post (pc + 1) lv (.int (-x) :: st) h cu su) : XX l E M d mc ms post pc lv (.int x :: st) h cu su := by
  intro p e s m args below meth c H locs ls K hR hS hL
  exact lv_ineg K.1 K.2.1 hf (k p e s m args below meth c H locs ls K hR hS hL)

theorem x_iushr {x y : Int32} (hf : decode M.2.1 pc = .ok (.iushr, 1)) (k : XX l E M d mc ms post (pc + 1) lv (.int (x.toUInt32 >>> (y.toUInt32 &&& Int32.toUInt32 31)).toInt32 :: st) h cu su) : XX l E M d mc ms post pc lv (.int y :: .int x :: st) h cu su := by
  intro p e s m args below meth c H locs ls K hR hS hL
  exact lv_iushr K.1 K.2.1 hf rfl (k p e s m args below meth c H locs ls K hR hS hL)

theorem x_ladd {x y : Int64} (hf : decode M.2.1 pc = .ok (.ladd, 1)) (k : XX l E M d mc ms post (pc + 1) lv (.long (x + y) :: st) h cu su) : XX l E M d mc ms post pc lv (.long y :: .long x :: st) h cu su := by
  intro p e s m args below meth c H locs ls K hR hS hL
  exact lv_ladd K.1 K.2.1 hf (k p e s m args below meth c H locs ls K hR hS hL)

theorem x_lsub {x y : Int64} (hf : decode M.2.1 pc = .ok (.lsub, 1)) (k : XX l E M d mc ms post (pc + 1) lv (.long (x - y) :: st) h cu su) : XX l E M d mc ms post pc lv (.long y :: .long x :: st) h cu su := by
  intro p e s m args below meth c H locs ls K hR hS hL
  exact lv_lsub K.1 K.2.1 hf (k p e s m args below meth c H locs ls K hR hS hL)

theorem x_lmul {x y : Int64} (hf : decode M.2.1 pc = .ok (.lmul, 1)) (k : XX l E M d mc ms post (pc + 1) lv (.long (x * y) :: st) h cu su) : XX l E M d mc ms post pc lv (.long y :: .long x :: st) h cu su := by
  intro p e s m args below meth c H locs ls K hR hS hL
  exact lv_lmul K.1 K.2.1 hf (k p e s m args below meth c H locs ls K hR hS hL)

theorem x_land {x y : Int64} (hf : decode M.2.1 pc = .ok (.land, 1)) (k : XX l E M d mc ms post (pc + 1) lv (.long (x &&& y) :: st) h cu su) : XX l E M d mc ms post pc lv (.long y :: .long x :: st) h cu su := by
  intro p e s m args below meth c H locs ls K hR hS hL
  exact lv_land K.1 K.2.1 hf (k p e s m args below meth c H locs ls K hR hS hL)

theorem x_lor {x y : Int64} (hf : decode M.2.1 pc = .ok (.lor, 1)) (k : XX l E M d mc ms post (pc + 1) lv (.long (x ||| y) :: st) h cu su) : XX l E M d mc ms post pc lv (.long y :: .long x :: st) h cu su := by
  intro p e s m args below meth c H locs ls K hR hS hL
  exact lv_lor K.1 K.2.1 hf (k p e s m args below meth c H locs ls K hR hS hL)

theorem x_lxor {x y : Int64} (hf : decode M.2.1 pc = .ok (.lxor, 1)) (k : XX l E M d mc ms post (pc + 1) lv (.long (x ^^^ y) :: st) h cu su) : XX l E M d mc ms post pc lv (.long y :: .long x :: st) h cu su := by
  intro p e s m args below meth c H locs ls K hR hS hL
  exact lv_lxor K.1 K.2.1 hf (k p e s m args below meth c H locs ls K hR hS hL)

theorem x_ldiv {x y : Int64} (hf : decode M.2.1 pc = .ok (.ldiv, 1)) (h0 : ¬ y = 0) (k : XX l E M d mc ms post (pc + 1) lv (.long (x / y) :: st) h cu su) : XX l E M d mc ms post pc lv (.long y :: .long x :: st) h cu su := by
  intro p e s m args below meth c H locs ls K hR hS hL
  exact lv_ldiv K.1 K.2.1 hf h0 (k p e s m args below meth c H locs ls K hR hS hL)

theorem x_lrem {x y : Int64} (hf : decode M.2.1 pc = .ok (.lrem, 1)) (h0 : ¬ y = 0) (k : XX l E M d mc ms post (pc + 1) lv (.long (x - x / y * y) :: st) h cu su) : XX l E M d mc ms post pc lv (.long y :: .long x :: st) h cu su := by
  intro p e s m args below meth c H locs ls K hR hS hL
  exact lv_lrem K.1 K.2.1 hf h0 (k p e s m args below meth c H locs ls K hR hS hL)

theorem x_lneg {x : Int64} (hf : decode M.2.1 pc = .ok (.lneg, 1)) (k : XX l E M d mc ms post (pc + 1) lv (.long (-x) :: st) h cu su) : XX l E M d mc ms post pc lv (.long x :: st) h cu su := by
  intro p e s m args below meth c H locs ls K hR hS hL
  exact lv_lneg K.1 K.2.1 hf (k p e s m args below meth c H locs ls K hR hS hL)

theorem x_lshl {x : Int64} {y : Int32} (hf : decode M.2.1 pc = .ok (.lshl, 1)) (k : XX l E M d mc ms post (pc + 1) lv (.long (x <<< (y.toInt64 &&& 63)) :: st) h cu su) : XX l E M d mc ms post pc lv (.int y :: .long x :: st) h cu su := by
  intro p e s m args below meth c H locs ls K hR hS hL
  exact lv_lshl K.1 K.2.1 hf rfl (k p e s m args below meth c H locs ls K hR hS hL)

theorem x_lshr {x : Int64} {y : Int32} (hf : decode M.2.1 pc = .ok (.lshr, 1)) (k : XX l E M d mc ms post (pc + 1) lv (.long (x >>> (y.toInt64 &&& 63)) :: st) h cu su) : XX l E M d mc ms post pc lv (.int y :: .long x :: st) h cu su := by
  intro p e s m args below meth c H locs ls K hR hS hL
  exact lv_lshr K.1 K.2.1 hf rfl (k p e s m args below meth c H locs ls K hR hS hL)

theorem x_lushr {x : Int64} {y : Int32} (hf : decode M.2.1 pc = .ok (.lushr, 1)) (k : XX l E M d mc ms post (pc + 1) lv (.long (x.toUInt64 >>> (y.toInt64.toUInt64 &&& Int64.toUInt64 63)).toInt64 :: st) h cu su) : XX l E M d mc ms post pc lv (.int y :: .long x :: st) h cu su := by
  intro p e s m args below meth c H locs ls K hR hS hL
  exact lv_lushr K.1 K.2.1 hf rfl (k p e s m args below meth c H locs ls K hR hS hL)

theorem x_lcmp {x y : Int64} (hf : decode M.2.1 pc = .ok (.lcmp, 1)) (k : XX l E M d mc ms post (pc + 1) lv (.int (lg_cmp x y) :: st) h cu su) : XX l E M d mc ms post pc lv (.long y :: .long x :: st) h cu su := by
  intro p e s m args below meth c H locs ls K hR hS hL
  exact W.lcmp K.1 K.2.1 hf (k p e s m args below meth c H locs ls K hR hS hL)

theorem x_i2l {x : Int32} (hf : decode M.2.1 pc = .ok (.i2l, 1)) (k : XX l E M d mc ms post (pc + 1) lv (.long x.toInt64 :: st) h cu su) : XX l E M d mc ms post pc lv (.int x :: st) h cu su := by
  intro p e s m args below meth c H locs ls K hR hS hL
  exact lv_i2l K.1 K.2.1 hf rfl (k p e s m args below meth c H locs ls K hR hS hL)

theorem x_l2i {x : Int64} (hf : decode M.2.1 pc = .ok (.l2i, 1)) (k : XX l E M d mc ms post (pc + 1) lv (.int x.toInt32 :: st) h cu su) : XX l E M d mc ms post pc lv (.long x :: st) h cu su := by
  intro p e s m args below meth c H locs ls K hR hS hL
  exact lv_l2i K.1 K.2.1 hf rfl (k p e s m args below meth c H locs ls K hR hS hL)

theorem x_i2b {x : Int32} (hf : decode M.2.1 pc = .ok (.i2b, 1)) (k : XX l E M d mc ms post (pc + 1) lv (.int x.toInt8.toInt32 :: st) h cu su) : XX l E M d mc ms post pc lv (.int x :: st) h cu su := by
  intro p e s m args below meth c H locs ls K hR hS hL
  exact lv_i2b K.1 K.2.1 hf rfl (k p e s m args below meth c H locs ls K hR hS hL)

theorem x_iconst {n : Int} (hf : decode M.2.1 pc = .ok (.iconst n, 1)) (k : XX l E M d mc ms post (pc + 1) lv (.int (Int32.ofInt n) :: st) h cu su) : XX l E M d mc ms post pc lv (st) h cu su := by
  intro p e s m args below meth c H locs ls K hR hS hL
  exact lv_iconst K.1 K.2.1 hf rfl (k p e s m args below meth c H locs ls K hR hS hL)

theorem x_lconst {n : Fin 2} (hf : decode M.2.1 pc = .ok (.lconst n, 1)) (k : XX l E M d mc ms post (pc + 1) lv (.long (Int64.ofNat (n : Nat)) :: st) h cu su) : XX l E M d mc ms post pc lv (st) h cu su := by
  intro p e s m args below meth c H locs ls K hR hS hL
  exact lv_lconst K.1 K.2.1 hf rfl (k p e s m args below meth c H locs ls K hR hS hL)

theorem x_bipush {n : Int} (hf : decode M.2.1 pc = .ok (.bipush n, 2)) (k : XX l E M d mc ms post (pc + 2) lv (.int (Int8.ofInt n).toInt32 :: st) h cu su) : XX l E M d mc ms post pc lv (st) h cu su := by
  intro p e s m args below meth c H locs ls K hR hS hL
  exact lv_bipush K.1 K.2.1 hf rfl (k p e s m args below meth c H locs ls K hR hS hL)

theorem x_sipush {n : Int} (hf : decode M.2.1 pc = .ok (.sipush n, 3)) (k : XX l E M d mc ms post (pc + 3) lv (.int (Int16.ofInt n).toInt32 :: st) h cu su) : XX l E M d mc ms post pc lv (st) h cu su := by
  intro p e s m args below meth c H locs ls K hR hS hL
  exact lv_sipush K.1 K.2.1 hf rfl (k p e s m args below meth c H locs ls K hR hS hL)

theorem x_pop {v : Value} (hf : decode M.2.1 pc = .ok (.pop, 1)) (h1 : v.category = 1) (k : XX l E M d mc ms post (pc + 1) lv (st) h cu su) : XX l E M d mc ms post pc lv (v :: st) h cu su := by
  intro p e s m args below meth c H locs ls K hR hS hL
  exact lv_pop K.1 K.2.1 hf ((en_cat E v).trans h1) (k p e s m args below meth c H locs ls K hR hS hL)

theorem x_dup {v : Value} (hf : decode M.2.1 pc = .ok (.dup, 1)) (h1 : v.category = 1) (k : XX l E M d mc ms post (pc + 1) lv (v :: v :: st) h cu su) : XX l E M d mc ms post pc lv (v :: st) h cu su := by
  intro p e s m args below meth c H locs ls K hR hS hL
  exact lv_dup K.1 K.2.1 hf ((en_cat E v).trans h1) (k p e s m args below meth c H locs ls K hR hS hL)

theorem x_dup2 {v w : Value} (hf : decode M.2.1 pc = .ok (.dup2, 1)) (h1 : v.category = 1) (h2 : w.category = 1) (k : XX l E M d mc ms post (pc + 1) lv (v :: w :: v :: w :: st) h cu su) : XX l E M d mc ms post pc lv (v :: w :: st) h cu su := by
  intro p e s m args below meth c H locs ls K hR hS hL
  exact lv_dup2_11 K.1 K.2.1 hf ((en_cat E v).trans h1) ((en_cat E w).trans h2) (k p e s m args below meth c H locs ls K hR hS hL)

theorem x_dup2l {v : Value} (hf : decode M.2.1 pc = .ok (.dup2, 1)) (h1 : v.category = 2) (k : XX l E M d mc ms post (pc + 1) lv (v :: v :: st) h cu su) : XX l E M d mc ms post pc lv (v :: st) h cu su := by
  intro p e s m args below meth c H locs ls K hR hS hL
  exact lv_dup2_2 K.1 K.2.1 hf ((en_cat E v).trans h1) (k p e s m args below meth c H locs ls K hR hS hL)

theorem x_iload_n {k0 : Fin 4} {x : Int32} (hf : decode M.2.1 pc = .ok (.iload_n k0, 1)) (hv : lv[(k0 : Nat)]? = some (some (.int x))) (k : XX l E M d mc ms post (pc + 1) lv (.int x :: st) h cu su) : XX l E M d mc ms post pc lv st h cu su := by
  intro p e s m args below meth c H locs ls K hR hS hL
  exact lv_iload_n K.1 K.2.1 hf rfl (hL.2.2 _ _ hv) (k p e s m args below meth c H locs ls K hR hS hL)

theorem x_iload {i : Nat} {x : Int32} (hf : decode M.2.1 pc = .ok (.iload i, 2)) (hv : lv[i]? = some (some (.int x))) (k : XX l E M d mc ms post (pc + 2) lv (.int x :: st) h cu su) : XX l E M d mc ms post pc lv st h cu su := by
  intro p e s m args below meth c H locs ls K hR hS hL
  exact lv_iload K.1 K.2.1 hf (hL.2.2 _ _ hv) (k p e s m args below meth c H locs ls K hR hS hL)

theorem x_lload_n {k0 : Fin 4} {x : Int64} (hf : decode M.2.1 pc = .ok (.lload_n k0, 1)) (hv : lv[(k0 : Nat)]? = some (some (.long x))) (k : XX l E M d mc ms post (pc + 1) lv (.long x :: st) h cu su) : XX l E M d mc ms post pc lv st h cu su := by
  intro p e s m args below meth c H locs ls K hR hS hL
  exact lv_lload_n K.1 K.2.1 hf rfl (hL.2.2 _ _ hv) (k p e s m args below meth c H locs ls K hR hS hL)

theorem x_lload {i : Nat} {x : Int64} (hf : decode M.2.1 pc = .ok (.lload i, 2)) (hv : lv[i]? = some (some (.long x))) (k : XX l E M d mc ms post (pc + 2) lv (.long x :: st) h cu su) : XX l E M d mc ms post pc lv st h cu su := by
  intro p e s m args below meth c H locs ls K hR hS hL
  exact lv_lload K.1 K.2.1 hf (hL.2.2 _ _ hv) (k p e s m args below meth c H locs ls K hR hS hL)

theorem x_aload_n {k0 : Fin 4} {x : Nat} (hf : decode M.2.1 pc = .ok (.aload_n k0, 1)) (hv : lv[(k0 : Nat)]? = some (some (.ref x))) (k : XX l E M d mc ms post (pc + 1) lv (.ref x :: st) h cu su) : XX l E M d mc ms post pc lv st h cu su := by
  intro p e s m args below meth c H locs ls K hR hS hL
  exact lv_aload_n K.1 K.2.1 hf rfl (hL.2.2 _ _ hv) (k p e s m args below meth c H locs ls K hR hS hL)

theorem x_aload {i : Nat} {x : Nat} (hf : decode M.2.1 pc = .ok (.aload i, 2)) (hv : lv[i]? = some (some (.ref x))) (k : XX l E M d mc ms post (pc + 2) lv (.ref x :: st) h cu su) : XX l E M d mc ms post pc lv st h cu su := by
  intro p e s m args below meth c H locs ls K hR hS hL
  exact lv_aload K.1 K.2.1 hf (hL.2.2 _ _ hv) (k p e s m args below meth c H locs ls K hR hS hL)

theorem x_istore_n {k0 : Fin 4} {x : Int32} (hf : decode M.2.1 pc = .ok (.istore_n k0, 1)) (hn : (k0 : Nat) < M.2.2.1) (hc : en_fr lv (k0 : Nat) = true) (k : XX l E M d mc ms post (pc + 1) (lv.set (k0 : Nat) (some (.int x))) st h cu su) : XX l E M d mc ms post pc lv (.int x :: st) h cu su := by
  intro p e s m args below meth c H locs ls K hR hS hL
  exact lv_istore_n K.1 K.2.1 hf rfl (en_has hL) hn rfl (fun ls' h9 => k p e s m args below meth c H locs ls' K hR hS (en_L1 hL hc h9))

theorem x_istore {i : Nat} {x : Int32} (hf : decode M.2.1 pc = .ok (.istore i, 2)) (hn : i < M.2.2.1) (hc : en_fr lv i = true) (k : XX l E M d mc ms post (pc + 2) (lv.set i (some (.int x))) st h cu su) : XX l E M d mc ms post pc lv (.int x :: st) h cu su := by
  intro p e s m args below meth c H locs ls K hR hS hL
  exact lv_istore K.1 K.2.1 hf (en_has hL) hn rfl (fun ls' h9 => k p e s m args below meth c H locs ls' K hR hS (en_L1 hL hc h9))

theorem x_astore_n {k0 : Fin 4} {x : Nat} (hf : decode M.2.1 pc = .ok (.astore_n k0, 1)) (hn : (k0 : Nat) < M.2.2.1) (hc : en_fr lv (k0 : Nat) = true) (k : XX l E M d mc ms post (pc + 1) (lv.set (k0 : Nat) (some (.ref x))) st h cu su) : XX l E M d mc ms post pc lv (.ref x :: st) h cu su := by
  intro p e s m args below meth c H locs ls K hR hS hL
  exact lv_astore_n K.1 K.2.1 hf rfl (en_has hL) hn rfl (fun ls' h9 => k p e s m args below meth c H locs ls' K hR hS (en_L1 hL hc h9))

theorem x_astore {i : Nat} {x : Nat} (hf : decode M.2.1 pc = .ok (.astore i, 2)) (hn : i < M.2.2.1) (hc : en_fr lv i = true) (k : XX l E M d mc ms post (pc + 2) (lv.set i (some (.ref x))) st h cu su) : XX l E M d mc ms post pc lv (.ref x :: st) h cu su := by
  intro p e s m args below meth c H locs ls K hR hS hL
  exact lv_astore K.1 K.2.1 hf (en_has hL) hn rfl (fun ls' h9 => k p e s m args below meth c H locs ls' K hR hS (en_L1 hL hc h9))

theorem x_lstore_n {k0 : Fin 4} {x : Int64} (hf : decode M.2.1 pc = .ok (.lstore_n k0, 1)) (hn : (k0 : Nat) + 1 < M.2.2.1) (hc : en_fr lv (k0 : Nat) = true) (k : XX l E M d mc ms post (pc + 1) ((lv.set (k0 : Nat) (some (.long x))).set ((k0 : Nat) + 1) none) st h cu su) : XX l E M d mc ms post pc lv (.long x :: st) h cu su := by
  intro p e s m args below meth c H locs ls K hR hS hL
  exact lv_lstore_n K.1 K.2.1 hf rfl (en_has hL) hn rfl (fun ls' h9 => k p e s m args below meth c H locs ls' K hR hS (en_L2 hL hc h9))

theorem x_lstore {i : Nat} {x : Int64} (hf : decode M.2.1 pc = .ok (.lstore i, 2)) (hn : i + 1 < M.2.2.1) (hc : en_fr lv i = true) (k : XX l E M d mc ms post (pc + 2) ((lv.set i (some (.long x))).set (i + 1) none) st h cu su) : XX l E M d mc ms post pc lv (.long x :: st) h cu su := by
  intro p e s m args below meth c H locs ls K hR hS hL
  exact lv_lstore K.1 K.2.1 hf (en_has hL) hn rfl (fun ls' h9 => k p e s m args below meth c H locs ls' K hR hS (en_L2 hL hc h9))

theorem x_iinc {i : Nat} {n : Int} {x : Int32} (hf : decode M.2.1 pc = .ok (.iinc i n, 3)) (hv : lv[i]? = some (some (.int x))) (hn : i < M.2.2.1) (hc : en_fr lv i = true) (k : XX l E M d mc ms post (pc + 3) (lv.set i (some (.int (x + Int32.ofInt n)))) st h cu su) : XX l E M d mc ms post pc lv st h cu su := by
  intro p e s m args below meth c H locs ls K hR hS hL
  obtain ⟨q, hq⟩ := en_at hL hv
  exact lv_iinc (k := q) K.1 K.2.1 hf (en_has hL) hq rfl hn rfl (fun ls' h9 => k p e s m args below meth c H locs ls' K hR hS (en_L1 hL hc h9))

theorem x_if_eq {x : Int32} {off : Int} {tgt : Nat} (hf : decode M.2.1 pc = .ok (.ifCond .eq off, 3)) (ht : (pc : Int) + off = (tgt : Int)) (kt : x = 0 → XX l E M d mc ms post tgt lv st h cu su) (kf : ¬ x = 0 → XX l E M d mc ms post (pc + 3) lv st h cu su) : XX l E M d mc ms post pc lv (.int x :: st) h cu su := by
  intro p e s m args below meth c H locs ls K hR hS hL
  exact lv_if_eq K.1 K.2.1 hf ht (fun q => kt q p e s m args below meth c H locs ls K hR hS hL) (fun q => kf q p e s m args below meth c H locs ls K hR hS hL)

theorem x_icmp_eq {x y : Int32} {off : Int} {tgt : Nat} (hf : decode M.2.1 pc = .ok (.if_icmp .eq off, 3)) (ht : (pc : Int) + off = (tgt : Int)) (kt : x = y → XX l E M d mc ms post tgt lv st h cu su) (kf : ¬ x = y → XX l E M d mc ms post (pc + 3) lv st h cu su) : XX l E M d mc ms post pc lv (.int y :: .int x :: st) h cu su := by
  intro p e s m args below meth c H locs ls K hR hS hL
  exact lv_icmp_eq K.1 K.2.1 hf ht (fun q => kt q p e s m args below meth c H locs ls K hR hS hL) (fun q => kf q p e s m args below meth c H locs ls K hR hS hL)

theorem x_if_ne {x : Int32} {off : Int} {tgt : Nat} (hf : decode M.2.1 pc = .ok (.ifCond .ne off, 3)) (ht : (pc : Int) + off = (tgt : Int)) (kt : ¬ x = 0 → XX l E M d mc ms post tgt lv st h cu su) (kf : x = 0 → XX l E M d mc ms post (pc + 3) lv st h cu su) : XX l E M d mc ms post pc lv (.int x :: st) h cu su := by
  intro p e s m args below meth c H locs ls K hR hS hL
  exact lv_if_ne K.1 K.2.1 hf ht (fun q => kt q p e s m args below meth c H locs ls K hR hS hL) (fun q => kf q p e s m args below meth c H locs ls K hR hS hL)

theorem x_icmp_ne {x y : Int32} {off : Int} {tgt : Nat} (hf : decode M.2.1 pc = .ok (.if_icmp .ne off, 3)) (ht : (pc : Int) + off = (tgt : Int)) (kt : ¬ x = y → XX l E M d mc ms post tgt lv st h cu su) (kf : x = y → XX l E M d mc ms post (pc + 3) lv st h cu su) : XX l E M d mc ms post pc lv (.int y :: .int x :: st) h cu su := by
  intro p e s m args below meth c H locs ls K hR hS hL
  exact lv_icmp_ne K.1 K.2.1 hf ht (fun q => kt q p e s m args below meth c H locs ls K hR hS hL) (fun q => kf q p e s m args below meth c H locs ls K hR hS hL)

theorem x_if_lt {x : Int32} {off : Int} {tgt : Nat} (hf : decode M.2.1 pc = .ok (.ifCond .lt off, 3)) (ht : (pc : Int) + off = (tgt : Int)) (kt : x < 0 → XX l E M d mc ms post tgt lv st h cu su) (kf : ¬ x < 0 → XX l E M d mc ms post (pc + 3) lv st h cu su) : XX l E M d mc ms post pc lv (.int x :: st) h cu su := by
  intro p e s m args below meth c H locs ls K hR hS hL
  exact lv_if_lt K.1 K.2.1 hf ht (fun q => kt q p e s m args below meth c H locs ls K hR hS hL) (fun q => kf q p e s m args below meth c H locs ls K hR hS hL)

theorem x_icmp_lt {x y : Int32} {off : Int} {tgt : Nat} (hf : decode M.2.1 pc = .ok (.if_icmp .lt off, 3)) (ht : (pc : Int) + off = (tgt : Int)) (kt : x < y → XX l E M d mc ms post tgt lv st h cu su) (kf : ¬ x < y → XX l E M d mc ms post (pc + 3) lv st h cu su) : XX l E M d mc ms post pc lv (.int y :: .int x :: st) h cu su := by
  intro p e s m args below meth c H locs ls K hR hS hL
  exact lv_icmp_lt K.1 K.2.1 hf ht (fun q => kt q p e s m args below meth c H locs ls K hR hS hL) (fun q => kf q p e s m args below meth c H locs ls K hR hS hL)

theorem x_if_ge {x : Int32} {off : Int} {tgt : Nat} (hf : decode M.2.1 pc = .ok (.ifCond .ge off, 3)) (ht : (pc : Int) + off = (tgt : Int)) (kt : 0 ≤ x → XX l E M d mc ms post tgt lv st h cu su) (kf : ¬ 0 ≤ x → XX l E M d mc ms post (pc + 3) lv st h cu su) : XX l E M d mc ms post pc lv (.int x :: st) h cu su := by
  intro p e s m args below meth c H locs ls K hR hS hL
  exact lv_if_ge K.1 K.2.1 hf ht (fun q => kt q p e s m args below meth c H locs ls K hR hS hL) (fun q => kf q p e s m args below meth c H locs ls K hR hS hL)

theorem x_icmp_ge {x y : Int32} {off : Int} {tgt : Nat} (hf : decode M.2.1 pc = .ok (.if_icmp .ge off, 3)) (ht : (pc : Int) + off = (tgt : Int)) (kt : y ≤ x → XX l E M d mc ms post tgt lv st h cu su) (kf : ¬ y ≤ x → XX l E M d mc ms post (pc + 3) lv st h cu su) : XX l E M d mc ms post pc lv (.int y :: .int x :: st) h cu su := by
  intro p e s m args below meth c H locs ls K hR hS hL
  exact lv_icmp_ge K.1 K.2.1 hf ht (fun q => kt q p e s m args below meth c H locs ls K hR hS hL) (fun q => kf q p e s m args below meth c H locs ls K hR hS hL)

theorem x_if_gt {x : Int32} {off : Int} {tgt : Nat} (hf : decode M.2.1 pc = .ok (.ifCond .gt off, 3)) (ht : (pc : Int) + off = (tgt : Int)) (kt : 0 < x → XX l E M d mc ms post tgt lv st h cu su) (kf : ¬ 0 < x → XX l E M d mc ms post (pc + 3) lv st h cu su) : XX l E M d mc ms post pc lv (.int x :: st) h cu su := by
  intro p e s m args below meth c H locs ls K hR hS hL
  exact lv_if_gt K.1 K.2.1 hf ht (fun q => kt q p e s m args below meth c H locs ls K hR hS hL) (fun q => kf q p e s m args below meth c H locs ls K hR hS hL)

theorem x_icmp_gt {x y : Int32} {off : Int} {tgt : Nat} (hf : decode M.2.1 pc = .ok (.if_icmp .gt off, 3)) (ht : (pc : Int) + off = (tgt : Int)) (kt : y < x → XX l E M d mc ms post tgt lv st h cu su) (kf : ¬ y < x → XX l E M d mc ms post (pc + 3) lv st h cu su) : XX l E M d mc ms post pc lv (.int y :: .int x :: st) h cu su := by
  intro p e s m args below meth c H locs ls K hR hS hL
  exact lv_icmp_gt K.1 K.2.1 hf ht (fun q => kt q p e s m args below meth c H locs ls K hR hS hL) (fun q => kf q p e s m args below meth c H locs ls K hR hS hL)

theorem x_if_le {x : Int32} {off : Int} {tgt : Nat} (hf : decode M.2.1 pc = .ok (.ifCond .le off, 3)) (ht : (pc : Int) + off = (tgt : Int)) (kt : x ≤ 0 → XX l E M d mc ms post tgt lv st h cu su) (kf : ¬ x ≤ 0 → XX l E M d mc ms post (pc + 3) lv st h cu su) : XX l E M d mc ms post pc lv (.int x :: st) h cu su := by
  intro p e s m args below meth c H locs ls K hR hS hL
  exact lv_if_le K.1 K.2.1 hf ht (fun q => kt q p e s m args below meth c H locs ls K hR hS hL) (fun q => kf q p e s m args below meth c H locs ls K hR hS hL)

theorem x_icmp_le {x y : Int32} {off : Int} {tgt : Nat} (hf : decode M.2.1 pc = .ok (.if_icmp .le off, 3)) (ht : (pc : Int) + off = (tgt : Int)) (kt : x ≤ y → XX l E M d mc ms post tgt lv st h cu su) (kf : ¬ x ≤ y → XX l E M d mc ms post (pc + 3) lv st h cu su) : XX l E M d mc ms post pc lv (.int y :: .int x :: st) h cu su := by
  intro p e s m args below meth c H locs ls K hR hS hL
  exact lv_icmp_le K.1 K.2.1 hf ht (fun q => kt q p e s m args below meth c H locs ls K hR hS hL) (fun q => kf q p e s m args below meth c H locs ls K hR hS hL)

theorem x_goto {off : Int} {tgt : Nat} (hf : decode M.2.1 pc = .ok (.goto off, 3)) (ht : (pc : Int) + off = (tgt : Int)) (k : XX l E M d mc ms post tgt lv st h cu su) : XX l E M d mc ms post pc lv st h cu su := by
  intro p e s m args below meth c H locs ls K hR hS hL
  exact lv_goto K.1 K.2.1 hf ht (k p e s m args below meth c H locs ls K hR hS hL)

end RUL
