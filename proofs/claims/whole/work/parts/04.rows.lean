section ZR
variable {V : VT} {Q : State → Prop} {n : Nat × Nat} {nL : Nat} {X : Type} {o : Option X} {C : X → Prop} {hp : HP} {lv : List (Nat × Value)} {pc : Nat} {st : List Value} {cc : ByteArray} {own : String} {ret : Option FieldType} {Lv : Nat}
theorem z_of {pc' : Nat} {st' : List Value} (k : Zs V Q n nL o C hp lv pc' st') (h : ∀ (H : Heap) (locs : List Loc) (ls : Array Slot), lv_has ls nL lv → vW V n H locs Q (F0 (vMi V) pc' ls st') → vW V n H locs Q (F0 (vMi V) pc ls st)) : Zs V Q n nL o C hp lv pc st :=
  fun x hx hc H locs ls hT hl => h H locs ls hl (k x hx hc H locs ls hT hl)
theorem z_iconst (hC : CX V cc own nL ret Lv) {i : Int} (v : Int32) (hd : decode cc pc = .ok (.iconst i, 1)) (hv : Int32.ofInt i = v) (k : Zs V Q n nL o C hp lv (pc + 1) (.int v :: st)) : Zs V Q n nL o C hp lv pc st :=
  z_of k (fun _ _ _ _ kk => lv_iconst hC.1 hC.2.1 hd hv kk)
theorem z_bipush (hC : CX V cc own nL ret Lv) {i : Int} (v : Int32) (hd : decode cc pc = .ok (.bipush i, 2)) (hv : (Int8.ofInt i).toInt32 = v) (k : Zs V Q n nL o C hp lv (pc + 2) (.int v :: st)) : Zs V Q n nL o C hp lv pc st :=
  z_of k (fun _ _ _ _ kk => lv_bipush hC.1 hC.2.1 hd hv kk)
theorem z_sipush (hC : CX V cc own nL ret Lv) {i : Int} (v : Int32) (hd : decode cc pc = .ok (.sipush i, 3)) (hv : (Int16.ofInt i).toInt32 = v) (k : Zs V Q n nL o C hp lv (pc + 3) (.int v :: st)) : Zs V Q n nL o C hp lv pc st :=
  z_of k (fun _ _ _ _ kk => lv_sipush hC.1 hC.2.1 hd hv kk)
theorem z_lconst (hC : CX V cc own nL ret Lv) {i : Fin 2} (v : Int64) (hd : decode cc pc = .ok (.lconst i, 1)) (hv : Int64.ofNat (i : Nat) = v) (k : Zs V Q n nL o C hp lv (pc + 1) (.long v :: st)) : Zs V Q n nL o C hp lv pc st :=
  z_of k (fun _ _ _ _ kk => lv_lconst hC.1 hC.2.1 hd hv kk)
theorem z_ldc (hC : CX V cc own nL ret Lv) {i : Nat} (v : Int32) (hm : Cond.constant own i v ∈ gd_tbl) (hd : decode cc pc = .ok (.ldc i, 2)) (k : Zs V Q n nL o C hp lv (pc + 2) (.int v :: st)) : Zs V Q n nL o C hp lv pc st :=
  z_of k (fun _ _ _ _ kk => lv_ldc hC.1 hC.2.1 hC.2.2.2.1 (hC.2.2.2.2.1 _ hm) hd kk)
theorem z_ldcw (hC : CX V cc own nL ret Lv) {i : Nat} (v : Int32) (hm : Cond.constant own i v ∈ gd_tbl) (hd : decode cc pc = .ok (.ldc_w i, 3)) (k : Zs V Q n nL o C hp lv (pc + 3) (.int v :: st)) : Zs V Q n nL o C hp lv pc st :=
  z_of k (fun _ _ _ _ kk => lv_ldcw hC.1 hC.2.1 hC.2.2.2.1 (hC.2.2.2.2.1 _ hm) hd kk)
theorem z_ldc2 (hC : CX V cc own nL ret Lv) {i : Nat} (v : Int64) (hm : Cond.constantLong own i v ∈ gd_tbl) (hd : decode cc pc = .ok (.ldc2_w i, 3)) (k : Zs V Q n nL o C hp lv (pc + 3) (.long v :: st)) : Zs V Q n nL o C hp lv pc st :=
  z_of k (fun _ _ _ _ kk => lv_ldc2 hC.1 hC.2.1 hC.2.2.2.1 (hC.2.2.2.2.1 _ hm) hd kk)
theorem z_iload_n (hC : CX V cc own nL ret Lv) {j : Fin 4} {i : Nat} {x : Int32} (w : Nat) (hd : decode cc pc = .ok (.iload_n j, 1)) (hi : (j : Nat) = i) (hw : lv[w]? = some (i, .int x)) (k : Zs V Q n nL o C hp lv (pc + 1) (.int x :: st)) : Zs V Q n nL o C hp lv pc st :=
  z_of k (fun _ _ _ hl kk => lv_iload_n hC.1 hC.2.1 hd hi (lv_at hl w hw) kk)
theorem z_iload (hC : CX V cc own nL ret Lv) {i : Nat} {x : Int32} (w : Nat) (hd : decode cc pc = .ok (.iload i, 2)) (hw : lv[w]? = some (i, .int x)) (k : Zs V Q n nL o C hp lv (pc + 2) (.int x :: st)) : Zs V Q n nL o C hp lv pc st :=
  z_of k (fun _ _ _ hl kk => lv_iload hC.1 hC.2.1 hd (lv_at hl w hw) kk)
theorem z_lload_n (hC : CX V cc own nL ret Lv) {j : Fin 4} {i : Nat} {x : Int64} (w : Nat) (hd : decode cc pc = .ok (.lload_n j, 1)) (hi : (j : Nat) = i) (hw : lv[w]? = some (i, .long x)) (k : Zs V Q n nL o C hp lv (pc + 1) (.long x :: st)) : Zs V Q n nL o C hp lv pc st :=
  z_of k (fun _ _ _ hl kk => lv_lload_n hC.1 hC.2.1 hd hi (lv_at hl w hw) kk)
theorem z_lload (hC : CX V cc own nL ret Lv) {i : Nat} {x : Int64} (w : Nat) (hd : decode cc pc = .ok (.lload i, 2)) (hw : lv[w]? = some (i, .long x)) (k : Zs V Q n nL o C hp lv (pc + 2) (.long x :: st)) : Zs V Q n nL o C hp lv pc st :=
  z_of k (fun _ _ _ hl kk => lv_lload hC.1 hC.2.1 hd (lv_at hl w hw) kk)
theorem z_aload_n (hC : CX V cc own nL ret Lv) {j : Fin 4} {i : Nat} {x : Nat} (w : Nat) (hd : decode cc pc = .ok (.aload_n j, 1)) (hi : (j : Nat) = i) (hw : lv[w]? = some (i, .ref x)) (k : Zs V Q n nL o C hp lv (pc + 1) (.ref x :: st)) : Zs V Q n nL o C hp lv pc st :=
  z_of k (fun _ _ _ hl kk => lv_aload_n hC.1 hC.2.1 hd hi (lv_at hl w hw) kk)
theorem z_aload (hC : CX V cc own nL ret Lv) {i : Nat} {x : Nat} (w : Nat) (hd : decode cc pc = .ok (.aload i, 2)) (hw : lv[w]? = some (i, .ref x)) (k : Zs V Q n nL o C hp lv (pc + 2) (.ref x :: st)) : Zs V Q n nL o C hp lv pc st :=
  z_of k (fun _ _ _ hl kk => lv_aload hC.1 hC.2.1 hd (lv_at hl w hw) kk)
/-- fewer locals -/
theorem z_weak (lv' : List (Nat × Value)) (ks : List Nat) (h : lv_pick lv ks = lv') (k : Zs V Q n nL o C hp lv' pc st) : Zs V Q n nL o C hp lv pc st :=
  fun x hx hc H locs ls hT hl => k x hx hc H locs ls hT (lv_sub hl ks h)
theorem z_istore_n (hC : CX V cc own nL ret Lv) {j : Fin 4} {i : Nat} {x : Int32} (lv' : List (Nat × Value)) (ks : List Nat) (hd : decode cc pc = .ok (.istore_n j, 1)) (hi : (j : Nat) = i) (hn : i < nL) (h : lv_pick ((i, Value.int x) :: lv.filter (fun q => !(q.1 == i) && !(q.1 + 1 == i && q.2.category == 2))) ks = lv') (k : Zs V Q n nL o C hp lv' (pc + 1) st) : Zs V Q n nL o C hp lv pc (.int x :: st) :=
  fun x hx hc H locs ls hT hl => lv_istore_n hC.1 hC.2.1 hd hi hl hn rfl (fun ls' hl' => k x hx hc H locs ls' hT (lv_sub hl' ks h))
theorem z_istore (hC : CX V cc own nL ret Lv) {i : Nat} {x : Int32} (lv' : List (Nat × Value)) (ks : List Nat) (hd : decode cc pc = .ok (.istore i, 2)) (hn : i < nL) (h : lv_pick ((i, Value.int x) :: lv.filter (fun q => !(q.1 == i) && !(q.1 + 1 == i && q.2.category == 2))) ks = lv') (k : Zs V Q n nL o C hp lv' (pc + 2) st) : Zs V Q n nL o C hp lv pc (.int x :: st) :=
  fun x hx hc H locs ls hT hl => lv_istore hC.1 hC.2.1 hd hl hn rfl (fun ls' hl' => k x hx hc H locs ls' hT (lv_sub hl' ks h))
theorem z_lstore_n (hC : CX V cc own nL ret Lv) {j : Fin 4} {i : Nat} {x : Int64} (lv' : List (Nat × Value)) (ks : List Nat) (hd : decode cc pc = .ok (.lstore_n j, 1)) (hi : (j : Nat) = i) (hn : i + 1 < nL) (h : lv_pick ((i, Value.long x) :: lv.filter (fun q => !(q.1 == i) && (!(q.1 == i + 1) && !(q.1 + 1 == i && q.2.category == 2)))) ks = lv') (k : Zs V Q n nL o C hp lv' (pc + 1) st) : Zs V Q n nL o C hp lv pc (.long x :: st) :=
  fun x hx hc H locs ls hT hl => lv_lstore_n hC.1 hC.2.1 hd hi hl hn rfl (fun ls' hl' => k x hx hc H locs ls' hT (lv_sub hl' ks h))
theorem z_lstore (hC : CX V cc own nL ret Lv) {i : Nat} {x : Int64} (lv' : List (Nat × Value)) (ks : List Nat) (hd : decode cc pc = .ok (.lstore i, 2)) (hn : i + 1 < nL) (h : lv_pick ((i, Value.long x) :: lv.filter (fun q => !(q.1 == i) && (!(q.1 == i + 1) && !(q.1 + 1 == i && q.2.category == 2)))) ks = lv') (k : Zs V Q n nL o C hp lv' (pc + 2) st) : Zs V Q n nL o C hp lv pc (.long x :: st) :=
  fun x hx hc H locs ls hT hl => lv_lstore hC.1 hC.2.1 hd hl hn rfl (fun ls' hl' => k x hx hc H locs ls' hT (lv_sub hl' ks h))
theorem z_astore_n (hC : CX V cc own nL ret Lv) {j : Fin 4} {i : Nat} {x : Nat} (lv' : List (Nat × Value)) (ks : List Nat) (hd : decode cc pc = .ok (.astore_n j, 1)) (hi : (j : Nat) = i) (hn : i < nL) (h : lv_pick ((i, Value.ref x) :: lv.filter (fun q => !(q.1 == i) && !(q.1 + 1 == i && q.2.category == 2))) ks = lv') (k : Zs V Q n nL o C hp lv' (pc + 1) st) : Zs V Q n nL o C hp lv pc (.ref x :: st) :=
  fun x hx hc H locs ls hT hl => lv_astore_n hC.1 hC.2.1 hd hi hl hn rfl (fun ls' hl' => k x hx hc H locs ls' hT (lv_sub hl' ks h))
theorem z_astore (hC : CX V cc own nL ret Lv) {i : Nat} {x : Nat} (lv' : List (Nat × Value)) (ks : List Nat) (hd : decode cc pc = .ok (.astore i, 2)) (hn : i < nL) (h : lv_pick ((i, Value.ref x) :: lv.filter (fun q => !(q.1 == i) && !(q.1 + 1 == i && q.2.category == 2))) ks = lv') (k : Zs V Q n nL o C hp lv' (pc + 2) st) : Zs V Q n nL o C hp lv pc (.ref x :: st) :=
  fun x hx hc H locs ls hT hl => lv_astore hC.1 hC.2.1 hd hl hn rfl (fun ls' hl' => k x hx hc H locs ls' hT (lv_sub hl' ks h))
theorem z_iinc (hC : CX V cc own nL ret Lv) {i : Nat} {d : Int} {x : Int32} (v : Int32) (w : Nat) (lv' : List (Nat × Value)) (ks : List Nat) (hd : decode cc pc = .ok (.iinc i d, 3)) (hw : lv[w]? = some (i, .int x)) (hv : x + Int32.ofInt d = v) (hn : i < nL) (h : lv_pick ((i, Value.int v) :: lv.filter (fun q => !(q.1 == i) && !(q.1 + 1 == i && q.2.category == 2))) ks = lv') (k : Zs V Q n nL o C hp lv' (pc + 3) st) : Zs V Q n nL o C hp lv pc st :=
  fun x hx hc H locs ls hT hl => lv_iinc hC.1 hC.2.1 hd hl hw hv hn rfl (fun ls' hl' => k x hx hc H locs ls' hT (lv_sub hl' ks h))
theorem z_iadd (hC : CX V cc own nL ret Lv) {x y : Int32} (hd : decode cc pc = .ok (.iadd, 1)) (k : Zs V Q n nL o C hp lv (pc + 1) (.int (x + y) :: st)) : Zs V Q n nL o C hp lv pc (.int y :: .int x :: st) := z_of k (fun _ _ _ _ kk => lv_iadd hC.1 hC.2.1 hd kk)
theorem z_isub (hC : CX V cc own nL ret Lv) {x y : Int32} (hd : decode cc pc = .ok (.isub, 1)) (k : Zs V Q n nL o C hp lv (pc + 1) (.int (x - y) :: st)) : Zs V Q n nL o C hp lv pc (.int y :: .int x :: st) := z_of k (fun _ _ _ _ kk => lv_isub hC.1 hC.2.1 hd kk)
theorem z_imul (hC : CX V cc own nL ret Lv) {x y : Int32} (hd : decode cc pc = .ok (.imul, 1)) (k : Zs V Q n nL o C hp lv (pc + 1) (.int (x * y) :: st)) : Zs V Q n nL o C hp lv pc (.int y :: .int x :: st) := z_of k (fun _ _ _ _ kk => lv_imul hC.1 hC.2.1 hd kk)
theorem z_iand (hC : CX V cc own nL ret Lv) {x y : Int32} (hd : decode cc pc = .ok (.iand, 1)) (k : Zs V Q n nL o C hp lv (pc + 1) (.int (x &&& y) :: st)) : Zs V Q n nL o C hp lv pc (.int y :: .int x :: st) := z_of k (fun _ _ _ _ kk => lv_iand hC.1 hC.2.1 hd kk)
theorem z_ior (hC : CX V cc own nL ret Lv) {x y : Int32} (hd : decode cc pc = .ok (.ior, 1)) (k : Zs V Q n nL o C hp lv (pc + 1) (.int (x ||| y) :: st)) : Zs V Q n nL o C hp lv pc (.int y :: .int x :: st) := z_of k (fun _ _ _ _ kk => lv_ior hC.1 hC.2.1 hd kk)
theorem z_ixor (hC : CX V cc own nL ret Lv) {x y : Int32} (hd : decode cc pc = .ok (.ixor, 1)) (k : Zs V Q n nL o C hp lv (pc + 1) (.int (x ^^^ y) :: st)) : Zs V Q n nL o C hp lv pc (.int y :: .int x :: st) := z_of k (fun _ _ _ _ kk => lv_ixor hC.1 hC.2.1 hd kk)
theorem z_ishl (hC : CX V cc own nL ret Lv) {x y : Int32} (hd : decode cc pc = .ok (.ishl, 1)) (k : Zs V Q n nL o C hp lv (pc + 1) (.int (x <<< (y &&& 31)) :: st)) : Zs V Q n nL o C hp lv pc (.int y :: .int x :: st) := z_of k (fun _ _ _ _ kk => lv_ishl hC.1 hC.2.1 hd kk)
theorem z_ishr (hC : CX V cc own nL ret Lv) {x y : Int32} (hd : decode cc pc = .ok (.ishr, 1)) (k : Zs V Q n nL o C hp lv (pc + 1) (.int (x >>> (y &&& 31)) :: st)) : Zs V Q n nL o C hp lv pc (.int y :: .int x :: st) := z_of k (fun _ _ _ _ kk => lv_ishr hC.1 hC.2.1 hd kk)
theorem z_iushr (hC : CX V cc own nL ret Lv) {x y : Int32} (hd : decode cc pc = .ok (.iushr, 1)) (k : Zs V Q n nL o C hp lv (pc + 1) (.int (x.toUInt32 >>> (y.toUInt32 &&& Int32.toUInt32 31)).toInt32 :: st)) : Zs V Q n nL o C hp lv pc (.int y :: .int x :: st) := z_of k (fun _ _ _ _ kk => lv_iushr hC.1 hC.2.1 hd rfl kk)
theorem z_ineg (hC : CX V cc own nL ret Lv) {x : Int32} (hd : decode cc pc = .ok (.ineg, 1)) (k : Zs V Q n nL o C hp lv (pc + 1) (.int (-x) :: st)) : Zs V Q n nL o C hp lv pc (.int x :: st) := z_of k (fun _ _ _ _ kk => lv_ineg hC.1 hC.2.1 hd kk)
theorem z_i2b (hC : CX V cc own nL ret Lv) {x : Int32} (hd : decode cc pc = .ok (.i2b, 1)) (k : Zs V Q n nL o C hp lv (pc + 1) (.int x.toInt8.toInt32 :: st)) : Zs V Q n nL o C hp lv pc (.int x :: st) := z_of k (fun _ _ _ _ kk => lv_i2b hC.1 hC.2.1 hd rfl kk)
theorem z_i2c (hC : CX V cc own nL ret Lv) {x : Int32} (hd : decode cc pc = .ok (.i2c, 1)) (k : Zs V Q n nL o C hp lv (pc + 1) (.int (x.toUInt32 % 65536).toInt32 :: st)) : Zs V Q n nL o C hp lv pc (.int x :: st) := z_of k (fun _ _ _ _ kk => lv_i2c hC.1 hC.2.1 hd rfl kk)
theorem z_i2l (hC : CX V cc own nL ret Lv) {x : Int32} (hd : decode cc pc = .ok (.i2l, 1)) (k : Zs V Q n nL o C hp lv (pc + 1) (.long x.toInt64 :: st)) : Zs V Q n nL o C hp lv pc (.int x :: st) := z_of k (fun _ _ _ _ kk => lv_i2l hC.1 hC.2.1 hd rfl kk)
theorem z_l2i (hC : CX V cc own nL ret Lv) {x : Int64} (hd : decode cc pc = .ok (.l2i, 1)) (k : Zs V Q n nL o C hp lv (pc + 1) (.int x.toInt32 :: st)) : Zs V Q n nL o C hp lv pc (.long x :: st) := z_of k (fun _ _ _ _ kk => lv_l2i hC.1 hC.2.1 hd rfl kk)
theorem z_ladd (hC : CX V cc own nL ret Lv) {x y : Int64} (hd : decode cc pc = .ok (.ladd, 1)) (k : Zs V Q n nL o C hp lv (pc + 1) (.long (x + y) :: st)) : Zs V Q n nL o C hp lv pc (.long y :: .long x :: st) := z_of k (fun _ _ _ _ kk => lv_ladd hC.1 hC.2.1 hd kk)
theorem z_lsub (hC : CX V cc own nL ret Lv) {x y : Int64} (hd : decode cc pc = .ok (.lsub, 1)) (k : Zs V Q n nL o C hp lv (pc + 1) (.long (x - y) :: st)) : Zs V Q n nL o C hp lv pc (.long y :: .long x :: st) := z_of k (fun _ _ _ _ kk => lv_lsub hC.1 hC.2.1 hd kk)
theorem z_lmul (hC : CX V cc own nL ret Lv) {x y : Int64} (hd : decode cc pc = .ok (.lmul, 1)) (k : Zs V Q n nL o C hp lv (pc + 1) (.long (x * y) :: st)) : Zs V Q n nL o C hp lv pc (.long y :: .long x :: st) := z_of k (fun _ _ _ _ kk => lv_lmul hC.1 hC.2.1 hd kk)
theorem z_land (hC : CX V cc own nL ret Lv) {x y : Int64} (hd : decode cc pc = .ok (.land, 1)) (k : Zs V Q n nL o C hp lv (pc + 1) (.long (x &&& y) :: st)) : Zs V Q n nL o C hp lv pc (.long y :: .long x :: st) := z_of k (fun _ _ _ _ kk => lv_land hC.1 hC.2.1 hd kk)
theorem z_lor (hC : CX V cc own nL ret Lv) {x y : Int64} (hd : decode cc pc = .ok (.lor, 1)) (k : Zs V Q n nL o C hp lv (pc + 1) (.long (x ||| y) :: st)) : Zs V Q n nL o C hp lv pc (.long y :: .long x :: st) := z_of k (fun _ _ _ _ kk => lv_lor hC.1 hC.2.1 hd kk)
theorem z_lxor (hC : CX V cc own nL ret Lv) {x y : Int64} (hd : decode cc pc = .ok (.lxor, 1)) (k : Zs V Q n nL o C hp lv (pc + 1) (.long (x ^^^ y) :: st)) : Zs V Q n nL o C hp lv pc (.long y :: .long x :: st) := z_of k (fun _ _ _ _ kk => lv_lxor hC.1 hC.2.1 hd kk)
theorem z_lneg (hC : CX V cc own nL ret Lv) {x : Int64} (hd : decode cc pc = .ok (.lneg, 1)) (k : Zs V Q n nL o C hp lv (pc + 1) (.long (-x) :: st)) : Zs V Q n nL o C hp lv pc (.long x :: st) := z_of k (fun _ _ _ _ kk => lv_lneg hC.1 hC.2.1 hd kk)
theorem z_lushr (hC : CX V cc own nL ret Lv) {x : Int64} {y : Int32} (hd : decode cc pc = .ok (.lushr, 1)) (k : Zs V Q n nL o C hp lv (pc + 1) (.long (x.toUInt64 >>> (y.toInt64.toUInt64 &&& Int64.toUInt64 63)).toInt64 :: st)) : Zs V Q n nL o C hp lv pc (.int y :: .long x :: st) := z_of k (fun _ _ _ _ kk => lv_lushr hC.1 hC.2.1 hd rfl kk)
theorem z_lshl (hC : CX V cc own nL ret Lv) {x : Int64} {y : Int32} (hd : decode cc pc = .ok (.lshl, 1)) (k : Zs V Q n nL o C hp lv (pc + 1) (.long (x <<< (y.toInt64 &&& 63)) :: st)) : Zs V Q n nL o C hp lv pc (.int y :: .long x :: st) := z_of k (fun _ _ _ _ kk => lv_lshl hC.1 hC.2.1 hd rfl kk)
theorem z_dup (hC : CX V cc own nL ret Lv) {a : Value} (hd : decode cc pc = .ok (.dup, 1)) (ha : a.category = 1) (k : Zs V Q n nL o C hp lv (pc + 1) (a :: a :: st)) : Zs V Q n nL o C hp lv pc (a :: st) := z_of k (fun _ _ _ _ kk => lv_dup hC.1 hC.2.1 hd ha kk)
theorem z_dup2_11 (hC : CX V cc own nL ret Lv) {a b : Value} (hd : decode cc pc = .ok (.dup2, 1)) (ha : a.category = 1) (hb : b.category = 1) (k : Zs V Q n nL o C hp lv (pc + 1) (a :: b :: a :: b :: st)) : Zs V Q n nL o C hp lv pc (a :: b :: st) := z_of k (fun _ _ _ _ kk => lv_dup2_11 hC.1 hC.2.1 hd ha hb kk)
theorem z_dup_x1 (hC : CX V cc own nL ret Lv) {a b : Value} (hd : decode cc pc = .ok (.dup_x1, 1)) (ha : a.category = 1) (hb : b.category = 1) (k : Zs V Q n nL o C hp lv (pc + 1) (a :: b :: a :: st)) : Zs V Q n nL o C hp lv pc (a :: b :: st) := z_of k (fun _ _ _ _ kk => lv_dup_x1 hC.1 hC.2.1 hd ha hb kk)
theorem z_pop (hC : CX V cc own nL ret Lv) {a : Value} (hd : decode cc pc = .ok (.pop, 1)) (ha : a.category = 1) (k : Zs V Q n nL o C hp lv (pc + 1) st) : Zs V Q n nL o C hp lv pc (a :: st) := z_of k (fun _ _ _ _ kk => lv_pop hC.1 hC.2.1 hd ha kk)
theorem z_goto (hC : CX V cc own nL ret Lv) {off : Int} (tgt : Nat) (hd : decode cc pc = .ok (.goto off, 3)) (ht : (pc : Int) + off = (tgt : Int)) (k : Zs V Q n nL o C hp lv tgt st) : Zs V Q n nL o C hp lv pc st := z_of k (fun _ _ _ _ kk => lv_goto hC.1 hC.2.1 hd ht kk)
theorem z_idiv (hC : CX V cc own nL ret Lv) {x y : Int32} {kf : Int32 → Option X} (hd : decode cc pc = .ok (.idiv, 1)) (k : ∀ v, Zs V Q n nL (kf v) C hp lv (pc + 1) (.int v :: st)) : Zs V Q n nL ((dvI x y).bind kf) C hp lv pc (.int y :: .int x :: st) := by
  intro z hz hc H locs ls hT hl
  by_cases h : y = 0
  · rw [dvI, if_pos h] at hz; cases hz
  · rw [dvI, if_neg h] at hz
    exact lv_idiv hC.1 hC.2.1 hd h (k _ z hz hc H locs ls hT hl)
theorem z_irem (hC : CX V cc own nL ret Lv) {x y : Int32} {kf : Int32 → Option X} (hd : decode cc pc = .ok (.irem, 1)) (k : ∀ v, Zs V Q n nL (kf v) C hp lv (pc + 1) (.int v :: st)) : Zs V Q n nL ((rmI x y).bind kf) C hp lv pc (.int y :: .int x :: st) := by
  intro z hz hc H locs ls hT hl
  by_cases h : y = 0
  · rw [rmI, if_pos h] at hz; cases hz
  · rw [rmI, if_neg h] at hz
    exact lv_irem hC.1 hC.2.1 hd h (k _ z hz hc H locs ls hT hl)
theorem z_ldiv (hC : CX V cc own nL ret Lv) {x y : Int64} {kf : Int64 → Option X} (hd : decode cc pc = .ok (.ldiv, 1)) (k : ∀ v, Zs V Q n nL (kf v) C hp lv (pc + 1) (.long v :: st)) : Zs V Q n nL ((dvL x y).bind kf) C hp lv pc (.long y :: .long x :: st) := by
  intro z hz hc H locs ls hT hl
  by_cases h : y = 0
  · rw [dvL, if_pos h] at hz; cases hz
  · rw [dvL, if_neg h] at hz
    exact lv_ldiv hC.1 hC.2.1 hd h (k _ z hz hc H locs ls hT hl)
theorem z_lrem (hC : CX V cc own nL ret Lv) {x y : Int64} {kf : Int64 → Option X} (hd : decode cc pc = .ok (.lrem, 1)) (k : ∀ v, Zs V Q n nL (kf v) C hp lv (pc + 1) (.long v :: st)) : Zs V Q n nL ((rmL x y).bind kf) C hp lv pc (.long y :: .long x :: st) := by
  intro z hz hc H locs ls hT hl
  by_cases h : y = 0
  · rw [rmL, if_pos h] at hz; cases hz
  · rw [rmL, if_neg h] at hz
    exact lv_lrem hC.1 hC.2.1 hd h (k _ z hz hc H locs ls hT hl)
theorem z_vl {A : Type} {a : A} {kf : A → Option X} {lf : A → List (Nat × Value)} {sf : A → List Value} (k : ∀ y : A, Zs V Q n nL (kf y) C hp (lf y) pc (sf y)) : Zs V Q n nL (vl a kf) C hp (lf a) pc (sf a) := k a
theorem z_vli {x : Int32} {kf : Int32 → Option X} (k : ∀ y : Int32, Zs V Q n nL (kf y) C hp lv pc (.int y :: st)) : Zs V Q n nL (vl x kf) C hp lv pc (.int x :: st) := k x
theorem z_vll {x : Int64} {kf : Int64 → Option X} (k : ∀ y : Int64, Zs V Q n nL (kf y) C hp lv pc (.long y :: st)) : Zs V Q n nL (vl x kf) C hp lv pc (.long x :: st) := k x
end ZR
section ZB
variable {V : VT} {Q : State → Prop} {n : Nat × Nat} {nL : Nat} {X : Type} {a b : Option X} {C : X → Prop} {hp : HP} {lv : List (Nat × Value)} {pc : Nat} {st : List Value} {cc : ByteArray} {own : String} {ret : Option FieldType} {Lv : Nat}
theorem z_ite {c : Prop} {inst : Decidable c} {pc1 pc2 : Nat} {st1 : List Value} (h : ∀ (H : Heap) (locs : List Loc) (ls : Array Slot), lv_has ls nL lv → (c → vW V n H locs Q (F0 (vMi V) pc1 ls st1)) → (¬ c → vW V n H locs Q (F0 (vMi V) pc2 ls st1)) → vW V n H locs Q (F0 (vMi V) pc ls st)) (kt : c → Zs V Q n nL a C hp lv pc1 st1) (kf : ¬ c → Zs V Q n nL b C hp lv pc2 st1) : Zs V Q n nL (@ite _ c inst a b) C hp lv pc st := by
  intro z hz hc H locs ls hT hl
  refine h H locs ls hl (fun q => ?_) (fun q => ?_)
  · rw [if_pos q] at hz
    exact kt q z hz hc H locs ls hT hl
  · rw [if_neg q] at hz
    exact kf q z hz hc H locs ls hT hl
theorem z_if_eq (hC : CX V cc own nL ret Lv) {x : Int32} {off : Int} (tgt : Nat) {inst : Decidable (x = 0)} (hd : decode cc pc = .ok (.ifCond .eq off, 3)) (ht : (pc : Int) + off = (tgt : Int)) (kt : x = 0 → Zs V Q n nL a C hp lv tgt st) (kf : ¬ x = 0 → Zs V Q n nL b C hp lv (pc + 3) st) : Zs V Q n nL (@ite _ (x = 0) inst a b) C hp lv pc (.int x :: st) := z_ite (fun _ _ _ _ => lv_if_eq hC.1 hC.2.1 hd ht) kt kf
theorem z_icmp_eq (hC : CX V cc own nL ret Lv) {x y : Int32} {off : Int} (tgt : Nat) {inst : Decidable (x = y)} (hd : decode cc pc = .ok (.if_icmp .eq off, 3)) (ht : (pc : Int) + off = (tgt : Int)) (kt : x = y → Zs V Q n nL a C hp lv tgt st) (kf : ¬ x = y → Zs V Q n nL b C hp lv (pc + 3) st) : Zs V Q n nL (@ite _ (x = y) inst a b) C hp lv pc (.int y :: .int x :: st) := z_ite (fun _ _ _ _ => lv_icmp_eq hC.1 hC.2.1 hd ht) kt kf
theorem z_if_lt (hC : CX V cc own nL ret Lv) {x : Int32} {off : Int} (tgt : Nat) {inst : Decidable (x < 0)} (hd : decode cc pc = .ok (.ifCond .lt off, 3)) (ht : (pc : Int) + off = (tgt : Int)) (kt : x < 0 → Zs V Q n nL a C hp lv tgt st) (kf : ¬ x < 0 → Zs V Q n nL b C hp lv (pc + 3) st) : Zs V Q n nL (@ite _ (x < 0) inst a b) C hp lv pc (.int x :: st) := z_ite (fun _ _ _ _ => lv_if_lt hC.1 hC.2.1 hd ht) kt kf
theorem z_icmp_lt (hC : CX V cc own nL ret Lv) {x y : Int32} {off : Int} (tgt : Nat) {inst : Decidable (x < y)} (hd : decode cc pc = .ok (.if_icmp .lt off, 3)) (ht : (pc : Int) + off = (tgt : Int)) (kt : x < y → Zs V Q n nL a C hp lv tgt st) (kf : ¬ x < y → Zs V Q n nL b C hp lv (pc + 3) st) : Zs V Q n nL (@ite _ (x < y) inst a b) C hp lv pc (.int y :: .int x :: st) := z_ite (fun _ _ _ _ => lv_icmp_lt hC.1 hC.2.1 hd ht) kt kf
theorem z_if_ge (hC : CX V cc own nL ret Lv) {x : Int32} {off : Int} (tgt : Nat) {inst : Decidable (0 ≤ x)} (hd : decode cc pc = .ok (.ifCond .ge off, 3)) (ht : (pc : Int) + off = (tgt : Int)) (kt : 0 ≤ x → Zs V Q n nL a C hp lv tgt st) (kf : ¬ 0 ≤ x → Zs V Q n nL b C hp lv (pc + 3) st) : Zs V Q n nL (@ite _ (0 ≤ x) inst a b) C hp lv pc (.int x :: st) := z_ite (fun _ _ _ _ => lv_if_ge hC.1 hC.2.1 hd ht) kt kf
theorem z_icmp_ge (hC : CX V cc own nL ret Lv) {x y : Int32} {off : Int} (tgt : Nat) {inst : Decidable (y ≤ x)} (hd : decode cc pc = .ok (.if_icmp .ge off, 3)) (ht : (pc : Int) + off = (tgt : Int)) (kt : y ≤ x → Zs V Q n nL a C hp lv tgt st) (kf : ¬ y ≤ x → Zs V Q n nL b C hp lv (pc + 3) st) : Zs V Q n nL (@ite _ (y ≤ x) inst a b) C hp lv pc (.int y :: .int x :: st) := z_ite (fun _ _ _ _ => lv_icmp_ge hC.1 hC.2.1 hd ht) kt kf
theorem z_if_gt (hC : CX V cc own nL ret Lv) {x : Int32} {off : Int} (tgt : Nat) {inst : Decidable (0 < x)} (hd : decode cc pc = .ok (.ifCond .gt off, 3)) (ht : (pc : Int) + off = (tgt : Int)) (kt : 0 < x → Zs V Q n nL a C hp lv tgt st) (kf : ¬ 0 < x → Zs V Q n nL b C hp lv (pc + 3) st) : Zs V Q n nL (@ite _ (0 < x) inst a b) C hp lv pc (.int x :: st) := z_ite (fun _ _ _ _ => lv_if_gt hC.1 hC.2.1 hd ht) kt kf
theorem z_icmp_gt (hC : CX V cc own nL ret Lv) {x y : Int32} {off : Int} (tgt : Nat) {inst : Decidable (y < x)} (hd : decode cc pc = .ok (.if_icmp .gt off, 3)) (ht : (pc : Int) + off = (tgt : Int)) (kt : y < x → Zs V Q n nL a C hp lv tgt st) (kf : ¬ y < x → Zs V Q n nL b C hp lv (pc + 3) st) : Zs V Q n nL (@ite _ (y < x) inst a b) C hp lv pc (.int y :: .int x :: st) := z_ite (fun _ _ _ _ => lv_icmp_gt hC.1 hC.2.1 hd ht) kt kf
theorem z_if_le (hC : CX V cc own nL ret Lv) {x : Int32} {off : Int} (tgt : Nat) {inst : Decidable (x ≤ 0)} (hd : decode cc pc = .ok (.ifCond .le off, 3)) (ht : (pc : Int) + off = (tgt : Int)) (kt : x ≤ 0 → Zs V Q n nL a C hp lv tgt st) (kf : ¬ x ≤ 0 → Zs V Q n nL b C hp lv (pc + 3) st) : Zs V Q n nL (@ite _ (x ≤ 0) inst a b) C hp lv pc (.int x :: st) := z_ite (fun _ _ _ _ => lv_if_le hC.1 hC.2.1 hd ht) kt kf
theorem z_icmp_le (hC : CX V cc own nL ret Lv) {x y : Int32} {off : Int} (tgt : Nat) {inst : Decidable (x ≤ y)} (hd : decode cc pc = .ok (.if_icmp .le off, 3)) (ht : (pc : Int) + off = (tgt : Int)) (kt : x ≤ y → Zs V Q n nL a C hp lv tgt st) (kf : ¬ x ≤ y → Zs V Q n nL b C hp lv (pc + 3) st) : Zs V Q n nL (@ite _ (x ≤ y) inst a b) C hp lv pc (.int y :: .int x :: st) := z_ite (fun _ _ _ _ => lv_icmp_le hC.1 hC.2.1 hd ht) kt kf
theorem z_if_ne (hC : CX V cc own nL ret Lv) {x : Int32} {off : Int} (tgt : Nat) {inst : Decidable (x = 0)} (hd : decode cc pc = .ok (.ifCond .ne off, 3)) (ht : (pc : Int) + off = (tgt : Int)) (kt : x = 0 → Zs V Q n nL a C hp lv (pc + 3) st) (kf : ¬ x = 0 → Zs V Q n nL b C hp lv tgt st) : Zs V Q n nL (@ite _ (x = 0) inst a b) C hp lv pc (.int x :: st) := z_ite (fun _ _ _ _ h1 h2 => lv_if_ne hC.1 hC.2.1 hd ht h2 h1) kt kf
theorem z_icmp_ne (hC : CX V cc own nL ret Lv) {x y : Int32} {off : Int} (tgt : Nat) {inst : Decidable (x = y)} (hd : decode cc pc = .ok (.if_icmp .ne off, 3)) (ht : (pc : Int) + off = (tgt : Int)) (kt : x = y → Zs V Q n nL a C hp lv (pc + 3) st) (kf : ¬ x = y → Zs V Q n nL b C hp lv tgt st) : Zs V Q n nL (@ite _ (x = y) inst a b) C hp lv pc (.int y :: .int x :: st) := z_ite (fun _ _ _ _ h1 h2 => lv_icmp_ne hC.1 hC.2.1 hd ht h2 h1) kt kf
end ZB
