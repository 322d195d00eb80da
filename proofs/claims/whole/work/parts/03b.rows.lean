section Base2
variable {g : CX} {E : EV} {own : String} {cc : ByteArray} {nL : Nat} {ret : Option FieldType} {d mc ms cells slots : Nat} {ws ws2 : va_W} {lv lv2 : List (Nat × Value)} {pc pc2 : Nat} {st rest : List Value} {post : Option Value → va_W → Prop}
theorem w_iadd (G : GG g E own cc nL ret d mc ms) {x y : Int32} (hd : decode cc pc = .ok (.iadd, 1))  (hp : pc + 1 = pc2) (k : WW g E nL cells slots ws lv pc2 (.int (x + y) :: rest)) : WW g E nL cells slots ws lv pc (.int y :: .int x :: rest) := by
  subst hp
  exact fun H locs ls hP hD hS hl => lv_iadd G.1 G.2.1 hd  (k H locs ls hP hD hS hl)
theorem w_isub (G : GG g E own cc nL ret d mc ms) {x y : Int32} (hd : decode cc pc = .ok (.isub, 1))  (hp : pc + 1 = pc2) (k : WW g E nL cells slots ws lv pc2 (.int (x - y) :: rest)) : WW g E nL cells slots ws lv pc (.int y :: .int x :: rest) := by
  subst hp
  exact fun H locs ls hP hD hS hl => lv_isub G.1 G.2.1 hd  (k H locs ls hP hD hS hl)
theorem w_imul (G : GG g E own cc nL ret d mc ms) {x y : Int32} (hd : decode cc pc = .ok (.imul, 1))  (hp : pc + 1 = pc2) (k : WW g E nL cells slots ws lv pc2 (.int (x * y) :: rest)) : WW g E nL cells slots ws lv pc (.int y :: .int x :: rest) := by
  subst hp
  exact fun H locs ls hP hD hS hl => lv_imul G.1 G.2.1 hd  (k H locs ls hP hD hS hl)
theorem w_iand (G : GG g E own cc nL ret d mc ms) {x y : Int32} (hd : decode cc pc = .ok (.iand, 1))  (hp : pc + 1 = pc2) (k : WW g E nL cells slots ws lv pc2 (.int (x &&& y) :: rest)) : WW g E nL cells slots ws lv pc (.int y :: .int x :: rest) := by
  subst hp
  exact fun H locs ls hP hD hS hl => lv_iand G.1 G.2.1 hd  (k H locs ls hP hD hS hl)
theorem w_ior (G : GG g E own cc nL ret d mc ms) {x y : Int32} (hd : decode cc pc = .ok (.ior, 1))  (hp : pc + 1 = pc2) (k : WW g E nL cells slots ws lv pc2 (.int (x ||| y) :: rest)) : WW g E nL cells slots ws lv pc (.int y :: .int x :: rest) := by
  subst hp
  exact fun H locs ls hP hD hS hl => lv_ior G.1 G.2.1 hd  (k H locs ls hP hD hS hl)
theorem w_ixor (G : GG g E own cc nL ret d mc ms) {x y : Int32} (hd : decode cc pc = .ok (.ixor, 1))  (hp : pc + 1 = pc2) (k : WW g E nL cells slots ws lv pc2 (.int (x ^^^ y) :: rest)) : WW g E nL cells slots ws lv pc (.int y :: .int x :: rest) := by
  subst hp
  exact fun H locs ls hP hD hS hl => lv_ixor G.1 G.2.1 hd  (k H locs ls hP hD hS hl)
theorem w_ishl (G : GG g E own cc nL ret d mc ms) {x y : Int32} (hd : decode cc pc = .ok (.ishl, 1))  (hp : pc + 1 = pc2) (k : WW g E nL cells slots ws lv pc2 (.int (x <<< (y &&& 31)) :: rest)) : WW g E nL cells slots ws lv pc (.int y :: .int x :: rest) := by
  subst hp
  exact fun H locs ls hP hD hS hl => lv_ishl G.1 G.2.1 hd  (k H locs ls hP hD hS hl)
theorem w_ishr (G : GG g E own cc nL ret d mc ms) {x y : Int32} (hd : decode cc pc = .ok (.ishr, 1))  (hp : pc + 1 = pc2) (k : WW g E nL cells slots ws lv pc2 (.int (x >>> (y &&& 31)) :: rest)) : WW g E nL cells slots ws lv pc (.int y :: .int x :: rest) := by
  subst hp
  exact fun H locs ls hP hD hS hl => lv_ishr G.1 G.2.1 hd  (k H locs ls hP hD hS hl)
theorem w_idiv (G : GG g E own cc nL ret d mc ms) {x y : Int32} (hd : decode cc pc = .ok (.idiv, 1)) (hne : ¬ y = 0) (hp : pc + 1 = pc2) (k : WW g E nL cells slots ws lv pc2 (.int (x / y) :: rest)) : WW g E nL cells slots ws lv pc (.int y :: .int x :: rest) := by
  subst hp
  exact fun H locs ls hP hD hS hl => lv_idiv G.1 G.2.1 hd hne (k H locs ls hP hD hS hl)
theorem w_irem (G : GG g E own cc nL ret d mc ms) {x y : Int32} (hd : decode cc pc = .ok (.irem, 1)) (hne : ¬ y = 0) (hp : pc + 1 = pc2) (k : WW g E nL cells slots ws lv pc2 (.int (x - x / y * y) :: rest)) : WW g E nL cells slots ws lv pc (.int y :: .int x :: rest) := by
  subst hp
  exact fun H locs ls hP hD hS hl => lv_irem G.1 G.2.1 hd hne (k H locs ls hP hD hS hl)
theorem w_ladd (G : GG g E own cc nL ret d mc ms) {x y : Int64} (hd : decode cc pc = .ok (.ladd, 1))  (hp : pc + 1 = pc2) (k : WW g E nL cells slots ws lv pc2 (.long (x + y) :: rest)) : WW g E nL cells slots ws lv pc (.long y :: .long x :: rest) := by
  subst hp
  exact fun H locs ls hP hD hS hl => lv_ladd G.1 G.2.1 hd  (k H locs ls hP hD hS hl)
theorem w_lsub (G : GG g E own cc nL ret d mc ms) {x y : Int64} (hd : decode cc pc = .ok (.lsub, 1))  (hp : pc + 1 = pc2) (k : WW g E nL cells slots ws lv pc2 (.long (x - y) :: rest)) : WW g E nL cells slots ws lv pc (.long y :: .long x :: rest) := by
  subst hp
  exact fun H locs ls hP hD hS hl => lv_lsub G.1 G.2.1 hd  (k H locs ls hP hD hS hl)
theorem w_lmul (G : GG g E own cc nL ret d mc ms) {x y : Int64} (hd : decode cc pc = .ok (.lmul, 1))  (hp : pc + 1 = pc2) (k : WW g E nL cells slots ws lv pc2 (.long (x * y) :: rest)) : WW g E nL cells slots ws lv pc (.long y :: .long x :: rest) := by
  subst hp
  exact fun H locs ls hP hD hS hl => lv_lmul G.1 G.2.1 hd  (k H locs ls hP hD hS hl)
theorem w_land (G : GG g E own cc nL ret d mc ms) {x y : Int64} (hd : decode cc pc = .ok (.land, 1))  (hp : pc + 1 = pc2) (k : WW g E nL cells slots ws lv pc2 (.long (x &&& y) :: rest)) : WW g E nL cells slots ws lv pc (.long y :: .long x :: rest) := by
  subst hp
  exact fun H locs ls hP hD hS hl => lv_land G.1 G.2.1 hd  (k H locs ls hP hD hS hl)
theorem w_lor (G : GG g E own cc nL ret d mc ms) {x y : Int64} (hd : decode cc pc = .ok (.lor, 1))  (hp : pc + 1 = pc2) (k : WW g E nL cells slots ws lv pc2 (.long (x ||| y) :: rest)) : WW g E nL cells slots ws lv pc (.long y :: .long x :: rest) := by
  subst hp
  exact fun H locs ls hP hD hS hl => lv_lor G.1 G.2.1 hd  (k H locs ls hP hD hS hl)
theorem w_lxor (G : GG g E own cc nL ret d mc ms) {x y : Int64} (hd : decode cc pc = .ok (.lxor, 1))  (hp : pc + 1 = pc2) (k : WW g E nL cells slots ws lv pc2 (.long (x ^^^ y) :: rest)) : WW g E nL cells slots ws lv pc (.long y :: .long x :: rest) := by
  subst hp
  exact fun H locs ls hP hD hS hl => lv_lxor G.1 G.2.1 hd  (k H locs ls hP hD hS hl)
theorem w_ldiv (G : GG g E own cc nL ret d mc ms) {x y : Int64} (hd : decode cc pc = .ok (.ldiv, 1)) (hne : ¬ y = 0) (hp : pc + 1 = pc2) (k : WW g E nL cells slots ws lv pc2 (.long (x / y) :: rest)) : WW g E nL cells slots ws lv pc (.long y :: .long x :: rest) := by
  subst hp
  exact fun H locs ls hP hD hS hl => lv_ldiv G.1 G.2.1 hd hne (k H locs ls hP hD hS hl)
theorem w_lrem (G : GG g E own cc nL ret d mc ms) {x y : Int64} (hd : decode cc pc = .ok (.lrem, 1)) (hne : ¬ y = 0) (hp : pc + 1 = pc2) (k : WW g E nL cells slots ws lv pc2 (.long (x - x / y * y) :: rest)) : WW g E nL cells slots ws lv pc (.long y :: .long x :: rest) := by
  subst hp
  exact fun H locs ls hP hD hS hl => lv_lrem G.1 G.2.1 hd hne (k H locs ls hP hD hS hl)
theorem w_ineg (G : GG g E own cc nL ret d mc ms) {x : Int32} (hd : decode cc pc = .ok (.ineg, 1))  (hp : pc + 1 = pc2) (k : WW g E nL cells slots ws lv pc2 (.int (-x) :: rest)) : WW g E nL cells slots ws lv pc (.int x :: rest) := by
  subst hp
  exact fun H locs ls hP hD hS hl => lv_ineg G.1 G.2.1 hd  (k H locs ls hP hD hS hl)
theorem w_lneg (G : GG g E own cc nL ret d mc ms) {x : Int64} (hd : decode cc pc = .ok (.lneg, 1))  (hp : pc + 1 = pc2) (k : WW g E nL cells slots ws lv pc2 (.long (-x) :: rest)) : WW g E nL cells slots ws lv pc (.long x :: rest) := by
  subst hp
  exact fun H locs ls hP hD hS hl => lv_lneg G.1 G.2.1 hd  (k H locs ls hP hD hS hl)
theorem w_lshl (G : GG g E own cc nL ret d mc ms) {x : Int64} {y : Int32} (hd : decode cc pc = .ok (.lshl, 1))  (hp : pc + 1 = pc2) (k : WW g E nL cells slots ws lv pc2 (.long (x <<< (y.toInt64 &&& 63)) :: rest)) : WW g E nL cells slots ws lv pc (.int y :: .long x :: rest) := by
  subst hp
  exact fun H locs ls hP hD hS hl => lv_lshl G.1 G.2.1 hd rfl (k H locs ls hP hD hS hl)
theorem w_lushr (G : GG g E own cc nL ret d mc ms) {x : Int64} {y : Int32} (hd : decode cc pc = .ok (.lushr, 1))  (hp : pc + 1 = pc2) (k : WW g E nL cells slots ws lv pc2 (.long (x.toUInt64 >>> (y.toInt64.toUInt64 &&& Int64.toUInt64 63)).toInt64 :: rest)) : WW g E nL cells slots ws lv pc (.int y :: .long x :: rest) := by
  subst hp
  exact fun H locs ls hP hD hS hl => lv_lushr G.1 G.2.1 hd rfl (k H locs ls hP hD hS hl)
theorem w_i2l (G : GG g E own cc nL ret d mc ms) {x : Int32} (hd : decode cc pc = .ok (.i2l, 1))  (hp : pc + 1 = pc2) (k : WW g E nL cells slots ws lv pc2 (.long x.toInt64 :: rest)) : WW g E nL cells slots ws lv pc (.int x :: rest) := by
  subst hp
  exact fun H locs ls hP hD hS hl => lv_i2l G.1 G.2.1 hd rfl (k H locs ls hP hD hS hl)
theorem w_l2i (G : GG g E own cc nL ret d mc ms) {x : Int64} (hd : decode cc pc = .ok (.l2i, 1))  (hp : pc + 1 = pc2) (k : WW g E nL cells slots ws lv pc2 (.int x.toInt32 :: rest)) : WW g E nL cells slots ws lv pc (.long x :: rest) := by
  subst hp
  exact fun H locs ls hP hD hS hl => lv_l2i G.1 G.2.1 hd rfl (k H locs ls hP hD hS hl)
theorem w_lcmp (G : GG g E own cc nL ret d mc ms) {x y : Int64} (hd : decode cc pc = .ok (.lcmp, 1))  (hp : pc + 1 = pc2) (k : WW g E nL cells slots ws lv pc2 (.int (lg_cmp x y) :: rest)) : WW g E nL cells slots ws lv pc (.long y :: .long x :: rest) := by
  subst hp
  exact fun H locs ls hP hD hS hl => W.lcmp G.1 G.2.1 hd  (k H locs ls hP hD hS hl)
theorem w_iconst (G : GG g E own cc nL ret d mc ms) {n : Int} {v : Int32} (hd : decode cc pc = .ok (.iconst n, 1)) (hv : Int32.ofInt n = v) (hp : pc + 1 = pc2) (k : WW g E nL cells slots ws lv pc2 (.int v :: rest)) : WW g E nL cells slots ws lv pc (rest) := by
  subst hp
  exact fun H locs ls hP hD hS hl => lv_iconst G.1 G.2.1 hd hv (k H locs ls hP hD hS hl)
theorem w_bipush (G : GG g E own cc nL ret d mc ms) {n : Int} {v : Int32} (hd : decode cc pc = .ok (.bipush n, 2)) (hv : (Int8.ofInt n).toInt32 = v) (hp : pc + 2 = pc2) (k : WW g E nL cells slots ws lv pc2 (.int v :: rest)) : WW g E nL cells slots ws lv pc (rest) := by
  subst hp
  exact fun H locs ls hP hD hS hl => lv_bipush G.1 G.2.1 hd hv (k H locs ls hP hD hS hl)
theorem w_sipush (G : GG g E own cc nL ret d mc ms) {n : Int} {v : Int32} (hd : decode cc pc = .ok (.sipush n, 3)) (hv : (Int16.ofInt n).toInt32 = v) (hp : pc + 3 = pc2) (k : WW g E nL cells slots ws lv pc2 (.int v :: rest)) : WW g E nL cells slots ws lv pc (rest) := by
  subst hp
  exact fun H locs ls hP hD hS hl => lv_sipush G.1 G.2.1 hd hv (k H locs ls hP hD hS hl)
theorem w_lconst (G : GG g E own cc nL ret d mc ms) {n : Fin 2} {v : Int64} (hd : decode cc pc = .ok (.lconst n, 1)) (hv : Int64.ofNat (n : Nat) = v) (hp : pc + 1 = pc2) (k : WW g E nL cells slots ws lv pc2 (.long v :: rest)) : WW g E nL cells slots ws lv pc (rest) := by
  subst hp
  exact fun H locs ls hP hD hS hl => lv_lconst G.1 G.2.1 hd hv (k H locs ls hP hD hS hl)
theorem w_dup (G : GG g E own cc nL ret d mc ms) {va : Value} (hd : decode cc pc = .ok (.dup, 1)) (hva : va.category = 1) (hp : pc + 1 = pc2) (k : WW g E nL cells slots ws lv pc2 (va :: va :: rest)) : WW g E nL cells slots ws lv pc (va :: rest) := by
  subst hp
  exact fun H locs ls hP hD hS hl => lv_dup G.1 G.2.1 hd hva (k H locs ls hP hD hS hl)
theorem w_dup2 (G : GG g E own cc nL ret d mc ms) {va vb : Value} (hd : decode cc pc = .ok (.dup2, 1)) (hva : va.category = 1) (hvb : vb.category = 1) (hp : pc + 1 = pc2) (k : WW g E nL cells slots ws lv pc2 (va :: vb :: va :: vb :: rest)) : WW g E nL cells slots ws lv pc (va :: vb :: rest) := by
  subst hp
  exact fun H locs ls hP hD hS hl => lv_dup2_11 G.1 G.2.1 hd hva hvb (k H locs ls hP hD hS hl)
theorem w_pop (G : GG g E own cc nL ret d mc ms) {va : Value} (hd : decode cc pc = .ok (.pop, 1)) (hva : va.category = 1) (hp : pc + 1 = pc2) (k : WW g E nL cells slots ws lv pc2 (rest)) : WW g E nL cells slots ws lv pc (va :: rest) := by
  subst hp
  exact fun H locs ls hP hD hS hl => lv_pop G.1 G.2.1 hd hva (k H locs ls hP hD hS hl)
theorem w_ldc (G : GG g E own cc nL ret d mc ms) {idx : Nat} {v : Int32} (hc : Cond.constant own idx v ∈ gtb) (hd : decode cc pc = .ok (.ldc idx, 2)) (hp : pc + 2 = pc2) (k : WW g E nL cells slots ws lv pc2 (.int v :: rest)) : WW g E nL cells slots ws lv pc (rest) := by
  subst hp
  exact fun H locs ls hP hD hS hl => lv_ldc G.1 G.2.1 G.2.2.2.1 (G.2.2.2.2.1 _ hc) hd (k H locs ls hP hD hS hl)
theorem w_ldc2 (G : GG g E own cc nL ret d mc ms) {idx : Nat} {v : Int64} (hc : Cond.constantLong own idx v ∈ gtb) (hd : decode cc pc = .ok (.ldc2_w idx, 3)) (hp : pc + 3 = pc2) (k : WW g E nL cells slots ws lv pc2 (.long v :: rest)) : WW g E nL cells slots ws lv pc (rest) := by
  subst hp
  exact fun H locs ls hP hD hS hl => lv_ldc2 G.1 G.2.1 G.2.2.2.1 (G.2.2.2.2.1 _ hc) hd (k H locs ls hP hD hS hl)
theorem w_iload_n (G : GG g E own cc nL ret d mc ms) {k4 : Fin 4} {i : Nat} {x : Int32} (j : Nat) (hj : lv[j]? = some (i, .int x)) (hd : decode cc pc = .ok (.iload_n k4, 1)) (hi : (k4 : Nat) = i) (hp : pc + 1 = pc2) (k : WW g E nL cells slots ws lv pc2 (.int x :: rest)) : WW g E nL cells slots ws lv pc rest := by
  subst hp
  exact fun H locs ls hP hD hS hl => lv_iload_n G.1 G.2.1 hd hi (lv_at hl j hj) (k H locs ls hP hD hS hl)
theorem w_iload (G : GG g E own cc nL ret d mc ms) {i : Nat} {x : Int32} (j : Nat) (hj : lv[j]? = some (i, .int x)) (hd : decode cc pc = .ok (.iload i, 2)) (hp : pc + 2 = pc2) (k : WW g E nL cells slots ws lv pc2 (.int x :: rest)) : WW g E nL cells slots ws lv pc rest := by
  subst hp
  exact fun H locs ls hP hD hS hl => lv_iload G.1 G.2.1 hd (lv_at hl j hj) (k H locs ls hP hD hS hl)
theorem w_lload_n (G : GG g E own cc nL ret d mc ms) {k4 : Fin 4} {i : Nat} {x : Int64} (j : Nat) (hj : lv[j]? = some (i, .long x)) (hd : decode cc pc = .ok (.lload_n k4, 1)) (hi : (k4 : Nat) = i) (hp : pc + 1 = pc2) (k : WW g E nL cells slots ws lv pc2 (.long x :: rest)) : WW g E nL cells slots ws lv pc rest := by
  subst hp
  exact fun H locs ls hP hD hS hl => lv_lload_n G.1 G.2.1 hd hi (lv_at hl j hj) (k H locs ls hP hD hS hl)
theorem w_lload (G : GG g E own cc nL ret d mc ms) {i : Nat} {x : Int64} (j : Nat) (hj : lv[j]? = some (i, .long x)) (hd : decode cc pc = .ok (.lload i, 2)) (hp : pc + 2 = pc2) (k : WW g E nL cells slots ws lv pc2 (.long x :: rest)) : WW g E nL cells slots ws lv pc rest := by
  subst hp
  exact fun H locs ls hP hD hS hl => lv_lload G.1 G.2.1 hd (lv_at hl j hj) (k H locs ls hP hD hS hl)
theorem w_aload_n (G : GG g E own cc nL ret d mc ms) {k4 : Fin 4} {i : Nat} {x : Nat} (j : Nat) (hj : lv[j]? = some (i, .ref x)) (hd : decode cc pc = .ok (.aload_n k4, 1)) (hi : (k4 : Nat) = i) (hp : pc + 1 = pc2) (k : WW g E nL cells slots ws lv pc2 (.ref x :: rest)) : WW g E nL cells slots ws lv pc rest := by
  subst hp
  exact fun H locs ls hP hD hS hl => lv_aload_n G.1 G.2.1 hd hi (lv_at hl j hj) (k H locs ls hP hD hS hl)
theorem w_aload (G : GG g E own cc nL ret d mc ms) {i : Nat} {x : Nat} (j : Nat) (hj : lv[j]? = some (i, .ref x)) (hd : decode cc pc = .ok (.aload i, 2)) (hp : pc + 2 = pc2) (k : WW g E nL cells slots ws lv pc2 (.ref x :: rest)) : WW g E nL cells slots ws lv pc rest := by
  subst hp
  exact fun H locs ls hP hD hS hl => lv_aload G.1 G.2.1 hd (lv_at hl j hj) (k H locs ls hP hD hS hl)
theorem w_istore_n (G : GG g E own cc nL ret d mc ms) {k4 : Fin 4} {i : Nat} {x : Int32} (hd : decode cc pc = .ok (.istore_n k4, 1)) (hi : (k4 : Nat) = i) (hn : i < nL) (hl : (i, Value.int x) :: lv.filter (fun q => !(q.1 == i) && !(q.1 + 1 == i && q.2.category == 2)) = lv2) (hp : pc + 1 = pc2) (k : WW g E nL cells slots ws lv2 pc2 rest) : WW g E nL cells slots ws lv pc (.int x :: rest) := by
  subst hp
  exact fun H locs ls hP hD hS hl0 => lv_istore_n G.1 G.2.1 hd hi hl0 hn hl (fun ls hl => k H locs ls hP hD hS hl)
theorem w_istore (G : GG g E own cc nL ret d mc ms) {i : Nat} {x : Int32} (hd : decode cc pc = .ok (.istore i, 2)) (hn : i < nL) (hl : (i, Value.int x) :: lv.filter (fun q => !(q.1 == i) && !(q.1 + 1 == i && q.2.category == 2)) = lv2) (hp : pc + 2 = pc2) (k : WW g E nL cells slots ws lv2 pc2 rest) : WW g E nL cells slots ws lv pc (.int x :: rest) := by
  subst hp
  exact fun H locs ls hP hD hS hl0 => lv_istore G.1 G.2.1 hd hl0 hn hl (fun ls hl => k H locs ls hP hD hS hl)
theorem w_lstore_n (G : GG g E own cc nL ret d mc ms) {k4 : Fin 4} {i : Nat} {x : Int64} (hd : decode cc pc = .ok (.lstore_n k4, 1)) (hi : (k4 : Nat) = i) (hn : i + 1 < nL) (hl : (i, Value.long x) :: lv.filter (fun q => !(q.1 == i) && (!(q.1 == i + 1) && !(q.1 + 1 == i && q.2.category == 2))) = lv2) (hp : pc + 1 = pc2) (k : WW g E nL cells slots ws lv2 pc2 rest) : WW g E nL cells slots ws lv pc (.long x :: rest) := by
  subst hp
  exact fun H locs ls hP hD hS hl0 => lv_lstore_n G.1 G.2.1 hd hi hl0 hn hl (fun ls hl => k H locs ls hP hD hS hl)
theorem w_lstore (G : GG g E own cc nL ret d mc ms) {i : Nat} {x : Int64} (hd : decode cc pc = .ok (.lstore i, 2)) (hn : i + 1 < nL) (hl : (i, Value.long x) :: lv.filter (fun q => !(q.1 == i) && (!(q.1 == i + 1) && !(q.1 + 1 == i && q.2.category == 2))) = lv2) (hp : pc + 2 = pc2) (k : WW g E nL cells slots ws lv2 pc2 rest) : WW g E nL cells slots ws lv pc (.long x :: rest) := by
  subst hp
  exact fun H locs ls hP hD hS hl0 => lv_lstore G.1 G.2.1 hd hl0 hn hl (fun ls hl => k H locs ls hP hD hS hl)
theorem w_astore_n (G : GG g E own cc nL ret d mc ms) {k4 : Fin 4} {i : Nat} {x : Nat} (hd : decode cc pc = .ok (.astore_n k4, 1)) (hi : (k4 : Nat) = i) (hn : i < nL) (hl : (i, Value.ref x) :: lv.filter (fun q => !(q.1 == i) && !(q.1 + 1 == i && q.2.category == 2)) = lv2) (hp : pc + 1 = pc2) (k : WW g E nL cells slots ws lv2 pc2 rest) : WW g E nL cells slots ws lv pc (.ref x :: rest) := by
  subst hp
  exact fun H locs ls hP hD hS hl0 => lv_astore_n G.1 G.2.1 hd hi hl0 hn hl (fun ls hl => k H locs ls hP hD hS hl)
theorem w_astore (G : GG g E own cc nL ret d mc ms) {i : Nat} {x : Nat} (hd : decode cc pc = .ok (.astore i, 2)) (hn : i < nL) (hl : (i, Value.ref x) :: lv.filter (fun q => !(q.1 == i) && !(q.1 + 1 == i && q.2.category == 2)) = lv2) (hp : pc + 2 = pc2) (k : WW g E nL cells slots ws lv2 pc2 rest) : WW g E nL cells slots ws lv pc (.ref x :: rest) := by
  subst hp
  exact fun H locs ls hP hD hS hl0 => lv_astore G.1 G.2.1 hd hl0 hn hl (fun ls hl => k H locs ls hP hD hS hl)
theorem w_iinc (G : GG g E own cc nL ret d mc ms) {i : Nat} {n : Int} {x v : Int32} (j : Nat) (hj : lv[j]? = some (i, .int x)) (hd : decode cc pc = .ok (.iinc i n, 3)) (hv : Int32.ofInt n = v) (hn : i < nL) (hl : (i, Value.int (x + v)) :: lv.filter (fun q => !(q.1 == i) && !(q.1 + 1 == i && q.2.category == 2)) = lv2) (hp : pc + 3 = pc2) (k : WW g E nL cells slots ws lv2 pc2 rest) : WW g E nL cells slots ws lv pc rest := by
  subst hp
  exact fun H locs ls hP hD hS hl0 => lv_iinc G.1 G.2.1 hd hl0 hj (by rw [hv]) hn hl (fun ls hl => k H locs ls hP hD hS hl)
theorem w_goto (G : GG g E own cc nL ret d mc ms) {off : Int} {tgt : Nat} (hd : decode cc pc = .ok (.goto off, 3)) (ht : (pc : Int) + off = (tgt : Int)) (k : WW g E nL cells slots ws lv tgt rest) : WW g E nL cells slots ws lv pc rest := fun H locs ls hP hD hS hl => lv_goto G.1 G.2.1 hd ht (k H locs ls hP hD hS hl)
theorem w_if_eq (G : GG g E own cc nL ret d mc ms) {x : Int32} {off : Int} {tgt : Nat} (hd : decode cc pc = .ok (.ifCond .eq off, 3)) (ht : (pc : Int) + off = (tgt : Int)) (hp : pc + 3 = pc2) (kt : x = 0 → WW g E nL cells slots ws lv tgt rest) (kf : ¬ x = 0 → WW g E nL cells slots ws lv pc2 rest) : WW g E nL cells slots ws lv pc (.int x :: rest) := by
  subst hp
  exact fun H locs ls hP hD hS hl => lv_if_eq G.1 G.2.1 hd ht (fun h => kt h H locs ls hP hD hS hl) (fun h => kf h H locs ls hP hD hS hl)
theorem w_icmp_eq (G : GG g E own cc nL ret d mc ms) {x y : Int32} {off : Int} {tgt : Nat} (hd : decode cc pc = .ok (.if_icmp .eq off, 3)) (ht : (pc : Int) + off = (tgt : Int)) (hp : pc + 3 = pc2) (kt : x = y → WW g E nL cells slots ws lv tgt rest) (kf : ¬ x = y → WW g E nL cells slots ws lv pc2 rest) : WW g E nL cells slots ws lv pc (.int y :: .int x :: rest) := by
  subst hp
  exact fun H locs ls hP hD hS hl => lv_icmp_eq G.1 G.2.1 hd ht (fun h => kt h H locs ls hP hD hS hl) (fun h => kf h H locs ls hP hD hS hl)
theorem w_if_ne (G : GG g E own cc nL ret d mc ms) {x : Int32} {off : Int} {tgt : Nat} (hd : decode cc pc = .ok (.ifCond .ne off, 3)) (ht : (pc : Int) + off = (tgt : Int)) (hp : pc + 3 = pc2) (kt : ¬ x = 0 → WW g E nL cells slots ws lv tgt rest) (kf : x = 0 → WW g E nL cells slots ws lv pc2 rest) : WW g E nL cells slots ws lv pc (.int x :: rest) := by
  subst hp
  exact fun H locs ls hP hD hS hl => lv_if_ne G.1 G.2.1 hd ht (fun h => kt h H locs ls hP hD hS hl) (fun h => kf h H locs ls hP hD hS hl)
theorem w_icmp_ne (G : GG g E own cc nL ret d mc ms) {x y : Int32} {off : Int} {tgt : Nat} (hd : decode cc pc = .ok (.if_icmp .ne off, 3)) (ht : (pc : Int) + off = (tgt : Int)) (hp : pc + 3 = pc2) (kt : ¬ x = y → WW g E nL cells slots ws lv tgt rest) (kf : x = y → WW g E nL cells slots ws lv pc2 rest) : WW g E nL cells slots ws lv pc (.int y :: .int x :: rest) := by
  subst hp
  exact fun H locs ls hP hD hS hl => lv_icmp_ne G.1 G.2.1 hd ht (fun h => kt h H locs ls hP hD hS hl) (fun h => kf h H locs ls hP hD hS hl)
theorem w_if_lt (G : GG g E own cc nL ret d mc ms) {x : Int32} {off : Int} {tgt : Nat} (hd : decode cc pc = .ok (.ifCond .lt off, 3)) (ht : (pc : Int) + off = (tgt : Int)) (hp : pc + 3 = pc2) (kt : x < 0 → WW g E nL cells slots ws lv tgt rest) (kf : ¬ x < 0 → WW g E nL cells slots ws lv pc2 rest) : WW g E nL cells slots ws lv pc (.int x :: rest) := by
  subst hp
  exact fun H locs ls hP hD hS hl => lv_if_lt G.1 G.2.1 hd ht (fun h => kt h H locs ls hP hD hS hl) (fun h => kf h H locs ls hP hD hS hl)
theorem w_icmp_lt (G : GG g E own cc nL ret d mc ms) {x y : Int32} {off : Int} {tgt : Nat} (hd : decode cc pc = .ok (.if_icmp .lt off, 3)) (ht : (pc : Int) + off = (tgt : Int)) (hp : pc + 3 = pc2) (kt : x < y → WW g E nL cells slots ws lv tgt rest) (kf : ¬ x < y → WW g E nL cells slots ws lv pc2 rest) : WW g E nL cells slots ws lv pc (.int y :: .int x :: rest) := by
  subst hp
  exact fun H locs ls hP hD hS hl => lv_icmp_lt G.1 G.2.1 hd ht (fun h => kt h H locs ls hP hD hS hl) (fun h => kf h H locs ls hP hD hS hl)
theorem w_if_ge (G : GG g E own cc nL ret d mc ms) {x : Int32} {off : Int} {tgt : Nat} (hd : decode cc pc = .ok (.ifCond .ge off, 3)) (ht : (pc : Int) + off = (tgt : Int)) (hp : pc + 3 = pc2) (kt : 0 ≤ x → WW g E nL cells slots ws lv tgt rest) (kf : ¬ 0 ≤ x → WW g E nL cells slots ws lv pc2 rest) : WW g E nL cells slots ws lv pc (.int x :: rest) := by
  subst hp
  exact fun H locs ls hP hD hS hl => lv_if_ge G.1 G.2.1 hd ht (fun h => kt h H locs ls hP hD hS hl) (fun h => kf h H locs ls hP hD hS hl)
theorem w_icmp_ge (G : GG g E own cc nL ret d mc ms) {x y : Int32} {off : Int} {tgt : Nat} (hd : decode cc pc = .ok (.if_icmp .ge off, 3)) (ht : (pc : Int) + off = (tgt : Int)) (hp : pc + 3 = pc2) (kt : y ≤ x → WW g E nL cells slots ws lv tgt rest) (kf : ¬ y ≤ x → WW g E nL cells slots ws lv pc2 rest) : WW g E nL cells slots ws lv pc (.int y :: .int x :: rest) := by
  subst hp
  exact fun H locs ls hP hD hS hl => lv_icmp_ge G.1 G.2.1 hd ht (fun h => kt h H locs ls hP hD hS hl) (fun h => kf h H locs ls hP hD hS hl)
theorem w_if_gt (G : GG g E own cc nL ret d mc ms) {x : Int32} {off : Int} {tgt : Nat} (hd : decode cc pc = .ok (.ifCond .gt off, 3)) (ht : (pc : Int) + off = (tgt : Int)) (hp : pc + 3 = pc2) (kt : 0 < x → WW g E nL cells slots ws lv tgt rest) (kf : ¬ 0 < x → WW g E nL cells slots ws lv pc2 rest) : WW g E nL cells slots ws lv pc (.int x :: rest) := by
  subst hp
  exact fun H locs ls hP hD hS hl => lv_if_gt G.1 G.2.1 hd ht (fun h => kt h H locs ls hP hD hS hl) (fun h => kf h H locs ls hP hD hS hl)
theorem w_icmp_gt (G : GG g E own cc nL ret d mc ms) {x y : Int32} {off : Int} {tgt : Nat} (hd : decode cc pc = .ok (.if_icmp .gt off, 3)) (ht : (pc : Int) + off = (tgt : Int)) (hp : pc + 3 = pc2) (kt : y < x → WW g E nL cells slots ws lv tgt rest) (kf : ¬ y < x → WW g E nL cells slots ws lv pc2 rest) : WW g E nL cells slots ws lv pc (.int y :: .int x :: rest) := by
  subst hp
  exact fun H locs ls hP hD hS hl => lv_icmp_gt G.1 G.2.1 hd ht (fun h => kt h H locs ls hP hD hS hl) (fun h => kf h H locs ls hP hD hS hl)
theorem w_if_le (G : GG g E own cc nL ret d mc ms) {x : Int32} {off : Int} {tgt : Nat} (hd : decode cc pc = .ok (.ifCond .le off, 3)) (ht : (pc : Int) + off = (tgt : Int)) (hp : pc + 3 = pc2) (kt : x ≤ 0 → WW g E nL cells slots ws lv tgt rest) (kf : ¬ x ≤ 0 → WW g E nL cells slots ws lv pc2 rest) : WW g E nL cells slots ws lv pc (.int x :: rest) := by
  subst hp
  exact fun H locs ls hP hD hS hl => lv_if_le G.1 G.2.1 hd ht (fun h => kt h H locs ls hP hD hS hl) (fun h => kf h H locs ls hP hD hS hl)
theorem w_icmp_le (G : GG g E own cc nL ret d mc ms) {x y : Int32} {off : Int} {tgt : Nat} (hd : decode cc pc = .ok (.if_icmp .le off, 3)) (ht : (pc : Int) + off = (tgt : Int)) (hp : pc + 3 = pc2) (kt : x ≤ y → WW g E nL cells slots ws lv tgt rest) (kf : ¬ x ≤ y → WW g E nL cells slots ws lv pc2 rest) : WW g E nL cells slots ws lv pc (.int y :: .int x :: rest) := by
  subst hp
  exact fun H locs ls hP hD hS hl => lv_icmp_le G.1 G.2.1 hd ht (fun h => kt h H locs ls hP hD hS hl) (fun h => kf h H locs ls hP hD hS hl)
theorem w_tabIn (G : GG g E own cc nL ret d mc ms) {dflt lo hi : Int} {offs : Array Int} {len : Nat} {x v : Int32} {off : Int} {tgt : Nat} (hv : x = v) (hd : decode cc pc = .ok (.tableswitch dflt lo hi offs, len)) (h1 : ¬ v.toInt < lo) (h2 : ¬ hi < v.toInt) (ho : offs[(v.toInt - lo).toNat]? = some off) (ht : (pc : Int) + off = (tgt : Int)) (k : WW g E nL cells slots ws lv tgt rest) : WW g E nL cells slots ws lv pc (.int x :: rest) := by
  subst hv
  exact fun H locs ls hP hD hS hl => lv_tableIn G.1 G.2.1 hd h1 h2 ho ht (k H locs ls hP hD hS hl)
theorem w_tabOut (G : GG g E own cc nL ret d mc ms) {dflt lo hi : Int} {offs : Array Int} {len : Nat} {x : Int32} {tgt : Nat} (hd : decode cc pc = .ok (.tableswitch dflt lo hi offs, len)) (h : x.toInt < lo ∨ hi < x.toInt) (ht : (pc : Int) + dflt = (tgt : Int)) (k : WW g E nL cells slots ws lv tgt rest) : WW g E nL cells slots ws lv pc (.int x :: rest) := fun H locs ls hP hD hS hl => lv_tableOut G.1 G.2.1 hd h ht (k H locs ls hP hD hS hl)
theorem w_look (G : GG g E own cc nL ret d mc ms) {dflt : Int} {ps : Array (Int × Int)} {len : Nat} {x : Int32} {off : Int} {tgt : Nat} (hd : decode cc pc = .ok (.lookupswitch dflt ps, len)) (hp : (ps.toList.zip (ps.toList.drop 1)).all (fun (a, next) => a.1 < next.1) = true) (ho : Op.lookupswitch.offset ps.toList dflt x.toInt = off) (ht : (pc : Int) + off = (tgt : Int)) (k : WW g E nL cells slots ws lv tgt rest) : WW g E nL cells slots ws lv pc (.int x :: rest) := fun H locs ls hP hD hS hl => lv_lookup G.1 G.2.1 hd hp ho ht (k H locs ls hP hD hS hl)
theorem ne_ti {x v : Int32} (h : ¬ x = v) : x.toInt ≠ v.toInt := fun e => h (Int32.toInt_inj.mp e)

/-- field k of class ci, as own's entry idx names it -/
def FOK (own : String) (idx ci k : Nat) (C : String) (T : u_T) (N : Nat) : Prop := vwCl[ci]? = some (C, T, N) ∧ k < N ∧ (∀ w ∈ u_ws C T N, w ∈ gtb) ∧ Cond.fieldLink own idx (T k).1 (T k).2.1 (T k).2.2.1 ∈ gtb
def TOK (T : u_T) (N : Nat) (ty : Nat → FieldType) : Prop := (∀ k, k < N → parseFieldDescriptor (T k).2.2.1 = some (ty k)) ∧ (∀ a, a < N → ∀ b, b < N → a ≠ b → (T a).2.1 ≠ (T b).2.1)
theorem w_get (G : GG g E own cc nL ret d mc ms) {idx ci k : Nat} {C : String} {T : u_T} {N a : Nat} {fs : List Value} {v : Value} (F : FOK own idx ci k C T N) (q0 : Nat) (he : ws[q0]? = some (a, .inr (ci, fs))) (hv : fs[k]? = some v) (hd : decode cc pc = .ok (.getfield idx, 3)) (hp : pc + 3 = pc2) (kk : WW g E nL cells slots ws lv pc2 (v :: rest)) : WW g E nL cells slots ws lv pc (.ref a :: rest) := by
  subst hp
  obtain ⟨hx, hb, hml, hown, hts, hK, hA, hR, hrr, hlk, hNW⟩ := G
  exact fun H locs ls hP hD hS hl => va_get (D := E.1) (ci := ci) (C := C) (T := T) (N := N) hx hb hts F.2.2.1 hown hK hP q0 he F.1 k F.2.1 (hts _ F.2.2.2) (fun _ h9 => h9) hv hd (kk H locs ls hP hD hS hl)
theorem w_put (G : GG g E own cc nL ret d mc ms) {idx ci k : Nat} {C : String} {T : u_T} {N a : Nat} {fs : List Value} {v : Value} {ty : Nat → FieldType} (F : FOK own idx ci k C T N) (Y : TOK T N ty) (q0 : Nat) (he : ws[q0]? = some (a, .inr (ci, fs))) (hfin : (T k).2.2.2 = false) (hnar : narrow (ty k) v = v) (hfit : fits (ty k) v = true) (hlen : k < fs.length) (hw : ws.set q0 (a, .inr (ci, fs.set k v)) = ws2) (hd : decode cc pc = .ok (.putfield idx, 3)) (hp : pc + 3 = pc2) (kk : WW g E nL cells slots ws2 lv pc2 rest) : WW g E nL cells slots ws lv pc (v :: .ref a :: rest) := by
  subst hp
  subst hw
  obtain ⟨hx, hb, hml, hown, hts, hK, hA, hR, hrr, hlk, hNW⟩ := G
  exact fun H locs ls hP hD hS hl => va_put (D := E.1) (ci := ci) (v := v) (ty := ty k) (C := C) (T := T) (N := N) hx hb hts F.2.2.1 ty Y.1 Y.2 hown hK hP hD hS q0 he F.1 k F.2.1 (hts _ F.2.2.2) (fun _ h9 => h9) hfin (Y.1 k F.2.1) hnar hfit hlen hd (fun H locs hP hD hS => kk H locs ls hP hD hS hl)
theorem fit_z {v : Int32} (h : v = 0 ∨ v = 1) : fits .boolean (.int v) = true := by rcases h with rfl | rfl <;> decide +kernel

theorem w_iald (G : GG g E own cc nL ret d mc ms) {a n : Nat} {f : Nat → Int32} {i : Int32} (q0 : Nat) (ha : ws[q0]? = some (a, .inl (E.2.1, n, .inl f))) (hin : vp_in i n) (hd : decode cc pc = .ok (.iaload, 1)) (hp : pc + 1 = pc2) (kk : WW g E nL cells slots ws lv pc2 (.int (f i.toNatClampNeg) :: rest)) : WW g E nL cells slots ws lv pc (.int i :: .ref a :: rest) := by
  subst hp
  exact fun H locs ls hP hD hS hl => va_iald G.1 G.2.1 G.2.2.2.2.2.1 hP q0 0 ha rfl hin hd (kk H locs ls hP hD hS hl)
theorem w_lald (G : GG g E own cc nL ret d mc ms) {a n : Nat} {f : Nat → Int64} {i : Int32} (q0 : Nat) (ha : ws[q0]? = some (a, .inl (E.2.2.1, n, .inr (.inl f)))) (hin : vp_in i n) (hd : decode cc pc = .ok (.laload, 1)) (hp : pc + 1 = pc2) (kk : WW g E nL cells slots ws lv pc2 (.long (f i.toNatClampNeg) :: rest)) : WW g E nL cells slots ws lv pc (.int i :: .ref a :: rest) := by
  subst hp
  exact fun H locs ls hP hD hS hl => va_lald G.1 G.2.1 G.2.2.2.2.2.1 hP q0 1 ha rfl hin hd (kk H locs ls hP hD hS hl)
theorem w_zald (G : GG g E own cc nL ret d mc ms) {a n : Nat} {f : Nat → Int32} {i : Int32} (q0 : Nat) (ha : ws[q0]? = some (a, .inl (E.2.2.2.1, n, .inl f))) (hin : vp_in i n) (hd : decode cc pc = .ok (.baload, 1)) (hp : pc + 1 = pc2) (kk : WW g E nL cells slots ws lv pc2 (.int (f i.toNatClampNeg) :: rest)) : WW g E nL cells slots ws lv pc (.int i :: .ref a :: rest) := by
  subst hp
  exact fun H locs ls hP hD hS hl => va_zald G.1 G.2.1 G.2.2.2.2.2.1 hP q0 2 ha rfl hin hd (kk H locs ls hP hD hS hl)
theorem w_iast (G : GG g E own cc nL ret d mc ms) {a n : Nat} {f : Nat → Int32} {i : Int32} {x : Int32} (q0 : Nat) (ha : ws[q0]? = some (a, .inl (E.2.1, n, .inl f))) (hin : vp_in i n) (hw : ws.set q0 (a, .inl (E.2.1, n, .inl (upd f i.toNatClampNeg x))) = ws2) (hd : decode cc pc = .ok (.iastore, 1)) (hp : pc + 1 = pc2) (kk : WW g E nL cells slots ws2 lv pc2 rest) : WW g E nL cells slots ws lv pc (.int x :: .int i :: .ref a :: rest) := by
  subst hp
  subst hw
  exact fun H locs ls hP hD hS hl => va_iast G.1 G.2.1 G.2.2.2.2.2.1 hP hD hS q0 0 ha rfl hin hd (fun H locs hP hD hS => kk H locs ls hP hD hS hl)
theorem w_last (G : GG g E own cc nL ret d mc ms) {a n : Nat} {f : Nat → Int64} {i : Int32} {x : Int64} (q0 : Nat) (ha : ws[q0]? = some (a, .inl (E.2.2.1, n, .inr (.inl f)))) (hin : vp_in i n) (hw : ws.set q0 (a, .inl (E.2.2.1, n, .inr (.inl (vp_updL f i.toNatClampNeg x)))) = ws2) (hd : decode cc pc = .ok (.lastore, 1)) (hp : pc + 1 = pc2) (kk : WW g E nL cells slots ws2 lv pc2 rest) : WW g E nL cells slots ws lv pc (.long x :: .int i :: .ref a :: rest) := by
  subst hp
  subst hw
  exact fun H locs ls hP hD hS hl => va_last G.1 G.2.1 G.2.2.2.2.2.1 hP hD hS q0 1 ha rfl hin hd (fun H locs hP hD hS => kk H locs ls hP hD hS hl)
theorem w_zast (G : GG g E own cc nL ret d mc ms) {a n : Nat} {f : Nat → Int32} {i : Int32} {x : Int32} (q0 : Nat) (ha : ws[q0]? = some (a, .inl (E.2.2.2.1, n, .inl f))) (hin : vp_in i n) (hw : ws.set q0 (a, .inl (E.2.2.2.1, n, .inl (upd f i.toNatClampNeg (vp_nar .boolean x)))) = ws2) (hd : decode cc pc = .ok (.bastore, 1)) (hp : pc + 1 = pc2) (kk : WW g E nL cells slots ws2 lv pc2 rest) : WW g E nL cells slots ws lv pc (.int x :: .int i :: .ref a :: rest) := by
  subst hp
  subst hw
  exact fun H locs ls hP hD hS hl => va_zast G.1 G.2.1 G.2.2.2.2.2.1 hP hD hS q0 2 ha rfl hin hd (fun H locs hP hD hS => kk H locs ls hP hD hS hl)
theorem w_aaload (G : GG g E own cc nL ret d mc ms) {a n v : Nat} {f : Nat → Option Nat} {i : Int32} (q0 : Nat) (ha : ws[q0]? = some (a, .inl (E.2.2.2.2, n, .inr (.inr (.inr (.inr f)))))) (hin : vp_in i n) (hf : f i.toNatClampNeg = some v) (hd : decode cc pc = .ok (.aaload, 1)) (hp : pc + 1 = pc2) (kk : WW g E nL cells slots ws lv pc2 (.ref v :: rest)) : WW g E nL cells slots ws lv pc (.int i :: .ref a :: rest) := by
  subst hp
  refine fun H locs ls hP hD hS hl => va_aldq G.1 G.2.1 G.2.2.2.2.2.1 hP q0 3 ha rfl hin hd ?_
  rw [hf]
  exact kk H locs ls hP hD hS hl
theorem w_copyl (G : GG g E own cc nL ret d mc ms) {idx : Nat} (hL : Cond.methodLink own idx arraycopyName ∈ gtb) (hN : Cond.native arraycopyName ∈ gtb) (hSt : Cond.static arraycopyName ∈ gtb) (hI : Cond.initialized "java/lang/System" ∈ gtb) {a a0 n : Nat} {f f2 : Nat → Int64} {sz : Int32} (q0 q1 : Nat) (ha0 : ws[q0]? = some (a0, .inl (E.2.2.1, n, .inr (.inl f)))) (ha1 : ws[q1]? = some (a, .inl (E.2.2.1, n, .inr (.inl f2)))) (hz : ¬ sz < 0) (hn : sz.toNatClampNeg ≤ n) (h1 : 1 ≤ d) (hr : (rest.map fun v => v.category).sum + (nativeFrameWords "java/lang/System" "arraycopy" 5 + 11) ≤ 40) (hw : ws.set q1 (a, .inl (E.2.2.1, n, .inr (.inl (va_cpy f f2 0 0 sz.toNatClampNeg)))) = ws2) (hd : decode cc pc = .ok (.invokestatic idx, 3)) (hp : pc + 3 = pc2) (kk : WW g E nL cells slots ws2 lv pc2 rest) : WW g E nL cells slots ws lv pc (.int sz :: .int 0 :: .ref a :: .int 0 :: .ref a0 :: rest) := by
  subst hp
  subst hw
  obtain ⟨hx, hb, hml, hown, hts, hK, hA, hR, hrr, hlk, hNW⟩ := G
  exact fun H locs ls hP hD hS hl => va_copyl hx hb (hml.trans hl.1.symm) hown (hts _ hL) (hts _ hN) (hts _ hSt) (hts _ hI) hK hP hD hS q0 q1 1 1 (ty := .long) ha0 ha1 rfl rfl rfl (by decide) (by decide) hz (by rw [show (0 : Int32).toNatClampNeg = 0 from rfl, Nat.zero_add]; exact hn) (by rw [show (0 : Int32).toNatClampNeg = 0 from rfl, Nat.zero_add]; exact hn) (fun i hi => rfl) (Nat.le_trans h1 hR.1) (Nat.le_trans hr (Nat.le_trans (by omega) hR.2.1)) hd (fun H locs hP hD hS => kk H locs ls hP hD hS hl)

theorem w_mmax (G : GG g E own cc nL ret d mc ms) {idx : Nat} {x y : Int32} (hL : Cond.methodLink own idx Lib.Math.max.name ∈ gtb) (hSt : Cond.static Lib.Math.max.name ∈ gtb) (hI : Cond.initialized "java/lang/Math" ∈ gtb) (hC : Cond.code Lib.Math.max.name Lib.Math.max.code 2 (some .int) ∈ gtb) (h1 : 1 ≤ d) (hc0 : cells ≤ mc) (hs0 : slots ≤ ms) (hr : (rest.map fun v => v.category).sum + 13 ≤ 40) (hd : decode cc pc = .ok (.invokestatic idx, 3)) (hp : pc + 3 = pc2) (kk : WW g E nL cells slots ws lv pc2 (.int (if x < y then y else x) :: rest)) : WW g E nL cells slots ws lv pc (.int y :: .int x :: rest) := by
  subst hp
  obtain ⟨hx, hb, hml, hown, hts, hK, hA, hR, hrr, hlk, hNW⟩ := G
  exact fun H locs ls hP hD hS hl => va_mmax hx hb (hml.trans hl.1.symm) hown (hts _ hL) (hts _ hSt) (hts _ hI) (hts _ hC) (Nat.le_trans h1 hR.1) (Nat.le_trans hr (Nat.le_trans (by omega) hR.2.1)) (Nat.le_trans hc0 hR.2.2.1) (Nat.le_trans hs0 hR.2.2.2) hd (kk H locs ls hP hD hS hl)
theorem w_mmaxL (G : GG g E own cc nL ret d mc ms) {idx : Nat} {x y : Int64} (hL : Cond.methodLink own idx Lib.MathLoose.max_long.x ∈ gtb) (hSt : Cond.static Lib.MathLoose.max_long.x ∈ gtb) (hI : Cond.initialized "java/lang/Math" ∈ gtb) (hC : Cond.code Lib.MathLoose.max_long.x Lib.MathLoose.max_long.code 4 (some .long) ∈ gtb) (h1 : 1 ≤ d) (hc0 : cells ≤ mc) (hs0 : slots ≤ ms) (hr : (rest.map fun v => v.category).sum + 15 ≤ 40) (hd : decode cc pc = .ok (.invokestatic idx, 3)) (hp : pc + 3 = pc2) (kk : WW g E nL cells slots ws lv pc2 (.long (if y < x then x else y) :: rest)) : WW g E nL cells slots ws lv pc (.long y :: .long x :: rest) := by
  subst hp
  obtain ⟨hx, hb, hml, hown, hts, hK, hA, hR, hrr, hlk, hNW⟩ := G
  exact fun H locs ls hP hD hS hl => va_mmax_long hx hb (hml.trans hl.1.symm) hown (hts _ hL) (hts _ hSt) (hts _ hI) (hts _ hC) (Nat.le_trans h1 hR.1) (Nat.le_trans hr (Nat.le_trans (by omega) hR.2.1)) (Nat.le_trans hc0 hR.2.2.1) (Nat.le_trans hs0 hR.2.2.2) hd (kk H locs ls hP hD hS hl)
theorem w_mabs (G : GG g E own cc nL ret d mc ms) {idx : Nat} {x : Int32} (hL : Cond.methodLink own idx Lib.Math.abs.name ∈ gtb) (hSt : Cond.static Lib.Math.abs.name ∈ gtb) (hI : Cond.initialized "java/lang/Math" ∈ gtb) (hC : Cond.code Lib.Math.abs.name Lib.Math.abs.code 1 (some .int) ∈ gtb) (h1 : 1 ≤ d) (hc0 : cells ≤ mc) (hs0 : slots ≤ ms) (hr : (rest.map fun v => v.category).sum + 13 ≤ 40) (hd : decode cc pc = .ok (.invokestatic idx, 3)) (hp : pc + 3 = pc2) (kk : WW g E nL cells slots ws lv pc2 (.int (if 0 ≤ x then x else 0 - x) :: rest)) : WW g E nL cells slots ws lv pc (.int x :: rest) := by
  subst hp
  obtain ⟨hx, hb, hml, hown, hts, hK, hA, hR, hrr, hlk, hNW⟩ := G
  exact fun H locs ls hP hD hS hl => va_mabs hx hb (hml.trans hl.1.symm) hown (hts _ hL) (hts _ hSt) (hts _ hI) (hts _ hC) (Nat.le_trans h1 hR.1) (Nat.le_trans hr (Nat.le_trans (by omega) hR.2.1)) (Nat.le_trans hc0 hR.2.2.1) (Nat.le_trans hs0 hR.2.2.2) hd (kk H locs ls hP hD hS hl)
/-- a callee, as own's entry idx names it: its words are among the tables' -/
def COK (own : String) (idx : Nat) (y : MethodName) (bytes : ByteArray) (maxL : Nat) (rt : Option FieldType) (n : Nat) : Prop := Cond.methodLink own idx y ∈ gtb ∧ Cond.initialized y.cls ∈ gtb ∧ Cond.code y bytes maxL rt ∈ gtb ∧ (y.cls ≠ "java/lang/invoke/MethodHandle" ∧ y.cls ≠ "java/lang/invoke/VarHandle" ∧ (parseMethodDescriptor y.desc).map (fun d => d.parameters.length) = some n) ∧ maxL ≤ 21
def VOK (own : String) (idx : Nat) (y : MethodName) (bytes : ByteArray) (maxL : Nat) (rt : Option FieldType) (n : Nat) : Prop := COK own idx y bytes maxL rt n ∧ Cond.instanceMethod y ∈ gtb ∧ Cond.selects y.cls y y ∈ gtb
def SOK (own : String) (idx : Nat) (y : MethodName) (bytes : ByteArray) (maxL : Nat) (rt : Option FieldType) (n : Nat) : Prop := COK own idx y bytes maxL rt n ∧ Cond.static y ∈ gtb
theorem tb_good : gtb.all goodWord = true := List.all_eq_true.mpr (fun w h => (List.mem_filter.mp h).2)
theorem tb_in {y : MethodName} {bytes : ByteArray} {maxL : Nat} {rt : Option FieldType} (h : Cond.code y bytes maxL rt ∈ gtb) : GoodIn gtb (Cond.code y bytes maxL rt :: gtb) := fun w hw => by
  have hm : w ∈ gtb := (List.mem_cons.mp hw).elim (fun e => e ▸ h) id
  exact ⟨hm, good_of_word (List.all_eq_true.mp tb_good w hm)⟩
theorem pp_blind {E : EV} {av : List Value} {ws : va_W} {sz : Nat} : FrameBlind (PP E av ws sz) := fun a U g mk q => by
  obtain ⟨q0, q1, qP, qK, qD, qN⟩ := q
  exact ⟨q0, q1, qP, va_K.moved (u := U) (U := U.calling g mk a) (Vm.Alike.refl U.vm) qK, qD, NWs.same (u := U) (U := U.calling g mk a) rfl qN⟩
theorem callB_at (G : GG g E own cc nL ret d mc ms) {idx : Nat} {y : MethodName} {bytes : ByteArray} {maxL n d' mc' ms' : Nat} {rt : Option FieldType} (K : COK own idx y bytes maxL rt n) (hd : d' < d) : CallB (xR g) (xs g) (xa g) own idx y bytes maxL rt (Cond.code y bytes maxL rt :: gtb) (rmm d' mc' ms') mc' ms' n := by
  obtain ⟨hx, hb, hml, hown, hts, hK, hA, hR, hrr, hlk, hNW⟩ := G
  refine callB_of n hts (tb_in K.2.2.1) rfl rfl rfl (hts _ K.2.1) (hts _ K.1) K.2.2.2.1 ⟨Nat.le_trans (show d' + 1 ≤ d from hd) hR.1, Nat.le_trans ?_ hR.2.1⟩
  have := K.2.2.2.2
  show 8 + (maxL + 11) + 40 * d' ≤ 40 * d
  omega
/-- behind a call: the callee's cells wc have become w1, the rest is as it was -/
theorem after_call (G : GG g E own cc nL ret d mc ms) {wc : va_W} {rest' : List Value} {v : Option Value} {mc' ms' : Nat} {H : Heap} {locs : List Loc} {ls : Array Slot} {stk : List Value} {av : List Value} (hP : va_P E.1 vwCl ws H) (hD : va_D (xA g) ws) (hS : va_S (xA g) (xs g).heap H locs) (isC isR : List Nat) (hC : isC.map (fun i => ws[i]?) = wc.map some) (hRr : isR.map (fun i => ws[i]?) = (isR.filterMap (fun i => ws[i]?)).map some) (hn : va_nd isR = true) (hdis : isR.all (fun i => !isC.contains i) = true)
    (hr : va_Run (xp g) (xl g) (xe g) (xR g) (xs g) (xm g) (xa g) (xb g) (xh g) (xc g) H locs cells slots mc' ms' (F0 (xm g) pc ls stk) rest (QQ E post (va_A wc H.size) av.toArray) (va_A wc H.size))
    (kk : ∀ (v : Option Value) (w1 : va_W) (H1 : Heap) (locs1 : List Loc), post v w1 → va_P E.1 vwCl (isR.filterMap (fun i => ws[i]?) ++ w1) H1 → va_D (xA g) (isR.filterMap (fun i => ws[i]?) ++ w1) → va_S (xA g) (xs g).heap H1 locs1 → W (xp g) (xl g) (xe g) (xR g) (xs g) (xm g) (xa g) (xb g) (xh g) (xc g) H1 locs1 (cells + mc') (slots + ms') (xQ g) (F0 (xm g) (pc + 3) ls (v.toList ++ rest))) : W (xp g) (xl g) (xe g) (xR g) (xs g) (xm g) (xa g) (xb g) (xh g) (xc g) H locs cells slots (xQ g) (F0 (xm g) pc ls stk) := by
  obtain ⟨hx, hb, hml, hown, hts, hK, hA, hR, hrr, hlk, hNW⟩ := G
  have hF := va_free (wc := wc) hD hS hA isC hC
  intro T hT X
  obtain ⟨v, st₀, t, T', L, h0, X', hL, e1, e2, ⟨⟨v', w1, hv, hp, hP1, hK1, hD1⟩, hz, hk⟩, stp⟩ := hr T hT X
  cases hv
  rw [h0] at hz hk
  obtain ⟨hP2, hD2⟩ := va_join hP hD isC isR hC hRr hn (fun i hi hi2 => by
    have := List.all_eq_true.mp hdis i hi
    simp [hi2] at this) hk hF hP1 hD1
  obtain ⟨t2, a1, b1⟩ := kk v w1 T'.heap (locs ++ L) hp (by rw [e1]; exact hP2) hD2
    ⟨Nat.le_trans hS.1 (by rw [e1]; exact hz), fun q h1 h2 => by rw [e1, hk q (Nat.lt_of_lt_of_le h1 hS.1) (fun z => h2 (hF q z))]; exact hS.2.1 q h1 h2, fun q hq => by
      rcases List.mem_append.mp hq with h | h
      · exact hS.2.2 q h
      · exact hF _ (hL q h)⟩ T' rfl X'
  exact ⟨t2, stp t2 a1, b1⟩
theorem pp_at (G : GG g E own cc nL ret d mc ms) {wc : va_W} {H : Heap} {av : List Value} (hP : va_P E.1 vwCl ws H) (hD : va_D (xA g) ws) (isC : List Nat) (hC : isC.map (fun i => ws[i]?) = wc.map some) (hnC : va_nd isC = true) : ∀ U : State, U.heap = H → (xs g).WarmedH U.vm → PP E av wc H.size av.toArray U := by
  intro U hU hW
  have hPc : va_P E.1 vwCl wc H := hP.sub isC (by
    have h : (isC.map (fun i => ws[i]?)).filterMap id = (wc.map some).filterMap id := by rw [hC]
    rw [List.filterMap_map, List.filterMap_map] at h
    simpa using h)
  have hDc := hD.sub (ws' := wc) isC hnC hC
  exact ⟨rfl, by rw [hU], by rw [hU]; exact hPc, va_K.moved hW.alike G.2.2.2.2.2.1, hDc.weaken (fun _ _ _ _ => trivial), NWs.warm hW G.2.2.2.2.2.2.2.2.2.2⟩
theorem w_callV (G : GG g E own cc nL ret d mc ms) {idx : Nat} {y : MethodName} {bytes : ByteArray} {maxL n d' mc' ms' : Nat} {rt : Option FieldType} {wc : va_W} {o : Nat} {As : List Value} (K : VOK own idx y bytes maxL rt n) (hM : Ret (xl g) E y bytes maxL rt d' mc' ms' wc (.ref o :: As) post) (hdd : d' < d) (ci : Nat) {T : u_T} {N : Nat} {fs : List Value} (hc : vwCl[ci]? = some (y.cls, T, N)) (hrv : wc[0]? = some (o, .inr (ci, fs))) (isC isR : List Nat) (hC : isC.map (fun i => ws[i]?) = wc.map some) (hRr : isR.map (fun i => ws[i]?) = (isR.filterMap (fun i => ws[i]?)).map some) (hnC : va_nd isC = true) (hn : va_nd isR = true) (hdis : isR.all (fun i => !isC.contains i) = true) (hlen : As.length = n) (hst : st = As.reverse ++ .ref o :: rest) (hW : (rest.map fun v => v.category).sum ≤ 8) (hf : cells + mc' ≤ mc ∧ slots + ms' ≤ ms) (hd : decode cc pc = .ok (.invokevirtual idx, 3)) (hp : pc + 3 = pc2)
    (k : ∀ (v : Option Value) (w1 : va_W), post v w1 → WW g E nL (cells + mc') (slots + ms') (isR.filterMap (fun i => ws[i]?) ++ w1) lv pc2 (v.toList ++ rest)) : WW g E nL cells slots ws lv pc st := by
  subst hp
  intro H locs ls hP hD hS hl
  have hR := G.2.2.2.2.2.2.2.1
  have hpp := pp_at (wc := wc) (av := .ref o :: As) G hP hD isC hC hnC
  refine after_call (post := post) (wc := wc) (av := .ref o :: As) (v := none) (rest' := []) G hP hD hS isC isR hC hRr hn hdis (va_runV (As := As) (rest := rest) ⟨G.1, G.2.1, G.2.2.1, G.2.2.2.1, G.2.2.2.2.1⟩ (hM H.size) ⟨callB_at G K.1 hdd, G.2.2.2.2.1 _ K.2.1, G.2.2.2.2.1 _ K.2.2⟩ ⟨pp_blind, ?_, hpp⟩ rfl hlen hl.1 hst (lv_room hW) hd ⟨Nat.le_trans hf.1 hR.2.2.1, Nat.le_trans hf.2 hR.2.2.2⟩) (fun v w1 H1 locs1 hp hP1 hD1 hS1 => k v w1 hp H1 locs1 ls hP1 hD1 hS1 hl)
  have hPc : va_P E.1 vwCl wc H := hP.sub isC (by
    have h : (isC.map (fun i => ws[i]?)).filterMap id = (wc.map some).filterMap id := by rw [hC]
    rw [List.filterMap_map, List.filterMap_map] at h
    simpa using h)
  exact va_recv G.2.2.2.2.2.1 hPc (ci := ci) (q0 := 0) hc hrv
theorem w_callS (G : GG g E own cc nL ret d mc ms) {idx : Nat} {y : MethodName} {bytes : ByteArray} {maxL n d' mc' ms' : Nat} {rt : Option FieldType} {wc : va_W} {As : List Value} (K : SOK own idx y bytes maxL rt n) (hM : Ret (xl g) E y bytes maxL rt d' mc' ms' wc As post) (hdd : d' < d) (isC isR : List Nat) (hC : isC.map (fun i => ws[i]?) = wc.map some) (hRr : isR.map (fun i => ws[i]?) = (isR.filterMap (fun i => ws[i]?)).map some) (hnC : va_nd isC = true) (hn : va_nd isR = true) (hdis : isR.all (fun i => !isC.contains i) = true) (hlen : As.length = n) (hst : st = As.reverse ++ rest) (hW : (rest.map fun v => v.category).sum ≤ 8) (hf : cells + mc' ≤ mc ∧ slots + ms' ≤ ms) (hd : decode cc pc = .ok (.invokestatic idx, 3)) (hp : pc + 3 = pc2)
    (k : ∀ (v : Option Value) (w1 : va_W), post v w1 → WW g E nL (cells + mc') (slots + ms') (isR.filterMap (fun i => ws[i]?) ++ w1) lv pc2 (v.toList ++ rest)) : WW g E nL cells slots ws lv pc st := by
  subst hp
  intro H locs ls hP hD hS hl
  have hR := G.2.2.2.2.2.2.2.1
  have hpp := pp_at (wc := wc) (av := As) G hP hD isC hC hnC
  exact after_call (post := post) (wc := wc) (av := As) (v := none) (rest' := []) G hP hD hS isC isR hC hRr hn hdis (va_runS (As := As) (rest := rest) ⟨G.1, G.2.1, G.2.2.1, G.2.2.2.1, G.2.2.2.2.1⟩ (hM H.size) ⟨callB_at G K.1 hdd, G.2.2.2.2.1 _ K.2⟩ ⟨pp_blind, hpp⟩ rfl hlen hl.1 hst (lv_room hW) hd ⟨Nat.le_trans hf.1 hR.2.2.1, Nat.le_trans hf.2 hR.2.2.2⟩) (fun v w1 H1 locs1 hp hP1 hD1 hS1 => k v w1 hp H1 locs1 ls hP1 hD1 hS1 hl)
theorem w_callI (G : GG g E own cc nL ret d mc ms) {idx : Nat} {y : MethodName} {bytes : ByteArray} {maxL n d' mc' ms' : Nat} {wc : va_W} {o : Nat} {As : List Value} (K : COK own idx y bytes maxL none n ∧ y.name = "<init>" ∧ Cond.instanceMethod y ∈ gtb) (hM : Ret (xl g) E y bytes maxL none d' mc' ms' wc (.ref o :: As) post) (hdd : d' < d) (isC isR : List Nat) (hC : isC.map (fun i => ws[i]?) = wc.map some) (hRr : isR.map (fun i => ws[i]?) = (isR.filterMap (fun i => ws[i]?)).map some) (hnC : va_nd isC = true) (hn : va_nd isR = true) (hdis : isR.all (fun i => !isC.contains i) = true) (hlen : As.length = n) (hst : st = As.reverse ++ .ref o :: rest) (hW : (rest.map fun v => v.category).sum ≤ 8) (hf : cells + mc' ≤ mc ∧ slots + ms' ≤ ms) (hd : decode cc pc = .ok (.invokespecial idx, 3)) (hp : pc + 3 = pc2)
    (k : ∀ (v : Option Value) (w1 : va_W), post v w1 → WW g E nL (cells + mc') (slots + ms') (isR.filterMap (fun i => ws[i]?) ++ w1) lv pc2 (v.toList ++ rest)) : WW g E nL cells slots ws lv pc st := by
  subst hp
  intro H locs ls hP hD hS hl
  have hR := G.2.2.2.2.2.2.2.1
  have hpp := pp_at (wc := wc) (av := .ref o :: As) G hP hD isC hC hnC
  exact after_call (post := post) (wc := wc) (av := .ref o :: As) (v := none) (rest' := []) G hP hD hS isC isR hC hRr hn hdis (va_runI (As := As) (rest := rest) ⟨G.1, G.2.1, G.2.2.1, G.2.2.2.1, G.2.2.2.2.1⟩ (hM H.size) ⟨callB_at G K.1 hdd, K.2.1, G.2.2.2.2.1 _ K.2.2⟩ ⟨pp_blind, hpp⟩ rfl hlen hl.1 hst (lv_room hW) hd ⟨Nat.le_trans hf.1 hR.2.2.1, Nat.le_trans hf.2 hR.2.2.2⟩) (fun v w1 H1 locs1 hp hP1 hD1 hS1 => k v w1 hp H1 locs1 ls hP1 hD1 hS1 hl)
/-- the world in another order -/
theorem w_ws (is : List Nat) (hn : va_nd is = true) (hs : is.map (fun i => ws[i]?) = ws2.map some) (k : WW g E nL cells slots ws2 lv pc st) : WW g E nL cells slots ws lv pc st := fun H locs ls hP hD hS hl => k H locs ls (hP.sub is (by
    have h : (is.map (fun i => ws[i]?)).filterMap id = (ws2.map some).filterMap id := by rw [hs]
    rw [List.filterMap_map, List.filterMap_map] at h
    simpa using h)) (hD.sub is hn hs) hS hl
/-- calls with one answer, of a method that makes nothing: v and w1 are known, isP puts the world in order again -/
theorem w_cV1 (G : GG g E own cc nL ret d mc ms) {idx : Nat} {y : MethodName} {bytes : ByteArray} {maxL n d' : Nat} {rt : Option FieldType} {wc w1 : va_W} {o : Nat} {As : List Value} {v : Option Value} (K : VOK own idx y bytes maxL rt n) (hM : Ret1 (xl g) E y bytes maxL rt d' wc (.ref o :: As) v w1) (hdd : d' < d) (ci : Nat) {T : u_T} {N : Nat} {fs : List Value} (hc : vwCl[ci]? = some (y.cls, T, N)) (hrv : wc[0]? = some (o, .inr (ci, fs))) (isC isR isP : List Nat) (hC : isC.map (fun i => ws[i]?) = wc.map some) (hRr : isR.map (fun i => ws[i]?) = (isR.filterMap (fun i => ws[i]?)).map some) (hnC : va_nd isC = true) (hn : va_nd isR = true) (hdis : isR.all (fun i => !isC.contains i) = true) (hnP : va_nd isP = true) (hP2 : isP.map (fun i => (isR.filterMap (fun i => ws[i]?) ++ w1)[i]?) = ws2.map some) (hlen : As.length = n) (hst : st = As.reverse ++ .ref o :: rest) (hW : (rest.map fun v => v.category).sum ≤ 8) (hf : cells ≤ mc ∧ slots ≤ ms) (hd : decode cc pc = .ok (.invokevirtual idx, 3)) (hp : pc + 3 = pc2)
    {st2 : List Value} (hst2 : v.toList ++ rest = st2) (k : WW g E nL cells slots ws2 lv pc2 st2) : WW g E nL cells slots ws lv pc st := by
  subst hst2
  exact w_callV G K hM hdd ci hc hrv isC isR hC hRr hnC hn hdis hlen hst hW hf hd hp (fun v' w' h => by obtain ⟨rfl, rfl⟩ := h; exact w_ws isP hnP hP2 k)
theorem w_cS1 (G : GG g E own cc nL ret d mc ms) {idx : Nat} {y : MethodName} {bytes : ByteArray} {maxL n d' : Nat} {rt : Option FieldType} {wc w1 : va_W} {As : List Value} {v : Option Value} (K : SOK own idx y bytes maxL rt n) (hM : Ret1 (xl g) E y bytes maxL rt d' wc As v w1) (hdd : d' < d) (isC isR isP : List Nat) (hC : isC.map (fun i => ws[i]?) = wc.map some) (hRr : isR.map (fun i => ws[i]?) = (isR.filterMap (fun i => ws[i]?)).map some) (hnC : va_nd isC = true) (hn : va_nd isR = true) (hdis : isR.all (fun i => !isC.contains i) = true) (hnP : va_nd isP = true) (hP2 : isP.map (fun i => (isR.filterMap (fun i => ws[i]?) ++ w1)[i]?) = ws2.map some) (hlen : As.length = n) (hst : st = As.reverse ++ rest) (hW : (rest.map fun v => v.category).sum ≤ 8) (hf : cells ≤ mc ∧ slots ≤ ms) (hd : decode cc pc = .ok (.invokestatic idx, 3)) (hp : pc + 3 = pc2)
    {st2 : List Value} (hst2 : v.toList ++ rest = st2) (k : WW g E nL cells slots ws2 lv pc2 st2) : WW g E nL cells slots ws lv pc st := by
  subst hst2
  exact w_callS G K hM hdd isC isR hC hRr hnC hn hdis hlen hst hW hf hd hp (fun v' w' h => by obtain ⟨rfl, rfl⟩ := h; exact w_ws isP hnP hP2 k)

/-- the callee's world is the caller's -/
theorem w_cV0 (G : GG g E own cc nL ret d mc ms) {idx : Nat} {y : MethodName} {bytes : ByteArray} {maxL n d' : Nat} {rt : Option FieldType} {o : Nat} {As : List Value} {v : Option Value} (K : VOK own idx y bytes maxL rt n) (hM : Ret1 (xl g) E y bytes maxL rt d' ws (.ref o :: As) v ws2) (hdd : d' < d) (ci : Nat) {T : u_T} {N : Nat} {fs : List Value} (hc : vwCl[ci]? = some (y.cls, T, N)) (hrv : ws[0]? = some (o, .inr (ci, fs))) (hlen : As.length = n) (hst : st = As.reverse ++ .ref o :: rest) (hW : (rest.map fun v => v.category).sum ≤ 8) (hf : cells ≤ mc ∧ slots ≤ ms) (hd : decode cc pc = .ok (.invokevirtual idx, 3)) (hp : pc + 3 = pc2)
    {st2 : List Value} (hst2 : v.toList ++ rest = st2) (k : WW g E nL cells slots ws2 lv pc2 st2) : WW g E nL cells slots ws lv pc st := by
  subst hst2
  subst hp
  intro H locs ls hP hD hS hl
  have hR := G.2.2.2.2.2.2.2.1
  have hF : ∀ q, va_A ws H.size q → xA g q := fun q hq => hq.elim (fun ⟨k, e, hk⟩ => hD.2 k _ hk) (fun h => G.2.2.2.2.2.2.1 q (Nat.le_trans hS.1 h))
  have hr := va_runV (p := xp g) (l := xl g) (e := xe g) (below := xb g) (meth := xh g) (locs := locs) (cells := cells) (slots := slots) (g := F0 (xm g) pc ls st) (As := As) (rest := rest) ⟨G.1, G.2.1, G.2.2.1, G.2.2.2.1, G.2.2.2.2.1⟩ (hM H.size) ⟨callB_at G K.1 hdd, G.2.2.2.2.1 _ K.2.1, G.2.2.2.2.1 _ K.2.2⟩ ⟨pp_blind, va_recv G.2.2.2.2.2.1 hP (ci := ci) (q0 := 0) hc hrv, fun U hU hW2 => ⟨rfl, by rw [hU], by rw [hU]; exact hP, va_K.moved hW2.alike G.2.2.2.2.2.1, hD.weaken (fun _ _ _ _ => trivial), NWs.warm hW2 G.2.2.2.2.2.2.2.2.2.2⟩⟩ rfl hlen hl.1 hst (lv_room hW) hd ⟨Nat.le_trans hf.1 hR.2.2.1, Nat.le_trans hf.2 hR.2.2.2⟩
  intro T hT X
  obtain ⟨v, st₀, t, T', L, h0, X', hL, e1, e2, ⟨⟨v', w1, hv, ⟨rfl, rfl⟩, hP1, hK1, hD1⟩, hz, hk⟩, stp⟩ := hr T hT X
  cases hv
  rw [h0] at hz hk
  obtain ⟨t2, a1, b1⟩ := k T'.heap (locs ++ L) ls (by rw [e1]; exact hP1) (hD1.weaken (fun _ q _ h => hF q.1 h))
    ⟨Nat.le_trans hS.1 (by rw [e1]; exact hz), fun q h1 h2 => by rw [e1, hk q (Nat.lt_of_lt_of_le h1 hS.1) (fun z => h2 (hF q z))]; exact hS.2.1 q h1 h2, fun q hq => by
      rcases List.mem_append.mp hq with h | h
      · exact hS.2.2 q h
      · exact hF _ (hL q h)⟩ hl T' rfl X'
  exact ⟨t2, stp t2 a1, b1⟩
/-- a static method without a world -/
theorem w_cS0 (G : GG g E own cc nL ret d mc ms) {idx : Nat} {y : MethodName} {bytes : ByteArray} {maxL n d' : Nat} {rt : Option FieldType} {As : List Value} {v : Option Value} (K : SOK own idx y bytes maxL rt n) (hM : Ret1 (xl g) E y bytes maxL rt d' [] As v []) (hdd : d' < d) (hlen : As.length = n) (hst : st = As.reverse ++ rest) (hW : (rest.map fun v => v.category).sum ≤ 8) (hf : cells ≤ mc ∧ slots ≤ ms) (hd : decode cc pc = .ok (.invokestatic idx, 3)) (hp : pc + 3 = pc2)
    {st2 : List Value} (hst2 : v.toList ++ rest = st2) (k : WW g E nL cells slots ws lv pc2 st2) : WW g E nL cells slots ws lv pc st := by
  subst hst2
  subst hp
  intro H locs ls hP hD hS hl
  have hR := G.2.2.2.2.2.2.2.1
  have hF : ∀ q, va_A [] H.size q → xA g q := fun q hq => hq.elim (fun ⟨k, e, hk⟩ => by simp at hk) (fun h => G.2.2.2.2.2.2.1 q (Nat.le_trans hS.1 h))
  have hr := va_runS (p := xp g) (l := xl g) (e := xe g) (below := xb g) (meth := xh g) (locs := locs) (cells := cells) (slots := slots) (g := F0 (xm g) pc ls st) (As := As) (rest := rest) ⟨G.1, G.2.1, G.2.2.1, G.2.2.2.1, G.2.2.2.2.1⟩ (hM H.size) ⟨callB_at G K.1 hdd, G.2.2.2.2.1 _ K.2⟩ ⟨pp_blind, fun U hU hW2 => ⟨rfl, by rw [hU], fun k q h => by simp at h, va_K.moved hW2.alike G.2.2.2.2.2.1, ⟨fun i j p q h => by simp at h, fun k q h => by simp at h⟩, NWs.warm hW2 G.2.2.2.2.2.2.2.2.2.2⟩⟩ rfl hlen hl.1 hst (lv_room hW) hd ⟨Nat.le_trans hf.1 hR.2.2.1, Nat.le_trans hf.2 hR.2.2.2⟩
  intro T hT X
  obtain ⟨v, st₀, t, T', L, h0, X', hL, e1, e2, ⟨⟨v', w1, hv, ⟨rfl, rfl⟩, hP1, hK1, hD1⟩, hz, hk⟩, stp⟩ := hr T hT X
  cases hv
  rw [h0] at hz hk
  have hlt : ∀ (k : Nat) (q : Nat × va_E), ws[k]? = some q → T'.heap[q.1]? = H[q.1]? := fun k q hq => by
    rw [e1]
    have hb : q.1 < H.size := (hP k q hq).lt
    exact hk q.1 hb (fun h => h.elim (fun ⟨k, e, hk⟩ => by simp at hk) (fun h => absurd hb (Nat.not_lt.mpr h)))
  obtain ⟨t2, a1, b1⟩ := k T'.heap (locs ++ L) ls (va_P.kept hP hlt) hD
    ⟨Nat.le_trans hS.1 (by rw [e1]; exact hz), fun q h1 h2 => by rw [e1, hk q (Nat.lt_of_lt_of_le h1 hS.1) (fun z => h2 (hF q z))]; exact hS.2.1 q h1 h2, fun q hq => by
      rcases List.mem_append.mp hq with h | h
      · exact hS.2.2 q h
      · exact hF _ (hL q h)⟩ hl T' rfl X'
  exact ⟨t2, stp t2 a1, b1⟩
/-- the same of a nest mate -/
def MOK (own : String) (idx : Nat) (y : MethodName) (bytes : ByteArray) (maxL : Nat) (rt : Option FieldType) (n : Nat) (host : String) : Prop := (own, idx, y, host) ∈ nestL ∧ Cond.initialized y.cls ∈ gtb ∧ Cond.code y bytes maxL rt ∈ gtb ∧ (y.cls ≠ "java/lang/invoke/MethodHandle" ∧ y.cls ≠ "java/lang/invoke/VarHandle" ∧ (parseMethodDescriptor y.desc).map (fun d => d.parameters.length) = some n) ∧ maxL ≤ 21
def NOK (own : String) (idx : Nat) (y : MethodName) (bytes : ByteArray) (maxL : Nat) (rt : Option FieldType) (n : Nat) (host : String) : Prop := MOK own idx y bytes maxL rt n host ∧ Cond.static y ∈ gtb
theorem callN_at (G : GG g E own cc nL ret d mc ms) {idx : Nat} {y : MethodName} {bytes : ByteArray} {maxL n d' mc' ms' : Nat} {rt : Option FieldType} {host : String} (K : MOK own idx y bytes maxL rt n host) (hd : d' < d) : va_CN (xR g) (xs g) (xa g) own idx y host bytes maxL rt (Cond.code y bytes maxL rt :: gtb) (rmm d' mc' ms') mc' ms' n := by
  obtain ⟨hx, hb, hml, hown, hts, hK, hA, hR, hrr, hlk, hNW⟩ := G
  refine va_cnB n hts (tb_in K.2.2.1) rfl rfl rfl (hNW.1 _ K.1) (hts _ K.2.1) K.2.2.2.1 ⟨Nat.le_trans (show d' + 1 ≤ d from hd) hR.1, Nat.le_trans ?_ hR.2.1⟩
  have := K.2.2.2.2
  show 8 + (maxL + 11) + 40 * d' ≤ 40 * d
  omega
/-- a static method of a nest mate, without a world -/
theorem w_cS0N (G : GG g E own cc nL ret d mc ms) {idx : Nat} {y : MethodName} {bytes : ByteArray} {maxL n d' : Nat} {rt : Option FieldType} {As : List Value} {v : Option Value} {host : String} (K : NOK own idx y bytes maxL rt n host) (hM : Ret1 (xl g) E y bytes maxL rt d' [] As v []) (hdd : d' < d) (hlen : As.length = n) (hst : st = As.reverse ++ rest) (hW : (rest.map fun v => v.category).sum ≤ 8) (hf : cells ≤ mc ∧ slots ≤ ms) (hd : decode cc pc = .ok (.invokestatic idx, 3)) (hp : pc + 3 = pc2)
    {st2 : List Value} (hst2 : v.toList ++ rest = st2) (k : WW g E nL cells slots ws lv pc2 st2) : WW g E nL cells slots ws lv pc st := by
  subst hst2
  subst hp
  intro H locs ls hP hD hS hl
  have hR := G.2.2.2.2.2.2.2.1
  have hF : ∀ q, va_A [] H.size q → xA g q := fun q hq => hq.elim (fun ⟨k, e, hk⟩ => by simp at hk) (fun h => G.2.2.2.2.2.2.1 q (Nat.le_trans hS.1 h))
  have hr := va_runSN (host := host) (p := xp g) (l := xl g) (e := xe g) (below := xb g) (meth := xh g) (locs := locs) (cells := cells) (slots := slots) (g := F0 (xm g) pc ls st) (As := As) (rest := rest) ⟨G.1, G.2.1, G.2.2.1, G.2.2.2.1, G.2.2.2.2.1⟩ (hM H.size) ⟨callN_at G K.1 hdd, G.2.2.2.2.1 _ K.2, trivial⟩ ⟨pp_blind, fun U hU hW2 => ⟨rfl, by rw [hU], fun k q h => by simp at h, va_K.moved hW2.alike G.2.2.2.2.2.1, ⟨fun i j p q h => by simp at h, fun k q h => by simp at h⟩, NWs.warm hW2 G.2.2.2.2.2.2.2.2.2.2⟩⟩ rfl hlen hl.1 hst (lv_room hW) hd ⟨Nat.le_trans hf.1 hR.2.2.1, Nat.le_trans hf.2 hR.2.2.2⟩
  intro T hT X
  obtain ⟨v, st₀, t, T', L, h0, X', hL, e1, e2, ⟨⟨v', w1, hv, ⟨rfl, rfl⟩, hP1, hK1, hD1⟩, hz, hk⟩, stp⟩ := hr T hT X
  cases hv
  rw [h0] at hz hk
  have hlt : ∀ (k : Nat) (q : Nat × va_E), ws[k]? = some q → T'.heap[q.1]? = H[q.1]? := fun k q hq => by
    rw [e1]
    have hb : q.1 < H.size := (hP k q hq).lt
    exact hk q.1 hb (fun h => h.elim (fun ⟨k, e, hk⟩ => by simp at hk) (fun h => absurd hb (Nat.not_lt.mpr h)))
  obtain ⟨t2, a1, b1⟩ := k T'.heap (locs ++ L) ls (va_P.kept hP hlt) hD
    ⟨Nat.le_trans hS.1 (by rw [e1]; exact hz), fun q h1 h2 => by rw [e1, hk q (Nat.lt_of_lt_of_le h1 hS.1) (fun z => h2 (hF q z))]; exact hS.2.1 q h1 h2, fun q hq => by
      rcases List.mem_append.mp hq with h | h
      · exact hS.2.2 q h
      · exact hF _ (hL q h)⟩ hl T' rfl X'
  exact ⟨t2, stp t2 a1, b1⟩
theorem w_callIN (G : GG g E own cc nL ret d mc ms) {idx : Nat} {y : MethodName} {bytes : ByteArray} {maxL n d' mc' ms' : Nat} {wc : va_W} {o : Nat} {As : List Value} {host : String} (K : MOK own idx y bytes maxL none n host ∧ y.name = "<init>" ∧ Cond.instanceMethod y ∈ gtb) (hM : Ret (xl g) E y bytes maxL none d' mc' ms' wc (.ref o :: As) post) (hdd : d' < d) (isC isR : List Nat) (hC : isC.map (fun i => ws[i]?) = wc.map some) (hRr : isR.map (fun i => ws[i]?) = (isR.filterMap (fun i => ws[i]?)).map some) (hnC : va_nd isC = true) (hn : va_nd isR = true) (hdis : isR.all (fun i => !isC.contains i) = true) (hlen : As.length = n) (hst : st = As.reverse ++ .ref o :: rest) (hW : (rest.map fun v => v.category).sum ≤ 8) (hf : cells + mc' ≤ mc ∧ slots + ms' ≤ ms) (hd : decode cc pc = .ok (.invokespecial idx, 3)) (hp : pc + 3 = pc2)
    (k : ∀ (v : Option Value) (w1 : va_W), post v w1 → WW g E nL (cells + mc') (slots + ms') (isR.filterMap (fun i => ws[i]?) ++ w1) lv pc2 (v.toList ++ rest)) : WW g E nL cells slots ws lv pc st := by
  subst hp
  intro H locs ls hP hD hS hl
  have hR := G.2.2.2.2.2.2.2.1
  have hpp := pp_at (wc := wc) (av := .ref o :: As) G hP hD isC hC hnC
  exact after_call (post := post) (wc := wc) (av := .ref o :: As) (v := none) (rest' := []) G hP hD hS isC isR hC hRr hn hdis (va_runIN (host := host) (As := As) (rest := rest) ⟨G.1, G.2.1, G.2.2.1, G.2.2.2.1, G.2.2.2.2.1⟩ (hM H.size) ⟨callN_at G K.1 hdd, K.2.1, G.2.2.2.2.1 _ K.2.2⟩ ⟨pp_blind, hpp⟩ rfl hlen hl.1 hst (lv_room hW) hd ⟨Nat.le_trans hf.1 hR.2.2.1, Nat.le_trans hf.2 hR.2.2.2⟩) (fun v w1 H1 locs1 hp hP1 hD1 hS1 => k v w1 hp H1 locs1 ls hP1 hD1 hS1 hl)
end Base2
