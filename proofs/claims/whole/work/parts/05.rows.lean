section JR
variable {X : CX} {V : VV} {cc : ByteArray} {nL : Nat} {own : String} {rt : Option FieldType} {rm : Room} {α : Type} {Q : α → State → Prop} {pc : Nat} {lv lv' : List (Nat × Value)} {st : List Value} {u : MM} {o o1 o2 : Option α}
theorem j_none : JJ X V nL Q pc lv st u (none : Option α) := fun out ho => by cases ho
/-- fewer locals, in another order -/
theorem j_sub (ks : List Nat) (hk : lv_pick lv ks = lv') (kk : JJ X V nL Q pc lv' st u o) : JJ X V nL Q pc lv st u o := fun out ho H locs la hP hS hl => kk out ho H locs la hP hS (lv_sub hl ks hk)
theorem j_pc {pc' : Nat} (h : pc = pc') (kk : JJ X V nL Q pc' lv st u o) : JJ X V nL Q pc lv st u o := h ▸ kk
theorem j_iload (F : FX X V cc nL own rt rm) {i : Nat} {x : Int32} (hd : decode cc pc = .ok (.iload i, 2)) (k : Nat) (hk : lv[k]? = some (i, .int x)) (kk : JJ X V nL Q (pc + 2) lv (.int x :: st) u o) : JJ X V nL Q pc lv st u o := fun out ho H locs la hP hS hl => lv_iload F.1 F.2.1 hd (lv_at hl k hk) (kk out ho H locs la hP hS hl)
theorem j_iload_n (F : FX X V cc nL own rt rm) {n : Fin 4} {i : Nat} {x : Int32} (hd : decode cc pc = .ok (.iload_n n, 1)) (hi : (n : Nat) = i) (k : Nat) (hk : lv[k]? = some (i, .int x)) (kk : JJ X V nL Q (pc + 1) lv (.int x :: st) u o) : JJ X V nL Q pc lv st u o := fun out ho H locs la hP hS hl => lv_iload_n F.1 F.2.1 hd hi (lv_at hl k hk) (kk out ho H locs la hP hS hl)
theorem j_lload (F : FX X V cc nL own rt rm) {i : Nat} {x : Int64} (hd : decode cc pc = .ok (.lload i, 2)) (k : Nat) (hk : lv[k]? = some (i, .long x)) (kk : JJ X V nL Q (pc + 2) lv (.long x :: st) u o) : JJ X V nL Q pc lv st u o := fun out ho H locs la hP hS hl => lv_lload F.1 F.2.1 hd (lv_at hl k hk) (kk out ho H locs la hP hS hl)
theorem j_lload_n (F : FX X V cc nL own rt rm) {n : Fin 4} {i : Nat} {x : Int64} (hd : decode cc pc = .ok (.lload_n n, 1)) (hi : (n : Nat) = i) (k : Nat) (hk : lv[k]? = some (i, .long x)) (kk : JJ X V nL Q (pc + 1) lv (.long x :: st) u o) : JJ X V nL Q pc lv st u o := fun out ho H locs la hP hS hl => lv_lload_n F.1 F.2.1 hd hi (lv_at hl k hk) (kk out ho H locs la hP hS hl)
theorem j_aload (F : FX X V cc nL own rt rm) {i : Nat} {x : Nat} (hd : decode cc pc = .ok (.aload i, 2)) (k : Nat) (hk : lv[k]? = some (i, .ref x)) (kk : JJ X V nL Q (pc + 2) lv (.ref x :: st) u o) : JJ X V nL Q pc lv st u o := fun out ho H locs la hP hS hl => lv_aload F.1 F.2.1 hd (lv_at hl k hk) (kk out ho H locs la hP hS hl)
theorem j_aload_n (F : FX X V cc nL own rt rm) {n : Fin 4} {i : Nat} {x : Nat} (hd : decode cc pc = .ok (.aload_n n, 1)) (hi : (n : Nat) = i) (k : Nat) (hk : lv[k]? = some (i, .ref x)) (kk : JJ X V nL Q (pc + 1) lv (.ref x :: st) u o) : JJ X V nL Q pc lv st u o := fun out ho H locs la hP hS hl => lv_aload_n F.1 F.2.1 hd hi (lv_at hl k hk) (kk out ho H locs la hP hS hl)
theorem j_istore (F : FX X V cc nL own rt rm) {i : Nat} {x : Int32} (hd : decode cc pc = .ok (.istore i, 2)) (hn : i < nL) (hl : (i, Value.int x) :: lv.filter (fun q => !(q.1 == i) && !(q.1 + 1 == i && q.2.category == 2)) = lv') (kk : JJ X V nL Q (pc + 2) lv' st u o) : JJ X V nL Q pc lv (.int x :: st) u o := fun out ho H locs la hP hS h => lv_istore F.1 F.2.1 hd h hn hl (fun la h => kk out ho H locs la hP hS h)
theorem j_istore_n (F : FX X V cc nL own rt rm) {n : Fin 4} {i : Nat} {x : Int32} (hd : decode cc pc = .ok (.istore_n n, 1)) (hi : (n : Nat) = i) (hn : i < nL) (hl : (i, Value.int x) :: lv.filter (fun q => !(q.1 == i) && !(q.1 + 1 == i && q.2.category == 2)) = lv') (kk : JJ X V nL Q (pc + 1) lv' st u o) : JJ X V nL Q pc lv (.int x :: st) u o := fun out ho H locs la hP hS h => lv_istore_n F.1 F.2.1 hd hi h hn hl (fun la h => kk out ho H locs la hP hS h)
theorem j_lstore (F : FX X V cc nL own rt rm) {i : Nat} {x : Int64} (hd : decode cc pc = .ok (.lstore i, 2)) (hn : i + 1 < nL) (hl : (i, Value.long x) :: lv.filter (fun q => !(q.1 == i) && (!(q.1 == i + 1) && !(q.1 + 1 == i && q.2.category == 2))) = lv') (kk : JJ X V nL Q (pc + 2) lv' st u o) : JJ X V nL Q pc lv (.long x :: st) u o := fun out ho H locs la hP hS h => lv_lstore F.1 F.2.1 hd h hn hl (fun la h => kk out ho H locs la hP hS h)
theorem j_lstore_n (F : FX X V cc nL own rt rm) {n : Fin 4} {i : Nat} {x : Int64} (hd : decode cc pc = .ok (.lstore_n n, 1)) (hi : (n : Nat) = i) (hn : i + 1 < nL) (hl : (i, Value.long x) :: lv.filter (fun q => !(q.1 == i) && (!(q.1 == i + 1) && !(q.1 + 1 == i && q.2.category == 2))) = lv') (kk : JJ X V nL Q (pc + 1) lv' st u o) : JJ X V nL Q pc lv (.long x :: st) u o := fun out ho H locs la hP hS h => lv_lstore_n F.1 F.2.1 hd hi h hn hl (fun la h => kk out ho H locs la hP hS h)
theorem j_iinc (F : FX X V cc nL own rt rm) {i k : Nat} {n : Int} {x v : Int32} (hd : decode cc pc = .ok (.iinc i n, 3)) (hk : lv[k]? = some (i, .int x)) (hv : x + Int32.ofInt n = v) (hn : i < nL) (hl : (i, Value.int v) :: lv.filter (fun q => !(q.1 == i) && !(q.1 + 1 == i && q.2.category == 2)) = lv') (kk : JJ X V nL Q (pc + 3) lv' st u o) : JJ X V nL Q pc lv st u o := fun out ho H locs la hP hS h => lv_iinc F.1 F.2.1 hd h hk hv hn hl (fun la h => kk out ho H locs la hP hS h)
theorem j_iconst (F : FX X V cc nL own rt rm) {n : Int} {v : Int32} (hd : decode cc pc = .ok (.iconst n, 1)) (hv : Int32.ofInt n = v) (kk : JJ X V nL Q (pc + 1) lv (.int v :: st) u o) : JJ X V nL Q pc lv st u o := fun out ho H locs la hP hS hl => lv_iconst F.1 F.2.1 hd hv (kk out ho H locs la hP hS hl)
theorem j_bipush (F : FX X V cc nL own rt rm) {n : Int} {v : Int32} (hd : decode cc pc = .ok (.bipush n, 2)) (hv : (Int8.ofInt n).toInt32 = v) (kk : JJ X V nL Q (pc + 2) lv (.int v :: st) u o) : JJ X V nL Q pc lv st u o := fun out ho H locs la hP hS hl => lv_bipush F.1 F.2.1 hd hv (kk out ho H locs la hP hS hl)
theorem j_sipush (F : FX X V cc nL own rt rm) {n : Int} {v : Int32} (hd : decode cc pc = .ok (.sipush n, 3)) (hv : (Int16.ofInt n).toInt32 = v) (kk : JJ X V nL Q (pc + 3) lv (.int v :: st) u o) : JJ X V nL Q pc lv st u o := fun out ho H locs la hP hS hl => lv_sipush F.1 F.2.1 hd hv (kk out ho H locs la hP hS hl)
theorem j_lconst (F : FX X V cc nL own rt rm) {n : Fin 2} {v : Int64} (hd : decode cc pc = .ok (.lconst n, 1)) (hv : Int64.ofNat (n : Nat) = v) (kk : JJ X V nL Q (pc + 1) lv (.long v :: st) u o) : JJ X V nL Q pc lv st u o := fun out ho H locs la hP hS hl => lv_lconst F.1 F.2.1 hd hv (kk out ho H locs la hP hS hl)
theorem j_ldc (F : FX X V cc nL own rt rm) {i : Nat} {v : Int32} (hc : Cond.constant own i v ∈ TB) (hd : decode cc pc = .ok (.ldc i, 2)) (kk : JJ X V nL Q (pc + 2) lv (.int v :: st) u o) : JJ X V nL Q pc lv st u o := fun out ho H locs la hP hS hl => lv_ldc F.1 F.2.1 F.2.2.2.1 (F.2.2.2.2.1 _ hc) hd (kk out ho H locs la hP hS hl)
theorem j_ldcw (F : FX X V cc nL own rt rm) {i : Nat} {v : Int32} (hc : Cond.constant own i v ∈ TB) (hd : decode cc pc = .ok (.ldc_w i, 3)) (kk : JJ X V nL Q (pc + 3) lv (.int v :: st) u o) : JJ X V nL Q pc lv st u o := fun out ho H locs la hP hS hl => lv_ldcw F.1 F.2.1 F.2.2.2.1 (F.2.2.2.2.1 _ hc) hd (kk out ho H locs la hP hS hl)
theorem j_ldc2 (F : FX X V cc nL own rt rm) {i : Nat} {v : Int64} (hc : Cond.constantLong own i v ∈ TB) (hd : decode cc pc = .ok (.ldc2_w i, 3)) (kk : JJ X V nL Q (pc + 3) lv (.long v :: st) u o) : JJ X V nL Q pc lv st u o := fun out ho H locs la hP hS hl => lv_ldc2 F.1 F.2.1 F.2.2.2.1 (F.2.2.2.2.1 _ hc) hd (kk out ho H locs la hP hS hl)
theorem j_iadd (F : FX X V cc nL own rt rm) {x y : Int32} (hd : decode cc pc = .ok (.iadd, 1)) (kk : JJ X V nL Q (pc + 1) lv (.int (x + y) :: st) u o) : JJ X V nL Q pc lv (.int y :: .int x :: st) u o := fun out ho H locs la hP hS hl => lv_iadd F.1 F.2.1 hd (kk out ho H locs la hP hS hl)
theorem j_isub (F : FX X V cc nL own rt rm) {x y : Int32} (hd : decode cc pc = .ok (.isub, 1)) (kk : JJ X V nL Q (pc + 1) lv (.int (x - y) :: st) u o) : JJ X V nL Q pc lv (.int y :: .int x :: st) u o := fun out ho H locs la hP hS hl => lv_isub F.1 F.2.1 hd (kk out ho H locs la hP hS hl)
theorem j_imul (F : FX X V cc nL own rt rm) {x y : Int32} (hd : decode cc pc = .ok (.imul, 1)) (kk : JJ X V nL Q (pc + 1) lv (.int (x * y) :: st) u o) : JJ X V nL Q pc lv (.int y :: .int x :: st) u o := fun out ho H locs la hP hS hl => lv_imul F.1 F.2.1 hd (kk out ho H locs la hP hS hl)
theorem j_iand (F : FX X V cc nL own rt rm) {x y : Int32} (hd : decode cc pc = .ok (.iand, 1)) (kk : JJ X V nL Q (pc + 1) lv (.int (x &&& y) :: st) u o) : JJ X V nL Q pc lv (.int y :: .int x :: st) u o := fun out ho H locs la hP hS hl => lv_iand F.1 F.2.1 hd (kk out ho H locs la hP hS hl)
theorem j_ior (F : FX X V cc nL own rt rm) {x y : Int32} (hd : decode cc pc = .ok (.ior, 1)) (kk : JJ X V nL Q (pc + 1) lv (.int (x ||| y) :: st) u o) : JJ X V nL Q pc lv (.int y :: .int x :: st) u o := fun out ho H locs la hP hS hl => lv_ior F.1 F.2.1 hd (kk out ho H locs la hP hS hl)
theorem j_ixor (F : FX X V cc nL own rt rm) {x y : Int32} (hd : decode cc pc = .ok (.ixor, 1)) (kk : JJ X V nL Q (pc + 1) lv (.int (x ^^^ y) :: st) u o) : JJ X V nL Q pc lv (.int y :: .int x :: st) u o := fun out ho H locs la hP hS hl => lv_ixor F.1 F.2.1 hd (kk out ho H locs la hP hS hl)
theorem j_ishl (F : FX X V cc nL own rt rm) {x y : Int32} (hd : decode cc pc = .ok (.ishl, 1)) (kk : JJ X V nL Q (pc + 1) lv (.int (x <<< (y &&& 31)) :: st) u o) : JJ X V nL Q pc lv (.int y :: .int x :: st) u o := fun out ho H locs la hP hS hl => lv_ishl F.1 F.2.1 hd (kk out ho H locs la hP hS hl)
theorem j_ishr (F : FX X V cc nL own rt rm) {x y : Int32} (hd : decode cc pc = .ok (.ishr, 1)) (kk : JJ X V nL Q (pc + 1) lv (.int (x >>> (y &&& 31)) :: st) u o) : JJ X V nL Q pc lv (.int y :: .int x :: st) u o := fun out ho H locs la hP hS hl => lv_ishr F.1 F.2.1 hd (kk out ho H locs la hP hS hl)
theorem j_ladd (F : FX X V cc nL own rt rm) {x y : Int64} (hd : decode cc pc = .ok (.ladd, 1)) (kk : JJ X V nL Q (pc + 1) lv (.long (x + y) :: st) u o) : JJ X V nL Q pc lv (.long y :: .long x :: st) u o := fun out ho H locs la hP hS hl => lv_ladd F.1 F.2.1 hd (kk out ho H locs la hP hS hl)
theorem j_lsub (F : FX X V cc nL own rt rm) {x y : Int64} (hd : decode cc pc = .ok (.lsub, 1)) (kk : JJ X V nL Q (pc + 1) lv (.long (x - y) :: st) u o) : JJ X V nL Q pc lv (.long y :: .long x :: st) u o := fun out ho H locs la hP hS hl => lv_lsub F.1 F.2.1 hd (kk out ho H locs la hP hS hl)
theorem j_lmul (F : FX X V cc nL own rt rm) {x y : Int64} (hd : decode cc pc = .ok (.lmul, 1)) (kk : JJ X V nL Q (pc + 1) lv (.long (x * y) :: st) u o) : JJ X V nL Q pc lv (.long y :: .long x :: st) u o := fun out ho H locs la hP hS hl => lv_lmul F.1 F.2.1 hd (kk out ho H locs la hP hS hl)
theorem j_ineg (F : FX X V cc nL own rt rm) {x : Int32} (hd : decode cc pc = .ok (.ineg, 1)) (kk : JJ X V nL Q (pc + 1) lv (.int (-x) :: st) u o) : JJ X V nL Q pc lv (.int x :: st) u o := fun out ho H locs la hP hS hl => lv_ineg F.1 F.2.1 hd (kk out ho H locs la hP hS hl)
theorem j_lneg (F : FX X V cc nL own rt rm) {x : Int64} (hd : decode cc pc = .ok (.lneg, 1)) (kk : JJ X V nL Q (pc + 1) lv (.long (-x) :: st) u o) : JJ X V nL Q pc lv (.long x :: st) u o := fun out ho H locs la hP hS hl => lv_lneg F.1 F.2.1 hd (kk out ho H locs la hP hS hl)
theorem j_i2l (F : FX X V cc nL own rt rm) {x : Int32} (hd : decode cc pc = .ok (.i2l, 1)) (kk : JJ X V nL Q (pc + 1) lv (.long (x.toInt64) :: st) u o) : JJ X V nL Q pc lv (.int x :: st) u o := fun out ho H locs la hP hS hl => lv_i2l F.1 F.2.1 hd rfl (kk out ho H locs la hP hS hl)
theorem j_l2i (F : FX X V cc nL own rt rm) {x : Int64} (hd : decode cc pc = .ok (.l2i, 1)) (kk : JJ X V nL Q (pc + 1) lv (.int (x.toInt32) :: st) u o) : JJ X V nL Q pc lv (.long x :: st) u o := fun out ho H locs la hP hS hl => lv_l2i F.1 F.2.1 hd rfl (kk out ho H locs la hP hS hl)
theorem j_i2b (F : FX X V cc nL own rt rm) {x : Int32} (hd : decode cc pc = .ok (.i2b, 1)) (kk : JJ X V nL Q (pc + 1) lv (.int (x.toInt8.toInt32) :: st) u o) : JJ X V nL Q pc lv (.int x :: st) u o := fun out ho H locs la hP hS hl => lv_i2b F.1 F.2.1 hd rfl (kk out ho H locs la hP hS hl)
theorem j_i2s (F : FX X V cc nL own rt rm) {x : Int32} (hd : decode cc pc = .ok (.i2s, 1)) (kk : JJ X V nL Q (pc + 1) lv (.int (x.toInt16.toInt32) :: st) u o) : JJ X V nL Q pc lv (.int x :: st) u o := fun out ho H locs la hP hS hl => lv_i2s F.1 F.2.1 hd rfl (kk out ho H locs la hP hS hl)
theorem j_i2c (F : FX X V cc nL own rt rm) {x : Int32} (hd : decode cc pc = .ok (.i2c, 1)) (kk : JJ X V nL Q (pc + 1) lv (.int ((x.toUInt32 % 65536).toInt32) :: st) u o) : JJ X V nL Q pc lv (.int x :: st) u o := fun out ho H locs la hP hS hl => lv_i2c F.1 F.2.1 hd rfl (kk out ho H locs la hP hS hl)
theorem j_iushr (F : FX X V cc nL own rt rm) {x y : Int32} (hd : decode cc pc = .ok (.iushr, 1)) (kk : JJ X V nL Q (pc + 1) lv (.int ((x.toUInt32 >>> (y.toUInt32 &&& Int32.toUInt32 31)).toInt32) :: st) u o) : JJ X V nL Q pc lv (.int y :: .int x :: st) u o := fun out ho H locs la hP hS hl => lv_iushr F.1 F.2.1 hd rfl (kk out ho H locs la hP hS hl)
theorem j_lcmp (F : FX X V cc nL own rt rm) {x y : Int64} (hd : decode cc pc = .ok (.lcmp, 1)) (kk : JJ X V nL Q (pc + 1) lv (.int (lg_cmp x y) :: st) u o) : JJ X V nL Q pc lv (.long y :: .long x :: st) u o := fun out ho H locs la hP hS hl => W.lcmp F.1 F.2.1 hd (kk out ho H locs la hP hS hl)
theorem j_idiv (F : FX X V cc nL own rt rm) {x y : Int32} {f : Int32 → Option α} (hd : decode cc pc = .ok (.idiv, 1)) (kk : ∀ z : Int32, JJ X V nL Q (pc + 1) lv (.int z :: st) u (f z)) : JJ X V nL Q pc lv (.int y :: .int x :: st) u (mo_dv x y f) := fun out ho H locs la hP hS hl => by
  unfold mo_dv at ho
  by_cases h : y = 0
  · rw [if_pos h] at ho; cases ho
  · rw [if_neg h] at ho
    exact lv_idiv F.1 F.2.1 hd h (kk _ out ho H locs la hP hS hl)
theorem j_irem (F : FX X V cc nL own rt rm) {x y : Int32} {f : Int32 → Option α} (hd : decode cc pc = .ok (.irem, 1)) (kk : ∀ z : Int32, JJ X V nL Q (pc + 1) lv (.int z :: st) u (f z)) : JJ X V nL Q pc lv (.int y :: .int x :: st) u (mo_rm x y f) := fun out ho H locs la hP hS hl => by
  unfold mo_rm at ho
  by_cases h : y = 0
  · rw [if_pos h] at ho; cases ho
  · rw [if_neg h] at ho
    exact lv_irem F.1 F.2.1 hd h (kk _ out ho H locs la hP hS hl)
theorem j_ldiv (F : FX X V cc nL own rt rm) {x y : Int64} {f : Int64 → Option α} (hd : decode cc pc = .ok (.ldiv, 1)) (kk : ∀ z : Int64, JJ X V nL Q (pc + 1) lv (.long z :: st) u (f z)) : JJ X V nL Q pc lv (.long y :: .long x :: st) u (mo_dl x y f) := fun out ho H locs la hP hS hl => by
  unfold mo_dl at ho
  by_cases h : y = 0
  · rw [if_pos h] at ho; cases ho
  · rw [if_neg h] at ho
    exact lv_ldiv F.1 F.2.1 hd h (kk _ out ho H locs la hP hS hl)
theorem j_lrem (F : FX X V cc nL own rt rm) {x y : Int64} {f : Int64 → Option α} (hd : decode cc pc = .ok (.lrem, 1)) (kk : ∀ z : Int64, JJ X V nL Q (pc + 1) lv (.long z :: st) u (f z)) : JJ X V nL Q pc lv (.long y :: .long x :: st) u (mo_rl x y f) := fun out ho H locs la hP hS hl => by
  unfold mo_rl at ho
  by_cases h : y = 0
  · rw [if_pos h] at ho; cases ho
  · rw [if_neg h] at ho
    exact lv_lrem F.1 F.2.1 hd h (kk _ out ho H locs la hP hS hl)
theorem j_dup (F : FX X V cc nL own rt rm) {a : Value} (hd : decode cc pc = .ok (.dup, 1)) (ha : a.category = 1) (kk : JJ X V nL Q (pc + 1) lv (a :: a :: st) u o) : JJ X V nL Q pc lv (a :: st) u o := fun out ho H locs la hP hS hl => lv_dup F.1 F.2.1 hd ha (kk out ho H locs la hP hS hl)
theorem j_dup2 (F : FX X V cc nL own rt rm) {a b : Value} (hd : decode cc pc = .ok (.dup2, 1)) (ha : a.category = 1) (hb : b.category = 1) (kk : JJ X V nL Q (pc + 1) lv (a :: b :: a :: b :: st) u o) : JJ X V nL Q pc lv (a :: b :: st) u o := fun out ho H locs la hP hS hl => lv_dup2_11 F.1 F.2.1 hd ha hb (kk out ho H locs la hP hS hl)
theorem j_pop (F : FX X V cc nL own rt rm) {a : Value} (hd : decode cc pc = .ok (.pop, 1)) (ha : a.category = 1) (kk : JJ X V nL Q (pc + 1) lv st u o) : JJ X V nL Q pc lv (a :: st) u o := fun out ho H locs la hP hS hl => lv_pop F.1 F.2.1 hd ha (kk out ho H locs la hP hS hl)
theorem j_goto (F : FX X V cc nL own rt rm) {off : Int} {tgt : Nat} (hd : decode cc pc = .ok (.goto off, 3)) (ht : (pc : Int) + off = (tgt : Int)) (kk : JJ X V nL Q tgt lv st u o) : JJ X V nL Q pc lv st u o := fun out ho H locs la hP hS hl => lv_goto F.1 F.2.1 hd ht (kk out ho H locs la hP hS hl)
theorem j_ifeq (F : FX X V cc nL own rt rm) {x : Int32} {off : Int} {tgt : Nat} (hd : decode cc pc = .ok (.ifCond .eq off, 3)) (ht : (pc : Int) + off = (tgt : Int)) (kt : JJ X V nL Q tgt lv st u o1) (kf : JJ X V nL Q (pc + 3) lv st u o2) : JJ X V nL Q pc lv (.int x :: st) u (if x = 0 then o1 else o2) := fun out ho H locs la hP hS hl => lv_if_eq F.1 F.2.1 hd ht (fun h => kt out (by first | rwa [if_pos h] at ho | rwa [if_neg h] at ho) H locs la hP hS hl) (fun h => kf out (by first | rwa [if_neg h] at ho | rwa [if_pos h] at ho) H locs la hP hS hl)
theorem j_ifne (F : FX X V cc nL own rt rm) {x : Int32} {off : Int} {tgt : Nat} (hd : decode cc pc = .ok (.ifCond .ne off, 3)) (ht : (pc : Int) + off = (tgt : Int)) (kt : JJ X V nL Q tgt lv st u o1) (kf : JJ X V nL Q (pc + 3) lv st u o2) : JJ X V nL Q pc lv (.int x :: st) u (if x = 0 then o2 else o1) := fun out ho H locs la hP hS hl => lv_if_ne F.1 F.2.1 hd ht (fun h => kt out (by first | rwa [if_pos h] at ho | rwa [if_neg h] at ho) H locs la hP hS hl) (fun h => kf out (by first | rwa [if_neg h] at ho | rwa [if_pos h] at ho) H locs la hP hS hl)
theorem j_iflt (F : FX X V cc nL own rt rm) {x : Int32} {off : Int} {tgt : Nat} (hd : decode cc pc = .ok (.ifCond .lt off, 3)) (ht : (pc : Int) + off = (tgt : Int)) (kt : JJ X V nL Q tgt lv st u o1) (kf : JJ X V nL Q (pc + 3) lv st u o2) : JJ X V nL Q pc lv (.int x :: st) u (if x < 0 then o1 else o2) := fun out ho H locs la hP hS hl => lv_if_lt F.1 F.2.1 hd ht (fun h => kt out (by first | rwa [if_pos h] at ho | rwa [if_neg h] at ho) H locs la hP hS hl) (fun h => kf out (by first | rwa [if_neg h] at ho | rwa [if_pos h] at ho) H locs la hP hS hl)
theorem j_ifge (F : FX X V cc nL own rt rm) {x : Int32} {off : Int} {tgt : Nat} (hd : decode cc pc = .ok (.ifCond .ge off, 3)) (ht : (pc : Int) + off = (tgt : Int)) (kt : JJ X V nL Q tgt lv st u o1) (kf : JJ X V nL Q (pc + 3) lv st u o2) : JJ X V nL Q pc lv (.int x :: st) u (if 0 ≤ x then o1 else o2) := fun out ho H locs la hP hS hl => lv_if_ge F.1 F.2.1 hd ht (fun h => kt out (by first | rwa [if_pos h] at ho | rwa [if_neg h] at ho) H locs la hP hS hl) (fun h => kf out (by first | rwa [if_neg h] at ho | rwa [if_pos h] at ho) H locs la hP hS hl)
theorem j_ifgt (F : FX X V cc nL own rt rm) {x : Int32} {off : Int} {tgt : Nat} (hd : decode cc pc = .ok (.ifCond .gt off, 3)) (ht : (pc : Int) + off = (tgt : Int)) (kt : JJ X V nL Q tgt lv st u o1) (kf : JJ X V nL Q (pc + 3) lv st u o2) : JJ X V nL Q pc lv (.int x :: st) u (if 0 < x then o1 else o2) := fun out ho H locs la hP hS hl => lv_if_gt F.1 F.2.1 hd ht (fun h => kt out (by first | rwa [if_pos h] at ho | rwa [if_neg h] at ho) H locs la hP hS hl) (fun h => kf out (by first | rwa [if_neg h] at ho | rwa [if_pos h] at ho) H locs la hP hS hl)
theorem j_ifle (F : FX X V cc nL own rt rm) {x : Int32} {off : Int} {tgt : Nat} (hd : decode cc pc = .ok (.ifCond .le off, 3)) (ht : (pc : Int) + off = (tgt : Int)) (kt : JJ X V nL Q tgt lv st u o1) (kf : JJ X V nL Q (pc + 3) lv st u o2) : JJ X V nL Q pc lv (.int x :: st) u (if x ≤ 0 then o1 else o2) := fun out ho H locs la hP hS hl => lv_if_le F.1 F.2.1 hd ht (fun h => kt out (by first | rwa [if_pos h] at ho | rwa [if_neg h] at ho) H locs la hP hS hl) (fun h => kf out (by first | rwa [if_neg h] at ho | rwa [if_pos h] at ho) H locs la hP hS hl)
theorem j_iceq (F : FX X V cc nL own rt rm) {x y : Int32} {off : Int} {tgt : Nat} (hd : decode cc pc = .ok (.if_icmp .eq off, 3)) (ht : (pc : Int) + off = (tgt : Int)) (kt : JJ X V nL Q tgt lv st u o1) (kf : JJ X V nL Q (pc + 3) lv st u o2) : JJ X V nL Q pc lv (.int y :: .int x :: st) u (if x = y then o1 else o2) := fun out ho H locs la hP hS hl => lv_icmp_eq F.1 F.2.1 hd ht (fun h => kt out (by first | rwa [if_pos h] at ho | rwa [if_neg h] at ho) H locs la hP hS hl) (fun h => kf out (by first | rwa [if_neg h] at ho | rwa [if_pos h] at ho) H locs la hP hS hl)
theorem j_icne (F : FX X V cc nL own rt rm) {x y : Int32} {off : Int} {tgt : Nat} (hd : decode cc pc = .ok (.if_icmp .ne off, 3)) (ht : (pc : Int) + off = (tgt : Int)) (kt : JJ X V nL Q tgt lv st u o1) (kf : JJ X V nL Q (pc + 3) lv st u o2) : JJ X V nL Q pc lv (.int y :: .int x :: st) u (if x = y then o2 else o1) := fun out ho H locs la hP hS hl => lv_icmp_ne F.1 F.2.1 hd ht (fun h => kt out (by first | rwa [if_pos h] at ho | rwa [if_neg h] at ho) H locs la hP hS hl) (fun h => kf out (by first | rwa [if_neg h] at ho | rwa [if_pos h] at ho) H locs la hP hS hl)
theorem j_iclt (F : FX X V cc nL own rt rm) {x y : Int32} {off : Int} {tgt : Nat} (hd : decode cc pc = .ok (.if_icmp .lt off, 3)) (ht : (pc : Int) + off = (tgt : Int)) (kt : JJ X V nL Q tgt lv st u o1) (kf : JJ X V nL Q (pc + 3) lv st u o2) : JJ X V nL Q pc lv (.int y :: .int x :: st) u (if x < y then o1 else o2) := fun out ho H locs la hP hS hl => lv_icmp_lt F.1 F.2.1 hd ht (fun h => kt out (by first | rwa [if_pos h] at ho | rwa [if_neg h] at ho) H locs la hP hS hl) (fun h => kf out (by first | rwa [if_neg h] at ho | rwa [if_pos h] at ho) H locs la hP hS hl)
theorem j_icge (F : FX X V cc nL own rt rm) {x y : Int32} {off : Int} {tgt : Nat} (hd : decode cc pc = .ok (.if_icmp .ge off, 3)) (ht : (pc : Int) + off = (tgt : Int)) (kt : JJ X V nL Q tgt lv st u o1) (kf : JJ X V nL Q (pc + 3) lv st u o2) : JJ X V nL Q pc lv (.int y :: .int x :: st) u (if y ≤ x then o1 else o2) := fun out ho H locs la hP hS hl => lv_icmp_ge F.1 F.2.1 hd ht (fun h => kt out (by first | rwa [if_pos h] at ho | rwa [if_neg h] at ho) H locs la hP hS hl) (fun h => kf out (by first | rwa [if_neg h] at ho | rwa [if_pos h] at ho) H locs la hP hS hl)
theorem j_icgt (F : FX X V cc nL own rt rm) {x y : Int32} {off : Int} {tgt : Nat} (hd : decode cc pc = .ok (.if_icmp .gt off, 3)) (ht : (pc : Int) + off = (tgt : Int)) (kt : JJ X V nL Q tgt lv st u o1) (kf : JJ X V nL Q (pc + 3) lv st u o2) : JJ X V nL Q pc lv (.int y :: .int x :: st) u (if y < x then o1 else o2) := fun out ho H locs la hP hS hl => lv_icmp_gt F.1 F.2.1 hd ht (fun h => kt out (by first | rwa [if_pos h] at ho | rwa [if_neg h] at ho) H locs la hP hS hl) (fun h => kf out (by first | rwa [if_neg h] at ho | rwa [if_pos h] at ho) H locs la hP hS hl)
theorem j_icle (F : FX X V cc nL own rt rm) {x y : Int32} {off : Int} {tgt : Nat} (hd : decode cc pc = .ok (.if_icmp .le off, 3)) (ht : (pc : Int) + off = (tgt : Int)) (kt : JJ X V nL Q tgt lv st u o1) (kf : JJ X V nL Q (pc + 3) lv st u o2) : JJ X V nL Q pc lv (.int y :: .int x :: st) u (if x ≤ y then o1 else o2) := fun out ho H locs la hP hS hl => lv_icmp_le F.1 F.2.1 hd ht (fun h => kt out (by first | rwa [if_pos h] at ho | rwa [if_neg h] at ho) H locs la hP hS hl) (fun h => kf out (by first | rwa [if_neg h] at ho | rwa [if_pos h] at ho) H locs la hP hS hl)
/-- a switch: one known value of it, and outside of all -/
theorem j_sw {x v : Int32} (kt : JJ X V nL Q pc lv (.int v :: st) u o1) (kf : ¬ x = v → JJ X V nL Q pc lv (.int x :: st) u o2) : JJ X V nL Q pc lv (.int x :: st) u (if x = v then o1 else o2) := fun out ho H locs la hP hS hl => by
  by_cases h : x = v
  · rw [if_pos h] at ho
    subst h
    exact kt out ho H locs la hP hS hl
  · rw [if_neg h] at ho
    exact kf h out ho H locs la hP hS hl
theorem j_tabIn (F : FX X V cc nL own rt rm) {dflt lo hi : Int} {offs : Array Int} {len : Nat} {x : Int32} {off : Int} {tgt : Nat} (hd : decode cc pc = .ok (.tableswitch dflt lo hi offs, len)) (h1 : ¬ x.toInt < lo) (h2 : ¬ hi < x.toInt) (ho : offs[(x.toInt - lo).toNat]? = some off) (ht : (pc : Int) + off = (tgt : Int)) (kk : JJ X V nL Q tgt lv st u o) : JJ X V nL Q pc lv (.int x :: st) u o := fun out h H locs la hP hS hl => lv_tableIn F.1 F.2.1 hd h1 h2 ho ht (kk out h H locs la hP hS hl)
theorem j_tabOut (F : FX X V cc nL own rt rm) {dflt lo hi : Int} {offs : Array Int} {len : Nat} {x : Int32} {tgt : Nat} (hd : decode cc pc = .ok (.tableswitch dflt lo hi offs, len)) (h : x.toInt < lo ∨ hi < x.toInt) (ht : (pc : Int) + dflt = (tgt : Int)) (kk : JJ X V nL Q tgt lv st u o) : JJ X V nL Q pc lv (.int x :: st) u o := fun out ho H locs la hP hS hl => lv_tableOut F.1 F.2.1 hd h ht (kk out ho H locs la hP hS hl)
theorem sw_ne {x : Int32} {n : Int} (h : ¬ x = Int32.ofInt n) : ¬ x.toInt = n := fun q => h (by rw [← q, Int32.ofInt_toInt])
/-! ends -/
theorem j_iret (F : FX X V cc nL own (some .int) rm) {v : Int32} (hd : decode cc pc = .ok (.ireturn, 1)) : JJ X V nL (QI X V) pc lv [.int v] u (some (v, u)) := fun out ho H locs la hP hS hl => by
  cases ho
  exact W.iret F.1 F.2.1 F.2.2.2.2.2.2.2.2.2.1 (fun t ht hW => ⟨⟨v, u, rfl, ⟨rfl, rfl⟩, by show va_P _ _ _ t.heap; rw [ht]; exact hP⟩, hS.F ht⟩) hS.2.2 hd (hlocks := F.2.2.2.2.2.2.2.2.1)
theorem j_zret {ty : FieldType} (F : FX X V cc nL own (some ty) rm) {v : Int32} (hv : narrow ty (.int v) = .int v) (hd : decode cc pc = .ok (.ireturn, 1)) : JJ X V nL (QI X V) pc lv [.int v] u (some (v, u)) := fun out ho H locs la hP hS hl => by
  cases ho
  exact W.zret F.1 F.2.1 F.2.2.2.2.2.2.2.2.2.1 hv (fun t ht hW => ⟨⟨v, u, rfl, ⟨rfl, rfl⟩, by show va_P _ _ _ t.heap; rw [ht]; exact hP⟩, hS.F ht⟩) hS.2.2 hd (hlocks := F.2.2.2.2.2.2.2.2.1)
theorem j_zretv (F : FX X V cc nL own (some .boolean) rm) {v : Int32} (hd : decode cc pc = .ok (.ireturn, 1)) : JJ X V nL (QI X V) pc lv [.int v] u (mo_zr v u) := fun out ho H locs la hP hS hl => by
  unfold mo_zr at ho
  by_cases h : v = 0 ∨ v = 1
  · rw [if_pos h] at ho
    exact j_zret F (by rcases h with rfl | rfl <;> rfl) hd out ho H locs la hP hS hl
  · rw [if_neg h] at ho; cases ho
theorem j_lret (F : FX X V cc nL own (some .long) rm) {v : Int64} (hd : decode cc pc = .ok (.lreturn, 1)) : JJ X V nL (QL X V) pc lv [.long v] u (some (v, u)) := fun out ho H locs la hP hS hl => by
  cases ho
  exact W.lret F.1 F.2.1 F.2.2.2.2.2.2.2.2.2.1 (fun t ht hW => ⟨⟨v, u, rfl, ⟨rfl, rfl⟩, by show va_P _ _ _ t.heap; rw [ht]; exact hP⟩, hS.F ht⟩) hS.2.2 hd (hlocks := F.2.2.2.2.2.2.2.2.1)
theorem j_vret (F : FX X V cc nL own none rm) (hd : decode cc pc = .ok (.return_, 1)) : JJ X V nL (QV X V) pc lv [] u (some u) := fun out ho H locs la hP hS hl => by
  cases ho
  exact W.vret F.1 F.2.1 F.2.2.2.2.2.2.2.2.2.1 (fun t ht hW => ⟨⟨u, rfl, rfl, by show va_P _ _ _ t.heap; rw [ht]; exact hP⟩, hS.F ht⟩) hS.2.2 hd (hlocks := F.2.2.2.2.2.2.2.2.1)
/-! fields: T, N the class's table, k the field's place; fs what the object holds -/
theorem j_get (F : FX X V cc nL own rt rm) {ref C : String} {T : u_T} {N ci index : Nat} (hin : ∀ w ∈ u_ws C T N, w ∈ TB) (q0 : Nat) {a : Nat} {fs : List Value} (he : (V.2.2.2.1 u)[q0]? = some (a, .inr (ci, fs))) (hc : vwCl[ci]? = some (C, T, N)) (k : Nat) (hk : k < N) (hlink : Cond.fieldLink own index ref (T k).2.1 (T k).2.2.1 ∈ TB) (hr : (T k).1 = ref) {v : Value} (hv : fs[k]? = some v) (hd : decode cc pc = .ok (.getfield index, 3)) (kk : JJ X V nL Q (pc + 3) lv (v :: st) u o) : JJ X V nL Q pc lv (.ref a :: st) u o := fun out ho H locs la hP hS hl => va_get F.1 F.2.1 F.2.2.2.2.1 hin F.2.2.2.1 F.2.2.2.2.2.1 hP q0 he hc k hk (F.2.2.2.2.1 _ hlink) (fun x h => by rw [← hr]; exact h) hv hd (kk out ho H locs la hP hS hl)
theorem j_put (F : FX X V cc nL own rt rm) {ref C : String} {T : u_T} {N ci index : Nat} (hin : ∀ w ∈ u_ws C T N, w ∈ TB) (ty0 : Nat → FieldType) (hty : ∀ k, k < N → parseFieldDescriptor (T k).2.2.1 = some (ty0 k)) (hnm : ∀ a, a < N → ∀ b, b < N → a ≠ b → (T a).2.1 ≠ (T b).2.1) (q0 : Nat) {a : Nat} {fs : List Value} (he : (V.2.2.2.1 u)[q0]? = some (a, .inr (ci, fs))) (hc : vwCl[ci]? = some (C, T, N)) (k : Nat) (hk : k < N) (hlink : Cond.fieldLink own index ref (T k).2.1 (T k).2.2.1 ∈ TB) (hr : (T k).1 = ref) (hfin : (T k).2.2.2 = false) {ty : FieldType} {v : Value} (hdt : parseFieldDescriptor (T k).2.2.1 = some ty) (hn : narrow ty v = v) (hfit : fits ty v = true) (hlen : k < fs.length) {u' : MM} (hset : (V.2.2.2.1 u).set q0 (a, .inr (ci, fs.set k v)) = V.2.2.2.1 u') (hd : decode cc pc = .ok (.putfield index, 3)) (kk : JJ X V nL Q (pc + 3) lv st u' o) : JJ X V nL Q pc lv (v :: .ref a :: st) u o := fun out ho H locs la hP hS hl => va_put F.1 F.2.1 F.2.2.2.2.1 hin ty0 hty hnm F.2.2.2.1 F.2.2.2.2.2.1 hP (F.2.2.2.2.2.2.1.1 u) hS q0 he hc k hk (F.2.2.2.2.1 _ hlink) (fun x h => by rw [← hr]; exact h) hfin hdt hn hfit hlen hd (fun H1 locs1 hP1 hD1 hS1 => kk out ho H1 locs1 la (by rw [← hset]; exact hP1) hS1 hl)
/-! arrays -/
theorem j_ld (F : FX X V cc nL own rt rm) (q0 t0 : Nat) {a : Nat} {cA : ClassId} {n : Nat} {j : Int32} {f : Int32 → Option α} (ha : (V.2.2.2.1 u)[q0]? = some (a, .inl (cA, n, .inl (u.1 q0)))) (ht : V.2.1[t0]? = some (cA, .int)) (hd : decode cc pc = .ok (.iaload, 1)) (kk : ∀ z : Int32, JJ X V nL Q (pc + 1) lv (.int z :: st) u (f z)) : JJ X V nL Q pc lv (.int j :: .ref a :: st) u (mo_ld u q0 n j f) := fun out ho H locs la hP hS hl => by
  unfold mo_ld at ho
  by_cases h : j < 0 ∨ n ≤ j.toNatClampNeg
  · rw [if_pos h] at ho; cases ho
  · rw [if_neg h] at ho
    exact va_iald F.1 F.2.1 F.2.2.2.2.2.1 hP q0 t0 ha ht h hd (kk _ out ho H locs la hP hS hl)
theorem j_ldz (F : FX X V cc nL own rt rm) (q0 t0 : Nat) {a : Nat} {cA : ClassId} {n : Nat} {j : Int32} {f : Int32 → Option α} (ha : (V.2.2.2.1 u)[q0]? = some (a, .inl (cA, n, .inl (u.1 q0)))) (ht : V.2.1[t0]? = some (cA, .boolean)) (hd : decode cc pc = .ok (.baload, 1)) (kk : ∀ z : Int32, JJ X V nL Q (pc + 1) lv (.int z :: st) u (f z)) : JJ X V nL Q pc lv (.int j :: .ref a :: st) u (mo_ld u q0 n j f) := fun out ho H locs la hP hS hl => by
  unfold mo_ld at ho
  by_cases h : j < 0 ∨ n ≤ j.toNatClampNeg
  · rw [if_pos h] at ho; cases ho
  · rw [if_neg h] at ho
    exact va_zald F.1 F.2.1 F.2.2.2.2.2.1 hP q0 t0 ha ht h hd (kk _ out ho H locs la hP hS hl)
theorem j_st (F : FX X V cc nL own rt rm) (q0 t0 : Nat) {a : Nat} {cA : ClassId} {n : Nat} {j v : Int32} {f : MM → Option α} (ha : (V.2.2.2.1 u)[q0]? = some (a, .inl (cA, n, .inl (u.1 q0)))) (ht : V.2.1[t0]? = some (cA, .int)) (hset : ∀ i : Nat, (V.2.2.2.1 u).set q0 (a, .inl (cA, n, .inl (upd (u.1 q0) i v))) = V.2.2.2.1 (mm_w u q0 i v)) (hd : decode cc pc = .ok (.iastore, 1)) (kk : ∀ u', JJ X V nL Q (pc + 1) lv st u' (f u')) : JJ X V nL Q pc lv (.int v :: .int j :: .ref a :: st) u (mo_st u q0 n j v f) := fun out ho H locs la hP hS hl => by
  unfold mo_st at ho
  by_cases h : j < 0 ∨ n ≤ j.toNatClampNeg
  · rw [if_pos h] at ho; cases ho
  · rw [if_neg h] at ho
    exact va_iast F.1 F.2.1 F.2.2.2.2.2.1 hP (F.2.2.2.2.2.2.1.1 u) hS q0 t0 ha ht h hd (fun H1 locs1 hP1 hD1 hS1 => kk _ out ho H1 locs1 la (by rw [← hset]; exact hP1) hS1 hl)
theorem j_stz (F : FX X V cc nL own rt rm) (q0 t0 : Nat) {a : Nat} {cA : ClassId} {n : Nat} {j v : Int32} {f : MM → Option α} (ha : (V.2.2.2.1 u)[q0]? = some (a, .inl (cA, n, .inl (u.1 q0)))) (ht : V.2.1[t0]? = some (cA, .boolean)) (hv : vp_nar .boolean v = v) (hset : ∀ i : Nat, (V.2.2.2.1 u).set q0 (a, .inl (cA, n, .inl (upd (u.1 q0) i v))) = V.2.2.2.1 (mm_w u q0 i v)) (hd : decode cc pc = .ok (.bastore, 1)) (kk : ∀ u', JJ X V nL Q (pc + 1) lv st u' (f u')) : JJ X V nL Q pc lv (.int v :: .int j :: .ref a :: st) u (mo_st u q0 n j v f) := fun out ho H locs la hP hS hl => by
  unfold mo_st at ho
  by_cases h : j < 0 ∨ n ≤ j.toNatClampNeg
  · rw [if_pos h] at ho; cases ho
  · rw [if_neg h] at ho
    exact va_zast F.1 F.2.1 F.2.2.2.2.2.1 hP (F.2.2.2.2.2.2.1.1 u) hS q0 t0 ha ht h hd (fun H1 locs1 hP1 hD1 hS1 => kk _ out ho H1 locs1 la (by rw [← hset]; rw [hv] at hP1; exact hP1) hS1 hl)
/-- a row of an array of arrays: the rows are the cells from b on -/
theorem j_la (F : FX X V cc nL own rt rm) (q0 t0 : Nat) {a : Nat} {cA : ClassId} {n : Nat} {g : Nat → Nat} {j : Int32} {f : Nat → Option α} (ha : (V.2.2.2.1 u)[q0]? = some (a, .inl (cA, n, .inr (.inr (.inr (.inr (fun i => some (g i)))))))) (ht : V.2.1[t0]? = some (cA, .array .int)) (hd : decode cc pc = .ok (.aaload, 1)) (kk : ∀ i : Nat, i < n → JJ X V nL Q (pc + 1) lv (.ref (g i) :: st) u (f i)) : JJ X V nL Q pc lv (.int j :: .ref a :: st) u (mo_la n j f) := fun out ho H locs la hP hS hl => by
  unfold mo_la at ho
  by_cases h : j < 0 ∨ n ≤ j.toNatClampNeg
  · rw [if_pos h] at ho; cases ho
  · rw [if_neg h] at ho
    have hlt : j.toNatClampNeg < n := Nat.not_le.mp fun q => h (Or.inr q)
    exact W.aald (v := .ref (g j.toNatClampNeg)) (ty := .array .int) F.1 F.2.1 (hP q0 _ ha) ((F.2.2.2.2.2.1.2 t0 _ ht).1 n (fun j => va_rf (some (g j)))) rfl (fun q => by cases q) (by show ¬ (j < 0 ∨ (arrV _ _ _).slots.size ≤ _); rw [arrV_size]; exact h) (by show (arrV _ _ _).slots[_]? = _; rw [arrV_read _ _ hlt]; rfl) rfl rfl hd (kk _ hlt out ho H locs la hP hS hl)
/-! Math, arraycopy -/
theorem j_abs (F : FX X V cc nL own rt rm) {index : Nat} (hw : Cond.methodLink own index Lib.Math.abs.name ∈ TB ∧ Cond.static Lib.Math.abs.name ∈ TB ∧ Cond.initialized "java/lang/Math" ∈ TB ∧ Cond.code Lib.Math.abs.name Lib.Math.abs.code 1 (some .int) ∈ TB) (hR : 1 ≤ rm.frames ∧ (st.map fun v => v.category).sum + 13 ≤ rm.locals) {x : Int32} (hd : decode cc pc = .ok (.invokestatic index, 3)) (kk : JJ X V nL Q (pc + 3) lv (.int (mo_abs x) :: st) u o) : JJ X V nL Q pc lv (.int x :: st) u o := fun out ho H locs la hP hS hl => va_mabs F.1 F.2.1 (F.2.2.1.trans hl.1.symm) F.2.2.2.1 (F.2.2.2.2.1 _ hw.1) (F.2.2.2.2.1 _ hw.2.1) (F.2.2.2.2.1 _ hw.2.2.1) (F.2.2.2.2.1 _ hw.2.2.2) (by rw [F.2.2.2.2.2.2.2.2.2.2]; exact hR.1) (by rw [F.2.2.2.2.2.2.2.2.2.2]; exact hR.2) (Nat.zero_le _) (Nat.zero_le _) hd (kk out ho H locs la hP hS hl)
theorem j_min (F : FX X V cc nL own rt rm) {index : Nat} (hw : Cond.methodLink own index Lib.Math.min.name ∈ TB ∧ Cond.static Lib.Math.min.name ∈ TB ∧ Cond.initialized "java/lang/Math" ∈ TB ∧ Cond.code Lib.Math.min.name Lib.Math.min.code 2 (some .int) ∈ TB) (hR : 1 ≤ rm.frames ∧ (st.map fun v => v.category).sum + 13 ≤ rm.locals) {x y : Int32} (hd : decode cc pc = .ok (.invokestatic index, 3)) (kk : JJ X V nL Q (pc + 3) lv (.int (mo_min x y) :: st) u o) : JJ X V nL Q pc lv (.int y :: .int x :: st) u o := fun out ho H locs la hP hS hl => va_mmin F.1 F.2.1 (F.2.2.1.trans hl.1.symm) F.2.2.2.1 (F.2.2.2.2.1 _ hw.1) (F.2.2.2.2.1 _ hw.2.1) (F.2.2.2.2.1 _ hw.2.2.1) (F.2.2.2.2.1 _ hw.2.2.2) (by rw [F.2.2.2.2.2.2.2.2.2.2]; exact hR.1) (by rw [F.2.2.2.2.2.2.2.2.2.2]; exact hR.2) (Nat.zero_le _) (Nat.zero_le _) hd (kk out ho H locs la hP hS hl)
theorem j_absl (F : FX X V cc nL own rt rm) {index : Nat} (hw : Cond.methodLink own index Lib.MathLoose.abs_long.x ∈ TB ∧ Cond.static Lib.MathLoose.abs_long.x ∈ TB ∧ Cond.initialized "java/lang/Math" ∈ TB ∧ Cond.code Lib.MathLoose.abs_long.x Lib.MathLoose.abs_long.code 2 (some .long) ∈ TB) (hR : 1 ≤ rm.frames ∧ (st.map fun v => v.category).sum + 13 ≤ rm.locals) {x : Int64} (hd : decode cc pc = .ok (.invokestatic index, 3)) (kk : JJ X V nL Q (pc + 3) lv (.long (mo_absl x) :: st) u o) : JJ X V nL Q pc lv (.long x :: st) u o := fun out ho H locs la hP hS hl => va_mabs_long F.1 F.2.1 (F.2.2.1.trans hl.1.symm) F.2.2.2.1 (F.2.2.2.2.1 _ hw.1) (F.2.2.2.2.1 _ hw.2.1) (F.2.2.2.2.1 _ hw.2.2.1) (F.2.2.2.2.1 _ hw.2.2.2) (by rw [F.2.2.2.2.2.2.2.2.2.2]; exact hR.1) (by rw [F.2.2.2.2.2.2.2.2.2.2]; exact hR.2) (Nat.zero_le _) (Nat.zero_le _) hd (kk out ho H locs la hP hS hl)
theorem j_cp (F : FX X V cc nL own rt rm) {index : Nat} (hw : Cond.methodLink own index arraycopyName ∈ TB ∧ Cond.native arraycopyName ∈ TB ∧ Cond.static arraycopyName ∈ TB ∧ Cond.initialized "java/lang/System" ∈ TB) (hR : 1 ≤ rm.frames ∧ (st.map fun v => v.category).sum + (nativeFrameWords "java/lang/System" "arraycopy" 5 + 11) ≤ rm.locals) (q0 q1 t0 : Nat) {a0 a1 : Nat} {cA : ClassId} {n0 n1 : Nat} (ha0 : (V.2.2.2.1 u)[q0]? = some (a0, .inl (cA, n0, .inl (u.1 q0)))) (ha1 : (V.2.2.2.1 u)[q1]? = some (a1, .inl (cA, n1, .inl (u.1 q1)))) (ht : V.2.1[t0]? = some (cA, .int)) (hset : ∀ sp dp n : Nat, (V.2.2.2.1 u).set q1 (a1, .inl (cA, n1, .inl (va_cpy (u.1 q0) (u.1 q1) sp dp n))) = V.2.2.2.1 (mm_cp u q0 sp q1 dp n)) {sp dp n : Int32} {f : MM → Option α} (hd : decode cc pc = .ok (.invokestatic index, 3)) (kk : ∀ u', JJ X V nL Q (pc + 3) lv st u' (f u')) : JJ X V nL Q pc lv (.int n :: .int dp :: .ref a1 :: .int sp :: .ref a0 :: st) u (mo_cp u q0 n0 q1 n1 sp dp n f) := fun out ho H locs la hP hS hl => by
  unfold mo_cp at ho
  by_cases h : sp < 0 ∨ dp < 0 ∨ n < 0 ∨ n0 < sp.toNatClampNeg + n.toNatClampNeg ∨ n1 < dp.toNatClampNeg + n.toNatClampNeg
  · rw [if_pos h] at ho; cases ho
  · rw [if_neg h] at ho
    refine va_copyi F.1 F.2.1 (F.2.2.1.trans hl.1.symm) F.2.2.2.1 (F.2.2.2.2.1 _ hw.1) (F.2.2.2.2.1 _ hw.2.1) (F.2.2.2.2.1 _ hw.2.2.1) (F.2.2.2.2.1 _ hw.2.2.2) F.2.2.2.2.2.1 hP (F.2.2.2.2.2.2.1.1 u) hS q0 q1 t0 t0 (ty := .int) ha0 ha1 ht ht rfl (fun q => h (Or.inl q)) (fun q => h (Or.inr (Or.inl q))) (fun q => h (Or.inr (Or.inr (Or.inl q)))) (Nat.not_lt.mp fun q => h (Or.inr (Or.inr (Or.inr (Or.inl q))))) (Nat.not_lt.mp fun q => h (Or.inr (Or.inr (Or.inr (Or.inr q))))) (fun i _ => rfl) (by rw [F.2.2.2.2.2.2.2.2.2.2]; exact hR.1) (by rw [F.2.2.2.2.2.2.2.2.2.2]; exact hR.2) hd (fun H1 locs1 hP1 hD1 hS1 => kk _ out ho H1 locs1 la (by rw [← hset]; exact hP1) hS1 hl)
/-! calls -/
theorem pw_blind (hV : GV V) {av : List Value} : FrameBlind (va_Pc av (PW V u)) := fun a U g mk q => by
  obtain ⟨q0, qP, qK, qR⟩ := q
  exact ⟨q0, qP, va_K.moved (u := U) (U := U.calling g mk a) (Vm.Alike.refl U.vm) qK, hV.2.2.2 U (U.calling g mk a) _ rfl qR⟩
theorem pw_pre (F : FX X V cc nL own rt rm) {H : Heap} {locs : List Loc} (hP : va_P V.1 vwCl (V.2.2.2.1 u) H) (hS : va_S V.2.2.1 X.1.2.2.2.2.heap H locs) {av : List Value} (U : State) (hU : U.heap = H) (hW : X.1.2.2.2.2.WarmedH U.vm) : va_Pc av (PW V u) av.toArray U :=
  ⟨rfl, by rw [hU]; exact hP, va_K.moved hW.alike F.2.2.2.2.2.1, F.2.2.2.2.2.2.1.2.1 _ _ _ hW (by rw [hU]; exact F.2.2.2.2.2.2.1.2.2.1 _ _ _ hS.2.1 F.2.2.2.2.2.2.2.1)⟩
theorem j_rv (F : FX X V cc nL own rt rm) {q0 ci b : Nat} {fs : List Value} {q : vw_C} (hc : vwCl[ci]? = some q) (he : (V.2.2.2.1 u)[q0]? = some (b, .inr (ci, fs))) : ∀ (H : Heap) (locs : List Loc), va_P V.1 vwCl (V.2.2.2.1 u) H → va_S V.2.2.1 X.1.2.2.2.2.heap H locs → ∃ cell : Cell, H[b]? = some cell ∧ cell.vm.isStatics = false ∧ X.1.2.2.2.2.vm.findClass q.1 = some cell.cls := fun H locs hP hS => va_recv F.2.2.2.2.2.1 hP hc he
/-! statics, constant texts -/
theorem j_gs (F : FX X V cc nL own rt rm) {C n d ref : String} {v : Value} {index : Nat} (hZ : va_Z C n d v V.2.2.1 X.1.2.2.2.2 X.1.2.2.2.2.heap) (hlink : Cond.fieldLink own index ref n d ∈ TB) (hr : C = ref) (hd : decode cc pc = .ok (.getstatic index, 3)) (kk : JJ X V nL Q (pc + 3) lv (v :: st) u o) : JJ X V nL Q pc lv st u o := fun out ho H locs la hP hS hl => va_gets F.1 F.2.1 hZ hS F.2.2.2.1 (F.2.2.2.2.1 _ hlink) (fun x h => by rw [← hr]; exact h) hd (kk out ho H locs la hP hS hl)
theorem j_ti (F : FX X V cc nL own rt rm) {t : Nat} {tb : List Int32} {N : Nat} {j : Int32} {f : Int32 → Option α} (hT : va_T .int t N (fun j => .int (tb.getD j 0)) V.2.2.1 X.1.2.2.2.2 X.1.2.2.2.2.heap) (hN : tb.length = N) (hd : decode cc pc = .ok (.iaload, 1)) (kk : ∀ z : Int32, JJ X V nL Q (pc + 1) lv (.int z :: st) u (f z)) : JJ X V nL Q pc lv (.int j :: .ref t :: st) u (mo_tb tb j f) := fun out ho H locs la hP hS hl => by
  unfold mo_tb at ho
  by_cases h : j < 0 ∨ tb.length ≤ j.toNatClampNeg
  · rw [if_pos h] at ho; cases ho
  · rw [if_neg h] at ho
    exact va_ti F.1 F.2.1 hT hS (by rw [hN] at h; exact h) rfl hd (kk _ out ho H locs la hP hS hl)
theorem j_tbb (F : FX X V cc nL own rt rm) {t : Nat} {tb : List Int32} {N : Nat} {j : Int32} {f : Int32 → Option α} (hT : va_T .byte t N (fun j => .int (tb.getD j 0)) V.2.2.1 X.1.2.2.2.2 X.1.2.2.2.2.heap) (hN : tb.length = N) (hd : decode cc pc = .ok (.baload, 1)) (kk : ∀ z : Int32, JJ X V nL Q (pc + 1) lv (.int z :: st) u (f z)) : JJ X V nL Q pc lv (.int j :: .ref t :: st) u (mo_tb tb j f) := fun out ho H locs la hP hS hl => by
  unfold mo_tb at ho
  by_cases h : j < 0 ∨ tb.length ≤ j.toNatClampNeg
  · rw [if_pos h] at ho; cases ho
  · rw [if_neg h] at ho
    exact va_tb F.1 F.2.1 hT hS (by rw [hN] at h; exact h) rfl hd (kk _ out ho H locs la hP hS hl)
theorem j_sf (F : FX X V cc nL own rt rm) {C n d ref : String} {v : Value} {q index : Nat} (hE : va_OF C n d v q V.2.2.1 X.1.2.2.2.2 X.1.2.2.2.2.heap) (hlink : Cond.fieldLink own index ref n d ∈ TB) (hr : C = ref) (hd : decode cc pc = .ok (.getfield index, 3)) (kk : JJ X V nL Q (pc + 3) lv (v :: st) u o) : JJ X V nL Q pc lv (.ref q :: st) u o := fun out ho H locs la hP hS hl => vk_getf F.1 F.2.1 hE hS F.2.2.2.1 (F.2.2.2.2.1 _ hlink) (fun x h => by rw [← hr]; exact h) hd (kk out ho H locs la hP hS hl)
theorem j_ldcS (F : FX X V cc nL own rt rm) {tx : String} {q index : Nat} (hZ : vk_R own index tx q X.1.2.2.2.2) (hd : decode cc pc = .ok (.ldc index, 2)) (kk : JJ X V nL Q (pc + 2) lv (.ref q :: st) u o) : JJ X V nL Q pc lv st u o := fun out ho H locs la hP hS hl => va_ldcS F.1 F.2.1 F.2.2.2.1 hZ hd (kk out ho H locs la hP hS hl)
theorem j_alen (F : FX X V cc nL own rt rm) (q0 t0 : Nat) {a : Nat} {cA : ClassId} {x : vp_A} {ty : FieldType} {v : Int32} (ha : (V.2.2.2.1 u)[q0]? = some (a, .inl (cA, x))) (ht : V.2.1[t0]? = some (cA, ty)) (hv : Int32.ofNat x.1 = v) (hd : decode cc pc = .ok (.arraylength, 1)) (kk : JJ X V nL Q (pc + 1) lv (.int v :: st) u o) : JJ X V nL Q pc lv (.ref a :: st) u o := fun out ho H locs la hP hS hl => va_alen F.1 F.2.1 F.2.2.2.2.2.1 hP q0 t0 ha ht hv hd (kk out ho H locs la hP hS hl)
theorem j_tlen (F : FX X V cc nL own rt rm) {ty : FieldType} {t N : Nat} {g : Nat → Value} {v : Int32} (hT : va_T ty t N g V.2.2.1 X.1.2.2.2.2 X.1.2.2.2.2.heap) (hv : Int32.ofNat N = v) (hd : decode cc pc = .ok (.arraylength, 1)) (kk : JJ X V nL Q (pc + 1) lv (.int v :: st) u o) : JJ X V nL Q pc lv (.ref t :: st) u o := fun out ho H locs la hP hS hl => va_tlen F.1 F.2.1 hT hS hv hd (kk out ho H locs la hP hS hl)
theorem j_max (F : FX X V cc nL own rt rm) {index : Nat} (hw : Cond.methodLink own index Lib.Math.max.name ∈ TB ∧ Cond.static Lib.Math.max.name ∈ TB ∧ Cond.initialized "java/lang/Math" ∈ TB ∧ Cond.code Lib.Math.max.name Lib.Math.max.code 2 (some .int) ∈ TB) (hR : 1 ≤ rm.frames ∧ (st.map fun v => v.category).sum + 13 ≤ rm.locals) {x y : Int32} (hd : decode cc pc = .ok (.invokestatic index, 3)) (kk : JJ X V nL Q (pc + 3) lv (.int (mo_max x y) :: st) u o) : JJ X V nL Q pc lv (.int y :: .int x :: st) u o := fun out ho H locs la hP hS hl => va_mmax F.1 F.2.1 (F.2.2.1.trans hl.1.symm) F.2.2.2.1 (F.2.2.2.2.1 _ hw.1) (F.2.2.2.2.1 _ hw.2.1) (F.2.2.2.2.1 _ hw.2.2.1) (F.2.2.2.2.1 _ hw.2.2.2) (by rw [F.2.2.2.2.2.2.2.2.2.2]; exact hR.1) (by rw [F.2.2.2.2.2.2.2.2.2.2]; exact hR.2) (Nat.zero_le _) (Nat.zero_le _) hd (kk out ho H locs la hP hS hl)
/-- the words of a virtual call -/
def KV (own : String) (index : Nat) (C : String) (y : MethodName) (bytes : ByteArray) (maxL : Nat) (ry : Option FieldType) (n : Nat) : Prop := Cond.methodLink own index y ∈ TB ∧ Cond.instanceMethod y ∈ TB ∧ Cond.selects C y y ∈ TB ∧ Cond.initialized y.cls ∈ TB ∧ Cond.code y bytes maxL ry ∈ TB ∧ (y.cls ≠ "java/lang/invoke/MethodHandle" ∧ y.cls ≠ "java/lang/invoke/VarHandle" ∧ (parseMethodDescriptor y.desc).map (fun d => d.parameters.length) = some n)
def KS (own : String) (index : Nat) (y : MethodName) (bytes : ByteArray) (maxL : Nat) (ry : Option FieldType) (n : Nat) : Prop := Cond.methodLink own index y ∈ TB ∧ Cond.static y ∈ TB ∧ Cond.initialized y.cls ∈ TB ∧ Cond.code y bytes maxL ry ∈ TB ∧ (y.cls ≠ "java/lang/invoke/MethodHandle" ∧ y.cls ≠ "java/lang/invoke/VarHandle" ∧ (parseMethodDescriptor y.desc).map (fun d => d.parameters.length) = some n)
def KN (y : MethodName) (bytes : ByteArray) (maxL : Nat) (ry : Option FieldType) (n : Nat) : Prop := Cond.static y ∈ TB ∧ Cond.initialized y.cls ∈ TB ∧ Cond.code y bytes maxL ry ∈ TB ∧ (y.cls ≠ "java/lang/invoke/MethodHandle" ∧ y.cls ≠ "java/lang/invoke/VarHandle" ∧ (parseMethodDescriptor y.desc).map (fun d => d.parameters.length) = some n)
theorem j_calliV (F : FX X V cc nL own rt rm) {y : MethodName} {bytes : ByteArray} {maxL index n : Nat} {ry : Option FieldType} {rmy : Room} {C : String} {b : Nat} {st0 : List Value} {oc : Option (Int32 × MM)} {f : Int32 → MM → Option α} (hw : KV own index C y bytes maxL ry n) (As : List Value) (hM : CI V y bytes maxL ry rmy (.ref b :: As) u oc) (hR : rmy.cells = 0 ∧ rmy.slots = 0 ∧ rmy.frames + 1 ≤ rm.frames ∧ 8 + (maxL + 11) + rmy.locals ≤ rm.locals) (hrv : ∀ (H : Heap) (locs : List Loc), va_P V.1 vwCl (V.2.2.2.1 u) H → va_S V.2.2.1 X.1.2.2.2.2.heap H locs → ∃ cell : Cell, H[b]? = some cell ∧ cell.vm.isStatics = false ∧ X.1.2.2.2.2.vm.findClass C = some cell.cls) (hn : As.length = n) (hst : st0 = As.reverse ++ .ref b :: st) (hw8 : (st.map fun v => v.category).sum ≤ 8) (hd : decode cc pc = .ok (.invokevirtual index, 3)) (kk : ∀ (r : Int32) (u2 : MM), JJ X V nL Q (pc + 3) lv (.int r :: st) u2 (f r u2)) : JJ X V nL Q pc lv st0 u (mo_ci oc f) := fun out ho H locs la hP hS hl => by
  cases oc with
  | none => cases ho
  | some x =>
    refine va_calli (va_runV (As := As) (rest := st) (Ts := TB) (n := n) (C := C) ⟨F.1, F.2.1, F.2.2.1, F.2.2.2.1, F.2.2.2.2.1⟩ (hM _ x rfl) ⟨callB_of n F.2.2.2.2.1 (tb_gd hw.2.2.2.2.1) rfl hR.1 hR.2.1 (F.2.2.2.2.1 _ hw.2.2.2.1) (F.2.2.2.2.1 _ hw.1) hw.2.2.2.2.2 (by rw [F.2.2.2.2.2.2.2.2.2.2]; exact hR.2.2), F.2.2.2.2.1 _ hw.2.1, F.2.2.2.2.1 _ hw.2.2.1⟩ ⟨pw_blind F.2.2.2.2.2.2.1, hrv H locs hP hS, pw_pre F hP hS⟩ rfl hn hl.1 hst (lv_room hw8) hd ⟨Nat.zero_le _, Nat.zero_le _⟩) hS (fun q _ h => h) (fun q h => h) (fun r u2 t H1 locs1 ht hvm hp hB hz hk hS1 => ?_)
    obtain ⟨rfl, rfl⟩ := hp
    exact kk _ _ out ho H1 locs1 la (by rw [← ht]; exact hB) hS1 hl
theorem j_calliS (F : FX X V cc nL own rt rm) {y : MethodName} {bytes : ByteArray} {maxL index n : Nat} {ry : Option FieldType} {rmy : Room} {st0 : List Value} {oc : Option (Int32 × MM)} {f : Int32 → MM → Option α} (hw : KS own index y bytes maxL ry n) (As : List Value) (hM : CI V y bytes maxL ry rmy As u oc) (hR : rmy.cells = 0 ∧ rmy.slots = 0 ∧ rmy.frames + 1 ≤ rm.frames ∧ 8 + (maxL + 11) + rmy.locals ≤ rm.locals) (hn : As.length = n) (hst : st0 = As.reverse ++ st) (hw8 : (st.map fun v => v.category).sum ≤ 8) (hd : decode cc pc = .ok (.invokestatic index, 3)) (kk : ∀ (r : Int32) (u2 : MM), JJ X V nL Q (pc + 3) lv (.int r :: st) u2 (f r u2)) : JJ X V nL Q pc lv st0 u (mo_ci oc f) := fun out ho H locs la hP hS hl => by
  cases oc with
  | none => cases ho
  | some x =>
    refine va_calli (va_runS (As := As) (rest := st) (Ts := TB) (n := n) ⟨F.1, F.2.1, F.2.2.1, F.2.2.2.1, F.2.2.2.2.1⟩ (hM _ x rfl) ⟨callB_of n F.2.2.2.2.1 (tb_gd hw.2.2.2.1) rfl hR.1 hR.2.1 (F.2.2.2.2.1 _ hw.2.2.1) (F.2.2.2.2.1 _ hw.1) hw.2.2.2.2 (by rw [F.2.2.2.2.2.2.2.2.2.2]; exact hR.2.2), F.2.2.2.2.1 _ hw.2.1⟩ ⟨pw_blind F.2.2.2.2.2.2.1, pw_pre F hP hS⟩ rfl hn hl.1 hst (lv_room hw8) hd ⟨Nat.zero_le _, Nat.zero_le _⟩) hS (fun q _ h => h) (fun q h => h) (fun r u2 t H1 locs1 ht hvm hp hB hz hk hS1 => ?_)
    obtain ⟨rfl, rfl⟩ := hp
    exact kk _ _ out ho H1 locs1 la (by rw [← ht]; exact hB) hS1 hl
theorem j_calliN (F : FX X V cc nL own rt rm) {y : MethodName} {bytes : ByteArray} {maxL index n : Nat} {ry : Option FieldType} {rmy : Room} {host : String} {st0 : List Value} {oc : Option (Int32 × MM)} {f : Int32 → MM → Option α} (hw : KN y bytes maxL ry n) (hnw : va_Nw (.methodLinkNest own index y host) X.1.2.2.2.2) (As : List Value) (hM : CI V y bytes maxL ry rmy As u oc) (hR : rmy.cells = 0 ∧ rmy.slots = 0 ∧ rmy.frames + 1 ≤ rm.frames ∧ 8 + (maxL + 11) + rmy.locals ≤ rm.locals) (hn : As.length = n) (hst : st0 = As.reverse ++ st) (hw8 : (st.map fun v => v.category).sum ≤ 8) (hd : decode cc pc = .ok (.invokestatic index, 3)) (kk : ∀ (r : Int32) (u2 : MM), JJ X V nL Q (pc + 3) lv (.int r :: st) u2 (f r u2)) : JJ X V nL Q pc lv st0 u (mo_ci oc f) := fun out ho H locs la hP hS hl => by
  cases oc with
  | none => cases ho
  | some x =>
    refine va_calli (va_runSN (As := As) (rest := st) (Ts := TB) (n := n) ⟨F.1, F.2.1, F.2.2.1, F.2.2.2.1, F.2.2.2.2.1⟩ (hM _ x rfl) ⟨va_cnB n F.2.2.2.2.1 (tb_gd hw.2.2.1) rfl hR.1 hR.2.1 hnw (F.2.2.2.2.1 _ hw.2.1) hw.2.2.2 (by rw [F.2.2.2.2.2.2.2.2.2.2]; exact hR.2.2), F.2.2.2.2.1 _ hw.1, trivial⟩ ⟨pw_blind F.2.2.2.2.2.2.1, pw_pre F hP hS⟩ rfl hn hl.1 hst (lv_room hw8) hd ⟨Nat.zero_le _, Nat.zero_le _⟩) hS (fun q _ h => h) (fun q h => h) (fun r u2 t H1 locs1 ht hvm hp hB hz hk hS1 => ?_)
    obtain ⟨rfl, rfl⟩ := hp
    exact kk _ _ out ho H1 locs1 la (by rw [← ht]; exact hB) hS1 hl
theorem j_calllV (F : FX X V cc nL own rt rm) {y : MethodName} {bytes : ByteArray} {maxL index n : Nat} {ry : Option FieldType} {rmy : Room} {C : String} {b : Nat} {st0 : List Value} {oc : Option (Int64 × MM)} {f : Int64 → MM → Option α} (hw : KV own index C y bytes maxL ry n) (As : List Value) (hM : CL V y bytes maxL ry rmy (.ref b :: As) u oc) (hR : rmy.cells = 0 ∧ rmy.slots = 0 ∧ rmy.frames + 1 ≤ rm.frames ∧ 8 + (maxL + 11) + rmy.locals ≤ rm.locals) (hrv : ∀ (H : Heap) (locs : List Loc), va_P V.1 vwCl (V.2.2.2.1 u) H → va_S V.2.2.1 X.1.2.2.2.2.heap H locs → ∃ cell : Cell, H[b]? = some cell ∧ cell.vm.isStatics = false ∧ X.1.2.2.2.2.vm.findClass C = some cell.cls) (hn : As.length = n) (hst : st0 = As.reverse ++ .ref b :: st) (hw8 : (st.map fun v => v.category).sum ≤ 8) (hd : decode cc pc = .ok (.invokevirtual index, 3)) (kk : ∀ (r : Int64) (u2 : MM), JJ X V nL Q (pc + 3) lv (.long r :: st) u2 (f r u2)) : JJ X V nL Q pc lv st0 u (mo_cl oc f) := fun out ho H locs la hP hS hl => by
  cases oc with
  | none => cases ho
  | some x =>
    refine va_calll (va_runV (As := As) (rest := st) (Ts := TB) (n := n) (C := C) ⟨F.1, F.2.1, F.2.2.1, F.2.2.2.1, F.2.2.2.2.1⟩ (hM _ x rfl) ⟨callB_of n F.2.2.2.2.1 (tb_gd hw.2.2.2.2.1) rfl hR.1 hR.2.1 (F.2.2.2.2.1 _ hw.2.2.2.1) (F.2.2.2.2.1 _ hw.1) hw.2.2.2.2.2 (by rw [F.2.2.2.2.2.2.2.2.2.2]; exact hR.2.2), F.2.2.2.2.1 _ hw.2.1, F.2.2.2.2.1 _ hw.2.2.1⟩ ⟨pw_blind F.2.2.2.2.2.2.1, hrv H locs hP hS, pw_pre F hP hS⟩ rfl hn hl.1 hst (lv_room hw8) hd ⟨Nat.zero_le _, Nat.zero_le _⟩) hS (fun q _ h => h) (fun q h => h) (fun r u2 t H1 locs1 ht hvm hp hB hz hk hS1 => ?_)
    obtain ⟨rfl, rfl⟩ := hp
    exact kk _ _ out ho H1 locs1 la (by rw [← ht]; exact hB) hS1 hl
theorem j_calllS (F : FX X V cc nL own rt rm) {y : MethodName} {bytes : ByteArray} {maxL index n : Nat} {ry : Option FieldType} {rmy : Room} {st0 : List Value} {oc : Option (Int64 × MM)} {f : Int64 → MM → Option α} (hw : KS own index y bytes maxL ry n) (As : List Value) (hM : CL V y bytes maxL ry rmy As u oc) (hR : rmy.cells = 0 ∧ rmy.slots = 0 ∧ rmy.frames + 1 ≤ rm.frames ∧ 8 + (maxL + 11) + rmy.locals ≤ rm.locals) (hn : As.length = n) (hst : st0 = As.reverse ++ st) (hw8 : (st.map fun v => v.category).sum ≤ 8) (hd : decode cc pc = .ok (.invokestatic index, 3)) (kk : ∀ (r : Int64) (u2 : MM), JJ X V nL Q (pc + 3) lv (.long r :: st) u2 (f r u2)) : JJ X V nL Q pc lv st0 u (mo_cl oc f) := fun out ho H locs la hP hS hl => by
  cases oc with
  | none => cases ho
  | some x =>
    refine va_calll (va_runS (As := As) (rest := st) (Ts := TB) (n := n) ⟨F.1, F.2.1, F.2.2.1, F.2.2.2.1, F.2.2.2.2.1⟩ (hM _ x rfl) ⟨callB_of n F.2.2.2.2.1 (tb_gd hw.2.2.2.1) rfl hR.1 hR.2.1 (F.2.2.2.2.1 _ hw.2.2.1) (F.2.2.2.2.1 _ hw.1) hw.2.2.2.2 (by rw [F.2.2.2.2.2.2.2.2.2.2]; exact hR.2.2), F.2.2.2.2.1 _ hw.2.1⟩ ⟨pw_blind F.2.2.2.2.2.2.1, pw_pre F hP hS⟩ rfl hn hl.1 hst (lv_room hw8) hd ⟨Nat.zero_le _, Nat.zero_le _⟩) hS (fun q _ h => h) (fun q h => h) (fun r u2 t H1 locs1 ht hvm hp hB hz hk hS1 => ?_)
    obtain ⟨rfl, rfl⟩ := hp
    exact kk _ _ out ho H1 locs1 la (by rw [← ht]; exact hB) hS1 hl
theorem j_calllN (F : FX X V cc nL own rt rm) {y : MethodName} {bytes : ByteArray} {maxL index n : Nat} {ry : Option FieldType} {rmy : Room} {host : String} {st0 : List Value} {oc : Option (Int64 × MM)} {f : Int64 → MM → Option α} (hw : KN y bytes maxL ry n) (hnw : va_Nw (.methodLinkNest own index y host) X.1.2.2.2.2) (As : List Value) (hM : CL V y bytes maxL ry rmy As u oc) (hR : rmy.cells = 0 ∧ rmy.slots = 0 ∧ rmy.frames + 1 ≤ rm.frames ∧ 8 + (maxL + 11) + rmy.locals ≤ rm.locals) (hn : As.length = n) (hst : st0 = As.reverse ++ st) (hw8 : (st.map fun v => v.category).sum ≤ 8) (hd : decode cc pc = .ok (.invokestatic index, 3)) (kk : ∀ (r : Int64) (u2 : MM), JJ X V nL Q (pc + 3) lv (.long r :: st) u2 (f r u2)) : JJ X V nL Q pc lv st0 u (mo_cl oc f) := fun out ho H locs la hP hS hl => by
  cases oc with
  | none => cases ho
  | some x =>
    refine va_calll (va_runSN (As := As) (rest := st) (Ts := TB) (n := n) ⟨F.1, F.2.1, F.2.2.1, F.2.2.2.1, F.2.2.2.2.1⟩ (hM _ x rfl) ⟨va_cnB n F.2.2.2.2.1 (tb_gd hw.2.2.1) rfl hR.1 hR.2.1 hnw (F.2.2.2.2.1 _ hw.2.1) hw.2.2.2 (by rw [F.2.2.2.2.2.2.2.2.2.2]; exact hR.2.2), F.2.2.2.2.1 _ hw.1, trivial⟩ ⟨pw_blind F.2.2.2.2.2.2.1, pw_pre F hP hS⟩ rfl hn hl.1 hst (lv_room hw8) hd ⟨Nat.zero_le _, Nat.zero_le _⟩) hS (fun q _ h => h) (fun q h => h) (fun r u2 t H1 locs1 ht hvm hp hB hz hk hS1 => ?_)
    obtain ⟨rfl, rfl⟩ := hp
    exact kk _ _ out ho H1 locs1 la (by rw [← ht]; exact hB) hS1 hl
theorem j_callvV (F : FX X V cc nL own rt rm) {y : MethodName} {bytes : ByteArray} {maxL index n : Nat} {ry : Option FieldType} {rmy : Room} {C : String} {b : Nat} {st0 : List Value} {oc : Option MM} {f : MM → Option α} (hw : KV own index C y bytes maxL ry n) (As : List Value) (hM : CV V y bytes maxL ry rmy (.ref b :: As) u oc) (hR : rmy.cells = 0 ∧ rmy.slots = 0 ∧ rmy.frames + 1 ≤ rm.frames ∧ 8 + (maxL + 11) + rmy.locals ≤ rm.locals) (hrv : ∀ (H : Heap) (locs : List Loc), va_P V.1 vwCl (V.2.2.2.1 u) H → va_S V.2.2.1 X.1.2.2.2.2.heap H locs → ∃ cell : Cell, H[b]? = some cell ∧ cell.vm.isStatics = false ∧ X.1.2.2.2.2.vm.findClass C = some cell.cls) (hn : As.length = n) (hst : st0 = As.reverse ++ .ref b :: st) (hw8 : (st.map fun v => v.category).sum ≤ 8) (hd : decode cc pc = .ok (.invokevirtual index, 3)) (kk : ∀ u2 : MM, JJ X V nL Q (pc + 3) lv (st) u2 (f u2)) : JJ X V nL Q pc lv st0 u (mo_cv oc f) := fun out ho H locs la hP hS hl => by
  cases oc with
  | none => cases ho
  | some x =>
    refine va_callv (va_runV (As := As) (rest := st) (Ts := TB) (n := n) (C := C) ⟨F.1, F.2.1, F.2.2.1, F.2.2.2.1, F.2.2.2.2.1⟩ (hM _ x rfl) ⟨callB_of n F.2.2.2.2.1 (tb_gd hw.2.2.2.2.1) rfl hR.1 hR.2.1 (F.2.2.2.2.1 _ hw.2.2.2.1) (F.2.2.2.2.1 _ hw.1) hw.2.2.2.2.2 (by rw [F.2.2.2.2.2.2.2.2.2.2]; exact hR.2.2), F.2.2.2.2.1 _ hw.2.1, F.2.2.2.2.1 _ hw.2.2.1⟩ ⟨pw_blind F.2.2.2.2.2.2.1, hrv H locs hP hS, pw_pre F hP hS⟩ rfl hn hl.1 hst (lv_room hw8) hd ⟨Nat.zero_le _, Nat.zero_le _⟩) hS (fun q _ h => h) (fun q h => h) (fun u2 t H1 locs1 ht hvm hp hB hz hk hS1 => ?_)
    subst hp
    exact kk _ out ho H1 locs1 la (by rw [← ht]; exact hB) hS1 hl
theorem j_callvS (F : FX X V cc nL own rt rm) {y : MethodName} {bytes : ByteArray} {maxL index n : Nat} {ry : Option FieldType} {rmy : Room} {st0 : List Value} {oc : Option MM} {f : MM → Option α} (hw : KS own index y bytes maxL ry n) (As : List Value) (hM : CV V y bytes maxL ry rmy As u oc) (hR : rmy.cells = 0 ∧ rmy.slots = 0 ∧ rmy.frames + 1 ≤ rm.frames ∧ 8 + (maxL + 11) + rmy.locals ≤ rm.locals) (hn : As.length = n) (hst : st0 = As.reverse ++ st) (hw8 : (st.map fun v => v.category).sum ≤ 8) (hd : decode cc pc = .ok (.invokestatic index, 3)) (kk : ∀ u2 : MM, JJ X V nL Q (pc + 3) lv (st) u2 (f u2)) : JJ X V nL Q pc lv st0 u (mo_cv oc f) := fun out ho H locs la hP hS hl => by
  cases oc with
  | none => cases ho
  | some x =>
    refine va_callv (va_runS (As := As) (rest := st) (Ts := TB) (n := n) ⟨F.1, F.2.1, F.2.2.1, F.2.2.2.1, F.2.2.2.2.1⟩ (hM _ x rfl) ⟨callB_of n F.2.2.2.2.1 (tb_gd hw.2.2.2.1) rfl hR.1 hR.2.1 (F.2.2.2.2.1 _ hw.2.2.1) (F.2.2.2.2.1 _ hw.1) hw.2.2.2.2 (by rw [F.2.2.2.2.2.2.2.2.2.2]; exact hR.2.2), F.2.2.2.2.1 _ hw.2.1⟩ ⟨pw_blind F.2.2.2.2.2.2.1, pw_pre F hP hS⟩ rfl hn hl.1 hst (lv_room hw8) hd ⟨Nat.zero_le _, Nat.zero_le _⟩) hS (fun q _ h => h) (fun q h => h) (fun u2 t H1 locs1 ht hvm hp hB hz hk hS1 => ?_)
    subst hp
    exact kk _ out ho H1 locs1 la (by rw [← ht]; exact hB) hS1 hl
theorem j_callvN (F : FX X V cc nL own rt rm) {y : MethodName} {bytes : ByteArray} {maxL index n : Nat} {ry : Option FieldType} {rmy : Room} {host : String} {st0 : List Value} {oc : Option MM} {f : MM → Option α} (hw : KN y bytes maxL ry n) (hnw : va_Nw (.methodLinkNest own index y host) X.1.2.2.2.2) (As : List Value) (hM : CV V y bytes maxL ry rmy As u oc) (hR : rmy.cells = 0 ∧ rmy.slots = 0 ∧ rmy.frames + 1 ≤ rm.frames ∧ 8 + (maxL + 11) + rmy.locals ≤ rm.locals) (hn : As.length = n) (hst : st0 = As.reverse ++ st) (hw8 : (st.map fun v => v.category).sum ≤ 8) (hd : decode cc pc = .ok (.invokestatic index, 3)) (kk : ∀ u2 : MM, JJ X V nL Q (pc + 3) lv (st) u2 (f u2)) : JJ X V nL Q pc lv st0 u (mo_cv oc f) := fun out ho H locs la hP hS hl => by
  cases oc with
  | none => cases ho
  | some x =>
    refine va_callv (va_runSN (As := As) (rest := st) (Ts := TB) (n := n) ⟨F.1, F.2.1, F.2.2.1, F.2.2.2.1, F.2.2.2.2.1⟩ (hM _ x rfl) ⟨va_cnB n F.2.2.2.2.1 (tb_gd hw.2.2.1) rfl hR.1 hR.2.1 hnw (F.2.2.2.2.1 _ hw.2.1) hw.2.2.2 (by rw [F.2.2.2.2.2.2.2.2.2.2]; exact hR.2.2), F.2.2.2.2.1 _ hw.1, trivial⟩ ⟨pw_blind F.2.2.2.2.2.2.1, pw_pre F hP hS⟩ rfl hn hl.1 hst (lv_room hw8) hd ⟨Nat.zero_le _, Nat.zero_le _⟩) hS (fun q _ h => h) (fun q h => h) (fun u2 t H1 locs1 ht hvm hp hB hz hk hS1 => ?_)
    subst hp
    exact kk _ out ho H1 locs1 la (by rw [← ht]; exact hB) hS1 hl
theorem j_st1 (F : FX X V cc nL own rt rm) (q0 t0 : Nat) {a : Nat} {cA : ClassId} {n : Nat} {j v : Int32} (ha : (V.2.2.2.1 u)[q0]? = some (a, .inl (cA, n, .inl (u.1 q0)))) (ht : V.2.1[t0]? = some (cA, .int)) (hin : vp_in j n) (hset : ∀ i : Nat, (V.2.2.2.1 u).set q0 (a, .inl (cA, n, .inl (upd (u.1 q0) i v))) = V.2.2.2.1 (mm_w u q0 i v)) (hd : decode cc pc = .ok (.iastore, 1)) (kk : JJ X V nL Q (pc + 1) lv st (mm_w u q0 j.toNatClampNeg v) o) : JJ X V nL Q pc lv (.int v :: .int j :: .ref a :: st) u o := fun out ho H locs la hP hS hl => va_iast F.1 F.2.1 F.2.2.2.2.2.1 hP (F.2.2.2.2.2.2.1.1 u) hS q0 t0 ha ht hin hd (fun H1 locs1 hP1 hD1 hS1 => kk out ho H1 locs1 la (by rw [← hset]; exact hP1) hS1 hl)
theorem j_tr {c : Prop} [Decidable c] {o9 : Option α} (h : c) (kk : JJ X V nL Q pc lv st u (if c then o else o9)) : JJ X V nL Q pc lv st u o := by rwa [if_pos h] at kk
theorem j_fa {c : Prop} [Decidable c] {o9 : Option α} (h : ¬ c) (kk : JJ X V nL Q pc lv st u (if c then o9 else o)) : JJ X V nL Q pc lv st u o := by rwa [if_neg h] at kk
end JR
theorem fl_0 (u : MM) (k : Nat) (v : Int32) : mm_fl u k 0 v = u := by
  unfold mm_fl
  simp
theorem fl_s (u : MM) (k i : Nat) (v : Int32) : mm_w (mm_fl u k i v) k i v = mm_fl u k (i + 1) v := by
  unfold mm_w mm_fl
  congr 1
  funext a b
  by_cases h : a = k
  · subst h
    by_cases h2 : b = i
    · subst h2
      simp
    · by_cases h3 : b < i
      · simp [h2, h3, Nat.lt_succ_of_lt h3]
      · simp [h2, h3, show ¬ b < i + 1 by omega]
  · simp [h]
/-- Arrays.fill(int[], int), in any world -/
theorem k_fill {V : VV} (hV : GV V) (k n : Nat) {a : Nat} {cI : ClassId} (hg : ∀ u : MM, (V.2.2.2.1 u)[k]? = some (a, .inl (cI, n, .inl (u.1 k)))) (hs : ∀ (u : MM) (i : Nat) (v : Int32), (V.2.2.2.1 u).set k (a, .inl (cI, n, .inl (upd (u.1 k) i v))) = V.2.2.2.1 (mm_w u k i v)) (ht : V.2.1[0]? = some (cI, .int)) (hn : n < 2 ^ 31) (v : Int32) (u : MM) : CV V yJ7_fill_53178 cJ7_fill_53178 4 none (RM 1) [.ref a, .int v] u (some (mm_fl u k n v)) := cv_of hV (by decide) (Nat.le_of_ble_eq_true rfl) (fun X F => by
  have loop : ∀ m i : Nat, i + m = n → JJ X V 4 (QV X V) 5 [(2, .int (nI i)), (3, .int (nI n)), (0, .ref a), (1, .int v)] [] (mm_fl u k i v) (some (mm_fl u k n v)) := by
    intro m
    induction m with
    | zero =>
      intro i hi
      obtain rfl : i = n := by omega
      refine j_iload_n F dJ7_fill_53178_5 rfl 0 rfl ?_
      refine j_iload_n F dJ7_fill_53178_6 rfl 1 rfl ?_
      refine j_tr (o9 := none) (c := nI i ≤ nI i) (nI_le (Nat.le_refl _) hn) ?_
      refine j_icge F (tgt := 20) dJ7_fill_53178_7 (by decide) ?_ j_none
      exact j_vret F dJ7_fill_53178_20
    | succ m ih =>
      intro i hi
      have hlt : i < n := by omega
      refine j_iload_n F dJ7_fill_53178_5 rfl 0 rfl ?_
      refine j_iload_n F dJ7_fill_53178_6 rfl 1 rfl ?_
      refine j_fa (o9 := none) (c := nI n ≤ nI i) (nI_ge hlt hn) ?_
      refine j_icge F (tgt := 20) dJ7_fill_53178_7 (by decide) j_none ?_
      refine j_aload_n F dJ7_fill_53178_10 rfl 2 rfl ?_
      refine j_iload_n F dJ7_fill_53178_11 rfl 0 rfl ?_
      refine j_iload_n F dJ7_fill_53178_12 rfl 3 rfl ?_
      refine j_st1 F k 0 (hg _) ht (vp_in_nI hlt hn) (fun i => hs _ i v) dJ7_fill_53178_13 ?_
      rw [nI_clamp (Nat.lt_trans hlt hn), fl_s]
      refine j_iinc F dJ7_fill_53178_14 (k := 0) (v := nI (i + 1)) (lv' := [(2, .int (nI (i + 1))), (3, .int (nI n)), (0, .ref a), (1, .int v)]) rfl (nI_1 i) (by decide) rfl ?_
      refine j_goto F (tgt := 5) dJ7_fill_53178_17 (by decide) ?_
      exact ih (i + 1) (by omega)
  refine j_iconst (v := 0) F dJ7_fill_53178_0 (by decide) ?_
  refine j_istore_n F dJ7_fill_53178_1 (i := 2) (lv' := [(2, .int 0), (0, .ref a), (1, .int v)]) rfl (by decide) rfl ?_
  refine j_aload_n F dJ7_fill_53178_2 rfl 1 rfl ?_
  refine j_alen F k 0 (v := nI n) (hg u) ht rfl dJ7_fill_53178_3 ?_
  refine j_istore_n F dJ7_fill_53178_4 (i := 3) (lv' := [(3, .int (nI n)), (2, .int 0), (0, .ref a), (1, .int v)]) rfl (by decide) rfl ?_
  refine j_sub (lv' := [(2, .int 0), (3, .int (nI n)), (0, .ref a), (1, .int v)]) [1, 0, 2, 3] rfl ?_
  have h := loop n 0 (by omega)
  rw [fl_0, nI_0] at h
  exact h)
