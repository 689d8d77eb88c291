theorem am_lt {b : Nat} {ad : Nat → Nat} {D : va_G} {cy : Nat → ClassId} {X : Nat × (Nat → Int32)} {mid : Nat} {p : Program} {s : State} {m : MethodId} {args : Array Value} {meth : Method} {c : Code} (C : am_Ctx b ad D cy X mid p s m args meth c) : mid < 205 := C.2.2.2.2.2.2.2.2.2.2
section SND
variable {p : Program} {l : Launch} {e : Env} {R : Room} {s : State} {m : MethodId} {args : Array Value} {below : List Frame} {meth : Method} {c : Code} {Q : State → Prop}
variable {b : Nat} {ad : Nat → Nat} {D : va_G} {cy : Nat → ClassId} {X : Nat × (Nat → Int32)} {mid cells slots j : Nat} {ls st : List Value} {M : am_M} {q : Nat × Nat × Nat × Nat} {x y : Int32} {lx ly : Int64} {v w : Value} {i : Nat} {k4 : Fin 4} {n : Int}

theorem sd_iadd (C : am_Ctx b ad D cy X mid p s m args meth c) (hc : am_cd mid j = some (.iadd, q)) (kk : am_G p l e R s m args below meth c Q b ad D cy mid cells slots (j + 1) ls (.int (x + y) :: st) M) : am_G p l e R s m args below meth c Q b ad D cy mid cells slots j ls (.int y :: .int x :: st) M := by
  intro H locs cls hl hA
  have hd := (am_fact (am_lt C) hc).1
  have h := kk H locs cls hl hA
  rw [am_next (am_lt C) hc rfl] at h
  exact lv_iadd C.1 C.2.1 hd h
theorem sd_isub (C : am_Ctx b ad D cy X mid p s m args meth c) (hc : am_cd mid j = some (.isub, q)) (kk : am_G p l e R s m args below meth c Q b ad D cy mid cells slots (j + 1) ls (.int (x - y) :: st) M) : am_G p l e R s m args below meth c Q b ad D cy mid cells slots j ls (.int y :: .int x :: st) M := by
  intro H locs cls hl hA
  have hd := (am_fact (am_lt C) hc).1
  have h := kk H locs cls hl hA
  rw [am_next (am_lt C) hc rfl] at h
  exact lv_isub C.1 C.2.1 hd h
theorem sd_imul (C : am_Ctx b ad D cy X mid p s m args meth c) (hc : am_cd mid j = some (.imul, q)) (kk : am_G p l e R s m args below meth c Q b ad D cy mid cells slots (j + 1) ls (.int (x * y) :: st) M) : am_G p l e R s m args below meth c Q b ad D cy mid cells slots j ls (.int y :: .int x :: st) M := by
  intro H locs cls hl hA
  have hd := (am_fact (am_lt C) hc).1
  have h := kk H locs cls hl hA
  rw [am_next (am_lt C) hc rfl] at h
  exact lv_imul C.1 C.2.1 hd h
theorem sd_iand (C : am_Ctx b ad D cy X mid p s m args meth c) (hc : am_cd mid j = some (.iand, q)) (kk : am_G p l e R s m args below meth c Q b ad D cy mid cells slots (j + 1) ls (.int (x &&& y) :: st) M) : am_G p l e R s m args below meth c Q b ad D cy mid cells slots j ls (.int y :: .int x :: st) M := by
  intro H locs cls hl hA
  have hd := (am_fact (am_lt C) hc).1
  have h := kk H locs cls hl hA
  rw [am_next (am_lt C) hc rfl] at h
  exact lv_iand C.1 C.2.1 hd h
theorem sd_ior (C : am_Ctx b ad D cy X mid p s m args meth c) (hc : am_cd mid j = some (.ior, q)) (kk : am_G p l e R s m args below meth c Q b ad D cy mid cells slots (j + 1) ls (.int (x ||| y) :: st) M) : am_G p l e R s m args below meth c Q b ad D cy mid cells slots j ls (.int y :: .int x :: st) M := by
  intro H locs cls hl hA
  have hd := (am_fact (am_lt C) hc).1
  have h := kk H locs cls hl hA
  rw [am_next (am_lt C) hc rfl] at h
  exact lv_ior C.1 C.2.1 hd h
theorem sd_ixor (C : am_Ctx b ad D cy X mid p s m args meth c) (hc : am_cd mid j = some (.ixor, q)) (kk : am_G p l e R s m args below meth c Q b ad D cy mid cells slots (j + 1) ls (.int (x ^^^ y) :: st) M) : am_G p l e R s m args below meth c Q b ad D cy mid cells slots j ls (.int y :: .int x :: st) M := by
  intro H locs cls hl hA
  have hd := (am_fact (am_lt C) hc).1
  have h := kk H locs cls hl hA
  rw [am_next (am_lt C) hc rfl] at h
  exact lv_ixor C.1 C.2.1 hd h
theorem sd_ishl (C : am_Ctx b ad D cy X mid p s m args meth c) (hc : am_cd mid j = some (.ishl, q)) (kk : am_G p l e R s m args below meth c Q b ad D cy mid cells slots (j + 1) ls (.int (x <<< (y &&& 31)) :: st) M) : am_G p l e R s m args below meth c Q b ad D cy mid cells slots j ls (.int y :: .int x :: st) M := by
  intro H locs cls hl hA
  have hd := (am_fact (am_lt C) hc).1
  have h := kk H locs cls hl hA
  rw [am_next (am_lt C) hc rfl] at h
  exact lv_ishl C.1 C.2.1 hd h
theorem sd_ishr (C : am_Ctx b ad D cy X mid p s m args meth c) (hc : am_cd mid j = some (.ishr, q)) (kk : am_G p l e R s m args below meth c Q b ad D cy mid cells slots (j + 1) ls (.int (x >>> (y &&& 31)) :: st) M) : am_G p l e R s m args below meth c Q b ad D cy mid cells slots j ls (.int y :: .int x :: st) M := by
  intro H locs cls hl hA
  have hd := (am_fact (am_lt C) hc).1
  have h := kk H locs cls hl hA
  rw [am_next (am_lt C) hc rfl] at h
  exact lv_ishr C.1 C.2.1 hd h
theorem sd_iushr (C : am_Ctx b ad D cy X mid p s m args meth c) (hc : am_cd mid j = some (.iushr, q)) (kk : am_G p l e R s m args below meth c Q b ad D cy mid cells slots (j + 1) ls (.int (x.toUInt32 >>> (y.toUInt32 &&& Int32.toUInt32 31)).toInt32 :: st) M) : am_G p l e R s m args below meth c Q b ad D cy mid cells slots j ls (.int y :: .int x :: st) M := by
  intro H locs cls hl hA
  have hd := (am_fact (am_lt C) hc).1
  have h := kk H locs cls hl hA
  rw [am_next (am_lt C) hc rfl] at h
  exact lv_iushr C.1 C.2.1 hd rfl h
theorem sd_idiv (C : am_Ctx b ad D cy X mid p s m args meth c) (hc : am_cd mid j = some (.idiv, q)) (h0 : ¬ y = 0) (kk : am_G p l e R s m args below meth c Q b ad D cy mid cells slots (j + 1) ls (.int (x / y) :: st) M) : am_G p l e R s m args below meth c Q b ad D cy mid cells slots j ls (.int y :: .int x :: st) M := by
  intro H locs cls hl hA
  have hd := (am_fact (am_lt C) hc).1
  have h := kk H locs cls hl hA
  rw [am_next (am_lt C) hc rfl] at h
  exact lv_idiv C.1 C.2.1 hd h0 h
theorem sd_ineg (C : am_Ctx b ad D cy X mid p s m args meth c) (hc : am_cd mid j = some (.ineg, q)) (kk : am_G p l e R s m args below meth c Q b ad D cy mid cells slots (j + 1) ls (.int (-x) :: st) M) : am_G p l e R s m args below meth c Q b ad D cy mid cells slots j ls (.int x :: st) M := by
  intro H locs cls hl hA
  have hd := (am_fact (am_lt C) hc).1
  have h := kk H locs cls hl hA
  rw [am_next (am_lt C) hc rfl] at h
  exact lv_ineg C.1 C.2.1 hd h
theorem sd_i2b (C : am_Ctx b ad D cy X mid p s m args meth c) (hc : am_cd mid j = some (.i2b, q)) (kk : am_G p l e R s m args below meth c Q b ad D cy mid cells slots (j + 1) ls (.int x.toInt8.toInt32 :: st) M) : am_G p l e R s m args below meth c Q b ad D cy mid cells slots j ls (.int x :: st) M := by
  intro H locs cls hl hA
  have hd := (am_fact (am_lt C) hc).1
  have h := kk H locs cls hl hA
  rw [am_next (am_lt C) hc rfl] at h
  exact lv_i2b C.1 C.2.1 hd rfl h
theorem sd_i2c (C : am_Ctx b ad D cy X mid p s m args meth c) (hc : am_cd mid j = some (.i2c, q)) (kk : am_G p l e R s m args below meth c Q b ad D cy mid cells slots (j + 1) ls (.int (x.toUInt32 % 65536).toInt32 :: st) M) : am_G p l e R s m args below meth c Q b ad D cy mid cells slots j ls (.int x :: st) M := by
  intro H locs cls hl hA
  have hd := (am_fact (am_lt C) hc).1
  have h := kk H locs cls hl hA
  rw [am_next (am_lt C) hc rfl] at h
  exact lv_i2c C.1 C.2.1 hd rfl h
theorem sd_i2l (C : am_Ctx b ad D cy X mid p s m args meth c) (hc : am_cd mid j = some (.i2l, q)) (kk : am_G p l e R s m args below meth c Q b ad D cy mid cells slots (j + 1) ls (.long x.toInt64 :: st) M) : am_G p l e R s m args below meth c Q b ad D cy mid cells slots j ls (.int x :: st) M := by
  intro H locs cls hl hA
  have hd := (am_fact (am_lt C) hc).1
  have h := kk H locs cls hl hA
  rw [am_next (am_lt C) hc rfl] at h
  exact lv_i2l C.1 C.2.1 hd rfl h
theorem sd_l2i (C : am_Ctx b ad D cy X mid p s m args meth c) (hc : am_cd mid j = some (.l2i, q)) (kk : am_G p l e R s m args below meth c Q b ad D cy mid cells slots (j + 1) ls (.int lx.toInt32 :: st) M) : am_G p l e R s m args below meth c Q b ad D cy mid cells slots j ls (.long lx :: st) M := by
  intro H locs cls hl hA
  have hd := (am_fact (am_lt C) hc).1
  have h := kk H locs cls hl hA
  rw [am_next (am_lt C) hc rfl] at h
  exact lv_l2i C.1 C.2.1 hd rfl h
theorem sd_ladd (C : am_Ctx b ad D cy X mid p s m args meth c) (hc : am_cd mid j = some (.ladd, q)) (kk : am_G p l e R s m args below meth c Q b ad D cy mid cells slots (j + 1) ls (.long (lx + ly) :: st) M) : am_G p l e R s m args below meth c Q b ad D cy mid cells slots j ls (.long ly :: .long lx :: st) M := by
  intro H locs cls hl hA
  have hd := (am_fact (am_lt C) hc).1
  have h := kk H locs cls hl hA
  rw [am_next (am_lt C) hc rfl] at h
  exact lv_ladd C.1 C.2.1 hd h
theorem sd_lsub (C : am_Ctx b ad D cy X mid p s m args meth c) (hc : am_cd mid j = some (.lsub, q)) (kk : am_G p l e R s m args below meth c Q b ad D cy mid cells slots (j + 1) ls (.long (lx - ly) :: st) M) : am_G p l e R s m args below meth c Q b ad D cy mid cells slots j ls (.long ly :: .long lx :: st) M := by
  intro H locs cls hl hA
  have hd := (am_fact (am_lt C) hc).1
  have h := kk H locs cls hl hA
  rw [am_next (am_lt C) hc rfl] at h
  exact lv_lsub C.1 C.2.1 hd h
theorem sd_lmul (C : am_Ctx b ad D cy X mid p s m args meth c) (hc : am_cd mid j = some (.lmul, q)) (kk : am_G p l e R s m args below meth c Q b ad D cy mid cells slots (j + 1) ls (.long (lx * ly) :: st) M) : am_G p l e R s m args below meth c Q b ad D cy mid cells slots j ls (.long ly :: .long lx :: st) M := by
  intro H locs cls hl hA
  have hd := (am_fact (am_lt C) hc).1
  have h := kk H locs cls hl hA
  rw [am_next (am_lt C) hc rfl] at h
  exact lv_lmul C.1 C.2.1 hd h
theorem sd_ldiv (C : am_Ctx b ad D cy X mid p s m args meth c) (hc : am_cd mid j = some (.ldiv, q)) (h0 : ¬ ly = 0) (kk : am_G p l e R s m args below meth c Q b ad D cy mid cells slots (j + 1) ls (.long (lx / ly) :: st) M) : am_G p l e R s m args below meth c Q b ad D cy mid cells slots j ls (.long ly :: .long lx :: st) M := by
  intro H locs cls hl hA
  have hd := (am_fact (am_lt C) hc).1
  have h := kk H locs cls hl hA
  rw [am_next (am_lt C) hc rfl] at h
  exact lv_ldiv C.1 C.2.1 hd h0 h
theorem sd_lrem (C : am_Ctx b ad D cy X mid p s m args meth c) (hc : am_cd mid j = some (.lrem, q)) (h0 : ¬ ly = 0) (kk : am_G p l e R s m args below meth c Q b ad D cy mid cells slots (j + 1) ls (.long (lx - lx / ly * ly) :: st) M) : am_G p l e R s m args below meth c Q b ad D cy mid cells slots j ls (.long ly :: .long lx :: st) M := by
  intro H locs cls hl hA
  have hd := (am_fact (am_lt C) hc).1
  have h := kk H locs cls hl hA
  rw [am_next (am_lt C) hc rfl] at h
  exact lv_lrem C.1 C.2.1 hd h0 h
theorem sd_lneg (C : am_Ctx b ad D cy X mid p s m args meth c) (hc : am_cd mid j = some (.lneg, q)) (kk : am_G p l e R s m args below meth c Q b ad D cy mid cells slots (j + 1) ls (.long (-lx) :: st) M) : am_G p l e R s m args below meth c Q b ad D cy mid cells slots j ls (.long lx :: st) M := by
  intro H locs cls hl hA
  have hd := (am_fact (am_lt C) hc).1
  have h := kk H locs cls hl hA
  rw [am_next (am_lt C) hc rfl] at h
  exact lv_lneg C.1 C.2.1 hd h
theorem sd_lcmp (C : am_Ctx b ad D cy X mid p s m args meth c) (hc : am_cd mid j = some (.lcmp, q)) (kk : am_G p l e R s m args below meth c Q b ad D cy mid cells slots (j + 1) ls (.int (lg_cmp lx ly) :: st) M) : am_G p l e R s m args below meth c Q b ad D cy mid cells slots j ls (.long ly :: .long lx :: st) M := by
  intro H locs cls hl hA
  have hd := (am_fact (am_lt C) hc).1
  have h := kk H locs cls hl hA
  rw [am_next (am_lt C) hc rfl] at h
  exact W.lcmp C.1 C.2.1 hd h
theorem sd_dup (C : am_Ctx b ad D cy X mid p s m args meth c) (hc : am_cd mid j = some (.dup, q)) (h0 : v.category = 1) (kk : am_G p l e R s m args below meth c Q b ad D cy mid cells slots (j + 1) ls (v :: v :: st) M) : am_G p l e R s m args below meth c Q b ad D cy mid cells slots j ls (v :: st) M := by
  intro H locs cls hl hA
  have hd := (am_fact (am_lt C) hc).1
  have h := kk H locs cls hl hA
  rw [am_next (am_lt C) hc rfl] at h
  exact lv_dup C.1 C.2.1 hd (by rw [am_cv_cat]; exact h0) h
theorem sd_pop (C : am_Ctx b ad D cy X mid p s m args meth c) (hc : am_cd mid j = some (.pop, q)) (h0 : v.category = 1) (kk : am_G p l e R s m args below meth c Q b ad D cy mid cells slots (j + 1) ls (st) M) : am_G p l e R s m args below meth c Q b ad D cy mid cells slots j ls (v :: st) M := by
  intro H locs cls hl hA
  have hd := (am_fact (am_lt C) hc).1
  have h := kk H locs cls hl hA
  rw [am_next (am_lt C) hc rfl] at h
  exact lv_pop C.1 C.2.1 hd (by rw [am_cv_cat]; exact h0) h
theorem sd_dup2a (C : am_Ctx b ad D cy X mid p s m args meth c) (hc : am_cd mid j = some (.dup2, q)) (h0 : v.category = 1 ∧ w.category = 1) (kk : am_G p l e R s m args below meth c Q b ad D cy mid cells slots (j + 1) ls (v :: w :: v :: w :: st) M) : am_G p l e R s m args below meth c Q b ad D cy mid cells slots j ls (v :: w :: st) M := by
  intro H locs cls hl hA
  have hd := (am_fact (am_lt C) hc).1
  have h := kk H locs cls hl hA
  rw [am_next (am_lt C) hc rfl] at h
  exact lv_dup2_11 C.1 C.2.1 hd (by rw [am_cv_cat]; exact h0.1) (by rw [am_cv_cat]; exact h0.2) h
theorem sd_dup2b (C : am_Ctx b ad D cy X mid p s m args meth c) (hc : am_cd mid j = some (.dup2, q)) (h0 : v.category = 2) (kk : am_G p l e R s m args below meth c Q b ad D cy mid cells slots (j + 1) ls (v :: v :: w :: st) M) : am_G p l e R s m args below meth c Q b ad D cy mid cells slots j ls (v :: w :: st) M := by
  intro H locs cls hl hA
  have hd := (am_fact (am_lt C) hc).1
  have h := kk H locs cls hl hA
  rw [am_next (am_lt C) hc rfl] at h
  exact lv_dup2_2 C.1 C.2.1 hd (by rw [am_cv_cat]; exact h0) h
theorem sd_iconst (C : am_Ctx b ad D cy X mid p s m args meth c) (hc : am_cd mid j = some (.iconst n, q)) (kk : am_G p l e R s m args below meth c Q b ad D cy mid cells slots (j + 1) ls (.int (Int32.ofInt n) :: st) M) : am_G p l e R s m args below meth c Q b ad D cy mid cells slots j ls (st) M := by
  intro H locs cls hl hA
  have hd := (am_fact (am_lt C) hc).1
  have h := kk H locs cls hl hA
  rw [am_next (am_lt C) hc rfl] at h
  exact lv_iconst C.1 C.2.1 hd rfl h
theorem sd_bipush (C : am_Ctx b ad D cy X mid p s m args meth c) (hc : am_cd mid j = some (.bipush n, q)) (kk : am_G p l e R s m args below meth c Q b ad D cy mid cells slots (j + 1) ls (.int (Int8.ofInt n).toInt32 :: st) M) : am_G p l e R s m args below meth c Q b ad D cy mid cells slots j ls (st) M := by
  intro H locs cls hl hA
  have hd := (am_fact (am_lt C) hc).1
  have h := kk H locs cls hl hA
  rw [am_next (am_lt C) hc rfl] at h
  exact lv_bipush C.1 C.2.1 hd rfl h
theorem sd_sipush (C : am_Ctx b ad D cy X mid p s m args meth c) (hc : am_cd mid j = some (.sipush n, q)) (kk : am_G p l e R s m args below meth c Q b ad D cy mid cells slots (j + 1) ls (.int (Int16.ofInt n).toInt32 :: st) M) : am_G p l e R s m args below meth c Q b ad D cy mid cells slots j ls (st) M := by
  intro H locs cls hl hA
  have hd := (am_fact (am_lt C) hc).1
  have h := kk H locs cls hl hA
  rw [am_next (am_lt C) hc rfl] at h
  exact lv_sipush C.1 C.2.1 hd rfl h
theorem sd_lconst {n2 : Fin 2} (C : am_Ctx b ad D cy X mid p s m args meth c) (hc : am_cd mid j = some (.lconst n2, q)) (kk : am_G p l e R s m args below meth c Q b ad D cy mid cells slots (j + 1) ls (.long (Int64.ofNat n2.val) :: st) M) : am_G p l e R s m args below meth c Q b ad D cy mid cells slots j ls (st) M := by
  intro H locs cls hl hA
  have hd := (am_fact (am_lt C) hc).1
  have h := kk H locs cls hl hA
  rw [am_next (am_lt C) hc rfl] at h
  exact lv_lconst C.1 C.2.1 hd rfl h
theorem sd_iload_n (C : am_Ctx b ad D cy X mid p s m args meth c) (hc : am_cd mid j = some (.iload_n k4, q)) (h0 : ls[k4.val]? = some (.int x)) (kk : am_G p l e R s m args below meth c Q b ad D cy mid cells slots (j + 1) ls (.int x :: st) M) : am_G p l e R s m args below meth c Q b ad D cy mid cells slots j ls (st) M := by
  intro H locs cls hl hA
  have hd := (am_fact (am_lt C) hc).1
  have h := kk H locs cls hl hA
  rw [am_next (am_lt C) hc rfl] at h
  exact lv_iload_n C.1 C.2.1 hd rfl (hl.2.2.2 _ _ h0 (fun k z => by cases z)) h
theorem sd_iload (C : am_Ctx b ad D cy X mid p s m args meth c) (hc : am_cd mid j = some (.iload i, q)) (h0 : ls[i]? = some (.int x)) (kk : am_G p l e R s m args below meth c Q b ad D cy mid cells slots (j + 1) ls (.int x :: st) M) : am_G p l e R s m args below meth c Q b ad D cy mid cells slots j ls (st) M := by
  intro H locs cls hl hA
  have hd := (am_fact (am_lt C) hc).1
  have h := kk H locs cls hl hA
  rw [am_next (am_lt C) hc rfl] at h
  exact lv_iload C.1 C.2.1 hd (hl.2.2.2 _ _ h0 (fun k z => by cases z)) h
theorem sd_lload_n (C : am_Ctx b ad D cy X mid p s m args meth c) (hc : am_cd mid j = some (.lload_n k4, q)) (h0 : ls[k4.val]? = some (.long lx)) (kk : am_G p l e R s m args below meth c Q b ad D cy mid cells slots (j + 1) ls (.long lx :: st) M) : am_G p l e R s m args below meth c Q b ad D cy mid cells slots j ls (st) M := by
  intro H locs cls hl hA
  have hd := (am_fact (am_lt C) hc).1
  have h := kk H locs cls hl hA
  rw [am_next (am_lt C) hc rfl] at h
  exact lv_lload_n C.1 C.2.1 hd rfl (hl.2.2.2 _ _ h0 (fun k z => by cases z)) h
theorem sd_lload (C : am_Ctx b ad D cy X mid p s m args meth c) (hc : am_cd mid j = some (.lload i, q)) (h0 : ls[i]? = some (.long lx)) (kk : am_G p l e R s m args below meth c Q b ad D cy mid cells slots (j + 1) ls (.long lx :: st) M) : am_G p l e R s m args below meth c Q b ad D cy mid cells slots j ls (st) M := by
  intro H locs cls hl hA
  have hd := (am_fact (am_lt C) hc).1
  have h := kk H locs cls hl hA
  rw [am_next (am_lt C) hc rfl] at h
  exact lv_lload C.1 C.2.1 hd (hl.2.2.2 _ _ h0 (fun k z => by cases z)) h
theorem sd_aload_n (C : am_Ctx b ad D cy X mid p s m args meth c) (hc : am_cd mid j = some (.aload_n k4, q)) (h0 : ls[k4.val]? = some (.ref i)) (kk : am_G p l e R s m args below meth c Q b ad D cy mid cells slots (j + 1) ls (.ref i :: st) M) : am_G p l e R s m args below meth c Q b ad D cy mid cells slots j ls (st) M := by
  intro H locs cls hl hA
  have hd := (am_fact (am_lt C) hc).1
  have h := kk H locs cls hl hA
  rw [am_next (am_lt C) hc rfl] at h
  exact lv_aload_n C.1 C.2.1 hd rfl (hl.2.2.2 _ _ h0 (fun k z => by cases z)) h
theorem sd_aload {a : Nat} (C : am_Ctx b ad D cy X mid p s m args meth c) (hc : am_cd mid j = some (.aload i, q)) (h0 : ls[i]? = some (.ref a)) (kk : am_G p l e R s m args below meth c Q b ad D cy mid cells slots (j + 1) ls (.ref a :: st) M) : am_G p l e R s m args below meth c Q b ad D cy mid cells slots j ls (st) M := by
  intro H locs cls hl hA
  have hd := (am_fact (am_lt C) hc).1
  have h := kk H locs cls hl hA
  rw [am_next (am_lt C) hc rfl] at h
  exact lv_aload C.1 C.2.1 hd (hl.2.2.2 _ _ h0 (fun k z => by cases z)) h
theorem sd_aloadN_n (C : am_Ctx b ad D cy X mid p s m args meth c) (hc : am_cd mid j = some (.aload_n k4, q)) (h0 : ls[k4.val]? = some .null) (kk : am_G p l e R s m args below meth c Q b ad D cy mid cells slots (j + 1) ls (.null :: st) M) : am_G p l e R s m args below meth c Q b ad D cy mid cells slots j ls (st) M := by
  intro H locs cls hl hA
  have hd := (am_fact (am_lt C) hc).1
  have h := kk H locs cls hl hA
  rw [am_next (am_lt C) hc rfl] at h
  exact lv_aload_nN C.1 C.2.1 hd rfl (hl.2.2.2 _ _ h0 (fun k z => by cases z)) h
theorem sd_aloadN (C : am_Ctx b ad D cy X mid p s m args meth c) (hc : am_cd mid j = some (.aload i, q)) (h0 : ls[i]? = some .null) (kk : am_G p l e R s m args below meth c Q b ad D cy mid cells slots (j + 1) ls (.null :: st) M) : am_G p l e R s m args below meth c Q b ad D cy mid cells slots j ls (st) M := by
  intro H locs cls hl hA
  have hd := (am_fact (am_lt C) hc).1
  have h := kk H locs cls hl hA
  rw [am_next (am_lt C) hc rfl] at h
  exact lv_aloadN C.1 C.2.1 hd (hl.2.2.2 _ _ h0 (fun k z => by cases z)) h
theorem sd_icmp_eq {z : Int} {r1 r2 r3 p0 : Nat} (C : am_Ctx b ad D cy X mid p s m args meth c) (hc : am_cd mid j = some (.if_icmp .eq z, p0, r1, r2, r3)) (kt : x = y → am_G p l e R s m args below meth c Q b ad D cy mid cells slots r1 ls st M) (kf : ¬ (x = y) → am_G p l e R s m args below meth c Q b ad D cy mid cells slots (j + 1) ls st M) : am_G p l e R s m args below meth c Q b ad D cy mid cells slots j ls (.int y :: .int x :: st) M := by
  intro H locs cls hl hA
  obtain ⟨hd, hk⟩ := am_fact (am_lt C) hc
  have hp : am_pc mid j = p0 := by unfold am_pc; rw [hc]; rfl
  have ht : ((am_pc mid j : Nat) : Int) + z = (am_pc mid r1 : Int) := by
    rw [hp]
    simp only [am_ck, Bool.and_eq_true, decide_eq_true_eq] at hk
    exact hk.2
  refine lv_icmp_eq C.1 C.2.1 hd ht (fun h0 => kt h0 H locs cls hl hA) (fun h0 => ?_)
  have h := kf h0 H locs cls hl hA
  rw [am_next (am_lt C) hc rfl] at h
  exact h
theorem sd_if_eq {z : Int} {r1 r2 r3 p0 : Nat} (C : am_Ctx b ad D cy X mid p s m args meth c) (hc : am_cd mid j = some (.ifCond .eq z, p0, r1, r2, r3)) (kt : x = 0 → am_G p l e R s m args below meth c Q b ad D cy mid cells slots r1 ls st M) (kf : ¬ (x = 0) → am_G p l e R s m args below meth c Q b ad D cy mid cells slots (j + 1) ls st M) : am_G p l e R s m args below meth c Q b ad D cy mid cells slots j ls (.int x :: st) M := by
  intro H locs cls hl hA
  obtain ⟨hd, hk⟩ := am_fact (am_lt C) hc
  have hp : am_pc mid j = p0 := by unfold am_pc; rw [hc]; rfl
  have ht : ((am_pc mid j : Nat) : Int) + z = (am_pc mid r1 : Int) := by
    rw [hp]
    simp only [am_ck, Bool.and_eq_true, decide_eq_true_eq] at hk
    exact hk.2
  refine lv_if_eq C.1 C.2.1 hd ht (fun h0 => kt h0 H locs cls hl hA) (fun h0 => ?_)
  have h := kf h0 H locs cls hl hA
  rw [am_next (am_lt C) hc rfl] at h
  exact h
theorem sd_icmp_ne {z : Int} {r1 r2 r3 p0 : Nat} (C : am_Ctx b ad D cy X mid p s m args meth c) (hc : am_cd mid j = some (.if_icmp .ne z, p0, r1, r2, r3)) (kt : ¬ x = y → am_G p l e R s m args below meth c Q b ad D cy mid cells slots r1 ls st M) (kf : x = y → am_G p l e R s m args below meth c Q b ad D cy mid cells slots (j + 1) ls st M) : am_G p l e R s m args below meth c Q b ad D cy mid cells slots j ls (.int y :: .int x :: st) M := by
  intro H locs cls hl hA
  obtain ⟨hd, hk⟩ := am_fact (am_lt C) hc
  have hp : am_pc mid j = p0 := by unfold am_pc; rw [hc]; rfl
  have ht : ((am_pc mid j : Nat) : Int) + z = (am_pc mid r1 : Int) := by
    rw [hp]
    simp only [am_ck, Bool.and_eq_true, decide_eq_true_eq] at hk
    exact hk.2
  refine lv_icmp_ne C.1 C.2.1 hd ht (fun h0 => kt h0 H locs cls hl hA) (fun h0 => ?_)
  have h := kf h0 H locs cls hl hA
  rw [am_next (am_lt C) hc rfl] at h
  exact h
theorem sd_if_ne {z : Int} {r1 r2 r3 p0 : Nat} (C : am_Ctx b ad D cy X mid p s m args meth c) (hc : am_cd mid j = some (.ifCond .ne z, p0, r1, r2, r3)) (kt : ¬ x = 0 → am_G p l e R s m args below meth c Q b ad D cy mid cells slots r1 ls st M) (kf : x = 0 → am_G p l e R s m args below meth c Q b ad D cy mid cells slots (j + 1) ls st M) : am_G p l e R s m args below meth c Q b ad D cy mid cells slots j ls (.int x :: st) M := by
  intro H locs cls hl hA
  obtain ⟨hd, hk⟩ := am_fact (am_lt C) hc
  have hp : am_pc mid j = p0 := by unfold am_pc; rw [hc]; rfl
  have ht : ((am_pc mid j : Nat) : Int) + z = (am_pc mid r1 : Int) := by
    rw [hp]
    simp only [am_ck, Bool.and_eq_true, decide_eq_true_eq] at hk
    exact hk.2
  refine lv_if_ne C.1 C.2.1 hd ht (fun h0 => kt h0 H locs cls hl hA) (fun h0 => ?_)
  have h := kf h0 H locs cls hl hA
  rw [am_next (am_lt C) hc rfl] at h
  exact h
theorem sd_icmp_lt {z : Int} {r1 r2 r3 p0 : Nat} (C : am_Ctx b ad D cy X mid p s m args meth c) (hc : am_cd mid j = some (.if_icmp .lt z, p0, r1, r2, r3)) (kt : x < y → am_G p l e R s m args below meth c Q b ad D cy mid cells slots r1 ls st M) (kf : ¬ (x < y) → am_G p l e R s m args below meth c Q b ad D cy mid cells slots (j + 1) ls st M) : am_G p l e R s m args below meth c Q b ad D cy mid cells slots j ls (.int y :: .int x :: st) M := by
  intro H locs cls hl hA
  obtain ⟨hd, hk⟩ := am_fact (am_lt C) hc
  have hp : am_pc mid j = p0 := by unfold am_pc; rw [hc]; rfl
  have ht : ((am_pc mid j : Nat) : Int) + z = (am_pc mid r1 : Int) := by
    rw [hp]
    simp only [am_ck, Bool.and_eq_true, decide_eq_true_eq] at hk
    exact hk.2
  refine lv_icmp_lt C.1 C.2.1 hd ht (fun h0 => kt h0 H locs cls hl hA) (fun h0 => ?_)
  have h := kf h0 H locs cls hl hA
  rw [am_next (am_lt C) hc rfl] at h
  exact h
theorem sd_if_lt {z : Int} {r1 r2 r3 p0 : Nat} (C : am_Ctx b ad D cy X mid p s m args meth c) (hc : am_cd mid j = some (.ifCond .lt z, p0, r1, r2, r3)) (kt : x < 0 → am_G p l e R s m args below meth c Q b ad D cy mid cells slots r1 ls st M) (kf : ¬ (x < 0) → am_G p l e R s m args below meth c Q b ad D cy mid cells slots (j + 1) ls st M) : am_G p l e R s m args below meth c Q b ad D cy mid cells slots j ls (.int x :: st) M := by
  intro H locs cls hl hA
  obtain ⟨hd, hk⟩ := am_fact (am_lt C) hc
  have hp : am_pc mid j = p0 := by unfold am_pc; rw [hc]; rfl
  have ht : ((am_pc mid j : Nat) : Int) + z = (am_pc mid r1 : Int) := by
    rw [hp]
    simp only [am_ck, Bool.and_eq_true, decide_eq_true_eq] at hk
    exact hk.2
  refine lv_if_lt C.1 C.2.1 hd ht (fun h0 => kt h0 H locs cls hl hA) (fun h0 => ?_)
  have h := kf h0 H locs cls hl hA
  rw [am_next (am_lt C) hc rfl] at h
  exact h
theorem sd_icmp_ge {z : Int} {r1 r2 r3 p0 : Nat} (C : am_Ctx b ad D cy X mid p s m args meth c) (hc : am_cd mid j = some (.if_icmp .ge z, p0, r1, r2, r3)) (kt : y ≤ x → am_G p l e R s m args below meth c Q b ad D cy mid cells slots r1 ls st M) (kf : ¬ (y ≤ x) → am_G p l e R s m args below meth c Q b ad D cy mid cells slots (j + 1) ls st M) : am_G p l e R s m args below meth c Q b ad D cy mid cells slots j ls (.int y :: .int x :: st) M := by
  intro H locs cls hl hA
  obtain ⟨hd, hk⟩ := am_fact (am_lt C) hc
  have hp : am_pc mid j = p0 := by unfold am_pc; rw [hc]; rfl
  have ht : ((am_pc mid j : Nat) : Int) + z = (am_pc mid r1 : Int) := by
    rw [hp]
    simp only [am_ck, Bool.and_eq_true, decide_eq_true_eq] at hk
    exact hk.2
  refine lv_icmp_ge C.1 C.2.1 hd ht (fun h0 => kt h0 H locs cls hl hA) (fun h0 => ?_)
  have h := kf h0 H locs cls hl hA
  rw [am_next (am_lt C) hc rfl] at h
  exact h
theorem sd_if_ge {z : Int} {r1 r2 r3 p0 : Nat} (C : am_Ctx b ad D cy X mid p s m args meth c) (hc : am_cd mid j = some (.ifCond .ge z, p0, r1, r2, r3)) (kt : 0 ≤ x → am_G p l e R s m args below meth c Q b ad D cy mid cells slots r1 ls st M) (kf : ¬ (0 ≤ x) → am_G p l e R s m args below meth c Q b ad D cy mid cells slots (j + 1) ls st M) : am_G p l e R s m args below meth c Q b ad D cy mid cells slots j ls (.int x :: st) M := by
  intro H locs cls hl hA
  obtain ⟨hd, hk⟩ := am_fact (am_lt C) hc
  have hp : am_pc mid j = p0 := by unfold am_pc; rw [hc]; rfl
  have ht : ((am_pc mid j : Nat) : Int) + z = (am_pc mid r1 : Int) := by
    rw [hp]
    simp only [am_ck, Bool.and_eq_true, decide_eq_true_eq] at hk
    exact hk.2
  refine lv_if_ge C.1 C.2.1 hd ht (fun h0 => kt h0 H locs cls hl hA) (fun h0 => ?_)
  have h := kf h0 H locs cls hl hA
  rw [am_next (am_lt C) hc rfl] at h
  exact h
theorem sd_icmp_gt {z : Int} {r1 r2 r3 p0 : Nat} (C : am_Ctx b ad D cy X mid p s m args meth c) (hc : am_cd mid j = some (.if_icmp .gt z, p0, r1, r2, r3)) (kt : y < x → am_G p l e R s m args below meth c Q b ad D cy mid cells slots r1 ls st M) (kf : ¬ (y < x) → am_G p l e R s m args below meth c Q b ad D cy mid cells slots (j + 1) ls st M) : am_G p l e R s m args below meth c Q b ad D cy mid cells slots j ls (.int y :: .int x :: st) M := by
  intro H locs cls hl hA
  obtain ⟨hd, hk⟩ := am_fact (am_lt C) hc
  have hp : am_pc mid j = p0 := by unfold am_pc; rw [hc]; rfl
  have ht : ((am_pc mid j : Nat) : Int) + z = (am_pc mid r1 : Int) := by
    rw [hp]
    simp only [am_ck, Bool.and_eq_true, decide_eq_true_eq] at hk
    exact hk.2
  refine lv_icmp_gt C.1 C.2.1 hd ht (fun h0 => kt h0 H locs cls hl hA) (fun h0 => ?_)
  have h := kf h0 H locs cls hl hA
  rw [am_next (am_lt C) hc rfl] at h
  exact h
theorem sd_if_gt {z : Int} {r1 r2 r3 p0 : Nat} (C : am_Ctx b ad D cy X mid p s m args meth c) (hc : am_cd mid j = some (.ifCond .gt z, p0, r1, r2, r3)) (kt : 0 < x → am_G p l e R s m args below meth c Q b ad D cy mid cells slots r1 ls st M) (kf : ¬ (0 < x) → am_G p l e R s m args below meth c Q b ad D cy mid cells slots (j + 1) ls st M) : am_G p l e R s m args below meth c Q b ad D cy mid cells slots j ls (.int x :: st) M := by
  intro H locs cls hl hA
  obtain ⟨hd, hk⟩ := am_fact (am_lt C) hc
  have hp : am_pc mid j = p0 := by unfold am_pc; rw [hc]; rfl
  have ht : ((am_pc mid j : Nat) : Int) + z = (am_pc mid r1 : Int) := by
    rw [hp]
    simp only [am_ck, Bool.and_eq_true, decide_eq_true_eq] at hk
    exact hk.2
  refine lv_if_gt C.1 C.2.1 hd ht (fun h0 => kt h0 H locs cls hl hA) (fun h0 => ?_)
  have h := kf h0 H locs cls hl hA
  rw [am_next (am_lt C) hc rfl] at h
  exact h
theorem sd_icmp_le {z : Int} {r1 r2 r3 p0 : Nat} (C : am_Ctx b ad D cy X mid p s m args meth c) (hc : am_cd mid j = some (.if_icmp .le z, p0, r1, r2, r3)) (kt : x ≤ y → am_G p l e R s m args below meth c Q b ad D cy mid cells slots r1 ls st M) (kf : ¬ (x ≤ y) → am_G p l e R s m args below meth c Q b ad D cy mid cells slots (j + 1) ls st M) : am_G p l e R s m args below meth c Q b ad D cy mid cells slots j ls (.int y :: .int x :: st) M := by
  intro H locs cls hl hA
  obtain ⟨hd, hk⟩ := am_fact (am_lt C) hc
  have hp : am_pc mid j = p0 := by unfold am_pc; rw [hc]; rfl
  have ht : ((am_pc mid j : Nat) : Int) + z = (am_pc mid r1 : Int) := by
    rw [hp]
    simp only [am_ck, Bool.and_eq_true, decide_eq_true_eq] at hk
    exact hk.2
  refine lv_icmp_le C.1 C.2.1 hd ht (fun h0 => kt h0 H locs cls hl hA) (fun h0 => ?_)
  have h := kf h0 H locs cls hl hA
  rw [am_next (am_lt C) hc rfl] at h
  exact h
theorem sd_if_le {z : Int} {r1 r2 r3 p0 : Nat} (C : am_Ctx b ad D cy X mid p s m args meth c) (hc : am_cd mid j = some (.ifCond .le z, p0, r1, r2, r3)) (kt : x ≤ 0 → am_G p l e R s m args below meth c Q b ad D cy mid cells slots r1 ls st M) (kf : ¬ (x ≤ 0) → am_G p l e R s m args below meth c Q b ad D cy mid cells slots (j + 1) ls st M) : am_G p l e R s m args below meth c Q b ad D cy mid cells slots j ls (.int x :: st) M := by
  intro H locs cls hl hA
  obtain ⟨hd, hk⟩ := am_fact (am_lt C) hc
  have hp : am_pc mid j = p0 := by unfold am_pc; rw [hc]; rfl
  have ht : ((am_pc mid j : Nat) : Int) + z = (am_pc mid r1 : Int) := by
    rw [hp]
    simp only [am_ck, Bool.and_eq_true, decide_eq_true_eq] at hk
    exact hk.2
  refine lv_if_le C.1 C.2.1 hd ht (fun h0 => kt h0 H locs cls hl hA) (fun h0 => ?_)
  have h := kf h0 H locs cls hl hA
  rw [am_next (am_lt C) hc rfl] at h
  exact h
theorem sd_goto {z : Int} {r1 r2 r3 p0 : Nat} (C : am_Ctx b ad D cy X mid p s m args meth c) (hc : am_cd mid j = some (.goto z, p0, r1, r2, r3)) (kk : am_G p l e R s m args below meth c Q b ad D cy mid cells slots r1 ls st M) : am_G p l e R s m args below meth c Q b ad D cy mid cells slots j ls st M := by
  intro H locs cls hl hA
  obtain ⟨hd, hk⟩ := am_fact (am_lt C) hc
  have hp : am_pc mid j = p0 := by unfold am_pc; rw [hc]; rfl
  have ht : ((am_pc mid j : Nat) : Int) + z = (am_pc mid r1 : Int) := by
    rw [hp]
    simp only [am_ck, Bool.and_eq_true, decide_eq_true_eq] at hk
    exact hk.2
  exact lv_goto C.1 C.2.1 hd ht (kk H locs cls hl hA)
theorem sd_tsw {df lo hi : Int} {offs : Array Int} {r1 r2 r3 p0 dt t : Nat} {ts : List Nat} (C : am_Ctx b ad D cy X mid p s m args meth c) (hc : am_cd mid j = some (.tableswitch df lo hi offs, p0, r1, r2, r3)) (hs : am_swT[r1]? = some (dt, ts)) (hx : ¬ (x.toInt < lo ∨ hi < x.toInt)) (ht : ts[(x.toInt - lo).toNat]? = some t) (kk : am_G p l e R s m args below meth c Q b ad D cy mid cells slots t ls st M) : am_G p l e R s m args below meth c Q b ad D cy mid cells slots j ls (.int x :: st) M := by
  intro H locs cls hl hA
  obtain ⟨hd, hk⟩ := am_fact (am_lt C) hc
  have hp : am_pc mid j = p0 := by unfold am_pc; rw [hc]; rfl
  simp only [am_ck, hs, Bool.and_eq_true, decide_eq_true_eq] at hk
  have h2 := congrArg (fun l => l[(x.toInt - lo).toNat]?) hk.2.2
  simp only [List.getElem?_map, ht, Option.map_some] at h2
  cases ho : offs.toList[(x.toInt - lo).toNat]? with
  | none => rw [ho] at h2; cases h2
  | some z =>
    rw [ho] at h2
    have h3 : (p0 : Int) + z = (am_pc mid t : Int) := Option.some.inj h2
    exact lv_tableIn C.1 C.2.1 hd (fun h => hx (Or.inl h)) (fun h => hx (Or.inr h)) (by rw [← Array.getElem?_toList]; exact ho) (by rw [hp]; exact h3) (kk H locs cls hl hA)
theorem sd_tswD {df lo hi : Int} {offs : Array Int} {r1 r2 r3 p0 dt : Nat} {ts : List Nat} (C : am_Ctx b ad D cy X mid p s m args meth c) (hc : am_cd mid j = some (.tableswitch df lo hi offs, p0, r1, r2, r3)) (hs : am_swT[r1]? = some (dt, ts)) (hx : x.toInt < lo ∨ hi < x.toInt) (kk : am_G p l e R s m args below meth c Q b ad D cy mid cells slots dt ls st M) : am_G p l e R s m args below meth c Q b ad D cy mid cells slots j ls (.int x :: st) M := by
  intro H locs cls hl hA
  obtain ⟨hd, hk⟩ := am_fact (am_lt C) hc
  have hp : am_pc mid j = p0 := by unfold am_pc; rw [hc]; rfl
  simp only [am_ck, hs, Bool.and_eq_true, decide_eq_true_eq] at hk
  exact lv_tableOut C.1 C.2.1 hd hx (by rw [hp]; exact hk.2.1) (kk H locs cls hl hA)
def am_al (b : Nat) (ad : Nat → Nat) (ls : List Value) : List (Nat × Value) := (List.range ls.length).filterMap (fun i => match (ls[i]? : Option Value) with
  | some (Value.retAddr _) => none
  | some v => some (i, am_cv b ad v)
  | none => none)
theorem am_al_mem {b : Nat} {ad : Nat → Nat} {ls : List Value} {t : Nat × Value} : t ∈ am_al b ad ls ↔ ∃ v, ls[t.1]? = some v ∧ (∀ k, v ≠ Value.retAddr k) ∧ t.2 = am_cv b ad v := by
  unfold am_al
  rw [List.mem_filterMap]
  constructor
  · rintro ⟨i, hi, h⟩
    split at h
    · cases h
    · rename_i v hv hne
      cases h
      exact ⟨v, hne, fun k z => hv k z, rfl⟩
    · cases h
  · rintro ⟨v, hv, hn, h⟩
    refine ⟨t.1, List.mem_range.mpr (List.getElem?_eq_some_iff.mp hv).1, ?_⟩
    rw [hv]
    obtain ⟨i, w⟩ := t
    dsimp only at h hv ⊢
    subst h
    cases v <;> first | rfl | exact absurd rfl (hn _)
theorem am_lr_has {b : Nat} {ad : Nat → Nat} {ls : List Value} {cls : Array Slot} {n : Nat} (h : am_lr b ad ls cls n) : lv_has cls n (am_al b ad ls) := ⟨h.1, h.2.2.1, fun t ht => by
  obtain ⟨v, h1, h2, h3⟩ := am_al_mem.mp ht
  rw [h3]
  exact h.2.2.2 _ _ h1 h2⟩
theorem am_ok1_cat {ls : List Value} {i k : Nat} {v : Value} (h : am_ok1 ls i = true) (hk : k + 1 = i) (hv : ls[k]? = some v) : v.category = 1 := by
  subst hk
  simp only [am_ok1, hv] at h
  exact eq_of_beq h
theorem am_lr_set1 {b : Nat} {ad : Nat → Nat} {ls : List Value} {cls cls' : Array Slot} {n i : Nat} {v : Value} (h : am_lr b ad ls cls n) (ho : am_ok1 ls i = true) (h' : lv_has cls' n ((i, am_cv b ad v) :: (am_al b ad ls).filter (fun q => !(q.1 == i) && !(q.1 + 1 == i && q.2.category == 2)))) : am_lr b ad (ls.set i v) cls' n := by
  refine ⟨h'.1, by rw [List.length_set]; exact h.2.1, h'.2.1, fun k w hk hw => ?_⟩
  rw [List.getElem?_set] at hk
  by_cases e : i = k
  · subst e
    rw [if_pos rfl] at hk
    split at hk
    · rw [← Option.some.inj hk]
      exact h'.2.2 (i, am_cv b ad v) (List.mem_cons_self)
    · cases hk
  · rw [if_neg e] at hk
    refine h'.2.2 (k, am_cv b ad w) (List.mem_cons_of_mem _ (List.mem_filter.mpr ⟨am_al_mem.mpr ⟨w, hk, hw, rfl⟩, ?_⟩))
    have e1 : (k == i) = false := by simp; exact fun z => e z.symm
    by_cases e2 : k + 1 = i
    · have := am_ok1_cat ho e2 hk
      simp [e1, am_cv_cat, this]
    · simp [e1, e2]
theorem am_lr_set2 {b : Nat} {ad : Nat → Nat} {ls : List Value} {cls cls' : Array Slot} {n i : Nat} {v : Value} (h : am_lr b ad ls cls n) (ho : am_ok1 ls i = true) (h' : lv_has cls' n ((i, am_cv b ad v) :: (am_al b ad ls).filter (fun q => !(q.1 == i) && (!(q.1 == i + 1) && !(q.1 + 1 == i && q.2.category == 2))))) : am_lr b ad ((ls.set i v).set (i + 1) (.retAddr 0)) cls' n := by
  refine ⟨h'.1, by rw [List.length_set, List.length_set]; exact h.2.1, h'.2.1, fun k w hk hw => ?_⟩
  rw [List.getElem?_set] at hk
  by_cases e3 : i + 1 = k
  · rw [if_pos e3] at hk
    split at hk
    · cases hk
      exact absurd rfl (hw 0)
    · cases hk
  rw [if_neg e3, List.getElem?_set] at hk
  by_cases e : i = k
  · subst e
    rw [if_pos rfl] at hk
    split at hk
    · rw [← Option.some.inj hk]
      exact h'.2.2 (i, am_cv b ad v) (List.mem_cons_self)
    · cases hk
  · rw [if_neg e] at hk
    refine h'.2.2 (k, am_cv b ad w) (List.mem_cons_of_mem _ (List.mem_filter.mpr ⟨am_al_mem.mpr ⟨w, hk, hw, rfl⟩, ?_⟩))
    have e1 : (k == i) = false := by simp; exact fun z => e z.symm
    have e4 : (k == i + 1) = false := by simp; exact fun z => e3 z.symm
    by_cases e2 : k + 1 = i
    · have := am_ok1_cat ho e2 hk
      simp [e1, e4, am_cv_cat, this]
    · simp [e1, e4, e2]
theorem sd_istore_n {a : Nat} (C : am_Ctx b ad D cy X mid p s m args meth c) (hc : am_cd mid j = some (.istore_n k4, q)) (h1 : k4.val < ls.length) (h2 : am_ok1 ls k4.val = true) (kk : am_G p l e R s m args below meth c Q b ad D cy mid cells slots (j + 1) (ls.set k4.val (.int x)) st M) : am_G p l e R s m args below meth c Q b ad D cy mid cells slots j ls (.int x :: st) M := by
  intro H locs cls hl hA
  have hd := (am_fact (am_lt C) hc).1
  refine lv_istore_n C.1 C.2.1 hd rfl (am_lr_has hl) (by rw [← hl.2.1]; exact h1) rfl (fun cls' h' => ?_)
  have h := kk H locs cls' (am_lr_set1 (v := .int x) hl h2 h') hA
  rw [am_next (am_lt C) hc rfl] at h
  exact h
theorem sd_istore {a : Nat} (C : am_Ctx b ad D cy X mid p s m args meth c) (hc : am_cd mid j = some (.istore i, q)) (h1 : i < ls.length) (h2 : am_ok1 ls i = true) (kk : am_G p l e R s m args below meth c Q b ad D cy mid cells slots (j + 1) (ls.set i (.int x)) st M) : am_G p l e R s m args below meth c Q b ad D cy mid cells slots j ls (.int x :: st) M := by
  intro H locs cls hl hA
  have hd := (am_fact (am_lt C) hc).1
  refine lv_istore C.1 C.2.1 hd (am_lr_has hl) (by rw [← hl.2.1]; exact h1) rfl (fun cls' h' => ?_)
  have h := kk H locs cls' (am_lr_set1 (v := .int x) hl h2 h') hA
  rw [am_next (am_lt C) hc rfl] at h
  exact h
theorem sd_astore_n {a : Nat} (C : am_Ctx b ad D cy X mid p s m args meth c) (hc : am_cd mid j = some (.astore_n k4, q)) (h1 : k4.val < ls.length) (h2 : am_ok1 ls k4.val = true) (kk : am_G p l e R s m args below meth c Q b ad D cy mid cells slots (j + 1) (ls.set k4.val (.ref a)) st M) : am_G p l e R s m args below meth c Q b ad D cy mid cells slots j ls (.ref a :: st) M := by
  intro H locs cls hl hA
  have hd := (am_fact (am_lt C) hc).1
  refine lv_astore_n C.1 C.2.1 hd rfl (am_lr_has hl) (by rw [← hl.2.1]; exact h1) rfl (fun cls' h' => ?_)
  have h := kk H locs cls' (am_lr_set1 (v := .ref a) hl h2 h') hA
  rw [am_next (am_lt C) hc rfl] at h
  exact h
theorem sd_astore {a : Nat} (C : am_Ctx b ad D cy X mid p s m args meth c) (hc : am_cd mid j = some (.astore i, q)) (h1 : i < ls.length) (h2 : am_ok1 ls i = true) (kk : am_G p l e R s m args below meth c Q b ad D cy mid cells slots (j + 1) (ls.set i (.ref a)) st M) : am_G p l e R s m args below meth c Q b ad D cy mid cells slots j ls (.ref a :: st) M := by
  intro H locs cls hl hA
  have hd := (am_fact (am_lt C) hc).1
  refine lv_astore C.1 C.2.1 hd (am_lr_has hl) (by rw [← hl.2.1]; exact h1) rfl (fun cls' h' => ?_)
  have h := kk H locs cls' (am_lr_set1 (v := .ref a) hl h2 h') hA
  rw [am_next (am_lt C) hc rfl] at h
  exact h
theorem sd_lstore_n {a : Nat} (C : am_Ctx b ad D cy X mid p s m args meth c) (hc : am_cd mid j = some (.lstore_n k4, q)) (h1 : k4.val + 1 < ls.length) (h2 : am_ok1 ls k4.val = true) (kk : am_G p l e R s m args below meth c Q b ad D cy mid cells slots (j + 1) ((ls.set k4.val (.long lx)).set (k4.val + 1) (.retAddr 0)) st M) : am_G p l e R s m args below meth c Q b ad D cy mid cells slots j ls (.long lx :: st) M := by
  intro H locs cls hl hA
  have hd := (am_fact (am_lt C) hc).1
  refine lv_lstore_n C.1 C.2.1 hd rfl (am_lr_has hl) (by rw [← hl.2.1]; exact h1) rfl (fun cls' h' => ?_)
  have h := kk H locs cls' (am_lr_set2 (v := .long lx) hl h2 h') hA
  rw [am_next (am_lt C) hc rfl] at h
  exact h
theorem sd_lstore {a : Nat} (C : am_Ctx b ad D cy X mid p s m args meth c) (hc : am_cd mid j = some (.lstore i, q)) (h1 : i + 1 < ls.length) (h2 : am_ok1 ls i = true) (kk : am_G p l e R s m args below meth c Q b ad D cy mid cells slots (j + 1) ((ls.set i (.long lx)).set (i + 1) (.retAddr 0)) st M) : am_G p l e R s m args below meth c Q b ad D cy mid cells slots j ls (.long lx :: st) M := by
  intro H locs cls hl hA
  have hd := (am_fact (am_lt C) hc).1
  refine lv_lstore C.1 C.2.1 hd (am_lr_has hl) (by rw [← hl.2.1]; exact h1) rfl (fun cls' h' => ?_)
  have h := kk H locs cls' (am_lr_set2 (v := .long lx) hl h2 h') hA
  rw [am_next (am_lt C) hc rfl] at h
  exact h
theorem sd_iinc (C : am_Ctx b ad D cy X mid p s m args meth c) (hc : am_cd mid j = some (.iinc i n, q)) (h1 : ls[i]? = some (.int x)) (h2 : am_ok1 ls i = true) (kk : am_G p l e R s m args below meth c Q b ad D cy mid cells slots (j + 1) (ls.set i (.int (x + Int32.ofInt n))) st M) : am_G p l e R s m args below meth c Q b ad D cy mid cells slots j ls st M := by
  intro H locs cls hl hA
  have hd := (am_fact (am_lt C) hc).1
  have hm : ((i, Value.int x) : Nat × Value) ∈ am_al b ad ls := am_al_mem.mpr ⟨.int x, h1, fun k z => (by cases z), rfl⟩
  obtain ⟨t, ht⟩ := List.getElem?_of_mem hm
  refine lv_iinc C.1 C.2.1 hd (am_lr_has hl) ht rfl (by rw [← hl.2.1]; exact (List.getElem?_eq_some_iff.mp h1).1) rfl (fun cls' h' => ?_)
  have h := kk H locs cls' (am_lr_set1 (v := .int (x + Int32.ofInt n)) hl h2 h') hA
  rw [am_next (am_lt C) hc rfl] at h
  exact h
end SND
