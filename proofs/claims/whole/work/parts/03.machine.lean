/-! ===== a small machine of our own: the program's instructions over a memory of places =====
A place a < 1000000 is a cell of ours (the a-th that was made since the law began); 1000000 + i: a constant object
(0..9 the String constants, 40 the static array ORDERS, 50 the script). -/
abbrev am_M : Type := List (Nat × Nat) × List (List (Option Nat)) × (Nat → Nat → Int32) × (Nat → Nat → Int64)
abbrev am_Act : Type := (Nat × List Value × List Value × am_M) ⊕ (Nat × List Value × List Value) ⊕ Option Value
def am_nx (j : Nat) (ls st : List Value) (M : am_M) : Option am_Act := some (.inl (j, ls, st, M))
/-- a memory, changed at one place -/
def u2 {α : Type} (f : Nat → Nat → α) (a k : Nat) (v : α) : Nat → Nat → α := fun q i => if q = a then (if i = k then v else f q i) else f q i
/-- a memory, at a new place -/
def u0 {α : Type} (f : Nat → Nat → α) (a : Nat) (v : α) : Nat → Nat → α := fun q i => if q = a then v else f q i
def am_rd (mr : List (List (Option Nat))) (a k : Nat) : Option Nat := ((mr[a]?.getD [])[k]?).getD none
def am_wr (mr : List (List (Option Nat))) (a k : Nat) (r : Option Nat) : List (List (Option Nat)) := mr.set a ((mr[a]?.getD []).set k r)
def am_rv (r : Option Nat) : Value := match r with
  | none => .null
  | some a => .ref a
/-- may a value be laid at local i: the one ahead isn't of two words -/
def am_ok1 (ls : List Value) (i : Nat) : Bool := match i with
  | 0 => true
  | k + 1 => match ls[k]? with
    | some w => w.category == 1
    | none => false
def am_lda (i j : Nat) (ls st : List Value) (M : am_M) : Option am_Act := match ls[i]? with
  | some (.ref a) => am_nx (j + 1) ls (.ref a :: st) M
  | some .null => am_nx (j + 1) ls (.null :: st) M
  | _ => none
def am_ldi (i j : Nat) (ls st : List Value) (M : am_M) : Option am_Act := match ls[i]? with
  | some (.int x) => am_nx (j + 1) ls (.int x :: st) M
  | _ => none
def am_ldl (i j : Nat) (ls st : List Value) (M : am_M) : Option am_Act := match ls[i]? with
  | some (.long x) => am_nx (j + 1) ls (.long x :: st) M
  | _ => none
def am_sti (i j : Nat) (ls st : List Value) (M : am_M) : Option am_Act := match st with
  | .int x :: st => if i < ls.length ∧ am_ok1 ls i = true then am_nx (j + 1) (ls.set i (.int x)) st M else none
  | _ => none
def am_sta (i j : Nat) (ls st : List Value) (M : am_M) : Option am_Act := match st with
  | .ref x :: st => if i < ls.length ∧ am_ok1 ls i = true then am_nx (j + 1) (ls.set i (.ref x)) st M else none
  | _ => none
def am_stl (i j : Nat) (ls st : List Value) (M : am_M) : Option am_Act := match st with
  | .long x :: st => if i + 1 < ls.length ∧ am_ok1 ls i = true then am_nx (j + 1) ((ls.set i (.long x)).set (i + 1) (.retAddr 0)) st M else none
  | _ => none
def am_inc (i : Nat) (n : Int) (j : Nat) (ls st : List Value) (M : am_M) : Option am_Act := match ls[i]? with
  | some (.int x) => if am_ok1 ls i = true then am_nx (j + 1) (ls.set i (.int (x + Int32.ofInt n))) st M else none
  | _ => none
def am_kd (M : am_M) (a : Nat) : Nat := ((M.1[a]?).map Prod.fst).getD 1000
def am_getf (ci k t j : Nat) (ls st : List Value) (M : am_M) : Option am_Act := match st with
  | .ref a :: st => if am_kd M a = ci then
      (match t with
      | 0 => am_nx (j + 1) ls (.int (M.2.2.1 a k) :: st) M
      | 1 => am_nx (j + 1) ls (.long (M.2.2.2 a k) :: st) M
      | _ => am_nx (j + 1) ls (am_rv (am_rd M.2.1 a k) :: st) M) else none
  | _ => none
def am_putf (ci k t j : Nat) (ls st : List Value) (M : am_M) : Option am_Act := match t, st with
  | 0, .int x :: .ref a :: st => if am_kd M a = ci then am_nx (j + 1) ls st (M.1, M.2.1, u2 M.2.2.1 a k x, M.2.2.2) else none
  | 1, .long x :: .ref a :: st => if am_kd M a = ci then am_nx (j + 1) ls st (M.1, M.2.1, M.2.2.1, u2 M.2.2.2 a k x) else none
  | 2, .ref b :: .ref a :: st => if am_kd M a = ci ∧ b < 1000000 ∧ k < (M.2.1[a]?.getD []).length then am_nx (j + 1) ls st (M.1, am_wr M.2.1 a k (some b), M.2.2.1, M.2.2.2) else none
  | _, _ => none
/-- the length of an array of a kind -/
def am_ln (M : am_M) (a kd : Nat) : Option Nat := match M.1[a]? with
  | some (k, n) => if k = kd then some n else none
  | none => none
def am_ix (i : Int32) (n : Nat) : Bool := decide (0 ≤ i) && decide (i.toNatClampNeg < n)
def am_orders (k : Nat) : Int32 := ([279936, 46656, 7776, 1296, 216, 36, 6, 1] : List Int32).getD k 0
def am_iald (X : Nat × (Nat → Int32)) (j : Nat) (ls st : List Value) (M : am_M) : Option am_Act := match st with
  | .int i :: .ref a :: st =>
    if a = 1000050 then (if am_ix i X.1 = true ∧ X.1 ≤ 4096 then am_nx (j + 1) ls (.int (X.2 i.toNatClampNeg) :: st) M else none)
    else if a = 1000040 then (if am_ix i 8 = true then am_nx (j + 1) ls (.int (am_orders i.toNatClampNeg) :: st) M else none)
    else (match am_ln M a 100 with
      | some n => if am_ix i n = true then am_nx (j + 1) ls (.int (M.2.2.1 a i.toNatClampNeg) :: st) M else none
      | none => none)
  | _ => none
def am_bald (j : Nat) (ls st : List Value) (M : am_M) : Option am_Act := match st with
  | .int i :: .ref a :: st => match am_ln M a 101, am_ln M a 102 with
    | some n, _ => if am_ix i n = true then am_nx (j + 1) ls (.int (M.2.2.1 a i.toNatClampNeg) :: st) M else none
    | _, some n => if am_ix i n = true then am_nx (j + 1) ls (.int (M.2.2.1 a i.toNatClampNeg) :: st) M else none
    | _, _ => none
  | _ => none
def am_lald (j : Nat) (ls st : List Value) (M : am_M) : Option am_Act := match st with
  | .int i :: .ref a :: st => match am_ln M a 103 with
    | some n => if am_ix i n = true then am_nx (j + 1) ls (.long (M.2.2.2 a i.toNatClampNeg) :: st) M else none
    | none => none
  | _ => none
def am_aald (j : Nat) (ls st : List Value) (M : am_M) : Option am_Act := match st with
  | .int i :: .ref a :: st => match am_ln M a 104, am_ln M a 105 with
    | some n, _ => if am_ix i n = true then am_nx (j + 1) ls (am_rv (am_rd M.2.1 a i.toNatClampNeg) :: st) M else none
    | _, some n => if am_ix i n = true then am_nx (j + 1) ls (am_rv (am_rd M.2.1 a i.toNatClampNeg) :: st) M else none
    | _, _ => none
  | _ => none
def am_iast (j : Nat) (ls st : List Value) (M : am_M) : Option am_Act := match st with
  | .int x :: .int i :: .ref a :: st => match am_ln M a 100 with
    | some n => if am_ix i n = true then am_nx (j + 1) ls st (M.1, M.2.1, u2 M.2.2.1 a i.toNatClampNeg x, M.2.2.2) else none
    | none => none
  | _ => none
def am_bast (j : Nat) (ls st : List Value) (M : am_M) : Option am_Act := match st with
  | .int x :: .int i :: .ref a :: st => match am_ln M a 101, am_ln M a 102 with
    | some n, _ => if am_ix i n = true then am_nx (j + 1) ls st (M.1, M.2.1, u2 M.2.2.1 a i.toNatClampNeg (vp_nar .byte x), M.2.2.2) else none
    | _, some n => if am_ix i n = true then am_nx (j + 1) ls st (M.1, M.2.1, u2 M.2.2.1 a i.toNatClampNeg (vp_nar .boolean x), M.2.2.2) else none
    | _, _ => none
  | _ => none
def am_last (j : Nat) (ls st : List Value) (M : am_M) : Option am_Act := match st with
  | .long x :: .int i :: .ref a :: st => match am_ln M a 103 with
    | some n => if am_ix i n = true then am_nx (j + 1) ls st (M.1, M.2.1, M.2.2.1, u2 M.2.2.2 a i.toNatClampNeg x) else none
    | none => none
  | _ => none
def am_aast (j : Nat) (ls st : List Value) (M : am_M) : Option am_Act := match st with
  | .ref b :: .int i :: .ref a :: st => match am_ln M a 104 with
    | some n => if am_ix i n = true ∧ am_kd M b = 8 ∧ b < 1000000 ∧ i.toNatClampNeg < (M.2.1[a]?.getD []).length then am_nx (j + 1) ls st (M.1, am_wr M.2.1 a i.toNatClampNeg (some b), M.2.2.1, M.2.2.2) else none
    | none => none
  | _ => none
def am_alen (X : Nat × (Nat → Int32)) (j : Nat) (ls st : List Value) (M : am_M) : Option am_Act := match st with
  | .ref a :: st => if a = 1000050 ∧ X.1 ≤ 4096 then am_nx (j + 1) ls (.int (Int32.ofNat X.1) :: st) M else none
  | _ => none
def am_ii (f : Int32 → Int32 → Int32) (j : Nat) (ls st : List Value) (M : am_M) : Option am_Act := match st with
  | .int y :: .int x :: st => am_nx (j + 1) ls (.int (f x y) :: st) M
  | _ => none
def am_i1 (f : Int32 → Int32) (j : Nat) (ls st : List Value) (M : am_M) : Option am_Act := match st with
  | .int x :: st => am_nx (j + 1) ls (.int (f x) :: st) M
  | _ => none
def am_ll (f : Int64 → Int64 → Int64) (j : Nat) (ls st : List Value) (M : am_M) : Option am_Act := match st with
  | .long y :: .long x :: st => am_nx (j + 1) ls (.long (f x y) :: st) M
  | _ => none
def am_idiv (j : Nat) (ls st : List Value) (M : am_M) : Option am_Act := match st with
  | .int y :: .int x :: st => if y = 0 then none else am_nx (j + 1) ls (.int (x / y) :: st) M
  | _ => none
def am_ldiv (f : Int64 → Int64 → Int64) (j : Nat) (ls st : List Value) (M : am_M) : Option am_Act := match st with
  | .long y :: .long x :: st => if y = 0 then none else am_nx (j + 1) ls (.long (f x y) :: st) M
  | _ => none
def am_lneg (j : Nat) (ls st : List Value) (M : am_M) : Option am_Act := match st with
  | .long x :: st => am_nx (j + 1) ls (.long (-x) :: st) M
  | _ => none
def am_i2l (j : Nat) (ls st : List Value) (M : am_M) : Option am_Act := match st with
  | .int x :: st => am_nx (j + 1) ls (.long x.toInt64 :: st) M
  | _ => none
def am_l2i (j : Nat) (ls st : List Value) (M : am_M) : Option am_Act := match st with
  | .long x :: st => am_nx (j + 1) ls (.int x.toInt32 :: st) M
  | _ => none
def am_lcmp (j : Nat) (ls st : List Value) (M : am_M) : Option am_Act := match st with
  | .long y :: .long x :: st => am_nx (j + 1) ls (.int (lg_cmp x y) :: st) M
  | _ => none
def am_dup (j : Nat) (ls st : List Value) (M : am_M) : Option am_Act := match st with
  | v :: st => if v.category = 1 then am_nx (j + 1) ls (v :: v :: st) M else none
  | _ => none
def am_pop (j : Nat) (ls st : List Value) (M : am_M) : Option am_Act := match st with
  | v :: st => if v.category = 1 then am_nx (j + 1) ls st M else none
  | _ => none
def am_dup2 (j : Nat) (ls st : List Value) (M : am_M) : Option am_Act := match st with
  | v :: w :: st => if v.category = 1 ∧ w.category = 1 then am_nx (j + 1) ls (v :: w :: v :: w :: st) M else if v.category = 2 then am_nx (j + 1) ls (v :: v :: w :: st) M else none
  | _ => none
def am_cm (c : ClassFile.Cond) (x y : Int32) : Bool := match c with
  | .eq => decide (x = y)
  | .ne => decide (¬ x = y)
  | .lt => decide (x < y)
  | .ge => decide (y ≤ x)
  | .gt => decide (y < x)
  | .le => decide (x ≤ y)
def am_icmp (c : ClassFile.Cond) (r j : Nat) (ls st : List Value) (M : am_M) : Option am_Act := match st with
  | .int y :: .int x :: st => if am_cm c x y = true then am_nx r ls st M else am_nx (j + 1) ls st M
  | _ => none
def am_ifc (c : ClassFile.Cond) (r j : Nat) (ls st : List Value) (M : am_M) : Option am_Act := match st with
  | .int x :: st => if am_cm c x 0 = true then am_nx r ls st M else am_nx (j + 1) ls st M
  | _ => none
def am_sw (lo hi : Int) (r : Nat) (ls st : List Value) (M : am_M) : Option am_Act := match st with
  | .int x :: st => match am_swT[r]? with
    | some (d, ts) => if x.toInt < lo ∨ hi < x.toInt then am_nx d ls st M else (match ts[(x.toInt - lo).toNat]? with
      | some t => am_nx t ls st M
      | none => none)
    | none => none
  | _ => none
def am_new (ci j : Nat) (ls st : List Value) (M : am_M) : Option am_Act := match am_ftT[ci]? with
  | some ts => am_nx (j + 1) ls (.ref M.1.length :: st) (M.1 ++ [(ci, ts.length)], M.2.1 ++ [ts.map (fun _ => none)], u0 M.2.2.1 M.1.length 0, u0 M.2.2.2 M.1.length 0)
  | none => none
def am_ak (t : ArrayType) : Nat := match t with
  | .int => 100
  | .byte => 101
  | .boolean => 102
  | .long => 103
  | _ => 999
def am_newa (t : ArrayType) (j : Nat) (ls st : List Value) (M : am_M) : Option am_Act := match st with
  | .int n :: st => if 0 ≤ n ∧ n.toNatClampNeg ≤ 65536 ∧ am_ak t ≠ 999 then am_nx (j + 1) ls (.ref M.1.length :: st) (M.1 ++ [(am_ak t, n.toNatClampNeg)], M.2.1 ++ [[]], u0 M.2.2.1 M.1.length 0, u0 M.2.2.2 M.1.length 0) else none
  | _ => none
def am_anew (ci j : Nat) (ls st : List Value) (M : am_M) : Option am_Act := match st with
  | .int n :: st => if 0 ≤ n ∧ n.toNatClampNeg ≤ 65536 ∧ ci = 8 then am_nx (j + 1) ls (.ref M.1.length :: st) (M.1 ++ [(104, n.toNatClampNeg)], M.2.1 ++ [List.replicate n.toNatClampNeg none], u0 M.2.2.1 M.1.length 0, u0 M.2.2.2 M.1.length 0) else none
  | _ => none
def am_mna (j : Nat) (ls st : List Value) (M : am_M) : Option am_Act := match st with
  | .int k :: .int n :: st => if 0 ≤ n ∧ n.toNatClampNeg ≤ 4096 ∧ 0 ≤ k ∧ k.toNatClampNeg ≤ 4096 then am_nx (j + 1) ls (.ref M.1.length :: st) (M.1 ++ (105, n.toNatClampNeg) :: List.replicate n.toNatClampNeg (100, k.toNatClampNeg), M.2.1 ++ ((List.range n.toNatClampNeg).map (fun i => some (M.1.length + 1 + i))) :: List.replicate n.toNatClampNeg [],
      (fun q i => if M.1.length ≤ q then 0 else M.2.2.1 q i), (fun q i => if M.1.length ≤ q then 0 else M.2.2.2 q i)) else none
  | _ => none
/-- what is left below a call's arguments is small -/
def am_low (st : List Value) : Bool := decide ((st.map fun v => v.category).sum ≤ 8)
def am_chr (i k : Nat) : Int32 := (am_sbT.getD i []).getD k 0
def am_inv (y n b j : Nat) (ls st : List Value) (M : am_M) : Option am_Act := match y with
  | 1000 => match st with
    | .ref _ :: st => if am_low st = true then am_nx (j + 1) ls st M else none
    | _ => none
  | 1001 => match st with
    | .int y :: .int x :: st => if am_low st = true then am_nx (j + 1) ls (.int (if x < y then y else x) :: st) M else none
    | _ => none
  | 1002 => match st with
    | .int y :: .int x :: st => if am_low st = true then am_nx (j + 1) ls (.int (if y < x then y else x) :: st) M else none
    | _ => none
  | 1003 => match st with
    | .int x :: st => if am_low st = true then am_nx (j + 1) ls (.int (if 0 ≤ x then x else 0 - x) :: st) M else none
    | _ => none
  | 1004 => match st with
    | .long x :: st => if am_low st = true then am_nx (j + 1) ls (.long (if 0 < x then x else -x) :: st) M else none
    | _ => none
  | 1005 => match st with
    | .long y :: .long x :: st => if am_low st = true then am_nx (j + 1) ls (.long (if y < x then x else y) :: st) M else none
    | _ => none
  | 1006 => match st with
    | .ref a :: st => if 1000000 ≤ a ∧ a < 1000010 ∧ am_low st = true then am_nx (j + 1) ls (.int (Int32.ofNat (am_sbT.getD (a - 1000000) []).length) :: st) M else none
    | _ => none
  | 1007 => match st with
    | .int k :: .ref a :: st => if 1000000 ≤ a ∧ a < 1000010 ∧ am_low st = true ∧ am_ix k (am_sbT.getD (a - 1000000) []).length = true then am_nx (j + 1) ls (.int (am_chr (a - 1000000) k.toNatClampNeg) :: st) M else none
    | _ => none
  | y => if b = 1 ∨ b = 4 then
      (if n ≤ st.length ∧ am_low (st.drop n) = true then some (.inr (.inl (y, (st.take n).reverse, st.drop n))) else none)
    else
      (match st.drop n with
      | .ref a :: rest => if am_kd M a = ((am_mT[y]?).map (fun q => q.2.2.2.2)).getD 2000 ∧ am_low rest = true then some (.inr (.inl (y, .ref a :: (st.take n).reverse, rest))) else none
      | _ => none)
def am_ret (r : Nat) (i : Instr) (st : List Value) : Option am_Act := match i, st with
  | .ireturn, [.int v] => if r = 0 ∨ v = 0 ∨ v = 1 then some (.inr (.inr (some (.int v)))) else none
  | .lreturn, [.long v] => some (.inr (.inr (some (.long v))))
  | .areturn, [.ref a] => some (.inr (.inr (some (.ref a))))
  | .return_, [] => some (.inr (.inr none))
  | _, _ => none
def am_step (X : Nat × (Nat → Int32)) (e : am_E) (j : Nat) (ls st : List Value) (M : am_M) : Option am_Act := match e.1 with
  | .aload_n k => am_lda k.val j ls st M
  | .aload i => am_lda i j ls st M
  | .iload_n k => am_ldi k.val j ls st M
  | .iload i => am_ldi i j ls st M
  | .lload_n k => am_ldl k.val j ls st M
  | .lload i => am_ldl i j ls st M
  | .istore_n k => am_sti k.val j ls st M
  | .istore i => am_sti i j ls st M
  | .lstore_n k => am_stl k.val j ls st M
  | .lstore i => am_stl i j ls st M
  | .astore_n k => am_sta k.val j ls st M
  | .astore i => am_sta i j ls st M
  | .iinc i n => am_inc i n j ls st M
  | .iconst n => am_nx (j + 1) ls (.int (Int32.ofInt n) :: st) M
  | .bipush n => am_nx (j + 1) ls (.int (Int8.ofInt n).toInt32 :: st) M
  | .sipush n => am_nx (j + 1) ls (.int (Int16.ofInt n).toInt32 :: st) M
  | .lconst n => am_nx (j + 1) ls (.long (Int64.ofNat n.val) :: st) M
  | .ldc2_w _ => am_nx (j + 1) ls (.long (am_lcT.getD e.2.2.1 0) :: st) M
  | .ldc _ => am_nx (j + 1) ls (.ref (1000000 + e.2.2.1) :: st) M
  | .getstatic _ => am_nx (j + 1) ls (.ref 1000040 :: st) M
  | .getfield _ => am_getf e.2.2.1 e.2.2.2.1 e.2.2.2.2 j ls st M
  | .putfield _ => am_putf e.2.2.1 e.2.2.2.1 e.2.2.2.2 j ls st M
  | .iaload => am_iald X j ls st M
  | .baload => am_bald j ls st M
  | .laload => am_lald j ls st M
  | .aaload => am_aald j ls st M
  | .iastore => am_iast j ls st M
  | .bastore => am_bast j ls st M
  | .lastore => am_last j ls st M
  | .aastore => am_aast j ls st M
  | .arraylength => am_alen X j ls st M
  | .iadd => am_ii (fun x y => x + y) j ls st M
  | .isub => am_ii (fun x y => x - y) j ls st M
  | .imul => am_ii (fun x y => x * y) j ls st M
  | .iand => am_ii (fun x y => x &&& y) j ls st M
  | .ior => am_ii (fun x y => x ||| y) j ls st M
  | .ixor => am_ii (fun x y => x ^^^ y) j ls st M
  | .ishl => am_ii (fun x y => x <<< (y &&& 31)) j ls st M
  | .ishr => am_ii (fun x y => x >>> (y &&& 31)) j ls st M
  | .iushr => am_ii (fun x y => (x.toUInt32 >>> (y.toUInt32 &&& Int32.toUInt32 31)).toInt32) j ls st M
  | .idiv => am_idiv j ls st M
  | .ineg => am_i1 (fun x => -x) j ls st M
  | .i2b => am_i1 (fun x => x.toInt8.toInt32) j ls st M
  | .i2c => am_i1 (fun x => (x.toUInt32 % 65536).toInt32) j ls st M
  | .i2l => am_i2l j ls st M
  | .l2i => am_l2i j ls st M
  | .ladd => am_ll (fun x y => x + y) j ls st M
  | .lsub => am_ll (fun x y => x - y) j ls st M
  | .lmul => am_ll (fun x y => x * y) j ls st M
  | .ldiv => am_ldiv (fun x y => x / y) j ls st M
  | .lrem => am_ldiv (fun x y => x - x / y * y) j ls st M
  | .lneg => am_lneg j ls st M
  | .lcmp => am_lcmp j ls st M
  | .dup => am_dup j ls st M
  | .dup2 => am_dup2 j ls st M
  | .pop => am_pop j ls st M
  | .if_icmp c _ => am_icmp c e.2.2.1 j ls st M
  | .ifCond c _ => am_ifc c e.2.2.1 j ls st M
  | .goto _ => am_nx e.2.2.1 ls st M
  | .tableswitch _ lo hi _ => am_sw lo hi e.2.2.1 ls st M
  | .new _ => am_new e.2.2.1 j ls st M
  | .newarray t => am_newa t j ls st M
  | .anewarray _ => am_anew e.2.2.1 j ls st M
  | .multianewarray _ _ => am_mna j ls st M
  | .invokevirtual _ => am_inv e.2.2.1 e.2.2.2.1 e.2.2.2.2 j ls st M
  | .invokestatic _ => am_inv e.2.2.1 e.2.2.2.1 e.2.2.2.2 j ls st M
  | .invokespecial _ => am_inv e.2.2.1 e.2.2.2.1 e.2.2.2.2 j ls st M
  | .ireturn => am_ret e.2.2.1 .ireturn st
  | .lreturn => am_ret e.2.2.1 .lreturn st
  | .areturn => am_ret e.2.2.1 .areturn st
  | .return_ => am_ret e.2.2.1 .return_ st
  | _ => none
def am_cd (mid j : Nat) : Option am_E := (am_cT[mid]?.getD [])[j]?
def am_nL (mid : Nat) : Nat := ((am_mT[mid]?).map (fun q => q.2.2.1)).getD 0
/-- a method's locals at its entry -/
def am_ent (n : Nat) (vs : List Value) : List Value := (vs.flatMap fun v => if v.category = 2 then [v, .retAddr 0] else [v]) ++ List.replicate (n - (vs.flatMap fun v => if v.category = 2 then [v, .retAddr 0] else [v]).length) (.retAddr 0)
def am_ex (X : Nat × (Nat → Int32)) : Nat → Nat → Nat → Nat → List Value → List Value → am_M → Option (Option Value × am_M)
  | 0, _, _, _, _, _, _ => none
  | n + 1, d, mid, j, ls, st, M => match (am_cd mid j).bind (fun e => am_step X e j ls st M) with
    | none => none
    | some (.inl q) => am_ex X n d mid q.1 q.2.1 q.2.2.1 q.2.2.2
    | some (.inr (.inr v)) => some (v, M)
    | some (.inr (.inl q)) => match d with
      | 0 => none
      | d + 1 => if (am_ent (am_nL q.1) q.2.1).length = am_nL q.1 then (match am_ex X n d q.1 0 (am_ent (am_nL q.1) q.2.1) [] M with
        | none => none
        | some r => am_ex X n (d + 1) mid (j + 1) ls (r.1.toList ++ q.2.2) r.2) else none
/-- the machine, from here, comes to an end with Q -/
def am_wp (X : Nat × (Nat → Int32)) (d mid j : Nat) (ls st : List Value) (M : am_M) (Q : Option Value → am_M → Prop) : Prop := ∃ n v M', am_ex X n d mid j ls st M = some (v, M') ∧ Q v M'
