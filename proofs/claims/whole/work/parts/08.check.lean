def am_len (e : am_E) : Nat := match e.1 with
  | .aload _ | .iload _ | .lload _ | .istore _ | .lstore _ | .astore _ | .bipush _ | .ldc _ | .newarray _ => 2
  | .sipush _ | .iinc _ _ | .ldc2_w _ | .getfield _ | .putfield _ | .getstatic _ | .if_icmp _ _ | .ifCond _ _ | .goto _ | .new _ | .anewarray _ | .invokevirtual _ | .invokestatic _ | .invokespecial _ => 3
  | .multianewarray _ _ => 4
  | .tableswitch _ _ _ _ => e.2.2.2.1
  | _ => 1
def am_stop (i : Instr) : Bool := match i with
  | .goto _ | .tableswitch _ _ _ _ | .ireturn | .lreturn | .areturn | .return_ => true
  | _ => false
def am_pc (mid j : Nat) : Nat := ((am_cd mid j).map (fun e => e.2.1)).getD 100000
def am_lk (t c ix u v : Nat) : Bool := am_lkT.any (fun q => q.2.2.2.1 == ix && (q.2.2.1 == c && (q.2.1 == t && (q.2.2.2.2.1 == u && q.2.2.2.2.2 == v))))
def am_srT : List (Nat × Nat) := [(127, 0), (171, 1), (173, 2), (175, 3), (177, 4), (179, 5), (181, 6), (183, 7), (185, 8), (146, 9)]
def am_yk (y : Nat) : Nat := ((am_ywT[y]?).map Prod.fst).getD 9
def am_callok (mid ix y n b : Nat) : Bool := if 1000 ≤ y then am_lk 2 (am_k mid) ix y 0 else
  (decide (y < 204 ∧ (parseMethodDescriptor (am_y y).desc).map (fun d => d.parameters.length) = some n) && (match b with
  | 0 => am_lk 1 (am_k mid) ix y 0 && am_yk y == 0
  | 1 => am_lk 1 (am_k mid) ix y 0 && (am_yk y == 1 && am_k mid == am_k y)
  | 2 => am_lk 1 (am_k mid) ix y 0 && am_yk y == 2
  | 4 => am_neT.contains (am_k mid, ix, y) && am_yk y == 1
  | 5 => am_neT.contains (am_k mid, ix, y) && am_yk y == 2
  | _ => false))
def am_fdok (c k t : Nat) : Bool := decide (c < 12 ∧ k < (am_ftT.getD c []).length ∧ (am_ftT.getD c []).getD k 9 = t)
def am_ck (mid j : Nat) (e : am_E) : Bool := (am_stop e.1 || am_pc mid (j + 1) == e.2.1 + am_len e) && (match e.1 with
  | .if_icmp _ z => decide ((e.2.1 : Int) + z = (am_pc mid e.2.2.1 : Int))
  | .ifCond _ z => decide ((e.2.1 : Int) + z = (am_pc mid e.2.2.1 : Int))
  | .goto z => decide ((e.2.1 : Int) + z = (am_pc mid e.2.2.1 : Int))
  | .tableswitch df _ _ offs => match am_swT[e.2.2.1]? with
    | some (dt, ts) => decide ((e.2.1 : Int) + df = (am_pc mid dt : Int)) && decide (offs.toList.map (fun z => (e.2.1 : Int) + z) = ts.map (fun t => (am_pc mid t : Int)))
    | none => false
  | .getfield ix => am_lk 0 (am_k mid) ix e.2.2.1 e.2.2.2.1 && am_fdok e.2.2.1 e.2.2.2.1 e.2.2.2.2
  | .putfield ix => am_lk 0 (am_k mid) ix e.2.2.1 e.2.2.2.1 && (am_fdok e.2.2.1 e.2.2.2.1 e.2.2.2.2 && ((am_T e.2.2.1 e.2.2.2.1).2.2.2 == false || (am_yk mid == 2 && am_k mid == e.2.2.1)))
  | .invokevirtual ix => am_callok mid ix e.2.2.1 e.2.2.2.1 e.2.2.2.2 && (if 1000 ≤ e.2.2.1 then e.2.2.1 == 1006 || e.2.2.1 == 1007 else e.2.2.2.2 == 0)
  | .invokestatic ix => am_callok mid ix e.2.2.1 e.2.2.2.1 e.2.2.2.2 && (if 1000 ≤ e.2.2.1 then decide (1001 ≤ e.2.2.1 ∧ e.2.2.1 ≤ 1005) else e.2.2.2.2 == 1 || e.2.2.2.2 == 4)
  | .invokespecial ix => am_callok mid ix e.2.2.1 e.2.2.2.1 e.2.2.2.2 && (if 1000 ≤ e.2.2.1 then e.2.2.1 == 1000 else e.2.2.2.2 == 2 || e.2.2.2.2 == 5)
  | .new ix => am_lk 3 (am_k mid) ix e.2.2.1 0 && decide (e.2.2.1 < 12)
  | .anewarray ix => am_lk 3 (am_k mid) ix 8 0
  | .multianewarray ix dm => am_lk 6 (am_k mid) ix 0 0 && dm == 2
  | .ldc ix => am_k mid == 5 && am_srT.contains (ix, e.2.2.1)
  | .ldc2_w ix => am_lk 4 (am_k mid) ix e.2.2.1 0
  | .getstatic ix => am_lk 5 (am_k mid) ix 0 0
  | .ireturn => decide ((e.2.2.1 = 0 ∧ am_r mid = some .int) ∨ (e.2.2.1 = 1 ∧ am_r mid = some .boolean))
  | .lreturn => decide (am_r mid = some .long)
  | .areturn => match am_r mid with
    | some (.object _) => true
    | _ => false
  | .return_ => decide (am_r mid = none)
  | _ => true)
def am_dk (mid : Nat) (e : am_E) : Bool := decide (decode (am_b mid) e.2.1 = .ok (e.1, am_len e))
def am_ckM (mid : Nat) : Bool := (List.range (am_cT.getD mid []).length).all (fun j => match am_cd mid j with
  | some e => am_ck mid j e
  | none => true)
def am_dkM (mid : Nat) : Bool := (am_cT.getD mid []).all (fun e => am_dk mid e)
/-- a field's type, by its number -/
def am_tyok (c : Nat) : Bool := (List.range (am_ftT.getD c []).length).all (fun k => match (am_ftT.getD c []).getD k 9, parseFieldDescriptor (am_T c k).2.2.1 with
  | 0, some .int => true
  | 1, some .long => true
  | 2, some (.object _) => true
  | 2, some (.array _) => true
  | _, _ => false)
theorem am_ty_ok : (List.range 12).all am_tyok = true := by decide +kernel
