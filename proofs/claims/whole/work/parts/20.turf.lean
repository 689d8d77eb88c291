/-! ===== the strips of the class ===== -/
def cutF (n t : Int32) : Int32 := if 0 < (if t < n then t else n) then (if t < n then t else n) else 0
def wnF (n a b : Int32) : Int32 := if n < a then 0 else if b < n then 0 else 1
section TURF
variable {X : Nat × (Nat → Int32)} {d : Nat} {M : am_M} {Q : Option Value → am_M → Prop} {sh : List (Nat × Nat)} {mr : List (List (Option Nat))} {mi : Nat → Nat → Int32} {ml : Nat → Nat → Int64} {a : Nat}
theorem c_within {n t u : Int32} (hQ : Q (some (.int (wnF n t u))) M) : am_wp X d 139 0 [.int n, .int t, .int u] [] M Q := by
  refine wi_iload_n rfl rfl ?_
  refine wi_iload_n rfl rfl ?_
  refine wi_icmp_lt rfl (fun g1 => ?_) (fun g1 => ?_)
  · refine wi_iconst (x := 0) rfl rfl ?_
    refine wi_iret rfl (by decide) ?_
    simpa [wnF, g1] using hQ
  · refine wi_iload_n rfl rfl ?_
    refine wi_iload_n rfl rfl ?_
    refine wi_icmp_gt rfl (fun g2 => ?_) (fun g2 => ?_)
    · refine wi_iconst (x := 0) rfl rfl ?_
      refine wi_iret rfl (by decide) ?_
      simpa [wnF, g1, g2] using hQ
    · refine wi_iconst (x := 1) rfl rfl ?_
      refine wi_goto rfl ?_
      refine wi_iret rfl (by decide) ?_
      simpa [wnF, g1, g2] using hQ
theorem c_cut {n t : Int32} (hQ : Q (some (.int (cutF n t))) M) : am_wp X d 140 0 [.int n, .int t] [] M Q := by
  refine wi_iconst (x := 0) rfl rfl ?_
  refine wi_iload_n rfl rfl ?_
  refine wi_iload_n rfl rfl ?_
  refine wi_min rfl rfl ?_
  refine wi_max rfl rfl ?_
  refine wi_iret rfl (Or.inl rfl) ?_
  exact hQ
def bncF (f g h w : Int32) : Int32 :=
  let b0 := h - w / 4
  let b1 := if f ≤ 50 then b0 else b0 - (f - 50) / 2
  let b2 := if g ≤ 10 then b1 else b1 - (g - 10) / 4
  if 0 < b2 then b2 else 0
theorem c_bounce (hk : am_kd (sh, mr, mi, ml) a = 8) (hQ : Q (some (.int (bncF (mi a 0) (mi a 3) (mi a 4) (mi a 5)))) (sh, mr, mi, ml)) : am_wp X d 93 0 [.ref a, .retAddr 0] [] (sh, mr, mi, ml) Q := by
  refine wi_aload_n rfl rfl ?_
  refine wi_getI rfl hk ?_
  refine wi_aload_n rfl rfl ?_
  refine wi_getI rfl hk ?_
  refine wi_iconst (x := 4) rfl rfl ?_
  refine wi_idiv rfl (by decide) ?_
  refine wi_isub rfl ?_
  refine wi_istore_n rfl (Nat.le_of_ble_eq_true rfl) rfl rfl ?_
  refine wi_aload_n rfl rfl ?_
  refine wi_getI rfl hk ?_
  refine wi_bipush (x := 50) rfl rfl ?_
  refine wi_icmp_le rfl (fun g1 => ?_) (fun g1 => ?_)
  · refine wi_aload_n rfl rfl ?_
    refine wi_getI rfl hk ?_
    refine wi_bipush (x := 10) rfl rfl ?_
    refine wi_icmp_le rfl (fun g2 => ?_) (fun g2 => ?_)
    · refine wi_iconst (x := 0) rfl rfl ?_
      refine wi_iload_n rfl rfl ?_
      refine wi_max rfl rfl ?_
      refine wi_iret rfl (Or.inl rfl) ?_
      simpa [bncF, g1, g2] using hQ
    · refine wi_iload_n rfl rfl ?_
      refine wi_aload_n rfl rfl ?_
      refine wi_getI rfl hk ?_
      refine wi_bipush (x := 10) rfl rfl ?_
      refine wi_isub rfl ?_
      refine wi_iconst (x := 4) rfl rfl ?_
      refine wi_idiv rfl (by decide) ?_
      refine wi_isub rfl ?_
      refine wi_istore_n rfl (Nat.le_of_ble_eq_true rfl) rfl rfl ?_
      refine wi_iconst (x := 0) rfl rfl ?_
      refine wi_iload_n rfl rfl ?_
      refine wi_max rfl rfl ?_
      refine wi_iret rfl (Or.inl rfl) ?_
      simpa [bncF, g1, g2] using hQ
  · refine wi_iload_n rfl rfl ?_
    refine wi_aload_n rfl rfl ?_
    refine wi_getI rfl hk ?_
    refine wi_bipush (x := 50) rfl rfl ?_
    refine wi_isub rfl ?_
    refine wi_iconst (x := 2) rfl rfl ?_
    refine wi_idiv rfl (by decide) ?_
    refine wi_isub rfl ?_
    refine wi_istore_n rfl (Nat.le_of_ble_eq_true rfl) rfl rfl ?_
    refine wi_aload_n rfl rfl ?_
    refine wi_getI rfl hk ?_
    refine wi_bipush (x := 10) rfl rfl ?_
    refine wi_icmp_le rfl (fun g3 => ?_) (fun g3 => ?_)
    · refine wi_iconst (x := 0) rfl rfl ?_
      refine wi_iload_n rfl rfl ?_
      refine wi_max rfl rfl ?_
      refine wi_iret rfl (Or.inl rfl) ?_
      simpa [bncF, g1, g3] using hQ
    · refine wi_iload_n rfl rfl ?_
      refine wi_aload_n rfl rfl ?_
      refine wi_getI rfl hk ?_
      refine wi_bipush (x := 10) rfl rfl ?_
      refine wi_isub rfl ?_
      refine wi_iconst (x := 4) rfl rfl ?_
      refine wi_idiv rfl (by decide) ?_
      refine wi_isub rfl ?_
      refine wi_istore_n rfl (Nat.le_of_ble_eq_true rfl) rfl rfl ?_
      refine wi_iconst (x := 0) rfl rfl ?_
      refine wi_iload_n rfl rfl ?_
      refine wi_max rfl rfl ?_
      refine wi_iret rfl (Or.inl rfl) ?_
      simpa [bncF, g1, g3] using hQ
end TURF
