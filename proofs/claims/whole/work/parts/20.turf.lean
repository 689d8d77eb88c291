/-! ===== the strips of the class ===== -/
def cutF (n t : Int32) : Int32 := if 0 < (if t < n then t else n) then (if t < n then t else n) else 0
def wnF (n a b : Int32) : Int32 := if n < a then 0 else if b < n then 0 else 1
theorem u2_rd {α : Type} {f : Nat → Nat → α} {a k i : Nat} {v : α} : u2 f a k v a i = if i = k then v else f a i := by rw [u2_at]
/-- six numbers of a strip, laid at a place -/
def upT (mi : Nat → Nat → Int32) (a : Nat) (f s t g h w : Int32) : Nat → Nat → Int32 := fun q k => if q = a then (if k = 0 then f else if k = 1 then s else if k = 2 then t else if k = 3 then g else if k = 4 then h else if k = 5 then w else mi q k) else mi q k
theorem upT_rd {mi : Nat → Nat → Int32} {a : Nat} {f s t g h w : Int32} {k : Nat} : upT mi a f s t g h w a k = if k = 0 then f else if k = 1 then s else if k = 2 then t else if k = 3 then g else if k = 4 then h else if k = 5 then w else mi a k := if_pos rfl
theorem upT_ne {mi : Nat → Nat → Int32} {a q : Nat} {f s t g h w : Int32} (hq : q ≠ a) : upT mi a f s t g h w q = mi q := funext (fun k => if_neg hq)
theorem upT_eq {mi' mi : Nat → Nat → Int32} {a : Nat} {f s t g h w : Int32} (h0 : mi' a 0 = f) (h1 : mi' a 1 = s) (h2 : mi' a 2 = t) (h3 : mi' a 3 = g) (h4 : mi' a 4 = h) (h5 : mi' a 5 = w) (hk : ∀ k, k ≠ 0 → k ≠ 1 → k ≠ 2 → k ≠ 3 → k ≠ 4 → k ≠ 5 → mi' a k = mi a k) (hq : ∀ q, q ≠ a → mi' q = mi q) : mi' = upT mi a f s t g h w := by
  funext q k
  by_cases e : q = a
  · subst e
    rw [upT_rd]
    by_cases e0 : k = 0
    · subst e0; rw [if_pos rfl]; exact h0
    by_cases e1 : k = 1
    · subst e1; exact h1
    by_cases e2 : k = 2
    · subst e2; exact h2
    by_cases e3 : k = 3
    · subst e3; exact h3
    by_cases e4 : k = 4
    · subst e4; exact h4
    by_cases e5 : k = 5
    · subst e5; exact h5
    rw [if_neg e0, if_neg e1, if_neg e2, if_neg e3, if_neg e4, if_neg e5]
    exact hk k e0 e1 e2 e3 e4 e5
  · rw [upT_ne e, hq q e]
section TURF
variable {X : Nat × (Nat → Int32)} {d : Nat} {M : am_M} {Q : Option Value → am_M → Prop} {sh : List (Nat × Nat)} {mr : List (List (Option Nat))} {mi : Nat → Nat → Int32} {ml : Nat → Nat → Int64} {a : Nat} {v : Option Value}
theorem am_mem {mi1 mi2 : Nat → Nat → Int32} (hQ : Q v (sh, mr, mi2, ml)) (e : mi1 = mi2) : Q v (sh, mr, mi1, ml) := e ▸ hQ
section DIA
variable {X : Nat × (Nat → Int32)} {d mid j jj : Nat} {ls st : List Value} {M : am_M} {Q : Option Value → am_M → Prop} {p r1 r2 r3 : Nat} {x y A B : Int32} {z : Int}
theorem wi_icmp_eq_dia (hc : am_cd mid j = some (.if_icmp .eq z, p, r1, r2, r3)) (hT : am_wp X d mid jj ls (.int A :: st) M Q → am_wp X d mid r1 ls st M Q) (hF : am_wp X d mid jj ls (.int B :: st) M Q → am_wp X d mid (j + 1) ls st M Q) (k : am_wp X d mid jj ls (.int (if x = y then A else B) :: st) M Q) : am_wp X d mid j ls (.int y :: .int x :: st) M Q := wi_icmp_eq hc (fun h9 => hT (by rw [if_pos h9] at k; exact k)) (fun h9 => hF (by rw [if_neg h9] at k; exact k))
theorem wi_if_eq_dia (hc : am_cd mid j = some (.ifCond .eq z, p, r1, r2, r3)) (hT : am_wp X d mid jj ls (.int A :: st) M Q → am_wp X d mid r1 ls st M Q) (hF : am_wp X d mid jj ls (.int B :: st) M Q → am_wp X d mid (j + 1) ls st M Q) (k : am_wp X d mid jj ls (.int (if x = 0 then A else B) :: st) M Q) : am_wp X d mid j ls (.int x :: st) M Q := wi_if_eq hc (fun h9 => hT (by rw [if_pos h9] at k; exact k)) (fun h9 => hF (by rw [if_neg h9] at k; exact k))
theorem wi_icmp_ne_dia (hc : am_cd mid j = some (.if_icmp .ne z, p, r1, r2, r3)) (hT : am_wp X d mid jj ls (.int A :: st) M Q → am_wp X d mid r1 ls st M Q) (hF : am_wp X d mid jj ls (.int B :: st) M Q → am_wp X d mid (j + 1) ls st M Q) (k : am_wp X d mid jj ls (.int (if ¬ x = y then A else B) :: st) M Q) : am_wp X d mid j ls (.int y :: .int x :: st) M Q := wi_icmp_ne hc (fun h9 => hT (by rw [if_pos h9] at k; exact k)) (fun h9 => hF (by rw [if_neg h9] at k; exact k))
theorem wi_if_ne_dia (hc : am_cd mid j = some (.ifCond .ne z, p, r1, r2, r3)) (hT : am_wp X d mid jj ls (.int A :: st) M Q → am_wp X d mid r1 ls st M Q) (hF : am_wp X d mid jj ls (.int B :: st) M Q → am_wp X d mid (j + 1) ls st M Q) (k : am_wp X d mid jj ls (.int (if ¬ x = 0 then A else B) :: st) M Q) : am_wp X d mid j ls (.int x :: st) M Q := wi_if_ne hc (fun h9 => hT (by rw [if_pos h9] at k; exact k)) (fun h9 => hF (by rw [if_neg h9] at k; exact k))
theorem wi_icmp_lt_dia (hc : am_cd mid j = some (.if_icmp .lt z, p, r1, r2, r3)) (hT : am_wp X d mid jj ls (.int A :: st) M Q → am_wp X d mid r1 ls st M Q) (hF : am_wp X d mid jj ls (.int B :: st) M Q → am_wp X d mid (j + 1) ls st M Q) (k : am_wp X d mid jj ls (.int (if x < y then A else B) :: st) M Q) : am_wp X d mid j ls (.int y :: .int x :: st) M Q := wi_icmp_lt hc (fun h9 => hT (by rw [if_pos h9] at k; exact k)) (fun h9 => hF (by rw [if_neg h9] at k; exact k))
theorem wi_if_lt_dia (hc : am_cd mid j = some (.ifCond .lt z, p, r1, r2, r3)) (hT : am_wp X d mid jj ls (.int A :: st) M Q → am_wp X d mid r1 ls st M Q) (hF : am_wp X d mid jj ls (.int B :: st) M Q → am_wp X d mid (j + 1) ls st M Q) (k : am_wp X d mid jj ls (.int (if x < 0 then A else B) :: st) M Q) : am_wp X d mid j ls (.int x :: st) M Q := wi_if_lt hc (fun h9 => hT (by rw [if_pos h9] at k; exact k)) (fun h9 => hF (by rw [if_neg h9] at k; exact k))
theorem wi_icmp_ge_dia (hc : am_cd mid j = some (.if_icmp .ge z, p, r1, r2, r3)) (hT : am_wp X d mid jj ls (.int A :: st) M Q → am_wp X d mid r1 ls st M Q) (hF : am_wp X d mid jj ls (.int B :: st) M Q → am_wp X d mid (j + 1) ls st M Q) (k : am_wp X d mid jj ls (.int (if y ≤ x then A else B) :: st) M Q) : am_wp X d mid j ls (.int y :: .int x :: st) M Q := wi_icmp_ge hc (fun h9 => hT (by rw [if_pos h9] at k; exact k)) (fun h9 => hF (by rw [if_neg h9] at k; exact k))
theorem wi_if_ge_dia (hc : am_cd mid j = some (.ifCond .ge z, p, r1, r2, r3)) (hT : am_wp X d mid jj ls (.int A :: st) M Q → am_wp X d mid r1 ls st M Q) (hF : am_wp X d mid jj ls (.int B :: st) M Q → am_wp X d mid (j + 1) ls st M Q) (k : am_wp X d mid jj ls (.int (if 0 ≤ x then A else B) :: st) M Q) : am_wp X d mid j ls (.int x :: st) M Q := wi_if_ge hc (fun h9 => hT (by rw [if_pos h9] at k; exact k)) (fun h9 => hF (by rw [if_neg h9] at k; exact k))
theorem wi_icmp_gt_dia (hc : am_cd mid j = some (.if_icmp .gt z, p, r1, r2, r3)) (hT : am_wp X d mid jj ls (.int A :: st) M Q → am_wp X d mid r1 ls st M Q) (hF : am_wp X d mid jj ls (.int B :: st) M Q → am_wp X d mid (j + 1) ls st M Q) (k : am_wp X d mid jj ls (.int (if y < x then A else B) :: st) M Q) : am_wp X d mid j ls (.int y :: .int x :: st) M Q := wi_icmp_gt hc (fun h9 => hT (by rw [if_pos h9] at k; exact k)) (fun h9 => hF (by rw [if_neg h9] at k; exact k))
theorem wi_if_gt_dia (hc : am_cd mid j = some (.ifCond .gt z, p, r1, r2, r3)) (hT : am_wp X d mid jj ls (.int A :: st) M Q → am_wp X d mid r1 ls st M Q) (hF : am_wp X d mid jj ls (.int B :: st) M Q → am_wp X d mid (j + 1) ls st M Q) (k : am_wp X d mid jj ls (.int (if 0 < x then A else B) :: st) M Q) : am_wp X d mid j ls (.int x :: st) M Q := wi_if_gt hc (fun h9 => hT (by rw [if_pos h9] at k; exact k)) (fun h9 => hF (by rw [if_neg h9] at k; exact k))
theorem wi_icmp_le_dia (hc : am_cd mid j = some (.if_icmp .le z, p, r1, r2, r3)) (hT : am_wp X d mid jj ls (.int A :: st) M Q → am_wp X d mid r1 ls st M Q) (hF : am_wp X d mid jj ls (.int B :: st) M Q → am_wp X d mid (j + 1) ls st M Q) (k : am_wp X d mid jj ls (.int (if x ≤ y then A else B) :: st) M Q) : am_wp X d mid j ls (.int y :: .int x :: st) M Q := wi_icmp_le hc (fun h9 => hT (by rw [if_pos h9] at k; exact k)) (fun h9 => hF (by rw [if_neg h9] at k; exact k))
theorem wi_if_le_dia (hc : am_cd mid j = some (.ifCond .le z, p, r1, r2, r3)) (hT : am_wp X d mid jj ls (.int A :: st) M Q → am_wp X d mid r1 ls st M Q) (hF : am_wp X d mid jj ls (.int B :: st) M Q → am_wp X d mid (j + 1) ls st M Q) (k : am_wp X d mid jj ls (.int (if x ≤ 0 then A else B) :: st) M Q) : am_wp X d mid j ls (.int x :: st) M Q := wi_if_le hc (fun h9 => hT (by rw [if_pos h9] at k; exact k)) (fun h9 => hF (by rw [if_neg h9] at k; exact k))
end DIA
theorem c_within {n t u : Int32} (hQ : Q (some (.int (wnF n t u))) M) : am_wp X d 139 0 [.int n, .int t, .int u] [] M Q := by
  refine wi_iload_n rfl rfl ?_
  refine wi_iload_n rfl rfl ?_
  refine wi_icmp_lt rfl (fun g1 => ?_) (fun g1 => ?_)
  · refine wi_iconst (x := 0) rfl rfl ?_
    refine wi_iret rfl (by decide) ?_
    simpa [wnF, g1] using hQ
  · refine wi_iload_n rfl rfl ?_
    refine wi_iload_n rfl rfl ?_
    refine wi_icmp_gt rfl (fun g2 => ?_) (fun g2 => ?_)
    · refine wi_iconst (x := 0) rfl rfl ?_
      refine wi_iret rfl (by decide) ?_
      simpa [wnF, g1, g2] using hQ
    · refine wi_iconst (x := 1) rfl rfl ?_
      refine wi_goto rfl ?_
      refine wi_iret rfl (by decide) ?_
      simpa [wnF, g1, g2] using hQ
theorem c_cut {n t : Int32} (hQ : Q (some (.int (cutF n t))) M) : am_wp X d 140 0 [.int n, .int t] [] M Q := by
  refine wi_iconst (x := 0) rfl rfl ?_
  refine wi_iload_n rfl rfl ?_
  refine wi_iload_n rfl rfl ?_
  refine wi_min rfl rfl ?_
  refine wi_max rfl rfl ?_
  refine wi_iret rfl (Or.inl rfl) ?_
  exact hQ
def bncF (f g h w : Int32) : Int32 :=
  if 0 < (if g ≤ 10 then (if f ≤ 50 then h - w / 4 else h - w / 4 - (f - 50) / 2) else (if f ≤ 50 then h - w / 4 else h - w / 4 - (f - 50) / 2) - (g - 10) / 4) then (if g ≤ 10 then (if f ≤ 50 then h - w / 4 else h - w / 4 - (f - 50) / 2) else (if f ≤ 50 then h - w / 4 else h - w / 4 - (f - 50) / 2) - (g - 10) / 4) else 0
theorem c_bounce (hk : am_kd (sh, mr, mi, ml) a = 8) (hQ : Q (some (.int (bncF (mi a 0) (mi a 3) (mi a 4) (mi a 5)))) (sh, mr, mi, ml)) : am_wp X d 93 0 [.ref a, .retAddr 0] [] (sh, mr, mi, ml) Q := by
  refine wi_aload_n rfl rfl ?_
  refine wi_getI rfl hk ?_
  refine wi_aload_n rfl rfl ?_
  refine wi_getI rfl hk ?_
  refine wi_iconst (x := 4) rfl rfl ?_
  refine wi_idiv rfl (by decide) ?_
  refine wi_isub rfl ?_
  refine wi_istore_n rfl (Nat.le_of_ble_eq_true rfl) rfl rfl ?_
  refine wi_aload_n rfl rfl ?_
  refine wi_getI rfl hk ?_
  refine wi_bipush (x := 50) rfl rfl ?_
  refine wi_icmp_le rfl (fun g1 => ?_) (fun g1 => ?_)
  · refine wi_aload_n rfl rfl ?_
    refine wi_getI rfl hk ?_
    refine wi_bipush (x := 10) rfl rfl ?_
    refine wi_icmp_le rfl (fun g2 => ?_) (fun g2 => ?_)
    · refine wi_iconst (x := 0) rfl rfl ?_
      refine wi_iload_n rfl rfl ?_
      refine wi_max rfl rfl ?_
      refine wi_iret rfl (Or.inl rfl) ?_
      simpa [bncF, g1, g2] using hQ
    · refine wi_iload_n rfl rfl ?_
      refine wi_aload_n rfl rfl ?_
      refine wi_getI rfl hk ?_
      refine wi_bipush (x := 10) rfl rfl ?_
      refine wi_isub rfl ?_
      refine wi_iconst (x := 4) rfl rfl ?_
      refine wi_idiv rfl (by decide) ?_
      refine wi_isub rfl ?_
      refine wi_istore_n rfl (Nat.le_of_ble_eq_true rfl) rfl rfl ?_
      refine wi_iconst (x := 0) rfl rfl ?_
      refine wi_iload_n rfl rfl ?_
      refine wi_max rfl rfl ?_
      refine wi_iret rfl (Or.inl rfl) ?_
      simpa [bncF, g1, g2] using hQ
  · refine wi_iload_n rfl rfl ?_
    refine wi_aload_n rfl rfl ?_
    refine wi_getI rfl hk ?_
    refine wi_bipush (x := 50) rfl rfl ?_
    refine wi_isub rfl ?_
    refine wi_iconst (x := 2) rfl rfl ?_
    refine wi_idiv rfl (by decide) ?_
    refine wi_isub rfl ?_
    refine wi_istore_n rfl (Nat.le_of_ble_eq_true rfl) rfl rfl ?_
    refine wi_aload_n rfl rfl ?_
    refine wi_getI rfl hk ?_
    refine wi_bipush (x := 10) rfl rfl ?_
    refine wi_icmp_le rfl (fun g3 => ?_) (fun g3 => ?_)
    · refine wi_iconst (x := 0) rfl rfl ?_
      refine wi_iload_n rfl rfl ?_
      refine wi_max rfl rfl ?_
      refine wi_iret rfl (Or.inl rfl) ?_
      simpa [bncF, g1, g3] using hQ
    · refine wi_iload_n rfl rfl ?_
      refine wi_aload_n rfl rfl ?_
      refine wi_getI rfl hk ?_
      refine wi_bipush (x := 10) rfl rfl ?_
      refine wi_isub rfl ?_
      refine wi_iconst (x := 4) rfl rfl ?_
      refine wi_idiv rfl (by decide) ?_
      refine wi_isub rfl ?_
      refine wi_istore_n rfl (Nat.le_of_ble_eq_true rfl) rfl rfl ?_
      refine wi_iconst (x := 0) rfl rfl ?_
      refine wi_iload_n rfl rfl ?_
      refine wi_max rfl rfl ?_
      refine wi_iret rfl (Or.inl rfl) ?_
      simpa [bncF, g1, g3] using hQ
def soakF (f rain wat : Int32) : Int32 := cutF (f + rain + (if wat = 0 then 0 else 8)) 100
theorem c_soak {r t : Int32} (hk : am_kd (sh, mr, mi, ml) a = 8) (hQ : Q none (sh, mr, upT mi a (soakF (mi a 0) r t) (mi a 1) (mi a 2) (mi a 3) (mi a 4) (mi a 5), ml)) : am_wp X (d + 1) 95 0 [.ref a, .int r, .int t] [] (sh, mr, mi, ml) Q := by
  refine wi_aload_n rfl rfl ?_
  refine wi_aload_n rfl rfl ?_
  refine wi_getI rfl hk ?_
  refine wi_iload_n rfl rfl ?_
  refine wi_iadd rfl ?_
  refine wi_iload_n rfl rfl ?_
  refine wi_if_eq rfl (fun g1 => ?_) (fun g1 => ?_)
  · try simp [u2_rd, -Int32.not_le, -Int32.not_lt] at g1
    refine wi_iconst (x := 0) rfl rfl ?_
    refine wi_iadd rfl ?_
    refine wi_bipush (x := 100) rfl rfl ?_
    refine wi_callS2 rfl (by decide) (by decide) rfl rfl rfl (c_cut ?_)
    refine wi_putI rfl hk ?_
    refine wi_ret rfl ?_
    exact am_mem hQ (upT_eq (by simp [u2_rd, soakF, g1]) (by simp [u2_rd, soakF, g1]) (by simp [u2_rd, soakF, g1]) (by simp [u2_rd, soakF, g1]) (by simp [u2_rd, soakF, g1]) (by simp [u2_rd, soakF, g1]) (fun k e0 e1 e2 e3 e4 e5 => by simp [u2_rd, e0, e1, e2, e3, e4, e5]) (fun q9 hq => by simp [u2_ne hq]))
  · try simp [u2_rd, -Int32.not_le, -Int32.not_lt] at g1
    refine wi_bipush (x := 8) rfl rfl ?_
    refine wi_goto rfl ?_
    refine wi_iadd rfl ?_
    refine wi_bipush (x := 100) rfl rfl ?_
    refine wi_callS2 rfl (by decide) (by decide) rfl rfl rfl (c_cut ?_)
    refine wi_putI rfl hk ?_
    refine wi_ret rfl ?_
    exact am_mem hQ (upT_eq (by simp [u2_rd, soakF, g1]) (by simp [u2_rd, soakF, g1]) (by simp [u2_rd, soakF, g1]) (by simp [u2_rd, soakF, g1]) (by simp [u2_rd, soakF, g1]) (by simp [u2_rd, soakF, g1]) (fun k e0 e1 e2 e3 e4 e5 => by simp [u2_rd, e0, e1, e2, e3, e4, e5]) (fun q9 hq => by simp [u2_ne hq]))
def seep1 (f s : Int32) : Int32 × Int32 := if f ≤ s then (f, s) else (cutF (f - (f - s) / 4) 100, cutF (s + (f - s) / 4) 100)
def seepF (f s t : Int32) : Int32 × Int32 × Int32 :=
  ((seep1 f s).1, (seep1 (seep1 f s).2 t).1, cutF ((seep1 (seep1 f s).2 t).2 - (seep1 (seep1 f s).2 t).2 / 10) 100)
theorem c_seep (hk : am_kd (sh, mr, mi, ml) a = 8) (hQ : Q none (sh, mr, upT mi a (seepF (mi a 0) (mi a 1) (mi a 2)).1 (seepF (mi a 0) (mi a 1) (mi a 2)).2.1 (seepF (mi a 0) (mi a 1) (mi a 2)).2.2 (mi a 3) (mi a 4) (mi a 5), ml)) : am_wp X (d + 1) 96 0 [.ref a, .retAddr 0] [] (sh, mr, mi, ml) Q := by
  refine wi_aload_n rfl rfl ?_
  refine wi_getI rfl hk ?_
  refine wi_aload_n rfl rfl ?_
  refine wi_getI rfl hk ?_
  refine wi_icmp_le rfl (fun g1 => ?_) (fun g1 => ?_)
  · try simp [u2_rd, -Int32.not_le, -Int32.not_lt] at g1
    refine wi_aload_n rfl rfl ?_
    refine wi_getI rfl hk ?_
    refine wi_aload_n rfl rfl ?_
    refine wi_getI rfl hk ?_
    refine wi_icmp_le rfl (fun g2 => ?_) (fun g2 => ?_)
    · try simp [u2_rd, -Int32.not_le, -Int32.not_lt] at g2
      refine wi_aload_n rfl rfl ?_
      refine wi_aload_n rfl rfl ?_
      refine wi_getI rfl hk ?_
      refine wi_aload_n rfl rfl ?_
      refine wi_getI rfl hk ?_
      refine wi_bipush (x := 10) rfl rfl ?_
      refine wi_idiv rfl (by decide) ?_
      refine wi_isub rfl ?_
      refine wi_bipush (x := 100) rfl rfl ?_
      refine wi_callS2 rfl (by decide) (by decide) rfl rfl rfl (c_cut ?_)
      refine wi_putI rfl hk ?_
      refine wi_ret rfl ?_
      exact am_mem hQ (upT_eq (by simp [u2_rd, seepF, seep1, g1, g2]) (by simp [u2_rd, seepF, seep1, g1, g2]) (by simp [u2_rd, seepF, seep1, g1, g2]) (by simp [u2_rd, seepF, seep1, g1, g2]) (by simp [u2_rd, seepF, seep1, g1, g2]) (by simp [u2_rd, seepF, seep1, g1, g2]) (fun k e0 e1 e2 e3 e4 e5 => by simp [u2_rd, e0, e1, e2, e3, e4, e5]) (fun q9 hq => by simp [u2_ne hq]))
    · try simp [u2_rd, -Int32.not_le, -Int32.not_lt] at g2
      refine wi_aload_n rfl rfl ?_
      refine wi_getI rfl hk ?_
      refine wi_aload_n rfl rfl ?_
      refine wi_getI rfl hk ?_
      refine wi_isub rfl ?_
      refine wi_iconst (x := 4) rfl rfl ?_
      refine wi_idiv rfl (by decide) ?_
      refine wi_istore_n rfl (Nat.le_of_ble_eq_true rfl) rfl rfl ?_
      refine wi_aload_n rfl rfl ?_
      refine wi_aload_n rfl rfl ?_
      refine wi_getI rfl hk ?_
      refine wi_iload_n rfl rfl ?_
      refine wi_isub rfl ?_
      refine wi_bipush (x := 100) rfl rfl ?_
      refine wi_callS2 rfl (by decide) (by decide) rfl rfl rfl (c_cut ?_)
      refine wi_putI rfl hk ?_
      refine wi_aload_n rfl rfl ?_
      refine wi_aload_n rfl rfl ?_
      refine wi_getI rfl hk ?_
      refine wi_iload_n rfl rfl ?_
      refine wi_iadd rfl ?_
      refine wi_bipush (x := 100) rfl rfl ?_
      refine wi_callS2 rfl (by decide) (by decide) rfl rfl rfl (c_cut ?_)
      refine wi_putI rfl hk ?_
      refine wi_aload_n rfl rfl ?_
      refine wi_aload_n rfl rfl ?_
      refine wi_getI rfl hk ?_
      refine wi_aload_n rfl rfl ?_
      refine wi_getI rfl hk ?_
      refine wi_bipush (x := 10) rfl rfl ?_
      refine wi_idiv rfl (by decide) ?_
      refine wi_isub rfl ?_
      refine wi_bipush (x := 100) rfl rfl ?_
      refine wi_callS2 rfl (by decide) (by decide) rfl rfl rfl (c_cut ?_)
      refine wi_putI rfl hk ?_
      refine wi_ret rfl ?_
      exact am_mem hQ (upT_eq (by simp [u2_rd, seepF, seep1, g1, g2]) (by simp [u2_rd, seepF, seep1, g1, g2]) (by simp [u2_rd, seepF, seep1, g1, g2]) (by simp [u2_rd, seepF, seep1, g1, g2]) (by simp [u2_rd, seepF, seep1, g1, g2]) (by simp [u2_rd, seepF, seep1, g1, g2]) (fun k e0 e1 e2 e3 e4 e5 => by simp [u2_rd, e0, e1, e2, e3, e4, e5]) (fun q9 hq => by simp [u2_ne hq]))
  · try simp [u2_rd, -Int32.not_le, -Int32.not_lt] at g1
    refine wi_aload_n rfl rfl ?_
    refine wi_getI rfl hk ?_
    refine wi_aload_n rfl rfl ?_
    refine wi_getI rfl hk ?_
    refine wi_isub rfl ?_
    refine wi_iconst (x := 4) rfl rfl ?_
    refine wi_idiv rfl (by decide) ?_
    refine wi_istore_n rfl (Nat.le_of_ble_eq_true rfl) rfl rfl ?_
    refine wi_aload_n rfl rfl ?_
    refine wi_aload_n rfl rfl ?_
    refine wi_getI rfl hk ?_
    refine wi_iload_n rfl rfl ?_
    refine wi_isub rfl ?_
    refine wi_bipush (x := 100) rfl rfl ?_
    refine wi_callS2 rfl (by decide) (by decide) rfl rfl rfl (c_cut ?_)
    refine wi_putI rfl hk ?_
    refine wi_aload_n rfl rfl ?_
    refine wi_aload_n rfl rfl ?_
    refine wi_getI rfl hk ?_
    refine wi_iload_n rfl rfl ?_
    refine wi_iadd rfl ?_
    refine wi_bipush (x := 100) rfl rfl ?_
    refine wi_callS2 rfl (by decide) (by decide) rfl rfl rfl (c_cut ?_)
    refine wi_putI rfl hk ?_
    refine wi_aload_n rfl rfl ?_
    refine wi_getI rfl hk ?_
    refine wi_aload_n rfl rfl ?_
    refine wi_getI rfl hk ?_
    refine wi_icmp_le rfl (fun g3 => ?_) (fun g3 => ?_)
    · try simp [u2_rd, -Int32.not_le, -Int32.not_lt] at g3
      refine wi_aload_n rfl rfl ?_
      refine wi_aload_n rfl rfl ?_
      refine wi_getI rfl hk ?_
      refine wi_aload_n rfl rfl ?_
      refine wi_getI rfl hk ?_
      refine wi_bipush (x := 10) rfl rfl ?_
      refine wi_idiv rfl (by decide) ?_
      refine wi_isub rfl ?_
      refine wi_bipush (x := 100) rfl rfl ?_
      refine wi_callS2 rfl (by decide) (by decide) rfl rfl rfl (c_cut ?_)
      refine wi_putI rfl hk ?_
      refine wi_ret rfl ?_
      exact am_mem hQ (upT_eq (by simp [u2_rd, seepF, seep1, g1, g3]) (by simp [u2_rd, seepF, seep1, g1, g3]) (by simp [u2_rd, seepF, seep1, g1, g3]) (by simp [u2_rd, seepF, seep1, g1, g3]) (by simp [u2_rd, seepF, seep1, g1, g3]) (by simp [u2_rd, seepF, seep1, g1, g3]) (fun k e0 e1 e2 e3 e4 e5 => by simp [u2_rd, e0, e1, e2, e3, e4, e5]) (fun q9 hq => by simp [u2_ne hq]))
    · try simp [u2_rd, -Int32.not_le, -Int32.not_lt] at g3
      refine wi_aload_n rfl rfl ?_
      refine wi_getI rfl hk ?_
      refine wi_aload_n rfl rfl ?_
      refine wi_getI rfl hk ?_
      refine wi_isub rfl ?_
      refine wi_iconst (x := 4) rfl rfl ?_
      refine wi_idiv rfl (by decide) ?_
      refine wi_istore_n rfl (Nat.le_of_ble_eq_true rfl) rfl rfl ?_
      refine wi_aload_n rfl rfl ?_
      refine wi_aload_n rfl rfl ?_
      refine wi_getI rfl hk ?_
      refine wi_iload_n rfl rfl ?_
      refine wi_isub rfl ?_
      refine wi_bipush (x := 100) rfl rfl ?_
      refine wi_callS2 rfl (by decide) (by decide) rfl rfl rfl (c_cut ?_)
      refine wi_putI rfl hk ?_
      refine wi_aload_n rfl rfl ?_
      refine wi_aload_n rfl rfl ?_
      refine wi_getI rfl hk ?_
      refine wi_iload_n rfl rfl ?_
      refine wi_iadd rfl ?_
      refine wi_bipush (x := 100) rfl rfl ?_
      refine wi_callS2 rfl (by decide) (by decide) rfl rfl rfl (c_cut ?_)
      refine wi_putI rfl hk ?_
      refine wi_aload_n rfl rfl ?_
      refine wi_aload_n rfl rfl ?_
      refine wi_getI rfl hk ?_
      refine wi_aload_n rfl rfl ?_
      refine wi_getI rfl hk ?_
      refine wi_bipush (x := 10) rfl rfl ?_
      refine wi_idiv rfl (by decide) ?_
      refine wi_isub rfl ?_
      refine wi_bipush (x := 100) rfl rfl ?_
      refine wi_callS2 rfl (by decide) (by decide) rfl rfl rfl (c_cut ?_)
      refine wi_putI rfl hk ?_
      refine wi_ret rfl ?_
      exact am_mem hQ (upT_eq (by simp [u2_rd, seepF, seep1, g1, g3]) (by simp [u2_rd, seepF, seep1, g1, g3]) (by simp [u2_rd, seepF, seep1, g1, g3]) (by simp [u2_rd, seepF, seep1, g1, g3]) (by simp [u2_rd, seepF, seep1, g1, g3]) (by simp [u2_rd, seepF, seep1, g1, g3]) (fun k e0 e1 e2 e3 e4 e5 => by simp [u2_rd, e0, e1, e2, e3, e4, e5]) (fun q9 hq => by simp [u2_ne hq]))
theorem c_dry {u : Int32} (hk : am_kd (sh, mr, mi, ml) a = 8) (hQ : Q none (sh, mr, upT mi a (cutF ((mi a 0) - u - (mi a 3) / 12) 100) (cutF ((mi a 1) - (mi a 3) / 20) 100) (mi a 2) (mi a 3) (mi a 4) (mi a 5), ml)) : am_wp X (d + 1) 97 0 [.ref a, .int u] [] (sh, mr, mi, ml) Q := by
  refine wi_aload_n rfl rfl ?_
  refine wi_aload_n rfl rfl ?_
  refine wi_getI rfl hk ?_
  refine wi_iload_n rfl rfl ?_
  refine wi_isub rfl ?_
  refine wi_aload_n rfl rfl ?_
  refine wi_getI rfl hk ?_
  refine wi_bipush (x := 12) rfl rfl ?_
  refine wi_idiv rfl (by decide) ?_
  refine wi_isub rfl ?_
  refine wi_bipush (x := 100) rfl rfl ?_
  refine wi_callS2 rfl (by decide) (by decide) rfl rfl rfl (c_cut ?_)
  refine wi_putI rfl hk ?_
  refine wi_aload_n rfl rfl ?_
  refine wi_aload_n rfl rfl ?_
  refine wi_getI rfl hk ?_
  refine wi_aload_n rfl rfl ?_
  refine wi_getI rfl hk ?_
  refine wi_bipush (x := 20) rfl rfl ?_
  refine wi_idiv rfl (by decide) ?_
  refine wi_isub rfl ?_
  refine wi_bipush (x := 100) rfl rfl ?_
  refine wi_callS2 rfl (by decide) (by decide) rfl rfl rfl (c_cut ?_)
  refine wi_putI rfl hk ?_
  refine wi_ret rfl ?_
  exact am_mem hQ (upT_eq (by simp [u2_rd]) (by simp [u2_rd]) (by simp [u2_rd]) (by simp [u2_rd]) (by simp [u2_rd]) (by simp [u2_rd]) (fun k e0 e1 e2 e3 e4 e5 => by simp [u2_rd, e0, e1, e2, e3, e4, e5]) (fun q9 hq => by simp [u2_ne hq]))
def hardF (f s h rol : Int32) : Int32 :=
  let h1 := if rol = 0 then h else if wnF f 25 60 = 0 then (if f ≤ 60 then h else cutF (h - 6) 100) else if 70 < s then (if f ≤ 60 then h else cutF (h - 6) 100) else cutF (h + 1 + (100 - h) / 8) 100
  if f ≤ 70 then h1 else cutF (h1 - 1) 100
def growF (s g w : Int32) : Int32 := if w ≤ 50 then (if wnF s 20 80 = 0 then (if wnF s 10 90 = 0 then cutF (g - 1) 60 else cutF (g + 1) 60) else cutF (g + 2) 60) else g
theorem c_harden {t : Int32} (hk : am_kd (sh, mr, mi, ml) a = 8) (hQ : Q none (sh, mr, upT mi a (mi a 0) (mi a 1) (mi a 2) (mi a 3) (hardF (mi a 0) (mi a 1) (mi a 4) t) (mi a 5), ml)) : am_wp X (d + 1) 98 0 [.ref a, .int t] [] (sh, mr, mi, ml) Q := by
  refine wi_iload_n rfl rfl ?_
  refine wi_if_eq rfl (fun g1 => ?_) (fun g1 => ?_)
  · try simp [u2_rd, -Int32.not_le, -Int32.not_lt] at g1
    refine wi_aload_n rfl rfl ?_
    refine wi_getI rfl hk ?_
    refine wi_bipush (x := 70) rfl rfl ?_
    refine wi_icmp_le rfl (fun g2 => ?_) (fun g2 => ?_)
    · try simp [u2_rd, -Int32.not_le, -Int32.not_lt] at g2
      refine wi_ret rfl ?_
      exact am_mem hQ (upT_eq (by simp [u2_rd, hardF, g1, g2]) (by simp [u2_rd, hardF, g1, g2]) (by simp [u2_rd, hardF, g1, g2]) (by simp [u2_rd, hardF, g1, g2]) (by simp [u2_rd, hardF, g1, g2]) (by simp [u2_rd, hardF, g1, g2]) (fun k e0 e1 e2 e3 e4 e5 => by simp [u2_rd, e0, e1, e2, e3, e4, e5]) (fun q9 hq => by simp [u2_ne hq]))
    · try simp [u2_rd, -Int32.not_le, -Int32.not_lt] at g2
      refine wi_aload_n rfl rfl ?_
      refine wi_aload_n rfl rfl ?_
      refine wi_getI rfl hk ?_
      refine wi_iconst (x := 1) rfl rfl ?_
      refine wi_isub rfl ?_
      refine wi_bipush (x := 100) rfl rfl ?_
      refine wi_callS2 rfl (by decide) (by decide) rfl rfl rfl (c_cut ?_)
      refine wi_putI rfl hk ?_
      refine wi_ret rfl ?_
      exact am_mem hQ (upT_eq (by simp [u2_rd, hardF, g1, g2]) (by simp [u2_rd, hardF, g1, g2]) (by simp [u2_rd, hardF, g1, g2]) (by simp [u2_rd, hardF, g1, g2]) (by simp [u2_rd, hardF, g1, g2]) (by simp [u2_rd, hardF, g1, g2]) (fun k e0 e1 e2 e3 e4 e5 => by simp [u2_rd, e0, e1, e2, e3, e4, e5]) (fun q9 hq => by simp [u2_ne hq]))
  · try simp [u2_rd, -Int32.not_le, -Int32.not_lt] at g1
    refine wi_aload_n rfl rfl ?_
    refine wi_getI rfl hk ?_
    refine wi_bipush (x := 25) rfl rfl ?_
    refine wi_bipush (x := 60) rfl rfl ?_
    refine wi_callS3 rfl (by decide) (by decide) rfl rfl rfl (c_within ?_)
    refine wi_if_eq rfl (fun g3 => ?_) (fun g3 => ?_)
    · try simp [u2_rd, -Int32.not_le, -Int32.not_lt] at g3
      refine wi_aload_n rfl rfl ?_
      refine wi_getI rfl hk ?_
      refine wi_bipush (x := 60) rfl rfl ?_
      refine wi_icmp_le rfl (fun g4 => ?_) (fun g4 => ?_)
      · try simp [u2_rd, -Int32.not_le, -Int32.not_lt] at g4
        refine wi_aload_n rfl rfl ?_
        refine wi_getI rfl hk ?_
        refine wi_bipush (x := 70) rfl rfl ?_
        refine wi_icmp_le rfl (fun g5 => ?_) (fun g5 => ?_)
        · try simp [u2_rd, -Int32.not_le, -Int32.not_lt] at g5
          refine wi_ret rfl ?_
          exact am_mem hQ (upT_eq (by simp [u2_rd, hardF, g1, g3, g4, g5]) (by simp [u2_rd, hardF, g1, g3, g4, g5]) (by simp [u2_rd, hardF, g1, g3, g4, g5]) (by simp [u2_rd, hardF, g1, g3, g4, g5]) (by simp [u2_rd, hardF, g1, g3, g4, g5]) (by simp [u2_rd, hardF, g1, g3, g4, g5]) (fun k e0 e1 e2 e3 e4 e5 => by simp [u2_rd, e0, e1, e2, e3, e4, e5]) (fun q9 hq => by simp [u2_ne hq]))
        · try simp [u2_rd, -Int32.not_le, -Int32.not_lt] at g5
          refine wi_aload_n rfl rfl ?_
          refine wi_aload_n rfl rfl ?_
          refine wi_getI rfl hk ?_
          refine wi_iconst (x := 1) rfl rfl ?_
          refine wi_isub rfl ?_
          refine wi_bipush (x := 100) rfl rfl ?_
          refine wi_callS2 rfl (by decide) (by decide) rfl rfl rfl (c_cut ?_)
          refine wi_putI rfl hk ?_
          refine wi_ret rfl ?_
          exact am_mem hQ (upT_eq (by simp [u2_rd, hardF, g1, g3, g4, g5]) (by simp [u2_rd, hardF, g1, g3, g4, g5]) (by simp [u2_rd, hardF, g1, g3, g4, g5]) (by simp [u2_rd, hardF, g1, g3, g4, g5]) (by simp [u2_rd, hardF, g1, g3, g4, g5]) (by simp [u2_rd, hardF, g1, g3, g4, g5]) (fun k e0 e1 e2 e3 e4 e5 => by simp [u2_rd, e0, e1, e2, e3, e4, e5]) (fun q9 hq => by simp [u2_ne hq]))
      · try simp [u2_rd, -Int32.not_le, -Int32.not_lt] at g4
        refine wi_aload_n rfl rfl ?_
        refine wi_aload_n rfl rfl ?_
        refine wi_getI rfl hk ?_
        refine wi_bipush (x := 6) rfl rfl ?_
        refine wi_isub rfl ?_
        refine wi_bipush (x := 100) rfl rfl ?_
        refine wi_callS2 rfl (by decide) (by decide) rfl rfl rfl (c_cut ?_)
        refine wi_putI rfl hk ?_
        refine wi_aload_n rfl rfl ?_
        refine wi_getI rfl hk ?_
        refine wi_bipush (x := 70) rfl rfl ?_
        refine wi_icmp_le rfl (fun g6 => ?_) (fun g6 => ?_)
        · try simp [u2_rd, -Int32.not_le, -Int32.not_lt] at g6
          refine wi_ret rfl ?_
          exact am_mem hQ (upT_eq (by simp [u2_rd, hardF, g1, g3, g4, g6]) (by simp [u2_rd, hardF, g1, g3, g4, g6]) (by simp [u2_rd, hardF, g1, g3, g4, g6]) (by simp [u2_rd, hardF, g1, g3, g4, g6]) (by simp [u2_rd, hardF, g1, g3, g4, g6]) (by simp [u2_rd, hardF, g1, g3, g4, g6]) (fun k e0 e1 e2 e3 e4 e5 => by simp [u2_rd, e0, e1, e2, e3, e4, e5]) (fun q9 hq => by simp [u2_ne hq]))
        · try simp [u2_rd, -Int32.not_le, -Int32.not_lt] at g6
          refine wi_aload_n rfl rfl ?_
          refine wi_aload_n rfl rfl ?_
          refine wi_getI rfl hk ?_
          refine wi_iconst (x := 1) rfl rfl ?_
          refine wi_isub rfl ?_
          refine wi_bipush (x := 100) rfl rfl ?_
          refine wi_callS2 rfl (by decide) (by decide) rfl rfl rfl (c_cut ?_)
          refine wi_putI rfl hk ?_
          refine wi_ret rfl ?_
          exact am_mem hQ (upT_eq (by simp [u2_rd, hardF, g1, g3, g4, g6]) (by simp [u2_rd, hardF, g1, g3, g4, g6]) (by simp [u2_rd, hardF, g1, g3, g4, g6]) (by simp [u2_rd, hardF, g1, g3, g4, g6]) (by simp [u2_rd, hardF, g1, g3, g4, g6]) (by simp [u2_rd, hardF, g1, g3, g4, g6]) (fun k e0 e1 e2 e3 e4 e5 => by simp [u2_rd, e0, e1, e2, e3, e4, e5]) (fun q9 hq => by simp [u2_ne hq]))
    · try simp [u2_rd, -Int32.not_le, -Int32.not_lt] at g3
      refine wi_aload_n rfl rfl ?_
      refine wi_getI rfl hk ?_
      refine wi_bipush (x := 70) rfl rfl ?_
      refine wi_icmp_gt rfl (fun g7 => ?_) (fun g7 => ?_)
      · try simp [u2_rd, -Int32.not_le, -Int32.not_lt] at g7
        refine wi_aload_n rfl rfl ?_
        refine wi_getI rfl hk ?_
        refine wi_bipush (x := 60) rfl rfl ?_
        refine wi_icmp_le rfl (fun g8 => ?_) (fun g8 => ?_)
        · try simp [u2_rd, -Int32.not_le, -Int32.not_lt] at g8
          refine wi_aload_n rfl rfl ?_
          refine wi_getI rfl hk ?_
          refine wi_bipush (x := 70) rfl rfl ?_
          refine wi_icmp_le rfl (fun g9 => ?_) (fun g9 => ?_)
          · try simp [u2_rd, -Int32.not_le, -Int32.not_lt] at g9
            refine wi_ret rfl ?_
            exact am_mem hQ (upT_eq (by simp [u2_rd, hardF, g1, g3, g7, g8, g9]) (by simp [u2_rd, hardF, g1, g3, g7, g8, g9]) (by simp [u2_rd, hardF, g1, g3, g7, g8, g9]) (by simp [u2_rd, hardF, g1, g3, g7, g8, g9]) (by simp [u2_rd, hardF, g1, g3, g7, g8, g9]) (by simp [u2_rd, hardF, g1, g3, g7, g8, g9]) (fun k e0 e1 e2 e3 e4 e5 => by simp [u2_rd, e0, e1, e2, e3, e4, e5]) (fun q9 hq => by simp [u2_ne hq]))
          · try simp [u2_rd, -Int32.not_le, -Int32.not_lt] at g9
            refine wi_aload_n rfl rfl ?_
            refine wi_aload_n rfl rfl ?_
            refine wi_getI rfl hk ?_
            refine wi_iconst (x := 1) rfl rfl ?_
            refine wi_isub rfl ?_
            refine wi_bipush (x := 100) rfl rfl ?_
            refine wi_callS2 rfl (by decide) (by decide) rfl rfl rfl (c_cut ?_)
            refine wi_putI rfl hk ?_
            refine wi_ret rfl ?_
            exact am_mem hQ (upT_eq (by simp [u2_rd, hardF, g1, g3, g7, g8, g9]) (by simp [u2_rd, hardF, g1, g3, g7, g8, g9]) (by simp [u2_rd, hardF, g1, g3, g7, g8, g9]) (by simp [u2_rd, hardF, g1, g3, g7, g8, g9]) (by simp [u2_rd, hardF, g1, g3, g7, g8, g9]) (by simp [u2_rd, hardF, g1, g3, g7, g8, g9]) (fun k e0 e1 e2 e3 e4 e5 => by simp [u2_rd, e0, e1, e2, e3, e4, e5]) (fun q9 hq => by simp [u2_ne hq]))
        · try simp [u2_rd, -Int32.not_le, -Int32.not_lt] at g8
          refine wi_aload_n rfl rfl ?_
          refine wi_aload_n rfl rfl ?_
          refine wi_getI rfl hk ?_
          refine wi_bipush (x := 6) rfl rfl ?_
          refine wi_isub rfl ?_
          refine wi_bipush (x := 100) rfl rfl ?_
          refine wi_callS2 rfl (by decide) (by decide) rfl rfl rfl (c_cut ?_)
          refine wi_putI rfl hk ?_
          refine wi_aload_n rfl rfl ?_
          refine wi_getI rfl hk ?_
          refine wi_bipush (x := 70) rfl rfl ?_
          refine wi_icmp_le rfl (fun g10 => ?_) (fun g10 => ?_)
          · try simp [u2_rd, -Int32.not_le, -Int32.not_lt] at g10
            refine wi_ret rfl ?_
            exact am_mem hQ (upT_eq (by simp [u2_rd, hardF, g1, g3, g7, g8, g10]) (by simp [u2_rd, hardF, g1, g3, g7, g8, g10]) (by simp [u2_rd, hardF, g1, g3, g7, g8, g10]) (by simp [u2_rd, hardF, g1, g3, g7, g8, g10]) (by simp [u2_rd, hardF, g1, g3, g7, g8, g10]) (by simp [u2_rd, hardF, g1, g3, g7, g8, g10]) (fun k e0 e1 e2 e3 e4 e5 => by simp [u2_rd, e0, e1, e2, e3, e4, e5]) (fun q9 hq => by simp [u2_ne hq]))
          · try simp [u2_rd, -Int32.not_le, -Int32.not_lt] at g10
            refine wi_aload_n rfl rfl ?_
            refine wi_aload_n rfl rfl ?_
            refine wi_getI rfl hk ?_
            refine wi_iconst (x := 1) rfl rfl ?_
            refine wi_isub rfl ?_
            refine wi_bipush (x := 100) rfl rfl ?_
            refine wi_callS2 rfl (by decide) (by decide) rfl rfl rfl (c_cut ?_)
            refine wi_putI rfl hk ?_
            refine wi_ret rfl ?_
            exact am_mem hQ (upT_eq (by simp [u2_rd, hardF, g1, g3, g7, g8, g10]) (by simp [u2_rd, hardF, g1, g3, g7, g8, g10]) (by simp [u2_rd, hardF, g1, g3, g7, g8, g10]) (by simp [u2_rd, hardF, g1, g3, g7, g8, g10]) (by simp [u2_rd, hardF, g1, g3, g7, g8, g10]) (by simp [u2_rd, hardF, g1, g3, g7, g8, g10]) (fun k e0 e1 e2 e3 e4 e5 => by simp [u2_rd, e0, e1, e2, e3, e4, e5]) (fun q9 hq => by simp [u2_ne hq]))
      · try simp [u2_rd, -Int32.not_le, -Int32.not_lt] at g7
        refine wi_aload_n rfl rfl ?_
        refine wi_aload_n rfl rfl ?_
        refine wi_getI rfl hk ?_
        refine wi_iconst (x := 1) rfl rfl ?_
        refine wi_iadd rfl ?_
        refine wi_bipush (x := 100) rfl rfl ?_
        refine wi_aload_n rfl rfl ?_
        refine wi_getI rfl hk ?_
        refine wi_isub rfl ?_
        refine wi_bipush (x := 8) rfl rfl ?_
        refine wi_idiv rfl (by decide) ?_
        refine wi_iadd rfl ?_
        refine wi_bipush (x := 100) rfl rfl ?_
        refine wi_callS2 rfl (by decide) (by decide) rfl rfl rfl (c_cut ?_)
        refine wi_putI rfl hk ?_
        refine wi_goto rfl ?_
        refine wi_aload_n rfl rfl ?_
        refine wi_getI rfl hk ?_
        refine wi_bipush (x := 70) rfl rfl ?_
        refine wi_icmp_le rfl (fun g11 => ?_) (fun g11 => ?_)
        · try simp [u2_rd, -Int32.not_le, -Int32.not_lt] at g11
          refine wi_ret rfl ?_
          exact am_mem hQ (upT_eq (by simp [u2_rd, hardF, g1, g3, g7, g11]) (by simp [u2_rd, hardF, g1, g3, g7, g11]) (by simp [u2_rd, hardF, g1, g3, g7, g11]) (by simp [u2_rd, hardF, g1, g3, g7, g11]) (by simp [u2_rd, hardF, g1, g3, g7, g11]) (by simp [u2_rd, hardF, g1, g3, g7, g11]) (fun k e0 e1 e2 e3 e4 e5 => by simp [u2_rd, e0, e1, e2, e3, e4, e5]) (fun q9 hq => by simp [u2_ne hq]))
        · try simp [u2_rd, -Int32.not_le, -Int32.not_lt] at g11
          refine wi_aload_n rfl rfl ?_
          refine wi_aload_n rfl rfl ?_
          refine wi_getI rfl hk ?_
          refine wi_iconst (x := 1) rfl rfl ?_
          refine wi_isub rfl ?_
          refine wi_bipush (x := 100) rfl rfl ?_
          refine wi_callS2 rfl (by decide) (by decide) rfl rfl rfl (c_cut ?_)
          refine wi_putI rfl hk ?_
          refine wi_ret rfl ?_
          exact am_mem hQ (upT_eq (by simp [u2_rd, hardF, g1, g3, g7, g11]) (by simp [u2_rd, hardF, g1, g3, g7, g11]) (by simp [u2_rd, hardF, g1, g3, g7, g11]) (by simp [u2_rd, hardF, g1, g3, g7, g11]) (by simp [u2_rd, hardF, g1, g3, g7, g11]) (by simp [u2_rd, hardF, g1, g3, g7, g11]) (fun k e0 e1 e2 e3 e4 e5 => by simp [u2_rd, e0, e1, e2, e3, e4, e5]) (fun q9 hq => by simp [u2_ne hq]))
theorem c_grow (hk : am_kd (sh, mr, mi, ml) a = 8) (hQ : Q none (sh, mr, upT mi a (mi a 0) (mi a 1) (mi a 2) (growF (mi a 1) (mi a 3) (mi a 5)) (mi a 4) (mi a 5), ml)) : am_wp X (d + 1) 99 0 [.ref a] [] (sh, mr, mi, ml) Q := by
  refine wi_aload_n rfl rfl ?_
  refine wi_getI rfl hk ?_
  refine wi_bipush (x := 50) rfl rfl ?_
  refine wi_icmp_le rfl (fun g1 => ?_) (fun g1 => ?_)
  · try simp [u2_rd, -Int32.not_le, -Int32.not_lt] at g1
    refine wi_aload_n rfl rfl ?_
    refine wi_getI rfl hk ?_
    refine wi_bipush (x := 20) rfl rfl ?_
    refine wi_bipush (x := 80) rfl rfl ?_
    refine wi_callS3 rfl (by decide) (by decide) rfl rfl rfl (c_within ?_)
    refine wi_if_eq rfl (fun g2 => ?_) (fun g2 => ?_)
    · try simp [u2_rd, -Int32.not_le, -Int32.not_lt] at g2
      refine wi_aload_n rfl rfl ?_
      refine wi_getI rfl hk ?_
      refine wi_bipush (x := 10) rfl rfl ?_
      refine wi_bipush (x := 90) rfl rfl ?_
      refine wi_callS3 rfl (by decide) (by decide) rfl rfl rfl (c_within ?_)
      refine wi_if_eq rfl (fun g3 => ?_) (fun g3 => ?_)
      · try simp [u2_rd, -Int32.not_le, -Int32.not_lt] at g3
        refine wi_aload_n rfl rfl ?_
        refine wi_aload_n rfl rfl ?_
        refine wi_getI rfl hk ?_
        refine wi_iconst (x := 1) rfl rfl ?_
        refine wi_isub rfl ?_
        refine wi_bipush (x := 60) rfl rfl ?_
        refine wi_callS2 rfl (by decide) (by decide) rfl rfl rfl (c_cut ?_)
        refine wi_putI rfl hk ?_
        refine wi_ret rfl ?_
        exact am_mem hQ (upT_eq (by simp [u2_rd, growF, g1, g2, g3]) (by simp [u2_rd, growF, g1, g2, g3]) (by simp [u2_rd, growF, g1, g2, g3]) (by simp [u2_rd, growF, g1, g2, g3]) (by simp [u2_rd, growF, g1, g2, g3]) (by simp [u2_rd, growF, g1, g2, g3]) (fun k e0 e1 e2 e3 e4 e5 => by simp [u2_rd, e0, e1, e2, e3, e4, e5]) (fun q9 hq => by simp [u2_ne hq]))
      · try simp [u2_rd, -Int32.not_le, -Int32.not_lt] at g3
        refine wi_aload_n rfl rfl ?_
        refine wi_aload_n rfl rfl ?_
        refine wi_getI rfl hk ?_
        refine wi_iconst (x := 1) rfl rfl ?_
        refine wi_iadd rfl ?_
        refine wi_bipush (x := 60) rfl rfl ?_
        refine wi_callS2 rfl (by decide) (by decide) rfl rfl rfl (c_cut ?_)
        refine wi_putI rfl hk ?_
        refine wi_goto rfl ?_
        refine wi_ret rfl ?_
        exact am_mem hQ (upT_eq (by simp [u2_rd, growF, g1, g2, g3]) (by simp [u2_rd, growF, g1, g2, g3]) (by simp [u2_rd, growF, g1, g2, g3]) (by simp [u2_rd, growF, g1, g2, g3]) (by simp [u2_rd, growF, g1, g2, g3]) (by simp [u2_rd, growF, g1, g2, g3]) (fun k e0 e1 e2 e3 e4 e5 => by simp [u2_rd, e0, e1, e2, e3, e4, e5]) (fun q9 hq => by simp [u2_ne hq]))
    · try simp [u2_rd, -Int32.not_le, -Int32.not_lt] at g2
      refine wi_aload_n rfl rfl ?_
      refine wi_aload_n rfl rfl ?_
      refine wi_getI rfl hk ?_
      refine wi_iconst (x := 2) rfl rfl ?_
      refine wi_iadd rfl ?_
      refine wi_bipush (x := 60) rfl rfl ?_
      refine wi_callS2 rfl (by decide) (by decide) rfl rfl rfl (c_cut ?_)
      refine wi_putI rfl hk ?_
      refine wi_goto rfl ?_
      refine wi_ret rfl ?_
      exact am_mem hQ (upT_eq (by simp [u2_rd, growF, g1, g2]) (by simp [u2_rd, growF, g1, g2]) (by simp [u2_rd, growF, g1, g2]) (by simp [u2_rd, growF, g1, g2]) (by simp [u2_rd, growF, g1, g2]) (by simp [u2_rd, growF, g1, g2]) (fun k e0 e1 e2 e3 e4 e5 => by simp [u2_rd, e0, e1, e2, e3, e4, e5]) (fun q9 hq => by simp [u2_ne hq]))
  · try simp [u2_rd, -Int32.not_le, -Int32.not_lt] at g1
    refine wi_ret rfl ?_
    exact am_mem hQ (upT_eq (by simp [u2_rd, growF, g1]) (by simp [u2_rd, growF, g1]) (by simp [u2_rd, growF, g1]) (by simp [u2_rd, growF, g1]) (by simp [u2_rd, growF, g1]) (by simp [u2_rd, growF, g1]) (fun k e0 e1 e2 e3 e4 e5 => by simp [u2_rd, e0, e1, e2, e3, e4, e5]) (fun q9 hq => by simp [u2_ne hq]))
def dayF (f s t g h w rain sun wk bl : Int32) : Int32 × Int32 × Int32 × Int32 × Int32 × Int32 :=
  let cov : Int32 := if wk &&& 1 = 0 then 0 else 1
  let f1 := soakF f (if cov = 0 then rain else 0) (if wk &&& 8 = 0 then 0 else 1)
  let p := seepF f1 s t
  let sun1 := if cov = 0 then sun else sun / 2
  let f2 := cutF (p.1 - sun1 - g / 12) 100
  let s2 := cutF (p.2.1 - g / 20) 100
  let h1 := hardF f2 s2 h (if wk &&& 2 = 0 then 0 else 1)
  let g1 := growF s2 g w
  let g2 := if wk &&& 4 = 0 then g1 else if 6 < g1 then 6 else g1
  let w1 := if wk &&& 16 = 0 then w else if bl = 0 then cutF (w - 3) 100 else w
  (f2, s2, p.2.2, g2, cutF (h1 - bl / 200) 100, cutF (w1 + bl / 40) 100)
set_option maxHeartbeats 4000000 in
theorem c_passDay {r u wk bl : Int32} (hk : am_kd (sh, mr, mi, ml) a = 8) (hQ : Q none (sh, mr, upT mi a (dayF (mi a 0) (mi a 1) (mi a 2) (mi a 3) (mi a 4) (mi a 5) r u wk bl).1 (dayF (mi a 0) (mi a 1) (mi a 2) (mi a 3) (mi a 4) (mi a 5) r u wk bl).2.1 (dayF (mi a 0) (mi a 1) (mi a 2) (mi a 3) (mi a 4) (mi a 5) r u wk bl).2.2.1 (dayF (mi a 0) (mi a 1) (mi a 2) (mi a 3) (mi a 4) (mi a 5) r u wk bl).2.2.2.1 (dayF (mi a 0) (mi a 1) (mi a 2) (mi a 3) (mi a 4) (mi a 5) r u wk bl).2.2.2.2.1 (dayF (mi a 0) (mi a 1) (mi a 2) (mi a 3) (mi a 4) (mi a 5) r u wk bl).2.2.2.2.2, ml)) : am_wp X (d + 2) 94 0 [.ref a, .int r, .int u, .int wk, .int bl, .retAddr 0] [] (sh, mr, mi, ml) Q := by
  refine wi_iload_n rfl rfl ?_
  refine wi_iconst (x := 1) rfl rfl ?_
  refine wi_iand rfl ?_
  apply wi_if_eq_dia (jj := 7) rfl
  · intro k1
    refine wi_iconst (x := 0) rfl rfl ?_
    exact k1
  · intro k1
    refine wi_iconst (x := 1) rfl rfl ?_
    refine wi_goto rfl ?_
    exact k1
  refine wi_istore rfl (Nat.le_of_ble_eq_true rfl) rfl rfl ?_
  refine wi_aload_n rfl rfl ?_
  refine wi_iload rfl rfl ?_
  apply wi_if_eq_dia (jj := 14) rfl
  · intro k2
    refine wi_iload_n rfl rfl ?_
    exact k2
  · intro k2
    refine wi_iconst (x := 0) rfl rfl ?_
    refine wi_goto rfl ?_
    exact k2
  refine wi_iload_n rfl rfl ?_
  refine wi_bipush (x := 8) rfl rfl ?_
  refine wi_iand rfl ?_
  apply wi_if_eq_dia (jj := 21) rfl
  · intro k3
    refine wi_iconst (x := 0) rfl rfl ?_
    exact k3
  · intro k3
    refine wi_iconst (x := 1) rfl rfl ?_
    refine wi_goto rfl ?_
    exact k3
  refine wi_callV2 rfl (by decide) (by decide) rfl hk rfl rfl rfl (c_soak hk ?_)
  refine wi_aload_n rfl rfl ?_
  refine wi_callV0 rfl (by decide) (by decide) rfl hk rfl rfl rfl (c_seep hk ?_)
  refine wi_aload_n rfl rfl ?_
  refine wi_iload rfl rfl ?_
  apply wi_if_eq_dia (jj := 32) rfl
  · intro k4
    refine wi_iload_n rfl rfl ?_
    exact k4
  · intro k4
    refine wi_iload_n rfl rfl ?_
    refine wi_iconst (x := 2) rfl rfl ?_
    refine wi_idiv rfl (by decide) ?_
    refine wi_goto rfl ?_
    exact k4
  refine wi_callV1 rfl (by decide) (by decide) rfl hk rfl rfl rfl (c_dry hk ?_)
  refine wi_aload_n rfl rfl ?_
  refine wi_iload_n rfl rfl ?_
  refine wi_iconst (x := 2) rfl rfl ?_
  refine wi_iand rfl ?_
  apply wi_if_eq_dia (jj := 41) rfl
  · intro k5
    refine wi_iconst (x := 0) rfl rfl ?_
    exact k5
  · intro k5
    refine wi_iconst (x := 1) rfl rfl ?_
    refine wi_goto rfl ?_
    exact k5
  refine wi_callV1 rfl (by decide) (by decide) rfl hk rfl rfl rfl (c_harden hk ?_)
  refine wi_aload_n rfl rfl ?_
  refine wi_callV0 rfl (by decide) (by decide) rfl hk rfl rfl rfl (c_grow hk ?_)
  refine wi_iload_n rfl rfl ?_
  refine wi_iconst (x := 4) rfl rfl ?_
  refine wi_iand rfl ?_
  refine wi_if_eq rfl (fun g1 => ?_) (fun g1 => ?_)
  · refine wi_iload_n rfl rfl ?_
    refine wi_bipush (x := 16) rfl rfl ?_
    refine wi_iand rfl ?_
    refine wi_if_eq rfl (fun g2 => ?_) (fun g2 => ?_)
    · refine wi_aload_n rfl rfl ?_
      refine wi_aload_n rfl rfl ?_
      refine wi_getI rfl hk ?_
      refine wi_iload rfl rfl ?_
      refine wi_bipush (x := 40) rfl rfl ?_
      refine wi_idiv rfl (by decide) ?_
      refine wi_iadd rfl ?_
      refine wi_bipush (x := 100) rfl rfl ?_
      refine wi_callS2 rfl (by decide) (by decide) rfl rfl rfl (c_cut ?_)
      refine wi_putI rfl hk ?_
      refine wi_aload_n rfl rfl ?_
      refine wi_aload_n rfl rfl ?_
      refine wi_getI rfl hk ?_
      refine wi_iload rfl rfl ?_
      refine wi_sipush (x := 200) rfl rfl ?_
      refine wi_idiv rfl (by decide) ?_
      refine wi_isub rfl ?_
      refine wi_bipush (x := 100) rfl rfl ?_
      refine wi_callS2 rfl (by decide) (by decide) rfl rfl rfl (c_cut ?_)
      refine wi_putI rfl hk ?_
      refine wi_ret rfl ?_
      exact am_mem hQ (upT_eq (by simp [u2_rd, upT_rd, dayF, g1, g2]) (by simp [u2_rd, upT_rd, dayF, g1, g2]) (by simp [u2_rd, upT_rd, dayF, g1, g2]) (by simp [u2_rd, upT_rd, dayF, g1, g2]) (by simp [u2_rd, upT_rd, dayF, g1, g2]) (by simp [u2_rd, upT_rd, dayF, g1, g2]) (fun k e0 e1 e2 e3 e4 e5 => by simp [u2_rd, upT_rd, e0, e1, e2, e3, e4, e5]) (fun q9 hq => by simp [u2_ne hq, upT_ne hq]))
    · refine wi_iload rfl rfl ?_
      refine wi_if_ne rfl (fun g3 => ?_) (fun g3 => ?_)
      · refine wi_aload_n rfl rfl ?_
        refine wi_aload_n rfl rfl ?_
        refine wi_getI rfl hk ?_
        refine wi_iload rfl rfl ?_
        refine wi_bipush (x := 40) rfl rfl ?_
        refine wi_idiv rfl (by decide) ?_
        refine wi_iadd rfl ?_
        refine wi_bipush (x := 100) rfl rfl ?_
        refine wi_callS2 rfl (by decide) (by decide) rfl rfl rfl (c_cut ?_)
        refine wi_putI rfl hk ?_
        refine wi_aload_n rfl rfl ?_
        refine wi_aload_n rfl rfl ?_
        refine wi_getI rfl hk ?_
        refine wi_iload rfl rfl ?_
        refine wi_sipush (x := 200) rfl rfl ?_
        refine wi_idiv rfl (by decide) ?_
        refine wi_isub rfl ?_
        refine wi_bipush (x := 100) rfl rfl ?_
        refine wi_callS2 rfl (by decide) (by decide) rfl rfl rfl (c_cut ?_)
        refine wi_putI rfl hk ?_
        refine wi_ret rfl ?_
        exact am_mem hQ (upT_eq (by simp [u2_rd, upT_rd, dayF, g1, g2, g3]) (by simp [u2_rd, upT_rd, dayF, g1, g2, g3]) (by simp [u2_rd, upT_rd, dayF, g1, g2, g3]) (by simp [u2_rd, upT_rd, dayF, g1, g2, g3]) (by simp [u2_rd, upT_rd, dayF, g1, g2, g3]) (by simp [u2_rd, upT_rd, dayF, g1, g2, g3]) (fun k e0 e1 e2 e3 e4 e5 => by simp [u2_rd, upT_rd, e0, e1, e2, e3, e4, e5]) (fun q9 hq => by simp [u2_ne hq, upT_ne hq]))
      · replace g3 := Classical.not_not.mp g3
        refine wi_aload_n rfl rfl ?_
        refine wi_aload_n rfl rfl ?_
        refine wi_getI rfl hk ?_
        refine wi_iconst (x := 3) rfl rfl ?_
        refine wi_isub rfl ?_
        refine wi_bipush (x := 100) rfl rfl ?_
        refine wi_callS2 rfl (by decide) (by decide) rfl rfl rfl (c_cut ?_)
        refine wi_putI rfl hk ?_
        refine wi_aload_n rfl rfl ?_
        refine wi_aload_n rfl rfl ?_
        refine wi_getI rfl hk ?_
        refine wi_iload rfl rfl ?_
        refine wi_bipush (x := 40) rfl rfl ?_
        refine wi_idiv rfl (by decide) ?_
        refine wi_iadd rfl ?_
        refine wi_bipush (x := 100) rfl rfl ?_
        refine wi_callS2 rfl (by decide) (by decide) rfl rfl rfl (c_cut ?_)
        refine wi_putI rfl hk ?_
        refine wi_aload_n rfl rfl ?_
        refine wi_aload_n rfl rfl ?_
        refine wi_getI rfl hk ?_
        refine wi_iload rfl rfl ?_
        refine wi_sipush (x := 200) rfl rfl ?_
        refine wi_idiv rfl (by decide) ?_
        refine wi_isub rfl ?_
        refine wi_bipush (x := 100) rfl rfl ?_
        refine wi_callS2 rfl (by decide) (by decide) rfl rfl rfl (c_cut ?_)
        refine wi_putI rfl hk ?_
        refine wi_ret rfl ?_
        exact am_mem hQ (upT_eq (by simp [u2_rd, upT_rd, dayF, g1, g2, g3]) (by simp [u2_rd, upT_rd, dayF, g1, g2, g3]) (by simp [u2_rd, upT_rd, dayF, g1, g2, g3]) (by simp [u2_rd, upT_rd, dayF, g1, g2, g3]) (by simp [u2_rd, upT_rd, dayF, g1, g2, g3]) (by simp [u2_rd, upT_rd, dayF, g1, g2, g3]) (fun k e0 e1 e2 e3 e4 e5 => by simp [u2_rd, upT_rd, e0, e1, e2, e3, e4, e5]) (fun q9 hq => by simp [u2_ne hq, upT_ne hq]))
  · refine wi_aload_n rfl rfl ?_
    refine wi_aload_n rfl rfl ?_
    refine wi_getI rfl hk ?_
    refine wi_bipush (x := 6) rfl rfl ?_
    refine wi_min rfl rfl ?_
    refine wi_putI rfl hk ?_
    refine wi_iload_n rfl rfl ?_
    refine wi_bipush (x := 16) rfl rfl ?_
    refine wi_iand rfl ?_
    refine wi_if_eq rfl (fun g4 => ?_) (fun g4 => ?_)
    · refine wi_aload_n rfl rfl ?_
      refine wi_aload_n rfl rfl ?_
      refine wi_getI rfl hk ?_
      refine wi_iload rfl rfl ?_
      refine wi_bipush (x := 40) rfl rfl ?_
      refine wi_idiv rfl (by decide) ?_
      refine wi_iadd rfl ?_
      refine wi_bipush (x := 100) rfl rfl ?_
      refine wi_callS2 rfl (by decide) (by decide) rfl rfl rfl (c_cut ?_)
      refine wi_putI rfl hk ?_
      refine wi_aload_n rfl rfl ?_
      refine wi_aload_n rfl rfl ?_
      refine wi_getI rfl hk ?_
      refine wi_iload rfl rfl ?_
      refine wi_sipush (x := 200) rfl rfl ?_
      refine wi_idiv rfl (by decide) ?_
      refine wi_isub rfl ?_
      refine wi_bipush (x := 100) rfl rfl ?_
      refine wi_callS2 rfl (by decide) (by decide) rfl rfl rfl (c_cut ?_)
      refine wi_putI rfl hk ?_
      refine wi_ret rfl ?_
      exact am_mem hQ (upT_eq (by simp [u2_rd, upT_rd, dayF, g1, g4]) (by simp [u2_rd, upT_rd, dayF, g1, g4]) (by simp [u2_rd, upT_rd, dayF, g1, g4]) (by simp [u2_rd, upT_rd, dayF, g1, g4]) (by simp [u2_rd, upT_rd, dayF, g1, g4]) (by simp [u2_rd, upT_rd, dayF, g1, g4]) (fun k e0 e1 e2 e3 e4 e5 => by simp [u2_rd, upT_rd, e0, e1, e2, e3, e4, e5]) (fun q9 hq => by simp [u2_ne hq, upT_ne hq]))
    · refine wi_iload rfl rfl ?_
      refine wi_if_ne rfl (fun g5 => ?_) (fun g5 => ?_)
      · refine wi_aload_n rfl rfl ?_
        refine wi_aload_n rfl rfl ?_
        refine wi_getI rfl hk ?_
        refine wi_iload rfl rfl ?_
        refine wi_bipush (x := 40) rfl rfl ?_
        refine wi_idiv rfl (by decide) ?_
        refine wi_iadd rfl ?_
        refine wi_bipush (x := 100) rfl rfl ?_
        refine wi_callS2 rfl (by decide) (by decide) rfl rfl rfl (c_cut ?_)
        refine wi_putI rfl hk ?_
        refine wi_aload_n rfl rfl ?_
        refine wi_aload_n rfl rfl ?_
        refine wi_getI rfl hk ?_
        refine wi_iload rfl rfl ?_
        refine wi_sipush (x := 200) rfl rfl ?_
        refine wi_idiv rfl (by decide) ?_
        refine wi_isub rfl ?_
        refine wi_bipush (x := 100) rfl rfl ?_
        refine wi_callS2 rfl (by decide) (by decide) rfl rfl rfl (c_cut ?_)
        refine wi_putI rfl hk ?_
        refine wi_ret rfl ?_
        exact am_mem hQ (upT_eq (by simp [u2_rd, upT_rd, dayF, g1, g4, g5]) (by simp [u2_rd, upT_rd, dayF, g1, g4, g5]) (by simp [u2_rd, upT_rd, dayF, g1, g4, g5]) (by simp [u2_rd, upT_rd, dayF, g1, g4, g5]) (by simp [u2_rd, upT_rd, dayF, g1, g4, g5]) (by simp [u2_rd, upT_rd, dayF, g1, g4, g5]) (fun k e0 e1 e2 e3 e4 e5 => by simp [u2_rd, upT_rd, e0, e1, e2, e3, e4, e5]) (fun q9 hq => by simp [u2_ne hq, upT_ne hq]))
      · replace g5 := Classical.not_not.mp g5
        refine wi_aload_n rfl rfl ?_
        refine wi_aload_n rfl rfl ?_
        refine wi_getI rfl hk ?_
        refine wi_iconst (x := 3) rfl rfl ?_
        refine wi_isub rfl ?_
        refine wi_bipush (x := 100) rfl rfl ?_
        refine wi_callS2 rfl (by decide) (by decide) rfl rfl rfl (c_cut ?_)
        refine wi_putI rfl hk ?_
        refine wi_aload_n rfl rfl ?_
        refine wi_aload_n rfl rfl ?_
        refine wi_getI rfl hk ?_
        refine wi_iload rfl rfl ?_
        refine wi_bipush (x := 40) rfl rfl ?_
        refine wi_idiv rfl (by decide) ?_
        refine wi_iadd rfl ?_
        refine wi_bipush (x := 100) rfl rfl ?_
        refine wi_callS2 rfl (by decide) (by decide) rfl rfl rfl (c_cut ?_)
        refine wi_putI rfl hk ?_
        refine wi_aload_n rfl rfl ?_
        refine wi_aload_n rfl rfl ?_
        refine wi_getI rfl hk ?_
        refine wi_iload rfl rfl ?_
        refine wi_sipush (x := 200) rfl rfl ?_
        refine wi_idiv rfl (by decide) ?_
        refine wi_isub rfl ?_
        refine wi_bipush (x := 100) rfl rfl ?_
        refine wi_callS2 rfl (by decide) (by decide) rfl rfl rfl (c_cut ?_)
        refine wi_putI rfl hk ?_
        refine wi_ret rfl ?_
        exact am_mem hQ (upT_eq (by simp [u2_rd, upT_rd, dayF, g1, g4, g5]) (by simp [u2_rd, upT_rd, dayF, g1, g4, g5]) (by simp [u2_rd, upT_rd, dayF, g1, g4, g5]) (by simp [u2_rd, upT_rd, dayF, g1, g4, g5]) (by simp [u2_rd, upT_rd, dayF, g1, g4, g5]) (by simp [u2_rd, upT_rd, dayF, g1, g4, g5]) (fun k e0 e1 e2 e3 e4 e5 => by simp [u2_rd, upT_rd, e0, e1, e2, e3, e4, e5]) (fun q9 hq => by simp [u2_ne hq, upT_ne hq]))
theorem c_setLayers {x y z : Int32} (hk : am_kd (sh, mr, mi, ml) a = 8) (hQ : Q none (sh, mr, upT mi a x y z (mi a 3) (mi a 4) (mi a 5), ml)) : am_wp X d 85 0 [.ref a, .int x, .int y, .int z] [] (sh, mr, mi, ml) Q := by
  refine wi_aload_n rfl rfl ?_
  refine wi_iload_n rfl rfl ?_
  refine wi_putI rfl hk ?_
  refine wi_aload_n rfl rfl ?_
  refine wi_iload_n rfl rfl ?_
  refine wi_putI rfl hk ?_
  refine wi_aload_n rfl rfl ?_
  refine wi_iload_n rfl rfl ?_
  refine wi_putI rfl hk ?_
  refine wi_ret rfl ?_
  exact am_mem hQ (upT_eq (by simp [u2_rd]) (by simp [u2_rd]) (by simp [u2_rd]) (by simp [u2_rd]) (by simp [u2_rd]) (by simp [u2_rd]) (fun k e0 e1 e2 e3 e4 e5 => by simp [u2_rd, upT_rd, e0, e1, e2, e3, e4, e5]) (fun q9 hq => by simp [u2_ne hq, upT_ne hq]))
theorem c_setSurface {x y z : Int32} (hk : am_kd (sh, mr, mi, ml) a = 8) (hQ : Q none (sh, mr, upT mi a (mi a 0) (mi a 1) (mi a 2) x y z, ml)) : am_wp X d 86 0 [.ref a, .int x, .int y, .int z] [] (sh, mr, mi, ml) Q := by
  refine wi_aload_n rfl rfl ?_
  refine wi_iload_n rfl rfl ?_
  refine wi_putI rfl hk ?_
  refine wi_aload_n rfl rfl ?_
  refine wi_iload_n rfl rfl ?_
  refine wi_putI rfl hk ?_
  refine wi_aload_n rfl rfl ?_
  refine wi_iload_n rfl rfl ?_
  refine wi_putI rfl hk ?_
  refine wi_ret rfl ?_
  exact am_mem hQ (upT_eq (by simp [u2_rd]) (by simp [u2_rd]) (by simp [u2_rd]) (by simp [u2_rd]) (by simp [u2_rd]) (by simp [u2_rd]) (fun k e0 e1 e2 e3 e4 e5 => by simp [u2_rd, upT_rd, e0, e1, e2, e3, e4, e5]) (fun q9 hq => by simp [u2_ne hq, upT_ne hq]))
theorem c_copyFrom {b : Nat} (hk : am_kd (sh, mr, mi, ml) a = 8) (hb : am_kd (sh, mr, mi, ml) b = 8) (hab : b ≠ a) (hQ : Q none (sh, mr, upT mi a (mi b 0) (mi b 1) (mi b 2) (mi b 3) (mi b 4) (mi b 5), ml)) : am_wp X (d + 1) 87 0 [.ref a, .ref b] [] (sh, mr, mi, ml) Q := by
  refine wi_aload_n rfl rfl ?_
  refine wi_aload_n rfl rfl ?_
  refine wi_getI rfl hb ?_
  refine wi_aload_n rfl rfl ?_
  refine wi_getI rfl hb ?_
  refine wi_aload_n rfl rfl ?_
  refine wi_getI rfl hb ?_
  refine wi_callV3 rfl (by decide) (by decide) rfl hk rfl rfl rfl (c_setLayers hk ?_)
  refine wi_aload_n rfl rfl ?_
  refine wi_aload_n rfl rfl ?_
  refine wi_getI rfl hb ?_
  refine wi_aload_n rfl rfl ?_
  refine wi_getI rfl hb ?_
  refine wi_aload_n rfl rfl ?_
  refine wi_getI rfl hb ?_
  refine wi_callV3 rfl (by decide) (by decide) rfl hk rfl rfl rfl (c_setSurface hk ?_)
  refine wi_ret rfl ?_
  exact am_mem hQ (upT_eq (by simp [u2_rd, upT_rd, upT_ne hab]) (by simp [u2_rd, upT_rd, upT_ne hab]) (by simp [u2_rd, upT_rd, upT_ne hab]) (by simp [u2_rd, upT_rd, upT_ne hab]) (by simp [u2_rd, upT_rd, upT_ne hab]) (by simp [u2_rd, upT_rd, upT_ne hab]) (fun k e0 e1 e2 e3 e4 e5 => by simp [u2_rd, upT_rd, e0, e1, e2, e3, e4, e5]) (fun q9 hq => by simp [u2_ne hq, upT_ne hq]))
theorem c_orderWorks {x : Int32} (hk : am_kd (sh, mr, mi, ml) a = 8) (hQ : Q none (sh, mr, u2 mi a 6 x, ml)) : am_wp X d 88 0 [.ref a, .int x] [] (sh, mr, mi, ml) Q := by
  refine wi_aload_n rfl rfl ?_
  refine wi_iload_n rfl rfl ?_
  refine wi_putI rfl hk ?_
  refine wi_ret rfl ?_
  exact hQ
theorem c_ballsToday (hk : am_kd (sh, mr, mi, ml) a = 8) (hQ : Q (some (.int (mi a 7))) (sh, mr, mi, ml)) : am_wp X d 89 0 [.ref a] [] (sh, mr, mi, ml) Q := by
  refine wi_aload_n rfl rfl ?_
  refine wi_getI rfl hk ?_
  refine wi_iret rfl (Or.inl rfl) ?_
  exact hQ
theorem c_addBalls {x : Int32} (hk : am_kd (sh, mr, mi, ml) a = 8) (hQ : Q none (sh, mr, u2 mi a 7 (mi a 7 + x), ml)) : am_wp X d 90 0 [.ref a, .int x] [] (sh, mr, mi, ml) Q := by
  refine wi_aload_n rfl rfl ?_
  refine wi_dup rfl rfl ?_
  refine wi_getI rfl hk ?_
  refine wi_iload_n rfl rfl ?_
  refine wi_iadd rfl ?_
  refine wi_putI rfl hk ?_
  refine wi_ret rfl ?_
  exact hQ
theorem c_endDay {r u : Int32} (hk : am_kd (sh, mr, mi, ml) a = 8) (hQ : Q none (sh, mr, u2 (u2 (upT mi a (dayF (mi a 0) (mi a 1) (mi a 2) (mi a 3) (mi a 4) (mi a 5) r u (mi a 6) (mi a 7)).1 (dayF (mi a 0) (mi a 1) (mi a 2) (mi a 3) (mi a 4) (mi a 5) r u (mi a 6) (mi a 7)).2.1 (dayF (mi a 0) (mi a 1) (mi a 2) (mi a 3) (mi a 4) (mi a 5) r u (mi a 6) (mi a 7)).2.2.1 (dayF (mi a 0) (mi a 1) (mi a 2) (mi a 3) (mi a 4) (mi a 5) r u (mi a 6) (mi a 7)).2.2.2.1 (dayF (mi a 0) (mi a 1) (mi a 2) (mi a 3) (mi a 4) (mi a 5) r u (mi a 6) (mi a 7)).2.2.2.2.1 (dayF (mi a 0) (mi a 1) (mi a 2) (mi a 3) (mi a 4) (mi a 5) r u (mi a 6) (mi a 7)).2.2.2.2.2) a 6 0) a 7 0, ml)) : am_wp X (d + 3) 91 0 [.ref a, .int r, .int u] [] (sh, mr, mi, ml) Q := by
  refine wi_aload_n rfl rfl ?_
  refine wi_iload_n rfl rfl ?_
  refine wi_iload_n rfl rfl ?_
  refine wi_aload_n rfl rfl ?_
  refine wi_getI rfl hk ?_
  refine wi_aload_n rfl rfl ?_
  refine wi_getI rfl hk ?_
  refine wi_callV4 rfl (by decide) (by decide) rfl hk rfl rfl rfl (c_passDay hk ?_)
  refine wi_aload_n rfl rfl ?_
  refine wi_iconst (x := 0) rfl rfl ?_
  refine wi_putI rfl hk ?_
  refine wi_aload_n rfl rfl ?_
  refine wi_iconst (x := 0) rfl rfl ?_
  refine wi_putI rfl hk ?_
  refine wi_ret rfl ?_
  exact hQ
def valF (r : Nat → Int32) (w : Int32) : Int32 := if w = 0 then r 0 else if w = 1 then r 1 else if w = 2 then r 2 else if w = 3 then r 3 else if w = 4 then r 4 else if w = 5 then r 5 else bncF (r 0) (r 3) (r 4) (r 5)
theorem c_valueOf {w : Int32} (hk : am_kd (sh, mr, mi, ml) a = 8) (hQ : Q (some (.int (valF (mi a) w))) (sh, mr, mi, ml)) : am_wp X (d + 1) 92 0 [.ref a, .int w] [] (sh, mr, mi, ml) Q := by
  refine wi_iload_n rfl rfl ?_
  by_cases e0 : w = 0
  · subst e0
    refine wi_tsw (t := 2) rfl rfl (by decide) rfl ?_
    refine wi_aload_n rfl rfl ?_
    refine wi_getI rfl hk ?_
    refine wi_iret rfl (Or.inl rfl) ?_
    exact hQ
  by_cases e1 : w = 1
  · subst e1
    refine wi_tsw (t := 5) rfl rfl (by decide) rfl ?_
    refine wi_aload_n rfl rfl ?_
    refine wi_getI rfl hk ?_
    refine wi_iret rfl (Or.inl rfl) ?_
    exact hQ
  by_cases e2 : w = 2
  · subst e2
    refine wi_tsw (t := 8) rfl rfl (by decide) rfl ?_
    refine wi_aload_n rfl rfl ?_
    refine wi_getI rfl hk ?_
    refine wi_iret rfl (Or.inl rfl) ?_
    exact hQ
  by_cases e3 : w = 3
  · subst e3
    refine wi_tsw (t := 11) rfl rfl (by decide) rfl ?_
    refine wi_aload_n rfl rfl ?_
    refine wi_getI rfl hk ?_
    refine wi_iret rfl (Or.inl rfl) ?_
    exact hQ
  by_cases e4 : w = 4
  · subst e4
    refine wi_tsw (t := 14) rfl rfl (by decide) rfl ?_
    refine wi_aload_n rfl rfl ?_
    refine wi_getI rfl hk ?_
    refine wi_iret rfl (Or.inl rfl) ?_
    exact hQ
  by_cases e5 : w = 5
  · subst e5
    refine wi_tsw (t := 17) rfl rfl (by decide) rfl ?_
    refine wi_aload_n rfl rfl ?_
    refine wi_getI rfl hk ?_
    refine wi_iret rfl (Or.inl rfl) ?_
    exact hQ
  refine wi_tswD rfl rfl ?_ ?_
  · have e9 : ∀ z : Int32, w ≠ z → w.toInt ≠ z.toInt := fun z h1 h2 => h1 (Int32.toInt_inj.mp h2)
    have := e9 0 e0; have := e9 1 e1; have := e9 2 e2; have := e9 3 e3; have := e9 4 e4; have := e9 5 e5
    have z0 : (0 : Int32).toInt = 0 := rfl
    have z1 : (1 : Int32).toInt = 1 := rfl
    have z2 : (2 : Int32).toInt = 2 := rfl
    have z3 : (3 : Int32).toInt = 3 := rfl
    have z4 : (4 : Int32).toInt = 4 := rfl
    have z5 : (5 : Int32).toInt = 5 := rfl
    omega
  refine wi_aload_n rfl rfl ?_
  refine wi_callV0 rfl (by decide) (by decide) rfl hk rfl rfl rfl (c_bounce hk ?_)
  refine wi_iret rfl (Or.inl rfl) ?_
  simpa [valF, e0, e1, e2, e3, e4, e5] using hQ
end TURF
