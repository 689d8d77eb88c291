/-! ===== longs; common divisors ===== -/
theorem l_toInt {n : Nat} (h : n < 9223372036854775808) : (Int64.ofNat n).toInt = n := Int64.toInt_ofNat_of_lt h
theorem add_l {x y : Int64} {a b : Nat} (hx : x = Int64.ofNat a) (hy : y = Int64.ofNat b) : x + y = Int64.ofNat (a + b) := by
  subst hx; subst hy; exact (Int64.ofNat_add a b).symm
theorem mul_l {x y : Int64} {a b : Nat} (hx : x = Int64.ofNat a) (hy : y = Int64.ofNat b) : x * y = Int64.ofNat (a * b) := by
  subst hx; subst hy; exact (Int64.ofNat_mul a b).symm
theorem sub_l {x y : Int64} {a b : Nat} (hx : x = Int64.ofNat a) (hy : y = Int64.ofNat b) (h : b ≤ a) : x - y = Int64.ofNat (a - b) := by
  subst hx; subst hy
  have e : Int64.ofNat a = Int64.ofNat (a - b) + Int64.ofNat b := by rw [← Int64.ofNat_add]; congr 1; omega
  rw [e, Int64.add_sub_cancel]
theorem nz_l {y : Int64} {b : Nat} (hy : y = Int64.ofNat b) (hb : 0 < b) (hb2 : b < 9223372036854775808) : ¬ y = 0 := by
  intro h
  have h1 : y.toInt = 0 := by rw [h]; rfl
  rw [hy, l_toInt hb2] at h1
  omega
theorem div_l {x y : Int64} {a b : Nat} (hx : x = Int64.ofNat a) (hy : y = Int64.ofNat b) (ha : a < 9223372036854775808) (hb : b < 9223372036854775808) : x / y = Int64.ofNat (a / b) := by
  subst hx; subst hy
  have hb1 : Int64.ofNat b ≠ -1 := by
    intro h
    have h1 : (Int64.ofNat b).toInt = -1 := by rw [h]; rfl
    rw [l_toInt hb] at h1
    omega
  rw [← Int64.toInt_inj, Int64.toInt_div_of_ne_right _ _ hb1, l_toInt ha, l_toInt hb, l_toInt (Nat.lt_of_le_of_lt (Nat.div_le_self a b) ha)]
  exact (Int.ofNat_tdiv a b).symm
theorem mod_l {x y : Int64} {a b : Nat} (hx : x = Int64.ofNat a) (hy : y = Int64.ofNat b) (ha : a < 9223372036854775808) (hb : b < 9223372036854775808) : x - x / y * y = Int64.ofNat (a % b) := by
  rw [sub_l hx (mul_l (div_l hx hy ha hb) hy) (Nat.div_mul_le_self a b)]
  congr 1
  have h := Nat.div_add_mod a b
  rw [Nat.mul_comm] at h
  omega
theorem i2l_n {x : Int32} {a : Nat} (hx : x = Int32.ofNat a) (ha : a < 2147483648) : x.toInt64 = Int64.ofNat a := by
  subst hx
  exact Int32.toInt64_ofNat (by omega)
theorem cmp_val {x y : Int64} {a b : Nat} (hx : x = Int64.ofNat a) (hy : y = Int64.ofNat b) (ha : a < 9223372036854775808) (hb : b < 9223372036854775808) : (lg_cmp x y).toInt = if b < a then 1 else if a = b then 0 else -1 := by
  subst hx; subst hy
  have e1 : (Int64.ofNat a > Int64.ofNat b) ↔ b < a := by
    show Int64.ofNat b < Int64.ofNat a ↔ _
    rw [Int64.lt_iff_toInt_lt, l_toInt ha, l_toInt hb]; omega
  have e2 : (Int64.ofNat a = Int64.ofNat b) ↔ a = b := by
    rw [← Int64.toInt_inj, l_toInt ha, l_toInt hb]; omega
  unfold lg_cmp
  by_cases h1 : b < a
  · rw [if_pos (e1.mpr h1), if_pos h1]; rfl
  · rw [if_neg (fun h => h1 (e1.mp h)), if_neg h1]
    by_cases h2 : a = b
    · rw [if_pos (e2.mpr h2), if_pos h2]; rfl
    · rw [if_neg (fun h => h2 (e2.mp h)), if_neg h2]; rfl
theorem lc_eq {x y : Int64} {a b : Nat} (hx : x = Int64.ofNat a) (hy : y = Int64.ofNat b) (ha : a < 9223372036854775808) (hb : b < 9223372036854775808) : (lg_cmp x y = 0) ↔ a = b := by
  have h := cmp_val hx hy ha hb
  have z0 : (0 : Int32).toInt = 0 := rfl
  simp only [Int32.lt_iff_toInt_lt, Int32.le_iff_toInt_le, ← Int32.toInt_inj, h, z0]
  split
  · omega
  · split
    · omega
    · omega
theorem lc_ne {x y : Int64} {a b : Nat} (hx : x = Int64.ofNat a) (hy : y = Int64.ofNat b) (ha : a < 9223372036854775808) (hb : b < 9223372036854775808) : (¬ lg_cmp x y = 0) ↔ a ≠ b := by
  have h := cmp_val hx hy ha hb
  have z0 : (0 : Int32).toInt = 0 := rfl
  simp only [Int32.lt_iff_toInt_lt, Int32.le_iff_toInt_le, ← Int32.toInt_inj, h, z0]
  split
  · omega
  · split
    · omega
    · omega
theorem lc_lt {x y : Int64} {a b : Nat} (hx : x = Int64.ofNat a) (hy : y = Int64.ofNat b) (ha : a < 9223372036854775808) (hb : b < 9223372036854775808) : (lg_cmp x y < 0) ↔ a < b := by
  have h := cmp_val hx hy ha hb
  have z0 : (0 : Int32).toInt = 0 := rfl
  simp only [Int32.lt_iff_toInt_lt, Int32.le_iff_toInt_le, ← Int32.toInt_inj, h, z0]
  split
  · omega
  · split
    · omega
    · omega
theorem lc_ge {x y : Int64} {a b : Nat} (hx : x = Int64.ofNat a) (hy : y = Int64.ofNat b) (ha : a < 9223372036854775808) (hb : b < 9223372036854775808) : (0 ≤ lg_cmp x y) ↔ b ≤ a := by
  have h := cmp_val hx hy ha hb
  have z0 : (0 : Int32).toInt = 0 := rfl
  simp only [Int32.lt_iff_toInt_lt, Int32.le_iff_toInt_le, ← Int32.toInt_inj, h, z0]
  split
  · omega
  · split
    · omega
    · omega
theorem lc_gt {x y : Int64} {a b : Nat} (hx : x = Int64.ofNat a) (hy : y = Int64.ofNat b) (ha : a < 9223372036854775808) (hb : b < 9223372036854775808) : (0 < lg_cmp x y) ↔ b < a := by
  have h := cmp_val hx hy ha hb
  have z0 : (0 : Int32).toInt = 0 := rfl
  simp only [Int32.lt_iff_toInt_lt, Int32.le_iff_toInt_le, ← Int32.toInt_inj, h, z0]
  split
  · omega
  · split
    · omega
    · omega
theorem lc_le {x y : Int64} {a b : Nat} (hx : x = Int64.ofNat a) (hy : y = Int64.ofNat b) (ha : a < 9223372036854775808) (hb : b < 9223372036854775808) : (lg_cmp x y ≤ 0) ↔ a ≤ b := by
  have h := cmp_val hx hy ha hb
  have z0 : (0 : Int32).toInt = 0 := rfl
  simp only [Int32.lt_iff_toInt_lt, Int32.le_iff_toInt_le, ← Int32.toInt_inj, h, z0]
  split
  · omega
  · split
    · omega
    · omega
section WL
variable {X : Nat × (Nat → Int32)} {d mid j : Nat} {ls st : List Value} {Q : Option Value → am_M → Prop} {p r1 r2 r3 : Nat} {x : Int32} {lx ly lz : Int64} {M : am_M}
theorem wn_ladd (hc : am_cd mid j = some (.ladd, p, r1, r2, r3)) (hz : lx + ly = lz) (k : am_wp X d mid (j + 1) ls (.long lz :: st) M Q) : am_wp X d mid j ls (.long ly :: .long lx :: st) M Q := wi_ladd hc (by rw [hz]; exact k)
theorem wn_lsub (hc : am_cd mid j = some (.lsub, p, r1, r2, r3)) (hz : lx - ly = lz) (k : am_wp X d mid (j + 1) ls (.long lz :: st) M Q) : am_wp X d mid j ls (.long ly :: .long lx :: st) M Q := wi_lsub hc (by rw [hz]; exact k)
theorem wn_lmul (hc : am_cd mid j = some (.lmul, p, r1, r2, r3)) (hz : lx * ly = lz) (k : am_wp X d mid (j + 1) ls (.long lz :: st) M Q) : am_wp X d mid j ls (.long ly :: .long lx :: st) M Q := wi_lmul hc (by rw [hz]; exact k)
theorem wn_ldiv (hc : am_cd mid j = some (.ldiv, p, r1, r2, r3)) (h0 : ¬ ly = 0) (hz : lx / ly = lz) (k : am_wp X d mid (j + 1) ls (.long lz :: st) M Q) : am_wp X d mid j ls (.long ly :: .long lx :: st) M Q := wi_ldiv hc h0 (by rw [hz]; exact k)
theorem wn_lrem (hc : am_cd mid j = some (.lrem, p, r1, r2, r3)) (h0 : ¬ ly = 0) (hz : lx - lx / ly * ly = lz) (k : am_wp X d mid (j + 1) ls (.long lz :: st) M Q) : am_wp X d mid j ls (.long ly :: .long lx :: st) M Q := wi_lrem hc h0 (by rw [hz]; exact k)
theorem wn_i2l (hc : am_cd mid j = some (.i2l, p, r1, r2, r3)) (hz : x.toInt64 = lz) (k : am_wp X d mid (j + 1) ls (.long lz :: st) M Q) : am_wp X d mid j ls (.int x :: st) M Q := wi_i2l hc (by rw [hz]; exact k)
end WL
theorem gcd_step (a b : Nat) : Nat.gcd b (a % b) = Nat.gcd a b := by rw [Nat.gcd_comm b, ← Nat.gcd_rec, Nat.gcd_comm]
theorem two_steps {a b m : Nat} (hb0 : 0 < b) (hb : b < 2 ^ (m + 1)) (h : 0 < a % b) : b % (a % b) < 2 ^ m := by
  have hp : 0 < b := by
    rcases Nat.eq_zero_or_pos b with h0 | h0
    · subst h0
      exact absurd hb0 (Nat.lt_irrefl 0)
    · exact h0
  have h1 : a % b < b := Nat.mod_lt _ hp
  generalize a % b = r at h h1
  have h2 : b % r < r := Nat.mod_lt _ h
  have h3 : b = r * (b / r) + b % r := (Nat.div_add_mod b r).symm
  have h4 : 1 ≤ b / r := (Nat.one_le_div_iff h).mpr (by omega)
  have h5 : r * 1 ≤ r * (b / r) := Nat.mul_le_mul_left r h4
  rw [Nat.pow_succ] at hb
  omega
section GC
variable {X : Nat × (Nat → Int32)} {d : Nat} {M : am_M} {Q : Option Value → am_M → Prop}
theorem gx_step {one other : Int64} {P Z t : Nat} {v9 : Value} (hP : P < 9223372036854775808) (hZ : Z < 9223372036854775808) (hq : 0 < Z) (ht : t < 100) (hk : ∀ v9 : Value, am_wp X d 4 6 [.long one, .retAddr 0, .long other, .retAddr 0, .long (Int64.ofNat (Z)), .retAddr 0, .long (Int64.ofNat (P % Z)), .retAddr 0, .int (Int32.ofNat (t + 1)), v9, .retAddr 0] [] M Q) : am_wp X d 4 6 [.long one, .retAddr 0, .long other, .retAddr 0, .long (Int64.ofNat (P)), .retAddr 0, .long (Int64.ofNat (Z)), .retAddr 0, .int (Int32.ofNat (t)), v9, .retAddr 0] [] M Q := by
  refine wi_iload rfl rfl ?_
  refine wi_bipush (x := 100) rfl rfl ?_
  refine wi_icmp_ge rfl (fun g1 => ?_) (fun g1 => ?_)
  · replace g1 := (le_n (a := 100) (b := t) (rfl : (100 : Int32) = Int32.ofNat 100) rfl (by omega) (by omega)).mp g1
    refine wi_lload rfl rfl ?_
    refine wi_lret rfl ?_
    exact absurd hq (by omega)
  · replace g1 := (not_congr (le_n (a := 100) (b := t) (rfl : (100 : Int32) = Int32.ofNat 100) rfl (by omega) (by omega))).mp g1
    refine wi_lload rfl rfl ?_
    refine wi_lconst (lx := 0) rfl rfl ?_
    refine wi_lcmp rfl ?_
    refine wi_if_eq rfl (fun g2 => ?_) (fun g2 => ?_)
    · replace g2 := (lc_eq (a := Z) (b := 0) rfl (rfl : (0 : Int64) = Int64.ofNat 0) (by omega) (by omega)).mp g2
      refine wi_lload rfl rfl ?_
      refine wi_lret rfl ?_
      exact absurd hq (by omega)
    · replace g2 := (not_congr (lc_eq (a := Z) (b := 0) rfl (rfl : (0 : Int64) = Int64.ofNat 0) (by omega) (by omega))).mp g2
      refine wi_lload rfl rfl ?_
      refine wi_lload rfl rfl ?_
      refine wn_lrem (lz := (Int64.ofNat (P % Z))) rfl (nz_l (b := Z) rfl (by omega) (by omega)) (mod_l (a := P) (b := Z) rfl rfl (by omega) (by omega)) ?_
      refine wi_lstore rfl (Nat.le_of_ble_eq_true rfl) rfl rfl ?_
      refine wi_lload rfl rfl ?_
      refine wi_lstore rfl (Nat.le_of_ble_eq_true rfl) rfl rfl ?_
      refine wi_lload rfl rfl ?_
      refine wi_lstore rfl (Nat.le_of_ble_eq_true rfl) rfl rfl ?_
      refine wi_iinc (z := (Int32.ofNat (t + 1))) rfl rfl rfl (add_n (a := t) (b := 1) rfl rfl) rfl ?_
      refine wi_goto rfl ?_
      exact hk (.long (Int64.ofNat (P % Z)))
theorem gx_end {one other : Int64} {P Z t : Nat} {v9 : Value} (hP : P < 9223372036854775808) (hZ : Z < 9223372036854775808) (hq : Z = 0) (ht : t < 2147483648) (hQ : Q (some (.long (Int64.ofNat P))) M) : am_wp X d 4 6 [.long one, .retAddr 0, .long other, .retAddr 0, .long (Int64.ofNat (P)), .retAddr 0, .long (Int64.ofNat (Z)), .retAddr 0, .int (Int32.ofNat (t)), v9, .retAddr 0] [] M Q := by
  refine wi_iload rfl rfl ?_
  refine wi_bipush (x := 100) rfl rfl ?_
  refine wi_icmp_ge rfl (fun g1 => ?_) (fun g1 => ?_)
  · replace g1 := (le_n (a := 100) (b := t) (rfl : (100 : Int32) = Int32.ofNat 100) rfl (by omega) (by omega)).mp g1
    refine wi_lload rfl rfl ?_
    refine wi_lret rfl ?_
    exact hQ
  · replace g1 := (not_congr (le_n (a := 100) (b := t) (rfl : (100 : Int32) = Int32.ofNat 100) rfl (by omega) (by omega))).mp g1
    refine wi_lload rfl rfl ?_
    refine wi_lconst (lx := 0) rfl rfl ?_
    refine wi_lcmp rfl ?_
    refine wi_if_eq rfl (fun g2 => ?_) (fun g2 => ?_)
    · replace g2 := (lc_eq (a := Z) (b := 0) rfl (rfl : (0 : Int64) = Int64.ofNat 0) (by omega) (by omega)).mp g2
      refine wi_lload rfl rfl ?_
      refine wi_lret rfl ?_
      exact hQ
    · replace g2 := (not_congr (lc_eq (a := Z) (b := 0) rfl (rfl : (0 : Int64) = Int64.ofNat 0) (by omega) (by omega))).mp g2
      refine wi_lload rfl rfl ?_
      refine wi_lload rfl rfl ?_
      refine wn_lrem (lz := (Int64.ofNat (P % Z))) rfl (nz_l (b := Z) rfl (by omega) (by omega)) (mod_l (a := P) (b := Z) rfl rfl (by omega) (by omega)) ?_
      refine wi_lstore rfl (Nat.le_of_ble_eq_true rfl) rfl rfl ?_
      refine wi_lload rfl rfl ?_
      refine wi_lstore rfl (Nat.le_of_ble_eq_true rfl) rfl rfl ?_
      refine wi_lload rfl rfl ?_
      refine wi_lstore rfl (Nat.le_of_ble_eq_true rfl) rfl rfl ?_
      refine wi_iinc (z := (Int32.ofNat (t + 1))) rfl rfl rfl (add_n (a := t) (b := 1) rfl rfl) rfl ?_
      refine wi_goto rfl ?_
      omega
theorem gx_loop {one other : Int64} : ∀ (m P Z t : Nat) (v9 : Value), P < 9223372036854775808 → Z < 9223372036854775808 → Z < 2 ^ m → t + 2 * m < 100 → Q (some (.long (Int64.ofNat (Nat.gcd P Z)))) M → am_wp X d 4 6 [.long one, .retAddr 0, .long other, .retAddr 0, .long (Int64.ofNat (P)), .retAddr 0, .long (Int64.ofNat (Z)), .retAddr 0, .int (Int32.ofNat (t)), v9, .retAddr 0] [] M Q
  | 0, P, Z, t, v9, hP, hZ, h2, ht, hQ => by
    have hz : Z = 0 := by rw [Nat.pow_zero] at h2; omega
    refine gx_end hP hZ hz (by omega) ?_
    subst hz
    rw [Nat.gcd_zero_right] at hQ
    exact hQ
  | m + 1, P, Z, t, v9, hP, hZ, h2, ht, hQ => by
    rcases Nat.eq_zero_or_pos Z with hz | hz
    · refine gx_end hP hZ hz (by omega) ?_
      subst hz
      rw [Nat.gcd_zero_right] at hQ
      exact hQ
    · have hr := Nat.mod_lt P hz
      refine gx_step hP hZ hz (by omega) (fun v8 => ?_)
      rw [← gcd_step P Z] at hQ
      rcases Nat.eq_zero_or_pos (P % Z) with hy | hy
      · refine gx_end hZ (by omega) hy (by omega) ?_
        rw [hy, Nat.gcd_zero_right] at hQ
        exact hQ
      · refine gx_step hZ (by omega) hy (by omega) (fun v7 => ?_)
        rw [← gcd_step Z (P % Z)] at hQ
        have h5 := two_steps hz h2 hy
        have h6 := Nat.mod_lt Z hy
        exact gx_loop m (P % Z) (Z % (P % Z)) (t + 1 + 1) v7 (by omega) (by omega) h5 (by omega) hQ
theorem c_gcdX {P Z : Nat} (hP : P < 9223372036854775808) (hZ : Z < 2 ^ 49) (hQ : Q (some (.long (Int64.ofNat (Nat.gcd P Z)))) M) : am_wp X d 4 0 [.long (Int64.ofNat P), .retAddr 0, .long (Int64.ofNat Z), .retAddr 0, .retAddr 0, .retAddr 0, .retAddr 0, .retAddr 0, .retAddr 0, .retAddr 0, .retAddr 0] [] M Q := by
  refine wi_lload_n rfl rfl ?_
  refine wi_lstore rfl (Nat.le_of_ble_eq_true rfl) rfl rfl ?_
  refine wi_lload_n rfl rfl ?_
  refine wi_lstore rfl (Nat.le_of_ble_eq_true rfl) rfl rfl ?_
  refine wi_iconst (x := 0) rfl rfl ?_
  refine wi_istore rfl (Nat.le_of_ble_eq_true rfl) rfl rfl ?_
  exact gx_loop 49 P Z 0 _ hP (by omega) hZ (by decide) hQ
theorem gm_step {one other : Int64} {P Z : Nat} {v8 : Value} (hP : P < 9223372036854775808) (hZ : Z < 9223372036854775808) (hq : 0 < Z) (hk : ∀ v8 : Value, am_wp X d 164 6 [.long one, .retAddr 0, .long other, .retAddr 0, .long (Int64.ofNat (Z)), .retAddr 0, .long (Int64.ofNat (P % Z)), .retAddr 0, v8, .retAddr 0] [] M Q) : am_wp X d 164 6 [.long one, .retAddr 0, .long other, .retAddr 0, .long (Int64.ofNat (P)), .retAddr 0, .long (Int64.ofNat (Z)), .retAddr 0, v8, .retAddr 0] [] M Q := by
  refine wi_lload rfl rfl ?_
  refine wi_lconst (lx := 0) rfl rfl ?_
  refine wi_lcmp rfl ?_
  refine wi_if_eq rfl (fun g1 => ?_) (fun g1 => ?_)
  · replace g1 := (lc_eq (a := Z) (b := 0) rfl (rfl : (0 : Int64) = Int64.ofNat 0) (by omega) (by omega)).mp g1
    refine wi_lload rfl rfl ?_
    refine wi_lret rfl ?_
    exact absurd hq (by omega)
  · replace g1 := (not_congr (lc_eq (a := Z) (b := 0) rfl (rfl : (0 : Int64) = Int64.ofNat 0) (by omega) (by omega))).mp g1
    refine wi_lload rfl rfl ?_
    refine wi_lload rfl rfl ?_
    refine wn_lrem (lz := (Int64.ofNat (P % Z))) rfl (nz_l (b := Z) rfl (by omega) (by omega)) (mod_l (a := P) (b := Z) rfl rfl (by omega) (by omega)) ?_
    refine wi_lstore rfl (Nat.le_of_ble_eq_true rfl) rfl rfl ?_
    refine wi_lload rfl rfl ?_
    refine wi_lstore rfl (Nat.le_of_ble_eq_true rfl) rfl rfl ?_
    refine wi_lload rfl rfl ?_
    refine wi_lstore rfl (Nat.le_of_ble_eq_true rfl) rfl rfl ?_
    refine wi_goto rfl ?_
    exact hk (.long (Int64.ofNat (P % Z)))
theorem gm_end {one other : Int64} {P Z : Nat} {v8 : Value} (hP : P < 9223372036854775808) (hZ : Z < 9223372036854775808) (hq : Z = 0) (hQ : Q (some (.long (Int64.ofNat P))) M) : am_wp X d 164 6 [.long one, .retAddr 0, .long other, .retAddr 0, .long (Int64.ofNat (P)), .retAddr 0, .long (Int64.ofNat (Z)), .retAddr 0, v8, .retAddr 0] [] M Q := by
  refine wi_lload rfl rfl ?_
  refine wi_lconst (lx := 0) rfl rfl ?_
  refine wi_lcmp rfl ?_
  refine wi_if_eq rfl (fun g1 => ?_) (fun g1 => ?_)
  · replace g1 := (lc_eq (a := Z) (b := 0) rfl (rfl : (0 : Int64) = Int64.ofNat 0) (by omega) (by omega)).mp g1
    refine wi_lload rfl rfl ?_
    refine wi_lret rfl ?_
    exact hQ
  · replace g1 := (not_congr (lc_eq (a := Z) (b := 0) rfl (rfl : (0 : Int64) = Int64.ofNat 0) (by omega) (by omega))).mp g1
    refine wi_lload rfl rfl ?_
    refine wi_lload rfl rfl ?_
    refine wn_lrem (lz := (Int64.ofNat (P % Z))) rfl (nz_l (b := Z) rfl (by omega) (by omega)) (mod_l (a := P) (b := Z) rfl rfl (by omega) (by omega)) ?_
    refine wi_lstore rfl (Nat.le_of_ble_eq_true rfl) rfl rfl ?_
    refine wi_lload rfl rfl ?_
    refine wi_lstore rfl (Nat.le_of_ble_eq_true rfl) rfl rfl ?_
    refine wi_lload rfl rfl ?_
    refine wi_lstore rfl (Nat.le_of_ble_eq_true rfl) rfl rfl ?_
    refine wi_goto rfl ?_
    omega
theorem gm_loop {one other : Int64} : ∀ (m P Z : Nat) (v8 : Value), P < 9223372036854775808 → Z < 9223372036854775808 → Z < m → Q (some (.long (Int64.ofNat (Nat.gcd P Z)))) M → am_wp X d 164 6 [.long one, .retAddr 0, .long other, .retAddr 0, .long (Int64.ofNat (P)), .retAddr 0, .long (Int64.ofNat (Z)), .retAddr 0, v8, .retAddr 0] [] M Q
  | 0, P, Z, v8, hP, hZ, h2, hQ => absurd h2 (Nat.not_lt_zero _)
  | m + 1, P, Z, v8, hP, hZ, h2, hQ => by
    rcases Nat.eq_zero_or_pos Z with hz | hz
    · refine gm_end hP hZ hz ?_
      subst hz
      rw [Nat.gcd_zero_right] at hQ
      exact hQ
    · have hr := Nat.mod_lt P hz
      refine gm_step hP hZ hz (fun v7 => ?_)
      rw [← gcd_step P Z] at hQ
      exact gm_loop m Z (P % Z) v7 hZ (by omega) (by omega) hQ
theorem c_gcdM {a9 b9 : Int64} {P Z : Nat} (ha : (if 0 < a9 then a9 else -a9) = Int64.ofNat P) (hb : (if 0 < b9 then b9 else -b9) = Int64.ofNat Z) (hP : P < 9223372036854775808) (hZ : Z < 9223372036854775808) (hQ : Q (some (.long (Int64.ofNat (Nat.gcd P Z)))) M) : am_wp X d 164 0 [.long a9, .retAddr 0, .long b9, .retAddr 0, .retAddr 0, .retAddr 0, .retAddr 0, .retAddr 0, .retAddr 0, .retAddr 0] [] M Q := by
  refine wi_lload_n rfl rfl ?_
  refine wi_labs rfl rfl ?_
  refine wi_lstore rfl (Nat.le_of_ble_eq_true rfl) rfl rfl ?_
  refine wi_lload_n rfl rfl ?_
  refine wi_labs rfl rfl ?_
  refine wi_lstore rfl (Nat.le_of_ble_eq_true rfl) rfl rfl ?_
  rw [ha, hb]
  exact gm_loop (Z + 1) P Z _ hP hZ (by omega) hQ
theorem labs_n {b9 : Int64} {Z : Nat} (h : b9 = Int64.ofNat Z) (hZ : Z < 9223372036854775808) : (if 0 < b9 then b9 else -b9) = Int64.ofNat Z := by
  subst h
  by_cases h1 : 0 < Int64.ofNat Z
  · exact if_pos h1
  · rw [if_neg h1]
    rw [Int64.lt_iff_toInt_lt, l_toInt hZ] at h1
    have z0 : (0 : Int64).toInt = 0 := rfl
    have e : Z = 0 := by omega
    subst e
    rfl
theorem labs_z {a9 : Int64} (h : -9223372036854775808 < a9.toInt) : (if 0 < a9 then a9 else -a9) = Int64.ofNat a9.toInt.natAbs ∧ a9.toInt.natAbs < 9223372036854775808 := by
  have hlt := a9.toInt_lt
  have z0 : (0 : Int64).toInt = 0 := rfl
  have hn : a9.toInt.natAbs < 9223372036854775808 := by omega
  refine ⟨?_, hn⟩
  by_cases h1 : 0 < a9
  · rw [if_pos h1, ← Int64.toInt_inj, l_toInt hn]
    rw [Int64.lt_iff_toInt_lt] at h1
    omega
  · rw [if_neg h1, ← Int64.toInt_inj, l_toInt hn, Int64.toInt_neg]
    rw [Int64.lt_iff_toInt_lt] at h1
    rw [Int.bmod_eq_of_le (by omega) (by omega)]
    omega
end GC
section BT
variable {X : Nat × (Nat → Int32)} {d : Nat} {Q : Option Value → am_M → Prop} {mi : Nat → Nat → Int32} {ml : Nat → Nat → Int64} {bb : Bool}
theorem c_become {a9 : Int64} {P Z : Nat} (ha : (if 0 < a9 then a9 else -a9) = Int64.ofNat P) (hP : P < 9223372036854775808) (hZ : Z < 2 ^ 49) (hZ0 : 0 < Z) (hQ : Q none (am_shT, mrL bb, mi, u2 (u2 ml 96 0 (a9 / Int64.ofNat (Nat.gcd P Z))) 96 1 (Int64.ofNat (Z / (Nat.gcd P Z))))) : am_wp X (d + 1) 1 0 [.ref 96, .long a9, .retAddr 0, .long (Int64.ofNat Z), .retAddr 0, .retAddr 0, .retAddr 0] [] (am_shT, mrL bb, mi, ml) Q := by
  have hg0 : 0 < (Nat.gcd P Z) := Nat.gcd_pos_of_pos_right P hZ0
  have hg1 : (Nat.gcd P Z) < 9223372036854775808 := Nat.lt_of_le_of_lt (Nat.le_of_dvd hZ0 (Nat.gcd_dvd_right P Z)) (by omega)
  have hgc : ∀ {Q9 : Option Value → am_M → Prop} {M9 : am_M}, Q9 (some (.long (Int64.ofNat (Nat.gcd P Z)))) M9 → am_wp X d 4 0 [.long (if 0 < a9 then a9 else -a9), .retAddr 0, .long (Int64.ofNat Z), .retAddr 0, .retAddr 0, .retAddr 0, .retAddr 0, .retAddr 0, .retAddr 0, .retAddr 0, .retAddr 0] [] M9 Q9 := fun h9 => by
    rw [ha]
    exact c_gcdX hP hZ h9
  refine wi_lload_n rfl rfl ?_
  refine wi_labs rfl rfl ?_
  refine wi_lload_n rfl rfl ?_
  refine wi_callS2 rfl (by decide) (by decide) rfl rfl rfl (hgc ?_)
  refine wi_lstore rfl (Nat.le_of_ble_eq_true rfl) rfl rfl ?_
  refine wi_lload_n rfl rfl ?_
  refine wi_lconst (lx := 0) rfl rfl ?_
  refine wi_lcmp rfl ?_
  refine wi_if_le rfl (fun h9 => absurd trivial (by exfalso; have h8 := (lc_le (a := Z) (b := 0) rfl (rfl : (0 : Int64) = Int64.ofNat 0) (by omega) (by omega)).mp h9; omega)) (fun _ => ?_)
  refine wi_lload rfl rfl ?_
  refine wi_lconst (lx := 0) rfl rfl ?_
  refine wi_lcmp rfl ?_
  refine wi_if_le rfl (fun h9 => absurd trivial (by exfalso; have h8 := (lc_le (a := Nat.gcd P Z) (b := 0) rfl (rfl : (0 : Int64) = Int64.ofNat 0) (by omega) (by omega)).mp h9; omega)) (fun _ => ?_)
  refine wi_aload_n rfl rfl ?_
  refine wi_lload_n rfl rfl ?_
  refine wi_lload rfl rfl ?_
  refine wi_ldiv rfl (nz_l (b := Nat.gcd P Z) rfl hg0 hg1) ?_
  refine wi_putL rfl (kd_96 ..) ?_
  refine wi_aload_n rfl rfl ?_
  refine wi_lload_n rfl rfl ?_
  refine wi_lload rfl rfl ?_
  refine wn_ldiv (lz := (Int64.ofNat (Z / (Nat.gcd P Z)))) rfl (nz_l (b := Nat.gcd P Z) rfl hg0 (by omega)) (div_l (a := Z) (b := Nat.gcd P Z) rfl rfl (by omega) (by omega)) ?_
  refine wi_putL rfl (kd_96 ..) ?_
  refine wi_ret rfl ?_
  exact hQ
theorem c_tells {a9 : Int64} {P Z : Nat} (ha : (if 0 < a9 then a9 else -a9) = Int64.ofNat P) (hP : P < 9223372036854775808) (hZ : Z < 2 ^ 49) (hZ0 : 0 < Z) (hQ : Q (some (.int 1)) (am_shT, mrL bb, mi, u2 (u2 ml 134 2 (a9 / Int64.ofNat (Nat.gcd P Z))) 134 3 (Int64.ofNat (Z / (Nat.gcd P Z))))) : am_wp X (d + 1) 165 0 [.ref 134, .long a9, .retAddr 0, .long (Int64.ofNat Z), .retAddr 0, .retAddr 0, .retAddr 0] [] (am_shT, mrL bb, mi, ml) Q := by
  have hg0 : 0 < (Nat.gcd P Z) := Nat.gcd_pos_of_pos_right P hZ0
  have hg1 : (Nat.gcd P Z) < 9223372036854775808 := Nat.lt_of_le_of_lt (Nat.le_of_dvd hZ0 (Nat.gcd_dvd_right P Z)) (by omega)
  refine wi_lload_n rfl rfl ?_
  refine wi_lload_n rfl rfl ?_
  refine wi_callS2 rfl (by decide) (by decide) rfl rfl rfl (c_gcdM ha (labs_n rfl (by omega)) hP (by omega) ?_)
  refine wi_lstore rfl (Nat.le_of_ble_eq_true rfl) rfl rfl ?_
  refine wi_aload_n rfl rfl ?_
  refine wi_lload_n rfl rfl ?_
  refine wi_lload rfl rfl ?_
  refine wi_ldiv rfl (nz_l (b := Nat.gcd P Z) rfl hg0 hg1) ?_
  refine wi_putL rfl (kd_134 ..) ?_
  refine wi_aload_n rfl rfl ?_
  refine wi_lload_n rfl rfl ?_
  refine wi_lload rfl rfl ?_
  refine wn_ldiv (lz := (Int64.ofNat (Z / (Nat.gcd P Z)))) rfl (nz_l (b := Nat.gcd P Z) rfl hg0 (by omega)) (div_l (a := Z) (b := Nat.gcd P Z) rfl rfl (by omega) (by omega)) ?_
  refine wi_putL rfl (kd_134 ..) ?_
  refine wi_iconst (x := 1) rfl rfl ?_
  refine wi_iret rfl (by decide) ?_
  exact hQ
end BT
