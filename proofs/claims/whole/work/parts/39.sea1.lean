/-! ===== the best giving: the class ===== -/
def vN (w : Nat → Nat → Int32) (m s : Nat) : Nat := (w m s).toNatClampNeg * 1679616 + (5 - s) * sOrd m
def fitB (q : Nat) (D K : Nat → Int32) (re sp : Int32) (z : Nat) : Bool := allB (fun j => allB (fun i => !(z.testBit i && z.testBit j) || sOk D K re sp i j) j) q
def gnN (w : Nat → Nat → Int32) (q s z : Nat) : Nat := sumN (fun m => z.testBit m) (fun m => vN w m s) q
def oL (v : Option Nat) : Int64 := match v with
  | none => -1
  | some x => Int64.ofNat x
def omx (a : Option Nat) (y : Nat) : Option Nat := match a with
  | none => some y
  | some x => some (max x y)
def sdN (z p : Nat) : Nat := z &&& (4294967295 ^^^ p)
def slN : Nat → Nat → Nat → List Nat
  | 0, _, _ => []
  | k + 1, z, p => if p = 0 then [] else p :: slN k z ((p - 1) &&& z)
def stD (fit : Nat → Bool) (g : Nat → Nat) (V : Nat → Option Nat) (z : Nat) (a : Option Nat) (p : Nat) : Option Nat := if fit p = true then (match V (sdN z p) with
  | none => a
  | some v => omx a (v + g p)) else a
def dpS (fit : Nat → Bool) (g : Nat → Nat) (V : Nat → Option Nat) (z : Nat) : Option Nat := (slN 256 z z).foldl (stD fit g V z) (V z)
def dpN (fit : Nat → Bool) (G : Nat → Nat → Nat) : Nat → Nat → Option Nat
  | 0, z => if z = 0 then some 0 else none
  | s + 1, z => dpS fit (G s) (dpN fit G s) z
theorem xornot {a b : Nat} : Int32.ofNat a &&& (Int32.ofNat b ^^^ -1) = Int32.ofNat (sdN a b) := by
  rw [← Int32.toBitVec_inj, Int32.toBitVec_and, Int32.toBitVec_xor]
  show BitVec.ofNat 32 a &&& (BitVec.ofNat 32 b ^^^ BitVec.ofNat 32 4294967295) = BitVec.ofNat 32 (a &&& (4294967295 ^^^ b))
  rw [BitVec.ofNat_and, BitVec.ofNat_xor, BitVec.xor_comm]
theorem and_nn {a b : Nat} : Int32.ofNat a &&& Int32.ofNat b = Int32.ofNat (a &&& b) := by
  rw [← Int32.toBitVec_inj, Int32.toBitVec_and]
  show BitVec.ofNat 32 a &&& BitVec.ofNat 32 b = BitVec.ofNat 32 _
  rw [BitVec.ofNat_and]
theorem shl_n {n : Nat} (h : n ≤ 8) : ((1 : Int32) <<< (Int32.ofNat n &&& 31)) = Int32.ofNat (2 ^ n) := (show ∀ n, n < 9 → ((1 : Int32) <<< (Int32.ofNat n &&& 31)) = Int32.ofNat (2 ^ n) from by decide) n (by omega)
theorem bit_n {z e : Nat} (hz : z < 2147483648) (he : e < 8) : ((Int32.ofNat z >>> (Int32.ofNat e &&& 31)) &&& 1) = Int32.ofNat (z / 2 ^ e % 2) := by
  have h1 : ((Int32.ofNat e &&& 31 : Int32).toBitVec.smod 32).toNat = e := (show ∀ e, e < 8 → ((Int32.ofNat e &&& 31 : Int32).toBitVec.smod 32).toNat = e from by decide) e he
  have h2 : Int32.ofNat z >>> (Int32.ofNat e &&& 31) = Int32.ofNat (z / 2 ^ e) := pk_shrN (n := z) (by omega) _ _ h1
  rw [h2]
  have h3 : z / 2 ^ e ≤ z := Nat.div_le_self _ _
  exact pk_andN (n := z / 2 ^ e) (by omega) 1 (by decide)
theorem sd_le {z p : Nat} : sdN z p ≤ z := Nat.and_le_left
theorem nar_b (x : Bool) : vp_nar .boolean (bI x) = bI x := by cases x <;> rfl
theorem ord_n {m : Nat} (h : m < 8) : am_orders m = Int32.ofNat (sOrd m) := (show ∀ m, m < 8 → am_orders m = Int32.ofNat (sOrd m) from by decide) m h
theorem sOrd_le {m : Nat} : sOrd m ≤ 279936 := by
  rcases m with _ | _ | _ | _ | _ | _ | _ | _ | m
  all_goals first | decide | skip
  show 0 ≤ 279936
  decide
theorem vN_le {w : Nat → Nat → Int32} {m s : Nat} (h : (w m s).toNatClampNeg ≤ 100) : vN w m s ≤ 169361280 := by
  unfold vN
  have h1 := sOrd_le (m := m)
  have h2 : (5 - s) * sOrd m ≤ 5 * 279936 := Nat.mul_le_mul (by omega) h1
  have h3 : (w m s).toNatClampNeg * 1679616 ≤ 100 * 1679616 := Nat.mul_le_mul h (Nat.le_refl _)
  exact Nat.le_trans (Nat.add_le_add h3 h2) (by decide)
theorem pw8 {n : Nat} (h : n ≤ 8) : 2 ^ n ≤ 256 ∧ 0 < 2 ^ n := ⟨Nat.le_trans (Nat.pow_le_pow_right (by decide) h) (by decide), Nat.pow_pos (by decide)⟩
theorem gn_low {w : Nat → Nat → Int32} {m s p : Nat} (h : p < 2 ^ m) : gnN w (m + 1) s p = gnN w m s p := by
  show gnN w m s p + (if p.testBit m = true then _ else 0) = _
  rw [Nat.testBit_lt_two_pow h]
  rfl
theorem gn_high {w : Nat → Nat → Int32} {m s l : Nat} (h : l < 2 ^ m) : gnN w (m + 1) s (2 ^ m + l) = gnN w m s l + vN w m s := by
  show sumN _ _ m + (if (2 ^ m + l).testBit m = true then _ else 0) = _
  rw [Nat.testBit_two_pow_add_eq, Nat.testBit_lt_two_pow h]
  rw [show sumN (fun k => (2 ^ m + l).testBit k) (fun k => vN w k s) m = gnN w m s l from sumN_congr (fun k hk => Nat.testBit_two_pow_add_gt hk l) (fun _ _ => rfl)]
  rfl
theorem gn_le {w : Nat → Nat → Int32} {q s p : Nat} (hw : ∀ m, m < q → (w m s).toNatClampNeg ≤ 100) : gnN w q s p ≤ 169361280 * q := sumN_le (fun m hm => vN_le (hw m hm))
section S1
variable {X : Nat × (Nat → Int32)} {d : Nat} {Q : Option Value → am_M → Prop} {mi : Nat → Nat → Int32} {b : Bool}
theorem c_valueOn {ml : Nat → Nat → Int64} {m s : Nat} (hm : m < 8) (hs : s < 6) (hw : ∀ m, m < 8 → ∀ s, s < 8 → mi (64 + m) s = Int32.ofNat (clN (mi (64 + m)) s) ∧ clN (mi (64 + m)) s ≤ 100) (hQ : Q (some (.long (Int64.ofNat (vN (fun m => mi (64 + m)) m s)))) (am_shT, mrL b, mi, ml)) : am_wp X d 75 0 [.ref 60, .int (Int32.ofNat (m)), .int (Int32.ofNat (s)), .retAddr 0, .retAddr 0] [] (am_shT, mrL b, mi, ml) Q := by
  obtain ⟨hw1, hw2⟩ := hw m hm s (by omega)
  have ho := sOrd_le (m := m)
  refine wi_aload_n rfl rfl ?_
  refine wi_getR rfl (kd_60 ..) (rd_60_2 _) ?_
  refine wi_iload_n rfl rfl ?_
  refine wn_aaload (q := m) rfl (Or.inr (ln_63 ..)) rfl (by omega) (by decide) (ra_63 _ _ (by omega)) ?_
  refine wi_iload_n rfl rfl ?_
  refine wn_iaload (q := s) (v := (Int32.ofNat (clN (mi (64 + m)) s))) rfl (lr_63 (by omega) ..) rfl (by omega) (by decide) (by omega) (by omega) hw1 ?_
  refine wn_i2l (lz := (Int64.ofNat (clN (mi (64 + m)) s))) rfl (i2l_n (a := clN (mi (64 + m)) s) rfl (by omega)) ?_
  refine wi_lstore_n (l' := [.ref 60, .int (Int32.ofNat (m)), .int (Int32.ofNat (s)), .long (Int64.ofNat (clN (mi (64 + m)) s)), .retAddr 0]) rfl (Nat.le_of_ble_eq_true rfl) rfl rfl ?_
  refine wi_lload_n rfl rfl ?_
  refine wi_ldc2_w (lx := 1679616) rfl rfl ?_
  refine wn_lmul (lz := (Int64.ofNat ((clN (mi (64 + m)) s) * 1679616))) rfl (mul_l (a := clN (mi (64 + m)) s) (b := 1679616) rfl (rfl : (1679616 : Int64) = Int64.ofNat 1679616)) ?_
  refine wi_iconst (x := 5) rfl rfl ?_
  refine wi_iload_n rfl rfl ?_
  refine wn_isub (z := (Int32.ofNat (5 - s))) rfl (sub_n (a := 5) (b := s) (rfl : (5 : Int32) = Int32.ofNat 5) rfl (by omega)) ?_
  refine wn_i2l (lz := (Int64.ofNat (5 - s))) rfl (i2l_n (a := 5 - s) rfl (by omega)) ?_
  refine wi_getstatic rfl ?_
  refine wi_iload_n rfl rfl ?_
  refine wn_ialoadO (q := m) rfl rfl (by omega) ?_
  rw [ord_n hm]
  refine wn_i2l (lz := (Int64.ofNat (sOrd m))) rfl (i2l_n (a := sOrd m) rfl (by omega)) ?_
  refine wn_lmul (lz := (Int64.ofNat ((5 - s) * (sOrd m)))) rfl (mul_l (a := 5 - s) (b := sOrd m) rfl rfl) ?_
  refine wn_ladd (lz := (Int64.ofNat ((clN (mi (64 + m)) s) * 1679616 + (5 - s) * (sOrd m)))) rfl (add_l (a := (clN (mi (64 + m)) s) * 1679616) (b := (5 - s) * (sOrd m)) rfl rfl) ?_
  refine wi_lret rfl ?_
  exact hQ
theorem ag_in {m s : Nat} (hm : m < 8) (hs : s < 6) (hw : ∀ m, m < 8 → ∀ s, s < 8 → mi (64 + m) s = Int32.ofNat (clN (mi (64 + m)) s) ∧ clN (mi (64 + m)) s ≤ 100) : ∀ r i (ml1 : Nat → Nat → Int64), i + r = 2 ^ m → (∀ p, p < 2 ^ m + i → ml1 73 p = Int64.ofNat (gnN (fun m => mi (64 + m)) (m + 1) s (p))) → (∀ ml2 : Nat → Nat → Int64, (∀ a, a ≠ 73 → ml2 a = ml1 a) → (∀ p, p < 2 ^ m + 2 ^ m → ml2 73 p = Int64.ofNat (gnN (fun m => mi (64 + m)) (m + 1) s (p))) → am_wp X (d + 1) 74 37 [.ref 60, .int (Int32.ofNat (s)), .int (Int32.ofNat (m)), .int (Int32.ofNat (2 ^ m)), .int (Int32.ofNat (2 ^ m))] [] (am_shT, mrL b, mi, ml2) Q) → am_wp X (d + 1) 74 17 [.ref 60, .int (Int32.ofNat (s)), .int (Int32.ofNat (m)), .int (Int32.ofNat (2 ^ m)), .int (Int32.ofNat (i))] [] (am_shT, mrL b, mi, ml1) Q := by
  have hpw := pw8 (n := m) (by omega)
  have hpw7 : 2 ^ m ≤ 128 := Nat.le_trans (Nat.pow_le_pow_right (by decide) (show m ≤ 7 by omega)) (by decide)
  intro r
  induction r with
  | zero =>
    intro i ml1 hi hg hQ
    have hi0 : i = 2 ^ m := hi
    refine wi_iload rfl rfl ?_
    refine wi_iload_n rfl rfl ?_
    refine wi_icmp_ge rfl (fun _ => ?_) (fun h9 => absurd trivial (by exfalso; have h8 := (not_congr (le_n (a := 2 ^ m) (b := i) rfl rfl (by omega) (by omega))).mp h9; omega))
    obtain rfl : i = 2 ^ m := by omega
    exact hQ ml1 (fun _ _ => rfl) hg
  | succ r ih =>
    intro i ml1 hi hg hQ
    have hgi : ml1 73 i = Int64.ofNat (gnN (fun m => mi (64 + m)) (m) s (i)) := by rw [hg i (by omega), gn_low (by omega)]
    refine wi_iload rfl rfl ?_
    refine wi_iload_n rfl rfl ?_
    refine wi_icmp_ge rfl (fun h9 => absurd trivial (by exfalso; have h8 := (le_n (a := 2 ^ m) (b := i) rfl rfl (by omega) (by omega)).mp h9; omega)) (fun _ => ?_)
    refine wi_aload_n rfl rfl ?_
    refine wi_getR rfl (kd_60 ..) (rd_60_7 _) ?_
    refine wi_iload_n rfl rfl ?_
    refine wi_iload rfl rfl ?_
    refine wn_iadd (z := (Int32.ofNat (2 ^ m + i))) rfl (add_n (a := 2 ^ m) (b := i) rfl rfl) ?_
    refine wi_aload_n rfl rfl ?_
    refine wi_getR rfl (kd_60 ..) (rd_60_7 _) ?_
    refine wi_iload rfl rfl ?_
    refine wn_laload (q := i) (lv := (Int64.ofNat (gnN (fun m => mi (64 + m)) (m) s (i)))) rfl (ln_73 ..) rfl (by omega) (by decide) hgi ?_
    refine wi_aload_n rfl rfl ?_
    refine wi_iload_n rfl rfl ?_
    refine wi_iload_n rfl rfl ?_
    refine wi_callV2 rfl (by decide) (by decide) rfl (kd_60 ..) rfl rfl rfl (c_valueOn (by omega) hs hw ?_)
    refine wn_ladd (lz := (Int64.ofNat (gnN (fun m => mi (64 + m)) (m) s (i) + vN (fun m => mi (64 + m)) m s))) rfl (add_l (a := gnN (fun m => mi (64 + m)) (m) s (i)) (b := vN (fun m => mi (64 + m)) m s) rfl rfl) ?_
    refine wn_lastore (q := 2 ^ m + i) rfl (ln_73 ..) rfl (by omega) (by decide) ?_
    refine wi_iinc (z := (Int32.ofNat (i + 1))) rfl rfl rfl (add_n (a := i) (b := 1) rfl rfl) rfl ?_
    refine wi_goto rfl ?_
    refine ih (i + 1) (u2 ml1 73 (2 ^ m + i) (Int64.ofNat (gnN (fun m => mi (64 + m)) (m) s (i) + vN (fun m => mi (64 + m)) m s))) (by omega) (fun p hp => ?_) (fun ml2 h1 h2 => hQ ml2 (fun a ha => (h1 a ha).trans (u2_ne ha)) h2)
    rcases Nat.lt_or_ge p (2 ^ m + i) with k3 | k3
    · rw [u2_off (by omega)]
      exact hg p k3
    · rw [show p = 2 ^ m + i by omega, u2_same, gn_high (by omega)]
theorem ag_out {q s : Nat} (h3 : mi 60 3 = Int32.ofNat q) (hq : q ≤ 8) (hs : s < 6) (hw : ∀ m, m < 8 → ∀ s, s < 8 → mi (64 + m) s = Int32.ofNat (clN (mi (64 + m)) s) ∧ clN (mi (64 + m)) s ≤ 100) : ∀ r m (ml1 : Nat → Nat → Int64) (v3 v4 : Value), m + r = q → (∀ p, p < 2 ^ m → ml1 73 p = Int64.ofNat (gnN (fun m => mi (64 + m)) (m) s (p))) → (∀ ml2 : Nat → Nat → Int64, (∀ a, a ≠ 73 → ml2 a = ml1 a) → (∀ p, p < 2 ^ q → ml2 73 p = Int64.ofNat (gnN (fun m => mi (64 + m)) (q) s (p))) → Q none (am_shT, mrL b, mi, ml2)) → am_wp X (d + 1) 74 7 [.ref 60, .int (Int32.ofNat (s)), .int (Int32.ofNat (m)), v3, v4] [] (am_shT, mrL b, mi, ml1) Q := by
  intro r
  induction r with
  | zero =>
    intro m ml1 v3 v4 hi hg hQ
    refine wi_iload_n rfl rfl ?_
    refine wi_aload_n rfl rfl ?_
    refine wi_getIv (v := (Int32.ofNat (q))) rfl (kd_60 ..) h3 ?_
    refine wi_icmp_ge rfl (fun _ => ?_) (fun h9 => absurd trivial (by exfalso; have h8 := (not_congr (le_n (a := q) (b := m) rfl rfl (by omega) (by omega))).mp h9; omega))
    refine wi_ret rfl ?_
    obtain rfl : m = q := by omega
    exact hQ ml1 (fun _ _ => rfl) hg
  | succ r ih =>
    intro m ml1 v3 v4 hi hg hQ
    have hpw := pw8 (n := m) (by omega)
    refine wi_iload_n rfl rfl ?_
    refine wi_aload_n rfl rfl ?_
    refine wi_getIv (v := (Int32.ofNat (q))) rfl (kd_60 ..) h3 ?_
    refine wi_icmp_ge rfl (fun h9 => absurd trivial (by exfalso; have h8 := (le_n (a := q) (b := m) rfl rfl (by omega) (by omega)).mp h9; omega)) (fun _ => ?_)
    refine wi_iconst (x := 1) rfl rfl ?_
    refine wi_iload_n rfl rfl ?_
    refine wi_ishl rfl ?_
    rw [show ((1 : Int32) <<< (Int32.ofNat m &&& 31)) = Int32.ofNat (2 ^ m) from shl_n (by omega)]
    refine wi_istore_n (l' := [.ref 60, .int (Int32.ofNat (s)), .int (Int32.ofNat (m)), .int (Int32.ofNat (2 ^ m)), v4]) rfl (Nat.le_of_ble_eq_true rfl) rfl rfl ?_
    refine wi_iconst (x := 0) rfl rfl ?_
    refine wi_istore (l' := [.ref 60, .int (Int32.ofNat (s)), .int (Int32.ofNat (m)), .int (Int32.ofNat (2 ^ m)), .int (0 : Int32)]) rfl (Nat.le_of_ble_eq_true rfl) rfl rfl ?_
    refine ag_in (by omega) hs hw (2 ^ m) 0 ml1 (by omega) (fun p hp => by rw [hg p (by omega), gn_low (by omega)]) (fun ml2 k1 k2 => ?_)
    refine wi_iinc (z := (Int32.ofNat (m + 1))) rfl rfl rfl (add_n (a := m) (b := 1) rfl rfl) rfl ?_
    refine wi_goto rfl ?_
    exact ih (m + 1) ml2 _ _ (by omega) (fun p hp => k2 p (by rw [Nat.pow_succ] at hp; omega)) (fun ml3 h1 h2 => hQ ml3 (fun a ha => (h1 a ha).trans (k1 a ha)) h2)
theorem c_gains {ml : Nat → Nat → Int64} {q s : Nat} (h3 : mi 60 3 = Int32.ofNat q) (hq : q ≤ 8) (hs : s < 6) (hw : ∀ m, m < 8 → ∀ s, s < 8 → mi (64 + m) s = Int32.ofNat (clN (mi (64 + m)) s) ∧ clN (mi (64 + m)) s ≤ 100) (hQ : ∀ ml2 : Nat → Nat → Int64, (∀ a, a ≠ 73 → ml2 a = ml a) → (∀ p, p < 2 ^ q → ml2 73 p = Int64.ofNat (gnN (fun m => mi (64 + m)) (q) s (p))) → Q none (am_shT, mrL b, mi, ml2)) : am_wp X (d + 1) 74 0 [.ref 60, .int (Int32.ofNat (s)), .retAddr 0, .retAddr 0, .retAddr 0] [] (am_shT, mrL b, mi, ml) Q := by
  refine wi_aload_n rfl rfl ?_
  refine wi_getR rfl (kd_60 ..) (rd_60_7 _) ?_
  refine wi_iconst (x := 0) rfl rfl ?_
  refine wi_lconst (lx := 0) rfl rfl ?_
  refine wn_lastore (q := 0) rfl (ln_73 ..) (rfl : (0 : Int32) = Int32.ofNat 0) (by decide) (by decide) ?_
  refine wi_iconst (x := 0) rfl rfl ?_
  refine wi_istore_n (l' := [.ref 60, .int (Int32.ofNat (s)), .int (0 : Int32), .retAddr 0, .retAddr 0]) rfl (Nat.le_of_ble_eq_true rfl) rfl rfl ?_
  refine ag_out h3 hq hs hw q 0 _ _ _ (by omega) (fun p hp => ?_) (fun ml2 k1 k2 => hQ ml2 (fun a ha => (k1 a ha).trans (u2_ne ha)) k2)
  rw [show p = 0 by rw [Nat.pow_zero] at hp; omega, u2_same]
  rfl
theorem abs_gt {a c : Nat} (ha : a < 1000) (hc : c < 1000) (h : c < a) : (if 0 ≤ (Int32.ofNat a - Int32.ofNat c) then (Int32.ofNat a - Int32.ofNat c) else 0 - (Int32.ofNat a - Int32.ofNat c)) = Int32.ofNat (a - c) := by
  rw [sub_n (a := a) (b := c) rfl rfl (by omega), if_pos]
  rw [Int32.le_iff_toInt_le, i32_toInt (by omega)]
  exact Int.natCast_nonneg _
theorem abs_le {a c : Nat} (ha : a < 1000) (hc : c < 1000) (h : ¬ c < a) : (if 0 ≤ (Int32.ofNat a - Int32.ofNat c) then (Int32.ofNat a - Int32.ofNat c) else 0 - (Int32.ofNat a - Int32.ofNat c)) = Int32.ofNat (c - a) := by
  have e : (Int32.ofNat a - Int32.ofNat c).toInt = (a : Int) - c := by
    rw [Int32.toInt_sub, i32_toInt (by omega), i32_toInt (by omega)]
    exact Int.bmod_eq_of_le (by omega) (by omega)
  by_cases h1 : a = c
  · subst h1
    rw [sub_n (a := a) (b := a) rfl rfl (by omega), if_pos]
    rw [Int32.le_iff_toInt_le, i32_toInt (by omega)]
    exact Int.natCast_nonneg _
  · rw [if_neg]
    · rw [← Int32.toInt_inj, Int32.toInt_sub, e, i32_toInt (by omega), show (0 : Int32).toInt = 0 from rfl]
      rw [Int.bmod_eq_of_le (by omega) (by omega)]
      omega
    · rw [Int32.le_iff_toInt_le, e, show (0 : Int32).toInt = 0 from rfl]
      omega
theorem sok_gt {D K : Nat → Int32} {R S : Int32} {i j a c ki kj re sp : Nat} (ha : D j = Int32.ofNat a) (hc : D i = Int32.ofNat c) (hki : K i = Int32.ofNat ki) (hkj : K j = Int32.ofNat kj) (hre : R = Int32.ofNat re) (hsp : S = Int32.ofNat sp) (h : c < a) (la : a ≤ 999) (lc : c ≤ 999) (lki : ki ≤ 9) (lkj : kj ≤ 9) (lre : re ≤ 100) (lsp : sp ≤ 100) : sOk D K R S i j = (decide (re ≤ a - c) && (decide (kj ≠ 9) || decide (sp < a - c))) := by
  have e1 : (D j).toInt = a := by rw [ha, i32_toInt (by omega)]
  have e2 : (D i).toInt = c := by rw [hc, i32_toInt (by omega)]
  have e3 : (K j).toInt = kj := by rw [hkj, i32_toInt (by omega)]
  have e4 : R.toInt = re := by rw [hre, i32_toInt (by omega)]
  have e5 : S.toInt = sp := by rw [hsp, i32_toInt (by omega)]
  unfold sOk
  have hlt : (D i).toInt < (D j).toInt := by omega
  simp only [if_pos hlt]
  simp only [e1, e2, e3, e4, e5]
  congr 1
  · exact decide_eq_decide.mpr (by omega)
  · congr 1
    · exact decide_eq_decide.mpr (by omega)
    · exact decide_eq_decide.mpr (by omega)
theorem sok_le {D K : Nat → Int32} {R S : Int32} {i j a c ki kj re sp : Nat} (ha : D j = Int32.ofNat a) (hc : D i = Int32.ofNat c) (hki : K i = Int32.ofNat ki) (hkj : K j = Int32.ofNat kj) (hre : R = Int32.ofNat re) (hsp : S = Int32.ofNat sp) (h : ¬ c < a) (la : a ≤ 999) (lc : c ≤ 999) (lki : ki ≤ 9) (lkj : kj ≤ 9) (lre : re ≤ 100) (lsp : sp ≤ 100) : sOk D K R S i j = (decide (re ≤ c - a) && (decide (ki ≠ 9) || decide (sp < c - a))) := by
  have e1 : (D j).toInt = a := by rw [ha, i32_toInt (by omega)]
  have e2 : (D i).toInt = c := by rw [hc, i32_toInt (by omega)]
  have e3 : (K i).toInt = ki := by rw [hki, i32_toInt (by omega)]
  have e4 : R.toInt = re := by rw [hre, i32_toInt (by omega)]
  have e5 : S.toInt = sp := by rw [hsp, i32_toInt (by omega)]
  unfold sOk
  have hlt : ¬ (D i).toInt < (D j).toInt := by omega
  simp only [if_neg hlt]
  simp only [e1, e2, e3, e4, e5]
  congr 1
  · exact decide_eq_decide.mpr (by omega)
  · congr 1
    · exact decide_eq_decide.mpr (by omega)
    · exact decide_eq_decide.mpr (by omega)
theorem c_share {ml : Nat → Nat → Int64} {i j a c ki kj re sp : Nat} (hj : j < 8) (hi : i < 8) (ha : mi 61 j = Int32.ofNat a) (hc : mi 61 i = Int32.ofNat c) (hki : mi 62 i = Int32.ofNat ki) (hkj : mi 62 j = Int32.ofNat kj) (hre : mi 60 4 = Int32.ofNat re) (hsp : mi 60 5 = Int32.ofNat sp) (la : a ≤ 999) (lc : c ≤ 999) (lki : ki ≤ 9) (lkj : kj ≤ 9) (lre : re ≤ 100) (lsp : sp ≤ 100) (hQ : Q (some (.int (bI (sOk (mi 61) (mi 62) (mi 60 4) (mi 60 5) i j)))) (am_shT, mrL b, mi, ml)) : am_wp X d 77 0 [.ref 60, .int (Int32.ofNat (j)), .int (Int32.ofNat (i)), .retAddr 0, .retAddr 0] [] (am_shT, mrL b, mi, ml) Q := by
  refine wi_aload_n rfl rfl ?_
  refine wi_getR rfl (kd_60 ..) (rd_60_0 _) ?_
  refine wi_iload_n rfl rfl ?_
  refine wn_iaload (q := j) (v := (Int32.ofNat (a))) rfl (ln_61 ..) rfl (by omega) (by decide) (by decide) (by decide) ha ?_
  refine wi_aload_n rfl rfl ?_
  refine wi_getR rfl (kd_60 ..) (rd_60_0 _) ?_
  refine wi_iload_n rfl rfl ?_
  refine wn_iaload (q := i) (v := (Int32.ofNat (c))) rfl (ln_61 ..) rfl (by omega) (by decide) (by decide) (by decide) hc ?_
  refine wi_icmp_le rfl (fun g1 => ?_) (fun g1 => ?_)
  · replace g1 := (le_n (a := a) (b := c) rfl rfl (by omega) (by omega)).mp g1
    refine wi_iload_n rfl rfl ?_
    refine wi_istore_n (l' := [.ref 60, .int (Int32.ofNat (j)), .int (Int32.ofNat (i)), .int (Int32.ofNat (i)), .retAddr 0]) rfl (Nat.le_of_ble_eq_true rfl) rfl rfl ?_
    refine wi_aload_n rfl rfl ?_
    refine wi_getR rfl (kd_60 ..) (rd_60_0 _) ?_
    refine wi_iload_n rfl rfl ?_
    refine wn_iaload (q := j) (v := (Int32.ofNat (a))) rfl (ln_61 ..) rfl (by omega) (by decide) (by decide) (by decide) ha ?_
    refine wi_aload_n rfl rfl ?_
    refine wi_getR rfl (kd_60 ..) (rd_60_0 _) ?_
    refine wi_iload_n rfl rfl ?_
    refine wn_iaload (q := i) (v := (Int32.ofNat (c))) rfl (ln_61 ..) rfl (by omega) (by decide) (by decide) (by decide) hc ?_
    refine wi_isub rfl ?_
    refine wi_abs rfl rfl ?_
    rw [abs_le (by omega) (by omega) (by omega)]
    refine wi_istore (l' := [.ref 60, .int (Int32.ofNat (j)), .int (Int32.ofNat (i)), .int (Int32.ofNat (i)), .int (Int32.ofNat (c - a))]) rfl (Nat.le_of_ble_eq_true rfl) rfl rfl ?_
    refine wi_iload rfl rfl ?_
    refine wi_aload_n rfl rfl ?_
    refine wi_getIv (v := (Int32.ofNat (re))) rfl (kd_60 ..) hre ?_
    refine wi_icmp_lt rfl (fun g2 => ?_) (fun g2 => ?_)
    · replace g2 := (lt_n (a := c - a) (b := re) rfl rfl (by omega) (by omega)).mp g2
      refine wi_iconst (x := 0) rfl rfl ?_
      refine wi_iret rfl (by decide) ?_
      rw [sok_le ha hc hki hkj hre hsp (by omega) (by omega) (by omega) (by omega) (by omega) (by omega) (by omega)] at hQ
      rw [show (decide (re ≤ c - a) && (decide (ki ≠ 9) || decide (sp < c - a))) = false from by
        simp only [Bool.and_eq_false_iff, Bool.or_eq_false_iff, decide_eq_true_eq, decide_eq_false_iff_not]
        omega] at hQ
      exact hQ
    · replace g2 := (not_congr (lt_n (a := c - a) (b := re) rfl rfl (by omega) (by omega))).mp g2
      refine wi_aload_n rfl rfl ?_
      refine wi_getR rfl (kd_60 ..) (rd_60_1 _) ?_
      refine wi_iload_n rfl rfl ?_
      refine wn_iaload (q := i) (v := Int32.ofNat ki) rfl (ln_62 ..) rfl (by omega) (by decide) (by decide) (by decide) hki ?_
      refine wi_bipush (x := 9) rfl rfl ?_
      refine wi_icmp_ne rfl (fun g3 => ?_) (fun g3 => ?_)
      · replace g3 := (ne_n (a := ki) (b := 9) rfl (rfl : (9 : Int32) = Int32.ofNat 9) (by omega) (by omega)).mp g3
        refine wi_iconst (x := 1) rfl rfl ?_
        refine wi_goto rfl ?_
        refine wi_iret rfl (by decide) ?_
        rw [sok_le ha hc hki hkj hre hsp (by omega) (by omega) (by omega) (by omega) (by omega) (by omega) (by omega)] at hQ
        rw [show (decide (re ≤ c - a) && (decide (ki ≠ 9) || decide (sp < c - a))) = true from by
          simp only [Bool.and_eq_true, Bool.or_eq_true, decide_eq_true_eq, decide_eq_false_iff_not]
          omega] at hQ
        exact hQ
      · replace g3 := (not_congr (ne_n (a := ki) (b := 9) rfl (rfl : (9 : Int32) = Int32.ofNat 9) (by omega) (by omega))).mp g3
        refine wi_iload rfl rfl ?_
        refine wi_aload_n rfl rfl ?_
        refine wi_getIv (v := (Int32.ofNat (sp))) rfl (kd_60 ..) hsp ?_
        refine wi_icmp_le rfl (fun g4 => ?_) (fun g4 => ?_)
        · replace g4 := (le_n (a := c - a) (b := sp) rfl rfl (by omega) (by omega)).mp g4
          refine wi_iconst (x := 0) rfl rfl ?_
          refine wi_iret rfl (by decide) ?_
          rw [sok_le ha hc hki hkj hre hsp (by omega) (by omega) (by omega) (by omega) (by omega) (by omega) (by omega)] at hQ
          rw [show (decide (re ≤ c - a) && (decide (ki ≠ 9) || decide (sp < c - a))) = false from by
            simp only [Bool.and_eq_false_iff, Bool.or_eq_false_iff, decide_eq_true_eq, decide_eq_false_iff_not]
            omega] at hQ
          exact hQ
        · replace g4 := (not_congr (le_n (a := c - a) (b := sp) rfl rfl (by omega) (by omega))).mp g4
          refine wi_iconst (x := 1) rfl rfl ?_
          refine wi_goto rfl ?_
          refine wi_iret rfl (by decide) ?_
          rw [sok_le ha hc hki hkj hre hsp (by omega) (by omega) (by omega) (by omega) (by omega) (by omega) (by omega)] at hQ
          rw [show (decide (re ≤ c - a) && (decide (ki ≠ 9) || decide (sp < c - a))) = true from by
            simp only [Bool.and_eq_true, Bool.or_eq_true, decide_eq_true_eq, decide_eq_false_iff_not]
            omega] at hQ
          exact hQ
  · replace g1 := (not_congr (le_n (a := a) (b := c) rfl rfl (by omega) (by omega))).mp g1
    refine wi_iload_n rfl rfl ?_
    refine wi_goto rfl ?_
    refine wi_istore_n (l' := [.ref 60, .int (Int32.ofNat (j)), .int (Int32.ofNat (i)), .int (Int32.ofNat (j)), .retAddr 0]) rfl (Nat.le_of_ble_eq_true rfl) rfl rfl ?_
    refine wi_aload_n rfl rfl ?_
    refine wi_getR rfl (kd_60 ..) (rd_60_0 _) ?_
    refine wi_iload_n rfl rfl ?_
    refine wn_iaload (q := j) (v := (Int32.ofNat (a))) rfl (ln_61 ..) rfl (by omega) (by decide) (by decide) (by decide) ha ?_
    refine wi_aload_n rfl rfl ?_
    refine wi_getR rfl (kd_60 ..) (rd_60_0 _) ?_
    refine wi_iload_n rfl rfl ?_
    refine wn_iaload (q := i) (v := (Int32.ofNat (c))) rfl (ln_61 ..) rfl (by omega) (by decide) (by decide) (by decide) hc ?_
    refine wi_isub rfl ?_
    refine wi_abs rfl rfl ?_
    rw [abs_gt (by omega) (by omega) (by omega)]
    refine wi_istore (l' := [.ref 60, .int (Int32.ofNat (j)), .int (Int32.ofNat (i)), .int (Int32.ofNat (j)), .int (Int32.ofNat (a - c))]) rfl (Nat.le_of_ble_eq_true rfl) rfl rfl ?_
    refine wi_iload rfl rfl ?_
    refine wi_aload_n rfl rfl ?_
    refine wi_getIv (v := (Int32.ofNat (re))) rfl (kd_60 ..) hre ?_
    refine wi_icmp_lt rfl (fun g5 => ?_) (fun g5 => ?_)
    · replace g5 := (lt_n (a := a - c) (b := re) rfl rfl (by omega) (by omega)).mp g5
      refine wi_iconst (x := 0) rfl rfl ?_
      refine wi_iret rfl (by decide) ?_
      rw [sok_gt ha hc hki hkj hre hsp (by omega) (by omega) (by omega) (by omega) (by omega) (by omega) (by omega)] at hQ
      rw [show (decide (re ≤ a - c) && (decide (kj ≠ 9) || decide (sp < a - c))) = false from by
        simp only [Bool.and_eq_false_iff, Bool.or_eq_false_iff, decide_eq_true_eq, decide_eq_false_iff_not]
        omega] at hQ
      exact hQ
    · replace g5 := (not_congr (lt_n (a := a - c) (b := re) rfl rfl (by omega) (by omega))).mp g5
      refine wi_aload_n rfl rfl ?_
      refine wi_getR rfl (kd_60 ..) (rd_60_1 _) ?_
      refine wi_iload_n rfl rfl ?_
      refine wn_iaload (q := j) (v := Int32.ofNat kj) rfl (ln_62 ..) rfl (by omega) (by decide) (by decide) (by decide) hkj ?_
      refine wi_bipush (x := 9) rfl rfl ?_
      refine wi_icmp_ne rfl (fun g6 => ?_) (fun g6 => ?_)
      · replace g6 := (ne_n (a := kj) (b := 9) rfl (rfl : (9 : Int32) = Int32.ofNat 9) (by omega) (by omega)).mp g6
        refine wi_iconst (x := 1) rfl rfl ?_
        refine wi_goto rfl ?_
        refine wi_iret rfl (by decide) ?_
        rw [sok_gt ha hc hki hkj hre hsp (by omega) (by omega) (by omega) (by omega) (by omega) (by omega) (by omega)] at hQ
        rw [show (decide (re ≤ a - c) && (decide (kj ≠ 9) || decide (sp < a - c))) = true from by
          simp only [Bool.and_eq_true, Bool.or_eq_true, decide_eq_true_eq, decide_eq_false_iff_not]
          omega] at hQ
        exact hQ
      · replace g6 := (not_congr (ne_n (a := kj) (b := 9) rfl (rfl : (9 : Int32) = Int32.ofNat 9) (by omega) (by omega))).mp g6
        refine wi_iload rfl rfl ?_
        refine wi_aload_n rfl rfl ?_
        refine wi_getIv (v := (Int32.ofNat (sp))) rfl (kd_60 ..) hsp ?_
        refine wi_icmp_le rfl (fun g7 => ?_) (fun g7 => ?_)
        · replace g7 := (le_n (a := a - c) (b := sp) rfl rfl (by omega) (by omega)).mp g7
          refine wi_iconst (x := 0) rfl rfl ?_
          refine wi_iret rfl (by decide) ?_
          rw [sok_gt ha hc hki hkj hre hsp (by omega) (by omega) (by omega) (by omega) (by omega) (by omega) (by omega)] at hQ
          rw [show (decide (re ≤ a - c) && (decide (kj ≠ 9) || decide (sp < a - c))) = false from by
            simp only [Bool.and_eq_false_iff, Bool.or_eq_false_iff, decide_eq_true_eq, decide_eq_false_iff_not]
            omega] at hQ
          exact hQ
        · replace g7 := (not_congr (le_n (a := a - c) (b := sp) rfl rfl (by omega) (by omega))).mp g7
          refine wi_iconst (x := 1) rfl rfl ?_
          refine wi_goto rfl ?_
          refine wi_iret rfl (by decide) ?_
          rw [sok_gt ha hc hki hkj hre hsp (by omega) (by omega) (by omega) (by omega) (by omega) (by omega) (by omega)] at hQ
          rw [show (decide (re ≤ a - c) && (decide (kj ≠ 9) || decide (sp < a - c))) = true from by
            simp only [Bool.and_eq_true, Bool.or_eq_true, decide_eq_true_eq, decide_eq_false_iff_not]
            omega] at hQ
          exact hQ
theorem fo_in {q re sp z j : Nat} {ml : Nat → Nat → Int64} (h3 : mi 60 3 = Int32.ofNat q) (hq : q ≤ 8) (hDK : ∀ k, k < q → mi 61 k = Int32.ofNat (clN (mi 61) k) ∧ clN (mi 61) k ≤ 999 ∧ mi 62 k = Int32.ofNat (clN (mi 62) k) ∧ clN (mi 62) k ≤ 9) (hre : mi 60 4 = Int32.ofNat re) (hsp : mi 60 5 = Int32.ofNat sp) (lre : re ≤ 100) (lsp : sp ≤ 100) (hz : z < 256) (hj : j < q) (hN : allB (fun i => !(z.testBit i && z.testBit (j)) || sOk (mi 61) (mi 62) (mi 60 4) (mi 60 5) i j) j = false → Q (some (.int 0)) (am_shT, mrL b, mi, ml)) (hQ : allB (fun i => !(z.testBit i && z.testBit (j)) || sOk (mi 61) (mi 62) (mi 60 4) (mi 60 5) i j) j = true → ∀ v4 : Value, am_wp X (d + 1) 76 40 [.ref 60, .int (Int32.ofNat (z)), .int (Int32.ofNat (j)), .int (Int32.ofNat (j)), v4] [] (am_shT, mrL b, mi, ml) Q) : ∀ r i (v4 : Value), i + r = j → allB (fun i => !(z.testBit i && z.testBit (j)) || sOk (mi 61) (mi 62) (mi 60 4) (mi 60 5) i j) i = true → am_wp X (d + 1) 76 8 [.ref 60, .int (Int32.ofNat (z)), .int (Int32.ofNat (j)), .int (Int32.ofNat (i)), v4] [] (am_shT, mrL b, mi, ml) Q := by
  intro r
  induction r with
  | zero =>
    intro i v4 hi hpre
    refine wi_iload_n rfl rfl ?_
    refine wi_iload_n rfl rfl ?_
    refine wi_icmp_ge rfl (fun _ => ?_) (fun h9 => absurd trivial (by exfalso; have h8 := (not_congr (le_n (a := j) (b := i) rfl rfl (by omega) (by omega))).mp h9; omega))
    obtain rfl : i = j := by omega
    exact hQ hpre _
  | succ r ih =>
    intro i v4 hi hpre
    have di := hDK i (by omega)
    have dj := hDK j hj
    have tbj : z.testBit j = decide (z / 2 ^ j % 2 = 1) := Nat.testBit_eq_decide_div_mod_eq
    have tbi : z.testBit i = decide (z / 2 ^ i % 2 = 1) := Nat.testBit_eq_decide_div_mod_eq
    refine wi_iload_n rfl rfl ?_
    refine wi_iload_n rfl rfl ?_
    refine wi_icmp_ge rfl (fun h9 => absurd trivial (by exfalso; have h8 := (le_n (a := j) (b := i) rfl rfl (by omega) (by omega)).mp h9; omega)) (fun _ => ?_)
    refine wi_iload_n rfl rfl ?_
    refine wi_iload_n rfl rfl ?_
    refine wi_ishr rfl ?_
    refine wi_iconst (x := 1) rfl rfl ?_
    refine wi_iand rfl ?_
    rw [show ((Int32.ofNat z >>> (Int32.ofNat j &&& 31)) &&& 1 : Int32) = Int32.ofNat (z / 2 ^ j % 2) from bit_n (by omega) (by omega)]
    refine wi_iconst (x := 1) rfl rfl ?_
    refine wi_icmp_ne rfl (fun g1 => ?_) (fun g1 => ?_)
    · replace g1 := (ne_n (a := z / 2 ^ j % 2) (b := 1) rfl (rfl : (1 : Int32) = Int32.ofNat 1) (by omega) (by omega)).mp g1
      refine wi_iconst (x := 0) rfl rfl ?_
      refine wi_istore (l' := [.ref 60, .int (Int32.ofNat (z)), .int (Int32.ofNat (j)), .int (Int32.ofNat (i)), .int (0 : Int32)]) rfl (Nat.le_of_ble_eq_true rfl) rfl rfl ?_
      refine wi_iload rfl rfl ?_
      refine wi_if_eq rfl (fun _ => ?_) (fun h9 => absurd (by decide) h9)
      refine wi_iinc (z := (Int32.ofNat (i + 1))) rfl rfl rfl (add_n (a := i) (b := 1) rfl rfl) rfl ?_
      refine wi_goto rfl ?_
      have e8 : (fun i => !(z.testBit i && z.testBit (j)) || sOk (mi 61) (mi 62) (mi 60 4) (mi 60 5) i j) i = true := by
        show (!(z.testBit i && z.testBit j) || sOk (mi 61) (mi 62) (mi 60 4) (mi 60 5) i j) = true
        rw [tbj, decide_eq_false (by omega)]
        simp
      refine ih (i + 1) _ (by omega) ?_
      show (allB (fun i => !(z.testBit i && z.testBit (j)) || sOk (mi 61) (mi 62) (mi 60 4) (mi 60 5) i j) i && (fun i => !(z.testBit i && z.testBit (j)) || sOk (mi 61) (mi 62) (mi 60 4) (mi 60 5) i j) i) = true
      rw [hpre, e8]
      rfl
    · replace g1 := (not_congr (ne_n (a := z / 2 ^ j % 2) (b := 1) rfl (rfl : (1 : Int32) = Int32.ofNat 1) (by omega) (by omega))).mp g1
      refine wi_iload_n rfl rfl ?_
      refine wi_iload_n rfl rfl ?_
      refine wi_ishr rfl ?_
      refine wi_iconst (x := 1) rfl rfl ?_
      refine wi_iand rfl ?_
      rw [show ((Int32.ofNat z >>> (Int32.ofNat i &&& 31)) &&& 1 : Int32) = Int32.ofNat (z / 2 ^ i % 2) from bit_n (by omega) (by omega)]
      refine wi_iconst (x := 1) rfl rfl ?_
      refine wi_icmp_ne rfl (fun g2 => ?_) (fun g2 => ?_)
      · replace g2 := (ne_n (a := z / 2 ^ i % 2) (b := 1) rfl (rfl : (1 : Int32) = Int32.ofNat 1) (by omega) (by omega)).mp g2
        refine wi_iconst (x := 0) rfl rfl ?_
        refine wi_istore (l' := [.ref 60, .int (Int32.ofNat (z)), .int (Int32.ofNat (j)), .int (Int32.ofNat (i)), .int (0 : Int32)]) rfl (Nat.le_of_ble_eq_true rfl) rfl rfl ?_
        refine wi_iload rfl rfl ?_
        refine wi_if_eq rfl (fun _ => ?_) (fun h9 => absurd (by decide) h9)
        refine wi_iinc (z := (Int32.ofNat (i + 1))) rfl rfl rfl (add_n (a := i) (b := 1) rfl rfl) rfl ?_
        refine wi_goto rfl ?_
        have e8 : (fun i => !(z.testBit i && z.testBit (j)) || sOk (mi 61) (mi 62) (mi 60 4) (mi 60 5) i j) i = true := by
          show (!(z.testBit i && z.testBit j) || sOk (mi 61) (mi 62) (mi 60 4) (mi 60 5) i j) = true
          rw [tbi, decide_eq_false (by omega)]
          simp
        refine ih (i + 1) _ (by omega) ?_
        show (allB (fun i => !(z.testBit i && z.testBit (j)) || sOk (mi 61) (mi 62) (mi 60 4) (mi 60 5) i j) i && (fun i => !(z.testBit i && z.testBit (j)) || sOk (mi 61) (mi 62) (mi 60 4) (mi 60 5) i j) i) = true
        rw [hpre, e8]
        rfl
      · replace g2 := (not_congr (ne_n (a := z / 2 ^ i % 2) (b := 1) rfl (rfl : (1 : Int32) = Int32.ofNat 1) (by omega) (by omega))).mp g2
        refine wi_iconst (x := 1) rfl rfl ?_
        refine wi_goto rfl ?_
        refine wi_istore (l' := [.ref 60, .int (Int32.ofNat (z)), .int (Int32.ofNat (j)), .int (Int32.ofNat (i)), .int (1 : Int32)]) rfl (Nat.le_of_ble_eq_true rfl) rfl rfl ?_
        refine wi_iload rfl rfl ?_
        refine wi_if_eq rfl (fun h9 => absurd h9 (by decide)) (fun _ => ?_)
        refine wi_aload_n rfl rfl ?_
        refine wi_iload_n rfl rfl ?_
        refine wi_iload_n rfl rfl ?_
        refine wi_callV2 rfl (by decide) (by decide) rfl (kd_60 ..) rfl rfl rfl (c_share (by omega) (by omega) dj.1 di.1 di.2.2.1 dj.2.2.1 hre hsp dj.2.1 di.2.1 di.2.2.2 dj.2.2.2 lre lsp ?_)
        refine wi_if_ne rfl (fun g3 => ?_) (fun g3 => ?_)
        · skip
          refine wi_iinc (z := (Int32.ofNat (i + 1))) rfl rfl rfl (add_n (a := i) (b := 1) rfl rfl) rfl ?_
          refine wi_goto rfl ?_
          have e8 : (fun i => !(z.testBit i && z.testBit (j)) || sOk (mi 61) (mi 62) (mi 60 4) (mi 60 5) i j) i = true := by
            show (!(z.testBit i && z.testBit j) || sOk (mi 61) (mi 62) (mi 60 4) (mi 60 5) i j) = true
            rw [bI_nz g3]
            exact Bool.or_true _
          refine ih (i + 1) _ (by omega) ?_
          show (allB (fun i => !(z.testBit i && z.testBit (j)) || sOk (mi 61) (mi 62) (mi 60 4) (mi 60 5) i j) i && (fun i => !(z.testBit i && z.testBit (j)) || sOk (mi 61) (mi 62) (mi 60 4) (mi 60 5) i j) i) = true
          rw [hpre, e8]
          rfl
        · replace g3 := Classical.not_not.mp g3
          refine wi_iconst (x := 0) rfl rfl ?_
          refine wi_iret rfl (by decide) ?_
          have e8 : (fun i => !(z.testBit i && z.testBit (j)) || sOk (mi 61) (mi 62) (mi 60 4) (mi 60 5) i j) i = false := by
            show (!(z.testBit i && z.testBit j) || sOk (mi 61) (mi 62) (mi 60 4) (mi 60 5) i j) = false
            rw [bI_z g3, tbj, tbi, decide_eq_true (by omega), decide_eq_true (by omega)]
            rfl
          exact hN (allB_f e8 (by omega))
theorem fo_out {q re sp z : Nat} {ml : Nat → Nat → Int64} (h3 : mi 60 3 = Int32.ofNat q) (hq : q ≤ 8) (hDK : ∀ k, k < q → mi 61 k = Int32.ofNat (clN (mi 61) k) ∧ clN (mi 61) k ≤ 999 ∧ mi 62 k = Int32.ofNat (clN (mi 62) k) ∧ clN (mi 62) k ≤ 9) (hre : mi 60 4 = Int32.ofNat re) (hsp : mi 60 5 = Int32.ofNat sp) (lre : re ≤ 100) (lsp : sp ≤ 100) (hz : z < 256) (hQ : Q (some (.int (bI (allB (fun j => allB (fun i => !(z.testBit i && z.testBit j) || sOk (mi 61) (mi 62) (mi 60 4) (mi 60 5) i j) j) q)))) (am_shT, mrL b, mi, ml)) : ∀ r j (v3 v4 : Value), j + r = q → allB (fun j => allB (fun i => !(z.testBit i && z.testBit j) || sOk (mi 61) (mi 62) (mi 60 4) (mi 60 5) i j) j) j = true → am_wp X (d + 1) 76 2 [.ref 60, .int (Int32.ofNat (z)), .int (Int32.ofNat (j)), v3, v4] [] (am_shT, mrL b, mi, ml) Q := by
  intro r
  induction r with
  | zero =>
    intro j v3 v4 hi hpre
    refine wi_iload_n rfl rfl ?_
    refine wi_aload_n rfl rfl ?_
    refine wi_getIv (v := (Int32.ofNat (q))) rfl (kd_60 ..) h3 ?_
    refine wi_icmp_ge rfl (fun _ => ?_) (fun h9 => absurd trivial (by exfalso; have h8 := (not_congr (le_n (a := q) (b := j) rfl rfl (by omega) (by omega))).mp h9; omega))
    refine wi_iconst (x := 1) rfl rfl ?_
    refine wi_iret rfl (by decide) ?_
    obtain rfl : j = q := by omega
    rw [hpre] at hQ
    exact hQ
  | succ r ih =>
    intro j v3 v4 hi hpre
    refine wi_iload_n rfl rfl ?_
    refine wi_aload_n rfl rfl ?_
    refine wi_getIv (v := (Int32.ofNat (q))) rfl (kd_60 ..) h3 ?_
    refine wi_icmp_ge rfl (fun h9 => absurd trivial (by exfalso; have h8 := (le_n (a := q) (b := j) rfl rfl (by omega) (by omega)).mp h9; omega)) (fun _ => ?_)
    refine wi_iconst (x := 0) rfl rfl ?_
    refine wi_istore_n (l' := [.ref 60, .int (Int32.ofNat (z)), .int (Int32.ofNat (j)), .int (0 : Int32), v4]) rfl (Nat.le_of_ble_eq_true rfl) rfl rfl ?_
    refine fo_in h3 hq hDK hre hsp lre lsp hz (by omega) (fun h8 => ?_) (fun h8 v9 => ?_) j 0 _ (by omega) rfl
    · rw [show allB (fun j => allB (fun i => !(z.testBit i && z.testBit j) || sOk (mi 61) (mi 62) (mi 60 4) (mi 60 5) i j) j) q = false from allB_f (i := j) h8 (by omega)] at hQ
      exact hQ
    refine wi_iinc (z := (Int32.ofNat (j + 1))) rfl rfl rfl (add_n (a := j) (b := 1) rfl rfl) rfl ?_
    refine wi_goto rfl ?_
    refine ih (j + 1) _ _ (by omega) ?_
    show (allB (fun j => allB (fun i => !(z.testBit i && z.testBit j) || sOk (mi 61) (mi 62) (mi 60 4) (mi 60 5) i j) j) j && (fun j => allB (fun i => !(z.testBit i && z.testBit j) || sOk (mi 61) (mi 62) (mi 60 4) (mi 60 5) i j) j) j) = true
    rw [hpre]
    exact h8
theorem c_fits {q re sp z : Nat} {ml : Nat → Nat → Int64} (h3 : mi 60 3 = Int32.ofNat q) (hq : q ≤ 8) (hDK : ∀ k, k < q → mi 61 k = Int32.ofNat (clN (mi 61) k) ∧ clN (mi 61) k ≤ 999 ∧ mi 62 k = Int32.ofNat (clN (mi 62) k) ∧ clN (mi 62) k ≤ 9) (hre : mi 60 4 = Int32.ofNat re) (hsp : mi 60 5 = Int32.ofNat sp) (lre : re ≤ 100) (lsp : sp ≤ 100) (hz : z < 256) (hQ : Q (some (.int (bI (fitB q (mi 61) (mi 62) (mi 60 4) (mi 60 5) z)))) (am_shT, mrL b, mi, ml)) : am_wp X (d + 1) 76 0 [.ref 60, .int (Int32.ofNat (z)), .retAddr 0, .retAddr 0, .retAddr 0] [] (am_shT, mrL b, mi, ml) Q := by
  refine wi_iconst (x := 0) rfl rfl ?_
  refine wi_istore_n (l' := [.ref 60, .int (Int32.ofNat (z)), .int (0 : Int32), .retAddr 0, .retAddr 0]) rfl (Nat.le_of_ble_eq_true rfl) rfl rfl ?_
  exact fo_out h3 hq hDK hre hsp lre lsp hz hQ q 0 _ _ (by omega) rfl
theorem oL_m1 {v : Option Nat} (hv : ∀ x, v = some x → x < 4611686018427387904) : (lg_cmp (oL v) (-1) = 0) ↔ v = none := by
  rcases v with _ | x
  · exact ⟨fun _ => rfl, fun _ => by show lg_cmp (-1) (-1) = 0; decide⟩
  · refine ⟨fun h => ?_, fun h => by cases h⟩
    exfalso
    have h1 : lg_cmp (Int64.ofNat x) (-1) = 0 := h
    have hx := hv x rfl
    unfold lg_cmp at h1
    have h2 : ¬ Int64.ofNat x < -1 := by
      rw [Int64.lt_iff_toInt_lt, l_toInt (by omega), show (-1 : Int64).toInt = -1 from rfl]
      omega
    have h3 : ¬ Int64.ofNat x = -1 := fun h3 => by
      have h4 := congrArg Int64.toInt h3
      rw [l_toInt (by omega), show (-1 : Int64).toInt = -1 from rfl] at h4
      omega
    have h5 : Int64.ofNat x > -1 := by
      show -1 < Int64.ofNat x
      rw [Int64.lt_iff_toInt_lt, l_toInt (by omega), show (-1 : Int64).toInt = -1 from rfl]
      omega
    rw [if_pos h5] at h1
    exact absurd h1 (by decide)
theorem lgm1 {x : Nat} (hx : x < 4611686018427387904) : ¬ lg_cmp (Int64.ofNat x) (-1) = 0 := fun h => by
  have h1 := (oL_m1 (v := some x) (fun y hy => by cases hy; exact hx)).mp h
  cases h1
theorem max_m1 {y : Nat} (hy : y < 4611686018427387904) : (if Int64.ofNat y < (-1 : Int64) then (-1 : Int64) else Int64.ofNat y) = Int64.ofNat y := by
  rw [if_neg]
  rw [Int64.lt_iff_toInt_lt, l_toInt (by omega), show (-1 : Int64).toInt = -1 from rfl]
  omega
theorem bw_lp {z : Nat} {ml : Nat → Nat → Int64} {fit : Nat → Bool} {g : Nat → Nat} {V : Nat → Option Nat} (hz : z < 256) (hF : ∀ p, p ≤ z → mi 72 p = bI (fit p)) (hG : ∀ p, p ≤ z → ml 73 p = Int64.ofNat (g p)) (hGb : ∀ p, g p < 1099511627776) (hV : ∀ p, p ≤ z → ml 74 p = oL (V p)) (hVb : ∀ p x, p ≤ z → V p = some x → x < 1099511627776) : ∀ r i p (a : Option Nat) (v6 : Value), i + r = 256 → p ≤ z → (∀ x, a = some x → x < 4398046511104) → Q (some (.long (oL ((slN r z p).foldl (stD fit g V z) a)))) (am_shT, mrL b, mi, ml) → am_wp X d 73 9 [.ref 60, .int (Int32.ofNat (z)), .long (oL a), .retAddr 0, .int (Int32.ofNat (p)), .int (Int32.ofNat (i)), v6, .retAddr 0] [] (am_shT, mrL b, mi, ml) Q := by
  intro r
  induction r with
  | zero =>
    intro i p a v6 hi hp ha hQ
    refine wi_iload rfl rfl ?_
    refine wi_sipush (x := 256) rfl rfl ?_
    refine wi_icmp_ge rfl (fun _ => ?_) (fun h9 => absurd trivial (by exfalso; have h8 := (not_congr (le_n (a := 256) (b := i) (rfl : (256 : Int32) = Int32.ofNat 256) rfl (by omega) (by omega))).mp h9; omega))
    refine wi_lload_n rfl rfl ?_
    refine wi_lret rfl ?_
    exact hQ
  | succ r ih =>
    intro i p a v6 hi hp ha hQ
    by_cases hp0 : p = 0
    · skip
      refine wi_iload rfl rfl ?_
      refine wi_sipush (x := 256) rfl rfl ?_
      refine wi_icmp_ge rfl (fun h9 => absurd trivial (by exfalso; have h8 := (le_n (a := 256) (b := i) (rfl : (256 : Int32) = Int32.ofNat 256) rfl (by omega) (by omega)).mp h9; omega)) (fun _ => ?_)
      refine wi_iload rfl rfl ?_
      refine wi_if_le rfl (fun _ => ?_) (fun h9 => absurd trivial (by exfalso; have h8 := (not_congr (le_n (a := p) (b := 0) rfl (rfl : (0 : Int32) = Int32.ofNat 0) (by omega) (by omega))).mp h9; omega))
      refine wi_lload_n rfl rfl ?_
      refine wi_lret rfl ?_
      rw [slN, if_pos hp0] at hQ
      exact hQ
    · have hsd := sd_le (z := z) (p := p)
      have hgb := hGb p
      rcases a with _ | x
      · show am_wp X d 73 9 [.ref 60, .int (Int32.ofNat (z)), .long (-1 : Int64), .retAddr 0, .int (Int32.ofNat (p)), .int (Int32.ofNat (i)), v6, .retAddr 0] [] (am_shT, mrL b, mi, ml) Q
        cases hfp : fit p
        · have hf : mi 72 p = 0 := by rw [hF p (by omega), hfp]; rfl
          have hst : stD fit g V z none p = none := by
            unfold stD
            rw [hfp]
            rfl
          rcases hvv : V (sdN z p) with _ | v
          · have hv : ml 74 (sdN z p) = -1 := by rw [hV _ (by omega), hvv]; rfl
            refine wi_iload rfl rfl ?_
            refine wi_sipush (x := 256) rfl rfl ?_
            refine wi_icmp_ge rfl (fun h9 => absurd trivial (by exfalso; have h8 := (le_n (a := 256) (b := i) (rfl : (256 : Int32) = Int32.ofNat 256) rfl (by omega) (by omega)).mp h9; omega)) (fun _ => ?_)
            refine wi_iload rfl rfl ?_
            refine wi_if_le rfl (fun h9 => absurd trivial (by exfalso; have h8 := (le_n (a := p) (b := 0) rfl (rfl : (0 : Int32) = Int32.ofNat 0) (by omega) (by omega)).mp h9; omega)) (fun _ => ?_)
            refine wi_aload_n rfl rfl ?_
            refine wi_getR rfl (kd_60 ..) (rd_60_8 _) ?_
            refine wi_iload_n rfl rfl ?_
            refine wi_iload rfl rfl ?_
            refine wi_iconst (x := (-1)) rfl rfl ?_
            refine wi_ixor rfl ?_
            refine wi_iand rfl ?_
            rw [show (Int32.ofNat z &&& (Int32.ofNat p ^^^ -1) : Int32) = Int32.ofNat (sdN z p) from xornot]
            refine wn_laload (q := sdN z p) (lv := (-1 : Int64)) rfl (ln_74 ..) rfl (by omega) (by decide) hv ?_
            refine wi_lstore (l' := [.ref 60, .int (Int32.ofNat (z)), .long (-1 : Int64), .retAddr 0, .int (Int32.ofNat (p)), .int (Int32.ofNat (i)), .long (-1 : Int64), .retAddr 0]) rfl (Nat.le_of_ble_eq_true rfl) rfl rfl ?_
            refine wi_aload_n rfl rfl ?_
            refine wi_getR rfl (kd_60 ..) (rd_60_6 _) ?_
            refine wi_iload rfl rfl ?_
            refine wn_baload (q := p) (v := (0 : Int32)) rfl (Or.inr (ln_72 ..)) rfl (by omega) (by decide) hf ?_
            refine wi_if_eq rfl (fun _ => ?_) (fun h9 => absurd (by decide) h9)
            refine wi_iload rfl rfl ?_
            refine wi_iconst (x := 1) rfl rfl ?_
            refine wn_isub (z := (Int32.ofNat (p - 1))) rfl (sub_n (a := p) (b := 1) rfl (rfl : (1 : Int32) = Int32.ofNat 1) (by omega)) ?_
            refine wi_iload_n rfl rfl ?_
            refine wi_iand rfl ?_
            rw [show (Int32.ofNat (p - 1) &&& Int32.ofNat z : Int32) = Int32.ofNat ((p - 1) &&& z) from and_nn]
            refine wi_istore (l' := [.ref 60, .int (Int32.ofNat (z)), .long (-1 : Int64), .retAddr 0, .int (Int32.ofNat ((p - 1) &&& z)), .int (Int32.ofNat (i)), .long (-1 : Int64), .retAddr 0]) rfl (Nat.le_of_ble_eq_true rfl) rfl rfl ?_
            refine wi_iinc (z := (Int32.ofNat (i + 1))) rfl rfl rfl (add_n (a := i) (b := 1) rfl rfl) rfl ?_
            refine wi_goto rfl ?_
            rw [show (slN (r + 1) z p).foldl (stD fit g V z) none = (slN r z ((p - 1) &&& z)).foldl (stD fit g V z) none from by
              rw [slN, if_neg (by omega), List.foldl_cons, hst]] at hQ
            exact ih (i + 1) ((p - 1) &&& z) none _ (by omega) Nat.and_le_right (fun y hy => by cases hy) hQ
          · have hv : ml 74 (sdN z p) = Int64.ofNat v := by rw [hV _ (by omega), hvv]; rfl
            refine wi_iload rfl rfl ?_
            refine wi_sipush (x := 256) rfl rfl ?_
            refine wi_icmp_ge rfl (fun h9 => absurd trivial (by exfalso; have h8 := (le_n (a := 256) (b := i) (rfl : (256 : Int32) = Int32.ofNat 256) rfl (by omega) (by omega)).mp h9; omega)) (fun _ => ?_)
            refine wi_iload rfl rfl ?_
            refine wi_if_le rfl (fun h9 => absurd trivial (by exfalso; have h8 := (le_n (a := p) (b := 0) rfl (rfl : (0 : Int32) = Int32.ofNat 0) (by omega) (by omega)).mp h9; omega)) (fun _ => ?_)
            refine wi_aload_n rfl rfl ?_
            refine wi_getR rfl (kd_60 ..) (rd_60_8 _) ?_
            refine wi_iload_n rfl rfl ?_
            refine wi_iload rfl rfl ?_
            refine wi_iconst (x := (-1)) rfl rfl ?_
            refine wi_ixor rfl ?_
            refine wi_iand rfl ?_
            rw [show (Int32.ofNat z &&& (Int32.ofNat p ^^^ -1) : Int32) = Int32.ofNat (sdN z p) from xornot]
            refine wn_laload (q := sdN z p) (lv := (Int64.ofNat (v))) rfl (ln_74 ..) rfl (by omega) (by decide) hv ?_
            refine wi_lstore (l' := [.ref 60, .int (Int32.ofNat (z)), .long (-1 : Int64), .retAddr 0, .int (Int32.ofNat (p)), .int (Int32.ofNat (i)), .long (Int64.ofNat (v)), .retAddr 0]) rfl (Nat.le_of_ble_eq_true rfl) rfl rfl ?_
            refine wi_aload_n rfl rfl ?_
            refine wi_getR rfl (kd_60 ..) (rd_60_6 _) ?_
            refine wi_iload rfl rfl ?_
            refine wn_baload (q := p) (v := (0 : Int32)) rfl (Or.inr (ln_72 ..)) rfl (by omega) (by decide) hf ?_
            refine wi_if_eq rfl (fun _ => ?_) (fun h9 => absurd (by decide) h9)
            refine wi_iload rfl rfl ?_
            refine wi_iconst (x := 1) rfl rfl ?_
            refine wn_isub (z := (Int32.ofNat (p - 1))) rfl (sub_n (a := p) (b := 1) rfl (rfl : (1 : Int32) = Int32.ofNat 1) (by omega)) ?_
            refine wi_iload_n rfl rfl ?_
            refine wi_iand rfl ?_
            rw [show (Int32.ofNat (p - 1) &&& Int32.ofNat z : Int32) = Int32.ofNat ((p - 1) &&& z) from and_nn]
            refine wi_istore (l' := [.ref 60, .int (Int32.ofNat (z)), .long (-1 : Int64), .retAddr 0, .int (Int32.ofNat ((p - 1) &&& z)), .int (Int32.ofNat (i)), .long (Int64.ofNat (v)), .retAddr 0]) rfl (Nat.le_of_ble_eq_true rfl) rfl rfl ?_
            refine wi_iinc (z := (Int32.ofNat (i + 1))) rfl rfl rfl (add_n (a := i) (b := 1) rfl rfl) rfl ?_
            refine wi_goto rfl ?_
            rw [show (slN (r + 1) z p).foldl (stD fit g V z) none = (slN r z ((p - 1) &&& z)).foldl (stD fit g V z) none from by
              rw [slN, if_neg (by omega), List.foldl_cons, hst]] at hQ
            exact ih (i + 1) ((p - 1) &&& z) none _ (by omega) Nat.and_le_right (fun y hy => by cases hy) hQ
        · have hf : mi 72 p = 1 := by rw [hF p (by omega), hfp]; rfl
          rcases hvv : V (sdN z p) with _ | v
          · have hv : ml 74 (sdN z p) = -1 := by rw [hV _ (by omega), hvv]; rfl
            have hst : stD fit g V z none p = none := by
              unfold stD
              rw [hfp, hvv]
              rfl
            refine wi_iload rfl rfl ?_
            refine wi_sipush (x := 256) rfl rfl ?_
            refine wi_icmp_ge rfl (fun h9 => absurd trivial (by exfalso; have h8 := (le_n (a := 256) (b := i) (rfl : (256 : Int32) = Int32.ofNat 256) rfl (by omega) (by omega)).mp h9; omega)) (fun _ => ?_)
            refine wi_iload rfl rfl ?_
            refine wi_if_le rfl (fun h9 => absurd trivial (by exfalso; have h8 := (le_n (a := p) (b := 0) rfl (rfl : (0 : Int32) = Int32.ofNat 0) (by omega) (by omega)).mp h9; omega)) (fun _ => ?_)
            refine wi_aload_n rfl rfl ?_
            refine wi_getR rfl (kd_60 ..) (rd_60_8 _) ?_
            refine wi_iload_n rfl rfl ?_
            refine wi_iload rfl rfl ?_
            refine wi_iconst (x := (-1)) rfl rfl ?_
            refine wi_ixor rfl ?_
            refine wi_iand rfl ?_
            rw [show (Int32.ofNat z &&& (Int32.ofNat p ^^^ -1) : Int32) = Int32.ofNat (sdN z p) from xornot]
            refine wn_laload (q := sdN z p) (lv := (-1 : Int64)) rfl (ln_74 ..) rfl (by omega) (by decide) hv ?_
            refine wi_lstore (l' := [.ref 60, .int (Int32.ofNat (z)), .long (-1 : Int64), .retAddr 0, .int (Int32.ofNat (p)), .int (Int32.ofNat (i)), .long (-1 : Int64), .retAddr 0]) rfl (Nat.le_of_ble_eq_true rfl) rfl rfl ?_
            refine wi_aload_n rfl rfl ?_
            refine wi_getR rfl (kd_60 ..) (rd_60_6 _) ?_
            refine wi_iload rfl rfl ?_
            refine wn_baload (q := p) (v := (1 : Int32)) rfl (Or.inr (ln_72 ..)) rfl (by omega) (by decide) hf ?_
            refine wi_if_eq rfl (fun h9 => absurd h9 (by decide)) (fun _ => ?_)
            refine wi_lload rfl rfl ?_
            refine wi_ldc2_w (lx := (-1)) rfl rfl ?_
            refine wi_lcmp rfl ?_
            refine wi_if_eq rfl (fun _ => ?_) (fun h9 => absurd (by decide) h9)
            refine wi_iload rfl rfl ?_
            refine wi_iconst (x := 1) rfl rfl ?_
            refine wn_isub (z := (Int32.ofNat (p - 1))) rfl (sub_n (a := p) (b := 1) rfl (rfl : (1 : Int32) = Int32.ofNat 1) (by omega)) ?_
            refine wi_iload_n rfl rfl ?_
            refine wi_iand rfl ?_
            rw [show (Int32.ofNat (p - 1) &&& Int32.ofNat z : Int32) = Int32.ofNat ((p - 1) &&& z) from and_nn]
            refine wi_istore (l' := [.ref 60, .int (Int32.ofNat (z)), .long (-1 : Int64), .retAddr 0, .int (Int32.ofNat ((p - 1) &&& z)), .int (Int32.ofNat (i)), .long (-1 : Int64), .retAddr 0]) rfl (Nat.le_of_ble_eq_true rfl) rfl rfl ?_
            refine wi_iinc (z := (Int32.ofNat (i + 1))) rfl rfl rfl (add_n (a := i) (b := 1) rfl rfl) rfl ?_
            refine wi_goto rfl ?_
            rw [show (slN (r + 1) z p).foldl (stD fit g V z) none = (slN r z ((p - 1) &&& z)).foldl (stD fit g V z) none from by
              rw [slN, if_neg (by omega), List.foldl_cons, hst]] at hQ
            exact ih (i + 1) ((p - 1) &&& z) none _ (by omega) Nat.and_le_right (fun y hy => by cases hy) hQ
          · have hv : ml 74 (sdN z p) = Int64.ofNat v := by rw [hV _ (by omega), hvv]; rfl
            have hvb := hVb _ v (by omega) hvv
            have hst : stD fit g V z none p = (some (v + g p)) := by
              unfold stD
              rw [hfp, hvv]
              rfl
            refine wi_iload rfl rfl ?_
            refine wi_sipush (x := 256) rfl rfl ?_
            refine wi_icmp_ge rfl (fun h9 => absurd trivial (by exfalso; have h8 := (le_n (a := 256) (b := i) (rfl : (256 : Int32) = Int32.ofNat 256) rfl (by omega) (by omega)).mp h9; omega)) (fun _ => ?_)
            refine wi_iload rfl rfl ?_
            refine wi_if_le rfl (fun h9 => absurd trivial (by exfalso; have h8 := (le_n (a := p) (b := 0) rfl (rfl : (0 : Int32) = Int32.ofNat 0) (by omega) (by omega)).mp h9; omega)) (fun _ => ?_)
            refine wi_aload_n rfl rfl ?_
            refine wi_getR rfl (kd_60 ..) (rd_60_8 _) ?_
            refine wi_iload_n rfl rfl ?_
            refine wi_iload rfl rfl ?_
            refine wi_iconst (x := (-1)) rfl rfl ?_
            refine wi_ixor rfl ?_
            refine wi_iand rfl ?_
            rw [show (Int32.ofNat z &&& (Int32.ofNat p ^^^ -1) : Int32) = Int32.ofNat (sdN z p) from xornot]
            refine wn_laload (q := sdN z p) (lv := (Int64.ofNat (v))) rfl (ln_74 ..) rfl (by omega) (by decide) hv ?_
            refine wi_lstore (l' := [.ref 60, .int (Int32.ofNat (z)), .long (-1 : Int64), .retAddr 0, .int (Int32.ofNat (p)), .int (Int32.ofNat (i)), .long (Int64.ofNat (v)), .retAddr 0]) rfl (Nat.le_of_ble_eq_true rfl) rfl rfl ?_
            refine wi_aload_n rfl rfl ?_
            refine wi_getR rfl (kd_60 ..) (rd_60_6 _) ?_
            refine wi_iload rfl rfl ?_
            refine wn_baload (q := p) (v := (1 : Int32)) rfl (Or.inr (ln_72 ..)) rfl (by omega) (by decide) hf ?_
            refine wi_if_eq rfl (fun h9 => absurd h9 (by decide)) (fun _ => ?_)
            refine wi_lload rfl rfl ?_
            refine wi_ldc2_w (lx := (-1)) rfl rfl ?_
            refine wi_lcmp rfl ?_
            refine wi_if_eq rfl (fun h9 => absurd h9 (lgm1 (by omega))) (fun _ => ?_)
            refine wi_lload_n rfl rfl ?_
            refine wi_lload rfl rfl ?_
            refine wi_aload_n rfl rfl ?_
            refine wi_getR rfl (kd_60 ..) (rd_60_7 _) ?_
            refine wi_iload rfl rfl ?_
            refine wn_laload (q := p) (lv := (Int64.ofNat (g p))) rfl (ln_73 ..) rfl (by omega) (by decide) (hG p (by omega)) ?_
            refine wn_ladd (lz := (Int64.ofNat (v + g p))) rfl (add_l (a := v) (b := g p) rfl rfl) ?_
            refine wn_lmax (lz := Int64.ofNat (v + g p)) rfl rfl (max_m1 (by omega)) ?_
            refine wi_lstore_n (l' := [.ref 60, .int (Int32.ofNat (z)), .long (Int64.ofNat (v + g p)), .retAddr 0, .int (Int32.ofNat (p)), .int (Int32.ofNat (i)), .long (Int64.ofNat (v)), .retAddr 0]) rfl (Nat.le_of_ble_eq_true rfl) rfl rfl ?_
            refine wi_iload rfl rfl ?_
            refine wi_iconst (x := 1) rfl rfl ?_
            refine wn_isub (z := (Int32.ofNat (p - 1))) rfl (sub_n (a := p) (b := 1) rfl (rfl : (1 : Int32) = Int32.ofNat 1) (by omega)) ?_
            refine wi_iload_n rfl rfl ?_
            refine wi_iand rfl ?_
            rw [show (Int32.ofNat (p - 1) &&& Int32.ofNat z : Int32) = Int32.ofNat ((p - 1) &&& z) from and_nn]
            refine wi_istore (l' := [.ref 60, .int (Int32.ofNat (z)), .long (Int64.ofNat (v + g p)), .retAddr 0, .int (Int32.ofNat ((p - 1) &&& z)), .int (Int32.ofNat (i)), .long (Int64.ofNat (v)), .retAddr 0]) rfl (Nat.le_of_ble_eq_true rfl) rfl rfl ?_
            refine wi_iinc (z := (Int32.ofNat (i + 1))) rfl rfl rfl (add_n (a := i) (b := 1) rfl rfl) rfl ?_
            refine wi_goto rfl ?_
            rw [show (slN (r + 1) z p).foldl (stD fit g V z) none = (slN r z ((p - 1) &&& z)).foldl (stD fit g V z) (some (v + g p)) from by
              rw [slN, if_neg (by omega), List.foldl_cons, hst]] at hQ
            exact ih (i + 1) ((p - 1) &&& z) (some (v + g p)) _ (by omega) Nat.and_le_right (fun y hy => by cases hy; omega) hQ
      · show am_wp X d 73 9 [.ref 60, .int (Int32.ofNat (z)), .long (Int64.ofNat (x)), .retAddr 0, .int (Int32.ofNat (p)), .int (Int32.ofNat (i)), v6, .retAddr 0] [] (am_shT, mrL b, mi, ml) Q
        have hx := ha x rfl
        cases hfp : fit p
        · have hf : mi 72 p = 0 := by rw [hF p (by omega), hfp]; rfl
          have hst : stD fit g V z (some x) p = (some x) := by
            unfold stD
            rw [hfp]
            rfl
          rcases hvv : V (sdN z p) with _ | v
          · have hv : ml 74 (sdN z p) = -1 := by rw [hV _ (by omega), hvv]; rfl
            refine wi_iload rfl rfl ?_
            refine wi_sipush (x := 256) rfl rfl ?_
            refine wi_icmp_ge rfl (fun h9 => absurd trivial (by exfalso; have h8 := (le_n (a := 256) (b := i) (rfl : (256 : Int32) = Int32.ofNat 256) rfl (by omega) (by omega)).mp h9; omega)) (fun _ => ?_)
            refine wi_iload rfl rfl ?_
            refine wi_if_le rfl (fun h9 => absurd trivial (by exfalso; have h8 := (le_n (a := p) (b := 0) rfl (rfl : (0 : Int32) = Int32.ofNat 0) (by omega) (by omega)).mp h9; omega)) (fun _ => ?_)
            refine wi_aload_n rfl rfl ?_
            refine wi_getR rfl (kd_60 ..) (rd_60_8 _) ?_
            refine wi_iload_n rfl rfl ?_
            refine wi_iload rfl rfl ?_
            refine wi_iconst (x := (-1)) rfl rfl ?_
            refine wi_ixor rfl ?_
            refine wi_iand rfl ?_
            rw [show (Int32.ofNat z &&& (Int32.ofNat p ^^^ -1) : Int32) = Int32.ofNat (sdN z p) from xornot]
            refine wn_laload (q := sdN z p) (lv := (-1 : Int64)) rfl (ln_74 ..) rfl (by omega) (by decide) hv ?_
            refine wi_lstore (l' := [.ref 60, .int (Int32.ofNat (z)), .long (Int64.ofNat (x)), .retAddr 0, .int (Int32.ofNat (p)), .int (Int32.ofNat (i)), .long (-1 : Int64), .retAddr 0]) rfl (Nat.le_of_ble_eq_true rfl) rfl rfl ?_
            refine wi_aload_n rfl rfl ?_
            refine wi_getR rfl (kd_60 ..) (rd_60_6 _) ?_
            refine wi_iload rfl rfl ?_
            refine wn_baload (q := p) (v := (0 : Int32)) rfl (Or.inr (ln_72 ..)) rfl (by omega) (by decide) hf ?_
            refine wi_if_eq rfl (fun _ => ?_) (fun h9 => absurd (by decide) h9)
            refine wi_iload rfl rfl ?_
            refine wi_iconst (x := 1) rfl rfl ?_
            refine wn_isub (z := (Int32.ofNat (p - 1))) rfl (sub_n (a := p) (b := 1) rfl (rfl : (1 : Int32) = Int32.ofNat 1) (by omega)) ?_
            refine wi_iload_n rfl rfl ?_
            refine wi_iand rfl ?_
            rw [show (Int32.ofNat (p - 1) &&& Int32.ofNat z : Int32) = Int32.ofNat ((p - 1) &&& z) from and_nn]
            refine wi_istore (l' := [.ref 60, .int (Int32.ofNat (z)), .long (Int64.ofNat (x)), .retAddr 0, .int (Int32.ofNat ((p - 1) &&& z)), .int (Int32.ofNat (i)), .long (-1 : Int64), .retAddr 0]) rfl (Nat.le_of_ble_eq_true rfl) rfl rfl ?_
            refine wi_iinc (z := (Int32.ofNat (i + 1))) rfl rfl rfl (add_n (a := i) (b := 1) rfl rfl) rfl ?_
            refine wi_goto rfl ?_
            rw [show (slN (r + 1) z p).foldl (stD fit g V z) (some x) = (slN r z ((p - 1) &&& z)).foldl (stD fit g V z) (some x) from by
              rw [slN, if_neg (by omega), List.foldl_cons, hst]] at hQ
            exact ih (i + 1) ((p - 1) &&& z) (some x) _ (by omega) Nat.and_le_right (fun y hy => by cases hy; omega) hQ
          · have hv : ml 74 (sdN z p) = Int64.ofNat v := by rw [hV _ (by omega), hvv]; rfl
            refine wi_iload rfl rfl ?_
            refine wi_sipush (x := 256) rfl rfl ?_
            refine wi_icmp_ge rfl (fun h9 => absurd trivial (by exfalso; have h8 := (le_n (a := 256) (b := i) (rfl : (256 : Int32) = Int32.ofNat 256) rfl (by omega) (by omega)).mp h9; omega)) (fun _ => ?_)
            refine wi_iload rfl rfl ?_
            refine wi_if_le rfl (fun h9 => absurd trivial (by exfalso; have h8 := (le_n (a := p) (b := 0) rfl (rfl : (0 : Int32) = Int32.ofNat 0) (by omega) (by omega)).mp h9; omega)) (fun _ => ?_)
            refine wi_aload_n rfl rfl ?_
            refine wi_getR rfl (kd_60 ..) (rd_60_8 _) ?_
            refine wi_iload_n rfl rfl ?_
            refine wi_iload rfl rfl ?_
            refine wi_iconst (x := (-1)) rfl rfl ?_
            refine wi_ixor rfl ?_
            refine wi_iand rfl ?_
            rw [show (Int32.ofNat z &&& (Int32.ofNat p ^^^ -1) : Int32) = Int32.ofNat (sdN z p) from xornot]
            refine wn_laload (q := sdN z p) (lv := (Int64.ofNat (v))) rfl (ln_74 ..) rfl (by omega) (by decide) hv ?_
            refine wi_lstore (l' := [.ref 60, .int (Int32.ofNat (z)), .long (Int64.ofNat (x)), .retAddr 0, .int (Int32.ofNat (p)), .int (Int32.ofNat (i)), .long (Int64.ofNat (v)), .retAddr 0]) rfl (Nat.le_of_ble_eq_true rfl) rfl rfl ?_
            refine wi_aload_n rfl rfl ?_
            refine wi_getR rfl (kd_60 ..) (rd_60_6 _) ?_
            refine wi_iload rfl rfl ?_
            refine wn_baload (q := p) (v := (0 : Int32)) rfl (Or.inr (ln_72 ..)) rfl (by omega) (by decide) hf ?_
            refine wi_if_eq rfl (fun _ => ?_) (fun h9 => absurd (by decide) h9)
            refine wi_iload rfl rfl ?_
            refine wi_iconst (x := 1) rfl rfl ?_
            refine wn_isub (z := (Int32.ofNat (p - 1))) rfl (sub_n (a := p) (b := 1) rfl (rfl : (1 : Int32) = Int32.ofNat 1) (by omega)) ?_
            refine wi_iload_n rfl rfl ?_
            refine wi_iand rfl ?_
            rw [show (Int32.ofNat (p - 1) &&& Int32.ofNat z : Int32) = Int32.ofNat ((p - 1) &&& z) from and_nn]
            refine wi_istore (l' := [.ref 60, .int (Int32.ofNat (z)), .long (Int64.ofNat (x)), .retAddr 0, .int (Int32.ofNat ((p - 1) &&& z)), .int (Int32.ofNat (i)), .long (Int64.ofNat (v)), .retAddr 0]) rfl (Nat.le_of_ble_eq_true rfl) rfl rfl ?_
            refine wi_iinc (z := (Int32.ofNat (i + 1))) rfl rfl rfl (add_n (a := i) (b := 1) rfl rfl) rfl ?_
            refine wi_goto rfl ?_
            rw [show (slN (r + 1) z p).foldl (stD fit g V z) (some x) = (slN r z ((p - 1) &&& z)).foldl (stD fit g V z) (some x) from by
              rw [slN, if_neg (by omega), List.foldl_cons, hst]] at hQ
            exact ih (i + 1) ((p - 1) &&& z) (some x) _ (by omega) Nat.and_le_right (fun y hy => by cases hy; omega) hQ
        · have hf : mi 72 p = 1 := by rw [hF p (by omega), hfp]; rfl
          rcases hvv : V (sdN z p) with _ | v
          · have hv : ml 74 (sdN z p) = -1 := by rw [hV _ (by omega), hvv]; rfl
            have hst : stD fit g V z (some x) p = (some x) := by
              unfold stD
              rw [hfp, hvv]
              rfl
            refine wi_iload rfl rfl ?_
            refine wi_sipush (x := 256) rfl rfl ?_
            refine wi_icmp_ge rfl (fun h9 => absurd trivial (by exfalso; have h8 := (le_n (a := 256) (b := i) (rfl : (256 : Int32) = Int32.ofNat 256) rfl (by omega) (by omega)).mp h9; omega)) (fun _ => ?_)
            refine wi_iload rfl rfl ?_
            refine wi_if_le rfl (fun h9 => absurd trivial (by exfalso; have h8 := (le_n (a := p) (b := 0) rfl (rfl : (0 : Int32) = Int32.ofNat 0) (by omega) (by omega)).mp h9; omega)) (fun _ => ?_)
            refine wi_aload_n rfl rfl ?_
            refine wi_getR rfl (kd_60 ..) (rd_60_8 _) ?_
            refine wi_iload_n rfl rfl ?_
            refine wi_iload rfl rfl ?_
            refine wi_iconst (x := (-1)) rfl rfl ?_
            refine wi_ixor rfl ?_
            refine wi_iand rfl ?_
            rw [show (Int32.ofNat z &&& (Int32.ofNat p ^^^ -1) : Int32) = Int32.ofNat (sdN z p) from xornot]
            refine wn_laload (q := sdN z p) (lv := (-1 : Int64)) rfl (ln_74 ..) rfl (by omega) (by decide) hv ?_
            refine wi_lstore (l' := [.ref 60, .int (Int32.ofNat (z)), .long (Int64.ofNat (x)), .retAddr 0, .int (Int32.ofNat (p)), .int (Int32.ofNat (i)), .long (-1 : Int64), .retAddr 0]) rfl (Nat.le_of_ble_eq_true rfl) rfl rfl ?_
            refine wi_aload_n rfl rfl ?_
            refine wi_getR rfl (kd_60 ..) (rd_60_6 _) ?_
            refine wi_iload rfl rfl ?_
            refine wn_baload (q := p) (v := (1 : Int32)) rfl (Or.inr (ln_72 ..)) rfl (by omega) (by decide) hf ?_
            refine wi_if_eq rfl (fun h9 => absurd h9 (by decide)) (fun _ => ?_)
            refine wi_lload rfl rfl ?_
            refine wi_ldc2_w (lx := (-1)) rfl rfl ?_
            refine wi_lcmp rfl ?_
            refine wi_if_eq rfl (fun _ => ?_) (fun h9 => absurd (by decide) h9)
            refine wi_iload rfl rfl ?_
            refine wi_iconst (x := 1) rfl rfl ?_
            refine wn_isub (z := (Int32.ofNat (p - 1))) rfl (sub_n (a := p) (b := 1) rfl (rfl : (1 : Int32) = Int32.ofNat 1) (by omega)) ?_
            refine wi_iload_n rfl rfl ?_
            refine wi_iand rfl ?_
            rw [show (Int32.ofNat (p - 1) &&& Int32.ofNat z : Int32) = Int32.ofNat ((p - 1) &&& z) from and_nn]
            refine wi_istore (l' := [.ref 60, .int (Int32.ofNat (z)), .long (Int64.ofNat (x)), .retAddr 0, .int (Int32.ofNat ((p - 1) &&& z)), .int (Int32.ofNat (i)), .long (-1 : Int64), .retAddr 0]) rfl (Nat.le_of_ble_eq_true rfl) rfl rfl ?_
            refine wi_iinc (z := (Int32.ofNat (i + 1))) rfl rfl rfl (add_n (a := i) (b := 1) rfl rfl) rfl ?_
            refine wi_goto rfl ?_
            rw [show (slN (r + 1) z p).foldl (stD fit g V z) (some x) = (slN r z ((p - 1) &&& z)).foldl (stD fit g V z) (some x) from by
              rw [slN, if_neg (by omega), List.foldl_cons, hst]] at hQ
            exact ih (i + 1) ((p - 1) &&& z) (some x) _ (by omega) Nat.and_le_right (fun y hy => by cases hy; omega) hQ
          · have hv : ml 74 (sdN z p) = Int64.ofNat v := by rw [hV _ (by omega), hvv]; rfl
            have hvb := hVb _ v (by omega) hvv
            have hst : stD fit g V z (some x) p = (some (max x (v + g p))) := by
              unfold stD
              rw [hfp, hvv]
              rfl
            refine wi_iload rfl rfl ?_
            refine wi_sipush (x := 256) rfl rfl ?_
            refine wi_icmp_ge rfl (fun h9 => absurd trivial (by exfalso; have h8 := (le_n (a := 256) (b := i) (rfl : (256 : Int32) = Int32.ofNat 256) rfl (by omega) (by omega)).mp h9; omega)) (fun _ => ?_)
            refine wi_iload rfl rfl ?_
            refine wi_if_le rfl (fun h9 => absurd trivial (by exfalso; have h8 := (le_n (a := p) (b := 0) rfl (rfl : (0 : Int32) = Int32.ofNat 0) (by omega) (by omega)).mp h9; omega)) (fun _ => ?_)
            refine wi_aload_n rfl rfl ?_
            refine wi_getR rfl (kd_60 ..) (rd_60_8 _) ?_
            refine wi_iload_n rfl rfl ?_
            refine wi_iload rfl rfl ?_
            refine wi_iconst (x := (-1)) rfl rfl ?_
            refine wi_ixor rfl ?_
            refine wi_iand rfl ?_
            rw [show (Int32.ofNat z &&& (Int32.ofNat p ^^^ -1) : Int32) = Int32.ofNat (sdN z p) from xornot]
            refine wn_laload (q := sdN z p) (lv := (Int64.ofNat (v))) rfl (ln_74 ..) rfl (by omega) (by decide) hv ?_
            refine wi_lstore (l' := [.ref 60, .int (Int32.ofNat (z)), .long (Int64.ofNat (x)), .retAddr 0, .int (Int32.ofNat (p)), .int (Int32.ofNat (i)), .long (Int64.ofNat (v)), .retAddr 0]) rfl (Nat.le_of_ble_eq_true rfl) rfl rfl ?_
            refine wi_aload_n rfl rfl ?_
            refine wi_getR rfl (kd_60 ..) (rd_60_6 _) ?_
            refine wi_iload rfl rfl ?_
            refine wn_baload (q := p) (v := (1 : Int32)) rfl (Or.inr (ln_72 ..)) rfl (by omega) (by decide) hf ?_
            refine wi_if_eq rfl (fun h9 => absurd h9 (by decide)) (fun _ => ?_)
            refine wi_lload rfl rfl ?_
            refine wi_ldc2_w (lx := (-1)) rfl rfl ?_
            refine wi_lcmp rfl ?_
            refine wi_if_eq rfl (fun h9 => absurd h9 (lgm1 (by omega))) (fun _ => ?_)
            refine wi_lload_n rfl rfl ?_
            refine wi_lload rfl rfl ?_
            refine wi_aload_n rfl rfl ?_
            refine wi_getR rfl (kd_60 ..) (rd_60_7 _) ?_
            refine wi_iload rfl rfl ?_
            refine wn_laload (q := p) (lv := (Int64.ofNat (g p))) rfl (ln_73 ..) rfl (by omega) (by decide) (hG p (by omega)) ?_
            refine wn_ladd (lz := (Int64.ofNat (v + g p))) rfl (add_l (a := v) (b := g p) rfl rfl) ?_
            refine wn_lmax (lz := (Int64.ofNat (max x (v + g p)))) rfl rfl (max_l (a := x) (b := v + g p) rfl rfl (by omega) (by omega)) ?_
            refine wi_lstore_n (l' := [.ref 60, .int (Int32.ofNat (z)), .long (Int64.ofNat (max x (v + g p))), .retAddr 0, .int (Int32.ofNat (p)), .int (Int32.ofNat (i)), .long (Int64.ofNat (v)), .retAddr 0]) rfl (Nat.le_of_ble_eq_true rfl) rfl rfl ?_
            refine wi_iload rfl rfl ?_
            refine wi_iconst (x := 1) rfl rfl ?_
            refine wn_isub (z := (Int32.ofNat (p - 1))) rfl (sub_n (a := p) (b := 1) rfl (rfl : (1 : Int32) = Int32.ofNat 1) (by omega)) ?_
            refine wi_iload_n rfl rfl ?_
            refine wi_iand rfl ?_
            rw [show (Int32.ofNat (p - 1) &&& Int32.ofNat z : Int32) = Int32.ofNat ((p - 1) &&& z) from and_nn]
            refine wi_istore (l' := [.ref 60, .int (Int32.ofNat (z)), .long (Int64.ofNat (max x (v + g p))), .retAddr 0, .int (Int32.ofNat ((p - 1) &&& z)), .int (Int32.ofNat (i)), .long (Int64.ofNat (v)), .retAddr 0]) rfl (Nat.le_of_ble_eq_true rfl) rfl rfl ?_
            refine wi_iinc (z := (Int32.ofNat (i + 1))) rfl rfl rfl (add_n (a := i) (b := 1) rfl rfl) rfl ?_
            refine wi_goto rfl ?_
            rw [show (slN (r + 1) z p).foldl (stD fit g V z) (some x) = (slN r z ((p - 1) &&& z)).foldl (stD fit g V z) (some (max x (v + g p))) from by
              rw [slN, if_neg (by omega), List.foldl_cons, hst]] at hQ
            exact ih (i + 1) ((p - 1) &&& z) (some (max x (v + g p))) _ (by omega) Nat.and_le_right (fun y hy => by cases hy; omega) hQ
theorem c_bws {z : Nat} {ml : Nat → Nat → Int64} {fit : Nat → Bool} {g : Nat → Nat} {V : Nat → Option Nat} (hz : z < 256) (hF : ∀ p, p ≤ z → mi 72 p = bI (fit p)) (hG : ∀ p, p ≤ z → ml 73 p = Int64.ofNat (g p)) (hGb : ∀ p, g p < 1099511627776) (hV : ∀ p, p ≤ z → ml 74 p = oL (V p)) (hVb : ∀ p x, p ≤ z → V p = some x → x < 1099511627776) (hQ : Q (some (.long (oL (dpS fit g V z)))) (am_shT, mrL b, mi, ml)) : am_wp X d 73 0 [.ref 60, .int (Int32.ofNat (z)), .retAddr 0, .retAddr 0, .retAddr 0, .retAddr 0, .retAddr 0, .retAddr 0] [] (am_shT, mrL b, mi, ml) Q := by
  refine wi_aload_n rfl rfl ?_
  refine wi_getR rfl (kd_60 ..) (rd_60_8 _) ?_
  refine wi_iload_n rfl rfl ?_
  refine wn_laload (q := z) (lv := (oL (V z))) rfl (ln_74 ..) rfl (by omega) (by decide) (hV z (Nat.le_refl _)) ?_
  refine wi_lstore_n (l' := [.ref 60, .int (Int32.ofNat (z)), .long (oL (V z)), .retAddr 0, .retAddr 0, .retAddr 0, .retAddr 0, .retAddr 0]) rfl (Nat.le_of_ble_eq_true rfl) rfl rfl ?_
  refine wi_iload_n rfl rfl ?_
  refine wi_istore (l' := [.ref 60, .int (Int32.ofNat (z)), .long (oL (V z)), .retAddr 0, .int (Int32.ofNat (z)), .retAddr 0, .retAddr 0, .retAddr 0]) rfl (Nat.le_of_ble_eq_true rfl) rfl rfl ?_
  refine wi_iconst (x := 0) rfl rfl ?_
  refine wi_istore (l' := [.ref 60, .int (Int32.ofNat (z)), .long (oL (V z)), .retAddr 0, .int (Int32.ofNat (z)), .int (0 : Int32), .retAddr 0, .retAddr 0]) rfl (Nat.le_of_ble_eq_true rfl) rfl rfl ?_
  exact bw_lp hz hF hG hGb hV hVb 256 0 z (V z) _ (by omega) (Nat.le_refl _) (fun x hx => by have := hVb z x (Nat.le_refl _) hx; omega) hQ
theorem fb_in {q u re sp : Nat} {mi0 : Nat → Nat → Int32} {ml0 : Nat → Nat → Int64} (h3 : mi0 60 3 = Int32.ofNat q) (hq : q ≤ 8) (hDK : ∀ k, k < q → mi0 61 k = Int32.ofNat (clN (mi0 61) k) ∧ clN (mi0 61) k ≤ 999 ∧ mi0 62 k = Int32.ofNat (clN (mi0 62) k) ∧ clN (mi0 62) k ≤ 9) (hre : mi0 60 4 = Int32.ofNat re) (hsp : mi0 60 5 = Int32.ofNat sp) (lre : re ≤ 100) (lsp : sp ≤ 100) (hu : u ≤ 8) (hQ : ∀ mi2 ml2, (∀ a, a ≠ 72 → mi2 a = mi0 a) → (∀ p, p < 2 ^ q → mi2 72 p = bI (fitB q (mi0 61) (mi0 62) (mi0 60 4) (mi0 60 5) p)) → (∀ a, a ≠ 74 → ml2 a = ml0 a) → (∀ p, p < 2 ^ q → ml2 74 p = oL (if p = 0 then some 0 else none : Option Nat)) → am_wp X (d + 2) 72 35 [.ref 60, .int (Int32.ofNat (u)), .int (Int32.ofNat (2 ^ q - 1)), .int (Int32.ofNat (2 ^ q)), .retAddr 0] [] (am_shT, mrL b, mi2, ml2) Q) : ∀ r i (mi1 : Nat → Nat → Int32) (ml1 : Nat → Nat → Int64), i + r = 2 ^ q → (∀ a, a ≠ 72 → mi1 a = mi0 a) → (∀ p, p < i → mi1 72 p = bI (fitB q (mi0 61) (mi0 62) (mi0 60 4) (mi0 60 5) p)) → (∀ a, a ≠ 74 → ml1 a = ml0 a) → (∀ p, p < i → ml1 74 p = oL (if p = 0 then some 0 else none : Option Nat)) → am_wp X (d + 2) 72 14 [.ref 60, .int (Int32.ofNat (u)), .int (Int32.ofNat (2 ^ q - 1)), .int (Int32.ofNat (i)), .retAddr 0] [] (am_shT, mrL b, mi1, ml1) Q := by
  have hpw := pw8 (n := q) hq
  intro r
  induction r with
  | zero =>
    intro i mi1 ml1 hi he hf hl hv
    have hi0 : i = 2 ^ q := hi
    refine wi_iload_n rfl rfl ?_
    refine wi_iload_n rfl rfl ?_
    refine wi_icmp_gt rfl (fun _ => ?_) (fun h9 => absurd trivial (by exfalso; have h8 := (not_congr (lt_n (a := 2 ^ q - 1) (b := i) rfl rfl (by omega) (by omega))).mp h9; omega))
    obtain rfl : i = 2 ^ q := by omega
    exact hQ mi1 ml1 he hf hl hv
  | succ r ih =>
    intro i mi1 ml1 hi he hf hl hv
    refine wi_iload_n rfl rfl ?_
    refine wi_iload_n rfl rfl ?_
    refine wi_icmp_gt rfl (fun h9 => absurd trivial (by exfalso; have h8 := (lt_n (a := 2 ^ q - 1) (b := i) rfl rfl (by omega) (by omega)).mp h9; omega)) (fun _ => ?_)
    refine wi_aload_n rfl rfl ?_
    refine wi_getR rfl (kd_60 ..) (rd_60_6 _) ?_
    refine wi_iload_n rfl rfl ?_
    refine wi_aload_n rfl rfl ?_
    refine wi_iload_n rfl rfl ?_
    refine wi_callV1 rfl (by decide) (by decide) rfl (kd_60 ..) rfl rfl rfl (c_fits (by rw [he 60 (by decide)]; exact h3) hq (fun k hk => by rw [he 61 (by decide), he 62 (by decide)]; exact hDK k hk) (by rw [he 60 (by decide)]; exact hre) (by rw [he 60 (by decide)]; exact hsp) lre lsp (by omega) ?_)
    refine wn_bastoreZ (q := i) rfl (lz_72 ..) (ln_72 ..) rfl (by omega) (by decide) ?_
    refine wi_aload_n rfl rfl ?_
    refine wi_getR rfl (kd_60 ..) (rd_60_8 _) ?_
    refine wi_iload_n rfl rfl ?_
    refine wi_iload_n rfl rfl ?_
    refine wi_if_ne rfl (fun g1 => ?_) (fun g1 => ?_)
    · replace g1 := (ne_n (a := i) (b := 0) rfl (rfl : (0 : Int32) = Int32.ofNat 0) (by omega) (by omega)).mp g1
      refine wi_ldc2_w (lx := (-1)) rfl rfl ?_
      refine wn_lastore (q := i) rfl (ln_74 ..) rfl (by omega) (by decide) ?_
      refine wi_iinc (z := (Int32.ofNat (i + 1))) rfl rfl rfl (add_n (a := i) (b := 1) rfl rfl) rfl ?_
      refine wi_goto rfl ?_
      refine ih (i + 1) (u2 mi1 72 i (vp_nar .boolean (bI (fitB q (mi1 61) (mi1 62) (mi1 60 4) (mi1 60 5) i)))) (u2 ml1 74 i (-1 : Int64)) (by omega) (fun a ha => (u2_ne ha).trans (he a ha)) (fun p hp => ?_) (fun a ha => (u2_ne ha).trans (hl a ha)) (fun p hp => ?_)
      · rcases Nat.lt_or_ge p i with k3 | k3
        · rw [u2_off (by omega)]
          exact hf p k3
        · rw [show p = i by omega, u2_same, nar_b, he 61 (by decide), he 62 (by decide), he 60 (by decide)]
      · rcases Nat.lt_or_ge p i with k3 | k3
        · rw [u2_off (by omega)]
          exact hv p k3
        · rw [show p = i by omega, u2_same, if_neg (by omega)]
          rfl
    · replace g1 := (not_congr (ne_n (a := i) (b := 0) rfl (rfl : (0 : Int32) = Int32.ofNat 0) (by omega) (by omega))).mp g1
      refine wi_lconst (lx := 0) rfl rfl ?_
      refine wi_goto rfl ?_
      refine wn_lastore (q := i) rfl (ln_74 ..) rfl (by omega) (by decide) ?_
      refine wi_iinc (z := (Int32.ofNat (i + 1))) rfl rfl rfl (add_n (a := i) (b := 1) rfl rfl) rfl ?_
      refine wi_goto rfl ?_
      refine ih (i + 1) (u2 mi1 72 i (vp_nar .boolean (bI (fitB q (mi1 61) (mi1 62) (mi1 60 4) (mi1 60 5) i)))) (u2 ml1 74 i (0 : Int64)) (by omega) (fun a ha => (u2_ne ha).trans (he a ha)) (fun p hp => ?_) (fun a ha => (u2_ne ha).trans (hl a ha)) (fun p hp => ?_)
      · rcases Nat.lt_or_ge p i with k3 | k3
        · rw [u2_off (by omega)]
          exact hf p k3
        · rw [show p = i by omega, u2_same, nar_b, he 61 (by decide), he 62 (by decide), he 60 (by decide)]
      · rcases Nat.lt_or_ge p i with k3 | k3
        · rw [u2_off (by omega)]
          exact hv p k3
        · rw [show p = i by omega, u2_same, if_pos (by omega)]
          rfl
theorem fb_set {q u s : Nat} {fit : Nat → Bool} {g : Nat → Nat} {V : Nat → Option Nat} (hq : q ≤ 8) (hu : u ≤ 8) (hs : s < 6) (hF : ∀ p, p < 2 ^ q → mi 72 p = bI (fit p)) (hGb : ∀ p, g p < 1099511627776) (hVb : ∀ p x, p < 2 ^ q → V p = some x → x < 1099511627776) {ml0 : Nat → Nat → Int64} (hG : ∀ p, p < 2 ^ q → ml0 73 p = Int64.ofNat (g p)) (hQ : ∀ ml2, (∀ a, a ≠ 74 → ml2 a = ml0 a) → (∀ p, p ≤ 0 → ml2 74 p = oL (V p)) → (∀ p, 0 < p → p < 2 ^ q → ml2 74 p = oL (dpS fit g V p)) → am_wp X (d + 2) 72 58 [.ref 60, .int (Int32.ofNat (u)), .int (Int32.ofNat (2 ^ q - 1)), .int (Int32.ofNat (s)), .int (Int32.ofNat (0))] [] (am_shT, mrL b, mi, ml2) Q) : ∀ z (ml1 : Nat → Nat → Int64), z < 2 ^ q → (∀ a, a ≠ 74 → ml1 a = ml0 a) → (∀ p, p ≤ z → ml1 74 p = oL (V p)) → (∀ p, z < p → p < 2 ^ q → ml1 74 p = oL (dpS fit g V p)) → am_wp X (d + 2) 72 47 [.ref 60, .int (Int32.ofNat (u)), .int (Int32.ofNat (2 ^ q - 1)), .int (Int32.ofNat (s)), .int (Int32.ofNat (z))] [] (am_shT, mrL b, mi, ml1) Q := by
  have hpw := pw8 (n := q) hq
  intro z
  induction z with
  | zero =>
    intro ml1 hz hl hv hd
    refine wi_iload rfl rfl ?_
    refine wi_if_le rfl (fun _ => ?_) (fun h9 => absurd trivial (by exfalso; have h8 := (not_congr (le_n (a := 0) (b := 0) rfl (rfl : (0 : Int32) = Int32.ofNat 0) (by omega) (by omega))).mp h9; omega))
    exact hQ ml1 hl hv hd
  | succ z ih =>
    intro ml1 hz hl hv hd
    refine wi_iload rfl rfl ?_
    refine wi_if_le rfl (fun h9 => absurd trivial (by exfalso; have h8 := (le_n (a := z + 1) (b := 0) rfl (rfl : (0 : Int32) = Int32.ofNat 0) (by omega) (by omega)).mp h9; omega)) (fun _ => ?_)
    refine wi_aload_n rfl rfl ?_
    refine wi_getR rfl (kd_60 ..) (rd_60_8 _) ?_
    refine wi_iload rfl rfl ?_
    refine wi_aload_n rfl rfl ?_
    refine wi_iload rfl rfl ?_
    refine wi_callV1 rfl (by decide) (by decide) rfl (kd_60 ..) rfl rfl rfl (c_bws (fit := fit) (g := g) (V := V) (by omega) (fun p hp => hF p (by omega)) (fun p hp => by rw [hl 73 (by decide)]; exact hG p (by omega)) hGb (fun p hp => hv p hp) (fun p x hp hx => hVb p x (by omega) hx) ?_)
    refine wn_lastore (q := z + 1) rfl (ln_74 ..) rfl (by omega) (by decide) ?_
    refine wi_iinc (z := (Int32.ofNat (z + 1 - 1))) rfl rfl rfl (dec_n (a := z + 1) rfl (by omega)) rfl ?_
    refine wi_goto rfl ?_
    refine ih (u2 ml1 74 (z + 1) (oL (dpS fit g V (z + 1)))) (by omega) (fun a ha => (u2_ne ha).trans (hl a ha)) (fun p hp => ?_) (fun p hp hp2 => ?_)
    · rw [u2_off (by omega)]
      exact hv p (by omega)
    · rcases Nat.lt_or_ge (z + 1) p with k3 | k3
      · rw [u2_off (by omega)]
        exact hd p k3 hp2
      · rw [show p = z + 1 by omega, u2_same]
theorem fb_str {q u : Nat} {fit : Nat → Bool} (h3 : mi 60 3 = Int32.ofNat q) (hq : q ≤ 8) (hu : u ≤ 8) (hw : ∀ m, m < 8 → ∀ s, s < 8 → mi (64 + m) s = Int32.ofNat (clN (mi (64 + m)) s) ∧ clN (mi (64 + m)) s ≤ 100) (hF : ∀ p, p < 2 ^ q → mi 72 p = bI (fit p)) (hGb : ∀ s, s < 6 → ∀ p, gnN (fun m => mi (64 + m)) q s p < 1099511627776) (hVb : ∀ s p x, s ≤ 6 → p < 2 ^ q → (dpN fit (fun s p => gnN (fun m => mi (64 + m)) q s p)) s p = some x → x < 1099511627776) {ml0 : Nat → Nat → Int64} (hQ : ∀ ml2, (∀ a, a ≠ 73 → a ≠ 74 → ml2 a = ml0 a) → (∀ p, p < 2 ^ q → ml2 74 p = oL ((dpN fit (fun s p => gnN (fun m => mi (64 + m)) q s p)) (min u 6) p)) → ∀ v4 : Value, am_wp X (d + 3) 72 60 [.ref 60, .int (Int32.ofNat (u)), .int (Int32.ofNat (2 ^ q - 1)), .int (Int32.ofNat (min u 6)), v4] [] (am_shT, mrL b, mi, ml2) Q) : ∀ r s (ml1 : Nat → Nat → Int64) (v4 : Value), s + r = min u 6 → (∀ a, a ≠ 73 → a ≠ 74 → ml1 a = ml0 a) → (∀ p, p < 2 ^ q → ml1 74 p = oL ((dpN fit (fun s p => gnN (fun m => mi (64 + m)) q s p)) (s) p)) → am_wp X (d + 3) 72 37 [.ref 60, .int (Int32.ofNat (u)), .int (Int32.ofNat (2 ^ q - 1)), .int (Int32.ofNat (s)), v4] [] (am_shT, mrL b, mi, ml1) Q := by
  have hpw := pw8 (n := q) hq
  intro r
  induction r with
  | zero =>
    intro s ml1 v4 hi hl hv
    have hi0 : s = min u 6 := hi
    refine wi_iload_n rfl rfl ?_
    refine wi_iload_n rfl rfl ?_
    refine wi_bipush (x := 6) rfl rfl ?_
    refine wn_min (z := (Int32.ofNat (min u 6))) rfl rfl (min_n (a := u) (b := 6) rfl (rfl : (6 : Int32) = Int32.ofNat 6) (by omega) (by omega)) ?_
    refine wi_icmp_ge rfl (fun _ => ?_) (fun h9 => absurd trivial (by exfalso; have h8 := (not_congr (le_n (a := min u 6) (b := s) rfl rfl (by omega) (by omega))).mp h9; omega))
    obtain rfl : s = min u 6 := by omega
    exact hQ ml1 hl hv v4
  | succ r ih =>
    intro s ml1 v4 hi hl hv
    refine wi_iload_n rfl rfl ?_
    refine wi_iload_n rfl rfl ?_
    refine wi_bipush (x := 6) rfl rfl ?_
    refine wn_min (z := (Int32.ofNat (min u 6))) rfl rfl (min_n (a := u) (b := 6) rfl (rfl : (6 : Int32) = Int32.ofNat 6) (by omega) (by omega)) ?_
    refine wi_icmp_ge rfl (fun h9 => absurd trivial (by exfalso; have h8 := (le_n (a := min u 6) (b := s) rfl rfl (by omega) (by omega)).mp h9; omega)) (fun _ => ?_)
    refine wi_aload_n rfl rfl ?_
    refine wi_iload_n rfl rfl ?_
    refine wi_callV1 rfl (by decide) (by decide) rfl (kd_60 ..) rfl rfl rfl (c_gains h3 hq (by omega) hw (fun ml2 k1 k2 => ?_))
    refine wi_iload_n rfl rfl ?_
    refine wi_istore (l' := [.ref 60, .int (Int32.ofNat (u)), .int (Int32.ofNat (2 ^ q - 1)), .int (Int32.ofNat (s)), .int (Int32.ofNat (2 ^ q - 1))]) rfl (Nat.le_of_ble_eq_true rfl) rfl rfl ?_
    refine fb_set (fit := fit) (g := fun p => gnN (fun m => mi (64 + m)) q s p) (V := (dpN fit (fun s p => gnN (fun m => mi (64 + m)) q s p)) s) (ml0 := ml2) hq hu (by omega) hF (hGb s (by omega)) (fun p x hp hx => hVb s p x (by omega) hp hx) k2 (fun ml3 e1 e2 e3 => ?_) (2 ^ q - 1) ml2 (by omega) (fun _ _ => rfl) (fun p hp => by rw [k1 74 (by decide)]; exact hv p (by omega)) (fun p hp hp2 => absurd hp2 (by omega))
    refine wi_iinc (z := (Int32.ofNat (s + 1))) rfl rfl rfl (add_n (a := s) (b := 1) rfl rfl) rfl ?_
    refine wi_goto rfl ?_
    refine ih (s + 1) ml3 _ (by omega) (fun a a1 a2 => (e1 a a2).trans ((k1 a a1).trans (hl a a1 a2))) (fun p hp => ?_)
    rcases Nat.eq_zero_or_pos p with k3 | k3
    · subst k3
      rw [e2 0 (Nat.le_refl _)]
      rfl
    · exact e3 p k3 hp
theorem c_findBest {q u re sp : Nat} {bf : Int32} {mi0 : Nat → Nat → Int32} {ml0 : Nat → Nat → Int64} (h3 : mi0 60 3 = Int32.ofNat q) (hq : q ≤ 8) (hDK : ∀ k, k < q → mi0 61 k = Int32.ofNat (clN (mi0 61) k) ∧ clN (mi0 61) k ≤ 999 ∧ mi0 62 k = Int32.ofNat (clN (mi0 62) k) ∧ clN (mi0 62) k ≤ 9) (hre : mi0 60 4 = Int32.ofNat re) (hsp : mi0 60 5 = Int32.ofNat sp) (lre : re ≤ 100) (lsp : sp ≤ 100) (hu : u ≤ 8) (hw : ∀ m, m < 8 → ∀ s, s < 8 → mi0 (64 + m) s = Int32.ofNat (clN (mi0 (64 + m)) s) ∧ clN (mi0 (64 + m)) s ≤ 100) (hbf0 : mi0 60 10 = bf) (hbf : ¬ bf = Int32.ofNat u) (hGb : ∀ s, s < 6 → ∀ p, gnN (fun m => mi0 (64 + m)) q s p < 1099511627776) (hVb : ∀ s p x, s ≤ 6 → p < 2 ^ q → (dpN (fitB q (mi0 61) (mi0 62) (mi0 60 4) (mi0 60 5)) (fun s p => gnN (fun m => mi0 (64 + m)) q s p)) s p = some x → x < 1099511627776)
    (hQ : ∀ mi2 ml2, (∀ a, a ≠ 72 → a ≠ 60 → mi2 a = mi0 a) → (∀ j, j ≠ 10 → mi2 60 j = mi0 60 j) → mi2 60 10 = Int32.ofNat u → (∀ a, a ≠ 73 → a ≠ 74 → a ≠ 60 → ml2 a = ml0 a) → (∀ j, j ≠ 9 → ml2 60 j = ml0 60 j) → ml2 60 9 = oL ((dpN (fitB q (mi0 61) (mi0 62) (mi0 60 4) (mi0 60 5)) (fun s p => gnN (fun m => mi0 (64 + m)) q s p)) (min u 6) (2 ^ q - 1)) → Q none (am_shT, mrL b, mi2, ml2)) : am_wp X (d + 3) 72 0 [.ref 60, .int (Int32.ofNat (u)), .retAddr 0, .retAddr 0, .retAddr 0] [] (am_shT, mrL b, mi0, ml0) Q := by
  have hpw := pw8 (n := q) hq
  refine wi_aload_n rfl rfl ?_
  refine wi_getIv (v := bf) rfl (kd_60 ..) hbf0 ?_
  refine wi_iload_n rfl rfl ?_
  refine wi_icmp_ne rfl (fun _ => ?_) (fun h9 => absurd hbf h9)
  refine wi_iconst (x := 1) rfl rfl ?_
  refine wi_aload_n rfl rfl ?_
  refine wi_getIv (v := (Int32.ofNat (q))) rfl (kd_60 ..) h3 ?_
  refine wi_ishl rfl ?_
  rw [show ((1 : Int32) <<< (Int32.ofNat q &&& 31)) = Int32.ofNat (2 ^ q) from shl_n hq]
  refine wi_iconst (x := 1) rfl rfl ?_
  refine wn_isub (z := (Int32.ofNat (2 ^ q - 1))) rfl (sub_n (a := 2 ^ q) (b := 1) rfl (rfl : (1 : Int32) = Int32.ofNat 1) (by omega)) ?_
  refine wi_istore_n (l' := [.ref 60, .int (Int32.ofNat (u)), .int (Int32.ofNat (2 ^ q - 1)), .retAddr 0, .retAddr 0]) rfl (Nat.le_of_ble_eq_true rfl) rfl rfl ?_
  refine wi_iconst (x := 0) rfl rfl ?_
  refine wi_istore_n (l' := [.ref 60, .int (Int32.ofNat (u)), .int (Int32.ofNat (2 ^ q - 1)), .int (0 : Int32), .retAddr 0]) rfl (Nat.le_of_ble_eq_true rfl) rfl rfl ?_
  refine fb_in h3 hq hDK hre hsp lre lsp hu (fun mi2 ml2 he hf hl hv => ?_) (2 ^ q) 0 mi0 ml0 (by omega) (fun _ _ => rfl) (fun p hp => absurd hp (by omega)) (fun _ _ => rfl) (fun p hp => absurd hp (by omega))
  have eW : (fun s p => gnN (fun m => mi2 (64 + m)) q s p) = (fun s p => gnN (fun m => mi0 (64 + m)) q s p) := funext (fun s => funext (fun p => sumN_congr (fun _ _ => rfl) (fun m hm => by show (mi2 (64 + m) s).toNatClampNeg * 1679616 + (5 - s) * sOrd m = (mi0 (64 + m) s).toNatClampNeg * 1679616 + (5 - s) * sOrd m; rw [he (64 + m) (by omega)])))
  refine wi_iconst (x := 0) rfl rfl ?_
  refine wi_istore_n (l' := [.ref 60, .int (Int32.ofNat (u)), .int (Int32.ofNat (2 ^ q - 1)), .int (0 : Int32), .retAddr 0]) rfl (Nat.le_of_ble_eq_true rfl) rfl rfl ?_
  refine fb_str (fit := fitB q (mi0 61) (mi0 62) (mi0 60 4) (mi0 60 5)) (ml0 := ml2) (by rw [he 60 (by decide)]; exact h3) hq hu (fun m hm s hs => by rw [he (64 + m) (by omega)]; exact hw m hm s hs) hf (fun s hs p => by have h8 := hGb s hs p; rw [← congrFun (congrFun eW s) p] at h8; exact h8) (fun s p x hs hp hx => by rw [eW] at hx; exact hVb s p x hs hp hx) (fun ml3 e1 e2 v4 => ?_) (min u 6) 0 ml2 _ (by omega) (fun _ _ _ => rfl) (fun p hp => hv p hp)
  rw [eW] at e2
  refine wi_aload_n rfl rfl ?_
  refine wi_aload_n rfl rfl ?_
  refine wi_getR rfl (kd_60 ..) (rd_60_8 _) ?_
  refine wi_iload_n rfl rfl ?_
  refine wn_laload (q := 2 ^ q - 1) (lv := (oL ((dpN (fitB q (mi0 61) (mi0 62) (mi0 60 4) (mi0 60 5)) (fun s p => gnN (fun m => mi0 (64 + m)) q s p)) (min u 6) (2 ^ q - 1)))) rfl (ln_74 ..) rfl (by omega) (by decide) (e2 (2 ^ q - 1) (by omega)) ?_
  refine wi_putL rfl (kd_60 ..) ?_
  refine wi_aload_n rfl rfl ?_
  refine wi_iload_n rfl rfl ?_
  refine wi_putI rfl (kd_60 ..) ?_
  refine wi_ret rfl ?_
  refine hQ _ _ (fun a a1 a2 => (u2_ne a2).trans (he a a1)) (fun j hj => ?_) u2_same (fun a a1 a2 a3 => (u2_ne a3).trans ((e1 a a1 a2).trans (hl a a2))) (fun j hj => ?_) u2_same
  · rw [u2_off hj, he 60 (by decide)]
  · rw [u2_off hj, e1 60 (by decide) (by decide), hl 60 (by decide)]
end S1
