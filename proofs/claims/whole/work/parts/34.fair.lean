/-! ===== fair ===== -/
def pO (n t U g s c : Nat) : Int64 := if n = 0 then 0 else Int64.ofNat c * (Int64.ofNat (t * (U / n)) - Int64.ofNat (s * (U / g)))
def nBy (mi : Nat → Nat → Int32) (g y : Nat) : Nat := cntN (fun k => clN (mi 155) k == y) g
def tBy (mi : Nat → Nat → Int32) (g y : Nat) : Nat := sumN (fun k => clN (mi 155) k == y) (clN (mi 156)) g
def mT (mi : Nat → Nat → Int32) (U g s y : Nat) : Int64 := Int64.ofNat ((U / nBy mi g y) * tBy mi g y) - Int64.ofNat ((U / g) * s)
def fT (mi : Nat → Nat → Int32) (p U g s : Nat) : Nat → Int64
  | 0 => 0
  | i + 1 => fT mi p U g s i + (if clN (mi 154) i = p then mT mi U g s (clN (mi 155) i) else 0)
def cM (mi : Nat → Nat → Int32) (p y i : Nat) : Nat := cntN (fun k => clN (mi 154) k == p && clN (mi 155) k == y) i
def aM (mi : Nat → Nat → Int32) (p y i : Nat) : Nat := sumN (fun k => clN (mi 154) k == p && clN (mi 155) k == y) (clN (mi 156)) i
theorem fT_eq {mi : Nat → Nat → Int32} {p U g s : Nat} (i : Nat) (hby : ∀ k, k < i → clN (mi 155) k ≤ 2) : fT mi p U g s i = Int64.ofNat (cM mi p 0 i) * mT mi U g s 0 + Int64.ofNat (cM mi p 1 i) * mT mi U g s 1 + Int64.ofNat (cM mi p 2 i) * mT mi U g s 2 := by
  induction i with
  | zero =>
    show (0 : Int64) = Int64.ofNat 0 * _ + Int64.ofNat 0 * _ + Int64.ofNat 0 * _
    rw [show Int64.ofNat 0 = 0 from rfl]
    grind
  | succ i ih =>
    have h := ih (fun k hk => hby k (by omega))
    have hb := hby i (by omega)
    show fT mi p U g s i + _ = _
    rw [h]
    have e : ∀ y, cM mi p y (i + 1) = cM mi p y i + if (clN (mi 154) i == p && clN (mi 155) i == y) = true then 1 else 0 := fun y => rfl
    rw [e 0, e 1, e 2]
    by_cases hp : clN (mi 154) i = p
    · rw [if_pos hp]
      have hc : clN (mi 155) i = 0 ∨ clN (mi 155) i = 1 ∨ clN (mi 155) i = 2 := by omega
      have e1 : ∀ n : Nat, Int64.ofNat (n + 1) = Int64.ofNat n + 1 := fun n => Int64.ofNat_add n 1
      rcases hc with hc | hc | hc
      · rw [hc]
        simp only [hp, beq_self_eq_true, Bool.true_and, show ((0 : Nat) == 1) = false from rfl, show ((0 : Nat) == 2) = false from rfl, Bool.false_eq_true, if_true, if_false, Nat.add_zero, e1]
        grind
      · rw [hc]
        simp only [hp, beq_self_eq_true, Bool.true_and, show ((1 : Nat) == 0) = false from rfl, show ((1 : Nat) == 2) = false from rfl, Bool.false_eq_true, if_true, if_false, Nat.add_zero, e1]
        grind
      · rw [hc]
        simp only [hp, beq_self_eq_true, Bool.true_and, show ((2 : Nat) == 0) = false from rfl, show ((2 : Nat) == 1) = false from rfl, Bool.false_eq_true, if_true, if_false, Nat.add_zero, e1]
        grind
    · have hq : (clN (mi 154) i == p) = false := by simp [hp]
      rw [if_neg hp]
      simp only [hq, Bool.false_and, Bool.false_eq_true, if_false, Nat.add_zero]
      grind
theorem cM_split {mi : Nat → Nat → Int32} {p : Nat} (i : Nat) (hby : ∀ k, k < i → clN (mi 155) k ≤ 2) : cntN (fun k => clN (mi 154) k == p) i = 0 + cM mi p 0 i + cM mi p 1 i + cM mi p 2 i ∧ sumN (fun k => clN (mi 154) k == p) (clN (mi 156)) i = aM mi p 0 i + aM mi p 1 i + aM mi p 2 i := by
  induction i with
  | zero => exact ⟨rfl, rfl⟩
  | succ i ih =>
    obtain ⟨h1, h2⟩ := ih (fun k hk => hby k (by omega))
    have hb := hby i (by omega)
    have e : ∀ y, cM mi p y (i + 1) = cM mi p y i + if (clN (mi 154) i == p && clN (mi 155) i == y) = true then 1 else 0 := fun y => rfl
    have e2 : ∀ y, aM mi p y (i + 1) = aM mi p y i + if (clN (mi 154) i == p && clN (mi 155) i == y) = true then clN (mi 156) i else 0 := fun y => rfl
    rw [e 0, e 1, e 2, e2 0, e2 1, e2 2]
    show cntN _ i + _ = _ ∧ sumN _ _ i + _ = _
    rw [h1, h2]
    have hc : clN (mi 155) i = 0 ∨ clN (mi 155) i = 1 ∨ clN (mi 155) i = 2 := by omega
    by_cases hp : clN (mi 154) i = p
    · rcases hc with hc | hc | hc
      all_goals
        rw [hc]
        simp [hp]
        omega
    · simp [hp]
theorem cM_le {mi : Nat → Nat → Int32} {p y g : Nat} : cM mi p y g ≤ nBy mi g y := by
  unfold cM nBy
  induction g with
  | zero => exact Nat.le_refl _
  | succ g ih =>
    show cntN _ g + _ ≤ cntN _ g + _
    by_cases h : clN (mi 155) g = y
    · simp only [h, beq_self_eq_true, Bool.and_true, if_true]
      split <;> omega
    · have hq : (clN (mi 155) g == y) = false := by simp [h]
      simp only [hq, Bool.and_false, Bool.false_eq_true, if_false]
      omega
theorem nBy_pos {mi : Nat → Nat → Int32} {g i : Nat} (h : i < g) : 0 < nBy mi g (clN (mi 155) i) := by
  unfold nBy
  induction g with
  | zero => omega
  | succ g ih =>
    show 0 < cntN _ g + _
    by_cases e : i = g
    · subst e
      simp
    · have := ih (by omega)
      omega
theorem pO_eq {mi : Nat → Nat → Int32} {p y U g s : Nat} : pO (nBy mi g y) (tBy mi g y) U g s (cM mi p y g) = Int64.ofNat (cM mi p y g) * mT mi U g s y := by
  unfold pO mT
  have hle := cM_le (mi := mi) (p := p) (y := y) (g := g)
  by_cases h : nBy mi g y = 0
  · rw [if_pos h, show cM mi p y g = 0 by omega, show Int64.ofNat 0 = 0 from rfl]
    grind
  · rw [if_neg h, Nat.mul_comm (tBy mi g y), Nat.mul_comm s]
theorem pO_int {n t U g s c : Nat} (hU : U ≤ 100000000) (ht : t ≤ 1000) (hs : s ≤ 1000) (hc : c ≤ 100) : ∃ z : Int, pO n t U g s c = Int64.ofInt z ∧ -10000000000000 ≤ z ∧ z ≤ 10000000000000 := by
  unfold pO
  by_cases h : n = 0
  · exact ⟨0, by rw [if_pos h]; rfl, by decide, by decide⟩
  · rw [if_neg h]
    have a1 : t * (U / n) ≤ 1000 * 100000000 := Nat.mul_le_mul ht (Nat.le_trans (Nat.div_le_self _ _) hU)
    have a2 : s * (U / g) ≤ 1000 * 100000000 := Nat.mul_le_mul hs (Nat.le_trans (Nat.div_le_self _ _) hU)
    have a3 : c * (t * (U / n)) ≤ 100 * (1000 * 100000000) := Nat.mul_le_mul hc a1
    have a4 : c * (s * (U / g)) ≤ 100 * (1000 * 100000000) := Nat.mul_le_mul hc a2
    refine ⟨((c * (t * (U / n)) : Nat) : Int) - ((c * (s * (U / g)) : Nat) : Int), ?_, by omega, by omega⟩
    rw [Int64.ofInt_sub, Int64.ofInt_eq_ofNat, Int64.ofInt_eq_ofNat, Int64.ofNat_mul c, Int64.ofNat_mul c]
    grind
theorem ofI_toI {z : Int} (h1 : -9223372036854775808 ≤ z) (h2 : z < 9223372036854775808) : (Int64.ofInt z).toInt = z := Int64.toInt_ofInt_of_le h1 h2
section FA
variable {X : Nat × (Nat → Int32)} {d : Nat} {Q : Option Value → am_M → Prop} {mi : Nat → Nat → Int32} {ml : Nat → Nat → Int64} {b : Bool}
theorem c_parts0 {p n t c U g s : Nat} (hp : p < 8) (h94 : ml 94 0 = Int64.ofNat n) (h95 : ml 95 0 = Int64.ofNat t) (hac : ml 75 4 = Int64.ofNat g) (has : ml 75 5 = Int64.ofNat s) (hC : mi (77 + p) 0 = Int32.ofNat c) (hn : n ≤ g) (hg : g ≤ 100) (hc : c ≤ 100) (hU : U ≤ 100000000) (hQ : Q (some (.long (pO n t U g s c))) (am_shT, mrL b, mi, ml)) : am_wp X d 10 0 [.ref 75, .int (Int32.ofNat p), .int 0, .long (Int64.ofNat U), .retAddr 0, .retAddr 0, .retAddr 0, .retAddr 0, .retAddr 0] [] (am_shT, mrL b, mi, ml) Q := by
  refine wi_aload_n rfl rfl ?_
  refine wi_getR rfl (kd_75 ..) (rd_75_2 _) ?_
  refine wi_iload_n rfl rfl ?_
  refine wn_laload (q := 0) (lv := (Int64.ofNat (n))) rfl (ln_94 ..) (rfl : (0 : Int32) = Int32.ofNat 0) (by decide) (by decide) h94 ?_
  refine wi_lstore (l' := [.ref 75, .int (Int32.ofNat (p)), .int (0 : Int32), .long (Int64.ofNat (U)), .retAddr 0, .long (Int64.ofNat (n)), .retAddr 0, .retAddr 0, .retAddr 0]) rfl (Nat.le_of_ble_eq_true rfl) rfl rfl ?_
  refine wi_lload rfl rfl ?_
  refine wi_lconst (lx := 0) rfl rfl ?_
  refine wi_lcmp rfl ?_
  refine wi_if_eq rfl (fun g1 => ?_) (fun g1 => ?_)
  · replace g1 := (lc_eq (a := n) (b := 0) rfl (rfl : (0 : Int64) = Int64.ofNat 0) (by omega) (by omega)).mp g1
    refine wi_lconst (lx := 0) rfl rfl ?_
    refine wi_lret rfl ?_
    rw [pO, if_pos (by omega)] at hQ
    exact hQ
  · replace g1 := (not_congr (lc_eq (a := n) (b := 0) rfl (rfl : (0 : Int64) = Int64.ofNat 0) (by omega) (by omega))).mp g1
    refine wi_aload_n rfl rfl ?_
    refine wi_getLv (lv := (Int64.ofNat (g))) rfl (kd_75 ..) hac ?_
    refine wi_lconst (lx := 0) rfl rfl ?_
    refine wi_lcmp rfl ?_
    refine wi_if_ne rfl (fun _ => ?_) (fun h9 => absurd trivial (by exfalso; have h8 := (not_congr (lc_ne (a := g) (b := 0) rfl (rfl : (0 : Int64) = Int64.ofNat 0) (by omega) (by omega))).mp h9; omega))
    refine wi_aload_n rfl rfl ?_
    refine wi_getR rfl (kd_75 ..) (rd_75_3 _) ?_
    refine wi_iload_n rfl rfl ?_
    refine wn_laload (q := 0) (lv := (Int64.ofNat (t))) rfl (ln_95 ..) (rfl : (0 : Int32) = Int32.ofNat 0) (by decide) (by decide) h95 ?_
    refine wi_lload_n rfl rfl ?_
    refine wi_lload rfl rfl ?_
    refine wn_ldiv (lz := (Int64.ofNat (U / n))) rfl (nz_l (b := n) rfl (by omega) (by omega)) (div_l (a := U) (b := n) rfl rfl (by omega) (by omega)) ?_
    refine wn_lmul (lz := (Int64.ofNat (t * (U / n)))) rfl (mul_l (a := t) (b := U / n) rfl rfl) ?_
    refine wi_aload_n rfl rfl ?_
    refine wi_getLv (lv := (Int64.ofNat (s))) rfl (kd_75 ..) has ?_
    refine wi_lload_n rfl rfl ?_
    refine wi_aload_n rfl rfl ?_
    refine wi_getLv (lv := (Int64.ofNat (g))) rfl (kd_75 ..) hac ?_
    refine wn_ldiv (lz := (Int64.ofNat (U / g))) rfl (nz_l (b := g) rfl (by omega) (by omega)) (div_l (a := U) (b := g) rfl rfl (by omega) (by omega)) ?_
    refine wn_lmul (lz := (Int64.ofNat (s * (U / g)))) rfl (mul_l (a := s) (b := U / g) rfl rfl) ?_
    refine wi_lsub rfl ?_
    refine wi_lstore (l' := [.ref 75, .int (Int32.ofNat (p)), .int (0 : Int32), .long (Int64.ofNat (U)), .retAddr 0, .long (Int64.ofNat (n)), .retAddr 0, .long ((Int64.ofNat (t * (U / n))) - (Int64.ofNat (s * (U / g)))), .retAddr 0]) rfl (Nat.le_of_ble_eq_true rfl) rfl rfl ?_
    refine wi_aload_n rfl rfl ?_
    refine wi_getR rfl (kd_75 ..) (rd_75_0 _) ?_
    refine wi_iload_n rfl rfl ?_
    refine wn_aaload (q := p) rfl (Or.inr (ln_76 ..)) rfl (by omega) (by decide) (ra_76 _ _ (by omega)) ?_
    refine wi_iload_n rfl rfl ?_
    refine wn_iaload (q := 0) (v := (Int32.ofNat (c))) rfl (lr_76 (by omega) ..) (rfl : (0 : Int32) = Int32.ofNat 0) (by decide) (by decide) (by omega) (by omega) hC ?_
    refine wn_i2l (lz := (Int64.ofNat (c))) rfl (i2l_n (a := c) rfl (by omega)) ?_
    refine wi_lload rfl rfl ?_
    refine wi_lmul rfl ?_
    refine wi_lret rfl ?_
    rw [pO, if_neg (by omega)] at hQ
    exact hQ
theorem c_parts1 {p n t c U g s : Nat} (hp : p < 8) (h94 : ml 94 1 = Int64.ofNat n) (h95 : ml 95 1 = Int64.ofNat t) (hac : ml 75 4 = Int64.ofNat g) (has : ml 75 5 = Int64.ofNat s) (hC : mi (77 + p) 1 = Int32.ofNat c) (hn : n ≤ g) (hg : g ≤ 100) (hc : c ≤ 100) (hU : U ≤ 100000000) (hQ : Q (some (.long (pO n t U g s c))) (am_shT, mrL b, mi, ml)) : am_wp X d 10 0 [.ref 75, .int (Int32.ofNat p), .int 1, .long (Int64.ofNat U), .retAddr 0, .retAddr 0, .retAddr 0, .retAddr 0, .retAddr 0] [] (am_shT, mrL b, mi, ml) Q := by
  refine wi_aload_n rfl rfl ?_
  refine wi_getR rfl (kd_75 ..) (rd_75_2 _) ?_
  refine wi_iload_n rfl rfl ?_
  refine wn_laload (q := 1) (lv := (Int64.ofNat (n))) rfl (ln_94 ..) (rfl : (1 : Int32) = Int32.ofNat 1) (by decide) (by decide) h94 ?_
  refine wi_lstore (l' := [.ref 75, .int (Int32.ofNat (p)), .int (1 : Int32), .long (Int64.ofNat (U)), .retAddr 0, .long (Int64.ofNat (n)), .retAddr 0, .retAddr 0, .retAddr 0]) rfl (Nat.le_of_ble_eq_true rfl) rfl rfl ?_
  refine wi_lload rfl rfl ?_
  refine wi_lconst (lx := 0) rfl rfl ?_
  refine wi_lcmp rfl ?_
  refine wi_if_eq rfl (fun g1 => ?_) (fun g1 => ?_)
  · replace g1 := (lc_eq (a := n) (b := 0) rfl (rfl : (0 : Int64) = Int64.ofNat 0) (by omega) (by omega)).mp g1
    refine wi_lconst (lx := 0) rfl rfl ?_
    refine wi_lret rfl ?_
    rw [pO, if_pos (by omega)] at hQ
    exact hQ
  · replace g1 := (not_congr (lc_eq (a := n) (b := 0) rfl (rfl : (0 : Int64) = Int64.ofNat 0) (by omega) (by omega))).mp g1
    refine wi_aload_n rfl rfl ?_
    refine wi_getLv (lv := (Int64.ofNat (g))) rfl (kd_75 ..) hac ?_
    refine wi_lconst (lx := 0) rfl rfl ?_
    refine wi_lcmp rfl ?_
    refine wi_if_ne rfl (fun _ => ?_) (fun h9 => absurd trivial (by exfalso; have h8 := (not_congr (lc_ne (a := g) (b := 0) rfl (rfl : (0 : Int64) = Int64.ofNat 0) (by omega) (by omega))).mp h9; omega))
    refine wi_aload_n rfl rfl ?_
    refine wi_getR rfl (kd_75 ..) (rd_75_3 _) ?_
    refine wi_iload_n rfl rfl ?_
    refine wn_laload (q := 1) (lv := (Int64.ofNat (t))) rfl (ln_95 ..) (rfl : (1 : Int32) = Int32.ofNat 1) (by decide) (by decide) h95 ?_
    refine wi_lload_n rfl rfl ?_
    refine wi_lload rfl rfl ?_
    refine wn_ldiv (lz := (Int64.ofNat (U / n))) rfl (nz_l (b := n) rfl (by omega) (by omega)) (div_l (a := U) (b := n) rfl rfl (by omega) (by omega)) ?_
    refine wn_lmul (lz := (Int64.ofNat (t * (U / n)))) rfl (mul_l (a := t) (b := U / n) rfl rfl) ?_
    refine wi_aload_n rfl rfl ?_
    refine wi_getLv (lv := (Int64.ofNat (s))) rfl (kd_75 ..) has ?_
    refine wi_lload_n rfl rfl ?_
    refine wi_aload_n rfl rfl ?_
    refine wi_getLv (lv := (Int64.ofNat (g))) rfl (kd_75 ..) hac ?_
    refine wn_ldiv (lz := (Int64.ofNat (U / g))) rfl (nz_l (b := g) rfl (by omega) (by omega)) (div_l (a := U) (b := g) rfl rfl (by omega) (by omega)) ?_
    refine wn_lmul (lz := (Int64.ofNat (s * (U / g)))) rfl (mul_l (a := s) (b := U / g) rfl rfl) ?_
    refine wi_lsub rfl ?_
    refine wi_lstore (l' := [.ref 75, .int (Int32.ofNat (p)), .int (1 : Int32), .long (Int64.ofNat (U)), .retAddr 0, .long (Int64.ofNat (n)), .retAddr 0, .long ((Int64.ofNat (t * (U / n))) - (Int64.ofNat (s * (U / g)))), .retAddr 0]) rfl (Nat.le_of_ble_eq_true rfl) rfl rfl ?_
    refine wi_aload_n rfl rfl ?_
    refine wi_getR rfl (kd_75 ..) (rd_75_0 _) ?_
    refine wi_iload_n rfl rfl ?_
    refine wn_aaload (q := p) rfl (Or.inr (ln_76 ..)) rfl (by omega) (by decide) (ra_76 _ _ (by omega)) ?_
    refine wi_iload_n rfl rfl ?_
    refine wn_iaload (q := 1) (v := (Int32.ofNat (c))) rfl (lr_76 (by omega) ..) (rfl : (1 : Int32) = Int32.ofNat 1) (by decide) (by decide) (by omega) (by omega) hC ?_
    refine wn_i2l (lz := (Int64.ofNat (c))) rfl (i2l_n (a := c) rfl (by omega)) ?_
    refine wi_lload rfl rfl ?_
    refine wi_lmul rfl ?_
    refine wi_lret rfl ?_
    rw [pO, if_neg (by omega)] at hQ
    exact hQ
theorem c_parts2 {p n t c U g s : Nat} (hp : p < 8) (h94 : ml 94 2 = Int64.ofNat n) (h95 : ml 95 2 = Int64.ofNat t) (hac : ml 75 4 = Int64.ofNat g) (has : ml 75 5 = Int64.ofNat s) (hC : mi (77 + p) 2 = Int32.ofNat c) (hn : n ≤ g) (hg : g ≤ 100) (hc : c ≤ 100) (hU : U ≤ 100000000) (hQ : Q (some (.long (pO n t U g s c))) (am_shT, mrL b, mi, ml)) : am_wp X d 10 0 [.ref 75, .int (Int32.ofNat p), .int 2, .long (Int64.ofNat U), .retAddr 0, .retAddr 0, .retAddr 0, .retAddr 0, .retAddr 0] [] (am_shT, mrL b, mi, ml) Q := by
  refine wi_aload_n rfl rfl ?_
  refine wi_getR rfl (kd_75 ..) (rd_75_2 _) ?_
  refine wi_iload_n rfl rfl ?_
  refine wn_laload (q := 2) (lv := (Int64.ofNat (n))) rfl (ln_94 ..) (rfl : (2 : Int32) = Int32.ofNat 2) (by decide) (by decide) h94 ?_
  refine wi_lstore (l' := [.ref 75, .int (Int32.ofNat (p)), .int (2 : Int32), .long (Int64.ofNat (U)), .retAddr 0, .long (Int64.ofNat (n)), .retAddr 0, .retAddr 0, .retAddr 0]) rfl (Nat.le_of_ble_eq_true rfl) rfl rfl ?_
  refine wi_lload rfl rfl ?_
  refine wi_lconst (lx := 0) rfl rfl ?_
  refine wi_lcmp rfl ?_
  refine wi_if_eq rfl (fun g1 => ?_) (fun g1 => ?_)
  · replace g1 := (lc_eq (a := n) (b := 0) rfl (rfl : (0 : Int64) = Int64.ofNat 0) (by omega) (by omega)).mp g1
    refine wi_lconst (lx := 0) rfl rfl ?_
    refine wi_lret rfl ?_
    rw [pO, if_pos (by omega)] at hQ
    exact hQ
  · replace g1 := (not_congr (lc_eq (a := n) (b := 0) rfl (rfl : (0 : Int64) = Int64.ofNat 0) (by omega) (by omega))).mp g1
    refine wi_aload_n rfl rfl ?_
    refine wi_getLv (lv := (Int64.ofNat (g))) rfl (kd_75 ..) hac ?_
    refine wi_lconst (lx := 0) rfl rfl ?_
    refine wi_lcmp rfl ?_
    refine wi_if_ne rfl (fun _ => ?_) (fun h9 => absurd trivial (by exfalso; have h8 := (not_congr (lc_ne (a := g) (b := 0) rfl (rfl : (0 : Int64) = Int64.ofNat 0) (by omega) (by omega))).mp h9; omega))
    refine wi_aload_n rfl rfl ?_
    refine wi_getR rfl (kd_75 ..) (rd_75_3 _) ?_
    refine wi_iload_n rfl rfl ?_
    refine wn_laload (q := 2) (lv := (Int64.ofNat (t))) rfl (ln_95 ..) (rfl : (2 : Int32) = Int32.ofNat 2) (by decide) (by decide) h95 ?_
    refine wi_lload_n rfl rfl ?_
    refine wi_lload rfl rfl ?_
    refine wn_ldiv (lz := (Int64.ofNat (U / n))) rfl (nz_l (b := n) rfl (by omega) (by omega)) (div_l (a := U) (b := n) rfl rfl (by omega) (by omega)) ?_
    refine wn_lmul (lz := (Int64.ofNat (t * (U / n)))) rfl (mul_l (a := t) (b := U / n) rfl rfl) ?_
    refine wi_aload_n rfl rfl ?_
    refine wi_getLv (lv := (Int64.ofNat (s))) rfl (kd_75 ..) has ?_
    refine wi_lload_n rfl rfl ?_
    refine wi_aload_n rfl rfl ?_
    refine wi_getLv (lv := (Int64.ofNat (g))) rfl (kd_75 ..) hac ?_
    refine wn_ldiv (lz := (Int64.ofNat (U / g))) rfl (nz_l (b := g) rfl (by omega) (by omega)) (div_l (a := U) (b := g) rfl rfl (by omega) (by omega)) ?_
    refine wn_lmul (lz := (Int64.ofNat (s * (U / g)))) rfl (mul_l (a := s) (b := U / g) rfl rfl) ?_
    refine wi_lsub rfl ?_
    refine wi_lstore (l' := [.ref 75, .int (Int32.ofNat (p)), .int (2 : Int32), .long (Int64.ofNat (U)), .retAddr 0, .long (Int64.ofNat (n)), .retAddr 0, .long ((Int64.ofNat (t * (U / n))) - (Int64.ofNat (s * (U / g)))), .retAddr 0]) rfl (Nat.le_of_ble_eq_true rfl) rfl rfl ?_
    refine wi_aload_n rfl rfl ?_
    refine wi_getR rfl (kd_75 ..) (rd_75_0 _) ?_
    refine wi_iload_n rfl rfl ?_
    refine wn_aaload (q := p) rfl (Or.inr (ln_76 ..)) rfl (by omega) (by decide) (ra_76 _ _ (by omega)) ?_
    refine wi_iload_n rfl rfl ?_
    refine wn_iaload (q := 2) (v := (Int32.ofNat (c))) rfl (lr_76 (by omega) ..) (rfl : (2 : Int32) = Int32.ofNat 2) (by decide) (by decide) (by omega) (by omega) hC ?_
    refine wn_i2l (lz := (Int64.ofNat (c))) rfl (i2l_n (a := c) rfl (by omega)) ?_
    refine wi_lload rfl rfl ?_
    refine wi_lmul rfl ?_
    refine wi_lret rfl ?_
    rw [pO, if_neg (by omega)] at hQ
    exact hQ
theorem mf_1 {g p : Nat} (hg30 : mi 134 30 = Int32.ofNat g) (hg : g ≤ 100) (hof : ∀ k, k < g → mi 154 k = Int32.ofNat (clN (mi 154) k) ∧ clN (mi 154) k ≤ 7) (hby : ∀ k, k < g → mi 155 k = Int32.ofNat (clN (mi 155) k) ∧ clN (mi 155) k ≤ 2) (hva : ∀ k, k < g → mi 156 k = Int32.ofNat (clN (mi 156) k) ∧ clN (mi 156) k ≤ 10) (hp : p < 8) (hQ : am_wp X (d + 2) 201 42 [.ref 134, .int (Int32.ofNat (p)), .int (Int32.ofNat (cntN (fun k => clN (mi 154) k == p) (g))), .long (Int64.ofNat (sumN (fun k => clN (mi 154) k == p) (clN (mi 156)) (g))), .retAddr 0, .int (Int32.ofNat (g)), .retAddr 0, .retAddr 0, .retAddr 0, .retAddr 0, .retAddr 0] [] (am_shT, mrL b, mi, ml) Q) : ∀ k i, i + k = g → am_wp X (d + 2) 201 20 [.ref 134, .int (Int32.ofNat (p)), .int (Int32.ofNat (cntN (fun k => clN (mi 154) k == p) (i))), .long (Int64.ofNat (sumN (fun k => clN (mi 154) k == p) (clN (mi 156)) (i))), .retAddr 0, .int (Int32.ofNat (i)), .retAddr 0, .retAddr 0, .retAddr 0, .retAddr 0, .retAddr 0] [] (am_shT, mrL b, mi, ml) Q := by
  intro k
  induction k with
  | zero =>
    intro i hi
    refine wi_iload rfl rfl ?_
    refine wi_aload_n rfl rfl ?_
    refine wi_getIv (v := (Int32.ofNat (g))) rfl (kd_134 ..) hg30 ?_
    refine wi_icmp_ge rfl (fun _ => ?_) (fun h9 => absurd trivial (by exfalso; have h8 := (not_congr (le_n (a := g) (b := i) rfl rfl (by omega) (by omega))).mp h9; omega))
    obtain rfl : i = g := by omega
    exact hQ
  | succ k ih =>
    intro i hi
    have hb1 := (hof i (by omega)).2
    have hb2 := (hva i (by omega)).2
    have hb3 : cntN (fun k => clN (mi 154) k == p) (i) ≤ 1000 := Nat.le_trans cntN_le (by omega)
    refine wi_iload rfl rfl ?_
    refine wi_aload_n rfl rfl ?_
    refine wi_getIv (v := (Int32.ofNat (g))) rfl (kd_134 ..) hg30 ?_
    refine wi_icmp_ge rfl (fun h9 => absurd trivial (by exfalso; have h8 := (le_n (a := g) (b := i) rfl rfl (by omega) (by omega)).mp h9; omega)) (fun _ => ?_)
    refine wi_aload_n rfl rfl ?_
    refine wi_getR rfl (kd_134 ..) (rd_134_31 _) ?_
    refine wi_iload rfl rfl ?_
    refine wn_iaload (q := i) (v := (Int32.ofNat (clN (mi 154) i))) rfl (ln_154 ..) rfl (by omega) (by decide) (by decide) (by decide) (hof i (by omega)).1 ?_
    refine wi_iload_n rfl rfl ?_
    refine wi_icmp_eq rfl (fun g1 => ?_) (fun g1 => ?_)
    · replace g1 := (eq_n (a := clN (mi 154) i) (b := p) rfl rfl (by omega) (by omega)).mp g1
      refine wi_iinc (z := (Int32.ofNat (cntN (fun k => clN (mi 154) k == p) (i) + 1))) rfl rfl rfl (add_n (a := cntN (fun k => clN (mi 154) k == p) (i)) (b := 1) rfl rfl) rfl ?_
      refine wi_lload_n rfl rfl ?_
      refine wi_aload_n rfl rfl ?_
      refine wi_getR rfl (kd_134 ..) (rd_134_33 _) ?_
      refine wi_iload rfl rfl ?_
      refine wn_iaload (q := i) (v := (Int32.ofNat (clN (mi 156) i))) rfl (ln_156 ..) rfl (by omega) (by decide) (by decide) (by decide) (hva i (by omega)).1 ?_
      refine wn_i2l (lz := (Int64.ofNat (clN (mi 156) i))) rfl (i2l_n (a := clN (mi 156) i) rfl (by omega)) ?_
      refine wn_ladd (lz := (Int64.ofNat (sumN (fun k => clN (mi 154) k == p) (clN (mi 156)) (i) + clN (mi 156) i))) rfl (add_l (a := sumN (fun k => clN (mi 154) k == p) (clN (mi 156)) (i)) (b := clN (mi 156) i) rfl rfl) ?_
      refine wi_lstore_n (l' := [.ref 134, .int (Int32.ofNat (p)), .int (Int32.ofNat (cntN (fun k => clN (mi 154) k == p) (i) + 1)), .long (Int64.ofNat (sumN (fun k => clN (mi 154) k == p) (clN (mi 156)) (i) + clN (mi 156) i)), .retAddr 0, .int (Int32.ofNat (i)), .retAddr 0, .retAddr 0, .retAddr 0, .retAddr 0, .retAddr 0]) rfl (Nat.le_of_ble_eq_true rfl) rfl rfl ?_
      refine wi_iinc (z := (Int32.ofNat (i + 1))) rfl rfl rfl (add_n (a := i) (b := 1) rfl rfl) rfl ?_
      refine wi_goto rfl ?_
      have e8 : cntN (fun k => clN (mi 154) k == p) (i + 1) = cntN (fun k => clN (mi 154) k == p) (i) + 1 := by
        show cntN (fun k => clN (mi 154) k == p) (i) + _ = _
        simp [g1]
      have e9 : sumN (fun k => clN (mi 154) k == p) (clN (mi 156)) (i + 1) = sumN (fun k => clN (mi 154) k == p) (clN (mi 156)) (i) + clN (mi 156) i := by
        show sumN (fun k => clN (mi 154) k == p) (clN (mi 156)) (i) + _ = _
        simp [g1]
      have h9 := ih (i + 1) (by omega)
      rw [e8, e9] at h9
      exact h9
    · replace g1 := (not_congr (eq_n (a := clN (mi 154) i) (b := p) rfl rfl (by omega) (by omega))).mp g1
      refine wi_goto rfl ?_
      refine wi_iinc (z := (Int32.ofNat (i + 1))) rfl rfl rfl (add_n (a := i) (b := 1) rfl rfl) rfl ?_
      refine wi_goto rfl ?_
      have e8 : cntN (fun k => clN (mi 154) k == p) (i + 1) = cntN (fun k => clN (mi 154) k == p) (i) := by
        show cntN (fun k => clN (mi 154) k == p) (i) + _ = _
        simp [g1]
      have e9 : sumN (fun k => clN (mi 154) k == p) (clN (mi 156)) (i + 1) = sumN (fun k => clN (mi 154) k == p) (clN (mi 156)) (i) := by
        show sumN (fun k => clN (mi 154) k == p) (clN (mi 156)) (i) + _ = _
        simp [g1]
      have h9 := ih (i + 1) (by omega)
      rw [e8, e9] at h9
      exact h9
theorem mf_2 {g p U s0 : Nat} {A9 : Int64} {v2 v3 : Value} (hg30 : mi 134 30 = Int32.ofNat g) (hg : g ≤ 100) (hof : ∀ k, k < g → mi 154 k = Int32.ofNat (clN (mi 154) k) ∧ clN (mi 154) k ≤ 7) (hby : ∀ k, k < g → mi 155 k = Int32.ofNat (clN (mi 155) k) ∧ clN (mi 155) k ≤ 2) (hva : ∀ k, k < g → mi 156 k = Int32.ofNat (clN (mi 156) k) ∧ clN (mi 156) k ≤ 10) (hp : p < 8) (hU : U ≤ 100000000) (es0 : s0 = sumN (fun _ => true) (clN (mi 156)) g) (hs0 : s0 ≤ 1000) (hQ : ∀ v10 : Value, am_wp X (d + 2) 201 119 [.ref 134, .int (Int32.ofNat (p)), v2, v3, .retAddr 0, .long (Int64.ofNat (U)), .retAddr 0, .long (A9 - fT mi p U g s0 (g)), .retAddr 0, .int (Int32.ofNat (g)), v10] [] (am_shT, mrL b, mi, ml) Q) : ∀ k i (v10 : Value), i + k = g → am_wp X (d + 2) 201 75 [.ref 134, .int (Int32.ofNat (p)), v2, v3, .retAddr 0, .long (Int64.ofNat (U)), .retAddr 0, .long (A9 - fT mi p U g s0 (i)), .retAddr 0, .int (Int32.ofNat (i)), v10] [] (am_shT, mrL b, mi, ml) Q := by
  intro k
  induction k with
  | zero =>
    intro i v10 hi
    refine wi_iload rfl rfl ?_
    refine wi_aload_n rfl rfl ?_
    refine wi_getIv (v := (Int32.ofNat (g))) rfl (kd_134 ..) hg30 ?_
    refine wi_icmp_ge rfl (fun _ => ?_) (fun h9 => absurd trivial (by exfalso; have h8 := (not_congr (le_n (a := g) (b := i) rfl rfl (by omega) (by omega))).mp h9; omega))
    obtain rfl : i = g := by omega
    exact hQ _
  | succ k ih =>
    intro i v10 hi
    have hb1 := (hof i (by omega)).2
    have hb2 := (hby i (by omega)).2
    have hnp := nBy_pos (mi := mi) (g := g) (i := i) (by omega)
    have hnl : nBy mi g (clN (mi 155) i) ≤ g := cntN_le
    have htl : tBy mi g (clN (mi 155) i) ≤ 1000 := Nat.le_trans (sumN_le (z := 10) (fun k hk => (hva k hk).2)) (by omega)
    refine wi_iload rfl rfl ?_
    refine wi_aload_n rfl rfl ?_
    refine wi_getIv (v := (Int32.ofNat (g))) rfl (kd_134 ..) hg30 ?_
    refine wi_icmp_ge rfl (fun h9 => absurd trivial (by exfalso; have h8 := (le_n (a := g) (b := i) rfl rfl (by omega) (by omega)).mp h9; omega)) (fun _ => ?_)
    refine wi_aload_n rfl rfl ?_
    refine wi_getR rfl (kd_134 ..) (rd_134_31 _) ?_
    refine wi_iload rfl rfl ?_
    refine wn_iaload (q := i) (v := (Int32.ofNat (clN (mi 154) i))) rfl (ln_154 ..) rfl (by omega) (by decide) (by decide) (by decide) (hof i (by omega)).1 ?_
    refine wi_iload_n rfl rfl ?_
    refine wi_icmp_eq rfl (fun g1 => ?_) (fun g1 => ?_)
    · replace g1 := (eq_n (a := clN (mi 154) i) (b := p) rfl rfl (by omega) (by omega)).mp g1
      refine wi_aload_n rfl rfl ?_
      refine wi_getR rfl (kd_134 ..) (rd_134_32 _) ?_
      refine wi_iload rfl rfl ?_
      refine wn_iaload (q := i) (v := (Int32.ofNat (clN (mi 155) i))) rfl (ln_155 ..) rfl (by omega) (by decide) (by decide) (by decide) (hby i (by omega)).1 ?_
      refine wi_istore (l' := [.ref 134, .int (Int32.ofNat (p)), v2, v3, .retAddr 0, .long (Int64.ofNat (U)), .retAddr 0, .long (A9 - fT mi p U g s0 (i)), .retAddr 0, .int (Int32.ofNat (i)), .int (Int32.ofNat (clN (mi 155) i))]) rfl (Nat.le_of_ble_eq_true rfl) rfl rfl ?_
      refine wi_lload rfl rfl ?_
      refine wi_lload rfl rfl ?_
      refine wi_aload_n rfl rfl ?_
      refine wi_iload rfl rfl ?_
      refine wi_callV1 rfl (by decide) (by decide) rfl (kd_134 ..) rfl rfl rfl (c_manyBy (y := clN (mi 155) i) (by omega) hg30 hg hby hva rfl ?_)
      refine wn_i2l (lz := (Int64.ofNat (nBy mi g (clN (mi 155) i)))) rfl (i2l_n (a := nBy mi g (clN (mi 155) i)) rfl (by omega)) ?_
      refine wn_ldiv (lz := (Int64.ofNat (U / (nBy mi g (clN (mi 155) i))))) rfl (nz_l (b := nBy mi g (clN (mi 155) i)) rfl hnp (by omega)) (div_l (a := U) (b := nBy mi g (clN (mi 155) i)) rfl rfl (by omega) (by omega)) ?_
      refine wi_aload_n rfl rfl ?_
      refine wi_iload rfl rfl ?_
      refine wi_callV1 rfl (by decide) (by decide) rfl (kd_134 ..) rfl rfl rfl (c_sumBy (y := clN (mi 155) i) (by omega) hg30 hg hby hva rfl ?_)
      refine wn_i2l (lz := (Int64.ofNat (tBy mi g (clN (mi 155) i)))) rfl (i2l_n (a := tBy mi g (clN (mi 155) i)) rfl (by omega)) ?_
      refine wn_lmul (lz := (Int64.ofNat ((U / (nBy mi g (clN (mi 155) i))) * (tBy mi g (clN (mi 155) i))))) rfl (mul_l (a := U / (nBy mi g (clN (mi 155) i))) (b := tBy mi g (clN (mi 155) i)) rfl rfl) ?_
      refine wi_lload rfl rfl ?_
      refine wi_aload_n rfl rfl ?_
      refine wi_iconst (x := 3) rfl rfl ?_
      refine wi_callV1 rfl (by decide) (by decide) rfl (kd_134 ..) rfl rfl rfl (c_manyBy3 hg30 hg hby hva cnt_all ?_)
      refine wn_i2l (lz := (Int64.ofNat (g))) rfl (i2l_n (a := g) rfl (by omega)) ?_
      refine wn_ldiv (lz := (Int64.ofNat (U / g))) rfl (nz_l (b := g) rfl (by omega) (by omega)) (div_l (a := U) (b := g) rfl rfl (by omega) (by omega)) ?_
      refine wi_aload_n rfl rfl ?_
      refine wi_iconst (x := 3) rfl rfl ?_
      refine wi_callV1 rfl (by decide) (by decide) rfl (kd_134 ..) rfl rfl rfl (c_sumBy3 hg30 hg hby hva es0.symm ?_)
      refine wn_i2l (lz := (Int64.ofNat (s0))) rfl (i2l_n (a := s0) rfl (by omega)) ?_
      refine wn_lmul (lz := (Int64.ofNat ((U / g) * s0))) rfl (mul_l (a := U / g) (b := s0) rfl rfl) ?_
      refine wi_lsub rfl ?_
      refine wi_lsub rfl ?_
      refine wi_lstore (l' := [.ref 134, .int (Int32.ofNat (p)), v2, v3, .retAddr 0, .long (Int64.ofNat (U)), .retAddr 0, .long ((A9 - fT mi p U g s0 (i)) - ((Int64.ofNat ((U / (nBy mi g (clN (mi 155) i))) * (tBy mi g (clN (mi 155) i)))) - (Int64.ofNat ((U / g) * s0)))), .retAddr 0, .int (Int32.ofNat (i)), .int (Int32.ofNat (clN (mi 155) i))]) rfl (Nat.le_of_ble_eq_true rfl) rfl rfl ?_
      refine wi_iinc (z := (Int32.ofNat (i + 1))) rfl rfl rfl (add_n (a := i) (b := 1) rfl rfl) rfl ?_
      refine wi_goto rfl ?_
      have e9 : ((A9 - fT mi p U g s0 (i)) - ((Int64.ofNat ((U / (nBy mi g (clN (mi 155) i))) * (tBy mi g (clN (mi 155) i)))) - (Int64.ofNat ((U / g) * s0)))) = A9 - fT mi p U g s0 (i + 1) := by
        show _ = A9 - (fT mi p U g s0 i + _)
        rw [if_pos g1]
        unfold mT
        grind
      rw [e9]
      exact ih (i + 1) _ (by omega)
    · replace g1 := (not_congr (eq_n (a := clN (mi 154) i) (b := p) rfl rfl (by omega) (by omega))).mp g1
      refine wi_goto rfl ?_
      refine wi_iinc (z := (Int32.ofNat (i + 1))) rfl rfl rfl (add_n (a := i) (b := 1) rfl rfl) rfl ?_
      refine wi_goto rfl ?_
      have e9 : fT mi p U g s0 (i + 1) = fT mi p U g s0 i := by
        show fT mi p U g s0 i + _ = _
        rw [if_neg g1]
        exact Int64.add_zero _
      have h9 := ih (i + 1) v10 (by omega)
      rw [e9] at h9
      exact h9
theorem mf_2z {g p U s0 : Nat} {A9 F9 : Int64} {v2 v3 : Value} (hg30 : mi 134 30 = Int32.ofNat g) (hg : g ≤ 100) (hof : ∀ k, k < g → mi 154 k = Int32.ofNat (clN (mi 154) k) ∧ clN (mi 154) k ≤ 7) (hby : ∀ k, k < g → mi 155 k = Int32.ofNat (clN (mi 155) k) ∧ clN (mi 155) k ≤ 2) (hva : ∀ k, k < g → mi 156 k = Int32.ofNat (clN (mi 156) k) ∧ clN (mi 156) k ≤ 10) (hp : p < 8) (hU : U ≤ 100000000) (es0 : s0 = sumN (fun _ => true) (clN (mi 156)) g) (hs0 : s0 ≤ 1000) (hf : fT mi p U g s0 g = F9) (hQ : ∀ v10 : Value, am_wp X (d + 2) 201 119 [.ref 134, .int (Int32.ofNat (p)), v2, v3, .retAddr 0, .long (Int64.ofNat (U)), .retAddr 0, .long (A9 - F9), .retAddr 0, .int (Int32.ofNat (g)), v10] [] (am_shT, mrL b, mi, ml) Q) (v10 : Value) : am_wp X (d + 2) 201 75 [.ref 134, .int (Int32.ofNat (p)), v2, v3, .retAddr 0, .long (Int64.ofNat (U)), .retAddr 0, .long A9, .retAddr 0, .int (0 : Int32), v10] [] (am_shT, mrL b, mi, ml) Q := by
  subst hf
  have h9 := mf_2 (A9 := A9) (v2 := v2) (v3 := v3) hg30 hg hof hby hva hp hU es0 hs0 hQ g 0 v10 (by omega)
  have e9 : A9 - fT mi p U g s0 0 = A9 := Int64.sub_zero _
  rw [e9] at h9
  exact h9
theorem fT_fr {mi' : Nat → Nat → Int32} {p U g s : Nat} (h1 : mi' 154 = mi 154) (h2 : mi' 155 = mi 155) (h3 : mi' 156 = mi 156) (i : Nat) : fT mi' p U g s i = fT mi p U g s i := by
  induction i with
  | zero => rfl
  | succ i ih =>
    show fT mi' p U g s i + _ = fT mi p U g s i + _
    rw [ih]
    unfold mT nBy tBy
    rw [h1, h2, h3]
end FA
theorem by_rw2 {X : Nat × (Nat → Int32)} {d mid j a b : Nat} {x y : Nat} {l0 l1 l2 : List Value} {M : am_M} {Q : Option Value → am_M → Prop} (h1 : a = x) (h2 : b = y) (h : am_wp X d mid j (l0 ++ .int (Int32.ofNat x) :: .long (Int64.ofNat y) :: l1) l2 M Q) : am_wp X d mid j (l0 ++ .int (Int32.ofNat a) :: .long (Int64.ofNat b) :: l1) l2 M Q := by
  subst h1; subst h2; exact h
set_option maxHeartbeats 4000000 in
theorem a_fair {X : Nat × (Nat → Int32)} {m : Int32} : arm X 130 201 [.ref 0, .int m] [.ref 134, .int m, .retAddr 0, .retAddr 0, .retAddr 0, .retAddr 0, .retAddr 0, .retAddr 0, .retAddr 0, .retAddr 0, .retAddr 0] := by
  intro mi ml b hR Q hK
  obtain ⟨n, t, hst, ⟨hn0, hn4, hn⟩, ⟨ht0, ht5, ht⟩, hT, hF, hC, hM, hP, hTp, hB, hFa, hS, hMk, hfr⟩ := hR
  obtain ⟨c, hc3, hc21, hc, hD, hDi, hW, hre, hsp, hre1, hsp1, hbf⟩ := hS
  obtain ⟨g, hg, hg30, hB1, hB2, hB3, hac, has⟩ := hMk
  have hby : ∀ k, k < g → mi 155 k = Int32.ofNat (clN (mi 155) k) ∧ clN (mi 155) k ≤ 2 := fun k hk => clN_of (hi := 2) (hB1 k hk).2.1
  have hva : ∀ k, k < g → mi 156 k = Int32.ofNat (clN (mi 156) k) ∧ clN (mi 156) k ≤ 10 := fun k hk => clN_of (hi := 10) (hB1 k hk).2.2
  have hof : ∀ k, k < g → mi 154 k = Int32.ofNat (clN (mi 154) k) ∧ clN (mi 154) k ≤ 7 := fun k hk => clN_of (hi := 7) (hB1 k hk).1
  obtain ⟨s0, es0⟩ : ∃ z, z = sumN (fun _ => true) (clN (mi 156)) g := ⟨_, rfl⟩
  have has' := has
  rw [← es0] at has'
  have hs0 : s0 ≤ 1000 := by rw [es0]; exact Nat.le_trans (sumN_le (z := 10) (fun k hk => (hva k hk).2)) (by omega)
  rcases st_cases m (n := c) (by omega) with e_m | ⟨p, h_p, rfl⟩
  · refine wi_aload_n rfl rfl ?_
    refine wi_getR rfl (kd_0 ..) (rd_0_8 _) ?_
    refine wi_iload_n rfl rfl ?_
    refine wi_callV1 rfl (by decide) (by decide) rfl (kd_60 ..) rfl rfl rfl (c_hasM hc3 e_m ?_)
    refine wi_if_ne rfl (fun h9 => absurd h9 (by decide)) (fun _ => ?_)
    refine wi_aload_n rfl rfl ?_
    refine wi_iconst (x := 1) rfl rfl ?_
    refine wi_callV1 rfl (by decide) (by decide) rfl (kd_0 ..) rfl rfl rfl ?_
    refine wi_aload_n rfl rfl ?_
    refine wi_iload_n rfl rfl ?_
    refine wi_putI rfl (kd_0 ..) ?_
    refine wi_iconst (x := 0) rfl rfl ?_
    refine wi_iret rfl (by decide) ?_
    refine wi_iret rfl (by decide) ?_
    refine hK _ _ _ _ (fun Q2 h2 => ?_)
    refine wi_aload_n rfl rfl ?_
    refine wi_iconst (x := 0) rfl rfl ?_
    refine wi_putI rfl (kd_134 ..) ?_
    refine wi_aload_n rfl rfl ?_
    refine wi_iconst (x := 0) rfl rfl ?_
    refine wi_putI rfl (kd_134 ..) ?_
    refine wi_aload_n rfl rfl ?_
    refine wi_iload_n rfl rfl ?_
    refine wi_callV1 rfl (by decide) (by decide) rfl (kd_134 ..) rfl rfl rfl (c_isM hc21 e_m ?_)
    refine wi_if_ne rfl (fun h9 => absurd h9 (by decide)) (fun _ => ?_)
    refine wi_aload_n rfl rfl ?_
    refine wi_iconst (x := 1) rfl rfl ?_
    refine wi_callV1 rfl (by decide) (by decide) rfl (kd_134 ..) rfl rfl rfl ?_
    refine wi_aload_n rfl rfl ?_
    refine wi_iload_n rfl rfl ?_
    refine wi_putI rfl (kd_134 ..) ?_
    refine wi_iconst (x := 0) rfl rfl ?_
    refine wi_iret rfl (by decide) ?_
    refine wi_iret rfl (by decide) ?_
    refine h2 _ _ _ ?_
    exact ⟨n, t, rfl, ⟨hn0, hn4, hn⟩, ⟨ht0, ht5, ht⟩, hT, hF, hC, hM, hP, hTp, hB, hFa, ⟨c, hc3, hc21, hc, hD, hDi, hW, hre, hsp, hre1, hsp1, hbf⟩, ⟨g, hg, hg30, hB1, hB2, hB3, hac, has⟩, hfr⟩
  · have eC : r8 (mi 77) (mi 78) (mi 79) (mi 80) (mi 81) (mi 82) (mi 83) (mi 84) p = mi (77 + p) := r8_eq (mi := mi) (p := 77) (by omega)
    have eS : r8 (mi 86) (mi 87) (mi 88) (mi 89) (mi 90) (mi 91) (mi 92) (mi 93) p = mi (86 + p) := r8_eq (mi := mi) (p := 86) (by omega)
    obtain ⟨hR0, hQ0⟩ := hB3 0 (by decide)
    obtain ⟨hC0, hA0⟩ := hB2 p (by omega) 0 (by decide)
    rw [eC] at hC0
    rw [eS] at hA0
    obtain ⟨n0, en0⟩ : ∃ z, z = nBy mi g 0 := ⟨_, rfl⟩
    obtain ⟨t0, et0⟩ : ∃ z, z = tBy mi g 0 := ⟨_, rfl⟩
    obtain ⟨c0, ec0⟩ : ∃ z, z = cM mi p 0 g := ⟨_, rfl⟩
    obtain ⟨a0, ea0⟩ : ∃ z, z = aM mi p 0 g := ⟨_, rfl⟩
    replace hR0 : ml 94 0 = Int64.ofNat n0 := by rw [en0]; exact hR0
    replace hQ0 : ml 95 0 = Int64.ofNat t0 := by rw [et0]; exact hQ0
    replace hC0 : mi (77 + p) 0 = Int32.ofNat c0 := by rw [ec0]; exact hC0
    replace hA0 : mi (86 + p) 0 = Int32.ofNat a0 := by rw [ea0]; exact hA0
    have ln0 : n0 ≤ g := by rw [en0]; exact cntN_le
    have lt0 : t0 ≤ 1000 := by rw [et0]; exact Nat.le_trans (sumN_le (z := 10) (fun k hk => (hva k hk).2)) (by omega)
    have lc0 : c0 ≤ 100 := by rw [ec0]; exact Nat.le_trans cntN_le hg
    have lcn0 : c0 ≤ n0 := by rw [ec0, en0]; exact cM_le
    have la0 : a0 ≤ 1000 := by rw [ea0]; exact Nat.le_trans (sumN_le (z := 10) (fun k hk => (hva k hk).2)) (by omega)
    obtain ⟨hR1, hQ1⟩ := hB3 1 (by decide)
    obtain ⟨hC1, hA1⟩ := hB2 p (by omega) 1 (by decide)
    rw [eC] at hC1
    rw [eS] at hA1
    obtain ⟨n1, en1⟩ : ∃ z, z = nBy mi g 1 := ⟨_, rfl⟩
    obtain ⟨t1, et1⟩ : ∃ z, z = tBy mi g 1 := ⟨_, rfl⟩
    obtain ⟨c1, ec1⟩ : ∃ z, z = cM mi p 1 g := ⟨_, rfl⟩
    obtain ⟨a1, ea1⟩ : ∃ z, z = aM mi p 1 g := ⟨_, rfl⟩
    replace hR1 : ml 94 1 = Int64.ofNat n1 := by rw [en1]; exact hR1
    replace hQ1 : ml 95 1 = Int64.ofNat t1 := by rw [et1]; exact hQ1
    replace hC1 : mi (77 + p) 1 = Int32.ofNat c1 := by rw [ec1]; exact hC1
    replace hA1 : mi (86 + p) 1 = Int32.ofNat a1 := by rw [ea1]; exact hA1
    have ln1 : n1 ≤ g := by rw [en1]; exact cntN_le
    have lt1 : t1 ≤ 1000 := by rw [et1]; exact Nat.le_trans (sumN_le (z := 10) (fun k hk => (hva k hk).2)) (by omega)
    have lc1 : c1 ≤ 100 := by rw [ec1]; exact Nat.le_trans cntN_le hg
    have lcn1 : c1 ≤ n1 := by rw [ec1, en1]; exact cM_le
    have la1 : a1 ≤ 1000 := by rw [ea1]; exact Nat.le_trans (sumN_le (z := 10) (fun k hk => (hva k hk).2)) (by omega)
    obtain ⟨hR2, hQ2⟩ := hB3 2 (by decide)
    obtain ⟨hC2, hA2⟩ := hB2 p (by omega) 2 (by decide)
    rw [eC] at hC2
    rw [eS] at hA2
    obtain ⟨n2, en2⟩ : ∃ z, z = nBy mi g 2 := ⟨_, rfl⟩
    obtain ⟨t2, et2⟩ : ∃ z, z = tBy mi g 2 := ⟨_, rfl⟩
    obtain ⟨c2, ec2⟩ : ∃ z, z = cM mi p 2 g := ⟨_, rfl⟩
    obtain ⟨a2, ea2⟩ : ∃ z, z = aM mi p 2 g := ⟨_, rfl⟩
    replace hR2 : ml 94 2 = Int64.ofNat n2 := by rw [en2]; exact hR2
    replace hQ2 : ml 95 2 = Int64.ofNat t2 := by rw [et2]; exact hQ2
    replace hC2 : mi (77 + p) 2 = Int32.ofNat c2 := by rw [ec2]; exact hC2
    replace hA2 : mi (86 + p) 2 = Int32.ofNat a2 := by rw [ea2]; exact hA2
    have ln2 : n2 ≤ g := by rw [en2]; exact cntN_le
    have lt2 : t2 ≤ 1000 := by rw [et2]; exact Nat.le_trans (sumN_le (z := 10) (fun k hk => (hva k hk).2)) (by omega)
    have lc2 : c2 ≤ 100 := by rw [ec2]; exact Nat.le_trans cntN_le hg
    have lcn2 : c2 ≤ n2 := by rw [ec2, en2]; exact cM_le
    have la2 : a2 ≤ 1000 := by rw [ea2]; exact Nat.le_trans (sumN_le (z := 10) (fun k hk => (hva k hk).2)) (by omega)
    obtain ⟨U, eU⟩ : ∃ z, z = ((g * (max 1 n0)) * (max 1 n1)) * (max 1 n2) := ⟨_, rfl⟩
    have u1 : g * (max 1 n0) ≤ 100 * 100 := Nat.mul_le_mul hg (by omega)
    have u2' : (g * (max 1 n0)) * (max 1 n1) ≤ (100 * 100) * 100 := Nat.mul_le_mul u1 (by omega)
    have u3 : ((g * (max 1 n0)) * (max 1 n1)) * (max 1 n2) ≤ ((100 * 100) * 100) * 100 := Nat.mul_le_mul u2' (by omega)
    have hU : U ≤ 100000000 := by rw [eU]; omega
    clear u1 u2' u3
    replace eU : Unit → U = ((g * (max 1 n0)) * (max 1 n1)) * (max 1 n2) := fun _ => eU
    obtain ⟨hcm, hsm⟩ := cM_split (mi := mi) (p := p) g (fun k hk => (hby k hk).2)
    rw [← ec0, ← ec1, ← ec2] at hcm
    rw [← ea0, ← ea1, ← ea2] at hsm
    obtain ⟨sm, esm⟩ : ∃ z, z = sumN (fun k => clN (mi 154) k == p) (clN (mi 156)) g := ⟨_, rfl⟩
    rw [← esm] at hsm
    have hov : ((((0 : Int64) + (Int64.ofNat (a0 * U) - pO n0 t0 U g s0 c0)) + (Int64.ofNat (a1 * U) - pO n1 t1 U g s0 c1)) + (Int64.ofNat (a2 * U) - pO n2 t2 U g s0 c2)) = (Int64.ofNat (sm * U) - fT mi p U g s0 g) := by
      rw [fT_eq g (fun k hk => (hby k hk).2), ← pO_eq, ← pO_eq, ← pO_eq, ← en0, ← en1, ← en2, ← et0, ← et1, ← et2, ← ec0, ← ec1, ← ec2, hsm, Int64.ofNat_mul, Int64.ofNat_mul, Int64.ofNat_mul, Int64.ofNat_mul, Int64.ofNat_add, Int64.ofNat_add]
      grind
    have hza := labs_z (a9 := (Int64.ofNat (sm * U) - fT mi p U g s0 g)) (by
      rw [← hov]
      obtain ⟨z0, e0, b0, d0⟩ := pO_int (n := n0) (t := t0) (U := U) (g := g) (s := s0) (c := c0) hU lt0 hs0 lc0
      obtain ⟨z1, e1, b1, d1⟩ := pO_int (n := n1) (t := t1) (U := U) (g := g) (s := s0) (c := c1) hU lt1 hs0 lc1
      obtain ⟨z2, e2, b2, d2⟩ := pO_int (n := n2) (t := t2) (U := U) (g := g) (s := s0) (c := c2) hU lt2 hs0 lc2
      have k0 : a0 * U ≤ 1000 * 100000000 := Nat.mul_le_mul la0 hU
      have k1 : a1 * U ≤ 1000 * 100000000 := Nat.mul_le_mul la1 hU
      have k2 : a2 * U ≤ 1000 * 100000000 := Nat.mul_le_mul la2 hU
      have e9 : ((((0 : Int64) + (Int64.ofNat (a0 * U) - pO n0 t0 U g s0 c0)) + (Int64.ofNat (a1 * U) - pO n1 t1 U g s0 c1)) + (Int64.ofNat (a2 * U) - pO n2 t2 U g s0 c2)) = Int64.ofInt ((((0 : Int) + (((a0 * U : Nat) : Int) - z0)) + (((a1 * U : Nat) : Int) - z1)) + (((a2 * U : Nat) : Int) - z2)) := by
        rw [Int64.ofInt_add, Int64.ofInt_add, Int64.ofInt_add, Int64.ofInt_sub, Int64.ofInt_sub, Int64.ofInt_sub, Int64.ofInt_eq_ofNat, Int64.ofInt_eq_ofNat, Int64.ofInt_eq_ofNat, e0, e1, e2]
        rfl
      rw [e9, ofI_toI (by omega) (by omega)]
      omega)
    by_cases h0 : 0 + c0 + c1 + c2 = 0
    · refine wi_aload_n rfl rfl ?_
      refine wi_getR rfl (kd_0 ..) (rd_0_8 _) ?_
      refine wi_iload_n rfl rfl ?_
      refine wi_callV1 rfl (by decide) (by decide) rfl (kd_60 ..) rfl rfl rfl (c_hasM hc3 (st_in (n := c) (by omega) (by omega)) ?_)
      refine wi_if_ne rfl (fun _ => ?_) (fun h9 => absurd (by decide) h9)
      refine wi_aload_n rfl rfl ?_
      refine wi_getR rfl (kd_0 ..) (rd_0_9 _) ?_
      refine wi_aload_n rfl rfl ?_
      refine wi_getR rfl (kd_0 ..) (rd_0_10 _) ?_
      refine wi_iload_n rfl rfl ?_
      refine wi_callV2 rfl (by decide) (by decide) rfl (kd_75 ..) rfl rfl rfl ?_
      refine wi_iload_n rfl rfl ?_
      refine wi_iconst (x := 0) rfl rfl ?_
      refine wi_bipush (x := 7) rfl rfl ?_
      refine wi_callS3 rfl (by decide) (by decide) rfl rfl rfl (c_wiV (wn_in (lo := 0) (hi := 7) (by omega) (by omega) (by decide)) ?_)
      refine wi_if_ne rfl (fun _ => ?_) (fun h9 => absurd (by decide) h9)
      refine wi_aload_n rfl rfl ?_
      refine wi_getLv (lv := (Int64.ofNat (g))) rfl (kd_75 ..) hac ?_
      refine wi_lstore_n (l' := [.ref 75, .ref 96, .int (Int32.ofNat (p)), .long (Int64.ofNat (g)), .retAddr 0, .retAddr 0, .retAddr 0, .retAddr 0, .retAddr 0, .retAddr 0]) rfl (Nat.le_of_ble_eq_true rfl) rfl rfl ?_
      refine wi_iconst (x := 0) rfl rfl ?_
      refine wi_istore (l' := [.ref 75, .ref 96, .int (Int32.ofNat (p)), .long (Int64.ofNat (g)), .retAddr 0, .int (0 : Int32), .retAddr 0, .retAddr 0, .retAddr 0, .retAddr 0]) rfl (Nat.le_of_ble_eq_true rfl) rfl rfl ?_
      refine wi_iload rfl rfl ?_
      refine wi_iconst (x := 3) rfl rfl ?_
      refine wi_icmp_ge rfl (fun h9 => absurd h9 (by decide)) (fun _ => ?_)
      refine wi_lload_n rfl rfl ?_
      refine wi_lconst (lx := 1) rfl rfl ?_
      refine wi_aload_n rfl rfl ?_
      refine wi_getR rfl (kd_75 ..) (rd_75_2 _) ?_
      refine wi_iload rfl rfl ?_
      refine wn_laload (q := 0) (lv := (Int64.ofNat (n0))) rfl (ln_94 ..) (rfl : (0 : Int32) = Int32.ofNat 0) (by decide) (by decide) hR0 ?_
      refine wn_lmax (lz := (Int64.ofNat (max 1 n0))) rfl rfl (max_l (a := 1) (b := n0) (rfl : (1 : Int64) = Int64.ofNat 1) rfl (by omega) (by omega)) ?_
      refine wn_lmul (lz := (Int64.ofNat (g * (max 1 n0)))) rfl (mul_l (a := g) (b := max 1 n0) rfl rfl) ?_
      refine wi_lstore_n (l' := [.ref 75, .ref 96, .int (Int32.ofNat (p)), .long (Int64.ofNat (g * (max 1 n0))), .retAddr 0, .int (0 : Int32), .retAddr 0, .retAddr 0, .retAddr 0, .retAddr 0]) rfl (Nat.le_of_ble_eq_true rfl) rfl rfl ?_
      refine wi_iinc (z := (1 : Int32)) rfl rfl rfl (by decide) rfl ?_
      refine wi_goto rfl ?_
      refine wi_iload rfl rfl ?_
      refine wi_iconst (x := 3) rfl rfl ?_
      refine wi_icmp_ge rfl (fun h9 => absurd h9 (by decide)) (fun _ => ?_)
      refine wi_lload_n rfl rfl ?_
      refine wi_lconst (lx := 1) rfl rfl ?_
      refine wi_aload_n rfl rfl ?_
      refine wi_getR rfl (kd_75 ..) (rd_75_2 _) ?_
      refine wi_iload rfl rfl ?_
      refine wn_laload (q := 1) (lv := (Int64.ofNat (n1))) rfl (ln_94 ..) (rfl : (1 : Int32) = Int32.ofNat 1) (by decide) (by decide) hR1 ?_
      refine wn_lmax (lz := (Int64.ofNat (max 1 n1))) rfl rfl (max_l (a := 1) (b := n1) (rfl : (1 : Int64) = Int64.ofNat 1) rfl (by omega) (by omega)) ?_
      refine wn_lmul (lz := (Int64.ofNat ((g * (max 1 n0)) * (max 1 n1)))) rfl (mul_l (a := g * (max 1 n0)) (b := max 1 n1) rfl rfl) ?_
      refine wi_lstore_n (l' := [.ref 75, .ref 96, .int (Int32.ofNat (p)), .long (Int64.ofNat ((g * (max 1 n0)) * (max 1 n1))), .retAddr 0, .int (1 : Int32), .retAddr 0, .retAddr 0, .retAddr 0, .retAddr 0]) rfl (Nat.le_of_ble_eq_true rfl) rfl rfl ?_
      refine wi_iinc (z := (2 : Int32)) rfl rfl rfl (by decide) rfl ?_
      refine wi_goto rfl ?_
      refine wi_iload rfl rfl ?_
      refine wi_iconst (x := 3) rfl rfl ?_
      refine wi_icmp_ge rfl (fun h9 => absurd h9 (by decide)) (fun _ => ?_)
      refine wi_lload_n rfl rfl ?_
      refine wi_lconst (lx := 1) rfl rfl ?_
      refine wi_aload_n rfl rfl ?_
      refine wi_getR rfl (kd_75 ..) (rd_75_2 _) ?_
      refine wi_iload rfl rfl ?_
      refine wn_laload (q := 2) (lv := (Int64.ofNat (n2))) rfl (ln_94 ..) (rfl : (2 : Int32) = Int32.ofNat 2) (by decide) (by decide) hR2 ?_
      refine wn_lmax (lz := (Int64.ofNat (max 1 n2))) rfl rfl (max_l (a := 1) (b := n2) (rfl : (1 : Int64) = Int64.ofNat 1) rfl (by omega) (by omega)) ?_
      refine wn_lmul (lz := (Int64.ofNat (((g * (max 1 n0)) * (max 1 n1)) * (max 1 n2)))) rfl (mul_l (a := (g * (max 1 n0)) * (max 1 n1)) (b := max 1 n2) rfl rfl) ?_
      refine wi_lstore_n (l' := [.ref 75, .ref 96, .int (Int32.ofNat (p)), .long (Int64.ofNat (((g * (max 1 n0)) * (max 1 n1)) * (max 1 n2))), .retAddr 0, .int (2 : Int32), .retAddr 0, .retAddr 0, .retAddr 0, .retAddr 0]) rfl (Nat.le_of_ble_eq_true rfl) rfl rfl ?_
      refine wi_iinc (z := (3 : Int32)) rfl rfl rfl (by decide) rfl ?_
      refine wi_goto rfl ?_
      refine wi_iload rfl rfl ?_
      refine wi_iconst (x := 3) rfl rfl ?_
      refine wi_icmp_ge rfl (fun _ => ?_) (fun h9 => absurd (by decide) h9)
      rw [← eU ()]
      refine wi_lconst (lx := 0) rfl rfl ?_
      refine wi_lstore (l' := [.ref 75, .ref 96, .int (Int32.ofNat (p)), .long (Int64.ofNat (U)), .retAddr 0, .long (0 : Int64), .retAddr 0, .retAddr 0, .retAddr 0, .retAddr 0]) rfl (Nat.le_of_ble_eq_true rfl) rfl rfl ?_
      refine wi_lconst (lx := 0) rfl rfl ?_
      refine wi_lstore (l' := [.ref 75, .ref 96, .int (Int32.ofNat (p)), .long (Int64.ofNat (U)), .retAddr 0, .long (0 : Int64), .retAddr 0, .long (0 : Int64), .retAddr 0, .retAddr 0]) rfl (Nat.le_of_ble_eq_true rfl) rfl rfl ?_
      refine wi_iconst (x := 0) rfl rfl ?_
      refine wi_istore (l' := [.ref 75, .ref 96, .int (Int32.ofNat (p)), .long (Int64.ofNat (U)), .retAddr 0, .long (0 : Int64), .retAddr 0, .long (0 : Int64), .retAddr 0, .int (0 : Int32)]) rfl (Nat.le_of_ble_eq_true rfl) rfl rfl ?_
      refine wi_iload rfl rfl ?_
      refine wi_iconst (x := 3) rfl rfl ?_
      refine wi_icmp_ge rfl (fun h9 => absurd h9 (by decide)) (fun _ => ?_)
      refine wi_lload rfl rfl ?_
      refine wi_aload_n rfl rfl ?_
      refine wi_getR rfl (kd_75 ..) (rd_75_0 _) ?_
      refine wi_iload_n rfl rfl ?_
      refine wn_aaload (q := p) rfl (Or.inr (ln_76 ..)) rfl (by omega) (by decide) (ra_76 _ _ (by omega)) ?_
      refine wi_iload rfl rfl ?_
      refine wn_iaload (q := 0) (v := (Int32.ofNat (c0))) rfl (lr_76 (by omega) ..) (rfl : (0 : Int32) = Int32.ofNat 0) (by decide) (by decide) (by omega) (by omega) hC0 ?_
      refine wn_i2l (lz := (Int64.ofNat (c0))) rfl (i2l_n (a := c0) rfl (by omega)) ?_
      refine wn_ladd (lz := (Int64.ofNat (0 + c0))) rfl (add_l (a := 0) (b := c0) (rfl : (0 : Int64) = Int64.ofNat 0) rfl) ?_
      refine wi_lstore (l' := [.ref 75, .ref 96, .int (Int32.ofNat (p)), .long (Int64.ofNat (U)), .retAddr 0, .long (Int64.ofNat (0 + c0)), .retAddr 0, .long (0 : Int64), .retAddr 0, .int (0 : Int32)]) rfl (Nat.le_of_ble_eq_true rfl) rfl rfl ?_
      refine wi_lload rfl rfl ?_
      refine wi_aload_n rfl rfl ?_
      refine wi_getR rfl (kd_75 ..) (rd_75_1 _) ?_
      refine wi_iload_n rfl rfl ?_
      refine wn_aaload (q := p) rfl (Or.inr (ln_85 ..)) rfl (by omega) (by decide) (ra_85 _ _ (by omega)) ?_
      refine wi_iload rfl rfl ?_
      refine wn_iaload (q := 0) (v := (Int32.ofNat (a0))) rfl (lr_85 (by omega) ..) (rfl : (0 : Int32) = Int32.ofNat 0) (by decide) (by decide) (by omega) (by omega) hA0 ?_
      refine wn_i2l (lz := (Int64.ofNat (a0))) rfl (i2l_n (a := a0) rfl (by omega)) ?_
      refine wi_lload_n rfl rfl ?_
      refine wn_lmul (lz := (Int64.ofNat (a0 * U))) rfl (mul_l (a := a0) (b := U) rfl rfl) ?_
      refine wi_aload_n rfl rfl ?_
      refine wi_iload_n rfl rfl ?_
      refine wi_iload rfl rfl ?_
      refine wi_lload_n rfl rfl ?_
      refine wi_callV3 rfl (by decide) (by decide) rfl (kd_75 ..) rfl rfl rfl (c_parts0 (n := n0) (t := t0) (c := c0) (g := g) (s := s0) (by omega) hR0 hQ0 hac has' hC0 ln0 hg lc0 hU ?_)
      refine wi_lsub rfl ?_
      refine wi_ladd rfl ?_
      refine wi_lstore (l' := [.ref 75, .ref 96, .int (Int32.ofNat (p)), .long (Int64.ofNat (U)), .retAddr 0, .long (Int64.ofNat (0 + c0)), .retAddr 0, .long ((0 : Int64) + ((Int64.ofNat (a0 * U)) - (pO n0 t0 U g s0 c0))), .retAddr 0, .int (0 : Int32)]) rfl (Nat.le_of_ble_eq_true rfl) rfl rfl ?_
      refine wi_iinc (z := (1 : Int32)) rfl rfl rfl (by decide) rfl ?_
      refine wi_goto rfl ?_
      refine wi_iload rfl rfl ?_
      refine wi_iconst (x := 3) rfl rfl ?_
      refine wi_icmp_ge rfl (fun h9 => absurd h9 (by decide)) (fun _ => ?_)
      refine wi_lload rfl rfl ?_
      refine wi_aload_n rfl rfl ?_
      refine wi_getR rfl (kd_75 ..) (rd_75_0 _) ?_
      refine wi_iload_n rfl rfl ?_
      refine wn_aaload (q := p) rfl (Or.inr (ln_76 ..)) rfl (by omega) (by decide) (ra_76 _ _ (by omega)) ?_
      refine wi_iload rfl rfl ?_
      refine wn_iaload (q := 1) (v := (Int32.ofNat (c1))) rfl (lr_76 (by omega) ..) (rfl : (1 : Int32) = Int32.ofNat 1) (by decide) (by decide) (by omega) (by omega) hC1 ?_
      refine wn_i2l (lz := (Int64.ofNat (c1))) rfl (i2l_n (a := c1) rfl (by omega)) ?_
      refine wn_ladd (lz := (Int64.ofNat (0 + c0 + c1))) rfl (add_l (a := 0 + c0) (b := c1) rfl rfl) ?_
      refine wi_lstore (l' := [.ref 75, .ref 96, .int (Int32.ofNat (p)), .long (Int64.ofNat (U)), .retAddr 0, .long (Int64.ofNat (0 + c0 + c1)), .retAddr 0, .long ((0 : Int64) + ((Int64.ofNat (a0 * U)) - (pO n0 t0 U g s0 c0))), .retAddr 0, .int (1 : Int32)]) rfl (Nat.le_of_ble_eq_true rfl) rfl rfl ?_
      refine wi_lload rfl rfl ?_
      refine wi_aload_n rfl rfl ?_
      refine wi_getR rfl (kd_75 ..) (rd_75_1 _) ?_
      refine wi_iload_n rfl rfl ?_
      refine wn_aaload (q := p) rfl (Or.inr (ln_85 ..)) rfl (by omega) (by decide) (ra_85 _ _ (by omega)) ?_
      refine wi_iload rfl rfl ?_
      refine wn_iaload (q := 1) (v := (Int32.ofNat (a1))) rfl (lr_85 (by omega) ..) (rfl : (1 : Int32) = Int32.ofNat 1) (by decide) (by decide) (by omega) (by omega) hA1 ?_
      refine wn_i2l (lz := (Int64.ofNat (a1))) rfl (i2l_n (a := a1) rfl (by omega)) ?_
      refine wi_lload_n rfl rfl ?_
      refine wn_lmul (lz := (Int64.ofNat (a1 * U))) rfl (mul_l (a := a1) (b := U) rfl rfl) ?_
      refine wi_aload_n rfl rfl ?_
      refine wi_iload_n rfl rfl ?_
      refine wi_iload rfl rfl ?_
      refine wi_lload_n rfl rfl ?_
      refine wi_callV3 rfl (by decide) (by decide) rfl (kd_75 ..) rfl rfl rfl (c_parts1 (n := n1) (t := t1) (c := c1) (g := g) (s := s0) (by omega) hR1 hQ1 hac has' hC1 ln1 hg lc1 hU ?_)
      refine wi_lsub rfl ?_
      refine wi_ladd rfl ?_
      refine wi_lstore (l' := [.ref 75, .ref 96, .int (Int32.ofNat (p)), .long (Int64.ofNat (U)), .retAddr 0, .long (Int64.ofNat (0 + c0 + c1)), .retAddr 0, .long (((0 : Int64) + ((Int64.ofNat (a0 * U)) - (pO n0 t0 U g s0 c0))) + ((Int64.ofNat (a1 * U)) - (pO n1 t1 U g s0 c1))), .retAddr 0, .int (1 : Int32)]) rfl (Nat.le_of_ble_eq_true rfl) rfl rfl ?_
      refine wi_iinc (z := (2 : Int32)) rfl rfl rfl (by decide) rfl ?_
      refine wi_goto rfl ?_
      refine wi_iload rfl rfl ?_
      refine wi_iconst (x := 3) rfl rfl ?_
      refine wi_icmp_ge rfl (fun h9 => absurd h9 (by decide)) (fun _ => ?_)
      refine wi_lload rfl rfl ?_
      refine wi_aload_n rfl rfl ?_
      refine wi_getR rfl (kd_75 ..) (rd_75_0 _) ?_
      refine wi_iload_n rfl rfl ?_
      refine wn_aaload (q := p) rfl (Or.inr (ln_76 ..)) rfl (by omega) (by decide) (ra_76 _ _ (by omega)) ?_
      refine wi_iload rfl rfl ?_
      refine wn_iaload (q := 2) (v := (Int32.ofNat (c2))) rfl (lr_76 (by omega) ..) (rfl : (2 : Int32) = Int32.ofNat 2) (by decide) (by decide) (by omega) (by omega) hC2 ?_
      refine wn_i2l (lz := (Int64.ofNat (c2))) rfl (i2l_n (a := c2) rfl (by omega)) ?_
      refine wn_ladd (lz := (Int64.ofNat (0 + c0 + c1 + c2))) rfl (add_l (a := 0 + c0 + c1) (b := c2) rfl rfl) ?_
      refine wi_lstore (l' := [.ref 75, .ref 96, .int (Int32.ofNat (p)), .long (Int64.ofNat (U)), .retAddr 0, .long (Int64.ofNat (0 + c0 + c1 + c2)), .retAddr 0, .long (((0 : Int64) + ((Int64.ofNat (a0 * U)) - (pO n0 t0 U g s0 c0))) + ((Int64.ofNat (a1 * U)) - (pO n1 t1 U g s0 c1))), .retAddr 0, .int (2 : Int32)]) rfl (Nat.le_of_ble_eq_true rfl) rfl rfl ?_
      refine wi_lload rfl rfl ?_
      refine wi_aload_n rfl rfl ?_
      refine wi_getR rfl (kd_75 ..) (rd_75_1 _) ?_
      refine wi_iload_n rfl rfl ?_
      refine wn_aaload (q := p) rfl (Or.inr (ln_85 ..)) rfl (by omega) (by decide) (ra_85 _ _ (by omega)) ?_
      refine wi_iload rfl rfl ?_
      refine wn_iaload (q := 2) (v := (Int32.ofNat (a2))) rfl (lr_85 (by omega) ..) (rfl : (2 : Int32) = Int32.ofNat 2) (by decide) (by decide) (by omega) (by omega) hA2 ?_
      refine wn_i2l (lz := (Int64.ofNat (a2))) rfl (i2l_n (a := a2) rfl (by omega)) ?_
      refine wi_lload_n rfl rfl ?_
      refine wn_lmul (lz := (Int64.ofNat (a2 * U))) rfl (mul_l (a := a2) (b := U) rfl rfl) ?_
      refine wi_aload_n rfl rfl ?_
      refine wi_iload_n rfl rfl ?_
      refine wi_iload rfl rfl ?_
      refine wi_lload_n rfl rfl ?_
      refine wi_callV3 rfl (by decide) (by decide) rfl (kd_75 ..) rfl rfl rfl (c_parts2 (n := n2) (t := t2) (c := c2) (g := g) (s := s0) (by omega) hR2 hQ2 hac has' hC2 ln2 hg lc2 hU ?_)
      refine wi_lsub rfl ?_
      refine wi_ladd rfl ?_
      refine wi_lstore (l' := [.ref 75, .ref 96, .int (Int32.ofNat (p)), .long (Int64.ofNat (U)), .retAddr 0, .long (Int64.ofNat (0 + c0 + c1 + c2)), .retAddr 0, .long ((((0 : Int64) + ((Int64.ofNat (a0 * U)) - (pO n0 t0 U g s0 c0))) + ((Int64.ofNat (a1 * U)) - (pO n1 t1 U g s0 c1))) + ((Int64.ofNat (a2 * U)) - (pO n2 t2 U g s0 c2))), .retAddr 0, .int (2 : Int32)]) rfl (Nat.le_of_ble_eq_true rfl) rfl rfl ?_
      refine wi_iinc (z := (3 : Int32)) rfl rfl rfl (by decide) rfl ?_
      refine wi_goto rfl ?_
      refine wi_iload rfl rfl ?_
      refine wi_iconst (x := 3) rfl rfl ?_
      refine wi_icmp_ge rfl (fun _ => ?_) (fun h9 => absurd (by decide) h9)
      refine wi_lload rfl rfl ?_
      refine wi_lconst (lx := 0) rfl rfl ?_
      refine wi_lcmp rfl ?_
      refine wi_if_ne rfl (fun h9 => absurd trivial (by exfalso; have h8 := (lc_ne (a := 0 + c0 + c1 + c2) (b := 0) rfl (rfl : (0 : Int64) = Int64.ofNat 0) (by omega) (by omega)).mp h9; omega)) (fun _ => ?_)
      refine wi_iconst (x := 0) rfl rfl ?_
      refine wi_iret rfl (by decide) ?_
      refine wi_if_ne rfl (fun h9 => absurd h9 (by decide)) (fun _ => ?_)
      refine wi_aload_n rfl rfl ?_
      refine wi_iconst (x := 5) rfl rfl ?_
      refine wi_callV1 rfl (by decide) (by decide) rfl (kd_0 ..) rfl rfl rfl ?_
      refine wi_aload_n rfl rfl ?_
      refine wi_iload_n rfl rfl ?_
      refine wi_putI rfl (kd_0 ..) ?_
      refine wi_iconst (x := 0) rfl rfl ?_
      refine wi_iret rfl (by decide) ?_
      refine wi_iret rfl (by decide) ?_
      refine hK _ _ _ _ (fun Q2 h2 => ?_)
      refine wi_aload_n rfl rfl ?_
      refine wi_iconst (x := 0) rfl rfl ?_
      refine wi_putI rfl (kd_134 ..) ?_
      refine wi_aload_n rfl rfl ?_
      refine wi_iconst (x := 0) rfl rfl ?_
      refine wi_putI rfl (kd_134 ..) ?_
      refine wi_aload_n rfl rfl ?_
      refine wi_iload_n rfl rfl ?_
      refine wi_callV1 rfl (by decide) (by decide) rfl (kd_134 ..) rfl rfl rfl (c_isM hc21 (st_in (n := c) (by omega) (by omega)) ?_)
      refine wi_if_ne rfl (fun _ => ?_) (fun h9 => absurd (by decide) h9)
      refine wi_iconst (x := 0) rfl rfl ?_
      refine wi_istore_n (l' := [.ref 134, .int (Int32.ofNat (p)), .int (0 : Int32), .retAddr 0, .retAddr 0, .retAddr 0, .retAddr 0, .retAddr 0, .retAddr 0, .retAddr 0, .retAddr 0]) rfl (Nat.le_of_ble_eq_true rfl) rfl rfl ?_
      refine wi_lconst (lx := 0) rfl rfl ?_
      refine wi_lstore_n (l' := [.ref 134, .int (Int32.ofNat (p)), .int (0 : Int32), .long (0 : Int64), .retAddr 0, .retAddr 0, .retAddr 0, .retAddr 0, .retAddr 0, .retAddr 0, .retAddr 0]) rfl (Nat.le_of_ble_eq_true rfl) rfl rfl ?_
      refine wi_iconst (x := 0) rfl rfl ?_
      refine wi_istore (l' := [.ref 134, .int (Int32.ofNat (p)), .int (0 : Int32), .long (0 : Int64), .retAddr 0, .int (0 : Int32), .retAddr 0, .retAddr 0, .retAddr 0, .retAddr 0, .retAddr 0]) rfl (Nat.le_of_ble_eq_true rfl) rfl rfl ?_
      refine mf_1 (mi := (u2 (u2 (u2 mi 0 12 (5 : Int32)) 134 1 (0 : Int32)) 134 0 (0 : Int32))) (g := g) (p := p) hg30 hg hof hby hva (by omega) (by_rw2 (l0 := [.ref 134, .int (Int32.ofNat p)]) hcm esm.symm ?_) g 0 (by omega)
      refine wi_iload_n rfl rfl ?_
      refine wi_if_ne rfl (fun h9 => absurd trivial (by exfalso; have h8 := (ne_n (a := 0 + c0 + c1 + c2) (b := 0) rfl (rfl : (0 : Int32) = Int32.ofNat 0) (by omega) (by omega)).mp h9; omega)) (fun _ => ?_)
      refine wi_aload_n rfl rfl ?_
      refine wi_iconst (x := 5) rfl rfl ?_
      refine wi_callV1 rfl (by decide) (by decide) rfl (kd_134 ..) rfl rfl rfl ?_
      refine wi_aload_n rfl rfl ?_
      refine wi_iload_n rfl rfl ?_
      refine wi_putI rfl (kd_134 ..) ?_
      refine wi_iconst (x := 0) rfl rfl ?_
      refine wi_iret rfl (by decide) ?_
      refine wi_iret rfl (by decide) ?_
      refine h2 _ _ _ ?_
      exact ⟨n, t, rfl, ⟨hn0, hn4, hn⟩, ⟨ht0, ht5, ht⟩, hT, hF, hC, hM, hP, hTp, hB, hFa, ⟨c, hc3, hc21, hc, hD, hDi, hW, hre, hsp, hre1, hsp1, hbf⟩, ⟨g, hg, hg30, hB1, hB2, hB3, hac, has⟩, hfr⟩
    · have hg1 : 0 < g := by omega
      have hUp : 0 < U := by rw [eU ()]; exact Nat.mul_pos (Nat.mul_pos (Nat.mul_pos hg1 (by omega)) (by omega)) (by omega)
      have hpos : 0 < U * (0 + c0 + c1 + c2) := Nat.mul_pos hUp (by omega)
      have hz9 : U * (0 + c0 + c1 + c2) ≤ 100000000 * 300 := Nat.mul_le_mul hU (by omega)
      refine wi_aload_n rfl rfl ?_
      refine wi_getR rfl (kd_0 ..) (rd_0_8 _) ?_
      refine wi_iload_n rfl rfl ?_
      refine wi_callV1 rfl (by decide) (by decide) rfl (kd_60 ..) rfl rfl rfl (c_hasM hc3 (st_in (n := c) (by omega) (by omega)) ?_)
      refine wi_if_ne rfl (fun _ => ?_) (fun h9 => absurd (by decide) h9)
      refine wi_aload_n rfl rfl ?_
      refine wi_getR rfl (kd_0 ..) (rd_0_9 _) ?_
      refine wi_aload_n rfl rfl ?_
      refine wi_getR rfl (kd_0 ..) (rd_0_10 _) ?_
      refine wi_iload_n rfl rfl ?_
      refine wi_callV2 rfl (by decide) (by decide) rfl (kd_75 ..) rfl rfl rfl ?_
      refine wi_iload_n rfl rfl ?_
      refine wi_iconst (x := 0) rfl rfl ?_
      refine wi_bipush (x := 7) rfl rfl ?_
      refine wi_callS3 rfl (by decide) (by decide) rfl rfl rfl (c_wiV (wn_in (lo := 0) (hi := 7) (by omega) (by omega) (by decide)) ?_)
      refine wi_if_ne rfl (fun _ => ?_) (fun h9 => absurd (by decide) h9)
      refine wi_aload_n rfl rfl ?_
      refine wi_getLv (lv := (Int64.ofNat (g))) rfl (kd_75 ..) hac ?_
      refine wi_lstore_n (l' := [.ref 75, .ref 96, .int (Int32.ofNat (p)), .long (Int64.ofNat (g)), .retAddr 0, .retAddr 0, .retAddr 0, .retAddr 0, .retAddr 0, .retAddr 0]) rfl (Nat.le_of_ble_eq_true rfl) rfl rfl ?_
      refine wi_iconst (x := 0) rfl rfl ?_
      refine wi_istore (l' := [.ref 75, .ref 96, .int (Int32.ofNat (p)), .long (Int64.ofNat (g)), .retAddr 0, .int (0 : Int32), .retAddr 0, .retAddr 0, .retAddr 0, .retAddr 0]) rfl (Nat.le_of_ble_eq_true rfl) rfl rfl ?_
      refine wi_iload rfl rfl ?_
      refine wi_iconst (x := 3) rfl rfl ?_
      refine wi_icmp_ge rfl (fun h9 => absurd h9 (by decide)) (fun _ => ?_)
      refine wi_lload_n rfl rfl ?_
      refine wi_lconst (lx := 1) rfl rfl ?_
      refine wi_aload_n rfl rfl ?_
      refine wi_getR rfl (kd_75 ..) (rd_75_2 _) ?_
      refine wi_iload rfl rfl ?_
      refine wn_laload (q := 0) (lv := (Int64.ofNat (n0))) rfl (ln_94 ..) (rfl : (0 : Int32) = Int32.ofNat 0) (by decide) (by decide) hR0 ?_
      refine wn_lmax (lz := (Int64.ofNat (max 1 n0))) rfl rfl (max_l (a := 1) (b := n0) (rfl : (1 : Int64) = Int64.ofNat 1) rfl (by omega) (by omega)) ?_
      refine wn_lmul (lz := (Int64.ofNat (g * (max 1 n0)))) rfl (mul_l (a := g) (b := max 1 n0) rfl rfl) ?_
      refine wi_lstore_n (l' := [.ref 75, .ref 96, .int (Int32.ofNat (p)), .long (Int64.ofNat (g * (max 1 n0))), .retAddr 0, .int (0 : Int32), .retAddr 0, .retAddr 0, .retAddr 0, .retAddr 0]) rfl (Nat.le_of_ble_eq_true rfl) rfl rfl ?_
      refine wi_iinc (z := (1 : Int32)) rfl rfl rfl (by decide) rfl ?_
      refine wi_goto rfl ?_
      refine wi_iload rfl rfl ?_
      refine wi_iconst (x := 3) rfl rfl ?_
      refine wi_icmp_ge rfl (fun h9 => absurd h9 (by decide)) (fun _ => ?_)
      refine wi_lload_n rfl rfl ?_
      refine wi_lconst (lx := 1) rfl rfl ?_
      refine wi_aload_n rfl rfl ?_
      refine wi_getR rfl (kd_75 ..) (rd_75_2 _) ?_
      refine wi_iload rfl rfl ?_
      refine wn_laload (q := 1) (lv := (Int64.ofNat (n1))) rfl (ln_94 ..) (rfl : (1 : Int32) = Int32.ofNat 1) (by decide) (by decide) hR1 ?_
      refine wn_lmax (lz := (Int64.ofNat (max 1 n1))) rfl rfl (max_l (a := 1) (b := n1) (rfl : (1 : Int64) = Int64.ofNat 1) rfl (by omega) (by omega)) ?_
      refine wn_lmul (lz := (Int64.ofNat ((g * (max 1 n0)) * (max 1 n1)))) rfl (mul_l (a := g * (max 1 n0)) (b := max 1 n1) rfl rfl) ?_
      refine wi_lstore_n (l' := [.ref 75, .ref 96, .int (Int32.ofNat (p)), .long (Int64.ofNat ((g * (max 1 n0)) * (max 1 n1))), .retAddr 0, .int (1 : Int32), .retAddr 0, .retAddr 0, .retAddr 0, .retAddr 0]) rfl (Nat.le_of_ble_eq_true rfl) rfl rfl ?_
      refine wi_iinc (z := (2 : Int32)) rfl rfl rfl (by decide) rfl ?_
      refine wi_goto rfl ?_
      refine wi_iload rfl rfl ?_
      refine wi_iconst (x := 3) rfl rfl ?_
      refine wi_icmp_ge rfl (fun h9 => absurd h9 (by decide)) (fun _ => ?_)
      refine wi_lload_n rfl rfl ?_
      refine wi_lconst (lx := 1) rfl rfl ?_
      refine wi_aload_n rfl rfl ?_
      refine wi_getR rfl (kd_75 ..) (rd_75_2 _) ?_
      refine wi_iload rfl rfl ?_
      refine wn_laload (q := 2) (lv := (Int64.ofNat (n2))) rfl (ln_94 ..) (rfl : (2 : Int32) = Int32.ofNat 2) (by decide) (by decide) hR2 ?_
      refine wn_lmax (lz := (Int64.ofNat (max 1 n2))) rfl rfl (max_l (a := 1) (b := n2) (rfl : (1 : Int64) = Int64.ofNat 1) rfl (by omega) (by omega)) ?_
      refine wn_lmul (lz := (Int64.ofNat (((g * (max 1 n0)) * (max 1 n1)) * (max 1 n2)))) rfl (mul_l (a := (g * (max 1 n0)) * (max 1 n1)) (b := max 1 n2) rfl rfl) ?_
      refine wi_lstore_n (l' := [.ref 75, .ref 96, .int (Int32.ofNat (p)), .long (Int64.ofNat (((g * (max 1 n0)) * (max 1 n1)) * (max 1 n2))), .retAddr 0, .int (2 : Int32), .retAddr 0, .retAddr 0, .retAddr 0, .retAddr 0]) rfl (Nat.le_of_ble_eq_true rfl) rfl rfl ?_
      refine wi_iinc (z := (3 : Int32)) rfl rfl rfl (by decide) rfl ?_
      refine wi_goto rfl ?_
      refine wi_iload rfl rfl ?_
      refine wi_iconst (x := 3) rfl rfl ?_
      refine wi_icmp_ge rfl (fun _ => ?_) (fun h9 => absurd (by decide) h9)
      rw [← eU ()]
      refine wi_lconst (lx := 0) rfl rfl ?_
      refine wi_lstore (l' := [.ref 75, .ref 96, .int (Int32.ofNat (p)), .long (Int64.ofNat (U)), .retAddr 0, .long (0 : Int64), .retAddr 0, .retAddr 0, .retAddr 0, .retAddr 0]) rfl (Nat.le_of_ble_eq_true rfl) rfl rfl ?_
      refine wi_lconst (lx := 0) rfl rfl ?_
      refine wi_lstore (l' := [.ref 75, .ref 96, .int (Int32.ofNat (p)), .long (Int64.ofNat (U)), .retAddr 0, .long (0 : Int64), .retAddr 0, .long (0 : Int64), .retAddr 0, .retAddr 0]) rfl (Nat.le_of_ble_eq_true rfl) rfl rfl ?_
      refine wi_iconst (x := 0) rfl rfl ?_
      refine wi_istore (l' := [.ref 75, .ref 96, .int (Int32.ofNat (p)), .long (Int64.ofNat (U)), .retAddr 0, .long (0 : Int64), .retAddr 0, .long (0 : Int64), .retAddr 0, .int (0 : Int32)]) rfl (Nat.le_of_ble_eq_true rfl) rfl rfl ?_
      refine wi_iload rfl rfl ?_
      refine wi_iconst (x := 3) rfl rfl ?_
      refine wi_icmp_ge rfl (fun h9 => absurd h9 (by decide)) (fun _ => ?_)
      refine wi_lload rfl rfl ?_
      refine wi_aload_n rfl rfl ?_
      refine wi_getR rfl (kd_75 ..) (rd_75_0 _) ?_
      refine wi_iload_n rfl rfl ?_
      refine wn_aaload (q := p) rfl (Or.inr (ln_76 ..)) rfl (by omega) (by decide) (ra_76 _ _ (by omega)) ?_
      refine wi_iload rfl rfl ?_
      refine wn_iaload (q := 0) (v := (Int32.ofNat (c0))) rfl (lr_76 (by omega) ..) (rfl : (0 : Int32) = Int32.ofNat 0) (by decide) (by decide) (by omega) (by omega) hC0 ?_
      refine wn_i2l (lz := (Int64.ofNat (c0))) rfl (i2l_n (a := c0) rfl (by omega)) ?_
      refine wn_ladd (lz := (Int64.ofNat (0 + c0))) rfl (add_l (a := 0) (b := c0) (rfl : (0 : Int64) = Int64.ofNat 0) rfl) ?_
      refine wi_lstore (l' := [.ref 75, .ref 96, .int (Int32.ofNat (p)), .long (Int64.ofNat (U)), .retAddr 0, .long (Int64.ofNat (0 + c0)), .retAddr 0, .long (0 : Int64), .retAddr 0, .int (0 : Int32)]) rfl (Nat.le_of_ble_eq_true rfl) rfl rfl ?_
      refine wi_lload rfl rfl ?_
      refine wi_aload_n rfl rfl ?_
      refine wi_getR rfl (kd_75 ..) (rd_75_1 _) ?_
      refine wi_iload_n rfl rfl ?_
      refine wn_aaload (q := p) rfl (Or.inr (ln_85 ..)) rfl (by omega) (by decide) (ra_85 _ _ (by omega)) ?_
      refine wi_iload rfl rfl ?_
      refine wn_iaload (q := 0) (v := (Int32.ofNat (a0))) rfl (lr_85 (by omega) ..) (rfl : (0 : Int32) = Int32.ofNat 0) (by decide) (by decide) (by omega) (by omega) hA0 ?_
      refine wn_i2l (lz := (Int64.ofNat (a0))) rfl (i2l_n (a := a0) rfl (by omega)) ?_
      refine wi_lload_n rfl rfl ?_
      refine wn_lmul (lz := (Int64.ofNat (a0 * U))) rfl (mul_l (a := a0) (b := U) rfl rfl) ?_
      refine wi_aload_n rfl rfl ?_
      refine wi_iload_n rfl rfl ?_
      refine wi_iload rfl rfl ?_
      refine wi_lload_n rfl rfl ?_
      refine wi_callV3 rfl (by decide) (by decide) rfl (kd_75 ..) rfl rfl rfl (c_parts0 (n := n0) (t := t0) (c := c0) (g := g) (s := s0) (by omega) hR0 hQ0 hac has' hC0 ln0 hg lc0 hU ?_)
      refine wi_lsub rfl ?_
      refine wi_ladd rfl ?_
      refine wi_lstore (l' := [.ref 75, .ref 96, .int (Int32.ofNat (p)), .long (Int64.ofNat (U)), .retAddr 0, .long (Int64.ofNat (0 + c0)), .retAddr 0, .long ((0 : Int64) + ((Int64.ofNat (a0 * U)) - (pO n0 t0 U g s0 c0))), .retAddr 0, .int (0 : Int32)]) rfl (Nat.le_of_ble_eq_true rfl) rfl rfl ?_
      refine wi_iinc (z := (1 : Int32)) rfl rfl rfl (by decide) rfl ?_
      refine wi_goto rfl ?_
      refine wi_iload rfl rfl ?_
      refine wi_iconst (x := 3) rfl rfl ?_
      refine wi_icmp_ge rfl (fun h9 => absurd h9 (by decide)) (fun _ => ?_)
      refine wi_lload rfl rfl ?_
      refine wi_aload_n rfl rfl ?_
      refine wi_getR rfl (kd_75 ..) (rd_75_0 _) ?_
      refine wi_iload_n rfl rfl ?_
      refine wn_aaload (q := p) rfl (Or.inr (ln_76 ..)) rfl (by omega) (by decide) (ra_76 _ _ (by omega)) ?_
      refine wi_iload rfl rfl ?_
      refine wn_iaload (q := 1) (v := (Int32.ofNat (c1))) rfl (lr_76 (by omega) ..) (rfl : (1 : Int32) = Int32.ofNat 1) (by decide) (by decide) (by omega) (by omega) hC1 ?_
      refine wn_i2l (lz := (Int64.ofNat (c1))) rfl (i2l_n (a := c1) rfl (by omega)) ?_
      refine wn_ladd (lz := (Int64.ofNat (0 + c0 + c1))) rfl (add_l (a := 0 + c0) (b := c1) rfl rfl) ?_
      refine wi_lstore (l' := [.ref 75, .ref 96, .int (Int32.ofNat (p)), .long (Int64.ofNat (U)), .retAddr 0, .long (Int64.ofNat (0 + c0 + c1)), .retAddr 0, .long ((0 : Int64) + ((Int64.ofNat (a0 * U)) - (pO n0 t0 U g s0 c0))), .retAddr 0, .int (1 : Int32)]) rfl (Nat.le_of_ble_eq_true rfl) rfl rfl ?_
      refine wi_lload rfl rfl ?_
      refine wi_aload_n rfl rfl ?_
      refine wi_getR rfl (kd_75 ..) (rd_75_1 _) ?_
      refine wi_iload_n rfl rfl ?_
      refine wn_aaload (q := p) rfl (Or.inr (ln_85 ..)) rfl (by omega) (by decide) (ra_85 _ _ (by omega)) ?_
      refine wi_iload rfl rfl ?_
      refine wn_iaload (q := 1) (v := (Int32.ofNat (a1))) rfl (lr_85 (by omega) ..) (rfl : (1 : Int32) = Int32.ofNat 1) (by decide) (by decide) (by omega) (by omega) hA1 ?_
      refine wn_i2l (lz := (Int64.ofNat (a1))) rfl (i2l_n (a := a1) rfl (by omega)) ?_
      refine wi_lload_n rfl rfl ?_
      refine wn_lmul (lz := (Int64.ofNat (a1 * U))) rfl (mul_l (a := a1) (b := U) rfl rfl) ?_
      refine wi_aload_n rfl rfl ?_
      refine wi_iload_n rfl rfl ?_
      refine wi_iload rfl rfl ?_
      refine wi_lload_n rfl rfl ?_
      refine wi_callV3 rfl (by decide) (by decide) rfl (kd_75 ..) rfl rfl rfl (c_parts1 (n := n1) (t := t1) (c := c1) (g := g) (s := s0) (by omega) hR1 hQ1 hac has' hC1 ln1 hg lc1 hU ?_)
      refine wi_lsub rfl ?_
      refine wi_ladd rfl ?_
      refine wi_lstore (l' := [.ref 75, .ref 96, .int (Int32.ofNat (p)), .long (Int64.ofNat (U)), .retAddr 0, .long (Int64.ofNat (0 + c0 + c1)), .retAddr 0, .long (((0 : Int64) + ((Int64.ofNat (a0 * U)) - (pO n0 t0 U g s0 c0))) + ((Int64.ofNat (a1 * U)) - (pO n1 t1 U g s0 c1))), .retAddr 0, .int (1 : Int32)]) rfl (Nat.le_of_ble_eq_true rfl) rfl rfl ?_
      refine wi_iinc (z := (2 : Int32)) rfl rfl rfl (by decide) rfl ?_
      refine wi_goto rfl ?_
      refine wi_iload rfl rfl ?_
      refine wi_iconst (x := 3) rfl rfl ?_
      refine wi_icmp_ge rfl (fun h9 => absurd h9 (by decide)) (fun _ => ?_)
      refine wi_lload rfl rfl ?_
      refine wi_aload_n rfl rfl ?_
      refine wi_getR rfl (kd_75 ..) (rd_75_0 _) ?_
      refine wi_iload_n rfl rfl ?_
      refine wn_aaload (q := p) rfl (Or.inr (ln_76 ..)) rfl (by omega) (by decide) (ra_76 _ _ (by omega)) ?_
      refine wi_iload rfl rfl ?_
      refine wn_iaload (q := 2) (v := (Int32.ofNat (c2))) rfl (lr_76 (by omega) ..) (rfl : (2 : Int32) = Int32.ofNat 2) (by decide) (by decide) (by omega) (by omega) hC2 ?_
      refine wn_i2l (lz := (Int64.ofNat (c2))) rfl (i2l_n (a := c2) rfl (by omega)) ?_
      refine wn_ladd (lz := (Int64.ofNat (0 + c0 + c1 + c2))) rfl (add_l (a := 0 + c0 + c1) (b := c2) rfl rfl) ?_
      refine wi_lstore (l' := [.ref 75, .ref 96, .int (Int32.ofNat (p)), .long (Int64.ofNat (U)), .retAddr 0, .long (Int64.ofNat (0 + c0 + c1 + c2)), .retAddr 0, .long (((0 : Int64) + ((Int64.ofNat (a0 * U)) - (pO n0 t0 U g s0 c0))) + ((Int64.ofNat (a1 * U)) - (pO n1 t1 U g s0 c1))), .retAddr 0, .int (2 : Int32)]) rfl (Nat.le_of_ble_eq_true rfl) rfl rfl ?_
      refine wi_lload rfl rfl ?_
      refine wi_aload_n rfl rfl ?_
      refine wi_getR rfl (kd_75 ..) (rd_75_1 _) ?_
      refine wi_iload_n rfl rfl ?_
      refine wn_aaload (q := p) rfl (Or.inr (ln_85 ..)) rfl (by omega) (by decide) (ra_85 _ _ (by omega)) ?_
      refine wi_iload rfl rfl ?_
      refine wn_iaload (q := 2) (v := (Int32.ofNat (a2))) rfl (lr_85 (by omega) ..) (rfl : (2 : Int32) = Int32.ofNat 2) (by decide) (by decide) (by omega) (by omega) hA2 ?_
      refine wn_i2l (lz := (Int64.ofNat (a2))) rfl (i2l_n (a := a2) rfl (by omega)) ?_
      refine wi_lload_n rfl rfl ?_
      refine wn_lmul (lz := (Int64.ofNat (a2 * U))) rfl (mul_l (a := a2) (b := U) rfl rfl) ?_
      refine wi_aload_n rfl rfl ?_
      refine wi_iload_n rfl rfl ?_
      refine wi_iload rfl rfl ?_
      refine wi_lload_n rfl rfl ?_
      refine wi_callV3 rfl (by decide) (by decide) rfl (kd_75 ..) rfl rfl rfl (c_parts2 (n := n2) (t := t2) (c := c2) (g := g) (s := s0) (by omega) hR2 hQ2 hac has' hC2 ln2 hg lc2 hU ?_)
      refine wi_lsub rfl ?_
      refine wi_ladd rfl ?_
      refine wi_lstore (l' := [.ref 75, .ref 96, .int (Int32.ofNat (p)), .long (Int64.ofNat (U)), .retAddr 0, .long (Int64.ofNat (0 + c0 + c1 + c2)), .retAddr 0, .long ((((0 : Int64) + ((Int64.ofNat (a0 * U)) - (pO n0 t0 U g s0 c0))) + ((Int64.ofNat (a1 * U)) - (pO n1 t1 U g s0 c1))) + ((Int64.ofNat (a2 * U)) - (pO n2 t2 U g s0 c2))), .retAddr 0, .int (2 : Int32)]) rfl (Nat.le_of_ble_eq_true rfl) rfl rfl ?_
      refine wi_iinc (z := (3 : Int32)) rfl rfl rfl (by decide) rfl ?_
      refine wi_goto rfl ?_
      refine wi_iload rfl rfl ?_
      refine wi_iconst (x := 3) rfl rfl ?_
      refine wi_icmp_ge rfl (fun _ => ?_) (fun h9 => absurd (by decide) h9)
      refine wi_lload rfl rfl ?_
      refine wi_lconst (lx := 0) rfl rfl ?_
      refine wi_lcmp rfl ?_
      refine wi_if_ne rfl (fun _ => ?_) (fun h9 => absurd trivial (by exfalso; have h8 := (not_congr (lc_ne (a := 0 + c0 + c1 + c2) (b := 0) rfl (rfl : (0 : Int64) = Int64.ofNat 0) (by omega) (by omega))).mp h9; omega))
      rw [hov]
      refine wi_aload_n rfl rfl ?_
      refine wi_lload rfl rfl ?_
      refine wi_lload_n rfl rfl ?_
      refine wi_lload rfl rfl ?_
      refine wn_lmul (lz := (Int64.ofNat (U * (0 + c0 + c1 + c2)))) rfl (mul_l (a := U) (b := 0 + c0 + c1 + c2) rfl rfl) ?_
      refine wi_callV2 rfl (by decide) (by decide) rfl (kd_96 ..) rfl rfl rfl (c_become (P := (Int64.ofNat (sm * U) - fT mi p U g s0 g).toInt.natAbs) (Z := U * (0 + c0 + c1 + c2)) hza.1 hza.2 (by omega) hpos ?_)
      refine wi_iconst (x := 1) rfl rfl ?_
      refine wi_iret rfl (by decide) ?_
      refine wi_if_ne rfl (fun _ => ?_) (fun h9 => absurd (by decide) h9)
      refine wi_aload_n rfl rfl ?_
      refine wi_callV0 rfl (by decide) (by decide) rfl (kd_0 ..) rfl rfl rfl ?_
      refine wi_aload_n rfl rfl ?_
      refine wi_iconst (x := 0) rfl rfl ?_
      refine wi_putI rfl (kd_0 ..) ?_
      refine wi_iconst (x := 1) rfl rfl ?_
      refine wi_iret rfl (by decide) ?_
      refine wi_iret rfl (by decide) ?_
      refine hK _ _ _ _ (fun Q2 h2 => ?_)
      refine wi_aload_n rfl rfl ?_
      refine wi_iconst (x := 0) rfl rfl ?_
      refine wi_putI rfl (kd_134 ..) ?_
      refine wi_aload_n rfl rfl ?_
      refine wi_iconst (x := 0) rfl rfl ?_
      refine wi_putI rfl (kd_134 ..) ?_
      refine wi_aload_n rfl rfl ?_
      refine wi_iload_n rfl rfl ?_
      refine wi_callV1 rfl (by decide) (by decide) rfl (kd_134 ..) rfl rfl rfl (c_isM hc21 (st_in (n := c) (by omega) (by omega)) ?_)
      refine wi_if_ne rfl (fun _ => ?_) (fun h9 => absurd (by decide) h9)
      refine wi_iconst (x := 0) rfl rfl ?_
      refine wi_istore_n (l' := [.ref 134, .int (Int32.ofNat (p)), .int (0 : Int32), .retAddr 0, .retAddr 0, .retAddr 0, .retAddr 0, .retAddr 0, .retAddr 0, .retAddr 0, .retAddr 0]) rfl (Nat.le_of_ble_eq_true rfl) rfl rfl ?_
      refine wi_lconst (lx := 0) rfl rfl ?_
      refine wi_lstore_n (l' := [.ref 134, .int (Int32.ofNat (p)), .int (0 : Int32), .long (0 : Int64), .retAddr 0, .retAddr 0, .retAddr 0, .retAddr 0, .retAddr 0, .retAddr 0, .retAddr 0]) rfl (Nat.le_of_ble_eq_true rfl) rfl rfl ?_
      refine wi_iconst (x := 0) rfl rfl ?_
      refine wi_istore (l' := [.ref 134, .int (Int32.ofNat (p)), .int (0 : Int32), .long (0 : Int64), .retAddr 0, .int (0 : Int32), .retAddr 0, .retAddr 0, .retAddr 0, .retAddr 0, .retAddr 0]) rfl (Nat.le_of_ble_eq_true rfl) rfl rfl ?_
      refine mf_1 (mi := (u2 (u2 (u2 mi 0 12 (0 : Int32)) 134 1 (0 : Int32)) 134 0 (0 : Int32))) (g := g) (p := p) hg30 hg hof hby hva (by omega) (by_rw2 (l0 := [.ref 134, .int (Int32.ofNat p)]) hcm esm.symm ?_) g 0 (by omega)
      refine wi_iload_n rfl rfl ?_
      refine wi_if_ne rfl (fun _ => ?_) (fun h9 => absurd trivial (by exfalso; have h8 := (not_congr (ne_n (a := 0 + c0 + c1 + c2) (b := 0) rfl (rfl : (0 : Int32) = Int32.ofNat 0) (by omega) (by omega))).mp h9; omega))
      refine wi_aload_n rfl rfl ?_
      refine wi_iconst (x := 3) rfl rfl ?_
      refine wi_callV1 rfl (by decide) (by decide) rfl (kd_134 ..) rfl rfl rfl (c_manyBy3 hg30 hg hby hva cnt_all ?_)
      refine wn_i2l (lz := (Int64.ofNat (g))) rfl (i2l_n (a := g) rfl (by omega)) ?_
      refine wi_lstore (l' := [.ref 134, .int (Int32.ofNat (p)), .int (Int32.ofNat (0 + c0 + c1 + c2)), .long (Int64.ofNat (sm)), .retAddr 0, .long (Int64.ofNat (g)), .retAddr 0, .retAddr 0, .retAddr 0, .retAddr 0, .retAddr 0]) rfl (Nat.le_of_ble_eq_true rfl) rfl rfl ?_
      refine wi_iconst (x := 0) rfl rfl ?_
      refine wi_istore (l' := [.ref 134, .int (Int32.ofNat (p)), .int (Int32.ofNat (0 + c0 + c1 + c2)), .long (Int64.ofNat (sm)), .retAddr 0, .long (Int64.ofNat (g)), .retAddr 0, .int (0 : Int32), .retAddr 0, .retAddr 0, .retAddr 0]) rfl (Nat.le_of_ble_eq_true rfl) rfl rfl ?_
      refine wi_iload rfl rfl ?_
      refine wi_iconst (x := 3) rfl rfl ?_
      refine wi_icmp_ge rfl (fun h9 => absurd h9 (by decide)) (fun _ => ?_)
      refine wi_lload rfl rfl ?_
      refine wi_iconst (x := 1) rfl rfl ?_
      refine wi_aload_n rfl rfl ?_
      refine wi_iload rfl rfl ?_
      refine wi_callV1 rfl (by decide) (by decide) rfl (kd_134 ..) rfl rfl rfl (c_manyBy (y := 0) (by omega) hg30 hg hby hva en0.symm ?_)
      refine wn_max (z := (Int32.ofNat (max 1 n0))) rfl rfl (max_n (a := 1) (b := n0) (rfl : (1 : Int32) = Int32.ofNat 1) rfl (by omega) (by omega)) ?_
      refine wn_i2l (lz := (Int64.ofNat (max 1 n0))) rfl (i2l_n (a := max 1 n0) rfl (by omega)) ?_
      refine wn_lmul (lz := (Int64.ofNat (g * (max 1 n0)))) rfl (mul_l (a := g) (b := max 1 n0) rfl rfl) ?_
      refine wi_lstore (l' := [.ref 134, .int (Int32.ofNat (p)), .int (Int32.ofNat (0 + c0 + c1 + c2)), .long (Int64.ofNat (sm)), .retAddr 0, .long (Int64.ofNat (g * (max 1 n0))), .retAddr 0, .int (0 : Int32), .retAddr 0, .retAddr 0, .retAddr 0]) rfl (Nat.le_of_ble_eq_true rfl) rfl rfl ?_
      refine wi_iinc (z := (1 : Int32)) rfl rfl rfl (by decide) rfl ?_
      refine wi_goto rfl ?_
      refine wi_iload rfl rfl ?_
      refine wi_iconst (x := 3) rfl rfl ?_
      refine wi_icmp_ge rfl (fun h9 => absurd h9 (by decide)) (fun _ => ?_)
      refine wi_lload rfl rfl ?_
      refine wi_iconst (x := 1) rfl rfl ?_
      refine wi_aload_n rfl rfl ?_
      refine wi_iload rfl rfl ?_
      refine wi_callV1 rfl (by decide) (by decide) rfl (kd_134 ..) rfl rfl rfl (c_manyBy (y := 1) (by omega) hg30 hg hby hva en1.symm ?_)
      refine wn_max (z := (Int32.ofNat (max 1 n1))) rfl rfl (max_n (a := 1) (b := n1) (rfl : (1 : Int32) = Int32.ofNat 1) rfl (by omega) (by omega)) ?_
      refine wn_i2l (lz := (Int64.ofNat (max 1 n1))) rfl (i2l_n (a := max 1 n1) rfl (by omega)) ?_
      refine wn_lmul (lz := (Int64.ofNat ((g * (max 1 n0)) * (max 1 n1)))) rfl (mul_l (a := g * (max 1 n0)) (b := max 1 n1) rfl rfl) ?_
      refine wi_lstore (l' := [.ref 134, .int (Int32.ofNat (p)), .int (Int32.ofNat (0 + c0 + c1 + c2)), .long (Int64.ofNat (sm)), .retAddr 0, .long (Int64.ofNat ((g * (max 1 n0)) * (max 1 n1))), .retAddr 0, .int (1 : Int32), .retAddr 0, .retAddr 0, .retAddr 0]) rfl (Nat.le_of_ble_eq_true rfl) rfl rfl ?_
      refine wi_iinc (z := (2 : Int32)) rfl rfl rfl (by decide) rfl ?_
      refine wi_goto rfl ?_
      refine wi_iload rfl rfl ?_
      refine wi_iconst (x := 3) rfl rfl ?_
      refine wi_icmp_ge rfl (fun h9 => absurd h9 (by decide)) (fun _ => ?_)
      refine wi_lload rfl rfl ?_
      refine wi_iconst (x := 1) rfl rfl ?_
      refine wi_aload_n rfl rfl ?_
      refine wi_iload rfl rfl ?_
      refine wi_callV1 rfl (by decide) (by decide) rfl (kd_134 ..) rfl rfl rfl (c_manyBy (y := 2) (by omega) hg30 hg hby hva en2.symm ?_)
      refine wn_max (z := (Int32.ofNat (max 1 n2))) rfl rfl (max_n (a := 1) (b := n2) (rfl : (1 : Int32) = Int32.ofNat 1) rfl (by omega) (by omega)) ?_
      refine wn_i2l (lz := (Int64.ofNat (max 1 n2))) rfl (i2l_n (a := max 1 n2) rfl (by omega)) ?_
      refine wn_lmul (lz := (Int64.ofNat (((g * (max 1 n0)) * (max 1 n1)) * (max 1 n2)))) rfl (mul_l (a := (g * (max 1 n0)) * (max 1 n1)) (b := max 1 n2) rfl rfl) ?_
      refine wi_lstore (l' := [.ref 134, .int (Int32.ofNat (p)), .int (Int32.ofNat (0 + c0 + c1 + c2)), .long (Int64.ofNat (sm)), .retAddr 0, .long (Int64.ofNat (((g * (max 1 n0)) * (max 1 n1)) * (max 1 n2))), .retAddr 0, .int (2 : Int32), .retAddr 0, .retAddr 0, .retAddr 0]) rfl (Nat.le_of_ble_eq_true rfl) rfl rfl ?_
      refine wi_iinc (z := (3 : Int32)) rfl rfl rfl (by decide) rfl ?_
      refine wi_goto rfl ?_
      refine wi_iload rfl rfl ?_
      refine wi_iconst (x := 3) rfl rfl ?_
      refine wi_icmp_ge rfl (fun _ => ?_) (fun h9 => absurd (by decide) h9)
      rw [← eU ()]
      refine wi_lload_n rfl rfl ?_
      refine wi_lload rfl rfl ?_
      refine wn_lmul (lz := (Int64.ofNat (sm * U))) rfl (mul_l (a := sm) (b := U) rfl rfl) ?_
      refine wi_lstore (l' := [.ref 134, .int (Int32.ofNat (p)), .int (Int32.ofNat (0 + c0 + c1 + c2)), .long (Int64.ofNat (sm)), .retAddr 0, .long (Int64.ofNat (U)), .retAddr 0, .long (Int64.ofNat (sm * U)), .retAddr 0, .retAddr 0, .retAddr 0]) rfl (Nat.le_of_ble_eq_true rfl) rfl rfl ?_
      refine wi_iconst (x := 0) rfl rfl ?_
      refine wi_istore (l' := [.ref 134, .int (Int32.ofNat (p)), .int (Int32.ofNat (0 + c0 + c1 + c2)), .long (Int64.ofNat (sm)), .retAddr 0, .long (Int64.ofNat (U)), .retAddr 0, .long (Int64.ofNat (sm * U)), .retAddr 0, .int (0 : Int32), .retAddr 0]) rfl (Nat.le_of_ble_eq_true rfl) rfl rfl ?_
      refine mf_2z (mi := (u2 (u2 (u2 mi 0 12 (0 : Int32)) 134 1 (0 : Int32)) 134 0 (0 : Int32))) (g := g) (p := p) (U := U) (s0 := s0) (A9 := Int64.ofNat (sm * U)) (F9 := fT mi p U g s0 g) hg30 hg hof hby hva (by omega) hU es0 hs0 (fT_fr (mi := mi) (mi' := (u2 (u2 (u2 mi 0 12 (0 : Int32)) 134 1 (0 : Int32)) 134 0 (0 : Int32))) rfl rfl rfl g) (fun v10 => ?_) _
      refine wi_aload_n rfl rfl ?_
      refine wi_lload rfl rfl ?_
      refine wi_lload rfl rfl ?_
      refine wi_iload_n rfl rfl ?_
      refine wn_i2l (lz := (Int64.ofNat (0 + c0 + c1 + c2))) rfl (i2l_n (a := 0 + c0 + c1 + c2) rfl (by omega)) ?_
      refine wn_lmul (lz := (Int64.ofNat (U * (0 + c0 + c1 + c2)))) rfl (mul_l (a := U) (b := 0 + c0 + c1 + c2) rfl rfl) ?_
      refine wi_callV2 rfl (by decide) (by decide) rfl (kd_134 ..) rfl rfl rfl (c_tells (P := (Int64.ofNat (sm * U) - fT mi p U g s0 g).toInt.natAbs) (Z := U * (0 + c0 + c1 + c2)) hza.1 hza.2 (by omega) hpos ?_)
      refine wi_iret rfl (by decide) ?_
      refine h2 _ _ _ ?_
      exact ⟨n, t, rfl, ⟨hn0, hn4, hn⟩, ⟨ht0, ht5, ht⟩, hT, hF, hC, hM, hP, hTp, hB, hFa, ⟨c, hc3, hc21, hc, hD, hDi, hW, hre, hsp, hre1, hsp1, hbf⟩, ⟨g, hg, hg30, hB1, hB2, hB3, hac, has⟩, ⟨rfl, rfl⟩⟩
