/-! ===== reads ===== -/
def pM (a e : Nat → Int32) (s dd : Int32) : Nat → Bool := fun k => decide (a k = s) && decide (e k = dd)
theorem nm1 {j : Nat} (h : j < 1000) : ¬ (Int32.ofNat j = -1) := by
  intro h1
  have h2 := congrArg Int32.toInt h1
  rw [i32_toInt (by omega)] at h2
  have h3 : (-1 : Int32).toInt = -1 := rfl
  omega
theorem lf_cases (M : Nat → Nat) (s : Nat) : (∀ i, i ≤ s → M i = 0) ∨ ∃ j, j ≤ s ∧ 0 < M j ∧ ∀ i, j < i → i ≤ s → M i = 0 := by
  induction s with
  | zero =>
    by_cases h : M 0 = 0
    · exact Or.inl (fun i hi => by rw [show i = 0 by omega]; exact h)
    · exact Or.inr ⟨0, by omega, by omega, fun i h1 h2 => by omega⟩
  | succ s ih =>
    by_cases h : M (s + 1) = 0
    · rcases ih with h1 | ⟨j, h1, h2, h3⟩
      · left
        intro i hi
        rcases Nat.lt_or_ge i (s + 1) with h4 | h4
        · exact h1 i (by omega)
        · rw [show i = s + 1 by omega]; exact h
      · right
        refine ⟨j, by omega, h2, fun i h4 h5 => ?_⟩
        rcases Nat.lt_or_ge i (s + 1) with h6 | h6
        · exact h3 i h4 (by omega)
        · rw [show i = s + 1 by omega]; exact h
    · exact Or.inr ⟨s + 1, by omega, by omega, fun i h1 h2 => by omega⟩
theorem rg_cases (M : Nat → Nat) (s n : Nat) (hs : s ≤ n) : (∀ i, s ≤ i → i < n → M i = 0) ∨ ∃ j, s ≤ j ∧ j < n ∧ 0 < M j ∧ ∀ i, s ≤ i → i < j → M i = 0 := by
  induction n with
  | zero => exact Or.inl (fun i h1 h2 => by omega)
  | succ n ih =>
    rcases Nat.lt_or_ge n s with h0 | h0
    · exact Or.inl (fun i h1 h2 => by omega)
    · rcases ih h0 with h1 | ⟨j, h1, h2, h3, h4⟩
      · by_cases h : M n = 0
        · left
          intro i h2 h3
          rcases Nat.lt_or_ge i n with h4 | h4
          · exact h1 i h2 h4
          · rw [show i = n by omega]; exact h
        · exact Or.inr ⟨n, by omega, by omega, by omega, fun i h2 h3 => h1 i h2 h3⟩
      · exact Or.inr ⟨j, h1, by omega, h3, h4⟩
section RD
variable {X : Nat × (Nat → Int32)} {d : Nat} {Q : Option Value → am_M → Prop} {mi : Nat → Nat → Int32} {ml : Nat → Nat → Int64} {b : Bool}
theorem xmany_l {q z : Nat} {s dd : Int32} (h93 : mi 9 3 = Int32.ofNat q) (hq : q ≤ 200) (hz : cntN (pM (mi 10) (mi 11) s dd) (q) = z) (hQ : Q (some (.long (Int64.ofNat z))) (am_shT, mrL b, mi, ml)) : ∀ k i, i + k = q → am_wp X d 16 4 [.ref 9, .int s, .int dd, .long (Int64.ofNat (cntN (pM (mi 10) (mi 11) s dd) (i))), .retAddr 0, .int (Int32.ofNat (i))] [] (am_shT, mrL b, mi, ml) Q := by
  intro k
  induction k with
  | zero =>
    intro i hi
    refine wi_iload rfl rfl ?_
    refine wi_aload_n rfl rfl ?_
    refine wi_getIv (v := (Int32.ofNat (q))) rfl (kd_9 ..) h93 ?_
    refine wi_icmp_ge rfl (fun _ => ?_) (fun h9 => absurd trivial (by exfalso; have h8 := (not_congr (le_n (a := q) (b := i) rfl rfl (by omega) (by omega))).mp h9; omega))
    refine wi_lload_n rfl rfl ?_
    refine wi_lret rfl ?_
    obtain rfl : i = q := by omega
    subst hz
    exact hQ
  | succ k ih =>
    intro i hi
    have hb3 : cntN (pM (mi 10) (mi 11) s dd) (i) ≤ i := cntN_le
    refine wi_iload rfl rfl ?_
    refine wi_aload_n rfl rfl ?_
    refine wi_getIv (v := (Int32.ofNat (q))) rfl (kd_9 ..) h93 ?_
    refine wi_icmp_ge rfl (fun h9 => absurd trivial (by exfalso; have h8 := (le_n (a := q) (b := i) rfl rfl (by omega) (by omega)).mp h9; omega)) (fun _ => ?_)
    refine wi_aload_n rfl rfl ?_
    refine wi_getR rfl (kd_9 ..) (rd_9_0 _) ?_
    refine wi_iload rfl rfl ?_
    refine wn_iaload (q := i) (v := (mi 10 i)) rfl (ln_10 ..) rfl (by omega) (by decide) (by decide) (by decide) rfl ?_
    refine wi_iload_n rfl rfl ?_
    refine wi_icmp_ne rfl (fun g1 => ?_) (fun g1 => ?_)
    · skip
      refine wi_iinc (z := (Int32.ofNat (i + 1))) rfl rfl rfl (add_n (a := i) (b := 1) rfl rfl) rfl ?_
      refine wi_goto rfl ?_
      have e8 : cntN (pM (mi 10) (mi 11) s dd) (i + 1) = cntN (pM (mi 10) (mi 11) s dd) (i) := by
        show cntN (pM (mi 10) (mi 11) s dd) (i) + _ = _
        simp [pM, g1]
      have h9 := ih (i + 1) (by omega)
      rw [e8] at h9
      exact h9
    · replace g1 := Classical.not_not.mp g1
      refine wi_aload_n rfl rfl ?_
      refine wi_getR rfl (kd_9 ..) (rd_9_1 _) ?_
      refine wi_iload rfl rfl ?_
      refine wn_iaload (q := i) (v := (mi 11 i)) rfl (ln_11 ..) rfl (by omega) (by decide) (by decide) (by decide) rfl ?_
      refine wi_iload_n rfl rfl ?_
      refine wi_icmp_ne rfl (fun g2 => ?_) (fun g2 => ?_)
      · skip
        refine wi_iinc (z := (Int32.ofNat (i + 1))) rfl rfl rfl (add_n (a := i) (b := 1) rfl rfl) rfl ?_
        refine wi_goto rfl ?_
        have e8 : cntN (pM (mi 10) (mi 11) s dd) (i + 1) = cntN (pM (mi 10) (mi 11) s dd) (i) := by
          show cntN (pM (mi 10) (mi 11) s dd) (i) + _ = _
          simp [pM, g1, g2]
        have h9 := ih (i + 1) (by omega)
        rw [e8] at h9
        exact h9
      · replace g2 := Classical.not_not.mp g2
        refine wi_lload_n rfl rfl ?_
        refine wi_lconst (lx := 1) rfl rfl ?_
        refine wn_ladd (lz := (Int64.ofNat (cntN (pM (mi 10) (mi 11) s dd) (i) + 1))) rfl (add_l (a := cntN (pM (mi 10) (mi 11) s dd) (i)) (b := 1) rfl (rfl : (1 : Int64) = Int64.ofNat 1)) ?_
        refine wi_lstore_n (l' := [.ref 9, .int s, .int dd, .long (Int64.ofNat (cntN (pM (mi 10) (mi 11) s dd) (i) + 1)), .retAddr 0, .int (Int32.ofNat (i))]) rfl (Nat.le_of_ble_eq_true rfl) rfl rfl ?_
        refine wi_iinc (z := (Int32.ofNat (i + 1))) rfl rfl rfl (add_n (a := i) (b := 1) rfl rfl) rfl ?_
        refine wi_goto rfl ?_
        have e8 : cntN (pM (mi 10) (mi 11) s dd) (i + 1) = cntN (pM (mi 10) (mi 11) s dd) (i) + 1 := by
          show cntN (pM (mi 10) (mi 11) s dd) (i) + _ = _
          simp [pM, g1, g2]
        have h9 := ih (i + 1) (by omega)
        rw [e8] at h9
        exact h9
theorem c_xmany {q z : Nat} {s dd : Int32} (h93 : mi 9 3 = Int32.ofNat q) (hq : q ≤ 200) (hz : cntN (pM (mi 10) (mi 11) s dd) (q) = z) (hQ : Q (some (.long (Int64.ofNat z))) (am_shT, mrL b, mi, ml)) : am_wp X d 16 0 [.ref 9, .int s, .int dd, .retAddr 0, .retAddr 0, .retAddr 0] [] (am_shT, mrL b, mi, ml) Q := by
  refine wi_lconst (lx := 0) rfl rfl ?_
  refine wi_lstore_n (l' := [.ref 9, .int s, .int dd, .long (0 : Int64), .retAddr 0, .retAddr 0]) rfl (Nat.le_of_ble_eq_true rfl) rfl rfl ?_
  refine wi_iconst (x := 0) rfl rfl ?_
  refine wi_istore (l' := [.ref 9, .int s, .int dd, .long (0 : Int64), .retAddr 0, .int (0 : Int32)]) rfl (Nat.le_of_ble_eq_true rfl) rfl rfl ?_
  exact xmany_l h93 hq hz hQ q 0 (by omega)
theorem xsum_l {q z : Nat} {s dd : Int32} (h93 : mi 9 3 = Int32.ofNat q) (hq : q ≤ 200) (hva : ∀ k, k < q → mi 12 k = Int32.ofNat (clN (mi 12) k) ∧ clN (mi 12) k ≤ 100) (hz : sumN (pM (mi 10) (mi 11) s dd) (clN (mi 12)) (q) = z) (hQ : Q (some (.long (Int64.ofNat z))) (am_shT, mrL b, mi, ml)) : ∀ k i, i + k = q → am_wp X d 17 4 [.ref 9, .int s, .int dd, .long (Int64.ofNat (sumN (pM (mi 10) (mi 11) s dd) (clN (mi 12)) (i))), .retAddr 0, .int (Int32.ofNat (i))] [] (am_shT, mrL b, mi, ml) Q := by
  intro k
  induction k with
  | zero =>
    intro i hi
    refine wi_iload rfl rfl ?_
    refine wi_aload_n rfl rfl ?_
    refine wi_getIv (v := (Int32.ofNat (q))) rfl (kd_9 ..) h93 ?_
    refine wi_icmp_ge rfl (fun _ => ?_) (fun h9 => absurd trivial (by exfalso; have h8 := (not_congr (le_n (a := q) (b := i) rfl rfl (by omega) (by omega))).mp h9; omega))
    refine wi_lload_n rfl rfl ?_
    refine wi_lret rfl ?_
    obtain rfl : i = q := by omega
    subst hz
    exact hQ
  | succ k ih =>
    intro i hi
    have hb2 := (hva i (by omega)).2
    have hb3 : sumN (pM (mi 10) (mi 11) s dd) (clN (mi 12)) (i) ≤ 100 * i := sumN_le (fun k hk => (hva k (by omega)).2)
    refine wi_iload rfl rfl ?_
    refine wi_aload_n rfl rfl ?_
    refine wi_getIv (v := (Int32.ofNat (q))) rfl (kd_9 ..) h93 ?_
    refine wi_icmp_ge rfl (fun h9 => absurd trivial (by exfalso; have h8 := (le_n (a := q) (b := i) rfl rfl (by omega) (by omega)).mp h9; omega)) (fun _ => ?_)
    refine wi_aload_n rfl rfl ?_
    refine wi_getR rfl (kd_9 ..) (rd_9_0 _) ?_
    refine wi_iload rfl rfl ?_
    refine wn_iaload (q := i) (v := (mi 10 i)) rfl (ln_10 ..) rfl (by omega) (by decide) (by decide) (by decide) rfl ?_
    refine wi_iload_n rfl rfl ?_
    refine wi_icmp_ne rfl (fun g1 => ?_) (fun g1 => ?_)
    · skip
      refine wi_iinc (z := (Int32.ofNat (i + 1))) rfl rfl rfl (add_n (a := i) (b := 1) rfl rfl) rfl ?_
      refine wi_goto rfl ?_
      have e8 : sumN (pM (mi 10) (mi 11) s dd) (clN (mi 12)) (i + 1) = sumN (pM (mi 10) (mi 11) s dd) (clN (mi 12)) (i) := by
        show sumN (pM (mi 10) (mi 11) s dd) (clN (mi 12)) (i) + _ = _
        simp [pM, g1]
      have h9 := ih (i + 1) (by omega)
      rw [e8] at h9
      exact h9
    · replace g1 := Classical.not_not.mp g1
      refine wi_aload_n rfl rfl ?_
      refine wi_getR rfl (kd_9 ..) (rd_9_1 _) ?_
      refine wi_iload rfl rfl ?_
      refine wn_iaload (q := i) (v := (mi 11 i)) rfl (ln_11 ..) rfl (by omega) (by decide) (by decide) (by decide) rfl ?_
      refine wi_iload_n rfl rfl ?_
      refine wi_icmp_ne rfl (fun g2 => ?_) (fun g2 => ?_)
      · skip
        refine wi_iinc (z := (Int32.ofNat (i + 1))) rfl rfl rfl (add_n (a := i) (b := 1) rfl rfl) rfl ?_
        refine wi_goto rfl ?_
        have e8 : sumN (pM (mi 10) (mi 11) s dd) (clN (mi 12)) (i + 1) = sumN (pM (mi 10) (mi 11) s dd) (clN (mi 12)) (i) := by
          show sumN (pM (mi 10) (mi 11) s dd) (clN (mi 12)) (i) + _ = _
          simp [pM, g1, g2]
        have h9 := ih (i + 1) (by omega)
        rw [e8] at h9
        exact h9
      · replace g2 := Classical.not_not.mp g2
        refine wi_lload_n rfl rfl ?_
        refine wi_aload_n rfl rfl ?_
        refine wi_getR rfl (kd_9 ..) (rd_9_2 _) ?_
        refine wi_iload rfl rfl ?_
        refine wn_iaload (q := i) (v := (Int32.ofNat (clN (mi 12) i))) rfl (ln_12 ..) rfl (by omega) (by decide) (by decide) (by decide) (hva i (by omega)).1 ?_
        refine wn_i2l (lz := (Int64.ofNat (clN (mi 12) i))) rfl (i2l_n (a := clN (mi 12) i) rfl (by omega)) ?_
        refine wn_ladd (lz := (Int64.ofNat (sumN (pM (mi 10) (mi 11) s dd) (clN (mi 12)) (i) + clN (mi 12) i))) rfl (add_l (a := sumN (pM (mi 10) (mi 11) s dd) (clN (mi 12)) (i)) (b := clN (mi 12) i) rfl rfl) ?_
        refine wi_lstore_n (l' := [.ref 9, .int s, .int dd, .long (Int64.ofNat (sumN (pM (mi 10) (mi 11) s dd) (clN (mi 12)) (i) + clN (mi 12) i)), .retAddr 0, .int (Int32.ofNat (i))]) rfl (Nat.le_of_ble_eq_true rfl) rfl rfl ?_
        refine wi_iinc (z := (Int32.ofNat (i + 1))) rfl rfl rfl (add_n (a := i) (b := 1) rfl rfl) rfl ?_
        refine wi_goto rfl ?_
        have e8 : sumN (pM (mi 10) (mi 11) s dd) (clN (mi 12)) (i + 1) = sumN (pM (mi 10) (mi 11) s dd) (clN (mi 12)) (i) + clN (mi 12) i := by
          show sumN (pM (mi 10) (mi 11) s dd) (clN (mi 12)) (i) + _ = _
          simp [pM, g1, g2]
        have h9 := ih (i + 1) (by omega)
        rw [e8] at h9
        exact h9
theorem c_xsum {q z : Nat} {s dd : Int32} (h93 : mi 9 3 = Int32.ofNat q) (hq : q ≤ 200) (hva : ∀ k, k < q → mi 12 k = Int32.ofNat (clN (mi 12) k) ∧ clN (mi 12) k ≤ 100) (hz : sumN (pM (mi 10) (mi 11) s dd) (clN (mi 12)) (q) = z) (hQ : Q (some (.long (Int64.ofNat z))) (am_shT, mrL b, mi, ml)) : am_wp X d 17 0 [.ref 9, .int s, .int dd, .retAddr 0, .retAddr 0, .retAddr 0] [] (am_shT, mrL b, mi, ml) Q := by
  refine wi_lconst (lx := 0) rfl rfl ?_
  refine wi_lstore_n (l' := [.ref 9, .int s, .int dd, .long (0 : Int64), .retAddr 0, .retAddr 0]) rfl (Nat.le_of_ble_eq_true rfl) rfl rfl ?_
  refine wi_iconst (x := 0) rfl rfl ?_
  refine wi_istore (l' := [.ref 9, .int s, .int dd, .long (0 : Int64), .retAddr 0, .int (0 : Int32)]) rfl (Nat.le_of_ble_eq_true rfl) rfl rfl ?_
  exact xsum_l h93 hq hva hz hQ q 0 (by omega)
theorem mmany_l {q z : Nat} {s dd : Int32} (h14 : mi 134 14 = Int32.ofNat q) (hq : q ≤ 200) (hz : cntN (pM (mi 143) (mi 144) s dd) (q) = z) (hQ : Q (some (.int (Int32.ofNat z))) (am_shT, mrL b, mi, ml)) : ∀ k i, i + k = q → am_wp X d 162 4 [.ref 134, .int s, .int dd, .int (Int32.ofNat (cntN (pM (mi 143) (mi 144) s dd) (i))), .int (Int32.ofNat (i))] [] (am_shT, mrL b, mi, ml) Q := by
  intro k
  induction k with
  | zero =>
    intro i hi
    refine wi_iload rfl rfl ?_
    refine wi_aload_n rfl rfl ?_
    refine wi_getIv (v := (Int32.ofNat (q))) rfl (kd_134 ..) h14 ?_
    refine wi_icmp_ge rfl (fun _ => ?_) (fun h9 => absurd trivial (by exfalso; have h8 := (not_congr (le_n (a := q) (b := i) rfl rfl (by omega) (by omega))).mp h9; omega))
    refine wi_iload_n rfl rfl ?_
    refine wi_iret rfl (Or.inl rfl) ?_
    obtain rfl : i = q := by omega
    subst hz
    exact hQ
  | succ k ih =>
    intro i hi
    have hb3 : cntN (pM (mi 143) (mi 144) s dd) (i) ≤ i := cntN_le
    refine wi_iload rfl rfl ?_
    refine wi_aload_n rfl rfl ?_
    refine wi_getIv (v := (Int32.ofNat (q))) rfl (kd_134 ..) h14 ?_
    refine wi_icmp_ge rfl (fun h9 => absurd trivial (by exfalso; have h8 := (le_n (a := q) (b := i) rfl rfl (by omega) (by omega)).mp h9; omega)) (fun _ => ?_)
    refine wi_iload_n rfl rfl ?_
    refine wi_aload_n rfl rfl ?_
    refine wi_getR rfl (kd_134 ..) (rd_134_15 _) ?_
    refine wi_iload rfl rfl ?_
    refine wn_iaload (q := i) (v := (mi 143 i)) rfl (ln_143 ..) rfl (by omega) (by decide) (by decide) (by decide) rfl ?_
    refine wi_iload_n rfl rfl ?_
    refine wi_icmp_ne rfl (fun g1 => ?_) (fun g1 => ?_)
    · skip
      refine wi_iconst (x := 0) rfl rfl ?_
      refine wn_iadd (z := (Int32.ofNat (cntN (pM (mi 143) (mi 144) s dd) (i) + 0))) rfl (add_n (a := cntN (pM (mi 143) (mi 144) s dd) (i)) (b := 0) rfl (rfl : (0 : Int32) = Int32.ofNat 0)) ?_
      refine wi_istore_n (l' := [.ref 134, .int s, .int dd, .int (Int32.ofNat (cntN (pM (mi 143) (mi 144) s dd) (i) + 0)), .int (Int32.ofNat (i))]) rfl (Nat.le_of_ble_eq_true rfl) rfl rfl ?_
      refine wi_iinc (z := (Int32.ofNat (i + 1))) rfl rfl rfl (add_n (a := i) (b := 1) rfl rfl) rfl ?_
      refine wi_goto rfl ?_
      have e8 : cntN (pM (mi 143) (mi 144) s dd) (i + 1) = cntN (pM (mi 143) (mi 144) s dd) (i) + 0 := by
        show cntN (pM (mi 143) (mi 144) s dd) (i) + _ = _
        simp [pM, g1]
      have h9 := ih (i + 1) (by omega)
      rw [e8] at h9
      exact h9
    · replace g1 := Classical.not_not.mp g1
      refine wi_aload_n rfl rfl ?_
      refine wi_getR rfl (kd_134 ..) (rd_134_16 _) ?_
      refine wi_iload rfl rfl ?_
      refine wn_iaload (q := i) (v := (mi 144 i)) rfl (ln_144 ..) rfl (by omega) (by decide) (by decide) (by decide) rfl ?_
      refine wi_iload_n rfl rfl ?_
      refine wi_icmp_ne rfl (fun g2 => ?_) (fun g2 => ?_)
      · skip
        refine wi_iconst (x := 0) rfl rfl ?_
        refine wn_iadd (z := (Int32.ofNat (cntN (pM (mi 143) (mi 144) s dd) (i) + 0))) rfl (add_n (a := cntN (pM (mi 143) (mi 144) s dd) (i)) (b := 0) rfl (rfl : (0 : Int32) = Int32.ofNat 0)) ?_
        refine wi_istore_n (l' := [.ref 134, .int s, .int dd, .int (Int32.ofNat (cntN (pM (mi 143) (mi 144) s dd) (i) + 0)), .int (Int32.ofNat (i))]) rfl (Nat.le_of_ble_eq_true rfl) rfl rfl ?_
        refine wi_iinc (z := (Int32.ofNat (i + 1))) rfl rfl rfl (add_n (a := i) (b := 1) rfl rfl) rfl ?_
        refine wi_goto rfl ?_
        have e8 : cntN (pM (mi 143) (mi 144) s dd) (i + 1) = cntN (pM (mi 143) (mi 144) s dd) (i) + 0 := by
          show cntN (pM (mi 143) (mi 144) s dd) (i) + _ = _
          simp [pM, g1, g2]
        have h9 := ih (i + 1) (by omega)
        rw [e8] at h9
        exact h9
      · replace g2 := Classical.not_not.mp g2
        refine wi_iconst (x := 1) rfl rfl ?_
        refine wi_goto rfl ?_
        refine wn_iadd (z := (Int32.ofNat (cntN (pM (mi 143) (mi 144) s dd) (i) + 1))) rfl (add_n (a := cntN (pM (mi 143) (mi 144) s dd) (i)) (b := 1) rfl (rfl : (1 : Int32) = Int32.ofNat 1)) ?_
        refine wi_istore_n (l' := [.ref 134, .int s, .int dd, .int (Int32.ofNat (cntN (pM (mi 143) (mi 144) s dd) (i) + 1)), .int (Int32.ofNat (i))]) rfl (Nat.le_of_ble_eq_true rfl) rfl rfl ?_
        refine wi_iinc (z := (Int32.ofNat (i + 1))) rfl rfl rfl (add_n (a := i) (b := 1) rfl rfl) rfl ?_
        refine wi_goto rfl ?_
        have e8 : cntN (pM (mi 143) (mi 144) s dd) (i + 1) = cntN (pM (mi 143) (mi 144) s dd) (i) + 1 := by
          show cntN (pM (mi 143) (mi 144) s dd) (i) + _ = _
          simp [pM, g1, g2]
        have h9 := ih (i + 1) (by omega)
        rw [e8] at h9
        exact h9
theorem c_mmany {q z : Nat} {s dd : Int32} (h14 : mi 134 14 = Int32.ofNat q) (hq : q ≤ 200) (hz : cntN (pM (mi 143) (mi 144) s dd) (q) = z) (hQ : Q (some (.int (Int32.ofNat z))) (am_shT, mrL b, mi, ml)) : am_wp X d 162 0 [.ref 134, .int s, .int dd, .retAddr 0, .retAddr 0] [] (am_shT, mrL b, mi, ml) Q := by
  refine wi_iconst (x := 0) rfl rfl ?_
  refine wi_istore_n (l' := [.ref 134, .int s, .int dd, .int (0 : Int32), .retAddr 0]) rfl (Nat.le_of_ble_eq_true rfl) rfl rfl ?_
  refine wi_iconst (x := 0) rfl rfl ?_
  refine wi_istore (l' := [.ref 134, .int s, .int dd, .int (0 : Int32), .int (0 : Int32)]) rfl (Nat.le_of_ble_eq_true rfl) rfl rfl ?_
  exact mmany_l h14 hq hz hQ q 0 (by omega)
theorem msum_l {q z : Nat} {s dd : Int32} (h14 : mi 134 14 = Int32.ofNat q) (hq : q ≤ 200) (hva : ∀ k, k < q → mi 145 k = Int32.ofNat (clN (mi 145) k) ∧ clN (mi 145) k ≤ 100) (hz : sumN (pM (mi 143) (mi 144) s dd) (clN (mi 145)) (q) = z) (hQ : Q (some (.int (Int32.ofNat z))) (am_shT, mrL b, mi, ml)) : ∀ k i, i + k = q → am_wp X d 163 4 [.ref 134, .int s, .int dd, .int (Int32.ofNat (sumN (pM (mi 143) (mi 144) s dd) (clN (mi 145)) (i))), .int (Int32.ofNat (i))] [] (am_shT, mrL b, mi, ml) Q := by
  intro k
  induction k with
  | zero =>
    intro i hi
    refine wi_iload rfl rfl ?_
    refine wi_aload_n rfl rfl ?_
    refine wi_getIv (v := (Int32.ofNat (q))) rfl (kd_134 ..) h14 ?_
    refine wi_icmp_ge rfl (fun _ => ?_) (fun h9 => absurd trivial (by exfalso; have h8 := (not_congr (le_n (a := q) (b := i) rfl rfl (by omega) (by omega))).mp h9; omega))
    refine wi_iload_n rfl rfl ?_
    refine wi_iret rfl (Or.inl rfl) ?_
    obtain rfl : i = q := by omega
    subst hz
    exact hQ
  | succ k ih =>
    intro i hi
    have hb2 := (hva i (by omega)).2
    have hb3 : sumN (pM (mi 143) (mi 144) s dd) (clN (mi 145)) (i) ≤ 100 * i := sumN_le (fun k hk => (hva k (by omega)).2)
    refine wi_iload rfl rfl ?_
    refine wi_aload_n rfl rfl ?_
    refine wi_getIv (v := (Int32.ofNat (q))) rfl (kd_134 ..) h14 ?_
    refine wi_icmp_ge rfl (fun h9 => absurd trivial (by exfalso; have h8 := (le_n (a := q) (b := i) rfl rfl (by omega) (by omega)).mp h9; omega)) (fun _ => ?_)
    refine wi_iload_n rfl rfl ?_
    refine wi_aload_n rfl rfl ?_
    refine wi_getR rfl (kd_134 ..) (rd_134_15 _) ?_
    refine wi_iload rfl rfl ?_
    refine wn_iaload (q := i) (v := (mi 143 i)) rfl (ln_143 ..) rfl (by omega) (by decide) (by decide) (by decide) rfl ?_
    refine wi_iload_n rfl rfl ?_
    refine wi_icmp_ne rfl (fun g1 => ?_) (fun g1 => ?_)
    · skip
      refine wi_iconst (x := 0) rfl rfl ?_
      refine wn_iadd (z := (Int32.ofNat (sumN (pM (mi 143) (mi 144) s dd) (clN (mi 145)) (i) + 0))) rfl (add_n (a := sumN (pM (mi 143) (mi 144) s dd) (clN (mi 145)) (i)) (b := 0) rfl (rfl : (0 : Int32) = Int32.ofNat 0)) ?_
      refine wi_istore_n (l' := [.ref 134, .int s, .int dd, .int (Int32.ofNat (sumN (pM (mi 143) (mi 144) s dd) (clN (mi 145)) (i) + 0)), .int (Int32.ofNat (i))]) rfl (Nat.le_of_ble_eq_true rfl) rfl rfl ?_
      refine wi_iinc (z := (Int32.ofNat (i + 1))) rfl rfl rfl (add_n (a := i) (b := 1) rfl rfl) rfl ?_
      refine wi_goto rfl ?_
      have e8 : sumN (pM (mi 143) (mi 144) s dd) (clN (mi 145)) (i + 1) = sumN (pM (mi 143) (mi 144) s dd) (clN (mi 145)) (i) + 0 := by
        show sumN (pM (mi 143) (mi 144) s dd) (clN (mi 145)) (i) + _ = _
        simp [pM, g1]
      have h9 := ih (i + 1) (by omega)
      rw [e8] at h9
      exact h9
    · replace g1 := Classical.not_not.mp g1
      refine wi_aload_n rfl rfl ?_
      refine wi_getR rfl (kd_134 ..) (rd_134_16 _) ?_
      refine wi_iload rfl rfl ?_
      refine wn_iaload (q := i) (v := (mi 144 i)) rfl (ln_144 ..) rfl (by omega) (by decide) (by decide) (by decide) rfl ?_
      refine wi_iload_n rfl rfl ?_
      refine wi_icmp_ne rfl (fun g2 => ?_) (fun g2 => ?_)
      · skip
        refine wi_iconst (x := 0) rfl rfl ?_
        refine wn_iadd (z := (Int32.ofNat (sumN (pM (mi 143) (mi 144) s dd) (clN (mi 145)) (i) + 0))) rfl (add_n (a := sumN (pM (mi 143) (mi 144) s dd) (clN (mi 145)) (i)) (b := 0) rfl (rfl : (0 : Int32) = Int32.ofNat 0)) ?_
        refine wi_istore_n (l' := [.ref 134, .int s, .int dd, .int (Int32.ofNat (sumN (pM (mi 143) (mi 144) s dd) (clN (mi 145)) (i) + 0)), .int (Int32.ofNat (i))]) rfl (Nat.le_of_ble_eq_true rfl) rfl rfl ?_
        refine wi_iinc (z := (Int32.ofNat (i + 1))) rfl rfl rfl (add_n (a := i) (b := 1) rfl rfl) rfl ?_
        refine wi_goto rfl ?_
        have e8 : sumN (pM (mi 143) (mi 144) s dd) (clN (mi 145)) (i + 1) = sumN (pM (mi 143) (mi 144) s dd) (clN (mi 145)) (i) + 0 := by
          show sumN (pM (mi 143) (mi 144) s dd) (clN (mi 145)) (i) + _ = _
          simp [pM, g1, g2]
        have h9 := ih (i + 1) (by omega)
        rw [e8] at h9
        exact h9
      · replace g2 := Classical.not_not.mp g2
        refine wi_aload_n rfl rfl ?_
        refine wi_getR rfl (kd_134 ..) (rd_134_17 _) ?_
        refine wi_iload rfl rfl ?_
        refine wn_iaload (q := i) (v := (Int32.ofNat (clN (mi 145) i))) rfl (ln_145 ..) rfl (by omega) (by decide) (by decide) (by decide) (hva i (by omega)).1 ?_
        refine wi_goto rfl ?_
        refine wn_iadd (z := (Int32.ofNat (sumN (pM (mi 143) (mi 144) s dd) (clN (mi 145)) (i) + clN (mi 145) i))) rfl (add_n (a := sumN (pM (mi 143) (mi 144) s dd) (clN (mi 145)) (i)) (b := clN (mi 145) i) rfl rfl) ?_
        refine wi_istore_n (l' := [.ref 134, .int s, .int dd, .int (Int32.ofNat (sumN (pM (mi 143) (mi 144) s dd) (clN (mi 145)) (i) + clN (mi 145) i)), .int (Int32.ofNat (i))]) rfl (Nat.le_of_ble_eq_true rfl) rfl rfl ?_
        refine wi_iinc (z := (Int32.ofNat (i + 1))) rfl rfl rfl (add_n (a := i) (b := 1) rfl rfl) rfl ?_
        refine wi_goto rfl ?_
        have e8 : sumN (pM (mi 143) (mi 144) s dd) (clN (mi 145)) (i + 1) = sumN (pM (mi 143) (mi 144) s dd) (clN (mi 145)) (i) + clN (mi 145) i := by
          show sumN (pM (mi 143) (mi 144) s dd) (clN (mi 145)) (i) + _ = _
          simp [pM, g1, g2]
        have h9 := ih (i + 1) (by omega)
        rw [e8] at h9
        exact h9
theorem c_msum {q z : Nat} {s dd : Int32} (h14 : mi 134 14 = Int32.ofNat q) (hq : q ≤ 200) (hva : ∀ k, k < q → mi 145 k = Int32.ofNat (clN (mi 145) k) ∧ clN (mi 145) k ≤ 100) (hz : sumN (pM (mi 143) (mi 144) s dd) (clN (mi 145)) (q) = z) (hQ : Q (some (.int (Int32.ofNat z))) (am_shT, mrL b, mi, ml)) : am_wp X d 163 0 [.ref 134, .int s, .int dd, .retAddr 0, .retAddr 0] [] (am_shT, mrL b, mi, ml) Q := by
  refine wi_iconst (x := 0) rfl rfl ?_
  refine wi_istore_n (l' := [.ref 134, .int s, .int dd, .int (0 : Int32), .retAddr 0]) rfl (Nat.le_of_ble_eq_true rfl) rfl rfl ?_
  refine wi_iconst (x := 0) rfl rfl ?_
  refine wi_istore (l' := [.ref 134, .int s, .int dd, .int (0 : Int32), .int (0 : Int32)]) rfl (Nat.le_of_ble_eq_true rfl) rfl rfl ?_
  exact msum_l h14 hq hva hz hQ q 0 (by omega)
theorem near_s {q : Nat} {s dd w : Int32} {A : Nat → Int32} {M : Nat → Nat} (h93 : mi 9 3 = Int32.ofNat q) (hq : q ≤ 200) (hA : ∀ i, A i + w = A (i + 1)) (hM : ∀ i, cntN (pM (mi 10) (mi 11) (A i) dd) q = M i) (hMb : ∀ i, M i ≤ 200) {k : Nat} (hk : k < 8) (hz : ∀ i, i < k → M i = 0) (hp : 0 < M k) (hQ : Q (some (.int (A k))) (am_shT, mrL b, mi, ml)) : ∀ r i, i + r = k → am_wp X (d + 1) 15 4 [.ref 9, .int s, .int w, .int dd, .int (A i), .int (Int32.ofNat (i))] [] (am_shT, mrL b, mi, ml) Q := by
  intro r
  induction r with
  | zero =>
    intro i hi
    obtain rfl : i = k := by omega
    have hb := hMb i
    refine wi_iload rfl rfl ?_
    refine wi_bipush (x := 8) rfl rfl ?_
    refine wi_icmp_ge rfl (fun h9 => absurd trivial (by exfalso; have h8 := (le_n (a := 8) (b := i) (rfl : (8 : Int32) = Int32.ofNat 8) rfl (by omega) (by omega)).mp h9; omega)) (fun _ => ?_)
    refine wi_aload_n rfl rfl ?_
    refine wi_iload rfl rfl ?_
    refine wi_iload_n rfl rfl ?_
    refine wi_callV2 rfl (by decide) (by decide) rfl (kd_9 ..) rfl rfl rfl (c_xmany (z := M i) h93 hq (hM i) ?_)
    refine wi_lconst (lx := 0) rfl rfl ?_
    refine wi_lcmp rfl ?_
    refine wi_if_le rfl (fun h9 => absurd trivial (by exfalso; have h8 := (lc_le (a := M i) (b := 0) rfl (rfl : (0 : Int64) = Int64.ofNat 0) (by omega) (by omega)).mp h9; omega)) (fun _ => ?_)
    refine wi_iload rfl rfl ?_
    refine wi_iret rfl (Or.inl rfl) ?_
    exact hQ
  | succ r ih =>
    intro i hi
    have hb := hMb i
    have hb2 := hz i (by omega)
    refine wi_iload rfl rfl ?_
    refine wi_bipush (x := 8) rfl rfl ?_
    refine wi_icmp_ge rfl (fun h9 => absurd trivial (by exfalso; have h8 := (le_n (a := 8) (b := i) (rfl : (8 : Int32) = Int32.ofNat 8) rfl (by omega) (by omega)).mp h9; omega)) (fun _ => ?_)
    refine wi_aload_n rfl rfl ?_
    refine wi_iload rfl rfl ?_
    refine wi_iload_n rfl rfl ?_
    refine wi_callV2 rfl (by decide) (by decide) rfl (kd_9 ..) rfl rfl rfl (c_xmany (z := M i) h93 hq (hM i) ?_)
    refine wi_lconst (lx := 0) rfl rfl ?_
    refine wi_lcmp rfl ?_
    refine wi_if_le rfl (fun _ => ?_) (fun h9 => absurd trivial (by exfalso; have h8 := (not_congr (lc_le (a := M i) (b := 0) rfl (rfl : (0 : Int64) = Int64.ofNat 0) (by omega) (by omega))).mp h9; omega))
    refine wi_iload rfl rfl ?_
    refine wi_iload_n rfl rfl ?_
    refine wn_iadd (z := A (i + 1)) rfl (hA i) ?_
    refine wi_istore (l' := [.ref 9, .int s, .int w, .int dd, .int (A (i + 1)), .int (Int32.ofNat (i))]) rfl (Nat.le_of_ble_eq_true rfl) rfl rfl ?_
    refine wi_iinc (z := (Int32.ofNat (i + 1))) rfl rfl rfl (add_n (a := i) (b := 1) rfl rfl) rfl ?_
    refine wi_goto rfl ?_
    exact ih (i + 1) (by omega)
theorem c_near_s {q : Nat} {s dd w : Int32} {A : Nat → Int32} {M : Nat → Nat} (h93 : mi 9 3 = Int32.ofNat q) (hq : q ≤ 200) (hA0 : A 0 = s) (hA : ∀ i, A i + w = A (i + 1)) (hM : ∀ i, cntN (pM (mi 10) (mi 11) (A i) dd) q = M i) (hMb : ∀ i, M i ≤ 200) {k : Nat} (hk : k < 8) (hz : ∀ i, i < k → M i = 0) (hp : 0 < M k) (hQ : Q (some (.int (A k))) (am_shT, mrL b, mi, ml)) : am_wp X (d + 1) 15 0 [.ref 9, .int s, .int w, .int dd, .retAddr 0, .retAddr 0] [] (am_shT, mrL b, mi, ml) Q := by
  refine wi_iload_n rfl rfl ?_
  refine wi_istore (l' := [.ref 9, .int s, .int w, .int dd, .int s, .retAddr 0]) rfl (Nat.le_of_ble_eq_true rfl) rfl rfl ?_
  refine wi_iconst (x := 0) rfl rfl ?_
  refine wi_istore (l' := [.ref 9, .int s, .int w, .int dd, .int s, .int (0 : Int32)]) rfl (Nat.le_of_ble_eq_true rfl) rfl rfl ?_
  rw [← hA0]
  exact near_s h93 hq hA hM hMb hk hz hp hQ k 0 (by omega)
theorem near_n {q : Nat} {s dd w : Int32} {A : Nat → Int32} {M : Nat → Nat} (h93 : mi 9 3 = Int32.ofNat q) (hq : q ≤ 200) (hA : ∀ i, A i + w = A (i + 1)) (hM : ∀ i, cntN (pM (mi 10) (mi 11) (A i) dd) q = M i) (hMb : ∀ i, M i ≤ 200) (hz : ∀ i, i < 8 → M i = 0) (hQ : Q (some (.int (-1))) (am_shT, mrL b, mi, ml)) : ∀ r i, i + r = 8 → am_wp X (d + 1) 15 4 [.ref 9, .int s, .int w, .int dd, .int (A i), .int (Int32.ofNat (i))] [] (am_shT, mrL b, mi, ml) Q := by
  intro r
  induction r with
  | zero =>
    intro i hi


    refine wi_iload rfl rfl ?_
    refine wi_bipush (x := 8) rfl rfl ?_
    refine wi_icmp_ge rfl (fun _ => ?_) (fun h9 => absurd trivial (by exfalso; have h8 := (not_congr (le_n (a := 8) (b := i) (rfl : (8 : Int32) = Int32.ofNat 8) rfl (by omega) (by omega))).mp h9; omega))
    refine wi_iconst (x := (-1)) rfl rfl ?_
    refine wi_iret rfl (Or.inl rfl) ?_
    exact hQ
  | succ r ih =>
    intro i hi
    have hb := hMb i
    have hb2 := hz i (by omega)
    refine wi_iload rfl rfl ?_
    refine wi_bipush (x := 8) rfl rfl ?_
    refine wi_icmp_ge rfl (fun h9 => absurd trivial (by exfalso; have h8 := (le_n (a := 8) (b := i) (rfl : (8 : Int32) = Int32.ofNat 8) rfl (by omega) (by omega)).mp h9; omega)) (fun _ => ?_)
    refine wi_aload_n rfl rfl ?_
    refine wi_iload rfl rfl ?_
    refine wi_iload_n rfl rfl ?_
    refine wi_callV2 rfl (by decide) (by decide) rfl (kd_9 ..) rfl rfl rfl (c_xmany (z := M i) h93 hq (hM i) ?_)
    refine wi_lconst (lx := 0) rfl rfl ?_
    refine wi_lcmp rfl ?_
    refine wi_if_le rfl (fun _ => ?_) (fun h9 => absurd trivial (by exfalso; have h8 := (not_congr (lc_le (a := M i) (b := 0) rfl (rfl : (0 : Int64) = Int64.ofNat 0) (by omega) (by omega))).mp h9; omega))
    refine wi_iload rfl rfl ?_
    refine wi_iload_n rfl rfl ?_
    refine wn_iadd (z := A (i + 1)) rfl (hA i) ?_
    refine wi_istore (l' := [.ref 9, .int s, .int w, .int dd, .int (A (i + 1)), .int (Int32.ofNat (i))]) rfl (Nat.le_of_ble_eq_true rfl) rfl rfl ?_
    refine wi_iinc (z := (Int32.ofNat (i + 1))) rfl rfl rfl (add_n (a := i) (b := 1) rfl rfl) rfl ?_
    refine wi_goto rfl ?_
    exact ih (i + 1) (by omega)
theorem c_near_n {q : Nat} {s dd w : Int32} {A : Nat → Int32} {M : Nat → Nat} (h93 : mi 9 3 = Int32.ofNat q) (hq : q ≤ 200) (hA0 : A 0 = s) (hA : ∀ i, A i + w = A (i + 1)) (hM : ∀ i, cntN (pM (mi 10) (mi 11) (A i) dd) q = M i) (hMb : ∀ i, M i ≤ 200) (hz : ∀ i, i < 8 → M i = 0) (hQ : Q (some (.int (-1))) (am_shT, mrL b, mi, ml)) : am_wp X (d + 1) 15 0 [.ref 9, .int s, .int w, .int dd, .retAddr 0, .retAddr 0] [] (am_shT, mrL b, mi, ml) Q := by
  refine wi_iload_n rfl rfl ?_
  refine wi_istore (l' := [.ref 9, .int s, .int w, .int dd, .int s, .retAddr 0]) rfl (Nat.le_of_ble_eq_true rfl) rfl rfl ?_
  refine wi_iconst (x := 0) rfl rfl ?_
  refine wi_istore (l' := [.ref 9, .int s, .int w, .int dd, .int s, .int (0 : Int32)]) rfl (Nat.le_of_ble_eq_true rfl) rfl rfl ?_
  rw [← hA0]
  exact near_n h93 hq hA hM hMb hz hQ 8 0 (by omega)
theorem cnt_zero {p : Nat → Bool} {n : Nat} (h : ∀ k, k < n → p k = false) : cntN p n = 0 := by
  induction n with
  | zero => rfl
  | succ n ih =>
    show cntN p n + _ = _
    rw [ih (fun k hk => h k (by omega)), h n (by omega)]
    rfl
theorem out_zero {a e : Nat → Int32} {dd : Int32} {n q : Nat} (hn : n ≤ 8) (hs : ∀ k, k < q → ∃ s : Nat, s < n ∧ a k = Int32.ofNat s) {z : Int32} (hz : z.toInt < 0 ∨ (n : Int) ≤ z.toInt) : cntN (pM a e z dd) q = 0 := by
  refine cnt_zero (fun k hk => ?_)
  obtain ⟨s, h1, h2⟩ := hs k hk
  have h3 : ¬ (a k = z) := by
    intro h4
    rw [h2] at h4
    have h5 := congrArg Int32.toInt h4
    rw [i32_toInt (by omega)] at h5
    omega
  simp [pM, h3]
theorem lA (s i : Nat) : Int32.ofNat s - Int32.ofNat i + (-1) = Int32.ofNat s - Int32.ofNat (i + 1) := by
  rw [Int32.ofNat_add i 1]
  show _ = Int32.ofNat s - (Int32.ofNat i + 1)
  grind
theorem rA (s i : Nat) : Int32.ofNat (s + i) + 1 = Int32.ofNat (s + (i + 1)) := by
  rw [← Nat.add_assoc, Int32.ofNat_add (s + i) 1]
  rfl
theorem lA_neg {s i : Nat} (hs : s < 8) (hi : i ≤ 8) (h : s < i) : (Int32.ofNat s - Int32.ofNat i).toInt < 0 := by
  rw [Int32.toInt_sub, i32_toInt (by omega), i32_toInt (by omega)]
  rw [Int.bmod_eq_of_le (by omega) (by omega)]
  omega
theorem M_out {q n s dd : Nat} {M : Nat → Nat} (h93 : mi 9 3 = Int32.ofNat q) (hq : q ≤ 200) (hn : n ≤ 8) (hs : s < n) (hst : ∀ k, k < q → ∃ s : Nat, s < n ∧ mi 10 k = Int32.ofNat s) (hM : ∀ i, cntN (pM (mi 10) (mi 11) (Int32.ofNat i) (Int32.ofNat dd)) q = M i) {i : Nat} (hi : n ≤ i) (hi2 : i < 1000) : M i = 0 := by
  rw [← hM i]
  exact out_zero (n := n) hn hst (Or.inr (by rw [i32_toInt (by omega)]; omega))
theorem c_nLs {q n s dd : Nat} {M : Nat → Nat} (h93 : mi 9 3 = Int32.ofNat q) (hq : q ≤ 200) (hn : n ≤ 8) (hs : s < n) (hst : ∀ k, k < q → ∃ s : Nat, s < n ∧ mi 10 k = Int32.ofNat s) (hM : ∀ i, cntN (pM (mi 10) (mi 11) (Int32.ofNat i) (Int32.ofNat dd)) q = M i) {j : Nat} (hj : j ≤ s) (hp : 0 < M j) (hz : ∀ i, j < i → i ≤ s → M i = 0) (hQ : Q (some (.int (Int32.ofNat j))) (am_shT, mrL b, mi, ml)) : am_wp X (d + 1) 15 0 [.ref 9, .int (Int32.ofNat s), .int (-1), .int (Int32.ofNat dd), .retAddr 0, .retAddr 0] [] (am_shT, mrL b, mi, ml) Q := by
  refine c_near_s (A := fun i => Int32.ofNat s - Int32.ofNat i) (M := fun i => cntN (pM (mi 10) (mi 11) (Int32.ofNat s - Int32.ofNat i) (Int32.ofNat dd)) q) (k := s - j) h93 hq (by rw [sub_n (a := s) (b := 0) rfl rfl (by omega)]; rfl) (fun i => lA s i) (fun i => rfl) (fun i => Nat.le_trans cntN_le hq) (by omega) (fun i hi => ?_) ?_ ?_
  · show cntN (pM (mi 10) (mi 11) (Int32.ofNat s - Int32.ofNat i) (Int32.ofNat dd)) q = 0
    rw [sub_n (a := s) (b := i) rfl rfl (by omega), hM]
    exact hz _ (by omega) (by omega)
  · show 0 < cntN (pM (mi 10) (mi 11) (Int32.ofNat s - Int32.ofNat (s - j)) (Int32.ofNat dd)) q
    rw [sub_n (a := s) (b := s - j) rfl rfl (by omega), hM, show s - (s - j) = j by omega]
    exact hp
  · show Q (some (.int (Int32.ofNat s - Int32.ofNat (s - j)))) _
    rw [sub_n (a := s) (b := s - j) rfl rfl (by omega), show s - (s - j) = j by omega]
    exact hQ
theorem c_nLn {q n s dd : Nat} {M : Nat → Nat} (h93 : mi 9 3 = Int32.ofNat q) (hq : q ≤ 200) (hn : n ≤ 8) (hs : s < n) (hst : ∀ k, k < q → ∃ s : Nat, s < n ∧ mi 10 k = Int32.ofNat s) (hM : ∀ i, cntN (pM (mi 10) (mi 11) (Int32.ofNat i) (Int32.ofNat dd)) q = M i) (hz : ∀ i, i ≤ s → M i = 0) (hQ : Q (some (.int (-1))) (am_shT, mrL b, mi, ml)) : am_wp X (d + 1) 15 0 [.ref 9, .int (Int32.ofNat s), .int (-1), .int (Int32.ofNat dd), .retAddr 0, .retAddr 0] [] (am_shT, mrL b, mi, ml) Q := by
  refine c_near_n (A := fun i => Int32.ofNat s - Int32.ofNat i) (M := fun i => cntN (pM (mi 10) (mi 11) (Int32.ofNat s - Int32.ofNat i) (Int32.ofNat dd)) q) h93 hq (by rw [sub_n (a := s) (b := 0) rfl rfl (by omega)]; rfl) (fun i => lA s i) (fun i => rfl) (fun i => Nat.le_trans cntN_le hq) (fun i hi => ?_) hQ
  show cntN (pM (mi 10) (mi 11) (Int32.ofNat s - Int32.ofNat i) (Int32.ofNat dd)) q = 0
  rcases Nat.lt_or_ge s i with h1 | h1
  · exact out_zero (n := n) hn hst (Or.inl (lA_neg (by omega) (by omega) h1))
  · rw [sub_n (a := s) (b := i) rfl rfl (by omega), hM]
    exact hz _ (by omega)
theorem c_nRs {q n s dd : Nat} {M : Nat → Nat} (h93 : mi 9 3 = Int32.ofNat q) (hq : q ≤ 200) (hn : n ≤ 8) (hs : s < n) (hst : ∀ k, k < q → ∃ s : Nat, s < n ∧ mi 10 k = Int32.ofNat s) (hM : ∀ i, cntN (pM (mi 10) (mi 11) (Int32.ofNat i) (Int32.ofNat dd)) q = M i) {j : Nat} (hj : s ≤ j) (hjn : j < n) (hp : 0 < M j) (hz : ∀ i, s ≤ i → i < j → M i = 0) (hQ : Q (some (.int (Int32.ofNat j))) (am_shT, mrL b, mi, ml)) : am_wp X (d + 1) 15 0 [.ref 9, .int (Int32.ofNat s), .int 1, .int (Int32.ofNat dd), .retAddr 0, .retAddr 0] [] (am_shT, mrL b, mi, ml) Q := by
  refine c_near_s (A := fun i => Int32.ofNat (s + i)) (M := fun i => cntN (pM (mi 10) (mi 11) (Int32.ofNat (s + i)) (Int32.ofNat dd)) q) (k := j - s) h93 hq rfl (fun i => rA s i) (fun i => rfl) (fun i => Nat.le_trans cntN_le hq) (by omega) (fun i hi => ?_) ?_ ?_
  · show cntN (pM (mi 10) (mi 11) (Int32.ofNat (s + i)) (Int32.ofNat dd)) q = 0
    rw [hM]
    exact hz _ (by omega) (by omega)
  · show 0 < cntN (pM (mi 10) (mi 11) (Int32.ofNat (s + (j - s))) (Int32.ofNat dd)) q
    rw [hM, show s + (j - s) = j by omega]
    exact hp
  · show Q (some (.int (Int32.ofNat (s + (j - s))))) _
    rw [show s + (j - s) = j by omega]
    exact hQ
theorem c_nRn {q n s dd : Nat} {M : Nat → Nat} (h93 : mi 9 3 = Int32.ofNat q) (hq : q ≤ 200) (hn : n ≤ 8) (hs : s < n) (hst : ∀ k, k < q → ∃ s : Nat, s < n ∧ mi 10 k = Int32.ofNat s) (hM : ∀ i, cntN (pM (mi 10) (mi 11) (Int32.ofNat i) (Int32.ofNat dd)) q = M i) (hz : ∀ i, s ≤ i → i < n → M i = 0) (hQ : Q (some (.int (-1))) (am_shT, mrL b, mi, ml)) : am_wp X (d + 1) 15 0 [.ref 9, .int (Int32.ofNat s), .int 1, .int (Int32.ofNat dd), .retAddr 0, .retAddr 0] [] (am_shT, mrL b, mi, ml) Q := by
  refine c_near_n (A := fun i => Int32.ofNat (s + i)) (M := fun i => cntN (pM (mi 10) (mi 11) (Int32.ofNat (s + i)) (Int32.ofNat dd)) q) h93 hq rfl (fun i => rA s i) (fun i => rfl) (fun i => Nat.le_trans cntN_le hq) (fun i hi => ?_) hQ
  show cntN (pM (mi 10) (mi 11) (Int32.ofNat (s + i)) (Int32.ofNat dd)) q = 0
  rw [hM]
  rcases Nat.lt_or_ge (s + i) n with h1 | h1
  · exact hz _ (by omega) h1
  · exact M_out h93 hq hn hs hst hM h1 (by omega)
theorem ml_s {q n s dd : Nat} {M : Nat → Nat} (h14 : mi 134 14 = Int32.ofNat q) (hq : q ≤ 200) (hM : ∀ i, cntN (pM (mi 143) (mi 144) (Int32.ofNat i) (Int32.ofNat dd)) q = M i) (hMb : ∀ i, M i ≤ 200) {j : Nat} (hs : s < 8) (hp : 0 < M j) (hz : ∀ i, j < i → i ≤ s → M i = 0) (hQ : am_wp X (d + 1) 166 32 [.ref 134, .int (Int32.ofNat (s)), .int (Int32.ofNat (dd)), .int (Int32.ofNat (j)), .retAddr 0, .retAddr 0, .retAddr 0, .retAddr 0, .retAddr 0] [] (am_shT, mrL b, mi, ml) Q) : ∀ r i, i = j + r → i ≤ s → am_wp X (d + 1) 166 23 [.ref 134, .int (Int32.ofNat (s)), .int (Int32.ofNat (dd)), .int (Int32.ofNat (i)), .retAddr 0, .retAddr 0, .retAddr 0, .retAddr 0, .retAddr 0] [] (am_shT, mrL b, mi, ml) Q := by
  intro r
  induction r with
  | zero =>
    intro i hi hi2
    obtain rfl : i = j := by omega
    have hb := hMb i
    refine wi_iload_n rfl rfl ?_
    refine wi_if_lt rfl (fun h9 => absurd trivial (by exfalso; have h8 := (lt_n (a := i) (b := 0) rfl (rfl : (0 : Int32) = Int32.ofNat 0) (by omega) (by omega)).mp h9; omega)) (fun _ => ?_)
    refine wi_aload_n rfl rfl ?_
    refine wi_iload_n rfl rfl ?_
    refine wi_iload_n rfl rfl ?_
    refine wi_callV2 rfl (by decide) (by decide) rfl (kd_134 ..) rfl rfl rfl (c_mmany (z := M i) h14 hq (hM _) ?_)
    refine wi_if_ne rfl (fun _ => ?_) (fun h9 => absurd trivial (by exfalso; have h8 := (not_congr (ne_n (a := M i) (b := 0) rfl (rfl : (0 : Int32) = Int32.ofNat 0) (by omega) (by omega))).mp h9; omega))
    exact hQ
  | succ r ih =>
    intro i hi hi2
    have hb := hMb i
    have hb2 := hz i (by omega) hi2
    refine wi_iload_n rfl rfl ?_
    refine wi_if_lt rfl (fun h9 => absurd trivial (by exfalso; have h8 := (lt_n (a := i) (b := 0) rfl (rfl : (0 : Int32) = Int32.ofNat 0) (by omega) (by omega)).mp h9; omega)) (fun _ => ?_)
    refine wi_aload_n rfl rfl ?_
    refine wi_iload_n rfl rfl ?_
    refine wi_iload_n rfl rfl ?_
    refine wi_callV2 rfl (by decide) (by decide) rfl (kd_134 ..) rfl rfl rfl (c_mmany (z := M i) h14 hq (hM _) ?_)
    refine wi_if_ne rfl (fun h9 => absurd trivial (by exfalso; have h8 := (ne_n (a := M i) (b := 0) rfl (rfl : (0 : Int32) = Int32.ofNat 0) (by omega) (by omega)).mp h9; omega)) (fun _ => ?_)
    refine wi_iinc (z := (Int32.ofNat (i - 1))) rfl rfl rfl (dec_n (a := i) rfl (by omega)) rfl ?_
    refine wi_goto rfl ?_
    exact ih (i - 1) (by omega) (by omega)
theorem ml_n {q n s dd : Nat} {M : Nat → Nat} (h14 : mi 134 14 = Int32.ofNat q) (hq : q ≤ 200) (hM : ∀ i, cntN (pM (mi 143) (mi 144) (Int32.ofNat i) (Int32.ofNat dd)) q = M i) (hMb : ∀ i, M i ≤ 200) (hs : s < 8) (hz : ∀ i, i ≤ s → M i = 0) (hQ : am_wp X (d + 1) 166 32 [.ref 134, .int (Int32.ofNat (s)), .int (Int32.ofNat (dd)), .int (-1 : Int32), .retAddr 0, .retAddr 0, .retAddr 0, .retAddr 0, .retAddr 0] [] (am_shT, mrL b, mi, ml) Q) : ∀ r i, i = r → i ≤ s → am_wp X (d + 1) 166 23 [.ref 134, .int (Int32.ofNat (s)), .int (Int32.ofNat (dd)), .int (Int32.ofNat (i)), .retAddr 0, .retAddr 0, .retAddr 0, .retAddr 0, .retAddr 0] [] (am_shT, mrL b, mi, ml) Q := by
  intro r
  induction r with
  | zero =>
    intro i hi hi2
    subst hi
    have hb2 := hz 0 (by omega)
    show am_wp X (d + 1) 166 23 [.ref 134, .int (Int32.ofNat (s)), .int (Int32.ofNat (dd)), .int (0 : Int32), .retAddr 0, .retAddr 0, .retAddr 0, .retAddr 0, .retAddr 0] [] (am_shT, mrL b, mi, ml) Q
    refine wi_iload_n rfl rfl ?_
    refine wi_if_lt rfl (fun h9 => absurd h9 (by decide)) (fun _ => ?_)
    refine wi_aload_n rfl rfl ?_
    refine wi_iload_n rfl rfl ?_
    refine wi_iload_n rfl rfl ?_
    refine wi_callV2 rfl (by decide) (by decide) rfl (kd_134 ..) rfl rfl rfl (c_mmany (z := M 0) h14 hq (hM _) ?_)
    refine wi_if_ne rfl (fun h9 => absurd trivial (by exfalso; have h8 := (ne_n (a := M 0) (b := 0) rfl (rfl : (0 : Int32) = Int32.ofNat 0) (by omega) (by omega)).mp h9; omega)) (fun _ => ?_)
    refine wi_iinc (z := (-1 : Int32)) rfl rfl rfl (by decide) rfl ?_
    refine wi_goto rfl ?_
    refine wi_iload_n rfl rfl ?_
    refine wi_if_lt rfl (fun _ => ?_) (fun h9 => absurd (by decide) h9)
    exact hQ
  | succ r ih =>
    intro i hi hi2
    obtain ⟨i, rfl⟩ : ∃ k, i = k + 1 := ⟨r, hi⟩
    have hb := hMb (i + 1)
    have hb2 := hz (i + 1) hi2
    refine wi_iload_n rfl rfl ?_
    refine wi_if_lt rfl (fun h9 => absurd trivial (by exfalso; have h8 := (lt_n (a := i + 1) (b := 0) rfl (rfl : (0 : Int32) = Int32.ofNat 0) (by omega) (by omega)).mp h9; omega)) (fun _ => ?_)
    refine wi_aload_n rfl rfl ?_
    refine wi_iload_n rfl rfl ?_
    refine wi_iload_n rfl rfl ?_
    refine wi_callV2 rfl (by decide) (by decide) rfl (kd_134 ..) rfl rfl rfl (c_mmany (z := M (i + 1)) h14 hq (hM _) ?_)
    refine wi_if_ne rfl (fun h9 => absurd trivial (by exfalso; have h8 := (ne_n (a := M (i + 1)) (b := 0) rfl (rfl : (0 : Int32) = Int32.ofNat 0) (by omega) (by omega)).mp h9; omega)) (fun _ => ?_)
    refine wi_iinc (z := (Int32.ofNat (i + 1 - 1))) rfl rfl rfl (dec_n (a := i + 1) rfl (by omega)) rfl ?_
    refine wi_goto rfl ?_
    exact ih i (by omega) (by omega)
theorem mr_s {q n s dd : Nat} {M : Nat → Nat} (h14 : mi 134 14 = Int32.ofNat q) (hq : q ≤ 200) (hM : ∀ i, cntN (pM (mi 143) (mi 144) (Int32.ofNat i) (Int32.ofNat dd)) q = M i) (hMb : ∀ i, M i ≤ 200) {x3 : Int32} {j : Nat} (h4 : mi 134 4 = Int32.ofNat n) (hn : n ≤ 8) (hj : j < n) (hp : 0 < M j) (hz : ∀ i, s ≤ i → i < j → M i = 0) (hQ : am_wp X (d + 1) 166 45 [.ref 134, .int (Int32.ofNat (s)), .int (Int32.ofNat (dd)), .int x3, .int (Int32.ofNat (j)), .retAddr 0, .retAddr 0, .retAddr 0, .retAddr 0] [] (am_shT, mrL b, mi, ml) Q) : ∀ r i, i + r = j → s ≤ i → am_wp X (d + 1) 166 34 [.ref 134, .int (Int32.ofNat (s)), .int (Int32.ofNat (dd)), .int x3, .int (Int32.ofNat (i)), .retAddr 0, .retAddr 0, .retAddr 0, .retAddr 0] [] (am_shT, mrL b, mi, ml) Q := by
  intro r
  induction r with
  | zero =>
    intro i hi hi2
    obtain rfl : i = j := by omega
    have hb := hMb i
    refine wi_iload rfl rfl ?_
    refine wi_aload_n rfl rfl ?_
    refine wi_getIv (v := (Int32.ofNat (n))) rfl (kd_134 ..) h4 ?_
    refine wi_icmp_ge rfl (fun h9 => absurd trivial (by exfalso; have h8 := (le_n (a := n) (b := i) rfl rfl (by omega) (by omega)).mp h9; omega)) (fun _ => ?_)
    refine wi_aload_n rfl rfl ?_
    refine wi_iload rfl rfl ?_
    refine wi_iload_n rfl rfl ?_
    refine wi_callV2 rfl (by decide) (by decide) rfl (kd_134 ..) rfl rfl rfl (c_mmany (z := M i) h14 hq (hM _) ?_)
    refine wi_if_ne rfl (fun _ => ?_) (fun h9 => absurd trivial (by exfalso; have h8 := (not_congr (ne_n (a := M i) (b := 0) rfl (rfl : (0 : Int32) = Int32.ofNat 0) (by omega) (by omega))).mp h9; omega))
    exact hQ
  | succ r ih =>
    intro i hi hi2
    have hb := hMb i
    have hb2 := hz i hi2 (by omega)
    refine wi_iload rfl rfl ?_
    refine wi_aload_n rfl rfl ?_
    refine wi_getIv (v := (Int32.ofNat (n))) rfl (kd_134 ..) h4 ?_
    refine wi_icmp_ge rfl (fun h9 => absurd trivial (by exfalso; have h8 := (le_n (a := n) (b := i) rfl rfl (by omega) (by omega)).mp h9; omega)) (fun _ => ?_)
    refine wi_aload_n rfl rfl ?_
    refine wi_iload rfl rfl ?_
    refine wi_iload_n rfl rfl ?_
    refine wi_callV2 rfl (by decide) (by decide) rfl (kd_134 ..) rfl rfl rfl (c_mmany (z := M i) h14 hq (hM _) ?_)
    refine wi_if_ne rfl (fun h9 => absurd trivial (by exfalso; have h8 := (ne_n (a := M i) (b := 0) rfl (rfl : (0 : Int32) = Int32.ofNat 0) (by omega) (by omega)).mp h9; omega)) (fun _ => ?_)
    refine wi_iinc (z := (Int32.ofNat (i + 1))) rfl rfl rfl (add_n (a := i) (b := 1) rfl rfl) rfl ?_
    refine wi_goto rfl ?_
    exact ih (i + 1) (by omega) (by omega)
theorem mr_n {q n s dd : Nat} {M : Nat → Nat} (h14 : mi 134 14 = Int32.ofNat q) (hq : q ≤ 200) (hM : ∀ i, cntN (pM (mi 143) (mi 144) (Int32.ofNat i) (Int32.ofNat dd)) q = M i) (hMb : ∀ i, M i ≤ 200) {x3 : Int32} (h4 : mi 134 4 = Int32.ofNat n) (hn : n ≤ 8) (hz : ∀ i, s ≤ i → i < n → M i = 0) (hQ : am_wp X (d + 1) 166 45 [.ref 134, .int (Int32.ofNat (s)), .int (Int32.ofNat (dd)), .int x3, .int (Int32.ofNat (n)), .retAddr 0, .retAddr 0, .retAddr 0, .retAddr 0] [] (am_shT, mrL b, mi, ml) Q) : ∀ r i, i + r = n → s ≤ i → am_wp X (d + 1) 166 34 [.ref 134, .int (Int32.ofNat (s)), .int (Int32.ofNat (dd)), .int x3, .int (Int32.ofNat (i)), .retAddr 0, .retAddr 0, .retAddr 0, .retAddr 0] [] (am_shT, mrL b, mi, ml) Q := by
  intro r
  induction r with
  | zero =>
    intro i hi hi2
    refine wi_iload rfl rfl ?_
    refine wi_aload_n rfl rfl ?_
    refine wi_getIv (v := (Int32.ofNat (n))) rfl (kd_134 ..) h4 ?_
    refine wi_icmp_ge rfl (fun _ => ?_) (fun h9 => absurd trivial (by exfalso; have h8 := (not_congr (le_n (a := n) (b := i) rfl rfl (by omega) (by omega))).mp h9; omega))
    obtain rfl : i = n := by omega
    exact hQ
  | succ r ih =>
    intro i hi hi2
    have hb := hMb i
    have hb2 := hz i hi2 (by omega)
    refine wi_iload rfl rfl ?_
    refine wi_aload_n rfl rfl ?_
    refine wi_getIv (v := (Int32.ofNat (n))) rfl (kd_134 ..) h4 ?_
    refine wi_icmp_ge rfl (fun h9 => absurd trivial (by exfalso; have h8 := (le_n (a := n) (b := i) rfl rfl (by omega) (by omega)).mp h9; omega)) (fun _ => ?_)
    refine wi_aload_n rfl rfl ?_
    refine wi_iload rfl rfl ?_
    refine wi_iload_n rfl rfl ?_
    refine wi_callV2 rfl (by decide) (by decide) rfl (kd_134 ..) rfl rfl rfl (c_mmany (z := M i) h14 hq (hM _) ?_)
    refine wi_if_ne rfl (fun h9 => absurd trivial (by exfalso; have h8 := (ne_n (a := M i) (b := 0) rfl (rfl : (0 : Int32) = Int32.ofNat 0) (by omega) (by omega)).mp h9; omega)) (fun _ => ?_)
    refine wi_iinc (z := (Int32.ofNat (i + 1))) rfl rfl rfl (add_n (a := i) (b := 1) rfl rfl) rfl ?_
    refine wi_goto rfl ?_
    exact ih (i + 1) (by omega) (by omega)
end RD
set_option maxHeartbeats 8000000 in
theorem a_reads {X : Nat × (Nat → Int32)} {s9 d9 : Int32} : arm X 115 166 [.ref 0, .int s9, .int d9] [.ref 134, .int s9, .int d9, .retAddr 0, .retAddr 0, .retAddr 0, .retAddr 0, .retAddr 0, .retAddr 0] := by
  intro mi ml b hR Q hK
  obtain ⟨n, t, hst, ⟨hn0, hn4, hn⟩, ⟨ht0, ht5, ht⟩, hT, hF, hC, hM, hP, hTp, hB, hFa, hS, hMk, hfr⟩ := hR
  rcases st_cases s9 (n := n) (by omega) with e_s9 | ⟨s, h_s, rfl⟩
  · refine wi_aload_n rfl rfl ?_
    refine wi_iload_n rfl rfl ?_
    refine wi_callV1 rfl (by decide) (by decide) rfl (kd_0 ..) rfl rfl rfl (c_has hn0 e_s9 ?_)
    refine wi_if_ne rfl (fun h9 => absurd h9 (by decide)) (fun _ => ?_)
    refine wi_aload_n rfl rfl ?_
    refine wi_iconst (x := 1) rfl rfl ?_
    refine wi_callV1 rfl (by decide) (by decide) rfl (kd_0 ..) rfl rfl rfl ?_
    refine wi_aload_n rfl rfl ?_
    refine wi_iload_n rfl rfl ?_
    refine wi_putI rfl (kd_0 ..) ?_
    refine wi_iconst (x := 0) rfl rfl ?_
    refine wi_iret rfl (by decide) ?_
    refine wi_iret rfl (by decide) ?_
    refine hK _ _ _ _ (fun Q2 h2 => ?_)
    refine wi_aload_n rfl rfl ?_
    refine wi_iconst (x := 0) rfl rfl ?_
    refine wi_putI rfl (kd_134 ..) ?_
    refine wi_aload_n rfl rfl ?_
    refine wi_iconst (x := 0) rfl rfl ?_
    refine wi_putI rfl (kd_134 ..) ?_
    refine wi_aload_n rfl rfl ?_
    refine wi_iload_n rfl rfl ?_
    refine wi_callV1 rfl (by decide) (by decide) rfl (kd_134 ..) rfl rfl rfl (c_isS hn4 e_s9 ?_)
    refine wi_if_ne rfl (fun h9 => absurd h9 (by decide)) (fun _ => ?_)
    refine wi_aload_n rfl rfl ?_
    refine wi_iconst (x := 1) rfl rfl ?_
    refine wi_callV1 rfl (by decide) (by decide) rfl (kd_134 ..) rfl rfl rfl ?_
    refine wi_aload_n rfl rfl ?_
    refine wi_iload_n rfl rfl ?_
    refine wi_putI rfl (kd_134 ..) ?_
    refine wi_iconst (x := 0) rfl rfl ?_
    refine wi_iret rfl (by decide) ?_
    refine wi_iret rfl (by decide) ?_
    refine h2 _ _ _ ?_
    exact ⟨n, t, rfl, ⟨hn0, hn4, hn⟩, ⟨ht0, ht5, ht⟩, hT, hF, hC, hM, hP, hTp, hB, hFa, hS, hMk, hfr⟩
  · skip
    rcases wn_cases d9 0 999 (by decide) (by decide) with e_d9 | ⟨dd, l_dd, h_dd, rfl⟩
    · refine wi_aload_n rfl rfl ?_
      refine wi_iload_n rfl rfl ?_
      refine wi_callV1 rfl (by decide) (by decide) rfl (kd_0 ..) rfl rfl rfl (c_has hn0 (st_in (by omega) (by omega)) ?_)
      refine wi_if_ne rfl (fun _ => ?_) (fun h9 => absurd (by decide) h9)
      refine wi_iload_n rfl rfl ?_
      refine wi_callS1 rfl (by decide) (by decide) rfl rfl rfl (c_xday e_d9 ?_)
      refine wi_if_ne rfl (fun h9 => absurd h9 (by decide)) (fun _ => ?_)
      refine wi_aload_n rfl rfl ?_
      refine wi_iconst (x := 2) rfl rfl ?_
      refine wi_callV1 rfl (by decide) (by decide) rfl (kd_0 ..) rfl rfl rfl ?_
      refine wi_aload_n rfl rfl ?_
      refine wi_iload_n rfl rfl ?_
      refine wi_putI rfl (kd_0 ..) ?_
      refine wi_iconst (x := 0) rfl rfl ?_
      refine wi_iret rfl (by decide) ?_
      refine wi_iret rfl (by decide) ?_
      refine hK _ _ _ _ (fun Q2 h2 => ?_)
      refine wi_aload_n rfl rfl ?_
      refine wi_iconst (x := 0) rfl rfl ?_
      refine wi_putI rfl (kd_134 ..) ?_
      refine wi_aload_n rfl rfl ?_
      refine wi_iconst (x := 0) rfl rfl ?_
      refine wi_putI rfl (kd_134 ..) ?_
      refine wi_aload_n rfl rfl ?_
      refine wi_iload_n rfl rfl ?_
      refine wi_callV1 rfl (by decide) (by decide) rfl (kd_134 ..) rfl rfl rfl (c_isS hn4 (st_in (by omega) (by omega)) ?_)
      refine wi_if_ne rfl (fun _ => ?_) (fun h9 => absurd (by decide) h9)
      refine wi_iload_n rfl rfl ?_
      refine wi_callS1 rfl (by decide) (by decide) rfl rfl rfl (c_mday e_d9 ?_)
      refine wi_if_ne rfl (fun h9 => absurd h9 (by decide)) (fun _ => ?_)
      refine wi_aload_n rfl rfl ?_
      refine wi_iconst (x := 2) rfl rfl ?_
      refine wi_callV1 rfl (by decide) (by decide) rfl (kd_134 ..) rfl rfl rfl ?_
      refine wi_aload_n rfl rfl ?_
      refine wi_iload_n rfl rfl ?_
      refine wi_putI rfl (kd_134 ..) ?_
      refine wi_iconst (x := 0) rfl rfl ?_
      refine wi_iret rfl (by decide) ?_
      refine wi_iret rfl (by decide) ?_
      refine h2 _ _ _ ?_
      exact ⟨n, t, rfl, ⟨hn0, hn4, hn⟩, ⟨ht0, ht5, ht⟩, hT, hF, hC, hM, hP, hTp, hB, hFa, hS, hMk, hfr⟩
    · skip
      obtain ⟨q, h93, h14, hq, hk⟩ := hM
      obtain ⟨M, hM⟩ : ∃ M : Nat → Nat, ∀ i, cntN (pM (mi 143) (mi 144) (Int32.ofNat i) (Int32.ofNat dd)) q = M i := ⟨_, fun _ => rfl⟩
      obtain ⟨S, hSm⟩ : ∃ S : Nat → Nat, ∀ i, sumN (pM (mi 143) (mi 144) (Int32.ofNat i) (Int32.ofNat dd)) (clN (mi 145)) q = S i := ⟨_, fun _ => rfl⟩
      have hva : ∀ k, k < q → mi 145 k = Int32.ofNat (clN (mi 145) k) ∧ clN (mi 145) k ≤ 100 := fun k h => clN_of (hi := 100) (by rw [← (hk k h).2.2.1]; exact (hk k h).2.2.2.2.2)
      have hvx : ∀ k, k < q → mi 12 k = Int32.ofNat (clN (mi 12) k) ∧ clN (mi 12) k ≤ 100 := fun k h => clN_of (hi := 100) (hk k h).2.2.2.2.2
      have hpe : ∀ z : Int32, ∀ k, k < q → pM (mi 10) (mi 11) z (Int32.ofNat dd) k = pM (mi 143) (mi 144) z (Int32.ofNat dd) k := fun z k h => by
        unfold pM
        rw [(hk k h).1, (hk k h).2.1]
      have hMx : ∀ i, cntN (pM (mi 10) (mi 11) (Int32.ofNat i) (Int32.ofNat dd)) q = M i := fun i => by rw [← hM i]; exact cntN_congr (hpe _)
      have hSx : ∀ i, sumN (pM (mi 10) (mi 11) (Int32.ofNat i) (Int32.ofNat dd)) (clN (mi 12)) q = S i := fun i => by
        rw [← hSm i]
        exact sumN_congr (hpe _) (fun k h => by unfold clN; rw [(hk k h).2.2.1])
      have hMb : ∀ i, M i ≤ 200 := fun i => by rw [← hM i]; exact Nat.le_trans cntN_le hq
      have hSb : ∀ i, S i ≤ 20000 := fun i => by rw [← hSm i]; exact Nat.le_trans (sumN_le (fun k h => (hva k h).2)) (by omega)
      have hstr : ∀ k, k < q → ∃ s : Nat, s < n ∧ mi 10 k = Int32.ofNat s := fun k h => (hk k h).2.2.2.1
      have bs := hMb s
      have bs2 := hSb s
      by_cases hps : 0 < M s
      · refine wi_aload_n rfl rfl ?_
        refine wi_iload_n rfl rfl ?_
        refine wi_callV1 rfl (by decide) (by decide) rfl (kd_0 ..) rfl rfl rfl (c_has hn0 (st_in (by omega) (by omega)) ?_)
        refine wi_if_ne rfl (fun _ => ?_) (fun h9 => absurd (by decide) h9)
        refine wi_iload_n rfl rfl ?_
        refine wi_callS1 rfl (by decide) (by decide) rfl rfl rfl (c_xday (wn_in (lo := 0) (hi := 999) (by omega) (by omega) (by decide)) ?_)
        refine wi_if_ne rfl (fun _ => ?_) (fun h9 => absurd (by decide) h9)
        refine wi_aload_n rfl rfl ?_
        refine wi_getR rfl (kd_0 ..) (rd_0_4 _) ?_
        refine wi_aload_n rfl rfl ?_
        refine wi_getR rfl (kd_0 ..) (rd_0_10 _) ?_
        refine wi_iload_n rfl rfl ?_
        refine wi_iload_n rfl rfl ?_
        refine wi_callV3 rfl (by decide) (by decide) rfl (kd_9 ..) rfl rfl rfl ?_
        refine wi_aload_n rfl rfl ?_
        refine wi_iload_n rfl rfl ?_
        refine wi_iconst (x := (-1)) rfl rfl ?_
        refine wi_iload_n rfl rfl ?_
        refine wi_callV3 rfl (by decide) (by decide) rfl (kd_9 ..) rfl rfl rfl (c_nLs h93 hq hn (by omega) hstr hMx (j := s) (by omega) hps (fun i h7 h8 => by omega) ?_)
        refine wi_istore (l' := [.ref 9, .ref 96, .int (Int32.ofNat (s)), .int (Int32.ofNat (dd)), .int (Int32.ofNat (s)), .retAddr 0, .retAddr 0, .retAddr 0, .retAddr 0, .retAddr 0, .retAddr 0, .retAddr 0, .retAddr 0, .retAddr 0]) rfl (Nat.le_of_ble_eq_true rfl) rfl rfl ?_
        refine wi_aload_n rfl rfl ?_
        refine wi_iload_n rfl rfl ?_
        refine wi_iconst (x := 1) rfl rfl ?_
        refine wi_iload_n rfl rfl ?_
        refine wi_callV3 rfl (by decide) (by decide) rfl (kd_9 ..) rfl rfl rfl (c_nRs h93 hq hn (by omega) hstr hMx (j := s) (by omega) (by omega) hps (fun i h7 h8 => by omega) ?_)
        refine wi_istore (l' := [.ref 9, .ref 96, .int (Int32.ofNat (s)), .int (Int32.ofNat (dd)), .int (Int32.ofNat (s)), .int (Int32.ofNat (s)), .retAddr 0, .retAddr 0, .retAddr 0, .retAddr 0, .retAddr 0, .retAddr 0, .retAddr 0, .retAddr 0]) rfl (Nat.le_of_ble_eq_true rfl) rfl rfl ?_
        refine wi_iload rfl rfl ?_
        refine wi_iconst (x := (-1)) rfl rfl ?_
        refine wi_icmp_ne rfl (fun _ => ?_) (fun h9 => absurd (nm1 (by omega)) h9)
        refine wi_iload rfl rfl ?_
        refine wi_iconst (x := (-1)) rfl rfl ?_
        refine wi_icmp_eq rfl (fun h9 => absurd h9 (nm1 (by omega))) (fun _ => ?_)
        refine wi_iload rfl rfl ?_
        refine wi_iconst (x := (-1)) rfl rfl ?_
        refine wi_icmp_eq rfl (fun h9 => absurd h9 (nm1 (by omega))) (fun _ => ?_)
        refine wi_iload rfl rfl ?_
        refine wi_iload rfl rfl ?_
        refine wi_icmp_ne rfl (fun h9 => absurd trivial (by exfalso; have h8 := (ne_n (a := s) (b := s) rfl rfl (by omega) (by omega)).mp h9; omega)) (fun _ => ?_)
        refine wi_iload rfl rfl ?_
        refine wi_iconst (x := (-1)) rfl rfl ?_
        refine wi_icmp_ne rfl (fun _ => ?_) (fun h9 => absurd (nm1 (by omega)) h9)
        refine wi_iload rfl rfl ?_
        refine wi_istore (l' := [.ref 9, .ref 96, .int (Int32.ofNat (s)), .int (Int32.ofNat (dd)), .int (Int32.ofNat (s)), .int (Int32.ofNat (s)), .int (Int32.ofNat (s)), .retAddr 0, .retAddr 0, .retAddr 0, .retAddr 0, .retAddr 0, .retAddr 0, .retAddr 0]) rfl (Nat.le_of_ble_eq_true rfl) rfl rfl ?_
        refine wi_aload_n rfl rfl ?_
        refine wi_aload_n rfl rfl ?_
        refine wi_iload rfl rfl ?_
        refine wi_iload_n rfl rfl ?_
        refine wi_callV2 rfl (by decide) (by decide) rfl (kd_9 ..) rfl rfl rfl (c_xsum h93 hq hvx (hSx _) ?_)
        refine wi_aload_n rfl rfl ?_
        refine wi_iload rfl rfl ?_
        refine wi_iload_n rfl rfl ?_
        refine wi_callV2 rfl (by decide) (by decide) rfl (kd_9 ..) rfl rfl rfl (c_xmany h93 hq (hMx _) ?_)
        refine wi_callV2 rfl (by decide) (by decide) rfl (kd_96 ..) rfl rfl rfl (c_become (P := S s) (Z := M s) (labs_n (Z := S s) rfl (by omega)) (by omega) (by omega) (by omega) ?_)
        refine wi_iconst (x := 1) rfl rfl ?_
        refine wi_iret rfl (by decide) ?_
        refine wi_if_ne rfl (fun _ => ?_) (fun h9 => absurd (by decide) h9)
        refine wi_aload_n rfl rfl ?_
        refine wi_callV0 rfl (by decide) (by decide) rfl (kd_0 ..) rfl rfl rfl ?_
        refine wi_aload_n rfl rfl ?_
        refine wi_iconst (x := 0) rfl rfl ?_
        refine wi_putI rfl (kd_0 ..) ?_
        refine wi_iconst (x := 1) rfl rfl ?_
        refine wi_iret rfl (by decide) ?_
        refine wi_iret rfl (by decide) ?_
        refine hK _ _ _ _ (fun Q2 h2 => ?_)
        refine wi_aload_n rfl rfl ?_
        refine wi_iconst (x := 0) rfl rfl ?_
        refine wi_putI rfl (kd_134 ..) ?_
        refine wi_aload_n rfl rfl ?_
        refine wi_iconst (x := 0) rfl rfl ?_
        refine wi_putI rfl (kd_134 ..) ?_
        refine wi_aload_n rfl rfl ?_
        refine wi_iload_n rfl rfl ?_
        refine wi_callV1 rfl (by decide) (by decide) rfl (kd_134 ..) rfl rfl rfl (c_isS hn4 (st_in (by omega) (by omega)) ?_)
        refine wi_if_ne rfl (fun _ => ?_) (fun h9 => absurd (by decide) h9)
        refine wi_iload_n rfl rfl ?_
        refine wi_callS1 rfl (by decide) (by decide) rfl rfl rfl (c_mday (wn_in (lo := 0) (hi := 999) (by omega) (by omega) (by decide)) ?_)
        refine wi_if_ne rfl (fun _ => ?_) (fun h9 => absurd (by decide) h9)
        refine wi_iload_n rfl rfl ?_
        refine wi_istore_n (l' := [.ref 134, .int (Int32.ofNat (s)), .int (Int32.ofNat (dd)), .int (Int32.ofNat (s)), .retAddr 0, .retAddr 0, .retAddr 0, .retAddr 0, .retAddr 0]) rfl (Nat.le_of_ble_eq_true rfl) rfl rfl ?_
        refine ml_s (n := n) (mi := (u2 (u2 (u2 mi 0 12 (0 : Int32)) 134 1 (0 : Int32)) 134 0 (0 : Int32))) h14 hq hM hMb (j := s) (by omega) hps (fun i h7 h8 => by omega) ?_ 0 s rfl (Nat.le_refl _)
        refine wi_iload_n rfl rfl ?_
        refine wi_istore (l' := [.ref 134, .int (Int32.ofNat (s)), .int (Int32.ofNat (dd)), .int (Int32.ofNat (s)), .int (Int32.ofNat (s)), .retAddr 0, .retAddr 0, .retAddr 0, .retAddr 0]) rfl (Nat.le_of_ble_eq_true rfl) rfl rfl ?_
        refine mr_s (mi := (u2 (u2 (u2 mi 0 12 (0 : Int32)) 134 1 (0 : Int32)) 134 0 (0 : Int32))) h14 hq hM hMb (j := s) hn4 hn (by omega) hps (fun i h7 h8 => by omega) ?_ 0 s rfl (Nat.le_refl _)
        refine wi_iload_n rfl rfl ?_
        refine wi_if_ge rfl (fun _ => ?_) (fun h9 => absurd trivial (by exfalso; have h8 := (not_congr (le_n (a := 0) (b := s) (rfl : (0 : Int32) = Int32.ofNat 0) rfl (by omega) (by omega))).mp h9; omega))
        refine wi_iload_n rfl rfl ?_
        refine wi_iload_n rfl rfl ?_
        refine wi_icmp_eq rfl (fun _ => ?_) (fun h9 => absurd trivial (by exfalso; have h8 := (not_congr (eq_n (a := s) (b := s) rfl rfl (by omega) (by omega))).mp h9; omega))
        refine wi_aload_n rfl rfl ?_
        refine wi_aload_n rfl rfl ?_
        refine wi_iload_n rfl rfl ?_
        refine wi_iload_n rfl rfl ?_
        refine wi_callV2 rfl (by decide) (by decide) rfl (kd_134 ..) rfl rfl rfl (c_msum h14 hq hva (hSm _) ?_)
        refine wn_i2l (lz := (Int64.ofNat (S s))) rfl (i2l_n (a := S s) rfl (by omega)) ?_
        refine wi_aload_n rfl rfl ?_
        refine wi_iload_n rfl rfl ?_
        refine wi_iload_n rfl rfl ?_
        refine wi_callV2 rfl (by decide) (by decide) rfl (kd_134 ..) rfl rfl rfl (c_mmany h14 hq (hM _) ?_)
        refine wn_i2l (lz := (Int64.ofNat (M s))) rfl (i2l_n (a := M s) rfl (by omega)) ?_
        refine wi_callV2 rfl (by decide) (by decide) rfl (kd_134 ..) rfl rfl rfl (c_tells (P := S s) (Z := M s) (labs_n (Z := S s) rfl (by omega)) (by omega) (by omega) (by omega) ?_)
        refine wi_iret rfl (by decide) ?_
        refine h2 _ _ _ ?_
        exact ⟨n, t, rfl, ⟨hn0, hn4, hn⟩, ⟨ht0, ht5, ht⟩, hT, hF, hC, ⟨q, h93, h14, hq, hk⟩, hP, hTp, hB, hFa, hS, hMk, ⟨rfl, rfl⟩⟩
      · have hs0 : M s = 0 := by omega
        rcases lf_cases M s with hz1 | ⟨j1, hj1, hp1, hz1⟩
        · skip
          rcases rg_cases M s n (by omega) with hz2 | ⟨j2, hj2, hj2n, hp2, hz2⟩
          · refine wi_aload_n rfl rfl ?_
            refine wi_iload_n rfl rfl ?_
            refine wi_callV1 rfl (by decide) (by decide) rfl (kd_0 ..) rfl rfl rfl (c_has hn0 (st_in (by omega) (by omega)) ?_)
            refine wi_if_ne rfl (fun _ => ?_) (fun h9 => absurd (by decide) h9)
            refine wi_iload_n rfl rfl ?_
            refine wi_callS1 rfl (by decide) (by decide) rfl rfl rfl (c_xday (wn_in (lo := 0) (hi := 999) (by omega) (by omega) (by decide)) ?_)
            refine wi_if_ne rfl (fun _ => ?_) (fun h9 => absurd (by decide) h9)
            refine wi_aload_n rfl rfl ?_
            refine wi_getR rfl (kd_0 ..) (rd_0_4 _) ?_
            refine wi_aload_n rfl rfl ?_
            refine wi_getR rfl (kd_0 ..) (rd_0_10 _) ?_
            refine wi_iload_n rfl rfl ?_
            refine wi_iload_n rfl rfl ?_
            refine wi_callV3 rfl (by decide) (by decide) rfl (kd_9 ..) rfl rfl rfl ?_
            refine wi_aload_n rfl rfl ?_
            refine wi_iload_n rfl rfl ?_
            refine wi_iconst (x := (-1)) rfl rfl ?_
            refine wi_iload_n rfl rfl ?_
            refine wi_callV3 rfl (by decide) (by decide) rfl (kd_9 ..) rfl rfl rfl (c_nLn h93 hq hn (by omega) hstr hMx hz1 ?_)
            refine wi_istore (l' := [.ref 9, .ref 96, .int (Int32.ofNat (s)), .int (Int32.ofNat (dd)), .int (-1 : Int32), .retAddr 0, .retAddr 0, .retAddr 0, .retAddr 0, .retAddr 0, .retAddr 0, .retAddr 0, .retAddr 0, .retAddr 0]) rfl (Nat.le_of_ble_eq_true rfl) rfl rfl ?_
            refine wi_aload_n rfl rfl ?_
            refine wi_iload_n rfl rfl ?_
            refine wi_iconst (x := 1) rfl rfl ?_
            refine wi_iload_n rfl rfl ?_
            refine wi_callV3 rfl (by decide) (by decide) rfl (kd_9 ..) rfl rfl rfl (c_nRn h93 hq hn (by omega) hstr hMx hz2 ?_)
            refine wi_istore (l' := [.ref 9, .ref 96, .int (Int32.ofNat (s)), .int (Int32.ofNat (dd)), .int (-1 : Int32), .int (-1 : Int32), .retAddr 0, .retAddr 0, .retAddr 0, .retAddr 0, .retAddr 0, .retAddr 0, .retAddr 0, .retAddr 0]) rfl (Nat.le_of_ble_eq_true rfl) rfl rfl ?_
            refine wi_iload rfl rfl ?_
            refine wi_iconst (x := (-1)) rfl rfl ?_
            refine wi_icmp_ne rfl (fun h9 => absurd h9 (by decide)) (fun _ => ?_)
            refine wi_iload rfl rfl ?_
            refine wi_iconst (x := (-1)) rfl rfl ?_
            refine wi_icmp_ne rfl (fun h9 => absurd h9 (by decide)) (fun _ => ?_)
            refine wi_iconst (x := 0) rfl rfl ?_
            refine wi_iret rfl (by decide) ?_
            refine wi_if_ne rfl (fun h9 => absurd h9 (by decide)) (fun _ => ?_)
            refine wi_aload_n rfl rfl ?_
            refine wi_iconst (x := 5) rfl rfl ?_
            refine wi_callV1 rfl (by decide) (by decide) rfl (kd_0 ..) rfl rfl rfl ?_
            refine wi_aload_n rfl rfl ?_
            refine wi_iload_n rfl rfl ?_
            refine wi_putI rfl (kd_0 ..) ?_
            refine wi_iconst (x := 0) rfl rfl ?_
            refine wi_iret rfl (by decide) ?_
            refine wi_iret rfl (by decide) ?_
            refine hK _ _ _ _ (fun Q2 h2 => ?_)
            refine wi_aload_n rfl rfl ?_
            refine wi_iconst (x := 0) rfl rfl ?_
            refine wi_putI rfl (kd_134 ..) ?_
            refine wi_aload_n rfl rfl ?_
            refine wi_iconst (x := 0) rfl rfl ?_
            refine wi_putI rfl (kd_134 ..) ?_
            refine wi_aload_n rfl rfl ?_
            refine wi_iload_n rfl rfl ?_
            refine wi_callV1 rfl (by decide) (by decide) rfl (kd_134 ..) rfl rfl rfl (c_isS hn4 (st_in (by omega) (by omega)) ?_)
            refine wi_if_ne rfl (fun _ => ?_) (fun h9 => absurd (by decide) h9)
            refine wi_iload_n rfl rfl ?_
            refine wi_callS1 rfl (by decide) (by decide) rfl rfl rfl (c_mday (wn_in (lo := 0) (hi := 999) (by omega) (by omega) (by decide)) ?_)
            refine wi_if_ne rfl (fun _ => ?_) (fun h9 => absurd (by decide) h9)
            refine wi_iload_n rfl rfl ?_
            refine wi_istore_n (l' := [.ref 134, .int (Int32.ofNat (s)), .int (Int32.ofNat (dd)), .int (Int32.ofNat (s)), .retAddr 0, .retAddr 0, .retAddr 0, .retAddr 0, .retAddr 0]) rfl (Nat.le_of_ble_eq_true rfl) rfl rfl ?_
            refine ml_n (n := n) (mi := (u2 (u2 (u2 mi 0 12 (5 : Int32)) 134 1 (0 : Int32)) 134 0 (0 : Int32))) h14 hq hM hMb (by omega) hz1 ?_ s s rfl (Nat.le_refl _)
            refine wi_iload_n rfl rfl ?_
            refine wi_istore (l' := [.ref 134, .int (Int32.ofNat (s)), .int (Int32.ofNat (dd)), .int (-1 : Int32), .int (Int32.ofNat (s)), .retAddr 0, .retAddr 0, .retAddr 0, .retAddr 0]) rfl (Nat.le_of_ble_eq_true rfl) rfl rfl ?_
            refine mr_n (mi := (u2 (u2 (u2 mi 0 12 (5 : Int32)) 134 1 (0 : Int32)) 134 0 (0 : Int32))) h14 hq hM hMb hn4 hn hz2 ?_ (n - s) s (by omega) (Nat.le_refl _)
            refine wi_iload_n rfl rfl ?_
            refine wi_if_ge rfl (fun h9 => absurd h9 (by decide)) (fun _ => ?_)
            refine wi_iload rfl rfl ?_
            refine wi_aload_n rfl rfl ?_
            refine wi_getIv (v := (Int32.ofNat (n))) rfl (kd_134 ..) hn4 ?_
            refine wi_icmp_ne rfl (fun h9 => absurd trivial (by exfalso; have h8 := (ne_n (a := n) (b := n) rfl rfl (by omega) (by omega)).mp h9; omega)) (fun _ => ?_)
            refine wi_aload_n rfl rfl ?_
            refine wi_iconst (x := 5) rfl rfl ?_
            refine wi_callV1 rfl (by decide) (by decide) rfl (kd_134 ..) rfl rfl rfl ?_
            refine wi_aload_n rfl rfl ?_
            refine wi_iload_n rfl rfl ?_
            refine wi_putI rfl (kd_134 ..) ?_
            refine wi_iconst (x := 0) rfl rfl ?_
            refine wi_iret rfl (by decide) ?_
            refine wi_iret rfl (by decide) ?_
            refine h2 _ _ _ ?_
            exact ⟨n, t, rfl, ⟨hn0, hn4, hn⟩, ⟨ht0, ht5, ht⟩, hT, hF, hC, ⟨q, h93, h14, hq, hk⟩, hP, hTp, hB, hFa, hS, hMk, hfr⟩
          · have hj2s : s < j2 := by
              rcases Nat.lt_or_ge s j2 with h7 | h7
              · exact h7
              · exfalso
                rw [show j2 = s by omega] at hp2
                omega
            have b2 := hMb j2
            have b21 := hSb j2
            refine wi_aload_n rfl rfl ?_
            refine wi_iload_n rfl rfl ?_
            refine wi_callV1 rfl (by decide) (by decide) rfl (kd_0 ..) rfl rfl rfl (c_has hn0 (st_in (by omega) (by omega)) ?_)
            refine wi_if_ne rfl (fun _ => ?_) (fun h9 => absurd (by decide) h9)
            refine wi_iload_n rfl rfl ?_
            refine wi_callS1 rfl (by decide) (by decide) rfl rfl rfl (c_xday (wn_in (lo := 0) (hi := 999) (by omega) (by omega) (by decide)) ?_)
            refine wi_if_ne rfl (fun _ => ?_) (fun h9 => absurd (by decide) h9)
            refine wi_aload_n rfl rfl ?_
            refine wi_getR rfl (kd_0 ..) (rd_0_4 _) ?_
            refine wi_aload_n rfl rfl ?_
            refine wi_getR rfl (kd_0 ..) (rd_0_10 _) ?_
            refine wi_iload_n rfl rfl ?_
            refine wi_iload_n rfl rfl ?_
            refine wi_callV3 rfl (by decide) (by decide) rfl (kd_9 ..) rfl rfl rfl ?_
            refine wi_aload_n rfl rfl ?_
            refine wi_iload_n rfl rfl ?_
            refine wi_iconst (x := (-1)) rfl rfl ?_
            refine wi_iload_n rfl rfl ?_
            refine wi_callV3 rfl (by decide) (by decide) rfl (kd_9 ..) rfl rfl rfl (c_nLn h93 hq hn (by omega) hstr hMx hz1 ?_)
            refine wi_istore (l' := [.ref 9, .ref 96, .int (Int32.ofNat (s)), .int (Int32.ofNat (dd)), .int (-1 : Int32), .retAddr 0, .retAddr 0, .retAddr 0, .retAddr 0, .retAddr 0, .retAddr 0, .retAddr 0, .retAddr 0, .retAddr 0]) rfl (Nat.le_of_ble_eq_true rfl) rfl rfl ?_
            refine wi_aload_n rfl rfl ?_
            refine wi_iload_n rfl rfl ?_
            refine wi_iconst (x := 1) rfl rfl ?_
            refine wi_iload_n rfl rfl ?_
            refine wi_callV3 rfl (by decide) (by decide) rfl (kd_9 ..) rfl rfl rfl (c_nRs h93 hq hn (by omega) hstr hMx (j := j2) (by omega) (by omega) hp2 hz2 ?_)
            refine wi_istore (l' := [.ref 9, .ref 96, .int (Int32.ofNat (s)), .int (Int32.ofNat (dd)), .int (-1 : Int32), .int (Int32.ofNat (j2)), .retAddr 0, .retAddr 0, .retAddr 0, .retAddr 0, .retAddr 0, .retAddr 0, .retAddr 0, .retAddr 0]) rfl (Nat.le_of_ble_eq_true rfl) rfl rfl ?_
            refine wi_iload rfl rfl ?_
            refine wi_iconst (x := (-1)) rfl rfl ?_
            refine wi_icmp_ne rfl (fun h9 => absurd h9 (by decide)) (fun _ => ?_)
            refine wi_iload rfl rfl ?_
            refine wi_iconst (x := (-1)) rfl rfl ?_
            refine wi_icmp_ne rfl (fun _ => ?_) (fun h9 => absurd (nm1 (by omega)) h9)
            refine wi_iload rfl rfl ?_
            refine wi_iconst (x := (-1)) rfl rfl ?_
            refine wi_icmp_eq rfl (fun _ => ?_) (fun h9 => absurd (by decide) h9)
            refine wi_iload rfl rfl ?_
            refine wi_iconst (x := (-1)) rfl rfl ?_
            refine wi_icmp_ne rfl (fun h9 => absurd h9 (by decide)) (fun _ => ?_)
            refine wi_iload rfl rfl ?_
            refine wi_goto rfl ?_
            refine wi_istore (l' := [.ref 9, .ref 96, .int (Int32.ofNat (s)), .int (Int32.ofNat (dd)), .int (-1 : Int32), .int (Int32.ofNat (j2)), .int (Int32.ofNat (j2)), .retAddr 0, .retAddr 0, .retAddr 0, .retAddr 0, .retAddr 0, .retAddr 0, .retAddr 0]) rfl (Nat.le_of_ble_eq_true rfl) rfl rfl ?_
            refine wi_aload_n rfl rfl ?_
            refine wi_aload_n rfl rfl ?_
            refine wi_iload rfl rfl ?_
            refine wi_iload_n rfl rfl ?_
            refine wi_callV2 rfl (by decide) (by decide) rfl (kd_9 ..) rfl rfl rfl (c_xsum h93 hq hvx (hSx _) ?_)
            refine wi_aload_n rfl rfl ?_
            refine wi_iload rfl rfl ?_
            refine wi_iload_n rfl rfl ?_
            refine wi_callV2 rfl (by decide) (by decide) rfl (kd_9 ..) rfl rfl rfl (c_xmany h93 hq (hMx _) ?_)
            refine wi_callV2 rfl (by decide) (by decide) rfl (kd_96 ..) rfl rfl rfl (c_become (P := S j2) (Z := M j2) (labs_n (Z := S j2) rfl (by omega)) (by omega) (by omega) (by omega) ?_)
            refine wi_iconst (x := 1) rfl rfl ?_
            refine wi_iret rfl (by decide) ?_
            refine wi_if_ne rfl (fun _ => ?_) (fun h9 => absurd (by decide) h9)
            refine wi_aload_n rfl rfl ?_
            refine wi_callV0 rfl (by decide) (by decide) rfl (kd_0 ..) rfl rfl rfl ?_
            refine wi_aload_n rfl rfl ?_
            refine wi_iconst (x := 0) rfl rfl ?_
            refine wi_putI rfl (kd_0 ..) ?_
            refine wi_iconst (x := 1) rfl rfl ?_
            refine wi_iret rfl (by decide) ?_
            refine wi_iret rfl (by decide) ?_
            refine hK _ _ _ _ (fun Q2 h2 => ?_)
            refine wi_aload_n rfl rfl ?_
            refine wi_iconst (x := 0) rfl rfl ?_
            refine wi_putI rfl (kd_134 ..) ?_
            refine wi_aload_n rfl rfl ?_
            refine wi_iconst (x := 0) rfl rfl ?_
            refine wi_putI rfl (kd_134 ..) ?_
            refine wi_aload_n rfl rfl ?_
            refine wi_iload_n rfl rfl ?_
            refine wi_callV1 rfl (by decide) (by decide) rfl (kd_134 ..) rfl rfl rfl (c_isS hn4 (st_in (by omega) (by omega)) ?_)
            refine wi_if_ne rfl (fun _ => ?_) (fun h9 => absurd (by decide) h9)
            refine wi_iload_n rfl rfl ?_
            refine wi_callS1 rfl (by decide) (by decide) rfl rfl rfl (c_mday (wn_in (lo := 0) (hi := 999) (by omega) (by omega) (by decide)) ?_)
            refine wi_if_ne rfl (fun _ => ?_) (fun h9 => absurd (by decide) h9)
            refine wi_iload_n rfl rfl ?_
            refine wi_istore_n (l' := [.ref 134, .int (Int32.ofNat (s)), .int (Int32.ofNat (dd)), .int (Int32.ofNat (s)), .retAddr 0, .retAddr 0, .retAddr 0, .retAddr 0, .retAddr 0]) rfl (Nat.le_of_ble_eq_true rfl) rfl rfl ?_
            refine ml_n (n := n) (mi := (u2 (u2 (u2 mi 0 12 (0 : Int32)) 134 1 (0 : Int32)) 134 0 (0 : Int32))) h14 hq hM hMb (by omega) hz1 ?_ s s rfl (Nat.le_refl _)
            refine wi_iload_n rfl rfl ?_
            refine wi_istore (l' := [.ref 134, .int (Int32.ofNat (s)), .int (Int32.ofNat (dd)), .int (-1 : Int32), .int (Int32.ofNat (s)), .retAddr 0, .retAddr 0, .retAddr 0, .retAddr 0]) rfl (Nat.le_of_ble_eq_true rfl) rfl rfl ?_
            refine mr_s (mi := (u2 (u2 (u2 mi 0 12 (0 : Int32)) 134 1 (0 : Int32)) 134 0 (0 : Int32))) h14 hq hM hMb (j := j2) hn4 hn (by omega) hp2 hz2 ?_ (j2 - s) s (by omega) (Nat.le_refl _)
            refine wi_iload_n rfl rfl ?_
            refine wi_if_ge rfl (fun h9 => absurd h9 (by decide)) (fun _ => ?_)
            refine wi_iload rfl rfl ?_
            refine wi_aload_n rfl rfl ?_
            refine wi_getIv (v := (Int32.ofNat (n))) rfl (kd_134 ..) hn4 ?_
            refine wi_icmp_ne rfl (fun _ => ?_) (fun h9 => absurd trivial (by exfalso; have h8 := (not_congr (ne_n (a := j2) (b := n) rfl rfl (by omega) (by omega))).mp h9; omega))
            refine wi_iload_n rfl rfl ?_
            refine wi_iload_n rfl rfl ?_
            refine wi_icmp_eq rfl (fun h9 => absurd h9.symm (nm1 (by omega))) (fun _ => ?_)
            refine wi_iload rfl rfl ?_
            refine wi_aload_n rfl rfl ?_
            refine wi_getIv (v := (Int32.ofNat (n))) rfl (kd_134 ..) hn4 ?_
            refine wi_icmp_ne rfl (fun _ => ?_) (fun h9 => absurd trivial (by exfalso; have h8 := (not_congr (ne_n (a := j2) (b := n) rfl rfl (by omega) (by omega))).mp h9; omega))
            refine wi_iload_n rfl rfl ?_
            refine wi_if_ge rfl (fun h9 => absurd h9 (by decide)) (fun _ => ?_)
            refine wi_aload_n rfl rfl ?_
            refine wi_aload_n rfl rfl ?_
            refine wi_iload rfl rfl ?_
            refine wi_iload_n rfl rfl ?_
            refine wi_callV2 rfl (by decide) (by decide) rfl (kd_134 ..) rfl rfl rfl (c_msum h14 hq hva (hSm _) ?_)
            refine wn_i2l (lz := (Int64.ofNat (S j2))) rfl (i2l_n (a := S j2) rfl (by omega)) ?_
            refine wi_aload_n rfl rfl ?_
            refine wi_iload rfl rfl ?_
            refine wi_iload_n rfl rfl ?_
            refine wi_callV2 rfl (by decide) (by decide) rfl (kd_134 ..) rfl rfl rfl (c_mmany h14 hq (hM _) ?_)
            refine wn_i2l (lz := (Int64.ofNat (M j2))) rfl (i2l_n (a := M j2) rfl (by omega)) ?_
            refine wi_callV2 rfl (by decide) (by decide) rfl (kd_134 ..) rfl rfl rfl (c_tells (P := S j2) (Z := M j2) (labs_n (Z := S j2) rfl (by omega)) (by omega) (by omega) (by omega) ?_)
            refine wi_iret rfl (by decide) ?_
            refine h2 _ _ _ ?_
            exact ⟨n, t, rfl, ⟨hn0, hn4, hn⟩, ⟨ht0, ht5, ht⟩, hT, hF, hC, ⟨q, h93, h14, hq, hk⟩, hP, hTp, hB, hFa, hS, hMk, ⟨rfl, rfl⟩⟩
        · have hj1s : j1 < s := by
            rcases Nat.lt_or_ge j1 s with h7 | h7
            · exact h7
            · exfalso
              rw [show j1 = s by omega] at hp1
              omega
          have b1 := hMb j1
          have b11 := hSb j1
          rcases rg_cases M s n (by omega) with hz2 | ⟨j2, hj2, hj2n, hp2, hz2⟩
          · refine wi_aload_n rfl rfl ?_
            refine wi_iload_n rfl rfl ?_
            refine wi_callV1 rfl (by decide) (by decide) rfl (kd_0 ..) rfl rfl rfl (c_has hn0 (st_in (by omega) (by omega)) ?_)
            refine wi_if_ne rfl (fun _ => ?_) (fun h9 => absurd (by decide) h9)
            refine wi_iload_n rfl rfl ?_
            refine wi_callS1 rfl (by decide) (by decide) rfl rfl rfl (c_xday (wn_in (lo := 0) (hi := 999) (by omega) (by omega) (by decide)) ?_)
            refine wi_if_ne rfl (fun _ => ?_) (fun h9 => absurd (by decide) h9)
            refine wi_aload_n rfl rfl ?_
            refine wi_getR rfl (kd_0 ..) (rd_0_4 _) ?_
            refine wi_aload_n rfl rfl ?_
            refine wi_getR rfl (kd_0 ..) (rd_0_10 _) ?_
            refine wi_iload_n rfl rfl ?_
            refine wi_iload_n rfl rfl ?_
            refine wi_callV3 rfl (by decide) (by decide) rfl (kd_9 ..) rfl rfl rfl ?_
            refine wi_aload_n rfl rfl ?_
            refine wi_iload_n rfl rfl ?_
            refine wi_iconst (x := (-1)) rfl rfl ?_
            refine wi_iload_n rfl rfl ?_
            refine wi_callV3 rfl (by decide) (by decide) rfl (kd_9 ..) rfl rfl rfl (c_nLs h93 hq hn (by omega) hstr hMx (j := j1) (by omega) hp1 hz1 ?_)
            refine wi_istore (l' := [.ref 9, .ref 96, .int (Int32.ofNat (s)), .int (Int32.ofNat (dd)), .int (Int32.ofNat (j1)), .retAddr 0, .retAddr 0, .retAddr 0, .retAddr 0, .retAddr 0, .retAddr 0, .retAddr 0, .retAddr 0, .retAddr 0]) rfl (Nat.le_of_ble_eq_true rfl) rfl rfl ?_
            refine wi_aload_n rfl rfl ?_
            refine wi_iload_n rfl rfl ?_
            refine wi_iconst (x := 1) rfl rfl ?_
            refine wi_iload_n rfl rfl ?_
            refine wi_callV3 rfl (by decide) (by decide) rfl (kd_9 ..) rfl rfl rfl (c_nRn h93 hq hn (by omega) hstr hMx hz2 ?_)
            refine wi_istore (l' := [.ref 9, .ref 96, .int (Int32.ofNat (s)), .int (Int32.ofNat (dd)), .int (Int32.ofNat (j1)), .int (-1 : Int32), .retAddr 0, .retAddr 0, .retAddr 0, .retAddr 0, .retAddr 0, .retAddr 0, .retAddr 0, .retAddr 0]) rfl (Nat.le_of_ble_eq_true rfl) rfl rfl ?_
            refine wi_iload rfl rfl ?_
            refine wi_iconst (x := (-1)) rfl rfl ?_
            refine wi_icmp_ne rfl (fun _ => ?_) (fun h9 => absurd (nm1 (by omega)) h9)
            refine wi_iload rfl rfl ?_
            refine wi_iconst (x := (-1)) rfl rfl ?_
            refine wi_icmp_eq rfl (fun h9 => absurd h9 (nm1 (by omega))) (fun _ => ?_)
            refine wi_iload rfl rfl ?_
            refine wi_iconst (x := (-1)) rfl rfl ?_
            refine wi_icmp_eq rfl (fun _ => ?_) (fun h9 => absurd (by decide) h9)
            refine wi_iload rfl rfl ?_
            refine wi_iconst (x := (-1)) rfl rfl ?_
            refine wi_icmp_ne rfl (fun _ => ?_) (fun h9 => absurd (nm1 (by omega)) h9)
            refine wi_iload rfl rfl ?_
            refine wi_istore (l' := [.ref 9, .ref 96, .int (Int32.ofNat (s)), .int (Int32.ofNat (dd)), .int (Int32.ofNat (j1)), .int (-1 : Int32), .int (Int32.ofNat (j1)), .retAddr 0, .retAddr 0, .retAddr 0, .retAddr 0, .retAddr 0, .retAddr 0, .retAddr 0]) rfl (Nat.le_of_ble_eq_true rfl) rfl rfl ?_
            refine wi_aload_n rfl rfl ?_
            refine wi_aload_n rfl rfl ?_
            refine wi_iload rfl rfl ?_
            refine wi_iload_n rfl rfl ?_
            refine wi_callV2 rfl (by decide) (by decide) rfl (kd_9 ..) rfl rfl rfl (c_xsum h93 hq hvx (hSx _) ?_)
            refine wi_aload_n rfl rfl ?_
            refine wi_iload rfl rfl ?_
            refine wi_iload_n rfl rfl ?_
            refine wi_callV2 rfl (by decide) (by decide) rfl (kd_9 ..) rfl rfl rfl (c_xmany h93 hq (hMx _) ?_)
            refine wi_callV2 rfl (by decide) (by decide) rfl (kd_96 ..) rfl rfl rfl (c_become (P := S j1) (Z := M j1) (labs_n (Z := S j1) rfl (by omega)) (by omega) (by omega) (by omega) ?_)
            refine wi_iconst (x := 1) rfl rfl ?_
            refine wi_iret rfl (by decide) ?_
            refine wi_if_ne rfl (fun _ => ?_) (fun h9 => absurd (by decide) h9)
            refine wi_aload_n rfl rfl ?_
            refine wi_callV0 rfl (by decide) (by decide) rfl (kd_0 ..) rfl rfl rfl ?_
            refine wi_aload_n rfl rfl ?_
            refine wi_iconst (x := 0) rfl rfl ?_
            refine wi_putI rfl (kd_0 ..) ?_
            refine wi_iconst (x := 1) rfl rfl ?_
            refine wi_iret rfl (by decide) ?_
            refine wi_iret rfl (by decide) ?_
            refine hK _ _ _ _ (fun Q2 h2 => ?_)
            refine wi_aload_n rfl rfl ?_
            refine wi_iconst (x := 0) rfl rfl ?_
            refine wi_putI rfl (kd_134 ..) ?_
            refine wi_aload_n rfl rfl ?_
            refine wi_iconst (x := 0) rfl rfl ?_
            refine wi_putI rfl (kd_134 ..) ?_
            refine wi_aload_n rfl rfl ?_
            refine wi_iload_n rfl rfl ?_
            refine wi_callV1 rfl (by decide) (by decide) rfl (kd_134 ..) rfl rfl rfl (c_isS hn4 (st_in (by omega) (by omega)) ?_)
            refine wi_if_ne rfl (fun _ => ?_) (fun h9 => absurd (by decide) h9)
            refine wi_iload_n rfl rfl ?_
            refine wi_callS1 rfl (by decide) (by decide) rfl rfl rfl (c_mday (wn_in (lo := 0) (hi := 999) (by omega) (by omega) (by decide)) ?_)
            refine wi_if_ne rfl (fun _ => ?_) (fun h9 => absurd (by decide) h9)
            refine wi_iload_n rfl rfl ?_
            refine wi_istore_n (l' := [.ref 134, .int (Int32.ofNat (s)), .int (Int32.ofNat (dd)), .int (Int32.ofNat (s)), .retAddr 0, .retAddr 0, .retAddr 0, .retAddr 0, .retAddr 0]) rfl (Nat.le_of_ble_eq_true rfl) rfl rfl ?_
            refine ml_s (n := n) (mi := (u2 (u2 (u2 mi 0 12 (0 : Int32)) 134 1 (0 : Int32)) 134 0 (0 : Int32))) h14 hq hM hMb (j := j1) (by omega) hp1 hz1 ?_ (s - j1) s (by omega) (Nat.le_refl _)
            refine wi_iload_n rfl rfl ?_
            refine wi_istore (l' := [.ref 134, .int (Int32.ofNat (s)), .int (Int32.ofNat (dd)), .int (Int32.ofNat (j1)), .int (Int32.ofNat (s)), .retAddr 0, .retAddr 0, .retAddr 0, .retAddr 0]) rfl (Nat.le_of_ble_eq_true rfl) rfl rfl ?_
            refine mr_n (mi := (u2 (u2 (u2 mi 0 12 (0 : Int32)) 134 1 (0 : Int32)) 134 0 (0 : Int32))) h14 hq hM hMb hn4 hn hz2 ?_ (n - s) s (by omega) (Nat.le_refl _)
            refine wi_iload_n rfl rfl ?_
            refine wi_if_ge rfl (fun _ => ?_) (fun h9 => absurd trivial (by exfalso; have h8 := (not_congr (le_n (a := 0) (b := j1) (rfl : (0 : Int32) = Int32.ofNat 0) rfl (by omega) (by omega))).mp h9; omega))
            refine wi_iload_n rfl rfl ?_
            refine wi_iload_n rfl rfl ?_
            refine wi_icmp_eq rfl (fun h9 => absurd trivial (by exfalso; have h8 := (eq_n (a := j1) (b := s) rfl rfl (by omega) (by omega)).mp h9; omega)) (fun _ => ?_)
            refine wi_iload rfl rfl ?_
            refine wi_aload_n rfl rfl ?_
            refine wi_getIv (v := (Int32.ofNat (n))) rfl (kd_134 ..) hn4 ?_
            refine wi_icmp_ne rfl (fun h9 => absurd trivial (by exfalso; have h8 := (ne_n (a := n) (b := n) rfl rfl (by omega) (by omega)).mp h9; omega)) (fun _ => ?_)
            refine wi_aload_n rfl rfl ?_
            refine wi_aload_n rfl rfl ?_
            refine wi_iload_n rfl rfl ?_
            refine wi_iload_n rfl rfl ?_
            refine wi_callV2 rfl (by decide) (by decide) rfl (kd_134 ..) rfl rfl rfl (c_msum h14 hq hva (hSm _) ?_)
            refine wn_i2l (lz := (Int64.ofNat (S j1))) rfl (i2l_n (a := S j1) rfl (by omega)) ?_
            refine wi_aload_n rfl rfl ?_
            refine wi_iload_n rfl rfl ?_
            refine wi_iload_n rfl rfl ?_
            refine wi_callV2 rfl (by decide) (by decide) rfl (kd_134 ..) rfl rfl rfl (c_mmany h14 hq (hM _) ?_)
            refine wn_i2l (lz := (Int64.ofNat (M j1))) rfl (i2l_n (a := M j1) rfl (by omega)) ?_
            refine wi_callV2 rfl (by decide) (by decide) rfl (kd_134 ..) rfl rfl rfl (c_tells (P := S j1) (Z := M j1) (labs_n (Z := S j1) rfl (by omega)) (by omega) (by omega) (by omega) ?_)
            refine wi_iret rfl (by decide) ?_
            refine h2 _ _ _ ?_
            exact ⟨n, t, rfl, ⟨hn0, hn4, hn⟩, ⟨ht0, ht5, ht⟩, hT, hF, hC, ⟨q, h93, h14, hq, hk⟩, hP, hTp, hB, hFa, hS, hMk, ⟨rfl, rfl⟩⟩
          · have hj2s : s < j2 := by
              rcases Nat.lt_or_ge s j2 with h7 | h7
              · exact h7
              · exfalso
                rw [show j2 = s by omega] at hp2
                omega
            have b2 := hMb j2
            have b21 := hSb j2
            have k1 : S j1 * M j2 ≤ 20000 * 200 := Nat.mul_le_mul b11 b2
            have k2 : S j1 * M j2 * (j2 - s) ≤ 20000 * 200 * 8 := Nat.mul_le_mul k1 (by omega)
            have k3 : S j2 * M j1 ≤ 20000 * 200 := Nat.mul_le_mul b21 b1
            have k4 : S j2 * M j1 * (s - j1) ≤ 20000 * 200 * 8 := Nat.mul_le_mul k3 (by omega)
            have k5 : M j1 * M j2 ≤ 200 * 200 := Nat.mul_le_mul b1 b2
            have k6 : M j1 * M j2 * (j2 - j1) ≤ 200 * 200 * 8 := Nat.mul_le_mul k5 (by omega)
            have hpos : 0 < M j1 * M j2 * (j2 - j1) := Nat.mul_pos (Nat.mul_pos hp1 hp2) (by omega)
            refine wi_aload_n rfl rfl ?_
            refine wi_iload_n rfl rfl ?_
            refine wi_callV1 rfl (by decide) (by decide) rfl (kd_0 ..) rfl rfl rfl (c_has hn0 (st_in (by omega) (by omega)) ?_)
            refine wi_if_ne rfl (fun _ => ?_) (fun h9 => absurd (by decide) h9)
            refine wi_iload_n rfl rfl ?_
            refine wi_callS1 rfl (by decide) (by decide) rfl rfl rfl (c_xday (wn_in (lo := 0) (hi := 999) (by omega) (by omega) (by decide)) ?_)
            refine wi_if_ne rfl (fun _ => ?_) (fun h9 => absurd (by decide) h9)
            refine wi_aload_n rfl rfl ?_
            refine wi_getR rfl (kd_0 ..) (rd_0_4 _) ?_
            refine wi_aload_n rfl rfl ?_
            refine wi_getR rfl (kd_0 ..) (rd_0_10 _) ?_
            refine wi_iload_n rfl rfl ?_
            refine wi_iload_n rfl rfl ?_
            refine wi_callV3 rfl (by decide) (by decide) rfl (kd_9 ..) rfl rfl rfl ?_
            refine wi_aload_n rfl rfl ?_
            refine wi_iload_n rfl rfl ?_
            refine wi_iconst (x := (-1)) rfl rfl ?_
            refine wi_iload_n rfl rfl ?_
            refine wi_callV3 rfl (by decide) (by decide) rfl (kd_9 ..) rfl rfl rfl (c_nLs h93 hq hn (by omega) hstr hMx (j := j1) (by omega) hp1 hz1 ?_)
            refine wi_istore (l' := [.ref 9, .ref 96, .int (Int32.ofNat (s)), .int (Int32.ofNat (dd)), .int (Int32.ofNat (j1)), .retAddr 0, .retAddr 0, .retAddr 0, .retAddr 0, .retAddr 0, .retAddr 0, .retAddr 0, .retAddr 0, .retAddr 0]) rfl (Nat.le_of_ble_eq_true rfl) rfl rfl ?_
            refine wi_aload_n rfl rfl ?_
            refine wi_iload_n rfl rfl ?_
            refine wi_iconst (x := 1) rfl rfl ?_
            refine wi_iload_n rfl rfl ?_
            refine wi_callV3 rfl (by decide) (by decide) rfl (kd_9 ..) rfl rfl rfl (c_nRs h93 hq hn (by omega) hstr hMx (j := j2) (by omega) (by omega) hp2 hz2 ?_)
            refine wi_istore (l' := [.ref 9, .ref 96, .int (Int32.ofNat (s)), .int (Int32.ofNat (dd)), .int (Int32.ofNat (j1)), .int (Int32.ofNat (j2)), .retAddr 0, .retAddr 0, .retAddr 0, .retAddr 0, .retAddr 0, .retAddr 0, .retAddr 0, .retAddr 0]) rfl (Nat.le_of_ble_eq_true rfl) rfl rfl ?_
            refine wi_iload rfl rfl ?_
            refine wi_iconst (x := (-1)) rfl rfl ?_
            refine wi_icmp_ne rfl (fun _ => ?_) (fun h9 => absurd (nm1 (by omega)) h9)
            refine wi_iload rfl rfl ?_
            refine wi_iconst (x := (-1)) rfl rfl ?_
            refine wi_icmp_eq rfl (fun h9 => absurd h9 (nm1 (by omega))) (fun _ => ?_)
            refine wi_iload rfl rfl ?_
            refine wi_iconst (x := (-1)) rfl rfl ?_
            refine wi_icmp_eq rfl (fun h9 => absurd h9 (nm1 (by omega))) (fun _ => ?_)
            refine wi_iload rfl rfl ?_
            refine wi_iload rfl rfl ?_
            refine wi_icmp_ne rfl (fun _ => ?_) (fun h9 => absurd trivial (by exfalso; have h8 := (not_congr (ne_n (a := j1) (b := j2) rfl rfl (by omega) (by omega))).mp h9; omega))
            refine wi_aload_n rfl rfl ?_
            refine wi_iload rfl rfl ?_
            refine wi_iload_n rfl rfl ?_
            refine wi_callV2 rfl (by decide) (by decide) rfl (kd_9 ..) rfl rfl rfl (c_xmany h93 hq (hMx _) ?_)
            refine wi_lstore (l' := [.ref 9, .ref 96, .int (Int32.ofNat (s)), .int (Int32.ofNat (dd)), .int (Int32.ofNat (j1)), .int (Int32.ofNat (j2)), .long (Int64.ofNat (M j1)), .retAddr 0, .retAddr 0, .retAddr 0, .retAddr 0, .retAddr 0, .retAddr 0, .retAddr 0]) rfl (Nat.le_of_ble_eq_true rfl) rfl rfl ?_
            refine wi_aload_n rfl rfl ?_
            refine wi_iload rfl rfl ?_
            refine wi_iload_n rfl rfl ?_
            refine wi_callV2 rfl (by decide) (by decide) rfl (kd_9 ..) rfl rfl rfl (c_xmany h93 hq (hMx _) ?_)
            refine wi_lstore (l' := [.ref 9, .ref 96, .int (Int32.ofNat (s)), .int (Int32.ofNat (dd)), .int (Int32.ofNat (j1)), .int (Int32.ofNat (j2)), .long (Int64.ofNat (M j1)), .retAddr 0, .long (Int64.ofNat (M j2)), .retAddr 0, .retAddr 0, .retAddr 0, .retAddr 0, .retAddr 0]) rfl (Nat.le_of_ble_eq_true rfl) rfl rfl ?_
            refine wi_aload_n rfl rfl ?_
            refine wi_iload rfl rfl ?_
            refine wi_iload_n rfl rfl ?_
            refine wi_callV2 rfl (by decide) (by decide) rfl (kd_9 ..) rfl rfl rfl (c_xsum h93 hq hvx (hSx _) ?_)
            refine wi_lload rfl rfl ?_
            refine wn_lmul (lz := (Int64.ofNat ((S j1) * (M j2)))) rfl (mul_l (a := S j1) (b := M j2) rfl rfl) ?_
            refine wi_iload rfl rfl ?_
            refine wi_iload_n rfl rfl ?_
            refine wn_isub (z := (Int32.ofNat (j2 - s))) rfl (sub_n (a := j2) (b := s) rfl rfl (by omega)) ?_
            refine wn_i2l (lz := (Int64.ofNat (j2 - s))) rfl (i2l_n (a := j2 - s) rfl (by omega)) ?_
            refine wn_lmul (lz := (Int64.ofNat (((S j1) * (M j2)) * (j2 - s)))) rfl (mul_l (a := (S j1) * (M j2)) (b := j2 - s) rfl rfl) ?_
            refine wi_lstore (l' := [.ref 9, .ref 96, .int (Int32.ofNat (s)), .int (Int32.ofNat (dd)), .int (Int32.ofNat (j1)), .int (Int32.ofNat (j2)), .long (Int64.ofNat (M j1)), .retAddr 0, .long (Int64.ofNat (M j2)), .retAddr 0, .long (Int64.ofNat (((S j1) * (M j2)) * (j2 - s))), .retAddr 0, .retAddr 0, .retAddr 0]) rfl (Nat.le_of_ble_eq_true rfl) rfl rfl ?_
            refine wi_aload_n rfl rfl ?_
            refine wi_iload rfl rfl ?_
            refine wi_iload_n rfl rfl ?_
            refine wi_callV2 rfl (by decide) (by decide) rfl (kd_9 ..) rfl rfl rfl (c_xsum h93 hq hvx (hSx _) ?_)
            refine wi_lload rfl rfl ?_
            refine wn_lmul (lz := (Int64.ofNat ((S j2) * (M j1)))) rfl (mul_l (a := S j2) (b := M j1) rfl rfl) ?_
            refine wi_iload_n rfl rfl ?_
            refine wi_iload rfl rfl ?_
            refine wn_isub (z := (Int32.ofNat (s - j1))) rfl (sub_n (a := s) (b := j1) rfl rfl (by omega)) ?_
            refine wn_i2l (lz := (Int64.ofNat (s - j1))) rfl (i2l_n (a := s - j1) rfl (by omega)) ?_
            refine wn_lmul (lz := (Int64.ofNat (((S j2) * (M j1)) * (s - j1)))) rfl (mul_l (a := (S j2) * (M j1)) (b := s - j1) rfl rfl) ?_
            refine wi_lstore (l' := [.ref 9, .ref 96, .int (Int32.ofNat (s)), .int (Int32.ofNat (dd)), .int (Int32.ofNat (j1)), .int (Int32.ofNat (j2)), .long (Int64.ofNat (M j1)), .retAddr 0, .long (Int64.ofNat (M j2)), .retAddr 0, .long (Int64.ofNat (((S j1) * (M j2)) * (j2 - s))), .retAddr 0, .long (Int64.ofNat (((S j2) * (M j1)) * (s - j1))), .retAddr 0]) rfl (Nat.le_of_ble_eq_true rfl) rfl rfl ?_
            refine wi_aload_n rfl rfl ?_
            refine wi_lload rfl rfl ?_
            refine wi_lload rfl rfl ?_
            refine wn_ladd (lz := (Int64.ofNat (((S j1) * (M j2)) * (j2 - s) + ((S j2) * (M j1)) * (s - j1)))) rfl (add_l (a := ((S j1) * (M j2)) * (j2 - s)) (b := ((S j2) * (M j1)) * (s - j1)) rfl rfl) ?_
            refine wi_lload rfl rfl ?_
            refine wi_lload rfl rfl ?_
            refine wn_lmul (lz := (Int64.ofNat ((M j1) * (M j2)))) rfl (mul_l (a := M j1) (b := M j2) rfl rfl) ?_
            refine wi_iload rfl rfl ?_
            refine wi_iload rfl rfl ?_
            refine wn_isub (z := (Int32.ofNat (j2 - j1))) rfl (sub_n (a := j2) (b := j1) rfl rfl (by omega)) ?_
            refine wn_i2l (lz := (Int64.ofNat (j2 - j1))) rfl (i2l_n (a := j2 - j1) rfl (by omega)) ?_
            refine wn_lmul (lz := (Int64.ofNat (((M j1) * (M j2)) * (j2 - j1)))) rfl (mul_l (a := (M j1) * (M j2)) (b := j2 - j1) rfl rfl) ?_
            refine wi_callV2 rfl (by decide) (by decide) rfl (kd_96 ..) rfl rfl rfl (c_become (P := ((S j1) * (M j2)) * (j2 - s) + ((S j2) * (M j1)) * (s - j1)) (Z := ((M j1) * (M j2)) * (j2 - j1)) (labs_n (Z := ((S j1) * (M j2)) * (j2 - s) + ((S j2) * (M j1)) * (s - j1)) rfl (by omega)) (by omega) (by omega) hpos ?_)
            refine wi_iconst (x := 1) rfl rfl ?_
            refine wi_iret rfl (by decide) ?_
            refine wi_if_ne rfl (fun _ => ?_) (fun h9 => absurd (by decide) h9)
            refine wi_aload_n rfl rfl ?_
            refine wi_callV0 rfl (by decide) (by decide) rfl (kd_0 ..) rfl rfl rfl ?_
            refine wi_aload_n rfl rfl ?_
            refine wi_iconst (x := 0) rfl rfl ?_
            refine wi_putI rfl (kd_0 ..) ?_
            refine wi_iconst (x := 1) rfl rfl ?_
            refine wi_iret rfl (by decide) ?_
            refine wi_iret rfl (by decide) ?_
            refine hK _ _ _ _ (fun Q2 h2 => ?_)
            refine wi_aload_n rfl rfl ?_
            refine wi_iconst (x := 0) rfl rfl ?_
            refine wi_putI rfl (kd_134 ..) ?_
            refine wi_aload_n rfl rfl ?_
            refine wi_iconst (x := 0) rfl rfl ?_
            refine wi_putI rfl (kd_134 ..) ?_
            refine wi_aload_n rfl rfl ?_
            refine wi_iload_n rfl rfl ?_
            refine wi_callV1 rfl (by decide) (by decide) rfl (kd_134 ..) rfl rfl rfl (c_isS hn4 (st_in (by omega) (by omega)) ?_)
            refine wi_if_ne rfl (fun _ => ?_) (fun h9 => absurd (by decide) h9)
            refine wi_iload_n rfl rfl ?_
            refine wi_callS1 rfl (by decide) (by decide) rfl rfl rfl (c_mday (wn_in (lo := 0) (hi := 999) (by omega) (by omega) (by decide)) ?_)
            refine wi_if_ne rfl (fun _ => ?_) (fun h9 => absurd (by decide) h9)
            refine wi_iload_n rfl rfl ?_
            refine wi_istore_n (l' := [.ref 134, .int (Int32.ofNat (s)), .int (Int32.ofNat (dd)), .int (Int32.ofNat (s)), .retAddr 0, .retAddr 0, .retAddr 0, .retAddr 0, .retAddr 0]) rfl (Nat.le_of_ble_eq_true rfl) rfl rfl ?_
            refine ml_s (n := n) (mi := (u2 (u2 (u2 mi 0 12 (0 : Int32)) 134 1 (0 : Int32)) 134 0 (0 : Int32))) h14 hq hM hMb (j := j1) (by omega) hp1 hz1 ?_ (s - j1) s (by omega) (Nat.le_refl _)
            refine wi_iload_n rfl rfl ?_
            refine wi_istore (l' := [.ref 134, .int (Int32.ofNat (s)), .int (Int32.ofNat (dd)), .int (Int32.ofNat (j1)), .int (Int32.ofNat (s)), .retAddr 0, .retAddr 0, .retAddr 0, .retAddr 0]) rfl (Nat.le_of_ble_eq_true rfl) rfl rfl ?_
            refine mr_s (mi := (u2 (u2 (u2 mi 0 12 (0 : Int32)) 134 1 (0 : Int32)) 134 0 (0 : Int32))) h14 hq hM hMb (j := j2) hn4 hn (by omega) hp2 hz2 ?_ (j2 - s) s (by omega) (Nat.le_refl _)
            refine wi_iload_n rfl rfl ?_
            refine wi_if_ge rfl (fun _ => ?_) (fun h9 => absurd trivial (by exfalso; have h8 := (not_congr (le_n (a := 0) (b := j1) (rfl : (0 : Int32) = Int32.ofNat 0) rfl (by omega) (by omega))).mp h9; omega))
            refine wi_iload_n rfl rfl ?_
            refine wi_iload_n rfl rfl ?_
            refine wi_icmp_eq rfl (fun h9 => absurd trivial (by exfalso; have h8 := (eq_n (a := j1) (b := s) rfl rfl (by omega) (by omega)).mp h9; omega)) (fun _ => ?_)
            refine wi_iload rfl rfl ?_
            refine wi_aload_n rfl rfl ?_
            refine wi_getIv (v := (Int32.ofNat (n))) rfl (kd_134 ..) hn4 ?_
            refine wi_icmp_ne rfl (fun _ => ?_) (fun h9 => absurd trivial (by exfalso; have h8 := (not_congr (ne_n (a := j2) (b := n) rfl rfl (by omega) (by omega))).mp h9; omega))
            refine wi_iload_n rfl rfl ?_
            refine wi_if_ge rfl (fun _ => ?_) (fun h9 => absurd trivial (by exfalso; have h8 := (not_congr (le_n (a := 0) (b := j1) (rfl : (0 : Int32) = Int32.ofNat 0) rfl (by omega) (by omega))).mp h9; omega))
            refine wi_aload_n rfl rfl ?_
            refine wi_iload_n rfl rfl ?_
            refine wi_iload_n rfl rfl ?_
            refine wi_callV2 rfl (by decide) (by decide) rfl (kd_134 ..) rfl rfl rfl (c_mmany h14 hq (hM _) ?_)
            refine wn_i2l (lz := (Int64.ofNat (M j1))) rfl (i2l_n (a := M j1) rfl (by omega)) ?_
            refine wi_lstore (l' := [.ref 134, .int (Int32.ofNat (s)), .int (Int32.ofNat (dd)), .int (Int32.ofNat (j1)), .int (Int32.ofNat (j2)), .long (Int64.ofNat (M j1)), .retAddr 0, .retAddr 0, .retAddr 0]) rfl (Nat.le_of_ble_eq_true rfl) rfl rfl ?_
            refine wi_aload_n rfl rfl ?_
            refine wi_iload rfl rfl ?_
            refine wi_iload_n rfl rfl ?_
            refine wi_callV2 rfl (by decide) (by decide) rfl (kd_134 ..) rfl rfl rfl (c_mmany h14 hq (hM _) ?_)
            refine wn_i2l (lz := (Int64.ofNat (M j2))) rfl (i2l_n (a := M j2) rfl (by omega)) ?_
            refine wi_lstore (l' := [.ref 134, .int (Int32.ofNat (s)), .int (Int32.ofNat (dd)), .int (Int32.ofNat (j1)), .int (Int32.ofNat (j2)), .long (Int64.ofNat (M j1)), .retAddr 0, .long (Int64.ofNat (M j2)), .retAddr 0]) rfl (Nat.le_of_ble_eq_true rfl) rfl rfl ?_
            refine wi_aload_n rfl rfl ?_
            refine wi_aload_n rfl rfl ?_
            refine wi_iload_n rfl rfl ?_
            refine wi_iload_n rfl rfl ?_
            refine wi_callV2 rfl (by decide) (by decide) rfl (kd_134 ..) rfl rfl rfl (c_msum h14 hq hva (hSm _) ?_)
            refine wn_i2l (lz := (Int64.ofNat (S j1))) rfl (i2l_n (a := S j1) rfl (by omega)) ?_
            refine wi_lload rfl rfl ?_
            refine wn_lmul (lz := (Int64.ofNat ((S j1) * (M j2)))) rfl (mul_l (a := S j1) (b := M j2) rfl rfl) ?_
            refine wi_iload rfl rfl ?_
            refine wi_iload_n rfl rfl ?_
            refine wn_isub (z := (Int32.ofNat (j2 - s))) rfl (sub_n (a := j2) (b := s) rfl rfl (by omega)) ?_
            refine wn_i2l (lz := (Int64.ofNat (j2 - s))) rfl (i2l_n (a := j2 - s) rfl (by omega)) ?_
            refine wn_lmul (lz := (Int64.ofNat (((S j1) * (M j2)) * (j2 - s)))) rfl (mul_l (a := (S j1) * (M j2)) (b := j2 - s) rfl rfl) ?_
            refine wi_aload_n rfl rfl ?_
            refine wi_iload rfl rfl ?_
            refine wi_iload_n rfl rfl ?_
            refine wi_callV2 rfl (by decide) (by decide) rfl (kd_134 ..) rfl rfl rfl (c_msum h14 hq hva (hSm _) ?_)
            refine wn_i2l (lz := (Int64.ofNat (S j2))) rfl (i2l_n (a := S j2) rfl (by omega)) ?_
            refine wi_lload rfl rfl ?_
            refine wn_lmul (lz := (Int64.ofNat ((S j2) * (M j1)))) rfl (mul_l (a := S j2) (b := M j1) rfl rfl) ?_
            refine wi_iload_n rfl rfl ?_
            refine wi_iload_n rfl rfl ?_
            refine wn_isub (z := (Int32.ofNat (s - j1))) rfl (sub_n (a := s) (b := j1) rfl rfl (by omega)) ?_
            refine wn_i2l (lz := (Int64.ofNat (s - j1))) rfl (i2l_n (a := s - j1) rfl (by omega)) ?_
            refine wn_lmul (lz := (Int64.ofNat (((S j2) * (M j1)) * (s - j1)))) rfl (mul_l (a := (S j2) * (M j1)) (b := s - j1) rfl rfl) ?_
            refine wn_ladd (lz := (Int64.ofNat (((S j1) * (M j2)) * (j2 - s) + ((S j2) * (M j1)) * (s - j1)))) rfl (add_l (a := ((S j1) * (M j2)) * (j2 - s)) (b := ((S j2) * (M j1)) * (s - j1)) rfl rfl) ?_
            refine wi_lload rfl rfl ?_
            refine wi_lload rfl rfl ?_
            refine wn_lmul (lz := (Int64.ofNat ((M j1) * (M j2)))) rfl (mul_l (a := M j1) (b := M j2) rfl rfl) ?_
            refine wi_iload rfl rfl ?_
            refine wi_iload_n rfl rfl ?_
            refine wn_isub (z := (Int32.ofNat (j2 - j1))) rfl (sub_n (a := j2) (b := j1) rfl rfl (by omega)) ?_
            refine wn_i2l (lz := (Int64.ofNat (j2 - j1))) rfl (i2l_n (a := j2 - j1) rfl (by omega)) ?_
            refine wn_lmul (lz := (Int64.ofNat (((M j1) * (M j2)) * (j2 - j1)))) rfl (mul_l (a := (M j1) * (M j2)) (b := j2 - j1) rfl rfl) ?_
            refine wi_callV2 rfl (by decide) (by decide) rfl (kd_134 ..) rfl rfl rfl (c_tells (P := ((S j1) * (M j2)) * (j2 - s) + ((S j2) * (M j1)) * (s - j1)) (Z := ((M j1) * (M j2)) * (j2 - j1)) (labs_n (Z := ((S j1) * (M j2)) * (j2 - s) + ((S j2) * (M j1)) * (s - j1)) rfl (by omega)) (by omega) (by omega) hpos ?_)
            refine wi_iret rfl (by decide) ?_
            refine h2 _ _ _ ?_
            exact ⟨n, t, rfl, ⟨hn0, hn4, hn⟩, ⟨ht0, ht5, ht⟩, hT, hF, hC, ⟨q, h93, h14, hq, hk⟩, hP, hTp, hB, hFa, hS, hMk, ⟨rfl, rfl⟩⟩
