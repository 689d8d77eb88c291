/-! ===== rules: the class reads ===== -/
theorem wn_b {a lo hi : Nat} (ha : a < 1000) (hl : lo < 1000) (hh : hi < 1000) : wnF (Int32.ofNat a) (Int32.ofNat lo) (Int32.ofNat hi) = bI (decide (lo ≤ a) && decide (a ≤ hi)) := by
  unfold wnF
  by_cases h1 : a < lo
  · rw [if_pos ((lt_n rfl rfl (by omega) (by omega)).mpr h1), decide_eq_false (show ¬ lo ≤ a by omega)]
    rfl
  · rw [if_neg (fun h => h1 ((lt_n rfl rfl (by omega) (by omega)).mp h)), decide_eq_true (show lo ≤ a by omega)]
    by_cases h2 : hi < a
    · rw [if_pos ((lt_n rfl rfl (by omega) (by omega)).mpr h2), decide_eq_false (show ¬ a ≤ hi by omega)]
      rfl
    · rw [if_neg (fun h => h2 ((lt_n rfl rfl (by omega) (by omega)).mp h)), decide_eq_true (show a ≤ hi by omega)]
      rfl
section RX
variable {X : Nat × (Nat → Int32)} {d : Nat} {Q : Option Value → am_M → Prop} {ml : Nat → Nat → Int64} {b : Bool} {M : am_M} {T : Nat → Nat} {N cnt : Nat}
theorem c_isB {a : Nat} {z : Int32} (ha : a < 256) (hz : bI (isB a) = z) (hQ : Q (some (.int z)) M) : am_wp X d 58 0 [.int (Int32.ofNat a)] [] M Q := by
  refine wi_iload_n rfl rfl ?_
  refine wi_bipush (x := 10) rfl rfl ?_
  refine wi_icmp_eq rfl (fun g1 => ?_) (fun g1 => ?_)
  · replace g1 := (eq_n (a := a) (b := 10) rfl (rfl : (10 : Int32) = Int32.ofNat 10) (by omega) (by omega)).mp g1
    refine wi_iconst (x := 1) rfl rfl ?_
    refine wi_goto rfl ?_
    refine wi_iret rfl (by decide) ?_
    have e9 : isB a = true := by
      unfold isB
      simp only [Bool.or_eq_true, beq_iff_eq, beq_eq_false_iff_ne]
      omega
    rw [e9] at hz
    subst hz
    exact hQ
  · replace g1 := (not_congr (eq_n (a := a) (b := 10) rfl (rfl : (10 : Int32) = Int32.ofNat 10) (by omega) (by omega))).mp g1
    refine wi_iload_n rfl rfl ?_
    refine wi_bipush (x := 32) rfl rfl ?_
    refine wi_icmp_ne rfl (fun g2 => ?_) (fun g2 => ?_)
    · replace g2 := (ne_n (a := a) (b := 32) rfl (rfl : (32 : Int32) = Int32.ofNat 32) (by omega) (by omega)).mp g2
      refine wi_iconst (x := 0) rfl rfl ?_
      refine wi_iret rfl (by decide) ?_
      have e9 : isB a = false := by
        unfold isB
        simp only [Bool.or_eq_false_iff, beq_iff_eq, beq_eq_false_iff_ne]
        omega
      rw [e9] at hz
      subst hz
      exact hQ
    · replace g2 := (not_congr (ne_n (a := a) (b := 32) rfl (rfl : (32 : Int32) = Int32.ofNat 32) (by omega) (by omega))).mp g2
      refine wi_iconst (x := 1) rfl rfl ?_
      refine wi_goto rfl ?_
      refine wi_iret rfl (by decide) ?_
      have e9 : isB a = true := by
        unfold isB
        simp only [Bool.or_eq_true, beq_iff_eq, beq_eq_false_iff_ne]
        omega
      rw [e9] at hz
      subst hz
      exact hQ
theorem c_isG {a : Nat} {z : Int32} (ha : a < 256) (hz : bI (isG a) = z) (hQ : Q (some (.int z)) M) : am_wp X d 61 0 [.int (Int32.ofNat a)] [] M Q := by
  refine wi_iload_n rfl rfl ?_
  refine wi_bipush (x := 60) rfl rfl ?_
  refine wi_icmp_eq rfl (fun g1 => ?_) (fun g1 => ?_)
  · replace g1 := (eq_n (a := a) (b := 60) rfl (rfl : (60 : Int32) = Int32.ofNat 60) (by omega) (by omega)).mp g1
    refine wi_iconst (x := 1) rfl rfl ?_
    refine wi_goto rfl ?_
    refine wi_iret rfl (by decide) ?_
    have e9 : isG a = true := by
      unfold isG
      simp only [Bool.or_eq_true, beq_iff_eq, beq_eq_false_iff_ne]
      omega
    rw [e9] at hz
    subst hz
    exact hQ
  · replace g1 := (not_congr (eq_n (a := a) (b := 60) rfl (rfl : (60 : Int32) = Int32.ofNat 60) (by omega) (by omega))).mp g1
    refine wi_iload_n rfl rfl ?_
    refine wi_bipush (x := 62) rfl rfl ?_
    refine wi_icmp_eq rfl (fun g2 => ?_) (fun g2 => ?_)
    · replace g2 := (eq_n (a := a) (b := 62) rfl (rfl : (62 : Int32) = Int32.ofNat 62) (by omega) (by omega)).mp g2
      refine wi_iconst (x := 1) rfl rfl ?_
      refine wi_goto rfl ?_
      refine wi_iret rfl (by decide) ?_
      have e9 : isG a = true := by
        unfold isG
        simp only [Bool.or_eq_true, beq_iff_eq, beq_eq_false_iff_ne]
        omega
      rw [e9] at hz
      subst hz
      exact hQ
    · replace g2 := (not_congr (eq_n (a := a) (b := 62) rfl (rfl : (62 : Int32) = Int32.ofNat 62) (by omega) (by omega))).mp g2
      refine wi_iload_n rfl rfl ?_
      refine wi_bipush (x := 61) rfl rfl ?_
      refine wi_icmp_eq rfl (fun g3 => ?_) (fun g3 => ?_)
      · replace g3 := (eq_n (a := a) (b := 61) rfl (rfl : (61 : Int32) = Int32.ofNat 61) (by omega) (by omega)).mp g3
        refine wi_iconst (x := 1) rfl rfl ?_
        refine wi_goto rfl ?_
        refine wi_iret rfl (by decide) ?_
        have e9 : isG a = true := by
          unfold isG
          simp only [Bool.or_eq_true, beq_iff_eq, beq_eq_false_iff_ne]
          omega
        rw [e9] at hz
        subst hz
        exact hQ
      · replace g3 := (not_congr (eq_n (a := a) (b := 61) rfl (rfl : (61 : Int32) = Int32.ofNat 61) (by omega) (by omega))).mp g3
        refine wi_iload_n rfl rfl ?_
        refine wi_bipush (x := 59) rfl rfl ?_
        refine wi_icmp_ne rfl (fun g4 => ?_) (fun g4 => ?_)
        · replace g4 := (ne_n (a := a) (b := 59) rfl (rfl : (59 : Int32) = Int32.ofNat 59) (by omega) (by omega)).mp g4
          refine wi_iconst (x := 0) rfl rfl ?_
          refine wi_iret rfl (by decide) ?_
          have e9 : isG a = false := by
            unfold isG
            simp only [Bool.or_eq_false_iff, beq_iff_eq, beq_eq_false_iff_ne]
            omega
          rw [e9] at hz
          subst hz
          exact hQ
        · replace g4 := (not_congr (ne_n (a := a) (b := 59) rfl (rfl : (59 : Int32) = Int32.ofNat 59) (by omega) (by omega))).mp g4
          refine wi_iconst (x := 1) rfl rfl ?_
          refine wi_goto rfl ?_
          refine wi_iret rfl (by decide) ?_
          have e9 : isG a = true := by
            unfold isG
            simp only [Bool.or_eq_true, beq_iff_eq, beq_eq_false_iff_ne]
            omega
          rw [e9] at hz
          subst hz
          exact hQ
theorem c_isL {a : Nat} {z : Int32} (ha : a < 256) (hz : bI (isL a) = z) (hQ : Q (some (.int z)) M) : am_wp X (d + 1) 59 0 [.int (Int32.ofNat a)] [] M Q := by
  have h9 : wnF (Int32.ofNat a) 97 122 = z := (wn_b (lo := 97) (hi := 122) (by omega) (by decide) (by decide)).trans hz
  have hzz : 1 = 0 ∨ z = 0 ∨ z = 1 := by
    subst hz
    cases isL a
    · exact Or.inr (Or.inl rfl)
    · exact Or.inr (Or.inr rfl)
  refine wi_iload_n rfl rfl ?_
  refine wi_bipush (x := 97) rfl rfl ?_
  refine wi_bipush (x := 122) rfl rfl ?_
  refine wi_callS3 rfl (by decide) (by decide) rfl rfl rfl (c_wiV h9 ?_)
  refine wi_iret rfl hzz ?_
  exact hQ
theorem c_isD {a : Nat} {z : Int32} (ha : a < 256) (hz : bI (isD a) = z) (hQ : Q (some (.int z)) M) : am_wp X (d + 1) 60 0 [.int (Int32.ofNat a)] [] M Q := by
  have h9 : wnF (Int32.ofNat a) 48 57 = z := (wn_b (lo := 48) (hi := 57) (by omega) (by decide) (by decide)).trans hz
  have hzz : 1 = 0 ∨ z = 0 ∨ z = 1 := by
    subst hz
    cases isD a
    · exact Or.inr (Or.inl rfl)
    · exact Or.inr (Or.inr rfl)
  refine wi_iload_n rfl rfl ?_
  refine wi_bipush (x := 48) rfl rfl ?_
  refine wi_bipush (x := 57) rfl rfl ?_
  refine wi_callS3 rfl (by decide) (by decide) rfl rfl rfl (c_wiV h9 ?_)
  refine wi_iret rfl hzz ?_
  exact hQ
theorem c_byteAt {mi : Nat → Nat → Int32} {k : Nat} (h26 : mi 26 1 = Int32.ofNat cnt) (hcnt : cnt ≤ 400) (hk : k < cnt) (h27 : mi 27 k = Int32.ofNat (T k)) (hQ : Q (some (.int (Int32.ofNat (T k)))) (am_shT, mrL b, mi, ml)) : am_wp X d 83 0 [.ref 26, .int (Int32.ofNat k)] [] (am_shT, mrL b, mi, ml) Q := by
  refine wi_iload_n rfl rfl ?_
  refine wi_if_lt rfl (fun h9 => absurd trivial (by exfalso; have h8 := (lt_n (a := k) (b := 0) rfl (rfl : (0 : Int32) = Int32.ofNat 0) (by omega) (by omega)).mp h9; omega)) (fun _ => ?_)
  refine wi_iload_n rfl rfl ?_
  refine wi_aload_n rfl rfl ?_
  refine wi_getIv (v := (Int32.ofNat (cnt))) rfl (kd_26 ..) h26 ?_
  refine wi_icmp_ge rfl (fun h9 => absurd trivial (by exfalso; have h8 := (le_n (a := cnt) (b := k) rfl rfl (by omega) (by omega)).mp h9; omega)) (fun _ => ?_)
  refine wi_aload_n rfl rfl ?_
  refine wi_getR rfl (kd_26 ..) (rd_26_0 _) ?_
  refine wi_iload_n rfl rfl ?_
  refine wn_iaload (q := k) (v := (Int32.ofNat (T k))) rfl (ln_27 ..) rfl (by omega) (by decide) (by decide) (by decide) h27 ?_
  refine wi_goto rfl ?_
  refine wi_iret rfl (Or.inl rfl) ?_
  exact hQ
theorem nt_bl {v1 : Value} (hcnt : cnt ≤ 400) (hN : N ≤ cnt) (hT : ∀ k, T k < 256) : ∀ k p (mi1 : Nat → Nat → Int32), p + k = N → mi1 26 1 = Int32.ofNat cnt → (∀ k, k < cnt → mi1 27 k = Int32.ofNat (T k)) → mi1 28 4 = Int32.ofNat N → mi1 28 5 = Int32.ofNat p → (∀ mi2 : Nat → Nat → Int32, (∀ a, a ≠ 28 → mi2 a = mi1 a) → (∀ j, j ≠ 5 → mi2 28 j = mi1 28 j) → mi2 28 5 = Int32.ofNat (rn T N isB p) → am_wp X (d + 3) 41 16 [.ref 28, v1] [] (am_shT, mrL b, mi2, ml) Q) → am_wp X (d + 3) 41 0 [.ref 28, v1] [] (am_shT, mrL b, mi1, ml) Q := by
  intro k
  induction k with
  | zero =>
    intro p mi1 hp h26 h27 h4 h5 hQ
    refine wi_aload_n rfl rfl ?_
    refine wi_getIv (v := (Int32.ofNat (p))) rfl (kd_28 ..) h5 ?_
    refine wi_aload_n rfl rfl ?_
    refine wi_getIv (v := (Int32.ofNat (N))) rfl (kd_28 ..) h4 ?_
    refine wi_icmp_ge rfl (fun _ => ?_) (fun h9 => absurd trivial (by exfalso; have h8 := (not_congr (le_n (a := N) (b := p) rfl rfl (by omega) (by omega))).mp h9; omega))
    rw [rn_end (by omega)] at hQ
    exact hQ mi1 (fun _ _ => rfl) (fun _ _ => rfl) h5
  | succ k ih =>
    intro p mi1 hp h26 h27 h4 h5 hQ
    cases hpr : isB (T p)
    · skip
      refine wi_aload_n rfl rfl ?_
      refine wi_getIv (v := (Int32.ofNat (p))) rfl (kd_28 ..) h5 ?_
      refine wi_aload_n rfl rfl ?_
      refine wi_getIv (v := (Int32.ofNat (N))) rfl (kd_28 ..) h4 ?_
      refine wi_icmp_ge rfl (fun h9 => absurd trivial (by exfalso; have h8 := (le_n (a := N) (b := p) rfl rfl (by omega) (by omega)).mp h9; omega)) (fun _ => ?_)
      refine wi_aload_n rfl rfl ?_
      refine wi_callV0 rfl (by decide) (by decide) rfl (kd_28 ..) rfl rfl rfl ?_
      refine wi_aload_n rfl rfl ?_
      refine wi_getR rfl (kd_28 ..) (rd_28_2 _) ?_
      refine wi_aload_n rfl rfl ?_
      refine wi_getIv (v := (Int32.ofNat (p))) rfl (kd_28 ..) h5 ?_
      refine wi_callV1 rfl (by decide) (by decide) rfl (kd_26 ..) rfl rfl rfl (c_byteAt h26 hcnt (by omega) (h27 _ (by omega)) ?_)
      refine wi_iret rfl (Or.inl rfl) ?_
      refine wi_callS1 rfl (by decide) (by decide) rfl rfl rfl (c_isB (hT p) (congrArg bI hpr) ?_)
      refine wi_if_eq rfl (fun _ => ?_) (fun h9 => absurd (by decide) h9)
      rw [rn_no (by omega) hpr] at hQ
      exact hQ mi1 (fun _ _ => rfl) (fun _ _ => rfl) h5
    · skip
      refine wi_aload_n rfl rfl ?_
      refine wi_getIv (v := (Int32.ofNat (p))) rfl (kd_28 ..) h5 ?_
      refine wi_aload_n rfl rfl ?_
      refine wi_getIv (v := (Int32.ofNat (N))) rfl (kd_28 ..) h4 ?_
      refine wi_icmp_ge rfl (fun h9 => absurd trivial (by exfalso; have h8 := (le_n (a := N) (b := p) rfl rfl (by omega) (by omega)).mp h9; omega)) (fun _ => ?_)
      refine wi_aload_n rfl rfl ?_
      refine wi_callV0 rfl (by decide) (by decide) rfl (kd_28 ..) rfl rfl rfl ?_
      refine wi_aload_n rfl rfl ?_
      refine wi_getR rfl (kd_28 ..) (rd_28_2 _) ?_
      refine wi_aload_n rfl rfl ?_
      refine wi_getIv (v := (Int32.ofNat (p))) rfl (kd_28 ..) h5 ?_
      refine wi_callV1 rfl (by decide) (by decide) rfl (kd_26 ..) rfl rfl rfl (c_byteAt h26 hcnt (by omega) (h27 _ (by omega)) ?_)
      refine wi_iret rfl (Or.inl rfl) ?_
      refine wi_callS1 rfl (by decide) (by decide) rfl rfl rfl (c_isB (hT p) (congrArg bI hpr) ?_)
      refine wi_if_eq rfl (fun h9 => absurd h9 (by decide)) (fun _ => ?_)
      refine wi_aload_n rfl rfl ?_
      refine wi_dup rfl rfl ?_
      refine wi_getIv (v := (Int32.ofNat (p))) rfl (kd_28 ..) h5 ?_
      refine wi_iconst (x := 1) rfl rfl ?_
      refine wn_iadd (z := (Int32.ofNat (p + 1))) rfl (add_n (a := p) (b := 1) rfl (rfl : (1 : Int32) = Int32.ofNat 1)) ?_
      refine wi_putI rfl (kd_28 ..) ?_
      refine wi_goto rfl ?_
      rw [rn_go (by omega) hpr] at hQ
      exact ih (p + 1) (u2 mi1 28 5 (Int32.ofNat (p + 1))) (by omega) h26 h27 h4 rfl (fun mi2 k1 k2 k3 => hQ mi2 (fun a ha => (k1 a ha).trans (u2_ne ha)) (fun j hj => (k2 j hj).trans (u2_off hj)) k3)
theorem nt_le {v1 : Value} (hcnt : cnt ≤ 400) (hN : N ≤ cnt) (hT : ∀ k, T k < 256) : ∀ k p (mi1 : Nat → Nat → Int32), p + k = N → mi1 26 1 = Int32.ofNat cnt → (∀ k, k < cnt → mi1 27 k = Int32.ofNat (T k)) → mi1 28 4 = Int32.ofNat N → mi1 28 5 = Int32.ofNat p → (∀ mi2 : Nat → Nat → Int32, (∀ a, a ≠ 28 → mi2 a = mi1 a) → (∀ j, j ≠ 5 → mi2 28 j = mi1 28 j) → mi2 28 5 = Int32.ofNat (rn T N isL p) → am_wp X (d + 3) 41 95 [.ref 28, v1] [] (am_shT, mrL b, mi2, ml) Q) → am_wp X (d + 3) 41 42 [.ref 28, v1] [] (am_shT, mrL b, mi1, ml) Q := by
  intro k
  induction k with
  | zero =>
    intro p mi1 hp h26 h27 h4 h5 hQ
    refine wi_aload_n rfl rfl ?_
    refine wi_getIv (v := (Int32.ofNat (p))) rfl (kd_28 ..) h5 ?_
    refine wi_aload_n rfl rfl ?_
    refine wi_getIv (v := (Int32.ofNat (N))) rfl (kd_28 ..) h4 ?_
    refine wi_icmp_ge rfl (fun _ => ?_) (fun h9 => absurd trivial (by exfalso; have h8 := (not_congr (le_n (a := N) (b := p) rfl rfl (by omega) (by omega))).mp h9; omega))
    rw [rn_end (by omega)] at hQ
    exact hQ mi1 (fun _ _ => rfl) (fun _ _ => rfl) h5
  | succ k ih =>
    intro p mi1 hp h26 h27 h4 h5 hQ
    cases hpr : isL (T p)
    · skip
      refine wi_aload_n rfl rfl ?_
      refine wi_getIv (v := (Int32.ofNat (p))) rfl (kd_28 ..) h5 ?_
      refine wi_aload_n rfl rfl ?_
      refine wi_getIv (v := (Int32.ofNat (N))) rfl (kd_28 ..) h4 ?_
      refine wi_icmp_ge rfl (fun h9 => absurd trivial (by exfalso; have h8 := (le_n (a := N) (b := p) rfl rfl (by omega) (by omega)).mp h9; omega)) (fun _ => ?_)
      refine wi_aload_n rfl rfl ?_
      refine wi_callV0 rfl (by decide) (by decide) rfl (kd_28 ..) rfl rfl rfl ?_
      refine wi_aload_n rfl rfl ?_
      refine wi_getR rfl (kd_28 ..) (rd_28_2 _) ?_
      refine wi_aload_n rfl rfl ?_
      refine wi_getIv (v := (Int32.ofNat (p))) rfl (kd_28 ..) h5 ?_
      refine wi_callV1 rfl (by decide) (by decide) rfl (kd_26 ..) rfl rfl rfl (c_byteAt h26 hcnt (by omega) (h27 _ (by omega)) ?_)
      refine wi_iret rfl (Or.inl rfl) ?_
      refine wi_callS1 rfl (by decide) (by decide) rfl rfl rfl (c_isL (hT p) (congrArg bI hpr) ?_)
      refine wi_if_eq rfl (fun _ => ?_) (fun h9 => absurd (by decide) h9)
      rw [rn_no (by omega) hpr] at hQ
      exact hQ mi1 (fun _ _ => rfl) (fun _ _ => rfl) h5
    · skip
      refine wi_aload_n rfl rfl ?_
      refine wi_getIv (v := (Int32.ofNat (p))) rfl (kd_28 ..) h5 ?_
      refine wi_aload_n rfl rfl ?_
      refine wi_getIv (v := (Int32.ofNat (N))) rfl (kd_28 ..) h4 ?_
      refine wi_icmp_ge rfl (fun h9 => absurd trivial (by exfalso; have h8 := (le_n (a := N) (b := p) rfl rfl (by omega) (by omega)).mp h9; omega)) (fun _ => ?_)
      refine wi_aload_n rfl rfl ?_
      refine wi_callV0 rfl (by decide) (by decide) rfl (kd_28 ..) rfl rfl rfl ?_
      refine wi_aload_n rfl rfl ?_
      refine wi_getR rfl (kd_28 ..) (rd_28_2 _) ?_
      refine wi_aload_n rfl rfl ?_
      refine wi_getIv (v := (Int32.ofNat (p))) rfl (kd_28 ..) h5 ?_
      refine wi_callV1 rfl (by decide) (by decide) rfl (kd_26 ..) rfl rfl rfl (c_byteAt h26 hcnt (by omega) (h27 _ (by omega)) ?_)
      refine wi_iret rfl (Or.inl rfl) ?_
      refine wi_callS1 rfl (by decide) (by decide) rfl rfl rfl (c_isL (hT p) (congrArg bI hpr) ?_)
      refine wi_if_eq rfl (fun h9 => absurd h9 (by decide)) (fun _ => ?_)
      refine wi_aload_n rfl rfl ?_
      refine wi_dup rfl rfl ?_
      refine wi_getIv (v := (Int32.ofNat (p))) rfl (kd_28 ..) h5 ?_
      refine wi_iconst (x := 1) rfl rfl ?_
      refine wn_iadd (z := (Int32.ofNat (p + 1))) rfl (add_n (a := p) (b := 1) rfl (rfl : (1 : Int32) = Int32.ofNat 1)) ?_
      refine wi_putI rfl (kd_28 ..) ?_
      refine wi_goto rfl ?_
      rw [rn_go (by omega) hpr] at hQ
      exact ih (p + 1) (u2 mi1 28 5 (Int32.ofNat (p + 1))) (by omega) h26 h27 h4 rfl (fun mi2 k1 k2 k3 => hQ mi2 (fun a ha => (k1 a ha).trans (u2_ne ha)) (fun j hj => (k2 j hj).trans (u2_off hj)) k3)
theorem nt_di {v1 : Value} (hcnt : cnt ≤ 400) (hN : N ≤ cnt) (hT : ∀ k, T k < 256) : ∀ k p (mi1 : Nat → Nat → Int32), p + k = N → mi1 26 1 = Int32.ofNat cnt → (∀ k, k < cnt → mi1 27 k = Int32.ofNat (T k)) → mi1 28 4 = Int32.ofNat N → mi1 28 5 = Int32.ofNat p → (∀ mi2 : Nat → Nat → Int32, (∀ a, a ≠ 28 → mi2 a = mi1 a) → (∀ j, j ≠ 5 → mi2 28 j = mi1 28 j) → mi2 28 5 = Int32.ofNat (rn T N isD p) → am_wp X (d + 3) 41 77 [.ref 28, v1] [] (am_shT, mrL b, mi2, ml) Q) → am_wp X (d + 3) 41 61 [.ref 28, v1] [] (am_shT, mrL b, mi1, ml) Q := by
  intro k
  induction k with
  | zero =>
    intro p mi1 hp h26 h27 h4 h5 hQ
    refine wi_aload_n rfl rfl ?_
    refine wi_getIv (v := (Int32.ofNat (p))) rfl (kd_28 ..) h5 ?_
    refine wi_aload_n rfl rfl ?_
    refine wi_getIv (v := (Int32.ofNat (N))) rfl (kd_28 ..) h4 ?_
    refine wi_icmp_ge rfl (fun _ => ?_) (fun h9 => absurd trivial (by exfalso; have h8 := (not_congr (le_n (a := N) (b := p) rfl rfl (by omega) (by omega))).mp h9; omega))
    rw [rn_end (by omega)] at hQ
    exact hQ mi1 (fun _ _ => rfl) (fun _ _ => rfl) h5
  | succ k ih =>
    intro p mi1 hp h26 h27 h4 h5 hQ
    cases hpr : isD (T p)
    · skip
      refine wi_aload_n rfl rfl ?_
      refine wi_getIv (v := (Int32.ofNat (p))) rfl (kd_28 ..) h5 ?_
      refine wi_aload_n rfl rfl ?_
      refine wi_getIv (v := (Int32.ofNat (N))) rfl (kd_28 ..) h4 ?_
      refine wi_icmp_ge rfl (fun h9 => absurd trivial (by exfalso; have h8 := (le_n (a := N) (b := p) rfl rfl (by omega) (by omega)).mp h9; omega)) (fun _ => ?_)
      refine wi_aload_n rfl rfl ?_
      refine wi_callV0 rfl (by decide) (by decide) rfl (kd_28 ..) rfl rfl rfl ?_
      refine wi_aload_n rfl rfl ?_
      refine wi_getR rfl (kd_28 ..) (rd_28_2 _) ?_
      refine wi_aload_n rfl rfl ?_
      refine wi_getIv (v := (Int32.ofNat (p))) rfl (kd_28 ..) h5 ?_
      refine wi_callV1 rfl (by decide) (by decide) rfl (kd_26 ..) rfl rfl rfl (c_byteAt h26 hcnt (by omega) (h27 _ (by omega)) ?_)
      refine wi_iret rfl (Or.inl rfl) ?_
      refine wi_callS1 rfl (by decide) (by decide) rfl rfl rfl (c_isD (hT p) (congrArg bI hpr) ?_)
      refine wi_if_eq rfl (fun _ => ?_) (fun h9 => absurd (by decide) h9)
      rw [rn_no (by omega) hpr] at hQ
      exact hQ mi1 (fun _ _ => rfl) (fun _ _ => rfl) h5
    · skip
      refine wi_aload_n rfl rfl ?_
      refine wi_getIv (v := (Int32.ofNat (p))) rfl (kd_28 ..) h5 ?_
      refine wi_aload_n rfl rfl ?_
      refine wi_getIv (v := (Int32.ofNat (N))) rfl (kd_28 ..) h4 ?_
      refine wi_icmp_ge rfl (fun h9 => absurd trivial (by exfalso; have h8 := (le_n (a := N) (b := p) rfl rfl (by omega) (by omega)).mp h9; omega)) (fun _ => ?_)
      refine wi_aload_n rfl rfl ?_
      refine wi_callV0 rfl (by decide) (by decide) rfl (kd_28 ..) rfl rfl rfl ?_
      refine wi_aload_n rfl rfl ?_
      refine wi_getR rfl (kd_28 ..) (rd_28_2 _) ?_
      refine wi_aload_n rfl rfl ?_
      refine wi_getIv (v := (Int32.ofNat (p))) rfl (kd_28 ..) h5 ?_
      refine wi_callV1 rfl (by decide) (by decide) rfl (kd_26 ..) rfl rfl rfl (c_byteAt h26 hcnt (by omega) (h27 _ (by omega)) ?_)
      refine wi_iret rfl (Or.inl rfl) ?_
      refine wi_callS1 rfl (by decide) (by decide) rfl rfl rfl (c_isD (hT p) (congrArg bI hpr) ?_)
      refine wi_if_eq rfl (fun h9 => absurd h9 (by decide)) (fun _ => ?_)
      refine wi_aload_n rfl rfl ?_
      refine wi_dup rfl rfl ?_
      refine wi_getIv (v := (Int32.ofNat (p))) rfl (kd_28 ..) h5 ?_
      refine wi_iconst (x := 1) rfl rfl ?_
      refine wn_iadd (z := (Int32.ofNat (p + 1))) rfl (add_n (a := p) (b := 1) rfl (rfl : (1 : Int32) = Int32.ofNat 1)) ?_
      refine wi_putI rfl (kd_28 ..) ?_
      refine wi_goto rfl ?_
      rw [rn_go (by omega) hpr] at hQ
      exact ih (p + 1) (u2 mi1 28 5 (Int32.ofNat (p + 1))) (by omega) h26 h27 h4 rfl (fun mi2 k1 k2 k3 => hQ mi2 (fun a ha => (k1 a ha).trans (u2_ne ha)) (fun j hj => (k2 j hj).trans (u2_off hj)) k3)
theorem c_nextTok {mi : Nat → Nat → Int32} {p s : Nat} (hcnt : cnt ≤ 400) (hN : N ≤ cnt) (hT : ∀ k, T k < 256) (h26 : mi 26 1 = Int32.ofNat cnt) (h27 : ∀ k, k < cnt → mi 27 k = Int32.ofNat (T k)) (h4 : mi 28 4 = Int32.ofNat N) (h5 : mi 28 5 = Int32.ofNat p) (hp : p ≤ N) (hs : s = rn T N isB p)
    (hQ0 : N ≤ s → ∀ mi2 : Nat → Nat → Int32, (∀ a, a ≠ 28 → mi2 a = mi a) → (∀ j, j ≠ 5 → j ≠ 6 → j ≠ 7 → mi2 28 j = mi 28 j) → Q (some (.int 0)) (am_shT, mrL b, mi2, ml))
    (hQ1 : s < N → ∀ mi2 : Nat → Nat → Int32, (∀ a, a ≠ 28 → mi2 a = mi a) → (∀ j, j ≠ 5 → j ≠ 6 → j ≠ 7 → mi2 28 j = mi 28 j) → mi2 28 5 = Int32.ofNat (enT T N s) → mi2 28 6 = Int32.ofNat s → mi2 28 7 = Int32.ofNat (kdT T N s) → Q (some (.int 1)) (am_shT, mrL b, mi2, ml)) : am_wp X (d + 3) 41 0 [.ref 28, .retAddr 0] [] (am_shT, mrL b, mi, ml) Q := by
  have hsb := rn_b (T := T) (N := N) (pr := isB) (p := p) hp
  rw [← hs] at hsb
  rcases Nat.lt_or_ge s N with hsN | hsN
  rotate_left
  · skip
    refine nt_bl hcnt hN hT (N - p) p mi (by omega) h26 h27 h4 h5 (fun mi2 k1 k2 k3 => ?_)
    have g26 : mi2 26 1 = Int32.ofNat cnt := by rw [k1 26 (by decide)]; exact h26
    have g27 : ∀ k, k < cnt → mi2 27 k = Int32.ofNat (T k) := by rw [k1 27 (by decide)]; exact h27
    have g4 : mi2 28 4 = Int32.ofNat N := by rw [k2 4 (by decide)]; exact h4
    rw [← hs] at k3
    refine wi_aload_n rfl rfl ?_
    refine wi_getIv (v := (Int32.ofNat (s))) rfl (kd_28 ..) k3 ?_
    refine wi_aload_n rfl rfl ?_
    refine wi_getIv (v := (Int32.ofNat (N))) rfl (kd_28 ..) g4 ?_
    refine wi_icmp_lt rfl (fun h9 => absurd trivial (by exfalso; have h8 := (lt_n (a := s) (b := N) rfl rfl (by omega) (by omega)).mp h9; omega)) (fun _ => ?_)
    refine wi_iconst (x := 0) rfl rfl ?_
    refine wi_iret rfl (by decide) ?_
    exact hQ0 hsN mi2 k1 (fun j j1 j2 j3 => k2 j j1)
  cases hL : isL (T s)
  rotate_left
  · have hle := rn_b (T := T) (N := N) (pr := isL) (p := s) (by omega)
    refine nt_bl hcnt hN hT (N - p) p mi (by omega) h26 h27 h4 h5 (fun mi2 k1 k2 k3 => ?_)
    have g26 : mi2 26 1 = Int32.ofNat cnt := by rw [k1 26 (by decide)]; exact h26
    have g27 : ∀ k, k < cnt → mi2 27 k = Int32.ofNat (T k) := by rw [k1 27 (by decide)]; exact h27
    have g4 : mi2 28 4 = Int32.ofNat N := by rw [k2 4 (by decide)]; exact h4
    rw [← hs] at k3
    refine wi_aload_n rfl rfl ?_
    refine wi_getIv (v := (Int32.ofNat (s))) rfl (kd_28 ..) k3 ?_
    refine wi_aload_n rfl rfl ?_
    refine wi_getIv (v := (Int32.ofNat (N))) rfl (kd_28 ..) g4 ?_
    refine wi_icmp_lt rfl (fun _ => ?_) (fun h9 => absurd trivial (by exfalso; have h8 := (not_congr (lt_n (a := s) (b := N) rfl rfl (by omega) (by omega))).mp h9; omega))
    refine wi_aload_n rfl rfl ?_
    refine wi_aload_n rfl rfl ?_
    refine wi_getIv (v := (Int32.ofNat (s))) rfl (kd_28 ..) k3 ?_
    refine wi_putI rfl (kd_28 ..) ?_
    refine wi_aload_n rfl rfl ?_
    refine wi_callV0 rfl (by decide) (by decide) rfl (kd_28 ..) rfl rfl rfl ?_
    refine wi_aload_n rfl rfl ?_
    refine wi_getR rfl (kd_28 ..) (rd_28_2 _) ?_
    refine wi_aload_n rfl rfl ?_
    refine wi_getIv (v := (Int32.ofNat (s))) rfl (kd_28 ..) k3 ?_
    refine wi_callV1 rfl (by decide) (by decide) rfl (kd_26 ..) rfl rfl rfl (c_byteAt g26 hcnt (by omega) (g27 _ (by omega)) ?_)
    refine wi_iret rfl (Or.inl rfl) ?_
    refine wi_istore_n (l' := [.ref 28, .int (Int32.ofNat (T s))]) rfl (Nat.le_of_ble_eq_true rfl) rfl rfl ?_
    refine wi_aload_n rfl rfl ?_
    refine wi_dup rfl rfl ?_
    refine wi_getIv (v := (Int32.ofNat (s))) rfl (kd_28 ..) k3 ?_
    refine wi_iconst (x := 1) rfl rfl ?_
    refine wn_iadd (z := (Int32.ofNat (s + 1))) rfl (add_n (a := s) (b := 1) rfl (rfl : (1 : Int32) = Int32.ofNat 1)) ?_
    refine wi_putI rfl (kd_28 ..) ?_
    refine wi_iload_n rfl rfl ?_
    refine wi_callS1 rfl (by decide) (by decide) rfl rfl rfl (c_isL (hT s) (congrArg bI hL) ?_)
    refine wi_if_eq rfl (fun h9 => absurd h9 (by decide)) (fun _ => ?_)
    refine wi_aload_n rfl rfl ?_
    refine wi_iconst (x := 1) rfl rfl ?_
    refine wi_putI rfl (kd_28 ..) ?_
    refine nt_le hcnt hN hT (N - (s + 1)) (s + 1) _ (by omega) g26 g27 g4 rfl (fun mi3 q1 q2 q3 => ?_)
    rw [← rn_go (by omega) hL] at q3
    refine wi_iconst (x := 1) rfl rfl ?_
    refine wi_iret rfl (by decide) ?_
    have ek : kdT T N s = 1 := if_pos hL
    have ee : enT T N s = rn T N isL s := if_pos hL
    rw [ek, ee] at hQ1
    refine hQ1 hsN mi3 (fun a ha => ?_) (fun j j1 j2 j3 => ?_) q3 (q2 6 (by decide)) (q2 7 (by decide))
    · rw [q1 a ha, u2_ne ha, u2_ne ha, u2_ne ha]
      exact k1 a ha
    · rw [q2 j j1, u2_off j3, u2_off j1, u2_off j2]
      exact k2 j j1
  have hL0 : ¬ isL (T s) = true := by rw [hL]; decide
  cases hD : isD (T s)
  rotate_left
  · have hde := rn_b (T := T) (N := N) (pr := isD) (p := s) (by omega)
    by_cases h3 : rn T N isD s - s ≤ 3
    · skip
      refine nt_bl hcnt hN hT (N - p) p mi (by omega) h26 h27 h4 h5 (fun mi2 k1 k2 k3 => ?_)
      have g26 : mi2 26 1 = Int32.ofNat cnt := by rw [k1 26 (by decide)]; exact h26
      have g27 : ∀ k, k < cnt → mi2 27 k = Int32.ofNat (T k) := by rw [k1 27 (by decide)]; exact h27
      have g4 : mi2 28 4 = Int32.ofNat N := by rw [k2 4 (by decide)]; exact h4
      rw [← hs] at k3
      refine wi_aload_n rfl rfl ?_
      refine wi_getIv (v := (Int32.ofNat (s))) rfl (kd_28 ..) k3 ?_
      refine wi_aload_n rfl rfl ?_
      refine wi_getIv (v := (Int32.ofNat (N))) rfl (kd_28 ..) g4 ?_
      refine wi_icmp_lt rfl (fun _ => ?_) (fun h9 => absurd trivial (by exfalso; have h8 := (not_congr (lt_n (a := s) (b := N) rfl rfl (by omega) (by omega))).mp h9; omega))
      refine wi_aload_n rfl rfl ?_
      refine wi_aload_n rfl rfl ?_
      refine wi_getIv (v := (Int32.ofNat (s))) rfl (kd_28 ..) k3 ?_
      refine wi_putI rfl (kd_28 ..) ?_
      refine wi_aload_n rfl rfl ?_
      refine wi_callV0 rfl (by decide) (by decide) rfl (kd_28 ..) rfl rfl rfl ?_
      refine wi_aload_n rfl rfl ?_
      refine wi_getR rfl (kd_28 ..) (rd_28_2 _) ?_
      refine wi_aload_n rfl rfl ?_
      refine wi_getIv (v := (Int32.ofNat (s))) rfl (kd_28 ..) k3 ?_
      refine wi_callV1 rfl (by decide) (by decide) rfl (kd_26 ..) rfl rfl rfl (c_byteAt g26 hcnt (by omega) (g27 _ (by omega)) ?_)
      refine wi_iret rfl (Or.inl rfl) ?_
      refine wi_istore_n (l' := [.ref 28, .int (Int32.ofNat (T s))]) rfl (Nat.le_of_ble_eq_true rfl) rfl rfl ?_
      refine wi_aload_n rfl rfl ?_
      refine wi_dup rfl rfl ?_
      refine wi_getIv (v := (Int32.ofNat (s))) rfl (kd_28 ..) k3 ?_
      refine wi_iconst (x := 1) rfl rfl ?_
      refine wn_iadd (z := (Int32.ofNat (s + 1))) rfl (add_n (a := s) (b := 1) rfl (rfl : (1 : Int32) = Int32.ofNat 1)) ?_
      refine wi_putI rfl (kd_28 ..) ?_
      refine wi_iload_n rfl rfl ?_
      refine wi_callS1 rfl (by decide) (by decide) rfl rfl rfl (c_isL (hT s) (congrArg bI hL) ?_)
      refine wi_if_eq rfl (fun _ => ?_) (fun h9 => absurd (by decide) h9)
      refine wi_iload_n rfl rfl ?_
      refine wi_callS1 rfl (by decide) (by decide) rfl rfl rfl (c_isD (hT s) (congrArg bI hD) ?_)
      refine wi_if_eq rfl (fun h9 => absurd h9 (by decide)) (fun _ => ?_)
      refine nt_di hcnt hN hT (N - (s + 1)) (s + 1) _ (by omega) g26 g27 g4 rfl (fun mi3 q1 q2 q3 => ?_)
      rw [← rn_go (by omega) hD] at q3
      refine wi_aload_n rfl rfl ?_
      refine wi_aload_n rfl rfl ?_
      refine wi_callV0 rfl (by decide) (by decide) rfl (kd_28 ..) rfl rfl rfl ?_
      refine wi_aload_n rfl rfl ?_
      refine wi_getIv (v := Int32.ofNat (rn T N isD s)) rfl (kd_28 ..) q3 ?_
      refine wi_aload_n rfl rfl ?_
      refine wi_getIv (v := Int32.ofNat s) rfl (kd_28 ..) (q2 6 (by decide)) ?_
      refine wn_isub (z := (Int32.ofNat (rn T N isD s - s))) rfl (sub_n (a := rn T N isD s) (b := s) rfl rfl (by omega)) ?_
      refine wi_iret rfl (Or.inl rfl) ?_
      refine wi_iconst (x := 3) rfl rfl ?_
      refine wi_icmp_gt rfl (fun h9 => absurd trivial (by exfalso; have h8 := (lt_n (a := 3) (b := rn T N isD s - s) (rfl : (3 : Int32) = Int32.ofNat 3) rfl (by omega) (by omega)).mp h9; omega)) (fun _ => ?_)
      refine wi_iconst (x := 2) rfl rfl ?_
      refine wi_goto rfl ?_
      refine wi_putI rfl (kd_28 ..) ?_
      refine wi_goto rfl ?_
      refine wi_iconst (x := 1) rfl rfl ?_
      refine wi_iret rfl (by decide) ?_
      have ek : kdT T N s = 2 := (if_neg hL0).trans ((if_pos hD).trans (if_pos (by omega)))
      have ee : enT T N s = rn T N isD s := (if_neg hL0).trans (if_pos hD)
      rw [ek, ee] at hQ1
      refine hQ1 hsN _ (fun a ha => ?_) (fun j j1 j2 j3 => ?_) (u2_off (by decide) |>.trans q3) (u2_off (by decide) |>.trans (q2 6 (by decide))) u2_same
      · rw [u2_ne ha, q1 a ha, u2_ne ha, u2_ne ha]
        exact k1 a ha
      · rw [u2_off j3, q2 j j1, u2_off j1, u2_off j2]
        exact k2 j j1
    · skip
      refine nt_bl hcnt hN hT (N - p) p mi (by omega) h26 h27 h4 h5 (fun mi2 k1 k2 k3 => ?_)
      have g26 : mi2 26 1 = Int32.ofNat cnt := by rw [k1 26 (by decide)]; exact h26
      have g27 : ∀ k, k < cnt → mi2 27 k = Int32.ofNat (T k) := by rw [k1 27 (by decide)]; exact h27
      have g4 : mi2 28 4 = Int32.ofNat N := by rw [k2 4 (by decide)]; exact h4
      rw [← hs] at k3
      refine wi_aload_n rfl rfl ?_
      refine wi_getIv (v := (Int32.ofNat (s))) rfl (kd_28 ..) k3 ?_
      refine wi_aload_n rfl rfl ?_
      refine wi_getIv (v := (Int32.ofNat (N))) rfl (kd_28 ..) g4 ?_
      refine wi_icmp_lt rfl (fun _ => ?_) (fun h9 => absurd trivial (by exfalso; have h8 := (not_congr (lt_n (a := s) (b := N) rfl rfl (by omega) (by omega))).mp h9; omega))
      refine wi_aload_n rfl rfl ?_
      refine wi_aload_n rfl rfl ?_
      refine wi_getIv (v := (Int32.ofNat (s))) rfl (kd_28 ..) k3 ?_
      refine wi_putI rfl (kd_28 ..) ?_
      refine wi_aload_n rfl rfl ?_
      refine wi_callV0 rfl (by decide) (by decide) rfl (kd_28 ..) rfl rfl rfl ?_
      refine wi_aload_n rfl rfl ?_
      refine wi_getR rfl (kd_28 ..) (rd_28_2 _) ?_
      refine wi_aload_n rfl rfl ?_
      refine wi_getIv (v := (Int32.ofNat (s))) rfl (kd_28 ..) k3 ?_
      refine wi_callV1 rfl (by decide) (by decide) rfl (kd_26 ..) rfl rfl rfl (c_byteAt g26 hcnt (by omega) (g27 _ (by omega)) ?_)
      refine wi_iret rfl (Or.inl rfl) ?_
      refine wi_istore_n (l' := [.ref 28, .int (Int32.ofNat (T s))]) rfl (Nat.le_of_ble_eq_true rfl) rfl rfl ?_
      refine wi_aload_n rfl rfl ?_
      refine wi_dup rfl rfl ?_
      refine wi_getIv (v := (Int32.ofNat (s))) rfl (kd_28 ..) k3 ?_
      refine wi_iconst (x := 1) rfl rfl ?_
      refine wn_iadd (z := (Int32.ofNat (s + 1))) rfl (add_n (a := s) (b := 1) rfl (rfl : (1 : Int32) = Int32.ofNat 1)) ?_
      refine wi_putI rfl (kd_28 ..) ?_
      refine wi_iload_n rfl rfl ?_
      refine wi_callS1 rfl (by decide) (by decide) rfl rfl rfl (c_isL (hT s) (congrArg bI hL) ?_)
      refine wi_if_eq rfl (fun _ => ?_) (fun h9 => absurd (by decide) h9)
      refine wi_iload_n rfl rfl ?_
      refine wi_callS1 rfl (by decide) (by decide) rfl rfl rfl (c_isD (hT s) (congrArg bI hD) ?_)
      refine wi_if_eq rfl (fun h9 => absurd h9 (by decide)) (fun _ => ?_)
      refine nt_di hcnt hN hT (N - (s + 1)) (s + 1) _ (by omega) g26 g27 g4 rfl (fun mi3 q1 q2 q3 => ?_)
      rw [← rn_go (by omega) hD] at q3
      refine wi_aload_n rfl rfl ?_
      refine wi_aload_n rfl rfl ?_
      refine wi_callV0 rfl (by decide) (by decide) rfl (kd_28 ..) rfl rfl rfl ?_
      refine wi_aload_n rfl rfl ?_
      refine wi_getIv (v := Int32.ofNat (rn T N isD s)) rfl (kd_28 ..) q3 ?_
      refine wi_aload_n rfl rfl ?_
      refine wi_getIv (v := Int32.ofNat s) rfl (kd_28 ..) (q2 6 (by decide)) ?_
      refine wn_isub (z := (Int32.ofNat (rn T N isD s - s))) rfl (sub_n (a := rn T N isD s) (b := s) rfl rfl (by omega)) ?_
      refine wi_iret rfl (Or.inl rfl) ?_
      refine wi_iconst (x := 3) rfl rfl ?_
      refine wi_icmp_gt rfl (fun _ => ?_) (fun h9 => absurd trivial (by exfalso; have h8 := (not_congr (lt_n (a := 3) (b := rn T N isD s - s) (rfl : (3 : Int32) = Int32.ofNat 3) rfl (by omega) (by omega))).mp h9; omega))
      refine wi_iconst (x := 0) rfl rfl ?_
      refine wi_putI rfl (kd_28 ..) ?_
      refine wi_goto rfl ?_
      refine wi_iconst (x := 1) rfl rfl ?_
      refine wi_iret rfl (by decide) ?_
      have ek : kdT T N s = 0 := (if_neg hL0).trans ((if_pos hD).trans (if_neg (by omega)))
      have ee : enT T N s = rn T N isD s := (if_neg hL0).trans (if_pos hD)
      rw [ek, ee] at hQ1
      refine hQ1 hsN _ (fun a ha => ?_) (fun j j1 j2 j3 => ?_) (u2_off (by decide) |>.trans q3) (u2_off (by decide) |>.trans (q2 6 (by decide))) u2_same
      · rw [u2_ne ha, q1 a ha, u2_ne ha, u2_ne ha]
        exact k1 a ha
      · rw [u2_off j3, q2 j j1, u2_off j1, u2_off j2]
        exact k2 j j1
  have hD0 : ¬ isD (T s) = true := by rw [hD]; decide
  cases hG : isG (T s)
  · have hG0 : ¬ isG (T s) = true := by rw [hG]; decide
    refine nt_bl hcnt hN hT (N - p) p mi (by omega) h26 h27 h4 h5 (fun mi2 k1 k2 k3 => ?_)
    have g26 : mi2 26 1 = Int32.ofNat cnt := by rw [k1 26 (by decide)]; exact h26
    have g27 : ∀ k, k < cnt → mi2 27 k = Int32.ofNat (T k) := by rw [k1 27 (by decide)]; exact h27
    have g4 : mi2 28 4 = Int32.ofNat N := by rw [k2 4 (by decide)]; exact h4
    rw [← hs] at k3
    refine wi_aload_n rfl rfl ?_
    refine wi_getIv (v := (Int32.ofNat (s))) rfl (kd_28 ..) k3 ?_
    refine wi_aload_n rfl rfl ?_
    refine wi_getIv (v := (Int32.ofNat (N))) rfl (kd_28 ..) g4 ?_
    refine wi_icmp_lt rfl (fun _ => ?_) (fun h9 => absurd trivial (by exfalso; have h8 := (not_congr (lt_n (a := s) (b := N) rfl rfl (by omega) (by omega))).mp h9; omega))
    refine wi_aload_n rfl rfl ?_
    refine wi_aload_n rfl rfl ?_
    refine wi_getIv (v := (Int32.ofNat (s))) rfl (kd_28 ..) k3 ?_
    refine wi_putI rfl (kd_28 ..) ?_
    refine wi_aload_n rfl rfl ?_
    refine wi_callV0 rfl (by decide) (by decide) rfl (kd_28 ..) rfl rfl rfl ?_
    refine wi_aload_n rfl rfl ?_
    refine wi_getR rfl (kd_28 ..) (rd_28_2 _) ?_
    refine wi_aload_n rfl rfl ?_
    refine wi_getIv (v := (Int32.ofNat (s))) rfl (kd_28 ..) k3 ?_
    refine wi_callV1 rfl (by decide) (by decide) rfl (kd_26 ..) rfl rfl rfl (c_byteAt g26 hcnt (by omega) (g27 _ (by omega)) ?_)
    refine wi_iret rfl (Or.inl rfl) ?_
    refine wi_istore_n (l' := [.ref 28, .int (Int32.ofNat (T s))]) rfl (Nat.le_of_ble_eq_true rfl) rfl rfl ?_
    refine wi_aload_n rfl rfl ?_
    refine wi_dup rfl rfl ?_
    refine wi_getIv (v := (Int32.ofNat (s))) rfl (kd_28 ..) k3 ?_
    refine wi_iconst (x := 1) rfl rfl ?_
    refine wn_iadd (z := (Int32.ofNat (s + 1))) rfl (add_n (a := s) (b := 1) rfl (rfl : (1 : Int32) = Int32.ofNat 1)) ?_
    refine wi_putI rfl (kd_28 ..) ?_
    refine wi_iload_n rfl rfl ?_
    refine wi_callS1 rfl (by decide) (by decide) rfl rfl rfl (c_isL (hT s) (congrArg bI hL) ?_)
    refine wi_if_eq rfl (fun _ => ?_) (fun h9 => absurd (by decide) h9)
    refine wi_iload_n rfl rfl ?_
    refine wi_callS1 rfl (by decide) (by decide) rfl rfl rfl (c_isD (hT s) (congrArg bI hD) ?_)
    refine wi_if_eq rfl (fun _ => ?_) (fun h9 => absurd (by decide) h9)
    refine wi_aload_n rfl rfl ?_
    refine wi_iload_n rfl rfl ?_
    refine wi_callS1 rfl (by decide) (by decide) rfl rfl rfl (c_isG (hT s) (congrArg bI hG) ?_)
    refine wi_if_eq rfl (fun _ => ?_) (fun h9 => absurd (by decide) h9)
    refine wi_iconst (x := 0) rfl rfl ?_
    refine wi_putI rfl (kd_28 ..) ?_
    refine wi_iconst (x := 1) rfl rfl ?_
    refine wi_iret rfl (by decide) ?_
    have ek : kdT T N s = 0 := (if_neg hL0).trans ((if_neg hD0).trans (if_neg hG0))
    have ee : enT T N s = s + 1 := (if_neg hL0).trans (if_neg hD0)
    rw [ek, ee] at hQ1
    refine hQ1 hsN _ (fun a ha => ?_) (fun j j1 j2 j3 => ?_) rfl rfl rfl
    · rw [u2_ne ha, u2_ne ha, u2_ne ha]
      exact k1 a ha
    · rw [u2_off j3, u2_off j1, u2_off j2]
      exact k2 j j1
  · skip
    refine nt_bl hcnt hN hT (N - p) p mi (by omega) h26 h27 h4 h5 (fun mi2 k1 k2 k3 => ?_)
    have g26 : mi2 26 1 = Int32.ofNat cnt := by rw [k1 26 (by decide)]; exact h26
    have g27 : ∀ k, k < cnt → mi2 27 k = Int32.ofNat (T k) := by rw [k1 27 (by decide)]; exact h27
    have g4 : mi2 28 4 = Int32.ofNat N := by rw [k2 4 (by decide)]; exact h4
    rw [← hs] at k3
    refine wi_aload_n rfl rfl ?_
    refine wi_getIv (v := (Int32.ofNat (s))) rfl (kd_28 ..) k3 ?_
    refine wi_aload_n rfl rfl ?_
    refine wi_getIv (v := (Int32.ofNat (N))) rfl (kd_28 ..) g4 ?_
    refine wi_icmp_lt rfl (fun _ => ?_) (fun h9 => absurd trivial (by exfalso; have h8 := (not_congr (lt_n (a := s) (b := N) rfl rfl (by omega) (by omega))).mp h9; omega))
    refine wi_aload_n rfl rfl ?_
    refine wi_aload_n rfl rfl ?_
    refine wi_getIv (v := (Int32.ofNat (s))) rfl (kd_28 ..) k3 ?_
    refine wi_putI rfl (kd_28 ..) ?_
    refine wi_aload_n rfl rfl ?_
    refine wi_callV0 rfl (by decide) (by decide) rfl (kd_28 ..) rfl rfl rfl ?_
    refine wi_aload_n rfl rfl ?_
    refine wi_getR rfl (kd_28 ..) (rd_28_2 _) ?_
    refine wi_aload_n rfl rfl ?_
    refine wi_getIv (v := (Int32.ofNat (s))) rfl (kd_28 ..) k3 ?_
    refine wi_callV1 rfl (by decide) (by decide) rfl (kd_26 ..) rfl rfl rfl (c_byteAt g26 hcnt (by omega) (g27 _ (by omega)) ?_)
    refine wi_iret rfl (Or.inl rfl) ?_
    refine wi_istore_n (l' := [.ref 28, .int (Int32.ofNat (T s))]) rfl (Nat.le_of_ble_eq_true rfl) rfl rfl ?_
    refine wi_aload_n rfl rfl ?_
    refine wi_dup rfl rfl ?_
    refine wi_getIv (v := (Int32.ofNat (s))) rfl (kd_28 ..) k3 ?_
    refine wi_iconst (x := 1) rfl rfl ?_
    refine wn_iadd (z := (Int32.ofNat (s + 1))) rfl (add_n (a := s) (b := 1) rfl (rfl : (1 : Int32) = Int32.ofNat 1)) ?_
    refine wi_putI rfl (kd_28 ..) ?_
    refine wi_iload_n rfl rfl ?_
    refine wi_callS1 rfl (by decide) (by decide) rfl rfl rfl (c_isL (hT s) (congrArg bI hL) ?_)
    refine wi_if_eq rfl (fun _ => ?_) (fun h9 => absurd (by decide) h9)
    refine wi_iload_n rfl rfl ?_
    refine wi_callS1 rfl (by decide) (by decide) rfl rfl rfl (c_isD (hT s) (congrArg bI hD) ?_)
    refine wi_if_eq rfl (fun _ => ?_) (fun h9 => absurd (by decide) h9)
    refine wi_aload_n rfl rfl ?_
    refine wi_iload_n rfl rfl ?_
    refine wi_callS1 rfl (by decide) (by decide) rfl rfl rfl (c_isG (hT s) (congrArg bI hG) ?_)
    refine wi_if_eq rfl (fun h9 => absurd h9 (by decide)) (fun _ => ?_)
    refine wi_iload_n rfl rfl ?_
    refine wi_goto rfl ?_
    refine wi_putI rfl (kd_28 ..) ?_
    refine wi_iconst (x := 1) rfl rfl ?_
    refine wi_iret rfl (by decide) ?_
    have ek : kdT T N s = T s := (if_neg hL0).trans ((if_neg hD0).trans (if_pos hG))
    have ee : enT T N s = s + 1 := (if_neg hL0).trans (if_neg hD0)
    rw [ek, ee] at hQ1
    refine hQ1 hsN _ (fun a ha => ?_) (fun j j1 j2 j3 => ?_) rfl rfl rfl
    · rw [u2_ne ha, u2_ne ha, u2_ne ha]
      exact k1 a ha
    · rw [u2_off j3, u2_off j1, u2_off j2]
      exact k2 j j1
theorem c_tokIs0 {mi : Nat → Nat → Int32} {s e kd : Nat} (hcnt : cnt ≤ 400) (hN : N ≤ cnt) (hT : ∀ k, T k < 256) (h26 : mi 26 1 = Int32.ofNat cnt) (h27 : ∀ k, k < cnt → mi 27 k = Int32.ofNat (T k)) (h5 : mi 28 5 = Int32.ofNat e) (h6 : mi 28 6 = Int32.ofNat s) (hse : s < e) (heN : e ≤ N) (h7 : mi 28 7 = Int32.ofNat kd) (hkd : kd < 256) {z : Int32} (hz : bI (decide (kd = 1 ∧ txL T s (e - s) = wWhen)) = z) (hQ : Q (some (.int z)) (am_shT, mrL b, mi, ml)) : am_wp X (d + 1) 53 0 [.ref 28, .ref 1000000, .retAddr 0] [] (am_shT, mrL b, mi, ml) Q := by
  have hb0 := hT (s + 0)
  have hb1 := hT (s + 1)
  have hb2 := hT (s + 2)
  have hb3 := hT (s + 3)
  refine wi_aload_n rfl rfl ?_
  refine wi_getIv (v := (Int32.ofNat (kd))) rfl (kd_28 ..) h7 ?_
  refine wi_iconst (x := 1) rfl rfl ?_
  refine wi_icmp_ne rfl (fun g1 => ?_) (fun g1 => ?_)
  · replace g1 := (ne_n (a := kd) (b := 1) rfl (rfl : (1 : Int32) = Int32.ofNat 1) (by omega) (by omega)).mp g1
    refine wi_iconst (x := 0) rfl rfl ?_
    refine wi_iret rfl (by decide) ?_
    have e9 : ¬ (kd = 1 ∧ txL T s (e - s) = wWhen) := fun h8 => by
      obtain ⟨h9, h10⟩ := h8
      obtain ⟨h10, h11⟩ := tx_iff.mp h10
      have h12 : e - s = 4 := h10
      omega
    rw [decide_eq_false e9] at hz
    subst hz
    exact hQ
  · replace g1 := (not_congr (ne_n (a := kd) (b := 1) rfl (rfl : (1 : Int32) = Int32.ofNat 1) (by omega) (by omega))).mp g1
    refine wi_aload_n rfl rfl ?_
    refine wi_callV0 rfl (by decide) (by decide) rfl (kd_28 ..) rfl rfl rfl ?_
    refine wi_aload_n rfl rfl ?_
    refine wi_getIv (v := (Int32.ofNat (e))) rfl (kd_28 ..) h5 ?_
    refine wi_aload_n rfl rfl ?_
    refine wi_getIv (v := (Int32.ofNat (s))) rfl (kd_28 ..) h6 ?_
    refine wn_isub (z := (Int32.ofNat (e - s))) rfl (sub_n (a := e) (b := s) rfl rfl (by omega)) ?_
    refine wi_iret rfl (Or.inl rfl) ?_
    refine wi_aload_n rfl rfl ?_
    refine wi_slen (x := 4) rfl ⟨by decide, by decide⟩ rfl rfl ?_
    refine wi_icmp_eq rfl (fun g2 => ?_) (fun g2 => ?_)
    · replace g2 := (eq_n (a := e - s) (b := 4) rfl (rfl : (4 : Int32) = Int32.ofNat 4) (by omega) (by omega)).mp g2
      refine wi_iconst (x := 0) rfl rfl ?_
      refine wi_istore_n (l' := [.ref 28, .ref 1000000, .int (0 : Int32)]) rfl (Nat.le_of_ble_eq_true rfl) rfl rfl ?_
      refine wi_iload_n rfl rfl ?_
      refine wi_aload_n rfl rfl ?_
      refine wi_slen (x := 4) rfl ⟨by decide, by decide⟩ rfl rfl ?_
      refine wi_icmp_ge rfl (fun h9 => absurd h9 (by decide)) (fun _ => ?_)
      refine wi_aload_n rfl rfl ?_
      refine wi_getR rfl (kd_28 ..) (rd_28_2 _) ?_
      refine wi_aload_n rfl rfl ?_
      refine wi_getIv (v := (Int32.ofNat (s))) rfl (kd_28 ..) h6 ?_
      refine wi_iload_n rfl rfl ?_
      refine wn_iadd (z := (Int32.ofNat (s + 0))) rfl (add_n (a := s) (b := 0) rfl (rfl : (0 : Int32) = Int32.ofNat 0)) ?_
      refine wi_callV1 rfl (by decide) (by decide) rfl (kd_26 ..) rfl rfl rfl (c_byteAt h26 hcnt (by omega) (h27 _ (by omega)) ?_)
      refine wi_aload_n rfl rfl ?_
      refine wi_iload_n rfl rfl ?_
      refine wi_chat (y := 119) rfl ⟨by decide, by decide⟩ rfl (by decide) rfl ?_
      refine wi_icmp_eq rfl (fun g3 => ?_) (fun g3 => ?_)
      · replace g3 := (eq_n (a := T (s + 0)) (b := 119) rfl (rfl : (119 : Int32) = Int32.ofNat 119) (by omega) (by omega)).mp g3
        refine wi_iinc (z := (1 : Int32)) rfl rfl rfl (by decide) rfl ?_
        refine wi_goto rfl ?_
        refine wi_iload_n rfl rfl ?_
        refine wi_aload_n rfl rfl ?_
        refine wi_slen (x := 4) rfl ⟨by decide, by decide⟩ rfl rfl ?_
        refine wi_icmp_ge rfl (fun h9 => absurd h9 (by decide)) (fun _ => ?_)
        refine wi_aload_n rfl rfl ?_
        refine wi_getR rfl (kd_28 ..) (rd_28_2 _) ?_
        refine wi_aload_n rfl rfl ?_
        refine wi_getIv (v := (Int32.ofNat (s))) rfl (kd_28 ..) h6 ?_
        refine wi_iload_n rfl rfl ?_
        refine wn_iadd (z := (Int32.ofNat (s + 1))) rfl (add_n (a := s) (b := 1) rfl (rfl : (1 : Int32) = Int32.ofNat 1)) ?_
        refine wi_callV1 rfl (by decide) (by decide) rfl (kd_26 ..) rfl rfl rfl (c_byteAt h26 hcnt (by omega) (h27 _ (by omega)) ?_)
        refine wi_aload_n rfl rfl ?_
        refine wi_iload_n rfl rfl ?_
        refine wi_chat (y := 104) rfl ⟨by decide, by decide⟩ rfl (by decide) rfl ?_
        refine wi_icmp_eq rfl (fun g4 => ?_) (fun g4 => ?_)
        · replace g4 := (eq_n (a := T (s + 1)) (b := 104) rfl (rfl : (104 : Int32) = Int32.ofNat 104) (by omega) (by omega)).mp g4
          refine wi_iinc (z := (2 : Int32)) rfl rfl rfl (by decide) rfl ?_
          refine wi_goto rfl ?_
          refine wi_iload_n rfl rfl ?_
          refine wi_aload_n rfl rfl ?_
          refine wi_slen (x := 4) rfl ⟨by decide, by decide⟩ rfl rfl ?_
          refine wi_icmp_ge rfl (fun h9 => absurd h9 (by decide)) (fun _ => ?_)
          refine wi_aload_n rfl rfl ?_
          refine wi_getR rfl (kd_28 ..) (rd_28_2 _) ?_
          refine wi_aload_n rfl rfl ?_
          refine wi_getIv (v := (Int32.ofNat (s))) rfl (kd_28 ..) h6 ?_
          refine wi_iload_n rfl rfl ?_
          refine wn_iadd (z := (Int32.ofNat (s + 2))) rfl (add_n (a := s) (b := 2) rfl (rfl : (2 : Int32) = Int32.ofNat 2)) ?_
          refine wi_callV1 rfl (by decide) (by decide) rfl (kd_26 ..) rfl rfl rfl (c_byteAt h26 hcnt (by omega) (h27 _ (by omega)) ?_)
          refine wi_aload_n rfl rfl ?_
          refine wi_iload_n rfl rfl ?_
          refine wi_chat (y := 101) rfl ⟨by decide, by decide⟩ rfl (by decide) rfl ?_
          refine wi_icmp_eq rfl (fun g5 => ?_) (fun g5 => ?_)
          · replace g5 := (eq_n (a := T (s + 2)) (b := 101) rfl (rfl : (101 : Int32) = Int32.ofNat 101) (by omega) (by omega)).mp g5
            refine wi_iinc (z := (3 : Int32)) rfl rfl rfl (by decide) rfl ?_
            refine wi_goto rfl ?_
            refine wi_iload_n rfl rfl ?_
            refine wi_aload_n rfl rfl ?_
            refine wi_slen (x := 4) rfl ⟨by decide, by decide⟩ rfl rfl ?_
            refine wi_icmp_ge rfl (fun h9 => absurd h9 (by decide)) (fun _ => ?_)
            refine wi_aload_n rfl rfl ?_
            refine wi_getR rfl (kd_28 ..) (rd_28_2 _) ?_
            refine wi_aload_n rfl rfl ?_
            refine wi_getIv (v := (Int32.ofNat (s))) rfl (kd_28 ..) h6 ?_
            refine wi_iload_n rfl rfl ?_
            refine wn_iadd (z := (Int32.ofNat (s + 3))) rfl (add_n (a := s) (b := 3) rfl (rfl : (3 : Int32) = Int32.ofNat 3)) ?_
            refine wi_callV1 rfl (by decide) (by decide) rfl (kd_26 ..) rfl rfl rfl (c_byteAt h26 hcnt (by omega) (h27 _ (by omega)) ?_)
            refine wi_aload_n rfl rfl ?_
            refine wi_iload_n rfl rfl ?_
            refine wi_chat (y := 110) rfl ⟨by decide, by decide⟩ rfl (by decide) rfl ?_
            refine wi_icmp_eq rfl (fun g6 => ?_) (fun g6 => ?_)
            · replace g6 := (eq_n (a := T (s + 3)) (b := 110) rfl (rfl : (110 : Int32) = Int32.ofNat 110) (by omega) (by omega)).mp g6
              refine wi_iinc (z := (4 : Int32)) rfl rfl rfl (by decide) rfl ?_
              refine wi_goto rfl ?_
              refine wi_iload_n rfl rfl ?_
              refine wi_aload_n rfl rfl ?_
              refine wi_slen (x := 4) rfl ⟨by decide, by decide⟩ rfl rfl ?_
              refine wi_icmp_ge rfl (fun _ => ?_) (fun h9 => absurd (by decide) h9)
              refine wi_iconst (x := 1) rfl rfl ?_
              refine wi_iret rfl (by decide) ?_
              have e9 : (kd = 1 ∧ txL T s (e - s) = wWhen) := ⟨by omega, tx_iff.mpr ⟨by show e - s = 4; omega, fun i hi => by
                have hi9 : i < 4 := by omega
                rcases i with _ | _ | _ | _ | i
                · show T (s + 0) = 119
                  omega
                · show T (s + 1) = 104
                  omega
                · show T (s + 2) = 101
                  omega
                · show T (s + 3) = 110
                  omega
                · omega⟩⟩
              rw [decide_eq_true e9] at hz
              subst hz
              exact hQ
            · replace g6 := (not_congr (eq_n (a := T (s + 3)) (b := 110) rfl (rfl : (110 : Int32) = Int32.ofNat 110) (by omega) (by omega))).mp g6
              refine wi_iconst (x := 0) rfl rfl ?_
              refine wi_iret rfl (by decide) ?_
              have e9 : ¬ (kd = 1 ∧ txL T s (e - s) = wWhen) := fun h8 => by
                obtain ⟨h9, h10⟩ := h8
                obtain ⟨h10, h11⟩ := tx_iff.mp h10
                have h12 : T (s + 3) = 110 := h11 3 (by have : e - s = 4 := h10; omega)
                omega
              rw [decide_eq_false e9] at hz
              subst hz
              exact hQ
          · replace g5 := (not_congr (eq_n (a := T (s + 2)) (b := 101) rfl (rfl : (101 : Int32) = Int32.ofNat 101) (by omega) (by omega))).mp g5
            refine wi_iconst (x := 0) rfl rfl ?_
            refine wi_iret rfl (by decide) ?_
            have e9 : ¬ (kd = 1 ∧ txL T s (e - s) = wWhen) := fun h8 => by
              obtain ⟨h9, h10⟩ := h8
              obtain ⟨h10, h11⟩ := tx_iff.mp h10
              have h12 : T (s + 2) = 101 := h11 2 (by have : e - s = 4 := h10; omega)
              omega
            rw [decide_eq_false e9] at hz
            subst hz
            exact hQ
        · replace g4 := (not_congr (eq_n (a := T (s + 1)) (b := 104) rfl (rfl : (104 : Int32) = Int32.ofNat 104) (by omega) (by omega))).mp g4
          refine wi_iconst (x := 0) rfl rfl ?_
          refine wi_iret rfl (by decide) ?_
          have e9 : ¬ (kd = 1 ∧ txL T s (e - s) = wWhen) := fun h8 => by
            obtain ⟨h9, h10⟩ := h8
            obtain ⟨h10, h11⟩ := tx_iff.mp h10
            have h12 : T (s + 1) = 104 := h11 1 (by have : e - s = 4 := h10; omega)
            omega
          rw [decide_eq_false e9] at hz
          subst hz
          exact hQ
      · replace g3 := (not_congr (eq_n (a := T (s + 0)) (b := 119) rfl (rfl : (119 : Int32) = Int32.ofNat 119) (by omega) (by omega))).mp g3
        refine wi_iconst (x := 0) rfl rfl ?_
        refine wi_iret rfl (by decide) ?_
        have e9 : ¬ (kd = 1 ∧ txL T s (e - s) = wWhen) := fun h8 => by
          obtain ⟨h9, h10⟩ := h8
          obtain ⟨h10, h11⟩ := tx_iff.mp h10
          have h12 : T (s + 0) = 119 := h11 0 (by have : e - s = 4 := h10; omega)
          omega
        rw [decide_eq_false e9] at hz
        subst hz
        exact hQ
    · replace g2 := (not_congr (eq_n (a := e - s) (b := 4) rfl (rfl : (4 : Int32) = Int32.ofNat 4) (by omega) (by omega))).mp g2
      refine wi_iconst (x := 0) rfl rfl ?_
      refine wi_iret rfl (by decide) ?_
      have e9 : ¬ (kd = 1 ∧ txL T s (e - s) = wWhen) := fun h8 => by
        obtain ⟨h9, h10⟩ := h8
        obtain ⟨h10, h11⟩ := tx_iff.mp h10
        have h12 : e - s = 4 := h10
        omega
      rw [decide_eq_false e9] at hz
      subst hz
      exact hQ
theorem c_tokIs1 {mi : Nat → Nat → Int32} {s e kd : Nat} (hcnt : cnt ≤ 400) (hN : N ≤ cnt) (hT : ∀ k, T k < 256) (h26 : mi 26 1 = Int32.ofNat cnt) (h27 : ∀ k, k < cnt → mi 27 k = Int32.ofNat (T k)) (h5 : mi 28 5 = Int32.ofNat e) (h6 : mi 28 6 = Int32.ofNat s) (hse : s < e) (heN : e ≤ N) (h7 : mi 28 7 = Int32.ofNat kd) (hkd : kd < 256) {z : Int32} (hz : bI (decide (kd = 1 ∧ txL T s (e - s) = (wds 0))) = z) (hQ : Q (some (.int z)) (am_shT, mrL b, mi, ml)) : am_wp X (d + 1) 53 0 [.ref 28, .ref 1000001, .retAddr 0] [] (am_shT, mrL b, mi, ml) Q := by
  have hb0 := hT (s + 0)
  have hb1 := hT (s + 1)
  have hb2 := hT (s + 2)
  have hb3 := hT (s + 3)
  have hb4 := hT (s + 4)
  refine wi_aload_n rfl rfl ?_
  refine wi_getIv (v := (Int32.ofNat (kd))) rfl (kd_28 ..) h7 ?_
  refine wi_iconst (x := 1) rfl rfl ?_
  refine wi_icmp_ne rfl (fun g1 => ?_) (fun g1 => ?_)
  · replace g1 := (ne_n (a := kd) (b := 1) rfl (rfl : (1 : Int32) = Int32.ofNat 1) (by omega) (by omega)).mp g1
    refine wi_iconst (x := 0) rfl rfl ?_
    refine wi_iret rfl (by decide) ?_
    have e9 : ¬ (kd = 1 ∧ txL T s (e - s) = (wds 0)) := fun h8 => by
      obtain ⟨h9, h10⟩ := h8
      obtain ⟨h10, h11⟩ := tx_iff.mp h10
      have h12 : e - s = 5 := h10
      omega
    rw [decide_eq_false e9] at hz
    subst hz
    exact hQ
  · replace g1 := (not_congr (ne_n (a := kd) (b := 1) rfl (rfl : (1 : Int32) = Int32.ofNat 1) (by omega) (by omega))).mp g1
    refine wi_aload_n rfl rfl ?_
    refine wi_callV0 rfl (by decide) (by decide) rfl (kd_28 ..) rfl rfl rfl ?_
    refine wi_aload_n rfl rfl ?_
    refine wi_getIv (v := (Int32.ofNat (e))) rfl (kd_28 ..) h5 ?_
    refine wi_aload_n rfl rfl ?_
    refine wi_getIv (v := (Int32.ofNat (s))) rfl (kd_28 ..) h6 ?_
    refine wn_isub (z := (Int32.ofNat (e - s))) rfl (sub_n (a := e) (b := s) rfl rfl (by omega)) ?_
    refine wi_iret rfl (Or.inl rfl) ?_
    refine wi_aload_n rfl rfl ?_
    refine wi_slen (x := 5) rfl ⟨by decide, by decide⟩ rfl rfl ?_
    refine wi_icmp_eq rfl (fun g2 => ?_) (fun g2 => ?_)
    · replace g2 := (eq_n (a := e - s) (b := 5) rfl (rfl : (5 : Int32) = Int32.ofNat 5) (by omega) (by omega)).mp g2
      refine wi_iconst (x := 0) rfl rfl ?_
      refine wi_istore_n (l' := [.ref 28, .ref 1000001, .int (0 : Int32)]) rfl (Nat.le_of_ble_eq_true rfl) rfl rfl ?_
      refine wi_iload_n rfl rfl ?_
      refine wi_aload_n rfl rfl ?_
      refine wi_slen (x := 5) rfl ⟨by decide, by decide⟩ rfl rfl ?_
      refine wi_icmp_ge rfl (fun h9 => absurd h9 (by decide)) (fun _ => ?_)
      refine wi_aload_n rfl rfl ?_
      refine wi_getR rfl (kd_28 ..) (rd_28_2 _) ?_
      refine wi_aload_n rfl rfl ?_
      refine wi_getIv (v := (Int32.ofNat (s))) rfl (kd_28 ..) h6 ?_
      refine wi_iload_n rfl rfl ?_
      refine wn_iadd (z := (Int32.ofNat (s + 0))) rfl (add_n (a := s) (b := 0) rfl (rfl : (0 : Int32) = Int32.ofNat 0)) ?_
      refine wi_callV1 rfl (by decide) (by decide) rfl (kd_26 ..) rfl rfl rfl (c_byteAt h26 hcnt (by omega) (h27 _ (by omega)) ?_)
      refine wi_aload_n rfl rfl ?_
      refine wi_iload_n rfl rfl ?_
      refine wi_chat (y := 102) rfl ⟨by decide, by decide⟩ rfl (by decide) rfl ?_
      refine wi_icmp_eq rfl (fun g3 => ?_) (fun g3 => ?_)
      · replace g3 := (eq_n (a := T (s + 0)) (b := 102) rfl (rfl : (102 : Int32) = Int32.ofNat 102) (by omega) (by omega)).mp g3
        refine wi_iinc (z := (1 : Int32)) rfl rfl rfl (by decide) rfl ?_
        refine wi_goto rfl ?_
        refine wi_iload_n rfl rfl ?_
        refine wi_aload_n rfl rfl ?_
        refine wi_slen (x := 5) rfl ⟨by decide, by decide⟩ rfl rfl ?_
        refine wi_icmp_ge rfl (fun h9 => absurd h9 (by decide)) (fun _ => ?_)
        refine wi_aload_n rfl rfl ?_
        refine wi_getR rfl (kd_28 ..) (rd_28_2 _) ?_
        refine wi_aload_n rfl rfl ?_
        refine wi_getIv (v := (Int32.ofNat (s))) rfl (kd_28 ..) h6 ?_
        refine wi_iload_n rfl rfl ?_
        refine wn_iadd (z := (Int32.ofNat (s + 1))) rfl (add_n (a := s) (b := 1) rfl (rfl : (1 : Int32) = Int32.ofNat 1)) ?_
        refine wi_callV1 rfl (by decide) (by decide) rfl (kd_26 ..) rfl rfl rfl (c_byteAt h26 hcnt (by omega) (h27 _ (by omega)) ?_)
        refine wi_aload_n rfl rfl ?_
        refine wi_iload_n rfl rfl ?_
        refine wi_chat (y := 105) rfl ⟨by decide, by decide⟩ rfl (by decide) rfl ?_
        refine wi_icmp_eq rfl (fun g4 => ?_) (fun g4 => ?_)
        · replace g4 := (eq_n (a := T (s + 1)) (b := 105) rfl (rfl : (105 : Int32) = Int32.ofNat 105) (by omega) (by omega)).mp g4
          refine wi_iinc (z := (2 : Int32)) rfl rfl rfl (by decide) rfl ?_
          refine wi_goto rfl ?_
          refine wi_iload_n rfl rfl ?_
          refine wi_aload_n rfl rfl ?_
          refine wi_slen (x := 5) rfl ⟨by decide, by decide⟩ rfl rfl ?_
          refine wi_icmp_ge rfl (fun h9 => absurd h9 (by decide)) (fun _ => ?_)
          refine wi_aload_n rfl rfl ?_
          refine wi_getR rfl (kd_28 ..) (rd_28_2 _) ?_
          refine wi_aload_n rfl rfl ?_
          refine wi_getIv (v := (Int32.ofNat (s))) rfl (kd_28 ..) h6 ?_
          refine wi_iload_n rfl rfl ?_
          refine wn_iadd (z := (Int32.ofNat (s + 2))) rfl (add_n (a := s) (b := 2) rfl (rfl : (2 : Int32) = Int32.ofNat 2)) ?_
          refine wi_callV1 rfl (by decide) (by decide) rfl (kd_26 ..) rfl rfl rfl (c_byteAt h26 hcnt (by omega) (h27 _ (by omega)) ?_)
          refine wi_aload_n rfl rfl ?_
          refine wi_iload_n rfl rfl ?_
          refine wi_chat (y := 114) rfl ⟨by decide, by decide⟩ rfl (by decide) rfl ?_
          refine wi_icmp_eq rfl (fun g5 => ?_) (fun g5 => ?_)
          · replace g5 := (eq_n (a := T (s + 2)) (b := 114) rfl (rfl : (114 : Int32) = Int32.ofNat 114) (by omega) (by omega)).mp g5
            refine wi_iinc (z := (3 : Int32)) rfl rfl rfl (by decide) rfl ?_
            refine wi_goto rfl ?_
            refine wi_iload_n rfl rfl ?_
            refine wi_aload_n rfl rfl ?_
            refine wi_slen (x := 5) rfl ⟨by decide, by decide⟩ rfl rfl ?_
            refine wi_icmp_ge rfl (fun h9 => absurd h9 (by decide)) (fun _ => ?_)
            refine wi_aload_n rfl rfl ?_
            refine wi_getR rfl (kd_28 ..) (rd_28_2 _) ?_
            refine wi_aload_n rfl rfl ?_
            refine wi_getIv (v := (Int32.ofNat (s))) rfl (kd_28 ..) h6 ?_
            refine wi_iload_n rfl rfl ?_
            refine wn_iadd (z := (Int32.ofNat (s + 3))) rfl (add_n (a := s) (b := 3) rfl (rfl : (3 : Int32) = Int32.ofNat 3)) ?_
            refine wi_callV1 rfl (by decide) (by decide) rfl (kd_26 ..) rfl rfl rfl (c_byteAt h26 hcnt (by omega) (h27 _ (by omega)) ?_)
            refine wi_aload_n rfl rfl ?_
            refine wi_iload_n rfl rfl ?_
            refine wi_chat (y := 115) rfl ⟨by decide, by decide⟩ rfl (by decide) rfl ?_
            refine wi_icmp_eq rfl (fun g6 => ?_) (fun g6 => ?_)
            · replace g6 := (eq_n (a := T (s + 3)) (b := 115) rfl (rfl : (115 : Int32) = Int32.ofNat 115) (by omega) (by omega)).mp g6
              refine wi_iinc (z := (4 : Int32)) rfl rfl rfl (by decide) rfl ?_
              refine wi_goto rfl ?_
              refine wi_iload_n rfl rfl ?_
              refine wi_aload_n rfl rfl ?_
              refine wi_slen (x := 5) rfl ⟨by decide, by decide⟩ rfl rfl ?_
              refine wi_icmp_ge rfl (fun h9 => absurd h9 (by decide)) (fun _ => ?_)
              refine wi_aload_n rfl rfl ?_
              refine wi_getR rfl (kd_28 ..) (rd_28_2 _) ?_
              refine wi_aload_n rfl rfl ?_
              refine wi_getIv (v := (Int32.ofNat (s))) rfl (kd_28 ..) h6 ?_
              refine wi_iload_n rfl rfl ?_
              refine wn_iadd (z := (Int32.ofNat (s + 4))) rfl (add_n (a := s) (b := 4) rfl (rfl : (4 : Int32) = Int32.ofNat 4)) ?_
              refine wi_callV1 rfl (by decide) (by decide) rfl (kd_26 ..) rfl rfl rfl (c_byteAt h26 hcnt (by omega) (h27 _ (by omega)) ?_)
              refine wi_aload_n rfl rfl ?_
              refine wi_iload_n rfl rfl ?_
              refine wi_chat (y := 116) rfl ⟨by decide, by decide⟩ rfl (by decide) rfl ?_
              refine wi_icmp_eq rfl (fun g7 => ?_) (fun g7 => ?_)
              · replace g7 := (eq_n (a := T (s + 4)) (b := 116) rfl (rfl : (116 : Int32) = Int32.ofNat 116) (by omega) (by omega)).mp g7
                refine wi_iinc (z := (5 : Int32)) rfl rfl rfl (by decide) rfl ?_
                refine wi_goto rfl ?_
                refine wi_iload_n rfl rfl ?_
                refine wi_aload_n rfl rfl ?_
                refine wi_slen (x := 5) rfl ⟨by decide, by decide⟩ rfl rfl ?_
                refine wi_icmp_ge rfl (fun _ => ?_) (fun h9 => absurd (by decide) h9)
                refine wi_iconst (x := 1) rfl rfl ?_
                refine wi_iret rfl (by decide) ?_
                have e9 : (kd = 1 ∧ txL T s (e - s) = (wds 0)) := ⟨by omega, tx_iff.mpr ⟨by show e - s = 5; omega, fun i hi => by
                  have hi9 : i < 5 := by omega
                  rcases i with _ | _ | _ | _ | _ | i
                  · show T (s + 0) = 102
                    omega
                  · show T (s + 1) = 105
                    omega
                  · show T (s + 2) = 114
                    omega
                  · show T (s + 3) = 115
                    omega
                  · show T (s + 4) = 116
                    omega
                  · omega⟩⟩
                rw [decide_eq_true e9] at hz
                subst hz
                exact hQ
              · replace g7 := (not_congr (eq_n (a := T (s + 4)) (b := 116) rfl (rfl : (116 : Int32) = Int32.ofNat 116) (by omega) (by omega))).mp g7
                refine wi_iconst (x := 0) rfl rfl ?_
                refine wi_iret rfl (by decide) ?_
                have e9 : ¬ (kd = 1 ∧ txL T s (e - s) = (wds 0)) := fun h8 => by
                  obtain ⟨h9, h10⟩ := h8
                  obtain ⟨h10, h11⟩ := tx_iff.mp h10
                  have h12 : T (s + 4) = 116 := h11 4 (by have : e - s = 5 := h10; omega)
                  omega
                rw [decide_eq_false e9] at hz
                subst hz
                exact hQ
            · replace g6 := (not_congr (eq_n (a := T (s + 3)) (b := 115) rfl (rfl : (115 : Int32) = Int32.ofNat 115) (by omega) (by omega))).mp g6
              refine wi_iconst (x := 0) rfl rfl ?_
              refine wi_iret rfl (by decide) ?_
              have e9 : ¬ (kd = 1 ∧ txL T s (e - s) = (wds 0)) := fun h8 => by
                obtain ⟨h9, h10⟩ := h8
                obtain ⟨h10, h11⟩ := tx_iff.mp h10
                have h12 : T (s + 3) = 115 := h11 3 (by have : e - s = 5 := h10; omega)
                omega
              rw [decide_eq_false e9] at hz
              subst hz
              exact hQ
          · replace g5 := (not_congr (eq_n (a := T (s + 2)) (b := 114) rfl (rfl : (114 : Int32) = Int32.ofNat 114) (by omega) (by omega))).mp g5
            refine wi_iconst (x := 0) rfl rfl ?_
            refine wi_iret rfl (by decide) ?_
            have e9 : ¬ (kd = 1 ∧ txL T s (e - s) = (wds 0)) := fun h8 => by
              obtain ⟨h9, h10⟩ := h8
              obtain ⟨h10, h11⟩ := tx_iff.mp h10
              have h12 : T (s + 2) = 114 := h11 2 (by have : e - s = 5 := h10; omega)
              omega
            rw [decide_eq_false e9] at hz
            subst hz
            exact hQ
        · replace g4 := (not_congr (eq_n (a := T (s + 1)) (b := 105) rfl (rfl : (105 : Int32) = Int32.ofNat 105) (by omega) (by omega))).mp g4
          refine wi_iconst (x := 0) rfl rfl ?_
          refine wi_iret rfl (by decide) ?_
          have e9 : ¬ (kd = 1 ∧ txL T s (e - s) = (wds 0)) := fun h8 => by
            obtain ⟨h9, h10⟩ := h8
            obtain ⟨h10, h11⟩ := tx_iff.mp h10
            have h12 : T (s + 1) = 105 := h11 1 (by have : e - s = 5 := h10; omega)
            omega
          rw [decide_eq_false e9] at hz
          subst hz
          exact hQ
      · replace g3 := (not_congr (eq_n (a := T (s + 0)) (b := 102) rfl (rfl : (102 : Int32) = Int32.ofNat 102) (by omega) (by omega))).mp g3
        refine wi_iconst (x := 0) rfl rfl ?_
        refine wi_iret rfl (by decide) ?_
        have e9 : ¬ (kd = 1 ∧ txL T s (e - s) = (wds 0)) := fun h8 => by
          obtain ⟨h9, h10⟩ := h8
          obtain ⟨h10, h11⟩ := tx_iff.mp h10
          have h12 : T (s + 0) = 102 := h11 0 (by have : e - s = 5 := h10; omega)
          omega
        rw [decide_eq_false e9] at hz
        subst hz
        exact hQ
    · replace g2 := (not_congr (eq_n (a := e - s) (b := 5) rfl (rfl : (5 : Int32) = Int32.ofNat 5) (by omega) (by omega))).mp g2
      refine wi_iconst (x := 0) rfl rfl ?_
      refine wi_iret rfl (by decide) ?_
      have e9 : ¬ (kd = 1 ∧ txL T s (e - s) = (wds 0)) := fun h8 => by
        obtain ⟨h9, h10⟩ := h8
        obtain ⟨h10, h11⟩ := tx_iff.mp h10
        have h12 : e - s = 5 := h10
        omega
      rw [decide_eq_false e9] at hz
      subst hz
      exact hQ
theorem c_tokIs2 {mi : Nat → Nat → Int32} {s e kd : Nat} (hcnt : cnt ≤ 400) (hN : N ≤ cnt) (hT : ∀ k, T k < 256) (h26 : mi 26 1 = Int32.ofNat cnt) (h27 : ∀ k, k < cnt → mi 27 k = Int32.ofNat (T k)) (h5 : mi 28 5 = Int32.ofNat e) (h6 : mi 28 6 = Int32.ofNat s) (hse : s < e) (heN : e ≤ N) (h7 : mi 28 7 = Int32.ofNat kd) (hkd : kd < 256) {z : Int32} (hz : bI (decide (kd = 1 ∧ txL T s (e - s) = (wds 1))) = z) (hQ : Q (some (.int z)) (am_shT, mrL b, mi, ml)) : am_wp X (d + 1) 53 0 [.ref 28, .ref 1000002, .retAddr 0] [] (am_shT, mrL b, mi, ml) Q := by
  have hb0 := hT (s + 0)
  have hb1 := hT (s + 1)
  have hb2 := hT (s + 2)
  have hb3 := hT (s + 3)
  have hb4 := hT (s + 4)
  have hb5 := hT (s + 5)
  refine wi_aload_n rfl rfl ?_
  refine wi_getIv (v := (Int32.ofNat (kd))) rfl (kd_28 ..) h7 ?_
  refine wi_iconst (x := 1) rfl rfl ?_
  refine wi_icmp_ne rfl (fun g1 => ?_) (fun g1 => ?_)
  · replace g1 := (ne_n (a := kd) (b := 1) rfl (rfl : (1 : Int32) = Int32.ofNat 1) (by omega) (by omega)).mp g1
    refine wi_iconst (x := 0) rfl rfl ?_
    refine wi_iret rfl (by decide) ?_
    have e9 : ¬ (kd = 1 ∧ txL T s (e - s) = (wds 1)) := fun h8 => by
      obtain ⟨h9, h10⟩ := h8
      obtain ⟨h10, h11⟩ := tx_iff.mp h10
      have h12 : e - s = 6 := h10
      omega
    rw [decide_eq_false e9] at hz
    subst hz
    exact hQ
  · replace g1 := (not_congr (ne_n (a := kd) (b := 1) rfl (rfl : (1 : Int32) = Int32.ofNat 1) (by omega) (by omega))).mp g1
    refine wi_aload_n rfl rfl ?_
    refine wi_callV0 rfl (by decide) (by decide) rfl (kd_28 ..) rfl rfl rfl ?_
    refine wi_aload_n rfl rfl ?_
    refine wi_getIv (v := (Int32.ofNat (e))) rfl (kd_28 ..) h5 ?_
    refine wi_aload_n rfl rfl ?_
    refine wi_getIv (v := (Int32.ofNat (s))) rfl (kd_28 ..) h6 ?_
    refine wn_isub (z := (Int32.ofNat (e - s))) rfl (sub_n (a := e) (b := s) rfl rfl (by omega)) ?_
    refine wi_iret rfl (Or.inl rfl) ?_
    refine wi_aload_n rfl rfl ?_
    refine wi_slen (x := 6) rfl ⟨by decide, by decide⟩ rfl rfl ?_
    refine wi_icmp_eq rfl (fun g2 => ?_) (fun g2 => ?_)
    · replace g2 := (eq_n (a := e - s) (b := 6) rfl (rfl : (6 : Int32) = Int32.ofNat 6) (by omega) (by omega)).mp g2
      refine wi_iconst (x := 0) rfl rfl ?_
      refine wi_istore_n (l' := [.ref 28, .ref 1000002, .int (0 : Int32)]) rfl (Nat.le_of_ble_eq_true rfl) rfl rfl ?_
      refine wi_iload_n rfl rfl ?_
      refine wi_aload_n rfl rfl ?_
      refine wi_slen (x := 6) rfl ⟨by decide, by decide⟩ rfl rfl ?_
      refine wi_icmp_ge rfl (fun h9 => absurd h9 (by decide)) (fun _ => ?_)
      refine wi_aload_n rfl rfl ?_
      refine wi_getR rfl (kd_28 ..) (rd_28_2 _) ?_
      refine wi_aload_n rfl rfl ?_
      refine wi_getIv (v := (Int32.ofNat (s))) rfl (kd_28 ..) h6 ?_
      refine wi_iload_n rfl rfl ?_
      refine wn_iadd (z := (Int32.ofNat (s + 0))) rfl (add_n (a := s) (b := 0) rfl (rfl : (0 : Int32) = Int32.ofNat 0)) ?_
      refine wi_callV1 rfl (by decide) (by decide) rfl (kd_26 ..) rfl rfl rfl (c_byteAt h26 hcnt (by omega) (h27 _ (by omega)) ?_)
      refine wi_aload_n rfl rfl ?_
      refine wi_iload_n rfl rfl ?_
      refine wi_chat (y := 115) rfl ⟨by decide, by decide⟩ rfl (by decide) rfl ?_
      refine wi_icmp_eq rfl (fun g3 => ?_) (fun g3 => ?_)
      · replace g3 := (eq_n (a := T (s + 0)) (b := 115) rfl (rfl : (115 : Int32) = Int32.ofNat 115) (by omega) (by omega)).mp g3
        refine wi_iinc (z := (1 : Int32)) rfl rfl rfl (by decide) rfl ?_
        refine wi_goto rfl ?_
        refine wi_iload_n rfl rfl ?_
        refine wi_aload_n rfl rfl ?_
        refine wi_slen (x := 6) rfl ⟨by decide, by decide⟩ rfl rfl ?_
        refine wi_icmp_ge rfl (fun h9 => absurd h9 (by decide)) (fun _ => ?_)
        refine wi_aload_n rfl rfl ?_
        refine wi_getR rfl (kd_28 ..) (rd_28_2 _) ?_
        refine wi_aload_n rfl rfl ?_
        refine wi_getIv (v := (Int32.ofNat (s))) rfl (kd_28 ..) h6 ?_
        refine wi_iload_n rfl rfl ?_
        refine wn_iadd (z := (Int32.ofNat (s + 1))) rfl (add_n (a := s) (b := 1) rfl (rfl : (1 : Int32) = Int32.ofNat 1)) ?_
        refine wi_callV1 rfl (by decide) (by decide) rfl (kd_26 ..) rfl rfl rfl (c_byteAt h26 hcnt (by omega) (h27 _ (by omega)) ?_)
        refine wi_aload_n rfl rfl ?_
        refine wi_iload_n rfl rfl ?_
        refine wi_chat (y := 101) rfl ⟨by decide, by decide⟩ rfl (by decide) rfl ?_
        refine wi_icmp_eq rfl (fun g4 => ?_) (fun g4 => ?_)
        · replace g4 := (eq_n (a := T (s + 1)) (b := 101) rfl (rfl : (101 : Int32) = Int32.ofNat 101) (by omega) (by omega)).mp g4
          refine wi_iinc (z := (2 : Int32)) rfl rfl rfl (by decide) rfl ?_
          refine wi_goto rfl ?_
          refine wi_iload_n rfl rfl ?_
          refine wi_aload_n rfl rfl ?_
          refine wi_slen (x := 6) rfl ⟨by decide, by decide⟩ rfl rfl ?_
          refine wi_icmp_ge rfl (fun h9 => absurd h9 (by decide)) (fun _ => ?_)
          refine wi_aload_n rfl rfl ?_
          refine wi_getR rfl (kd_28 ..) (rd_28_2 _) ?_
          refine wi_aload_n rfl rfl ?_
          refine wi_getIv (v := (Int32.ofNat (s))) rfl (kd_28 ..) h6 ?_
          refine wi_iload_n rfl rfl ?_
          refine wn_iadd (z := (Int32.ofNat (s + 2))) rfl (add_n (a := s) (b := 2) rfl (rfl : (2 : Int32) = Int32.ofNat 2)) ?_
          refine wi_callV1 rfl (by decide) (by decide) rfl (kd_26 ..) rfl rfl rfl (c_byteAt h26 hcnt (by omega) (h27 _ (by omega)) ?_)
          refine wi_aload_n rfl rfl ?_
          refine wi_iload_n rfl rfl ?_
          refine wi_chat (y := 99) rfl ⟨by decide, by decide⟩ rfl (by decide) rfl ?_
          refine wi_icmp_eq rfl (fun g5 => ?_) (fun g5 => ?_)
          · replace g5 := (eq_n (a := T (s + 2)) (b := 99) rfl (rfl : (99 : Int32) = Int32.ofNat 99) (by omega) (by omega)).mp g5
            refine wi_iinc (z := (3 : Int32)) rfl rfl rfl (by decide) rfl ?_
            refine wi_goto rfl ?_
            refine wi_iload_n rfl rfl ?_
            refine wi_aload_n rfl rfl ?_
            refine wi_slen (x := 6) rfl ⟨by decide, by decide⟩ rfl rfl ?_
            refine wi_icmp_ge rfl (fun h9 => absurd h9 (by decide)) (fun _ => ?_)
            refine wi_aload_n rfl rfl ?_
            refine wi_getR rfl (kd_28 ..) (rd_28_2 _) ?_
            refine wi_aload_n rfl rfl ?_
            refine wi_getIv (v := (Int32.ofNat (s))) rfl (kd_28 ..) h6 ?_
            refine wi_iload_n rfl rfl ?_
            refine wn_iadd (z := (Int32.ofNat (s + 3))) rfl (add_n (a := s) (b := 3) rfl (rfl : (3 : Int32) = Int32.ofNat 3)) ?_
            refine wi_callV1 rfl (by decide) (by decide) rfl (kd_26 ..) rfl rfl rfl (c_byteAt h26 hcnt (by omega) (h27 _ (by omega)) ?_)
            refine wi_aload_n rfl rfl ?_
            refine wi_iload_n rfl rfl ?_
            refine wi_chat (y := 111) rfl ⟨by decide, by decide⟩ rfl (by decide) rfl ?_
            refine wi_icmp_eq rfl (fun g6 => ?_) (fun g6 => ?_)
            · replace g6 := (eq_n (a := T (s + 3)) (b := 111) rfl (rfl : (111 : Int32) = Int32.ofNat 111) (by omega) (by omega)).mp g6
              refine wi_iinc (z := (4 : Int32)) rfl rfl rfl (by decide) rfl ?_
              refine wi_goto rfl ?_
              refine wi_iload_n rfl rfl ?_
              refine wi_aload_n rfl rfl ?_
              refine wi_slen (x := 6) rfl ⟨by decide, by decide⟩ rfl rfl ?_
              refine wi_icmp_ge rfl (fun h9 => absurd h9 (by decide)) (fun _ => ?_)
              refine wi_aload_n rfl rfl ?_
              refine wi_getR rfl (kd_28 ..) (rd_28_2 _) ?_
              refine wi_aload_n rfl rfl ?_
              refine wi_getIv (v := (Int32.ofNat (s))) rfl (kd_28 ..) h6 ?_
              refine wi_iload_n rfl rfl ?_
              refine wn_iadd (z := (Int32.ofNat (s + 4))) rfl (add_n (a := s) (b := 4) rfl (rfl : (4 : Int32) = Int32.ofNat 4)) ?_
              refine wi_callV1 rfl (by decide) (by decide) rfl (kd_26 ..) rfl rfl rfl (c_byteAt h26 hcnt (by omega) (h27 _ (by omega)) ?_)
              refine wi_aload_n rfl rfl ?_
              refine wi_iload_n rfl rfl ?_
              refine wi_chat (y := 110) rfl ⟨by decide, by decide⟩ rfl (by decide) rfl ?_
              refine wi_icmp_eq rfl (fun g7 => ?_) (fun g7 => ?_)
              · replace g7 := (eq_n (a := T (s + 4)) (b := 110) rfl (rfl : (110 : Int32) = Int32.ofNat 110) (by omega) (by omega)).mp g7
                refine wi_iinc (z := (5 : Int32)) rfl rfl rfl (by decide) rfl ?_
                refine wi_goto rfl ?_
                refine wi_iload_n rfl rfl ?_
                refine wi_aload_n rfl rfl ?_
                refine wi_slen (x := 6) rfl ⟨by decide, by decide⟩ rfl rfl ?_
                refine wi_icmp_ge rfl (fun h9 => absurd h9 (by decide)) (fun _ => ?_)
                refine wi_aload_n rfl rfl ?_
                refine wi_getR rfl (kd_28 ..) (rd_28_2 _) ?_
                refine wi_aload_n rfl rfl ?_
                refine wi_getIv (v := (Int32.ofNat (s))) rfl (kd_28 ..) h6 ?_
                refine wi_iload_n rfl rfl ?_
                refine wn_iadd (z := (Int32.ofNat (s + 5))) rfl (add_n (a := s) (b := 5) rfl (rfl : (5 : Int32) = Int32.ofNat 5)) ?_
                refine wi_callV1 rfl (by decide) (by decide) rfl (kd_26 ..) rfl rfl rfl (c_byteAt h26 hcnt (by omega) (h27 _ (by omega)) ?_)
                refine wi_aload_n rfl rfl ?_
                refine wi_iload_n rfl rfl ?_
                refine wi_chat (y := 100) rfl ⟨by decide, by decide⟩ rfl (by decide) rfl ?_
                refine wi_icmp_eq rfl (fun g8 => ?_) (fun g8 => ?_)
                · replace g8 := (eq_n (a := T (s + 5)) (b := 100) rfl (rfl : (100 : Int32) = Int32.ofNat 100) (by omega) (by omega)).mp g8
                  refine wi_iinc (z := (6 : Int32)) rfl rfl rfl (by decide) rfl ?_
                  refine wi_goto rfl ?_
                  refine wi_iload_n rfl rfl ?_
                  refine wi_aload_n rfl rfl ?_
                  refine wi_slen (x := 6) rfl ⟨by decide, by decide⟩ rfl rfl ?_
                  refine wi_icmp_ge rfl (fun _ => ?_) (fun h9 => absurd (by decide) h9)
                  refine wi_iconst (x := 1) rfl rfl ?_
                  refine wi_iret rfl (by decide) ?_
                  have e9 : (kd = 1 ∧ txL T s (e - s) = (wds 1)) := ⟨by omega, tx_iff.mpr ⟨by show e - s = 6; omega, fun i hi => by
                    have hi9 : i < 6 := by omega
                    rcases i with _ | _ | _ | _ | _ | _ | i
                    · show T (s + 0) = 115
                      omega
                    · show T (s + 1) = 101
                      omega
                    · show T (s + 2) = 99
                      omega
                    · show T (s + 3) = 111
                      omega
                    · show T (s + 4) = 110
                      omega
                    · show T (s + 5) = 100
                      omega
                    · omega⟩⟩
                  rw [decide_eq_true e9] at hz
                  subst hz
                  exact hQ
                · replace g8 := (not_congr (eq_n (a := T (s + 5)) (b := 100) rfl (rfl : (100 : Int32) = Int32.ofNat 100) (by omega) (by omega))).mp g8
                  refine wi_iconst (x := 0) rfl rfl ?_
                  refine wi_iret rfl (by decide) ?_
                  have e9 : ¬ (kd = 1 ∧ txL T s (e - s) = (wds 1)) := fun h8 => by
                    obtain ⟨h9, h10⟩ := h8
                    obtain ⟨h10, h11⟩ := tx_iff.mp h10
                    have h12 : T (s + 5) = 100 := h11 5 (by have : e - s = 6 := h10; omega)
                    omega
                  rw [decide_eq_false e9] at hz
                  subst hz
                  exact hQ
              · replace g7 := (not_congr (eq_n (a := T (s + 4)) (b := 110) rfl (rfl : (110 : Int32) = Int32.ofNat 110) (by omega) (by omega))).mp g7
                refine wi_iconst (x := 0) rfl rfl ?_
                refine wi_iret rfl (by decide) ?_
                have e9 : ¬ (kd = 1 ∧ txL T s (e - s) = (wds 1)) := fun h8 => by
                  obtain ⟨h9, h10⟩ := h8
                  obtain ⟨h10, h11⟩ := tx_iff.mp h10
                  have h12 : T (s + 4) = 110 := h11 4 (by have : e - s = 6 := h10; omega)
                  omega
                rw [decide_eq_false e9] at hz
                subst hz
                exact hQ
            · replace g6 := (not_congr (eq_n (a := T (s + 3)) (b := 111) rfl (rfl : (111 : Int32) = Int32.ofNat 111) (by omega) (by omega))).mp g6
              refine wi_iconst (x := 0) rfl rfl ?_
              refine wi_iret rfl (by decide) ?_
              have e9 : ¬ (kd = 1 ∧ txL T s (e - s) = (wds 1)) := fun h8 => by
                obtain ⟨h9, h10⟩ := h8
                obtain ⟨h10, h11⟩ := tx_iff.mp h10
                have h12 : T (s + 3) = 111 := h11 3 (by have : e - s = 6 := h10; omega)
                omega
              rw [decide_eq_false e9] at hz
              subst hz
              exact hQ
          · replace g5 := (not_congr (eq_n (a := T (s + 2)) (b := 99) rfl (rfl : (99 : Int32) = Int32.ofNat 99) (by omega) (by omega))).mp g5
            refine wi_iconst (x := 0) rfl rfl ?_
            refine wi_iret rfl (by decide) ?_
            have e9 : ¬ (kd = 1 ∧ txL T s (e - s) = (wds 1)) := fun h8 => by
              obtain ⟨h9, h10⟩ := h8
              obtain ⟨h10, h11⟩ := tx_iff.mp h10
              have h12 : T (s + 2) = 99 := h11 2 (by have : e - s = 6 := h10; omega)
              omega
            rw [decide_eq_false e9] at hz
            subst hz
            exact hQ
        · replace g4 := (not_congr (eq_n (a := T (s + 1)) (b := 101) rfl (rfl : (101 : Int32) = Int32.ofNat 101) (by omega) (by omega))).mp g4
          refine wi_iconst (x := 0) rfl rfl ?_
          refine wi_iret rfl (by decide) ?_
          have e9 : ¬ (kd = 1 ∧ txL T s (e - s) = (wds 1)) := fun h8 => by
            obtain ⟨h9, h10⟩ := h8
            obtain ⟨h10, h11⟩ := tx_iff.mp h10
            have h12 : T (s + 1) = 101 := h11 1 (by have : e - s = 6 := h10; omega)
            omega
          rw [decide_eq_false e9] at hz
          subst hz
          exact hQ
      · replace g3 := (not_congr (eq_n (a := T (s + 0)) (b := 115) rfl (rfl : (115 : Int32) = Int32.ofNat 115) (by omega) (by omega))).mp g3
        refine wi_iconst (x := 0) rfl rfl ?_
        refine wi_iret rfl (by decide) ?_
        have e9 : ¬ (kd = 1 ∧ txL T s (e - s) = (wds 1)) := fun h8 => by
          obtain ⟨h9, h10⟩ := h8
          obtain ⟨h10, h11⟩ := tx_iff.mp h10
          have h12 : T (s + 0) = 115 := h11 0 (by have : e - s = 6 := h10; omega)
          omega
        rw [decide_eq_false e9] at hz
        subst hz
        exact hQ
    · replace g2 := (not_congr (eq_n (a := e - s) (b := 6) rfl (rfl : (6 : Int32) = Int32.ofNat 6) (by omega) (by omega))).mp g2
      refine wi_iconst (x := 0) rfl rfl ?_
      refine wi_iret rfl (by decide) ?_
      have e9 : ¬ (kd = 1 ∧ txL T s (e - s) = (wds 1)) := fun h8 => by
        obtain ⟨h9, h10⟩ := h8
        obtain ⟨h10, h11⟩ := tx_iff.mp h10
        have h12 : e - s = 6 := h10
        omega
      rw [decide_eq_false e9] at hz
      subst hz
      exact hQ
theorem c_tokIs3 {mi : Nat → Nat → Int32} {s e kd : Nat} (hcnt : cnt ≤ 400) (hN : N ≤ cnt) (hT : ∀ k, T k < 256) (h26 : mi 26 1 = Int32.ofNat cnt) (h27 : ∀ k, k < cnt → mi 27 k = Int32.ofNat (T k)) (h5 : mi 28 5 = Int32.ofNat e) (h6 : mi 28 6 = Int32.ofNat s) (hse : s < e) (heN : e ≤ N) (h7 : mi 28 7 = Int32.ofNat kd) (hkd : kd < 256) {z : Int32} (hz : bI (decide (kd = 1 ∧ txL T s (e - s) = (wds 2))) = z) (hQ : Q (some (.int z)) (am_shT, mrL b, mi, ml)) : am_wp X (d + 1) 53 0 [.ref 28, .ref 1000003, .retAddr 0] [] (am_shT, mrL b, mi, ml) Q := by
  have hb0 := hT (s + 0)
  have hb1 := hT (s + 1)
  have hb2 := hT (s + 2)
  have hb3 := hT (s + 3)
  have hb4 := hT (s + 4)
  refine wi_aload_n rfl rfl ?_
  refine wi_getIv (v := (Int32.ofNat (kd))) rfl (kd_28 ..) h7 ?_
  refine wi_iconst (x := 1) rfl rfl ?_
  refine wi_icmp_ne rfl (fun g1 => ?_) (fun g1 => ?_)
  · replace g1 := (ne_n (a := kd) (b := 1) rfl (rfl : (1 : Int32) = Int32.ofNat 1) (by omega) (by omega)).mp g1
    refine wi_iconst (x := 0) rfl rfl ?_
    refine wi_iret rfl (by decide) ?_
    have e9 : ¬ (kd = 1 ∧ txL T s (e - s) = (wds 2)) := fun h8 => by
      obtain ⟨h9, h10⟩ := h8
      obtain ⟨h10, h11⟩ := tx_iff.mp h10
      have h12 : e - s = 5 := h10
      omega
    rw [decide_eq_false e9] at hz
    subst hz
    exact hQ
  · replace g1 := (not_congr (ne_n (a := kd) (b := 1) rfl (rfl : (1 : Int32) = Int32.ofNat 1) (by omega) (by omega))).mp g1
    refine wi_aload_n rfl rfl ?_
    refine wi_callV0 rfl (by decide) (by decide) rfl (kd_28 ..) rfl rfl rfl ?_
    refine wi_aload_n rfl rfl ?_
    refine wi_getIv (v := (Int32.ofNat (e))) rfl (kd_28 ..) h5 ?_
    refine wi_aload_n rfl rfl ?_
    refine wi_getIv (v := (Int32.ofNat (s))) rfl (kd_28 ..) h6 ?_
    refine wn_isub (z := (Int32.ofNat (e - s))) rfl (sub_n (a := e) (b := s) rfl rfl (by omega)) ?_
    refine wi_iret rfl (Or.inl rfl) ?_
    refine wi_aload_n rfl rfl ?_
    refine wi_slen (x := 5) rfl ⟨by decide, by decide⟩ rfl rfl ?_
    refine wi_icmp_eq rfl (fun g2 => ?_) (fun g2 => ?_)
    · replace g2 := (eq_n (a := e - s) (b := 5) rfl (rfl : (5 : Int32) = Int32.ofNat 5) (by omega) (by omega)).mp g2
      refine wi_iconst (x := 0) rfl rfl ?_
      refine wi_istore_n (l' := [.ref 28, .ref 1000003, .int (0 : Int32)]) rfl (Nat.le_of_ble_eq_true rfl) rfl rfl ?_
      refine wi_iload_n rfl rfl ?_
      refine wi_aload_n rfl rfl ?_
      refine wi_slen (x := 5) rfl ⟨by decide, by decide⟩ rfl rfl ?_
      refine wi_icmp_ge rfl (fun h9 => absurd h9 (by decide)) (fun _ => ?_)
      refine wi_aload_n rfl rfl ?_
      refine wi_getR rfl (kd_28 ..) (rd_28_2 _) ?_
      refine wi_aload_n rfl rfl ?_
      refine wi_getIv (v := (Int32.ofNat (s))) rfl (kd_28 ..) h6 ?_
      refine wi_iload_n rfl rfl ?_
      refine wn_iadd (z := (Int32.ofNat (s + 0))) rfl (add_n (a := s) (b := 0) rfl (rfl : (0 : Int32) = Int32.ofNat 0)) ?_
      refine wi_callV1 rfl (by decide) (by decide) rfl (kd_26 ..) rfl rfl rfl (c_byteAt h26 hcnt (by omega) (h27 _ (by omega)) ?_)
      refine wi_aload_n rfl rfl ?_
      refine wi_iload_n rfl rfl ?_
      refine wi_chat (y := 116) rfl ⟨by decide, by decide⟩ rfl (by decide) rfl ?_
      refine wi_icmp_eq rfl (fun g3 => ?_) (fun g3 => ?_)
      · replace g3 := (eq_n (a := T (s + 0)) (b := 116) rfl (rfl : (116 : Int32) = Int32.ofNat 116) (by omega) (by omega)).mp g3
        refine wi_iinc (z := (1 : Int32)) rfl rfl rfl (by decide) rfl ?_
        refine wi_goto rfl ?_
        refine wi_iload_n rfl rfl ?_
        refine wi_aload_n rfl rfl ?_
        refine wi_slen (x := 5) rfl ⟨by decide, by decide⟩ rfl rfl ?_
        refine wi_icmp_ge rfl (fun h9 => absurd h9 (by decide)) (fun _ => ?_)
        refine wi_aload_n rfl rfl ?_
        refine wi_getR rfl (kd_28 ..) (rd_28_2 _) ?_
        refine wi_aload_n rfl rfl ?_
        refine wi_getIv (v := (Int32.ofNat (s))) rfl (kd_28 ..) h6 ?_
        refine wi_iload_n rfl rfl ?_
        refine wn_iadd (z := (Int32.ofNat (s + 1))) rfl (add_n (a := s) (b := 1) rfl (rfl : (1 : Int32) = Int32.ofNat 1)) ?_
        refine wi_callV1 rfl (by decide) (by decide) rfl (kd_26 ..) rfl rfl rfl (c_byteAt h26 hcnt (by omega) (h27 _ (by omega)) ?_)
        refine wi_aload_n rfl rfl ?_
        refine wi_iload_n rfl rfl ?_
        refine wi_chat (y := 104) rfl ⟨by decide, by decide⟩ rfl (by decide) rfl ?_
        refine wi_icmp_eq rfl (fun g4 => ?_) (fun g4 => ?_)
        · replace g4 := (eq_n (a := T (s + 1)) (b := 104) rfl (rfl : (104 : Int32) = Int32.ofNat 104) (by omega) (by omega)).mp g4
          refine wi_iinc (z := (2 : Int32)) rfl rfl rfl (by decide) rfl ?_
          refine wi_goto rfl ?_
          refine wi_iload_n rfl rfl ?_
          refine wi_aload_n rfl rfl ?_
          refine wi_slen (x := 5) rfl ⟨by decide, by decide⟩ rfl rfl ?_
          refine wi_icmp_ge rfl (fun h9 => absurd h9 (by decide)) (fun _ => ?_)
          refine wi_aload_n rfl rfl ?_
          refine wi_getR rfl (kd_28 ..) (rd_28_2 _) ?_
          refine wi_aload_n rfl rfl ?_
          refine wi_getIv (v := (Int32.ofNat (s))) rfl (kd_28 ..) h6 ?_
          refine wi_iload_n rfl rfl ?_
          refine wn_iadd (z := (Int32.ofNat (s + 2))) rfl (add_n (a := s) (b := 2) rfl (rfl : (2 : Int32) = Int32.ofNat 2)) ?_
          refine wi_callV1 rfl (by decide) (by decide) rfl (kd_26 ..) rfl rfl rfl (c_byteAt h26 hcnt (by omega) (h27 _ (by omega)) ?_)
          refine wi_aload_n rfl rfl ?_
          refine wi_iload_n rfl rfl ?_
          refine wi_chat (y := 105) rfl ⟨by decide, by decide⟩ rfl (by decide) rfl ?_
          refine wi_icmp_eq rfl (fun g5 => ?_) (fun g5 => ?_)
          · replace g5 := (eq_n (a := T (s + 2)) (b := 105) rfl (rfl : (105 : Int32) = Int32.ofNat 105) (by omega) (by omega)).mp g5
            refine wi_iinc (z := (3 : Int32)) rfl rfl rfl (by decide) rfl ?_
            refine wi_goto rfl ?_
            refine wi_iload_n rfl rfl ?_
            refine wi_aload_n rfl rfl ?_
            refine wi_slen (x := 5) rfl ⟨by decide, by decide⟩ rfl rfl ?_
            refine wi_icmp_ge rfl (fun h9 => absurd h9 (by decide)) (fun _ => ?_)
            refine wi_aload_n rfl rfl ?_
            refine wi_getR rfl (kd_28 ..) (rd_28_2 _) ?_
            refine wi_aload_n rfl rfl ?_
            refine wi_getIv (v := (Int32.ofNat (s))) rfl (kd_28 ..) h6 ?_
            refine wi_iload_n rfl rfl ?_
            refine wn_iadd (z := (Int32.ofNat (s + 3))) rfl (add_n (a := s) (b := 3) rfl (rfl : (3 : Int32) = Int32.ofNat 3)) ?_
            refine wi_callV1 rfl (by decide) (by decide) rfl (kd_26 ..) rfl rfl rfl (c_byteAt h26 hcnt (by omega) (h27 _ (by omega)) ?_)
            refine wi_aload_n rfl rfl ?_
            refine wi_iload_n rfl rfl ?_
            refine wi_chat (y := 114) rfl ⟨by decide, by decide⟩ rfl (by decide) rfl ?_
            refine wi_icmp_eq rfl (fun g6 => ?_) (fun g6 => ?_)
            · replace g6 := (eq_n (a := T (s + 3)) (b := 114) rfl (rfl : (114 : Int32) = Int32.ofNat 114) (by omega) (by omega)).mp g6
              refine wi_iinc (z := (4 : Int32)) rfl rfl rfl (by decide) rfl ?_
              refine wi_goto rfl ?_
              refine wi_iload_n rfl rfl ?_
              refine wi_aload_n rfl rfl ?_
              refine wi_slen (x := 5) rfl ⟨by decide, by decide⟩ rfl rfl ?_
              refine wi_icmp_ge rfl (fun h9 => absurd h9 (by decide)) (fun _ => ?_)
              refine wi_aload_n rfl rfl ?_
              refine wi_getR rfl (kd_28 ..) (rd_28_2 _) ?_
              refine wi_aload_n rfl rfl ?_
              refine wi_getIv (v := (Int32.ofNat (s))) rfl (kd_28 ..) h6 ?_
              refine wi_iload_n rfl rfl ?_
              refine wn_iadd (z := (Int32.ofNat (s + 4))) rfl (add_n (a := s) (b := 4) rfl (rfl : (4 : Int32) = Int32.ofNat 4)) ?_
              refine wi_callV1 rfl (by decide) (by decide) rfl (kd_26 ..) rfl rfl rfl (c_byteAt h26 hcnt (by omega) (h27 _ (by omega)) ?_)
              refine wi_aload_n rfl rfl ?_
              refine wi_iload_n rfl rfl ?_
              refine wi_chat (y := 100) rfl ⟨by decide, by decide⟩ rfl (by decide) rfl ?_
              refine wi_icmp_eq rfl (fun g7 => ?_) (fun g7 => ?_)
              · replace g7 := (eq_n (a := T (s + 4)) (b := 100) rfl (rfl : (100 : Int32) = Int32.ofNat 100) (by omega) (by omega)).mp g7
                refine wi_iinc (z := (5 : Int32)) rfl rfl rfl (by decide) rfl ?_
                refine wi_goto rfl ?_
                refine wi_iload_n rfl rfl ?_
                refine wi_aload_n rfl rfl ?_
                refine wi_slen (x := 5) rfl ⟨by decide, by decide⟩ rfl rfl ?_
                refine wi_icmp_ge rfl (fun _ => ?_) (fun h9 => absurd (by decide) h9)
                refine wi_iconst (x := 1) rfl rfl ?_
                refine wi_iret rfl (by decide) ?_
                have e9 : (kd = 1 ∧ txL T s (e - s) = (wds 2)) := ⟨by omega, tx_iff.mpr ⟨by show e - s = 5; omega, fun i hi => by
                  have hi9 : i < 5 := by omega
                  rcases i with _ | _ | _ | _ | _ | i
                  · show T (s + 0) = 116
                    omega
                  · show T (s + 1) = 104
                    omega
                  · show T (s + 2) = 105
                    omega
                  · show T (s + 3) = 114
                    omega
                  · show T (s + 4) = 100
                    omega
                  · omega⟩⟩
                rw [decide_eq_true e9] at hz
                subst hz
                exact hQ
              · replace g7 := (not_congr (eq_n (a := T (s + 4)) (b := 100) rfl (rfl : (100 : Int32) = Int32.ofNat 100) (by omega) (by omega))).mp g7
                refine wi_iconst (x := 0) rfl rfl ?_
                refine wi_iret rfl (by decide) ?_
                have e9 : ¬ (kd = 1 ∧ txL T s (e - s) = (wds 2)) := fun h8 => by
                  obtain ⟨h9, h10⟩ := h8
                  obtain ⟨h10, h11⟩ := tx_iff.mp h10
                  have h12 : T (s + 4) = 100 := h11 4 (by have : e - s = 5 := h10; omega)
                  omega
                rw [decide_eq_false e9] at hz
                subst hz
                exact hQ
            · replace g6 := (not_congr (eq_n (a := T (s + 3)) (b := 114) rfl (rfl : (114 : Int32) = Int32.ofNat 114) (by omega) (by omega))).mp g6
              refine wi_iconst (x := 0) rfl rfl ?_
              refine wi_iret rfl (by decide) ?_
              have e9 : ¬ (kd = 1 ∧ txL T s (e - s) = (wds 2)) := fun h8 => by
                obtain ⟨h9, h10⟩ := h8
                obtain ⟨h10, h11⟩ := tx_iff.mp h10
                have h12 : T (s + 3) = 114 := h11 3 (by have : e - s = 5 := h10; omega)
                omega
              rw [decide_eq_false e9] at hz
              subst hz
              exact hQ
          · replace g5 := (not_congr (eq_n (a := T (s + 2)) (b := 105) rfl (rfl : (105 : Int32) = Int32.ofNat 105) (by omega) (by omega))).mp g5
            refine wi_iconst (x := 0) rfl rfl ?_
            refine wi_iret rfl (by decide) ?_
            have e9 : ¬ (kd = 1 ∧ txL T s (e - s) = (wds 2)) := fun h8 => by
              obtain ⟨h9, h10⟩ := h8
              obtain ⟨h10, h11⟩ := tx_iff.mp h10
              have h12 : T (s + 2) = 105 := h11 2 (by have : e - s = 5 := h10; omega)
              omega
            rw [decide_eq_false e9] at hz
            subst hz
            exact hQ
        · replace g4 := (not_congr (eq_n (a := T (s + 1)) (b := 104) rfl (rfl : (104 : Int32) = Int32.ofNat 104) (by omega) (by omega))).mp g4
          refine wi_iconst (x := 0) rfl rfl ?_
          refine wi_iret rfl (by decide) ?_
          have e9 : ¬ (kd = 1 ∧ txL T s (e - s) = (wds 2)) := fun h8 => by
            obtain ⟨h9, h10⟩ := h8
            obtain ⟨h10, h11⟩ := tx_iff.mp h10
            have h12 : T (s + 1) = 104 := h11 1 (by have : e - s = 5 := h10; omega)
            omega
          rw [decide_eq_false e9] at hz
          subst hz
          exact hQ
      · replace g3 := (not_congr (eq_n (a := T (s + 0)) (b := 116) rfl (rfl : (116 : Int32) = Int32.ofNat 116) (by omega) (by omega))).mp g3
        refine wi_iconst (x := 0) rfl rfl ?_
        refine wi_iret rfl (by decide) ?_
        have e9 : ¬ (kd = 1 ∧ txL T s (e - s) = (wds 2)) := fun h8 => by
          obtain ⟨h9, h10⟩ := h8
          obtain ⟨h10, h11⟩ := tx_iff.mp h10
          have h12 : T (s + 0) = 116 := h11 0 (by have : e - s = 5 := h10; omega)
          omega
        rw [decide_eq_false e9] at hz
        subst hz
        exact hQ
    · replace g2 := (not_congr (eq_n (a := e - s) (b := 5) rfl (rfl : (5 : Int32) = Int32.ofNat 5) (by omega) (by omega))).mp g2
      refine wi_iconst (x := 0) rfl rfl ?_
      refine wi_iret rfl (by decide) ?_
      have e9 : ¬ (kd = 1 ∧ txL T s (e - s) = (wds 2)) := fun h8 => by
        obtain ⟨h9, h10⟩ := h8
        obtain ⟨h10, h11⟩ := tx_iff.mp h10
        have h12 : e - s = 5 := h10
        omega
      rw [decide_eq_false e9] at hz
      subst hz
      exact hQ
theorem c_tokIs4 {mi : Nat → Nat → Int32} {s e kd : Nat} (hcnt : cnt ≤ 400) (hN : N ≤ cnt) (hT : ∀ k, T k < 256) (h26 : mi 26 1 = Int32.ofNat cnt) (h27 : ∀ k, k < cnt → mi 27 k = Int32.ofNat (T k)) (h5 : mi 28 5 = Int32.ofNat e) (h6 : mi 28 6 = Int32.ofNat s) (hse : s < e) (heN : e ≤ N) (h7 : mi 28 7 = Int32.ofNat kd) (hkd : kd < 256) {z : Int32} (hz : bI (decide (kd = 1 ∧ txL T s (e - s) = (wds 3))) = z) (hQ : Q (some (.int z)) (am_shT, mrL b, mi, ml)) : am_wp X (d + 1) 53 0 [.ref 28, .ref 1000004, .retAddr 0] [] (am_shT, mrL b, mi, ml) Q := by
  have hb0 := hT (s + 0)
  have hb1 := hT (s + 1)
  have hb2 := hT (s + 2)
  have hb3 := hT (s + 3)
  have hb4 := hT (s + 4)
  refine wi_aload_n rfl rfl ?_
  refine wi_getIv (v := (Int32.ofNat (kd))) rfl (kd_28 ..) h7 ?_
  refine wi_iconst (x := 1) rfl rfl ?_
  refine wi_icmp_ne rfl (fun g1 => ?_) (fun g1 => ?_)
  · replace g1 := (ne_n (a := kd) (b := 1) rfl (rfl : (1 : Int32) = Int32.ofNat 1) (by omega) (by omega)).mp g1
    refine wi_iconst (x := 0) rfl rfl ?_
    refine wi_iret rfl (by decide) ?_
    have e9 : ¬ (kd = 1 ∧ txL T s (e - s) = (wds 3)) := fun h8 => by
      obtain ⟨h9, h10⟩ := h8
      obtain ⟨h10, h11⟩ := tx_iff.mp h10
      have h12 : e - s = 5 := h10
      omega
    rw [decide_eq_false e9] at hz
    subst hz
    exact hQ
  · replace g1 := (not_congr (ne_n (a := kd) (b := 1) rfl (rfl : (1 : Int32) = Int32.ofNat 1) (by omega) (by omega))).mp g1
    refine wi_aload_n rfl rfl ?_
    refine wi_callV0 rfl (by decide) (by decide) rfl (kd_28 ..) rfl rfl rfl ?_
    refine wi_aload_n rfl rfl ?_
    refine wi_getIv (v := (Int32.ofNat (e))) rfl (kd_28 ..) h5 ?_
    refine wi_aload_n rfl rfl ?_
    refine wi_getIv (v := (Int32.ofNat (s))) rfl (kd_28 ..) h6 ?_
    refine wn_isub (z := (Int32.ofNat (e - s))) rfl (sub_n (a := e) (b := s) rfl rfl (by omega)) ?_
    refine wi_iret rfl (Or.inl rfl) ?_
    refine wi_aload_n rfl rfl ?_
    refine wi_slen (x := 5) rfl ⟨by decide, by decide⟩ rfl rfl ?_
    refine wi_icmp_eq rfl (fun g2 => ?_) (fun g2 => ?_)
    · replace g2 := (eq_n (a := e - s) (b := 5) rfl (rfl : (5 : Int32) = Int32.ofNat 5) (by omega) (by omega)).mp g2
      refine wi_iconst (x := 0) rfl rfl ?_
      refine wi_istore_n (l' := [.ref 28, .ref 1000004, .int (0 : Int32)]) rfl (Nat.le_of_ble_eq_true rfl) rfl rfl ?_
      refine wi_iload_n rfl rfl ?_
      refine wi_aload_n rfl rfl ?_
      refine wi_slen (x := 5) rfl ⟨by decide, by decide⟩ rfl rfl ?_
      refine wi_icmp_ge rfl (fun h9 => absurd h9 (by decide)) (fun _ => ?_)
      refine wi_aload_n rfl rfl ?_
      refine wi_getR rfl (kd_28 ..) (rd_28_2 _) ?_
      refine wi_aload_n rfl rfl ?_
      refine wi_getIv (v := (Int32.ofNat (s))) rfl (kd_28 ..) h6 ?_
      refine wi_iload_n rfl rfl ?_
      refine wn_iadd (z := (Int32.ofNat (s + 0))) rfl (add_n (a := s) (b := 0) rfl (rfl : (0 : Int32) = Int32.ofNat 0)) ?_
      refine wi_callV1 rfl (by decide) (by decide) rfl (kd_26 ..) rfl rfl rfl (c_byteAt h26 hcnt (by omega) (h27 _ (by omega)) ?_)
      refine wi_aload_n rfl rfl ?_
      refine wi_iload_n rfl rfl ?_
      refine wi_chat (y := 103) rfl ⟨by decide, by decide⟩ rfl (by decide) rfl ?_
      refine wi_icmp_eq rfl (fun g3 => ?_) (fun g3 => ?_)
      · replace g3 := (eq_n (a := T (s + 0)) (b := 103) rfl (rfl : (103 : Int32) = Int32.ofNat 103) (by omega) (by omega)).mp g3
        refine wi_iinc (z := (1 : Int32)) rfl rfl rfl (by decide) rfl ?_
        refine wi_goto rfl ?_
        refine wi_iload_n rfl rfl ?_
        refine wi_aload_n rfl rfl ?_
        refine wi_slen (x := 5) rfl ⟨by decide, by decide⟩ rfl rfl ?_
        refine wi_icmp_ge rfl (fun h9 => absurd h9 (by decide)) (fun _ => ?_)
        refine wi_aload_n rfl rfl ?_
        refine wi_getR rfl (kd_28 ..) (rd_28_2 _) ?_
        refine wi_aload_n rfl rfl ?_
        refine wi_getIv (v := (Int32.ofNat (s))) rfl (kd_28 ..) h6 ?_
        refine wi_iload_n rfl rfl ?_
        refine wn_iadd (z := (Int32.ofNat (s + 1))) rfl (add_n (a := s) (b := 1) rfl (rfl : (1 : Int32) = Int32.ofNat 1)) ?_
        refine wi_callV1 rfl (by decide) (by decide) rfl (kd_26 ..) rfl rfl rfl (c_byteAt h26 hcnt (by omega) (h27 _ (by omega)) ?_)
        refine wi_aload_n rfl rfl ?_
        refine wi_iload_n rfl rfl ?_
        refine wi_chat (y := 114) rfl ⟨by decide, by decide⟩ rfl (by decide) rfl ?_
        refine wi_icmp_eq rfl (fun g4 => ?_) (fun g4 => ?_)
        · replace g4 := (eq_n (a := T (s + 1)) (b := 114) rfl (rfl : (114 : Int32) = Int32.ofNat 114) (by omega) (by omega)).mp g4
          refine wi_iinc (z := (2 : Int32)) rfl rfl rfl (by decide) rfl ?_
          refine wi_goto rfl ?_
          refine wi_iload_n rfl rfl ?_
          refine wi_aload_n rfl rfl ?_
          refine wi_slen (x := 5) rfl ⟨by decide, by decide⟩ rfl rfl ?_
          refine wi_icmp_ge rfl (fun h9 => absurd h9 (by decide)) (fun _ => ?_)
          refine wi_aload_n rfl rfl ?_
          refine wi_getR rfl (kd_28 ..) (rd_28_2 _) ?_
          refine wi_aload_n rfl rfl ?_
          refine wi_getIv (v := (Int32.ofNat (s))) rfl (kd_28 ..) h6 ?_
          refine wi_iload_n rfl rfl ?_
          refine wn_iadd (z := (Int32.ofNat (s + 2))) rfl (add_n (a := s) (b := 2) rfl (rfl : (2 : Int32) = Int32.ofNat 2)) ?_
          refine wi_callV1 rfl (by decide) (by decide) rfl (kd_26 ..) rfl rfl rfl (c_byteAt h26 hcnt (by omega) (h27 _ (by omega)) ?_)
          refine wi_aload_n rfl rfl ?_
          refine wi_iload_n rfl rfl ?_
          refine wi_chat (y := 97) rfl ⟨by decide, by decide⟩ rfl (by decide) rfl ?_
          refine wi_icmp_eq rfl (fun g5 => ?_) (fun g5 => ?_)
          · replace g5 := (eq_n (a := T (s + 2)) (b := 97) rfl (rfl : (97 : Int32) = Int32.ofNat 97) (by omega) (by omega)).mp g5
            refine wi_iinc (z := (3 : Int32)) rfl rfl rfl (by decide) rfl ?_
            refine wi_goto rfl ?_
            refine wi_iload_n rfl rfl ?_
            refine wi_aload_n rfl rfl ?_
            refine wi_slen (x := 5) rfl ⟨by decide, by decide⟩ rfl rfl ?_
            refine wi_icmp_ge rfl (fun h9 => absurd h9 (by decide)) (fun _ => ?_)
            refine wi_aload_n rfl rfl ?_
            refine wi_getR rfl (kd_28 ..) (rd_28_2 _) ?_
            refine wi_aload_n rfl rfl ?_
            refine wi_getIv (v := (Int32.ofNat (s))) rfl (kd_28 ..) h6 ?_
            refine wi_iload_n rfl rfl ?_
            refine wn_iadd (z := (Int32.ofNat (s + 3))) rfl (add_n (a := s) (b := 3) rfl (rfl : (3 : Int32) = Int32.ofNat 3)) ?_
            refine wi_callV1 rfl (by decide) (by decide) rfl (kd_26 ..) rfl rfl rfl (c_byteAt h26 hcnt (by omega) (h27 _ (by omega)) ?_)
            refine wi_aload_n rfl rfl ?_
            refine wi_iload_n rfl rfl ?_
            refine wi_chat (y := 115) rfl ⟨by decide, by decide⟩ rfl (by decide) rfl ?_
            refine wi_icmp_eq rfl (fun g6 => ?_) (fun g6 => ?_)
            · replace g6 := (eq_n (a := T (s + 3)) (b := 115) rfl (rfl : (115 : Int32) = Int32.ofNat 115) (by omega) (by omega)).mp g6
              refine wi_iinc (z := (4 : Int32)) rfl rfl rfl (by decide) rfl ?_
              refine wi_goto rfl ?_
              refine wi_iload_n rfl rfl ?_
              refine wi_aload_n rfl rfl ?_
              refine wi_slen (x := 5) rfl ⟨by decide, by decide⟩ rfl rfl ?_
              refine wi_icmp_ge rfl (fun h9 => absurd h9 (by decide)) (fun _ => ?_)
              refine wi_aload_n rfl rfl ?_
              refine wi_getR rfl (kd_28 ..) (rd_28_2 _) ?_
              refine wi_aload_n rfl rfl ?_
              refine wi_getIv (v := (Int32.ofNat (s))) rfl (kd_28 ..) h6 ?_
              refine wi_iload_n rfl rfl ?_
              refine wn_iadd (z := (Int32.ofNat (s + 4))) rfl (add_n (a := s) (b := 4) rfl (rfl : (4 : Int32) = Int32.ofNat 4)) ?_
              refine wi_callV1 rfl (by decide) (by decide) rfl (kd_26 ..) rfl rfl rfl (c_byteAt h26 hcnt (by omega) (h27 _ (by omega)) ?_)
              refine wi_aload_n rfl rfl ?_
              refine wi_iload_n rfl rfl ?_
              refine wi_chat (y := 115) rfl ⟨by decide, by decide⟩ rfl (by decide) rfl ?_
              refine wi_icmp_eq rfl (fun g7 => ?_) (fun g7 => ?_)
              · replace g7 := (eq_n (a := T (s + 4)) (b := 115) rfl (rfl : (115 : Int32) = Int32.ofNat 115) (by omega) (by omega)).mp g7
                refine wi_iinc (z := (5 : Int32)) rfl rfl rfl (by decide) rfl ?_
                refine wi_goto rfl ?_
                refine wi_iload_n rfl rfl ?_
                refine wi_aload_n rfl rfl ?_
                refine wi_slen (x := 5) rfl ⟨by decide, by decide⟩ rfl rfl ?_
                refine wi_icmp_ge rfl (fun _ => ?_) (fun h9 => absurd (by decide) h9)
                refine wi_iconst (x := 1) rfl rfl ?_
                refine wi_iret rfl (by decide) ?_
                have e9 : (kd = 1 ∧ txL T s (e - s) = (wds 3)) := ⟨by omega, tx_iff.mpr ⟨by show e - s = 5; omega, fun i hi => by
                  have hi9 : i < 5 := by omega
                  rcases i with _ | _ | _ | _ | _ | i
                  · show T (s + 0) = 103
                    omega
                  · show T (s + 1) = 114
                    omega
                  · show T (s + 2) = 97
                    omega
                  · show T (s + 3) = 115
                    omega
                  · show T (s + 4) = 115
                    omega
                  · omega⟩⟩
                rw [decide_eq_true e9] at hz
                subst hz
                exact hQ
              · replace g7 := (not_congr (eq_n (a := T (s + 4)) (b := 115) rfl (rfl : (115 : Int32) = Int32.ofNat 115) (by omega) (by omega))).mp g7
                refine wi_iconst (x := 0) rfl rfl ?_
                refine wi_iret rfl (by decide) ?_
                have e9 : ¬ (kd = 1 ∧ txL T s (e - s) = (wds 3)) := fun h8 => by
                  obtain ⟨h9, h10⟩ := h8
                  obtain ⟨h10, h11⟩ := tx_iff.mp h10
                  have h12 : T (s + 4) = 115 := h11 4 (by have : e - s = 5 := h10; omega)
                  omega
                rw [decide_eq_false e9] at hz
                subst hz
                exact hQ
            · replace g6 := (not_congr (eq_n (a := T (s + 3)) (b := 115) rfl (rfl : (115 : Int32) = Int32.ofNat 115) (by omega) (by omega))).mp g6
              refine wi_iconst (x := 0) rfl rfl ?_
              refine wi_iret rfl (by decide) ?_
              have e9 : ¬ (kd = 1 ∧ txL T s (e - s) = (wds 3)) := fun h8 => by
                obtain ⟨h9, h10⟩ := h8
                obtain ⟨h10, h11⟩ := tx_iff.mp h10
                have h12 : T (s + 3) = 115 := h11 3 (by have : e - s = 5 := h10; omega)
                omega
              rw [decide_eq_false e9] at hz
              subst hz
              exact hQ
          · replace g5 := (not_congr (eq_n (a := T (s + 2)) (b := 97) rfl (rfl : (97 : Int32) = Int32.ofNat 97) (by omega) (by omega))).mp g5
            refine wi_iconst (x := 0) rfl rfl ?_
            refine wi_iret rfl (by decide) ?_
            have e9 : ¬ (kd = 1 ∧ txL T s (e - s) = (wds 3)) := fun h8 => by
              obtain ⟨h9, h10⟩ := h8
              obtain ⟨h10, h11⟩ := tx_iff.mp h10
              have h12 : T (s + 2) = 97 := h11 2 (by have : e - s = 5 := h10; omega)
              omega
            rw [decide_eq_false e9] at hz
            subst hz
            exact hQ
        · replace g4 := (not_congr (eq_n (a := T (s + 1)) (b := 114) rfl (rfl : (114 : Int32) = Int32.ofNat 114) (by omega) (by omega))).mp g4
          refine wi_iconst (x := 0) rfl rfl ?_
          refine wi_iret rfl (by decide) ?_
          have e9 : ¬ (kd = 1 ∧ txL T s (e - s) = (wds 3)) := fun h8 => by
            obtain ⟨h9, h10⟩ := h8
            obtain ⟨h10, h11⟩ := tx_iff.mp h10
            have h12 : T (s + 1) = 114 := h11 1 (by have : e - s = 5 := h10; omega)
            omega
          rw [decide_eq_false e9] at hz
          subst hz
          exact hQ
      · replace g3 := (not_congr (eq_n (a := T (s + 0)) (b := 103) rfl (rfl : (103 : Int32) = Int32.ofNat 103) (by omega) (by omega))).mp g3
        refine wi_iconst (x := 0) rfl rfl ?_
        refine wi_iret rfl (by decide) ?_
        have e9 : ¬ (kd = 1 ∧ txL T s (e - s) = (wds 3)) := fun h8 => by
          obtain ⟨h9, h10⟩ := h8
          obtain ⟨h10, h11⟩ := tx_iff.mp h10
          have h12 : T (s + 0) = 103 := h11 0 (by have : e - s = 5 := h10; omega)
          omega
        rw [decide_eq_false e9] at hz
        subst hz
        exact hQ
    · replace g2 := (not_congr (eq_n (a := e - s) (b := 5) rfl (rfl : (5 : Int32) = Int32.ofNat 5) (by omega) (by omega))).mp g2
      refine wi_iconst (x := 0) rfl rfl ?_
      refine wi_iret rfl (by decide) ?_
      have e9 : ¬ (kd = 1 ∧ txL T s (e - s) = (wds 3)) := fun h8 => by
        obtain ⟨h9, h10⟩ := h8
        obtain ⟨h10, h11⟩ := tx_iff.mp h10
        have h12 : e - s = 5 := h10
        omega
      rw [decide_eq_false e9] at hz
      subst hz
      exact hQ
theorem c_tokIs5 {mi : Nat → Nat → Int32} {s e kd : Nat} (hcnt : cnt ≤ 400) (hN : N ≤ cnt) (hT : ∀ k, T k < 256) (h26 : mi 26 1 = Int32.ofNat cnt) (h27 : ∀ k, k < cnt → mi 27 k = Int32.ofNat (T k)) (h5 : mi 28 5 = Int32.ofNat e) (h6 : mi 28 6 = Int32.ofNat s) (hse : s < e) (heN : e ≤ N) (h7 : mi 28 7 = Int32.ofNat kd) (hkd : kd < 256) {z : Int32} (hz : bI (decide (kd = 1 ∧ txL T s (e - s) = (wds 4))) = z) (hQ : Q (some (.int z)) (am_shT, mrL b, mi, ml)) : am_wp X (d + 1) 53 0 [.ref 28, .ref 1000005, .retAddr 0] [] (am_shT, mrL b, mi, ml) Q := by
  have hb0 := hT (s + 0)
  have hb1 := hT (s + 1)
  have hb2 := hT (s + 2)
  have hb3 := hT (s + 3)
  refine wi_aload_n rfl rfl ?_
  refine wi_getIv (v := (Int32.ofNat (kd))) rfl (kd_28 ..) h7 ?_
  refine wi_iconst (x := 1) rfl rfl ?_
  refine wi_icmp_ne rfl (fun g1 => ?_) (fun g1 => ?_)
  · replace g1 := (ne_n (a := kd) (b := 1) rfl (rfl : (1 : Int32) = Int32.ofNat 1) (by omega) (by omega)).mp g1
    refine wi_iconst (x := 0) rfl rfl ?_
    refine wi_iret rfl (by decide) ?_
    have e9 : ¬ (kd = 1 ∧ txL T s (e - s) = (wds 4)) := fun h8 => by
      obtain ⟨h9, h10⟩ := h8
      obtain ⟨h10, h11⟩ := tx_iff.mp h10
      have h12 : e - s = 4 := h10
      omega
    rw [decide_eq_false e9] at hz
    subst hz
    exact hQ
  · replace g1 := (not_congr (ne_n (a := kd) (b := 1) rfl (rfl : (1 : Int32) = Int32.ofNat 1) (by omega) (by omega))).mp g1
    refine wi_aload_n rfl rfl ?_
    refine wi_callV0 rfl (by decide) (by decide) rfl (kd_28 ..) rfl rfl rfl ?_
    refine wi_aload_n rfl rfl ?_
    refine wi_getIv (v := (Int32.ofNat (e))) rfl (kd_28 ..) h5 ?_
    refine wi_aload_n rfl rfl ?_
    refine wi_getIv (v := (Int32.ofNat (s))) rfl (kd_28 ..) h6 ?_
    refine wn_isub (z := (Int32.ofNat (e - s))) rfl (sub_n (a := e) (b := s) rfl rfl (by omega)) ?_
    refine wi_iret rfl (Or.inl rfl) ?_
    refine wi_aload_n rfl rfl ?_
    refine wi_slen (x := 4) rfl ⟨by decide, by decide⟩ rfl rfl ?_
    refine wi_icmp_eq rfl (fun g2 => ?_) (fun g2 => ?_)
    · replace g2 := (eq_n (a := e - s) (b := 4) rfl (rfl : (4 : Int32) = Int32.ofNat 4) (by omega) (by omega)).mp g2
      refine wi_iconst (x := 0) rfl rfl ?_
      refine wi_istore_n (l' := [.ref 28, .ref 1000005, .int (0 : Int32)]) rfl (Nat.le_of_ble_eq_true rfl) rfl rfl ?_
      refine wi_iload_n rfl rfl ?_
      refine wi_aload_n rfl rfl ?_
      refine wi_slen (x := 4) rfl ⟨by decide, by decide⟩ rfl rfl ?_
      refine wi_icmp_ge rfl (fun h9 => absurd h9 (by decide)) (fun _ => ?_)
      refine wi_aload_n rfl rfl ?_
      refine wi_getR rfl (kd_28 ..) (rd_28_2 _) ?_
      refine wi_aload_n rfl rfl ?_
      refine wi_getIv (v := (Int32.ofNat (s))) rfl (kd_28 ..) h6 ?_
      refine wi_iload_n rfl rfl ?_
      refine wn_iadd (z := (Int32.ofNat (s + 0))) rfl (add_n (a := s) (b := 0) rfl (rfl : (0 : Int32) = Int32.ofNat 0)) ?_
      refine wi_callV1 rfl (by decide) (by decide) rfl (kd_26 ..) rfl rfl rfl (c_byteAt h26 hcnt (by omega) (h27 _ (by omega)) ?_)
      refine wi_aload_n rfl rfl ?_
      refine wi_iload_n rfl rfl ?_
      refine wi_chat (y := 104) rfl ⟨by decide, by decide⟩ rfl (by decide) rfl ?_
      refine wi_icmp_eq rfl (fun g3 => ?_) (fun g3 => ?_)
      · replace g3 := (eq_n (a := T (s + 0)) (b := 104) rfl (rfl : (104 : Int32) = Int32.ofNat 104) (by omega) (by omega)).mp g3
        refine wi_iinc (z := (1 : Int32)) rfl rfl rfl (by decide) rfl ?_
        refine wi_goto rfl ?_
        refine wi_iload_n rfl rfl ?_
        refine wi_aload_n rfl rfl ?_
        refine wi_slen (x := 4) rfl ⟨by decide, by decide⟩ rfl rfl ?_
        refine wi_icmp_ge rfl (fun h9 => absurd h9 (by decide)) (fun _ => ?_)
        refine wi_aload_n rfl rfl ?_
        refine wi_getR rfl (kd_28 ..) (rd_28_2 _) ?_
        refine wi_aload_n rfl rfl ?_
        refine wi_getIv (v := (Int32.ofNat (s))) rfl (kd_28 ..) h6 ?_
        refine wi_iload_n rfl rfl ?_
        refine wn_iadd (z := (Int32.ofNat (s + 1))) rfl (add_n (a := s) (b := 1) rfl (rfl : (1 : Int32) = Int32.ofNat 1)) ?_
        refine wi_callV1 rfl (by decide) (by decide) rfl (kd_26 ..) rfl rfl rfl (c_byteAt h26 hcnt (by omega) (h27 _ (by omega)) ?_)
        refine wi_aload_n rfl rfl ?_
        refine wi_iload_n rfl rfl ?_
        refine wi_chat (y := 97) rfl ⟨by decide, by decide⟩ rfl (by decide) rfl ?_
        refine wi_icmp_eq rfl (fun g4 => ?_) (fun g4 => ?_)
        · replace g4 := (eq_n (a := T (s + 1)) (b := 97) rfl (rfl : (97 : Int32) = Int32.ofNat 97) (by omega) (by omega)).mp g4
          refine wi_iinc (z := (2 : Int32)) rfl rfl rfl (by decide) rfl ?_
          refine wi_goto rfl ?_
          refine wi_iload_n rfl rfl ?_
          refine wi_aload_n rfl rfl ?_
          refine wi_slen (x := 4) rfl ⟨by decide, by decide⟩ rfl rfl ?_
          refine wi_icmp_ge rfl (fun h9 => absurd h9 (by decide)) (fun _ => ?_)
          refine wi_aload_n rfl rfl ?_
          refine wi_getR rfl (kd_28 ..) (rd_28_2 _) ?_
          refine wi_aload_n rfl rfl ?_
          refine wi_getIv (v := (Int32.ofNat (s))) rfl (kd_28 ..) h6 ?_
          refine wi_iload_n rfl rfl ?_
          refine wn_iadd (z := (Int32.ofNat (s + 2))) rfl (add_n (a := s) (b := 2) rfl (rfl : (2 : Int32) = Int32.ofNat 2)) ?_
          refine wi_callV1 rfl (by decide) (by decide) rfl (kd_26 ..) rfl rfl rfl (c_byteAt h26 hcnt (by omega) (h27 _ (by omega)) ?_)
          refine wi_aload_n rfl rfl ?_
          refine wi_iload_n rfl rfl ?_
          refine wi_chat (y := 114) rfl ⟨by decide, by decide⟩ rfl (by decide) rfl ?_
          refine wi_icmp_eq rfl (fun g5 => ?_) (fun g5 => ?_)
          · replace g5 := (eq_n (a := T (s + 2)) (b := 114) rfl (rfl : (114 : Int32) = Int32.ofNat 114) (by omega) (by omega)).mp g5
            refine wi_iinc (z := (3 : Int32)) rfl rfl rfl (by decide) rfl ?_
            refine wi_goto rfl ?_
            refine wi_iload_n rfl rfl ?_
            refine wi_aload_n rfl rfl ?_
            refine wi_slen (x := 4) rfl ⟨by decide, by decide⟩ rfl rfl ?_
            refine wi_icmp_ge rfl (fun h9 => absurd h9 (by decide)) (fun _ => ?_)
            refine wi_aload_n rfl rfl ?_
            refine wi_getR rfl (kd_28 ..) (rd_28_2 _) ?_
            refine wi_aload_n rfl rfl ?_
            refine wi_getIv (v := (Int32.ofNat (s))) rfl (kd_28 ..) h6 ?_
            refine wi_iload_n rfl rfl ?_
            refine wn_iadd (z := (Int32.ofNat (s + 3))) rfl (add_n (a := s) (b := 3) rfl (rfl : (3 : Int32) = Int32.ofNat 3)) ?_
            refine wi_callV1 rfl (by decide) (by decide) rfl (kd_26 ..) rfl rfl rfl (c_byteAt h26 hcnt (by omega) (h27 _ (by omega)) ?_)
            refine wi_aload_n rfl rfl ?_
            refine wi_iload_n rfl rfl ?_
            refine wi_chat (y := 100) rfl ⟨by decide, by decide⟩ rfl (by decide) rfl ?_
            refine wi_icmp_eq rfl (fun g6 => ?_) (fun g6 => ?_)
            · replace g6 := (eq_n (a := T (s + 3)) (b := 100) rfl (rfl : (100 : Int32) = Int32.ofNat 100) (by omega) (by omega)).mp g6
              refine wi_iinc (z := (4 : Int32)) rfl rfl rfl (by decide) rfl ?_
              refine wi_goto rfl ?_
              refine wi_iload_n rfl rfl ?_
              refine wi_aload_n rfl rfl ?_
              refine wi_slen (x := 4) rfl ⟨by decide, by decide⟩ rfl rfl ?_
              refine wi_icmp_ge rfl (fun _ => ?_) (fun h9 => absurd (by decide) h9)
              refine wi_iconst (x := 1) rfl rfl ?_
              refine wi_iret rfl (by decide) ?_
              have e9 : (kd = 1 ∧ txL T s (e - s) = (wds 4)) := ⟨by omega, tx_iff.mpr ⟨by show e - s = 4; omega, fun i hi => by
                have hi9 : i < 4 := by omega
                rcases i with _ | _ | _ | _ | i
                · show T (s + 0) = 104
                  omega
                · show T (s + 1) = 97
                  omega
                · show T (s + 2) = 114
                  omega
                · show T (s + 3) = 100
                  omega
                · omega⟩⟩
              rw [decide_eq_true e9] at hz
              subst hz
              exact hQ
            · replace g6 := (not_congr (eq_n (a := T (s + 3)) (b := 100) rfl (rfl : (100 : Int32) = Int32.ofNat 100) (by omega) (by omega))).mp g6
              refine wi_iconst (x := 0) rfl rfl ?_
              refine wi_iret rfl (by decide) ?_
              have e9 : ¬ (kd = 1 ∧ txL T s (e - s) = (wds 4)) := fun h8 => by
                obtain ⟨h9, h10⟩ := h8
                obtain ⟨h10, h11⟩ := tx_iff.mp h10
                have h12 : T (s + 3) = 100 := h11 3 (by have : e - s = 4 := h10; omega)
                omega
              rw [decide_eq_false e9] at hz
              subst hz
              exact hQ
          · replace g5 := (not_congr (eq_n (a := T (s + 2)) (b := 114) rfl (rfl : (114 : Int32) = Int32.ofNat 114) (by omega) (by omega))).mp g5
            refine wi_iconst (x := 0) rfl rfl ?_
            refine wi_iret rfl (by decide) ?_
            have e9 : ¬ (kd = 1 ∧ txL T s (e - s) = (wds 4)) := fun h8 => by
              obtain ⟨h9, h10⟩ := h8
              obtain ⟨h10, h11⟩ := tx_iff.mp h10
              have h12 : T (s + 2) = 114 := h11 2 (by have : e - s = 4 := h10; omega)
              omega
            rw [decide_eq_false e9] at hz
            subst hz
            exact hQ
        · replace g4 := (not_congr (eq_n (a := T (s + 1)) (b := 97) rfl (rfl : (97 : Int32) = Int32.ofNat 97) (by omega) (by omega))).mp g4
          refine wi_iconst (x := 0) rfl rfl ?_
          refine wi_iret rfl (by decide) ?_
          have e9 : ¬ (kd = 1 ∧ txL T s (e - s) = (wds 4)) := fun h8 => by
            obtain ⟨h9, h10⟩ := h8
            obtain ⟨h10, h11⟩ := tx_iff.mp h10
            have h12 : T (s + 1) = 97 := h11 1 (by have : e - s = 4 := h10; omega)
            omega
          rw [decide_eq_false e9] at hz
          subst hz
          exact hQ
      · replace g3 := (not_congr (eq_n (a := T (s + 0)) (b := 104) rfl (rfl : (104 : Int32) = Int32.ofNat 104) (by omega) (by omega))).mp g3
        refine wi_iconst (x := 0) rfl rfl ?_
        refine wi_iret rfl (by decide) ?_
        have e9 : ¬ (kd = 1 ∧ txL T s (e - s) = (wds 4)) := fun h8 => by
          obtain ⟨h9, h10⟩ := h8
          obtain ⟨h10, h11⟩ := tx_iff.mp h10
          have h12 : T (s + 0) = 104 := h11 0 (by have : e - s = 4 := h10; omega)
          omega
        rw [decide_eq_false e9] at hz
        subst hz
        exact hQ
    · replace g2 := (not_congr (eq_n (a := e - s) (b := 4) rfl (rfl : (4 : Int32) = Int32.ofNat 4) (by omega) (by omega))).mp g2
      refine wi_iconst (x := 0) rfl rfl ?_
      refine wi_iret rfl (by decide) ?_
      have e9 : ¬ (kd = 1 ∧ txL T s (e - s) = (wds 4)) := fun h8 => by
        obtain ⟨h9, h10⟩ := h8
        obtain ⟨h10, h11⟩ := tx_iff.mp h10
        have h12 : e - s = 4 := h10
        omega
      rw [decide_eq_false e9] at hz
      subst hz
      exact hQ
theorem c_tokIs6 {mi : Nat → Nat → Int32} {s e kd : Nat} (hcnt : cnt ≤ 400) (hN : N ≤ cnt) (hT : ∀ k, T k < 256) (h26 : mi 26 1 = Int32.ofNat cnt) (h27 : ∀ k, k < cnt → mi 27 k = Int32.ofNat (T k)) (h5 : mi 28 5 = Int32.ofNat e) (h6 : mi 28 6 = Int32.ofNat s) (hse : s < e) (heN : e ≤ N) (h7 : mi 28 7 = Int32.ofNat kd) (hkd : kd < 256) {z : Int32} (hz : bI (decide (kd = 1 ∧ txL T s (e - s) = (wds 5))) = z) (hQ : Q (some (.int z)) (am_shT, mrL b, mi, ml)) : am_wp X (d + 1) 53 0 [.ref 28, .ref 1000006, .retAddr 0] [] (am_shT, mrL b, mi, ml) Q := by
  have hb0 := hT (s + 0)
  have hb1 := hT (s + 1)
  have hb2 := hT (s + 2)
  have hb3 := hT (s + 3)
  refine wi_aload_n rfl rfl ?_
  refine wi_getIv (v := (Int32.ofNat (kd))) rfl (kd_28 ..) h7 ?_
  refine wi_iconst (x := 1) rfl rfl ?_
  refine wi_icmp_ne rfl (fun g1 => ?_) (fun g1 => ?_)
  · replace g1 := (ne_n (a := kd) (b := 1) rfl (rfl : (1 : Int32) = Int32.ofNat 1) (by omega) (by omega)).mp g1
    refine wi_iconst (x := 0) rfl rfl ?_
    refine wi_iret rfl (by decide) ?_
    have e9 : ¬ (kd = 1 ∧ txL T s (e - s) = (wds 5)) := fun h8 => by
      obtain ⟨h9, h10⟩ := h8
      obtain ⟨h10, h11⟩ := tx_iff.mp h10
      have h12 : e - s = 4 := h10
      omega
    rw [decide_eq_false e9] at hz
    subst hz
    exact hQ
  · replace g1 := (not_congr (ne_n (a := kd) (b := 1) rfl (rfl : (1 : Int32) = Int32.ofNat 1) (by omega) (by omega))).mp g1
    refine wi_aload_n rfl rfl ?_
    refine wi_callV0 rfl (by decide) (by decide) rfl (kd_28 ..) rfl rfl rfl ?_
    refine wi_aload_n rfl rfl ?_
    refine wi_getIv (v := (Int32.ofNat (e))) rfl (kd_28 ..) h5 ?_
    refine wi_aload_n rfl rfl ?_
    refine wi_getIv (v := (Int32.ofNat (s))) rfl (kd_28 ..) h6 ?_
    refine wn_isub (z := (Int32.ofNat (e - s))) rfl (sub_n (a := e) (b := s) rfl rfl (by omega)) ?_
    refine wi_iret rfl (Or.inl rfl) ?_
    refine wi_aload_n rfl rfl ?_
    refine wi_slen (x := 4) rfl ⟨by decide, by decide⟩ rfl rfl ?_
    refine wi_icmp_eq rfl (fun g2 => ?_) (fun g2 => ?_)
    · replace g2 := (eq_n (a := e - s) (b := 4) rfl (rfl : (4 : Int32) = Int32.ofNat 4) (by omega) (by omega)).mp g2
      refine wi_iconst (x := 0) rfl rfl ?_
      refine wi_istore_n (l' := [.ref 28, .ref 1000006, .int (0 : Int32)]) rfl (Nat.le_of_ble_eq_true rfl) rfl rfl ?_
      refine wi_iload_n rfl rfl ?_
      refine wi_aload_n rfl rfl ?_
      refine wi_slen (x := 4) rfl ⟨by decide, by decide⟩ rfl rfl ?_
      refine wi_icmp_ge rfl (fun h9 => absurd h9 (by decide)) (fun _ => ?_)
      refine wi_aload_n rfl rfl ?_
      refine wi_getR rfl (kd_28 ..) (rd_28_2 _) ?_
      refine wi_aload_n rfl rfl ?_
      refine wi_getIv (v := (Int32.ofNat (s))) rfl (kd_28 ..) h6 ?_
      refine wi_iload_n rfl rfl ?_
      refine wn_iadd (z := (Int32.ofNat (s + 0))) rfl (add_n (a := s) (b := 0) rfl (rfl : (0 : Int32) = Int32.ofNat 0)) ?_
      refine wi_callV1 rfl (by decide) (by decide) rfl (kd_26 ..) rfl rfl rfl (c_byteAt h26 hcnt (by omega) (h27 _ (by omega)) ?_)
      refine wi_aload_n rfl rfl ?_
      refine wi_iload_n rfl rfl ?_
      refine wi_chat (y := 119) rfl ⟨by decide, by decide⟩ rfl (by decide) rfl ?_
      refine wi_icmp_eq rfl (fun g3 => ?_) (fun g3 => ?_)
      · replace g3 := (eq_n (a := T (s + 0)) (b := 119) rfl (rfl : (119 : Int32) = Int32.ofNat 119) (by omega) (by omega)).mp g3
        refine wi_iinc (z := (1 : Int32)) rfl rfl rfl (by decide) rfl ?_
        refine wi_goto rfl ?_
        refine wi_iload_n rfl rfl ?_
        refine wi_aload_n rfl rfl ?_
        refine wi_slen (x := 4) rfl ⟨by decide, by decide⟩ rfl rfl ?_
        refine wi_icmp_ge rfl (fun h9 => absurd h9 (by decide)) (fun _ => ?_)
        refine wi_aload_n rfl rfl ?_
        refine wi_getR rfl (kd_28 ..) (rd_28_2 _) ?_
        refine wi_aload_n rfl rfl ?_
        refine wi_getIv (v := (Int32.ofNat (s))) rfl (kd_28 ..) h6 ?_
        refine wi_iload_n rfl rfl ?_
        refine wn_iadd (z := (Int32.ofNat (s + 1))) rfl (add_n (a := s) (b := 1) rfl (rfl : (1 : Int32) = Int32.ofNat 1)) ?_
        refine wi_callV1 rfl (by decide) (by decide) rfl (kd_26 ..) rfl rfl rfl (c_byteAt h26 hcnt (by omega) (h27 _ (by omega)) ?_)
        refine wi_aload_n rfl rfl ?_
        refine wi_iload_n rfl rfl ?_
        refine wi_chat (y := 101) rfl ⟨by decide, by decide⟩ rfl (by decide) rfl ?_
        refine wi_icmp_eq rfl (fun g4 => ?_) (fun g4 => ?_)
        · replace g4 := (eq_n (a := T (s + 1)) (b := 101) rfl (rfl : (101 : Int32) = Int32.ofNat 101) (by omega) (by omega)).mp g4
          refine wi_iinc (z := (2 : Int32)) rfl rfl rfl (by decide) rfl ?_
          refine wi_goto rfl ?_
          refine wi_iload_n rfl rfl ?_
          refine wi_aload_n rfl rfl ?_
          refine wi_slen (x := 4) rfl ⟨by decide, by decide⟩ rfl rfl ?_
          refine wi_icmp_ge rfl (fun h9 => absurd h9 (by decide)) (fun _ => ?_)
          refine wi_aload_n rfl rfl ?_
          refine wi_getR rfl (kd_28 ..) (rd_28_2 _) ?_
          refine wi_aload_n rfl rfl ?_
          refine wi_getIv (v := (Int32.ofNat (s))) rfl (kd_28 ..) h6 ?_
          refine wi_iload_n rfl rfl ?_
          refine wn_iadd (z := (Int32.ofNat (s + 2))) rfl (add_n (a := s) (b := 2) rfl (rfl : (2 : Int32) = Int32.ofNat 2)) ?_
          refine wi_callV1 rfl (by decide) (by decide) rfl (kd_26 ..) rfl rfl rfl (c_byteAt h26 hcnt (by omega) (h27 _ (by omega)) ?_)
          refine wi_aload_n rfl rfl ?_
          refine wi_iload_n rfl rfl ?_
          refine wi_chat (y := 97) rfl ⟨by decide, by decide⟩ rfl (by decide) rfl ?_
          refine wi_icmp_eq rfl (fun g5 => ?_) (fun g5 => ?_)
          · replace g5 := (eq_n (a := T (s + 2)) (b := 97) rfl (rfl : (97 : Int32) = Int32.ofNat 97) (by omega) (by omega)).mp g5
            refine wi_iinc (z := (3 : Int32)) rfl rfl rfl (by decide) rfl ?_
            refine wi_goto rfl ?_
            refine wi_iload_n rfl rfl ?_
            refine wi_aload_n rfl rfl ?_
            refine wi_slen (x := 4) rfl ⟨by decide, by decide⟩ rfl rfl ?_
            refine wi_icmp_ge rfl (fun h9 => absurd h9 (by decide)) (fun _ => ?_)
            refine wi_aload_n rfl rfl ?_
            refine wi_getR rfl (kd_28 ..) (rd_28_2 _) ?_
            refine wi_aload_n rfl rfl ?_
            refine wi_getIv (v := (Int32.ofNat (s))) rfl (kd_28 ..) h6 ?_
            refine wi_iload_n rfl rfl ?_
            refine wn_iadd (z := (Int32.ofNat (s + 3))) rfl (add_n (a := s) (b := 3) rfl (rfl : (3 : Int32) = Int32.ofNat 3)) ?_
            refine wi_callV1 rfl (by decide) (by decide) rfl (kd_26 ..) rfl rfl rfl (c_byteAt h26 hcnt (by omega) (h27 _ (by omega)) ?_)
            refine wi_aload_n rfl rfl ?_
            refine wi_iload_n rfl rfl ?_
            refine wi_chat (y := 114) rfl ⟨by decide, by decide⟩ rfl (by decide) rfl ?_
            refine wi_icmp_eq rfl (fun g6 => ?_) (fun g6 => ?_)
            · replace g6 := (eq_n (a := T (s + 3)) (b := 114) rfl (rfl : (114 : Int32) = Int32.ofNat 114) (by omega) (by omega)).mp g6
              refine wi_iinc (z := (4 : Int32)) rfl rfl rfl (by decide) rfl ?_
              refine wi_goto rfl ?_
              refine wi_iload_n rfl rfl ?_
              refine wi_aload_n rfl rfl ?_
              refine wi_slen (x := 4) rfl ⟨by decide, by decide⟩ rfl rfl ?_
              refine wi_icmp_ge rfl (fun _ => ?_) (fun h9 => absurd (by decide) h9)
              refine wi_iconst (x := 1) rfl rfl ?_
              refine wi_iret rfl (by decide) ?_
              have e9 : (kd = 1 ∧ txL T s (e - s) = (wds 5)) := ⟨by omega, tx_iff.mpr ⟨by show e - s = 4; omega, fun i hi => by
                have hi9 : i < 4 := by omega
                rcases i with _ | _ | _ | _ | i
                · show T (s + 0) = 119
                  omega
                · show T (s + 1) = 101
                  omega
                · show T (s + 2) = 97
                  omega
                · show T (s + 3) = 114
                  omega
                · omega⟩⟩
              rw [decide_eq_true e9] at hz
              subst hz
              exact hQ
            · replace g6 := (not_congr (eq_n (a := T (s + 3)) (b := 114) rfl (rfl : (114 : Int32) = Int32.ofNat 114) (by omega) (by omega))).mp g6
              refine wi_iconst (x := 0) rfl rfl ?_
              refine wi_iret rfl (by decide) ?_
              have e9 : ¬ (kd = 1 ∧ txL T s (e - s) = (wds 5)) := fun h8 => by
                obtain ⟨h9, h10⟩ := h8
                obtain ⟨h10, h11⟩ := tx_iff.mp h10
                have h12 : T (s + 3) = 114 := h11 3 (by have : e - s = 4 := h10; omega)
                omega
              rw [decide_eq_false e9] at hz
              subst hz
              exact hQ
          · replace g5 := (not_congr (eq_n (a := T (s + 2)) (b := 97) rfl (rfl : (97 : Int32) = Int32.ofNat 97) (by omega) (by omega))).mp g5
            refine wi_iconst (x := 0) rfl rfl ?_
            refine wi_iret rfl (by decide) ?_
            have e9 : ¬ (kd = 1 ∧ txL T s (e - s) = (wds 5)) := fun h8 => by
              obtain ⟨h9, h10⟩ := h8
              obtain ⟨h10, h11⟩ := tx_iff.mp h10
              have h12 : T (s + 2) = 97 := h11 2 (by have : e - s = 4 := h10; omega)
              omega
            rw [decide_eq_false e9] at hz
            subst hz
            exact hQ
        · replace g4 := (not_congr (eq_n (a := T (s + 1)) (b := 101) rfl (rfl : (101 : Int32) = Int32.ofNat 101) (by omega) (by omega))).mp g4
          refine wi_iconst (x := 0) rfl rfl ?_
          refine wi_iret rfl (by decide) ?_
          have e9 : ¬ (kd = 1 ∧ txL T s (e - s) = (wds 5)) := fun h8 => by
            obtain ⟨h9, h10⟩ := h8
            obtain ⟨h10, h11⟩ := tx_iff.mp h10
            have h12 : T (s + 1) = 101 := h11 1 (by have : e - s = 4 := h10; omega)
            omega
          rw [decide_eq_false e9] at hz
          subst hz
          exact hQ
      · replace g3 := (not_congr (eq_n (a := T (s + 0)) (b := 119) rfl (rfl : (119 : Int32) = Int32.ofNat 119) (by omega) (by omega))).mp g3
        refine wi_iconst (x := 0) rfl rfl ?_
        refine wi_iret rfl (by decide) ?_
        have e9 : ¬ (kd = 1 ∧ txL T s (e - s) = (wds 5)) := fun h8 => by
          obtain ⟨h9, h10⟩ := h8
          obtain ⟨h10, h11⟩ := tx_iff.mp h10
          have h12 : T (s + 0) = 119 := h11 0 (by have : e - s = 4 := h10; omega)
          omega
        rw [decide_eq_false e9] at hz
        subst hz
        exact hQ
    · replace g2 := (not_congr (eq_n (a := e - s) (b := 4) rfl (rfl : (4 : Int32) = Int32.ofNat 4) (by omega) (by omega))).mp g2
      refine wi_iconst (x := 0) rfl rfl ?_
      refine wi_iret rfl (by decide) ?_
      have e9 : ¬ (kd = 1 ∧ txL T s (e - s) = (wds 5)) := fun h8 => by
        obtain ⟨h9, h10⟩ := h8
        obtain ⟨h10, h11⟩ := tx_iff.mp h10
        have h12 : e - s = 4 := h10
        omega
      rw [decide_eq_false e9] at hz
      subst hz
      exact hQ
theorem c_tokIs7 {mi : Nat → Nat → Int32} {s e kd : Nat} (hcnt : cnt ≤ 400) (hN : N ≤ cnt) (hT : ∀ k, T k < 256) (h26 : mi 26 1 = Int32.ofNat cnt) (h27 : ∀ k, k < cnt → mi 27 k = Int32.ofNat (T k)) (h5 : mi 28 5 = Int32.ofNat e) (h6 : mi 28 6 = Int32.ofNat s) (hse : s < e) (heN : e ≤ N) (h7 : mi 28 7 = Int32.ofNat kd) (hkd : kd < 256) {z : Int32} (hz : bI (decide (kd = 1 ∧ txL T s (e - s) = (wds 6))) = z) (hQ : Q (some (.int z)) (am_shT, mrL b, mi, ml)) : am_wp X (d + 1) 53 0 [.ref 28, .ref 1000007, .retAddr 0] [] (am_shT, mrL b, mi, ml) Q := by
  have hb0 := hT (s + 0)
  have hb1 := hT (s + 1)
  have hb2 := hT (s + 2)
  have hb3 := hT (s + 3)
  have hb4 := hT (s + 4)
  have hb5 := hT (s + 5)
  refine wi_aload_n rfl rfl ?_
  refine wi_getIv (v := (Int32.ofNat (kd))) rfl (kd_28 ..) h7 ?_
  refine wi_iconst (x := 1) rfl rfl ?_
  refine wi_icmp_ne rfl (fun g1 => ?_) (fun g1 => ?_)
  · replace g1 := (ne_n (a := kd) (b := 1) rfl (rfl : (1 : Int32) = Int32.ofNat 1) (by omega) (by omega)).mp g1
    refine wi_iconst (x := 0) rfl rfl ?_
    refine wi_iret rfl (by decide) ?_
    have e9 : ¬ (kd = 1 ∧ txL T s (e - s) = (wds 6)) := fun h8 => by
      obtain ⟨h9, h10⟩ := h8
      obtain ⟨h10, h11⟩ := tx_iff.mp h10
      have h12 : e - s = 6 := h10
      omega
    rw [decide_eq_false e9] at hz
    subst hz
    exact hQ
  · replace g1 := (not_congr (ne_n (a := kd) (b := 1) rfl (rfl : (1 : Int32) = Int32.ofNat 1) (by omega) (by omega))).mp g1
    refine wi_aload_n rfl rfl ?_
    refine wi_callV0 rfl (by decide) (by decide) rfl (kd_28 ..) rfl rfl rfl ?_
    refine wi_aload_n rfl rfl ?_
    refine wi_getIv (v := (Int32.ofNat (e))) rfl (kd_28 ..) h5 ?_
    refine wi_aload_n rfl rfl ?_
    refine wi_getIv (v := (Int32.ofNat (s))) rfl (kd_28 ..) h6 ?_
    refine wn_isub (z := (Int32.ofNat (e - s))) rfl (sub_n (a := e) (b := s) rfl rfl (by omega)) ?_
    refine wi_iret rfl (Or.inl rfl) ?_
    refine wi_aload_n rfl rfl ?_
    refine wi_slen (x := 6) rfl ⟨by decide, by decide⟩ rfl rfl ?_
    refine wi_icmp_eq rfl (fun g2 => ?_) (fun g2 => ?_)
    · replace g2 := (eq_n (a := e - s) (b := 6) rfl (rfl : (6 : Int32) = Int32.ofNat 6) (by omega) (by omega)).mp g2
      refine wi_iconst (x := 0) rfl rfl ?_
      refine wi_istore_n (l' := [.ref 28, .ref 1000007, .int (0 : Int32)]) rfl (Nat.le_of_ble_eq_true rfl) rfl rfl ?_
      refine wi_iload_n rfl rfl ?_
      refine wi_aload_n rfl rfl ?_
      refine wi_slen (x := 6) rfl ⟨by decide, by decide⟩ rfl rfl ?_
      refine wi_icmp_ge rfl (fun h9 => absurd h9 (by decide)) (fun _ => ?_)
      refine wi_aload_n rfl rfl ?_
      refine wi_getR rfl (kd_28 ..) (rd_28_2 _) ?_
      refine wi_aload_n rfl rfl ?_
      refine wi_getIv (v := (Int32.ofNat (s))) rfl (kd_28 ..) h6 ?_
      refine wi_iload_n rfl rfl ?_
      refine wn_iadd (z := (Int32.ofNat (s + 0))) rfl (add_n (a := s) (b := 0) rfl (rfl : (0 : Int32) = Int32.ofNat 0)) ?_
      refine wi_callV1 rfl (by decide) (by decide) rfl (kd_26 ..) rfl rfl rfl (c_byteAt h26 hcnt (by omega) (h27 _ (by omega)) ?_)
      refine wi_aload_n rfl rfl ?_
      refine wi_iload_n rfl rfl ?_
      refine wi_chat (y := 98) rfl ⟨by decide, by decide⟩ rfl (by decide) rfl ?_
      refine wi_icmp_eq rfl (fun g3 => ?_) (fun g3 => ?_)
      · replace g3 := (eq_n (a := T (s + 0)) (b := 98) rfl (rfl : (98 : Int32) = Int32.ofNat 98) (by omega) (by omega)).mp g3
        refine wi_iinc (z := (1 : Int32)) rfl rfl rfl (by decide) rfl ?_
        refine wi_goto rfl ?_
        refine wi_iload_n rfl rfl ?_
        refine wi_aload_n rfl rfl ?_
        refine wi_slen (x := 6) rfl ⟨by decide, by decide⟩ rfl rfl ?_
        refine wi_icmp_ge rfl (fun h9 => absurd h9 (by decide)) (fun _ => ?_)
        refine wi_aload_n rfl rfl ?_
        refine wi_getR rfl (kd_28 ..) (rd_28_2 _) ?_
        refine wi_aload_n rfl rfl ?_
        refine wi_getIv (v := (Int32.ofNat (s))) rfl (kd_28 ..) h6 ?_
        refine wi_iload_n rfl rfl ?_
        refine wn_iadd (z := (Int32.ofNat (s + 1))) rfl (add_n (a := s) (b := 1) rfl (rfl : (1 : Int32) = Int32.ofNat 1)) ?_
        refine wi_callV1 rfl (by decide) (by decide) rfl (kd_26 ..) rfl rfl rfl (c_byteAt h26 hcnt (by omega) (h27 _ (by omega)) ?_)
        refine wi_aload_n rfl rfl ?_
        refine wi_iload_n rfl rfl ?_
        refine wi_chat (y := 111) rfl ⟨by decide, by decide⟩ rfl (by decide) rfl ?_
        refine wi_icmp_eq rfl (fun g4 => ?_) (fun g4 => ?_)
        · replace g4 := (eq_n (a := T (s + 1)) (b := 111) rfl (rfl : (111 : Int32) = Int32.ofNat 111) (by omega) (by omega)).mp g4
          refine wi_iinc (z := (2 : Int32)) rfl rfl rfl (by decide) rfl ?_
          refine wi_goto rfl ?_
          refine wi_iload_n rfl rfl ?_
          refine wi_aload_n rfl rfl ?_
          refine wi_slen (x := 6) rfl ⟨by decide, by decide⟩ rfl rfl ?_
          refine wi_icmp_ge rfl (fun h9 => absurd h9 (by decide)) (fun _ => ?_)
          refine wi_aload_n rfl rfl ?_
          refine wi_getR rfl (kd_28 ..) (rd_28_2 _) ?_
          refine wi_aload_n rfl rfl ?_
          refine wi_getIv (v := (Int32.ofNat (s))) rfl (kd_28 ..) h6 ?_
          refine wi_iload_n rfl rfl ?_
          refine wn_iadd (z := (Int32.ofNat (s + 2))) rfl (add_n (a := s) (b := 2) rfl (rfl : (2 : Int32) = Int32.ofNat 2)) ?_
          refine wi_callV1 rfl (by decide) (by decide) rfl (kd_26 ..) rfl rfl rfl (c_byteAt h26 hcnt (by omega) (h27 _ (by omega)) ?_)
          refine wi_aload_n rfl rfl ?_
          refine wi_iload_n rfl rfl ?_
          refine wi_chat (y := 117) rfl ⟨by decide, by decide⟩ rfl (by decide) rfl ?_
          refine wi_icmp_eq rfl (fun g5 => ?_) (fun g5 => ?_)
          · replace g5 := (eq_n (a := T (s + 2)) (b := 117) rfl (rfl : (117 : Int32) = Int32.ofNat 117) (by omega) (by omega)).mp g5
            refine wi_iinc (z := (3 : Int32)) rfl rfl rfl (by decide) rfl ?_
            refine wi_goto rfl ?_
            refine wi_iload_n rfl rfl ?_
            refine wi_aload_n rfl rfl ?_
            refine wi_slen (x := 6) rfl ⟨by decide, by decide⟩ rfl rfl ?_
            refine wi_icmp_ge rfl (fun h9 => absurd h9 (by decide)) (fun _ => ?_)
            refine wi_aload_n rfl rfl ?_
            refine wi_getR rfl (kd_28 ..) (rd_28_2 _) ?_
            refine wi_aload_n rfl rfl ?_
            refine wi_getIv (v := (Int32.ofNat (s))) rfl (kd_28 ..) h6 ?_
            refine wi_iload_n rfl rfl ?_
            refine wn_iadd (z := (Int32.ofNat (s + 3))) rfl (add_n (a := s) (b := 3) rfl (rfl : (3 : Int32) = Int32.ofNat 3)) ?_
            refine wi_callV1 rfl (by decide) (by decide) rfl (kd_26 ..) rfl rfl rfl (c_byteAt h26 hcnt (by omega) (h27 _ (by omega)) ?_)
            refine wi_aload_n rfl rfl ?_
            refine wi_iload_n rfl rfl ?_
            refine wi_chat (y := 110) rfl ⟨by decide, by decide⟩ rfl (by decide) rfl ?_
            refine wi_icmp_eq rfl (fun g6 => ?_) (fun g6 => ?_)
            · replace g6 := (eq_n (a := T (s + 3)) (b := 110) rfl (rfl : (110 : Int32) = Int32.ofNat 110) (by omega) (by omega)).mp g6
              refine wi_iinc (z := (4 : Int32)) rfl rfl rfl (by decide) rfl ?_
              refine wi_goto rfl ?_
              refine wi_iload_n rfl rfl ?_
              refine wi_aload_n rfl rfl ?_
              refine wi_slen (x := 6) rfl ⟨by decide, by decide⟩ rfl rfl ?_
              refine wi_icmp_ge rfl (fun h9 => absurd h9 (by decide)) (fun _ => ?_)
              refine wi_aload_n rfl rfl ?_
              refine wi_getR rfl (kd_28 ..) (rd_28_2 _) ?_
              refine wi_aload_n rfl rfl ?_
              refine wi_getIv (v := (Int32.ofNat (s))) rfl (kd_28 ..) h6 ?_
              refine wi_iload_n rfl rfl ?_
              refine wn_iadd (z := (Int32.ofNat (s + 4))) rfl (add_n (a := s) (b := 4) rfl (rfl : (4 : Int32) = Int32.ofNat 4)) ?_
              refine wi_callV1 rfl (by decide) (by decide) rfl (kd_26 ..) rfl rfl rfl (c_byteAt h26 hcnt (by omega) (h27 _ (by omega)) ?_)
              refine wi_aload_n rfl rfl ?_
              refine wi_iload_n rfl rfl ?_
              refine wi_chat (y := 99) rfl ⟨by decide, by decide⟩ rfl (by decide) rfl ?_
              refine wi_icmp_eq rfl (fun g7 => ?_) (fun g7 => ?_)
              · replace g7 := (eq_n (a := T (s + 4)) (b := 99) rfl (rfl : (99 : Int32) = Int32.ofNat 99) (by omega) (by omega)).mp g7
                refine wi_iinc (z := (5 : Int32)) rfl rfl rfl (by decide) rfl ?_
                refine wi_goto rfl ?_
                refine wi_iload_n rfl rfl ?_
                refine wi_aload_n rfl rfl ?_
                refine wi_slen (x := 6) rfl ⟨by decide, by decide⟩ rfl rfl ?_
                refine wi_icmp_ge rfl (fun h9 => absurd h9 (by decide)) (fun _ => ?_)
                refine wi_aload_n rfl rfl ?_
                refine wi_getR rfl (kd_28 ..) (rd_28_2 _) ?_
                refine wi_aload_n rfl rfl ?_
                refine wi_getIv (v := (Int32.ofNat (s))) rfl (kd_28 ..) h6 ?_
                refine wi_iload_n rfl rfl ?_
                refine wn_iadd (z := (Int32.ofNat (s + 5))) rfl (add_n (a := s) (b := 5) rfl (rfl : (5 : Int32) = Int32.ofNat 5)) ?_
                refine wi_callV1 rfl (by decide) (by decide) rfl (kd_26 ..) rfl rfl rfl (c_byteAt h26 hcnt (by omega) (h27 _ (by omega)) ?_)
                refine wi_aload_n rfl rfl ?_
                refine wi_iload_n rfl rfl ?_
                refine wi_chat (y := 101) rfl ⟨by decide, by decide⟩ rfl (by decide) rfl ?_
                refine wi_icmp_eq rfl (fun g8 => ?_) (fun g8 => ?_)
                · replace g8 := (eq_n (a := T (s + 5)) (b := 101) rfl (rfl : (101 : Int32) = Int32.ofNat 101) (by omega) (by omega)).mp g8
                  refine wi_iinc (z := (6 : Int32)) rfl rfl rfl (by decide) rfl ?_
                  refine wi_goto rfl ?_
                  refine wi_iload_n rfl rfl ?_
                  refine wi_aload_n rfl rfl ?_
                  refine wi_slen (x := 6) rfl ⟨by decide, by decide⟩ rfl rfl ?_
                  refine wi_icmp_ge rfl (fun _ => ?_) (fun h9 => absurd (by decide) h9)
                  refine wi_iconst (x := 1) rfl rfl ?_
                  refine wi_iret rfl (by decide) ?_
                  have e9 : (kd = 1 ∧ txL T s (e - s) = (wds 6)) := ⟨by omega, tx_iff.mpr ⟨by show e - s = 6; omega, fun i hi => by
                    have hi9 : i < 6 := by omega
                    rcases i with _ | _ | _ | _ | _ | _ | i
                    · show T (s + 0) = 98
                      omega
                    · show T (s + 1) = 111
                      omega
                    · show T (s + 2) = 117
                      omega
                    · show T (s + 3) = 110
                      omega
                    · show T (s + 4) = 99
                      omega
                    · show T (s + 5) = 101
                      omega
                    · omega⟩⟩
                  rw [decide_eq_true e9] at hz
                  subst hz
                  exact hQ
                · replace g8 := (not_congr (eq_n (a := T (s + 5)) (b := 101) rfl (rfl : (101 : Int32) = Int32.ofNat 101) (by omega) (by omega))).mp g8
                  refine wi_iconst (x := 0) rfl rfl ?_
                  refine wi_iret rfl (by decide) ?_
                  have e9 : ¬ (kd = 1 ∧ txL T s (e - s) = (wds 6)) := fun h8 => by
                    obtain ⟨h9, h10⟩ := h8
                    obtain ⟨h10, h11⟩ := tx_iff.mp h10
                    have h12 : T (s + 5) = 101 := h11 5 (by have : e - s = 6 := h10; omega)
                    omega
                  rw [decide_eq_false e9] at hz
                  subst hz
                  exact hQ
              · replace g7 := (not_congr (eq_n (a := T (s + 4)) (b := 99) rfl (rfl : (99 : Int32) = Int32.ofNat 99) (by omega) (by omega))).mp g7
                refine wi_iconst (x := 0) rfl rfl ?_
                refine wi_iret rfl (by decide) ?_
                have e9 : ¬ (kd = 1 ∧ txL T s (e - s) = (wds 6)) := fun h8 => by
                  obtain ⟨h9, h10⟩ := h8
                  obtain ⟨h10, h11⟩ := tx_iff.mp h10
                  have h12 : T (s + 4) = 99 := h11 4 (by have : e - s = 6 := h10; omega)
                  omega
                rw [decide_eq_false e9] at hz
                subst hz
                exact hQ
            · replace g6 := (not_congr (eq_n (a := T (s + 3)) (b := 110) rfl (rfl : (110 : Int32) = Int32.ofNat 110) (by omega) (by omega))).mp g6
              refine wi_iconst (x := 0) rfl rfl ?_
              refine wi_iret rfl (by decide) ?_
              have e9 : ¬ (kd = 1 ∧ txL T s (e - s) = (wds 6)) := fun h8 => by
                obtain ⟨h9, h10⟩ := h8
                obtain ⟨h10, h11⟩ := tx_iff.mp h10
                have h12 : T (s + 3) = 110 := h11 3 (by have : e - s = 6 := h10; omega)
                omega
              rw [decide_eq_false e9] at hz
              subst hz
              exact hQ
          · replace g5 := (not_congr (eq_n (a := T (s + 2)) (b := 117) rfl (rfl : (117 : Int32) = Int32.ofNat 117) (by omega) (by omega))).mp g5
            refine wi_iconst (x := 0) rfl rfl ?_
            refine wi_iret rfl (by decide) ?_
            have e9 : ¬ (kd = 1 ∧ txL T s (e - s) = (wds 6)) := fun h8 => by
              obtain ⟨h9, h10⟩ := h8
              obtain ⟨h10, h11⟩ := tx_iff.mp h10
              have h12 : T (s + 2) = 117 := h11 2 (by have : e - s = 6 := h10; omega)
              omega
            rw [decide_eq_false e9] at hz
            subst hz
            exact hQ
        · replace g4 := (not_congr (eq_n (a := T (s + 1)) (b := 111) rfl (rfl : (111 : Int32) = Int32.ofNat 111) (by omega) (by omega))).mp g4
          refine wi_iconst (x := 0) rfl rfl ?_
          refine wi_iret rfl (by decide) ?_
          have e9 : ¬ (kd = 1 ∧ txL T s (e - s) = (wds 6)) := fun h8 => by
            obtain ⟨h9, h10⟩ := h8
            obtain ⟨h10, h11⟩ := tx_iff.mp h10
            have h12 : T (s + 1) = 111 := h11 1 (by have : e - s = 6 := h10; omega)
            omega
          rw [decide_eq_false e9] at hz
          subst hz
          exact hQ
      · replace g3 := (not_congr (eq_n (a := T (s + 0)) (b := 98) rfl (rfl : (98 : Int32) = Int32.ofNat 98) (by omega) (by omega))).mp g3
        refine wi_iconst (x := 0) rfl rfl ?_
        refine wi_iret rfl (by decide) ?_
        have e9 : ¬ (kd = 1 ∧ txL T s (e - s) = (wds 6)) := fun h8 => by
          obtain ⟨h9, h10⟩ := h8
          obtain ⟨h10, h11⟩ := tx_iff.mp h10
          have h12 : T (s + 0) = 98 := h11 0 (by have : e - s = 6 := h10; omega)
          omega
        rw [decide_eq_false e9] at hz
        subst hz
        exact hQ
    · replace g2 := (not_congr (eq_n (a := e - s) (b := 6) rfl (rfl : (6 : Int32) = Int32.ofNat 6) (by omega) (by omega))).mp g2
      refine wi_iconst (x := 0) rfl rfl ?_
      refine wi_iret rfl (by decide) ?_
      have e9 : ¬ (kd = 1 ∧ txL T s (e - s) = (wds 6)) := fun h8 => by
        obtain ⟨h9, h10⟩ := h8
        obtain ⟨h10, h11⟩ := tx_iff.mp h10
        have h12 : e - s = 6 := h10
        omega
      rw [decide_eq_false e9] at hz
      subst hz
      exact hQ
theorem c_tokIs8 {mi : Nat → Nat → Int32} {s e kd : Nat} (hcnt : cnt ≤ 400) (hN : N ≤ cnt) (hT : ∀ k, T k < 256) (h26 : mi 26 1 = Int32.ofNat cnt) (h27 : ∀ k, k < cnt → mi 27 k = Int32.ofNat (T k)) (h5 : mi 28 5 = Int32.ofNat e) (h6 : mi 28 6 = Int32.ofNat s) (hse : s < e) (heN : e ≤ N) (h7 : mi 28 7 = Int32.ofNat kd) (hkd : kd < 256) {z : Int32} (hz : bI (decide (kd = 1 ∧ txL T s (e - s) = (wds 7))) = z) (hQ : Q (some (.int z)) (am_shT, mrL b, mi, ml)) : am_wp X (d + 1) 53 0 [.ref 28, .ref 1000008, .retAddr 0] [] (am_shT, mrL b, mi, ml) Q := by
  have hb0 := hT (s + 0)
  have hb1 := hT (s + 1)
  have hb2 := hT (s + 2)
  have hb3 := hT (s + 3)
  refine wi_aload_n rfl rfl ?_
  refine wi_getIv (v := (Int32.ofNat (kd))) rfl (kd_28 ..) h7 ?_
  refine wi_iconst (x := 1) rfl rfl ?_
  refine wi_icmp_ne rfl (fun g1 => ?_) (fun g1 => ?_)
  · replace g1 := (ne_n (a := kd) (b := 1) rfl (rfl : (1 : Int32) = Int32.ofNat 1) (by omega) (by omega)).mp g1
    refine wi_iconst (x := 0) rfl rfl ?_
    refine wi_iret rfl (by decide) ?_
    have e9 : ¬ (kd = 1 ∧ txL T s (e - s) = (wds 7)) := fun h8 => by
      obtain ⟨h9, h10⟩ := h8
      obtain ⟨h10, h11⟩ := tx_iff.mp h10
      have h12 : e - s = 4 := h10
      omega
    rw [decide_eq_false e9] at hz
    subst hz
    exact hQ
  · replace g1 := (not_congr (ne_n (a := kd) (b := 1) rfl (rfl : (1 : Int32) = Int32.ofNat 1) (by omega) (by omega))).mp g1
    refine wi_aload_n rfl rfl ?_
    refine wi_callV0 rfl (by decide) (by decide) rfl (kd_28 ..) rfl rfl rfl ?_
    refine wi_aload_n rfl rfl ?_
    refine wi_getIv (v := (Int32.ofNat (e))) rfl (kd_28 ..) h5 ?_
    refine wi_aload_n rfl rfl ?_
    refine wi_getIv (v := (Int32.ofNat (s))) rfl (kd_28 ..) h6 ?_
    refine wn_isub (z := (Int32.ofNat (e - s))) rfl (sub_n (a := e) (b := s) rfl rfl (by omega)) ?_
    refine wi_iret rfl (Or.inl rfl) ?_
    refine wi_aload_n rfl rfl ?_
    refine wi_slen (x := 4) rfl ⟨by decide, by decide⟩ rfl rfl ?_
    refine wi_icmp_eq rfl (fun g2 => ?_) (fun g2 => ?_)
    · replace g2 := (eq_n (a := e - s) (b := 4) rfl (rfl : (4 : Int32) = Int32.ofNat 4) (by omega) (by omega)).mp g2
      refine wi_iconst (x := 0) rfl rfl ?_
      refine wi_istore_n (l' := [.ref 28, .ref 1000008, .int (0 : Int32)]) rfl (Nat.le_of_ble_eq_true rfl) rfl rfl ?_
      refine wi_iload_n rfl rfl ?_
      refine wi_aload_n rfl rfl ?_
      refine wi_slen (x := 4) rfl ⟨by decide, by decide⟩ rfl rfl ?_
      refine wi_icmp_ge rfl (fun h9 => absurd h9 (by decide)) (fun _ => ?_)
      refine wi_aload_n rfl rfl ?_
      refine wi_getR rfl (kd_28 ..) (rd_28_2 _) ?_
      refine wi_aload_n rfl rfl ?_
      refine wi_getIv (v := (Int32.ofNat (s))) rfl (kd_28 ..) h6 ?_
      refine wi_iload_n rfl rfl ?_
      refine wn_iadd (z := (Int32.ofNat (s + 0))) rfl (add_n (a := s) (b := 0) rfl (rfl : (0 : Int32) = Int32.ofNat 0)) ?_
      refine wi_callV1 rfl (by decide) (by decide) rfl (kd_26 ..) rfl rfl rfl (c_byteAt h26 hcnt (by omega) (h27 _ (by omega)) ?_)
      refine wi_aload_n rfl rfl ?_
      refine wi_iload_n rfl rfl ?_
      refine wi_chat (y := 114) rfl ⟨by decide, by decide⟩ rfl (by decide) rfl ?_
      refine wi_icmp_eq rfl (fun g3 => ?_) (fun g3 => ?_)
      · replace g3 := (eq_n (a := T (s + 0)) (b := 114) rfl (rfl : (114 : Int32) = Int32.ofNat 114) (by omega) (by omega)).mp g3
        refine wi_iinc (z := (1 : Int32)) rfl rfl rfl (by decide) rfl ?_
        refine wi_goto rfl ?_
        refine wi_iload_n rfl rfl ?_
        refine wi_aload_n rfl rfl ?_
        refine wi_slen (x := 4) rfl ⟨by decide, by decide⟩ rfl rfl ?_
        refine wi_icmp_ge rfl (fun h9 => absurd h9 (by decide)) (fun _ => ?_)
        refine wi_aload_n rfl rfl ?_
        refine wi_getR rfl (kd_28 ..) (rd_28_2 _) ?_
        refine wi_aload_n rfl rfl ?_
        refine wi_getIv (v := (Int32.ofNat (s))) rfl (kd_28 ..) h6 ?_
        refine wi_iload_n rfl rfl ?_
        refine wn_iadd (z := (Int32.ofNat (s + 1))) rfl (add_n (a := s) (b := 1) rfl (rfl : (1 : Int32) = Int32.ofNat 1)) ?_
        refine wi_callV1 rfl (by decide) (by decide) rfl (kd_26 ..) rfl rfl rfl (c_byteAt h26 hcnt (by omega) (h27 _ (by omega)) ?_)
        refine wi_aload_n rfl rfl ?_
        refine wi_iload_n rfl rfl ?_
        refine wi_chat (y := 97) rfl ⟨by decide, by decide⟩ rfl (by decide) rfl ?_
        refine wi_icmp_eq rfl (fun g4 => ?_) (fun g4 => ?_)
        · replace g4 := (eq_n (a := T (s + 1)) (b := 97) rfl (rfl : (97 : Int32) = Int32.ofNat 97) (by omega) (by omega)).mp g4
          refine wi_iinc (z := (2 : Int32)) rfl rfl rfl (by decide) rfl ?_
          refine wi_goto rfl ?_
          refine wi_iload_n rfl rfl ?_
          refine wi_aload_n rfl rfl ?_
          refine wi_slen (x := 4) rfl ⟨by decide, by decide⟩ rfl rfl ?_
          refine wi_icmp_ge rfl (fun h9 => absurd h9 (by decide)) (fun _ => ?_)
          refine wi_aload_n rfl rfl ?_
          refine wi_getR rfl (kd_28 ..) (rd_28_2 _) ?_
          refine wi_aload_n rfl rfl ?_
          refine wi_getIv (v := (Int32.ofNat (s))) rfl (kd_28 ..) h6 ?_
          refine wi_iload_n rfl rfl ?_
          refine wn_iadd (z := (Int32.ofNat (s + 2))) rfl (add_n (a := s) (b := 2) rfl (rfl : (2 : Int32) = Int32.ofNat 2)) ?_
          refine wi_callV1 rfl (by decide) (by decide) rfl (kd_26 ..) rfl rfl rfl (c_byteAt h26 hcnt (by omega) (h27 _ (by omega)) ?_)
          refine wi_aload_n rfl rfl ?_
          refine wi_iload_n rfl rfl ?_
          refine wi_chat (y := 105) rfl ⟨by decide, by decide⟩ rfl (by decide) rfl ?_
          refine wi_icmp_eq rfl (fun g5 => ?_) (fun g5 => ?_)
          · replace g5 := (eq_n (a := T (s + 2)) (b := 105) rfl (rfl : (105 : Int32) = Int32.ofNat 105) (by omega) (by omega)).mp g5
            refine wi_iinc (z := (3 : Int32)) rfl rfl rfl (by decide) rfl ?_
            refine wi_goto rfl ?_
            refine wi_iload_n rfl rfl ?_
            refine wi_aload_n rfl rfl ?_
            refine wi_slen (x := 4) rfl ⟨by decide, by decide⟩ rfl rfl ?_
            refine wi_icmp_ge rfl (fun h9 => absurd h9 (by decide)) (fun _ => ?_)
            refine wi_aload_n rfl rfl ?_
            refine wi_getR rfl (kd_28 ..) (rd_28_2 _) ?_
            refine wi_aload_n rfl rfl ?_
            refine wi_getIv (v := (Int32.ofNat (s))) rfl (kd_28 ..) h6 ?_
            refine wi_iload_n rfl rfl ?_
            refine wn_iadd (z := (Int32.ofNat (s + 3))) rfl (add_n (a := s) (b := 3) rfl (rfl : (3 : Int32) = Int32.ofNat 3)) ?_
            refine wi_callV1 rfl (by decide) (by decide) rfl (kd_26 ..) rfl rfl rfl (c_byteAt h26 hcnt (by omega) (h27 _ (by omega)) ?_)
            refine wi_aload_n rfl rfl ?_
            refine wi_iload_n rfl rfl ?_
            refine wi_chat (y := 110) rfl ⟨by decide, by decide⟩ rfl (by decide) rfl ?_
            refine wi_icmp_eq rfl (fun g6 => ?_) (fun g6 => ?_)
            · replace g6 := (eq_n (a := T (s + 3)) (b := 110) rfl (rfl : (110 : Int32) = Int32.ofNat 110) (by omega) (by omega)).mp g6
              refine wi_iinc (z := (4 : Int32)) rfl rfl rfl (by decide) rfl ?_
              refine wi_goto rfl ?_
              refine wi_iload_n rfl rfl ?_
              refine wi_aload_n rfl rfl ?_
              refine wi_slen (x := 4) rfl ⟨by decide, by decide⟩ rfl rfl ?_
              refine wi_icmp_ge rfl (fun _ => ?_) (fun h9 => absurd (by decide) h9)
              refine wi_iconst (x := 1) rfl rfl ?_
              refine wi_iret rfl (by decide) ?_
              have e9 : (kd = 1 ∧ txL T s (e - s) = (wds 7)) := ⟨by omega, tx_iff.mpr ⟨by show e - s = 4; omega, fun i hi => by
                have hi9 : i < 4 := by omega
                rcases i with _ | _ | _ | _ | i
                · show T (s + 0) = 114
                  omega
                · show T (s + 1) = 97
                  omega
                · show T (s + 2) = 105
                  omega
                · show T (s + 3) = 110
                  omega
                · omega⟩⟩
              rw [decide_eq_true e9] at hz
              subst hz
              exact hQ
            · replace g6 := (not_congr (eq_n (a := T (s + 3)) (b := 110) rfl (rfl : (110 : Int32) = Int32.ofNat 110) (by omega) (by omega))).mp g6
              refine wi_iconst (x := 0) rfl rfl ?_
              refine wi_iret rfl (by decide) ?_
              have e9 : ¬ (kd = 1 ∧ txL T s (e - s) = (wds 7)) := fun h8 => by
                obtain ⟨h9, h10⟩ := h8
                obtain ⟨h10, h11⟩ := tx_iff.mp h10
                have h12 : T (s + 3) = 110 := h11 3 (by have : e - s = 4 := h10; omega)
                omega
              rw [decide_eq_false e9] at hz
              subst hz
              exact hQ
          · replace g5 := (not_congr (eq_n (a := T (s + 2)) (b := 105) rfl (rfl : (105 : Int32) = Int32.ofNat 105) (by omega) (by omega))).mp g5
            refine wi_iconst (x := 0) rfl rfl ?_
            refine wi_iret rfl (by decide) ?_
            have e9 : ¬ (kd = 1 ∧ txL T s (e - s) = (wds 7)) := fun h8 => by
              obtain ⟨h9, h10⟩ := h8
              obtain ⟨h10, h11⟩ := tx_iff.mp h10
              have h12 : T (s + 2) = 105 := h11 2 (by have : e - s = 4 := h10; omega)
              omega
            rw [decide_eq_false e9] at hz
            subst hz
            exact hQ
        · replace g4 := (not_congr (eq_n (a := T (s + 1)) (b := 97) rfl (rfl : (97 : Int32) = Int32.ofNat 97) (by omega) (by omega))).mp g4
          refine wi_iconst (x := 0) rfl rfl ?_
          refine wi_iret rfl (by decide) ?_
          have e9 : ¬ (kd = 1 ∧ txL T s (e - s) = (wds 7)) := fun h8 => by
            obtain ⟨h9, h10⟩ := h8
            obtain ⟨h10, h11⟩ := tx_iff.mp h10
            have h12 : T (s + 1) = 97 := h11 1 (by have : e - s = 4 := h10; omega)
            omega
          rw [decide_eq_false e9] at hz
          subst hz
          exact hQ
      · replace g3 := (not_congr (eq_n (a := T (s + 0)) (b := 114) rfl (rfl : (114 : Int32) = Int32.ofNat 114) (by omega) (by omega))).mp g3
        refine wi_iconst (x := 0) rfl rfl ?_
        refine wi_iret rfl (by decide) ?_
        have e9 : ¬ (kd = 1 ∧ txL T s (e - s) = (wds 7)) := fun h8 => by
          obtain ⟨h9, h10⟩ := h8
          obtain ⟨h10, h11⟩ := tx_iff.mp h10
          have h12 : T (s + 0) = 114 := h11 0 (by have : e - s = 4 := h10; omega)
          omega
        rw [decide_eq_false e9] at hz
        subst hz
        exact hQ
    · replace g2 := (not_congr (eq_n (a := e - s) (b := 4) rfl (rfl : (4 : Int32) = Int32.ofNat 4) (by omega) (by omega))).mp g2
      refine wi_iconst (x := 0) rfl rfl ?_
      refine wi_iret rfl (by decide) ?_
      have e9 : ¬ (kd = 1 ∧ txL T s (e - s) = (wds 7)) := fun h8 => by
        obtain ⟨h9, h10⟩ := h8
        obtain ⟨h10, h11⟩ := tx_iff.mp h10
        have h12 : e - s = 4 := h10
        omega
      rw [decide_eq_false e9] at hz
      subst hz
      exact hQ
theorem c_tokIs9 {mi : Nat → Nat → Int32} {s e kd : Nat} (hcnt : cnt ≤ 400) (hN : N ≤ cnt) (hT : ∀ k, T k < 256) (h26 : mi 26 1 = Int32.ofNat cnt) (h27 : ∀ k, k < cnt → mi 27 k = Int32.ofNat (T k)) (h5 : mi 28 5 = Int32.ofNat e) (h6 : mi 28 6 = Int32.ofNat s) (hse : s < e) (heN : e ≤ N) (h7 : mi 28 7 = Int32.ofNat kd) (hkd : kd < 256) {z : Int32} (hz : bI (decide (kd = 1 ∧ txL T s (e - s) = wAnd)) = z) (hQ : Q (some (.int z)) (am_shT, mrL b, mi, ml)) : am_wp X (d + 1) 53 0 [.ref 28, .ref 1000009, .retAddr 0] [] (am_shT, mrL b, mi, ml) Q := by
  have hb0 := hT (s + 0)
  have hb1 := hT (s + 1)
  have hb2 := hT (s + 2)
  refine wi_aload_n rfl rfl ?_
  refine wi_getIv (v := (Int32.ofNat (kd))) rfl (kd_28 ..) h7 ?_
  refine wi_iconst (x := 1) rfl rfl ?_
  refine wi_icmp_ne rfl (fun g1 => ?_) (fun g1 => ?_)
  · replace g1 := (ne_n (a := kd) (b := 1) rfl (rfl : (1 : Int32) = Int32.ofNat 1) (by omega) (by omega)).mp g1
    refine wi_iconst (x := 0) rfl rfl ?_
    refine wi_iret rfl (by decide) ?_
    have e9 : ¬ (kd = 1 ∧ txL T s (e - s) = wAnd) := fun h8 => by
      obtain ⟨h9, h10⟩ := h8
      obtain ⟨h10, h11⟩ := tx_iff.mp h10
      have h12 : e - s = 3 := h10
      omega
    rw [decide_eq_false e9] at hz
    subst hz
    exact hQ
  · replace g1 := (not_congr (ne_n (a := kd) (b := 1) rfl (rfl : (1 : Int32) = Int32.ofNat 1) (by omega) (by omega))).mp g1
    refine wi_aload_n rfl rfl ?_
    refine wi_callV0 rfl (by decide) (by decide) rfl (kd_28 ..) rfl rfl rfl ?_
    refine wi_aload_n rfl rfl ?_
    refine wi_getIv (v := (Int32.ofNat (e))) rfl (kd_28 ..) h5 ?_
    refine wi_aload_n rfl rfl ?_
    refine wi_getIv (v := (Int32.ofNat (s))) rfl (kd_28 ..) h6 ?_
    refine wn_isub (z := (Int32.ofNat (e - s))) rfl (sub_n (a := e) (b := s) rfl rfl (by omega)) ?_
    refine wi_iret rfl (Or.inl rfl) ?_
    refine wi_aload_n rfl rfl ?_
    refine wi_slen (x := 3) rfl ⟨by decide, by decide⟩ rfl rfl ?_
    refine wi_icmp_eq rfl (fun g2 => ?_) (fun g2 => ?_)
    · replace g2 := (eq_n (a := e - s) (b := 3) rfl (rfl : (3 : Int32) = Int32.ofNat 3) (by omega) (by omega)).mp g2
      refine wi_iconst (x := 0) rfl rfl ?_
      refine wi_istore_n (l' := [.ref 28, .ref 1000009, .int (0 : Int32)]) rfl (Nat.le_of_ble_eq_true rfl) rfl rfl ?_
      refine wi_iload_n rfl rfl ?_
      refine wi_aload_n rfl rfl ?_
      refine wi_slen (x := 3) rfl ⟨by decide, by decide⟩ rfl rfl ?_
      refine wi_icmp_ge rfl (fun h9 => absurd h9 (by decide)) (fun _ => ?_)
      refine wi_aload_n rfl rfl ?_
      refine wi_getR rfl (kd_28 ..) (rd_28_2 _) ?_
      refine wi_aload_n rfl rfl ?_
      refine wi_getIv (v := (Int32.ofNat (s))) rfl (kd_28 ..) h6 ?_
      refine wi_iload_n rfl rfl ?_
      refine wn_iadd (z := (Int32.ofNat (s + 0))) rfl (add_n (a := s) (b := 0) rfl (rfl : (0 : Int32) = Int32.ofNat 0)) ?_
      refine wi_callV1 rfl (by decide) (by decide) rfl (kd_26 ..) rfl rfl rfl (c_byteAt h26 hcnt (by omega) (h27 _ (by omega)) ?_)
      refine wi_aload_n rfl rfl ?_
      refine wi_iload_n rfl rfl ?_
      refine wi_chat (y := 97) rfl ⟨by decide, by decide⟩ rfl (by decide) rfl ?_
      refine wi_icmp_eq rfl (fun g3 => ?_) (fun g3 => ?_)
      · replace g3 := (eq_n (a := T (s + 0)) (b := 97) rfl (rfl : (97 : Int32) = Int32.ofNat 97) (by omega) (by omega)).mp g3
        refine wi_iinc (z := (1 : Int32)) rfl rfl rfl (by decide) rfl ?_
        refine wi_goto rfl ?_
        refine wi_iload_n rfl rfl ?_
        refine wi_aload_n rfl rfl ?_
        refine wi_slen (x := 3) rfl ⟨by decide, by decide⟩ rfl rfl ?_
        refine wi_icmp_ge rfl (fun h9 => absurd h9 (by decide)) (fun _ => ?_)
        refine wi_aload_n rfl rfl ?_
        refine wi_getR rfl (kd_28 ..) (rd_28_2 _) ?_
        refine wi_aload_n rfl rfl ?_
        refine wi_getIv (v := (Int32.ofNat (s))) rfl (kd_28 ..) h6 ?_
        refine wi_iload_n rfl rfl ?_
        refine wn_iadd (z := (Int32.ofNat (s + 1))) rfl (add_n (a := s) (b := 1) rfl (rfl : (1 : Int32) = Int32.ofNat 1)) ?_
        refine wi_callV1 rfl (by decide) (by decide) rfl (kd_26 ..) rfl rfl rfl (c_byteAt h26 hcnt (by omega) (h27 _ (by omega)) ?_)
        refine wi_aload_n rfl rfl ?_
        refine wi_iload_n rfl rfl ?_
        refine wi_chat (y := 110) rfl ⟨by decide, by decide⟩ rfl (by decide) rfl ?_
        refine wi_icmp_eq rfl (fun g4 => ?_) (fun g4 => ?_)
        · replace g4 := (eq_n (a := T (s + 1)) (b := 110) rfl (rfl : (110 : Int32) = Int32.ofNat 110) (by omega) (by omega)).mp g4
          refine wi_iinc (z := (2 : Int32)) rfl rfl rfl (by decide) rfl ?_
          refine wi_goto rfl ?_
          refine wi_iload_n rfl rfl ?_
          refine wi_aload_n rfl rfl ?_
          refine wi_slen (x := 3) rfl ⟨by decide, by decide⟩ rfl rfl ?_
          refine wi_icmp_ge rfl (fun h9 => absurd h9 (by decide)) (fun _ => ?_)
          refine wi_aload_n rfl rfl ?_
          refine wi_getR rfl (kd_28 ..) (rd_28_2 _) ?_
          refine wi_aload_n rfl rfl ?_
          refine wi_getIv (v := (Int32.ofNat (s))) rfl (kd_28 ..) h6 ?_
          refine wi_iload_n rfl rfl ?_
          refine wn_iadd (z := (Int32.ofNat (s + 2))) rfl (add_n (a := s) (b := 2) rfl (rfl : (2 : Int32) = Int32.ofNat 2)) ?_
          refine wi_callV1 rfl (by decide) (by decide) rfl (kd_26 ..) rfl rfl rfl (c_byteAt h26 hcnt (by omega) (h27 _ (by omega)) ?_)
          refine wi_aload_n rfl rfl ?_
          refine wi_iload_n rfl rfl ?_
          refine wi_chat (y := 100) rfl ⟨by decide, by decide⟩ rfl (by decide) rfl ?_
          refine wi_icmp_eq rfl (fun g5 => ?_) (fun g5 => ?_)
          · replace g5 := (eq_n (a := T (s + 2)) (b := 100) rfl (rfl : (100 : Int32) = Int32.ofNat 100) (by omega) (by omega)).mp g5
            refine wi_iinc (z := (3 : Int32)) rfl rfl rfl (by decide) rfl ?_
            refine wi_goto rfl ?_
            refine wi_iload_n rfl rfl ?_
            refine wi_aload_n rfl rfl ?_
            refine wi_slen (x := 3) rfl ⟨by decide, by decide⟩ rfl rfl ?_
            refine wi_icmp_ge rfl (fun _ => ?_) (fun h9 => absurd (by decide) h9)
            refine wi_iconst (x := 1) rfl rfl ?_
            refine wi_iret rfl (by decide) ?_
            have e9 : (kd = 1 ∧ txL T s (e - s) = wAnd) := ⟨by omega, tx_iff.mpr ⟨by show e - s = 3; omega, fun i hi => by
              have hi9 : i < 3 := by omega
              rcases i with _ | _ | _ | i
              · show T (s + 0) = 97
                omega
              · show T (s + 1) = 110
                omega
              · show T (s + 2) = 100
                omega
              · omega⟩⟩
            rw [decide_eq_true e9] at hz
            subst hz
            exact hQ
          · replace g5 := (not_congr (eq_n (a := T (s + 2)) (b := 100) rfl (rfl : (100 : Int32) = Int32.ofNat 100) (by omega) (by omega))).mp g5
            refine wi_iconst (x := 0) rfl rfl ?_
            refine wi_iret rfl (by decide) ?_
            have e9 : ¬ (kd = 1 ∧ txL T s (e - s) = wAnd) := fun h8 => by
              obtain ⟨h9, h10⟩ := h8
              obtain ⟨h10, h11⟩ := tx_iff.mp h10
              have h12 : T (s + 2) = 100 := h11 2 (by have : e - s = 3 := h10; omega)
              omega
            rw [decide_eq_false e9] at hz
            subst hz
            exact hQ
        · replace g4 := (not_congr (eq_n (a := T (s + 1)) (b := 110) rfl (rfl : (110 : Int32) = Int32.ofNat 110) (by omega) (by omega))).mp g4
          refine wi_iconst (x := 0) rfl rfl ?_
          refine wi_iret rfl (by decide) ?_
          have e9 : ¬ (kd = 1 ∧ txL T s (e - s) = wAnd) := fun h8 => by
            obtain ⟨h9, h10⟩ := h8
            obtain ⟨h10, h11⟩ := tx_iff.mp h10
            have h12 : T (s + 1) = 110 := h11 1 (by have : e - s = 3 := h10; omega)
            omega
          rw [decide_eq_false e9] at hz
          subst hz
          exact hQ
      · replace g3 := (not_congr (eq_n (a := T (s + 0)) (b := 97) rfl (rfl : (97 : Int32) = Int32.ofNat 97) (by omega) (by omega))).mp g3
        refine wi_iconst (x := 0) rfl rfl ?_
        refine wi_iret rfl (by decide) ?_
        have e9 : ¬ (kd = 1 ∧ txL T s (e - s) = wAnd) := fun h8 => by
          obtain ⟨h9, h10⟩ := h8
          obtain ⟨h10, h11⟩ := tx_iff.mp h10
          have h12 : T (s + 0) = 97 := h11 0 (by have : e - s = 3 := h10; omega)
          omega
        rw [decide_eq_false e9] at hz
        subst hz
        exact hQ
    · replace g2 := (not_congr (eq_n (a := e - s) (b := 3) rfl (rfl : (3 : Int32) = Int32.ofNat 3) (by omega) (by omega))).mp g2
      refine wi_iconst (x := 0) rfl rfl ?_
      refine wi_iret rfl (by decide) ?_
      have e9 : ¬ (kd = 1 ∧ txL T s (e - s) = wAnd) := fun h8 => by
        obtain ⟨h9, h10⟩ := h8
        obtain ⟨h10, h11⟩ := tx_iff.mp h10
        have h12 : e - s = 3 := h10
        omega
      rw [decide_eq_false e9] at hz
      subst hz
      exact hQ
theorem wh_none {t : List Nat} : ∀ k w, whF t k w = none → ∀ j, w ≤ j → j < w + k → ¬ t = wds j := by
  intro k
  induction k with
  | zero => intro w _ j h1 h2; omega
  | succ k ih =>
    intro w h j h1 h2
    have h3 : (if t = wds w then some w else whF t k (w + 1)) = none := h
    by_cases ht : t = wds w
    · rw [if_pos ht] at h3; cases h3
    · rw [if_neg ht] at h3
      rcases Nat.lt_or_ge w j with h4 | h4
      · exact ih (w + 1) h3 j (by omega) (by omega)
      · rw [show j = w by omega]; exact ht
theorem wh_some {t : List Nat} : ∀ k w x, whF t k w = some x → (w ≤ x ∧ x < w + k ∧ t = wds x) ∧ ∀ j, w ≤ j → j < x → ¬ t = wds j := by
  intro k
  induction k with
  | zero => intro w x h; cases h
  | succ k ih =>
    intro w x h
    have h1 : (if t = wds w then some w else whF t k (w + 1)) = some x := h
    by_cases ht : t = wds w
    · rw [if_pos ht] at h1
      cases h1
      exact ⟨⟨Nat.le_refl _, by omega, ht⟩, fun j h2 h3 => by omega⟩
    · rw [if_neg ht] at h1
      obtain ⟨h2, h3⟩ := ih (w + 1) x h1
      refine ⟨⟨by omega, by omega, h2.2.2⟩, fun j h4 h5 => ?_⟩
      rcases Nat.lt_or_ge w j with h6 | h6
      · exact h3 j (by omega) h5
      · rw [show j = w by omega]; exact ht
theorem c_what0 {mi : Nat → Nat → Int32} {s e kd : Nat} (hcnt : cnt ≤ 400) (hN : N ≤ cnt) (hT : ∀ k, T k < 256) (h26 : mi 26 1 = Int32.ofNat cnt) (h27 : ∀ k, k < cnt → mi 27 k = Int32.ofNat (T k)) (h5 : mi 28 5 = Int32.ofNat e) (h6 : mi 28 6 = Int32.ofNat s) (hse : s < e) (heN : e ≤ N) (h7 : mi 28 7 = Int32.ofNat kd) (hkd : kd < 256) (hw : (if kd = 1 then whF (txL T s (e - s)) 8 0 else none) = none) (hQ : Q (some (.int (-1))) (am_shT, mrL b, mi, ml)) : am_wp X (d + 2) 54 0 [.ref 28, .retAddr 0] [] (am_shT, mrL b, mi, ml) Q := by
  have hn : ∀ j, j < 8 → ¬ (kd = 1 ∧ txL T s (e - s) = wds j) := fun j hj h9 => by
    rw [if_pos h9.1] at hw
    exact wh_none 8 0 hw j (by omega) (by omega) h9.2
  refine wi_iconst (x := 0) rfl rfl ?_
  refine wi_istore_n (l' := [.ref 28, .int (0 : Int32)]) rfl (Nat.le_of_ble_eq_true rfl) rfl rfl ?_
  refine wi_iload_n rfl rfl ?_
  refine wi_bipush (x := 7) rfl rfl ?_
  refine wi_icmp_gt rfl (fun h9 => absurd h9 (by decide)) (fun _ => ?_)
  refine wi_aload_n rfl rfl ?_
  refine wi_iload_n rfl rfl ?_
  refine wi_callS1 rfl (by decide) (by decide) rfl rfl rfl ?_
  refine wi_iload_n rfl rfl ?_
  refine wi_tsw (t := 2) rfl rfl (by decide) rfl ?_
  refine wi_ldc (a := 1000001) rfl rfl ?_
  refine wi_aret rfl ?_
  refine wi_callV1 rfl (by decide) (by decide) rfl (kd_28 ..) rfl rfl rfl (c_tokIs1 hcnt hN hT h26 h27 h5 h6 hse heN h7 hkd (z := 0) (congrArg bI (decide_eq_false (hn 0 (by omega)))) ?_)
  refine wi_if_eq rfl (fun _ => ?_) (fun h9 => absurd (by decide) h9)
  refine wi_iinc (z := (1 : Int32)) rfl rfl rfl (by decide) rfl ?_
  refine wi_goto rfl ?_
  refine wi_iload_n rfl rfl ?_
  refine wi_bipush (x := 7) rfl rfl ?_
  refine wi_icmp_gt rfl (fun h9 => absurd h9 (by decide)) (fun _ => ?_)
  refine wi_aload_n rfl rfl ?_
  refine wi_iload_n rfl rfl ?_
  refine wi_callS1 rfl (by decide) (by decide) rfl rfl rfl ?_
  refine wi_iload_n rfl rfl ?_
  refine wi_tsw (t := 4) rfl rfl (by decide) rfl ?_
  refine wi_ldc (a := 1000002) rfl rfl ?_
  refine wi_aret rfl ?_
  refine wi_callV1 rfl (by decide) (by decide) rfl (kd_28 ..) rfl rfl rfl (c_tokIs2 hcnt hN hT h26 h27 h5 h6 hse heN h7 hkd (z := 0) (congrArg bI (decide_eq_false (hn 1 (by omega)))) ?_)
  refine wi_if_eq rfl (fun _ => ?_) (fun h9 => absurd (by decide) h9)
  refine wi_iinc (z := (2 : Int32)) rfl rfl rfl (by decide) rfl ?_
  refine wi_goto rfl ?_
  refine wi_iload_n rfl rfl ?_
  refine wi_bipush (x := 7) rfl rfl ?_
  refine wi_icmp_gt rfl (fun h9 => absurd h9 (by decide)) (fun _ => ?_)
  refine wi_aload_n rfl rfl ?_
  refine wi_iload_n rfl rfl ?_
  refine wi_callS1 rfl (by decide) (by decide) rfl rfl rfl ?_
  refine wi_iload_n rfl rfl ?_
  refine wi_tsw (t := 6) rfl rfl (by decide) rfl ?_
  refine wi_ldc (a := 1000003) rfl rfl ?_
  refine wi_aret rfl ?_
  refine wi_callV1 rfl (by decide) (by decide) rfl (kd_28 ..) rfl rfl rfl (c_tokIs3 hcnt hN hT h26 h27 h5 h6 hse heN h7 hkd (z := 0) (congrArg bI (decide_eq_false (hn 2 (by omega)))) ?_)
  refine wi_if_eq rfl (fun _ => ?_) (fun h9 => absurd (by decide) h9)
  refine wi_iinc (z := (3 : Int32)) rfl rfl rfl (by decide) rfl ?_
  refine wi_goto rfl ?_
  refine wi_iload_n rfl rfl ?_
  refine wi_bipush (x := 7) rfl rfl ?_
  refine wi_icmp_gt rfl (fun h9 => absurd h9 (by decide)) (fun _ => ?_)
  refine wi_aload_n rfl rfl ?_
  refine wi_iload_n rfl rfl ?_
  refine wi_callS1 rfl (by decide) (by decide) rfl rfl rfl ?_
  refine wi_iload_n rfl rfl ?_
  refine wi_tsw (t := 8) rfl rfl (by decide) rfl ?_
  refine wi_ldc (a := 1000004) rfl rfl ?_
  refine wi_aret rfl ?_
  refine wi_callV1 rfl (by decide) (by decide) rfl (kd_28 ..) rfl rfl rfl (c_tokIs4 hcnt hN hT h26 h27 h5 h6 hse heN h7 hkd (z := 0) (congrArg bI (decide_eq_false (hn 3 (by omega)))) ?_)
  refine wi_if_eq rfl (fun _ => ?_) (fun h9 => absurd (by decide) h9)
  refine wi_iinc (z := (4 : Int32)) rfl rfl rfl (by decide) rfl ?_
  refine wi_goto rfl ?_
  refine wi_iload_n rfl rfl ?_
  refine wi_bipush (x := 7) rfl rfl ?_
  refine wi_icmp_gt rfl (fun h9 => absurd h9 (by decide)) (fun _ => ?_)
  refine wi_aload_n rfl rfl ?_
  refine wi_iload_n rfl rfl ?_
  refine wi_callS1 rfl (by decide) (by decide) rfl rfl rfl ?_
  refine wi_iload_n rfl rfl ?_
  refine wi_tsw (t := 10) rfl rfl (by decide) rfl ?_
  refine wi_ldc (a := 1000005) rfl rfl ?_
  refine wi_aret rfl ?_
  refine wi_callV1 rfl (by decide) (by decide) rfl (kd_28 ..) rfl rfl rfl (c_tokIs5 hcnt hN hT h26 h27 h5 h6 hse heN h7 hkd (z := 0) (congrArg bI (decide_eq_false (hn 4 (by omega)))) ?_)
  refine wi_if_eq rfl (fun _ => ?_) (fun h9 => absurd (by decide) h9)
  refine wi_iinc (z := (5 : Int32)) rfl rfl rfl (by decide) rfl ?_
  refine wi_goto rfl ?_
  refine wi_iload_n rfl rfl ?_
  refine wi_bipush (x := 7) rfl rfl ?_
  refine wi_icmp_gt rfl (fun h9 => absurd h9 (by decide)) (fun _ => ?_)
  refine wi_aload_n rfl rfl ?_
  refine wi_iload_n rfl rfl ?_
  refine wi_callS1 rfl (by decide) (by decide) rfl rfl rfl ?_
  refine wi_iload_n rfl rfl ?_
  refine wi_tsw (t := 12) rfl rfl (by decide) rfl ?_
  refine wi_ldc (a := 1000006) rfl rfl ?_
  refine wi_aret rfl ?_
  refine wi_callV1 rfl (by decide) (by decide) rfl (kd_28 ..) rfl rfl rfl (c_tokIs6 hcnt hN hT h26 h27 h5 h6 hse heN h7 hkd (z := 0) (congrArg bI (decide_eq_false (hn 5 (by omega)))) ?_)
  refine wi_if_eq rfl (fun _ => ?_) (fun h9 => absurd (by decide) h9)
  refine wi_iinc (z := (6 : Int32)) rfl rfl rfl (by decide) rfl ?_
  refine wi_goto rfl ?_
  refine wi_iload_n rfl rfl ?_
  refine wi_bipush (x := 7) rfl rfl ?_
  refine wi_icmp_gt rfl (fun h9 => absurd h9 (by decide)) (fun _ => ?_)
  refine wi_aload_n rfl rfl ?_
  refine wi_iload_n rfl rfl ?_
  refine wi_callS1 rfl (by decide) (by decide) rfl rfl rfl ?_
  refine wi_iload_n rfl rfl ?_
  refine wi_tsw (t := 14) rfl rfl (by decide) rfl ?_
  refine wi_ldc (a := 1000007) rfl rfl ?_
  refine wi_aret rfl ?_
  refine wi_callV1 rfl (by decide) (by decide) rfl (kd_28 ..) rfl rfl rfl (c_tokIs7 hcnt hN hT h26 h27 h5 h6 hse heN h7 hkd (z := 0) (congrArg bI (decide_eq_false (hn 6 (by omega)))) ?_)
  refine wi_if_eq rfl (fun _ => ?_) (fun h9 => absurd (by decide) h9)
  refine wi_iinc (z := (7 : Int32)) rfl rfl rfl (by decide) rfl ?_
  refine wi_goto rfl ?_
  refine wi_iload_n rfl rfl ?_
  refine wi_bipush (x := 7) rfl rfl ?_
  refine wi_icmp_gt rfl (fun h9 => absurd h9 (by decide)) (fun _ => ?_)
  refine wi_aload_n rfl rfl ?_
  refine wi_iload_n rfl rfl ?_
  refine wi_callS1 rfl (by decide) (by decide) rfl rfl rfl ?_
  refine wi_iload_n rfl rfl ?_
  refine wi_tswD rfl rfl (by decide) ?_
  refine wi_ldc (a := 1000008) rfl rfl ?_
  refine wi_aret rfl ?_
  refine wi_callV1 rfl (by decide) (by decide) rfl (kd_28 ..) rfl rfl rfl (c_tokIs8 hcnt hN hT h26 h27 h5 h6 hse heN h7 hkd (z := 0) (congrArg bI (decide_eq_false (hn 7 (by omega)))) ?_)
  refine wi_if_eq rfl (fun _ => ?_) (fun h9 => absurd (by decide) h9)
  refine wi_iinc (z := (8 : Int32)) rfl rfl rfl (by decide) rfl ?_
  refine wi_goto rfl ?_
  refine wi_iload_n rfl rfl ?_
  refine wi_bipush (x := 7) rfl rfl ?_
  refine wi_icmp_gt rfl (fun _ => ?_) (fun h9 => absurd (by decide) h9)
  refine wi_iconst (x := (-1)) rfl rfl ?_
  refine wi_iret rfl (Or.inl rfl) ?_
  exact hQ
theorem c_what1 {mi : Nat → Nat → Int32} {s e kd : Nat} (hcnt : cnt ≤ 400) (hN : N ≤ cnt) (hT : ∀ k, T k < 256) (h26 : mi 26 1 = Int32.ofNat cnt) (h27 : ∀ k, k < cnt → mi 27 k = Int32.ofNat (T k)) (h5 : mi 28 5 = Int32.ofNat e) (h6 : mi 28 6 = Int32.ofNat s) (hse : s < e) (heN : e ≤ N) {x : Nat} (h7 : mi 28 7 = Int32.ofNat kd) (hkd : kd < 256) (hw : (if kd = 1 then whF (txL T s (e - s)) 8 0 else none) = some x) (hQ : Q (some (.int (Int32.ofNat x))) (am_shT, mrL b, mi, ml)) : am_wp X (d + 2) 54 0 [.ref 28, .retAddr 0] [] (am_shT, mrL b, mi, ml) Q := by
  have hk1 : kd = 1 := by
    by_cases h9 : kd = 1
    · exact h9
    · rw [if_neg h9] at hw; cases hw
  rw [if_pos hk1] at hw
  obtain ⟨h8, h9⟩ := wh_some 8 0 x hw
  have hn : ∀ j, j < x → ¬ (kd = 1 ∧ txL T s (e - s) = wds j) := fun j hj h10 => h9 j (by omega) hj h10.2
  have hy : (kd = 1 ∧ txL T s (e - s) = wds x) := ⟨hk1, h8.2.2⟩
  have hx8 : x < 8 := by omega
  clear hw h8 h9
  rcases x with _ | _ | _ | _ | _ | _ | _ | _ | x
  · skip
    refine wi_iconst (x := 0) rfl rfl ?_
    refine wi_istore_n (l' := [.ref 28, .int (0 : Int32)]) rfl (Nat.le_of_ble_eq_true rfl) rfl rfl ?_
    refine wi_iload_n rfl rfl ?_
    refine wi_bipush (x := 7) rfl rfl ?_
    refine wi_icmp_gt rfl (fun h9 => absurd h9 (by decide)) (fun _ => ?_)
    refine wi_aload_n rfl rfl ?_
    refine wi_iload_n rfl rfl ?_
    refine wi_callS1 rfl (by decide) (by decide) rfl rfl rfl ?_
    refine wi_iload_n rfl rfl ?_
    refine wi_tsw (t := 2) rfl rfl (by decide) rfl ?_
    refine wi_ldc (a := 1000001) rfl rfl ?_
    refine wi_aret rfl ?_
    refine wi_callV1 rfl (by decide) (by decide) rfl (kd_28 ..) rfl rfl rfl (c_tokIs1 hcnt hN hT h26 h27 h5 h6 hse heN h7 hkd (z := 1) (congrArg bI (decide_eq_true hy)) ?_)
    refine wi_if_eq rfl (fun h9 => absurd h9 (by decide)) (fun _ => ?_)
    refine wi_iload_n rfl rfl ?_
    refine wi_iret rfl (Or.inl rfl) ?_
    exact hQ
  · skip
    refine wi_iconst (x := 0) rfl rfl ?_
    refine wi_istore_n (l' := [.ref 28, .int (0 : Int32)]) rfl (Nat.le_of_ble_eq_true rfl) rfl rfl ?_
    refine wi_iload_n rfl rfl ?_
    refine wi_bipush (x := 7) rfl rfl ?_
    refine wi_icmp_gt rfl (fun h9 => absurd h9 (by decide)) (fun _ => ?_)
    refine wi_aload_n rfl rfl ?_
    refine wi_iload_n rfl rfl ?_
    refine wi_callS1 rfl (by decide) (by decide) rfl rfl rfl ?_
    refine wi_iload_n rfl rfl ?_
    refine wi_tsw (t := 2) rfl rfl (by decide) rfl ?_
    refine wi_ldc (a := 1000001) rfl rfl ?_
    refine wi_aret rfl ?_
    refine wi_callV1 rfl (by decide) (by decide) rfl (kd_28 ..) rfl rfl rfl (c_tokIs1 hcnt hN hT h26 h27 h5 h6 hse heN h7 hkd (z := 0) (congrArg bI (decide_eq_false (hn 0 (by omega)))) ?_)
    refine wi_if_eq rfl (fun _ => ?_) (fun h9 => absurd (by decide) h9)
    refine wi_iinc (z := (1 : Int32)) rfl rfl rfl (by decide) rfl ?_
    refine wi_goto rfl ?_
    refine wi_iload_n rfl rfl ?_
    refine wi_bipush (x := 7) rfl rfl ?_
    refine wi_icmp_gt rfl (fun h9 => absurd h9 (by decide)) (fun _ => ?_)
    refine wi_aload_n rfl rfl ?_
    refine wi_iload_n rfl rfl ?_
    refine wi_callS1 rfl (by decide) (by decide) rfl rfl rfl ?_
    refine wi_iload_n rfl rfl ?_
    refine wi_tsw (t := 4) rfl rfl (by decide) rfl ?_
    refine wi_ldc (a := 1000002) rfl rfl ?_
    refine wi_aret rfl ?_
    refine wi_callV1 rfl (by decide) (by decide) rfl (kd_28 ..) rfl rfl rfl (c_tokIs2 hcnt hN hT h26 h27 h5 h6 hse heN h7 hkd (z := 1) (congrArg bI (decide_eq_true hy)) ?_)
    refine wi_if_eq rfl (fun h9 => absurd h9 (by decide)) (fun _ => ?_)
    refine wi_iload_n rfl rfl ?_
    refine wi_iret rfl (Or.inl rfl) ?_
    exact hQ
  · skip
    refine wi_iconst (x := 0) rfl rfl ?_
    refine wi_istore_n (l' := [.ref 28, .int (0 : Int32)]) rfl (Nat.le_of_ble_eq_true rfl) rfl rfl ?_
    refine wi_iload_n rfl rfl ?_
    refine wi_bipush (x := 7) rfl rfl ?_
    refine wi_icmp_gt rfl (fun h9 => absurd h9 (by decide)) (fun _ => ?_)
    refine wi_aload_n rfl rfl ?_
    refine wi_iload_n rfl rfl ?_
    refine wi_callS1 rfl (by decide) (by decide) rfl rfl rfl ?_
    refine wi_iload_n rfl rfl ?_
    refine wi_tsw (t := 2) rfl rfl (by decide) rfl ?_
    refine wi_ldc (a := 1000001) rfl rfl ?_
    refine wi_aret rfl ?_
    refine wi_callV1 rfl (by decide) (by decide) rfl (kd_28 ..) rfl rfl rfl (c_tokIs1 hcnt hN hT h26 h27 h5 h6 hse heN h7 hkd (z := 0) (congrArg bI (decide_eq_false (hn 0 (by omega)))) ?_)
    refine wi_if_eq rfl (fun _ => ?_) (fun h9 => absurd (by decide) h9)
    refine wi_iinc (z := (1 : Int32)) rfl rfl rfl (by decide) rfl ?_
    refine wi_goto rfl ?_
    refine wi_iload_n rfl rfl ?_
    refine wi_bipush (x := 7) rfl rfl ?_
    refine wi_icmp_gt rfl (fun h9 => absurd h9 (by decide)) (fun _ => ?_)
    refine wi_aload_n rfl rfl ?_
    refine wi_iload_n rfl rfl ?_
    refine wi_callS1 rfl (by decide) (by decide) rfl rfl rfl ?_
    refine wi_iload_n rfl rfl ?_
    refine wi_tsw (t := 4) rfl rfl (by decide) rfl ?_
    refine wi_ldc (a := 1000002) rfl rfl ?_
    refine wi_aret rfl ?_
    refine wi_callV1 rfl (by decide) (by decide) rfl (kd_28 ..) rfl rfl rfl (c_tokIs2 hcnt hN hT h26 h27 h5 h6 hse heN h7 hkd (z := 0) (congrArg bI (decide_eq_false (hn 1 (by omega)))) ?_)
    refine wi_if_eq rfl (fun _ => ?_) (fun h9 => absurd (by decide) h9)
    refine wi_iinc (z := (2 : Int32)) rfl rfl rfl (by decide) rfl ?_
    refine wi_goto rfl ?_
    refine wi_iload_n rfl rfl ?_
    refine wi_bipush (x := 7) rfl rfl ?_
    refine wi_icmp_gt rfl (fun h9 => absurd h9 (by decide)) (fun _ => ?_)
    refine wi_aload_n rfl rfl ?_
    refine wi_iload_n rfl rfl ?_
    refine wi_callS1 rfl (by decide) (by decide) rfl rfl rfl ?_
    refine wi_iload_n rfl rfl ?_
    refine wi_tsw (t := 6) rfl rfl (by decide) rfl ?_
    refine wi_ldc (a := 1000003) rfl rfl ?_
    refine wi_aret rfl ?_
    refine wi_callV1 rfl (by decide) (by decide) rfl (kd_28 ..) rfl rfl rfl (c_tokIs3 hcnt hN hT h26 h27 h5 h6 hse heN h7 hkd (z := 1) (congrArg bI (decide_eq_true hy)) ?_)
    refine wi_if_eq rfl (fun h9 => absurd h9 (by decide)) (fun _ => ?_)
    refine wi_iload_n rfl rfl ?_
    refine wi_iret rfl (Or.inl rfl) ?_
    exact hQ
  · skip
    refine wi_iconst (x := 0) rfl rfl ?_
    refine wi_istore_n (l' := [.ref 28, .int (0 : Int32)]) rfl (Nat.le_of_ble_eq_true rfl) rfl rfl ?_
    refine wi_iload_n rfl rfl ?_
    refine wi_bipush (x := 7) rfl rfl ?_
    refine wi_icmp_gt rfl (fun h9 => absurd h9 (by decide)) (fun _ => ?_)
    refine wi_aload_n rfl rfl ?_
    refine wi_iload_n rfl rfl ?_
    refine wi_callS1 rfl (by decide) (by decide) rfl rfl rfl ?_
    refine wi_iload_n rfl rfl ?_
    refine wi_tsw (t := 2) rfl rfl (by decide) rfl ?_
    refine wi_ldc (a := 1000001) rfl rfl ?_
    refine wi_aret rfl ?_
    refine wi_callV1 rfl (by decide) (by decide) rfl (kd_28 ..) rfl rfl rfl (c_tokIs1 hcnt hN hT h26 h27 h5 h6 hse heN h7 hkd (z := 0) (congrArg bI (decide_eq_false (hn 0 (by omega)))) ?_)
    refine wi_if_eq rfl (fun _ => ?_) (fun h9 => absurd (by decide) h9)
    refine wi_iinc (z := (1 : Int32)) rfl rfl rfl (by decide) rfl ?_
    refine wi_goto rfl ?_
    refine wi_iload_n rfl rfl ?_
    refine wi_bipush (x := 7) rfl rfl ?_
    refine wi_icmp_gt rfl (fun h9 => absurd h9 (by decide)) (fun _ => ?_)
    refine wi_aload_n rfl rfl ?_
    refine wi_iload_n rfl rfl ?_
    refine wi_callS1 rfl (by decide) (by decide) rfl rfl rfl ?_
    refine wi_iload_n rfl rfl ?_
    refine wi_tsw (t := 4) rfl rfl (by decide) rfl ?_
    refine wi_ldc (a := 1000002) rfl rfl ?_
    refine wi_aret rfl ?_
    refine wi_callV1 rfl (by decide) (by decide) rfl (kd_28 ..) rfl rfl rfl (c_tokIs2 hcnt hN hT h26 h27 h5 h6 hse heN h7 hkd (z := 0) (congrArg bI (decide_eq_false (hn 1 (by omega)))) ?_)
    refine wi_if_eq rfl (fun _ => ?_) (fun h9 => absurd (by decide) h9)
    refine wi_iinc (z := (2 : Int32)) rfl rfl rfl (by decide) rfl ?_
    refine wi_goto rfl ?_
    refine wi_iload_n rfl rfl ?_
    refine wi_bipush (x := 7) rfl rfl ?_
    refine wi_icmp_gt rfl (fun h9 => absurd h9 (by decide)) (fun _ => ?_)
    refine wi_aload_n rfl rfl ?_
    refine wi_iload_n rfl rfl ?_
    refine wi_callS1 rfl (by decide) (by decide) rfl rfl rfl ?_
    refine wi_iload_n rfl rfl ?_
    refine wi_tsw (t := 6) rfl rfl (by decide) rfl ?_
    refine wi_ldc (a := 1000003) rfl rfl ?_
    refine wi_aret rfl ?_
    refine wi_callV1 rfl (by decide) (by decide) rfl (kd_28 ..) rfl rfl rfl (c_tokIs3 hcnt hN hT h26 h27 h5 h6 hse heN h7 hkd (z := 0) (congrArg bI (decide_eq_false (hn 2 (by omega)))) ?_)
    refine wi_if_eq rfl (fun _ => ?_) (fun h9 => absurd (by decide) h9)
    refine wi_iinc (z := (3 : Int32)) rfl rfl rfl (by decide) rfl ?_
    refine wi_goto rfl ?_
    refine wi_iload_n rfl rfl ?_
    refine wi_bipush (x := 7) rfl rfl ?_
    refine wi_icmp_gt rfl (fun h9 => absurd h9 (by decide)) (fun _ => ?_)
    refine wi_aload_n rfl rfl ?_
    refine wi_iload_n rfl rfl ?_
    refine wi_callS1 rfl (by decide) (by decide) rfl rfl rfl ?_
    refine wi_iload_n rfl rfl ?_
    refine wi_tsw (t := 8) rfl rfl (by decide) rfl ?_
    refine wi_ldc (a := 1000004) rfl rfl ?_
    refine wi_aret rfl ?_
    refine wi_callV1 rfl (by decide) (by decide) rfl (kd_28 ..) rfl rfl rfl (c_tokIs4 hcnt hN hT h26 h27 h5 h6 hse heN h7 hkd (z := 1) (congrArg bI (decide_eq_true hy)) ?_)
    refine wi_if_eq rfl (fun h9 => absurd h9 (by decide)) (fun _ => ?_)
    refine wi_iload_n rfl rfl ?_
    refine wi_iret rfl (Or.inl rfl) ?_
    exact hQ
  · skip
    refine wi_iconst (x := 0) rfl rfl ?_
    refine wi_istore_n (l' := [.ref 28, .int (0 : Int32)]) rfl (Nat.le_of_ble_eq_true rfl) rfl rfl ?_
    refine wi_iload_n rfl rfl ?_
    refine wi_bipush (x := 7) rfl rfl ?_
    refine wi_icmp_gt rfl (fun h9 => absurd h9 (by decide)) (fun _ => ?_)
    refine wi_aload_n rfl rfl ?_
    refine wi_iload_n rfl rfl ?_
    refine wi_callS1 rfl (by decide) (by decide) rfl rfl rfl ?_
    refine wi_iload_n rfl rfl ?_
    refine wi_tsw (t := 2) rfl rfl (by decide) rfl ?_
    refine wi_ldc (a := 1000001) rfl rfl ?_
    refine wi_aret rfl ?_
    refine wi_callV1 rfl (by decide) (by decide) rfl (kd_28 ..) rfl rfl rfl (c_tokIs1 hcnt hN hT h26 h27 h5 h6 hse heN h7 hkd (z := 0) (congrArg bI (decide_eq_false (hn 0 (by omega)))) ?_)
    refine wi_if_eq rfl (fun _ => ?_) (fun h9 => absurd (by decide) h9)
    refine wi_iinc (z := (1 : Int32)) rfl rfl rfl (by decide) rfl ?_
    refine wi_goto rfl ?_
    refine wi_iload_n rfl rfl ?_
    refine wi_bipush (x := 7) rfl rfl ?_
    refine wi_icmp_gt rfl (fun h9 => absurd h9 (by decide)) (fun _ => ?_)
    refine wi_aload_n rfl rfl ?_
    refine wi_iload_n rfl rfl ?_
    refine wi_callS1 rfl (by decide) (by decide) rfl rfl rfl ?_
    refine wi_iload_n rfl rfl ?_
    refine wi_tsw (t := 4) rfl rfl (by decide) rfl ?_
    refine wi_ldc (a := 1000002) rfl rfl ?_
    refine wi_aret rfl ?_
    refine wi_callV1 rfl (by decide) (by decide) rfl (kd_28 ..) rfl rfl rfl (c_tokIs2 hcnt hN hT h26 h27 h5 h6 hse heN h7 hkd (z := 0) (congrArg bI (decide_eq_false (hn 1 (by omega)))) ?_)
    refine wi_if_eq rfl (fun _ => ?_) (fun h9 => absurd (by decide) h9)
    refine wi_iinc (z := (2 : Int32)) rfl rfl rfl (by decide) rfl ?_
    refine wi_goto rfl ?_
    refine wi_iload_n rfl rfl ?_
    refine wi_bipush (x := 7) rfl rfl ?_
    refine wi_icmp_gt rfl (fun h9 => absurd h9 (by decide)) (fun _ => ?_)
    refine wi_aload_n rfl rfl ?_
    refine wi_iload_n rfl rfl ?_
    refine wi_callS1 rfl (by decide) (by decide) rfl rfl rfl ?_
    refine wi_iload_n rfl rfl ?_
    refine wi_tsw (t := 6) rfl rfl (by decide) rfl ?_
    refine wi_ldc (a := 1000003) rfl rfl ?_
    refine wi_aret rfl ?_
    refine wi_callV1 rfl (by decide) (by decide) rfl (kd_28 ..) rfl rfl rfl (c_tokIs3 hcnt hN hT h26 h27 h5 h6 hse heN h7 hkd (z := 0) (congrArg bI (decide_eq_false (hn 2 (by omega)))) ?_)
    refine wi_if_eq rfl (fun _ => ?_) (fun h9 => absurd (by decide) h9)
    refine wi_iinc (z := (3 : Int32)) rfl rfl rfl (by decide) rfl ?_
    refine wi_goto rfl ?_
    refine wi_iload_n rfl rfl ?_
    refine wi_bipush (x := 7) rfl rfl ?_
    refine wi_icmp_gt rfl (fun h9 => absurd h9 (by decide)) (fun _ => ?_)
    refine wi_aload_n rfl rfl ?_
    refine wi_iload_n rfl rfl ?_
    refine wi_callS1 rfl (by decide) (by decide) rfl rfl rfl ?_
    refine wi_iload_n rfl rfl ?_
    refine wi_tsw (t := 8) rfl rfl (by decide) rfl ?_
    refine wi_ldc (a := 1000004) rfl rfl ?_
    refine wi_aret rfl ?_
    refine wi_callV1 rfl (by decide) (by decide) rfl (kd_28 ..) rfl rfl rfl (c_tokIs4 hcnt hN hT h26 h27 h5 h6 hse heN h7 hkd (z := 0) (congrArg bI (decide_eq_false (hn 3 (by omega)))) ?_)
    refine wi_if_eq rfl (fun _ => ?_) (fun h9 => absurd (by decide) h9)
    refine wi_iinc (z := (4 : Int32)) rfl rfl rfl (by decide) rfl ?_
    refine wi_goto rfl ?_
    refine wi_iload_n rfl rfl ?_
    refine wi_bipush (x := 7) rfl rfl ?_
    refine wi_icmp_gt rfl (fun h9 => absurd h9 (by decide)) (fun _ => ?_)
    refine wi_aload_n rfl rfl ?_
    refine wi_iload_n rfl rfl ?_
    refine wi_callS1 rfl (by decide) (by decide) rfl rfl rfl ?_
    refine wi_iload_n rfl rfl ?_
    refine wi_tsw (t := 10) rfl rfl (by decide) rfl ?_
    refine wi_ldc (a := 1000005) rfl rfl ?_
    refine wi_aret rfl ?_
    refine wi_callV1 rfl (by decide) (by decide) rfl (kd_28 ..) rfl rfl rfl (c_tokIs5 hcnt hN hT h26 h27 h5 h6 hse heN h7 hkd (z := 1) (congrArg bI (decide_eq_true hy)) ?_)
    refine wi_if_eq rfl (fun h9 => absurd h9 (by decide)) (fun _ => ?_)
    refine wi_iload_n rfl rfl ?_
    refine wi_iret rfl (Or.inl rfl) ?_
    exact hQ
  · skip
    refine wi_iconst (x := 0) rfl rfl ?_
    refine wi_istore_n (l' := [.ref 28, .int (0 : Int32)]) rfl (Nat.le_of_ble_eq_true rfl) rfl rfl ?_
    refine wi_iload_n rfl rfl ?_
    refine wi_bipush (x := 7) rfl rfl ?_
    refine wi_icmp_gt rfl (fun h9 => absurd h9 (by decide)) (fun _ => ?_)
    refine wi_aload_n rfl rfl ?_
    refine wi_iload_n rfl rfl ?_
    refine wi_callS1 rfl (by decide) (by decide) rfl rfl rfl ?_
    refine wi_iload_n rfl rfl ?_
    refine wi_tsw (t := 2) rfl rfl (by decide) rfl ?_
    refine wi_ldc (a := 1000001) rfl rfl ?_
    refine wi_aret rfl ?_
    refine wi_callV1 rfl (by decide) (by decide) rfl (kd_28 ..) rfl rfl rfl (c_tokIs1 hcnt hN hT h26 h27 h5 h6 hse heN h7 hkd (z := 0) (congrArg bI (decide_eq_false (hn 0 (by omega)))) ?_)
    refine wi_if_eq rfl (fun _ => ?_) (fun h9 => absurd (by decide) h9)
    refine wi_iinc (z := (1 : Int32)) rfl rfl rfl (by decide) rfl ?_
    refine wi_goto rfl ?_
    refine wi_iload_n rfl rfl ?_
    refine wi_bipush (x := 7) rfl rfl ?_
    refine wi_icmp_gt rfl (fun h9 => absurd h9 (by decide)) (fun _ => ?_)
    refine wi_aload_n rfl rfl ?_
    refine wi_iload_n rfl rfl ?_
    refine wi_callS1 rfl (by decide) (by decide) rfl rfl rfl ?_
    refine wi_iload_n rfl rfl ?_
    refine wi_tsw (t := 4) rfl rfl (by decide) rfl ?_
    refine wi_ldc (a := 1000002) rfl rfl ?_
    refine wi_aret rfl ?_
    refine wi_callV1 rfl (by decide) (by decide) rfl (kd_28 ..) rfl rfl rfl (c_tokIs2 hcnt hN hT h26 h27 h5 h6 hse heN h7 hkd (z := 0) (congrArg bI (decide_eq_false (hn 1 (by omega)))) ?_)
    refine wi_if_eq rfl (fun _ => ?_) (fun h9 => absurd (by decide) h9)
    refine wi_iinc (z := (2 : Int32)) rfl rfl rfl (by decide) rfl ?_
    refine wi_goto rfl ?_
    refine wi_iload_n rfl rfl ?_
    refine wi_bipush (x := 7) rfl rfl ?_
    refine wi_icmp_gt rfl (fun h9 => absurd h9 (by decide)) (fun _ => ?_)
    refine wi_aload_n rfl rfl ?_
    refine wi_iload_n rfl rfl ?_
    refine wi_callS1 rfl (by decide) (by decide) rfl rfl rfl ?_
    refine wi_iload_n rfl rfl ?_
    refine wi_tsw (t := 6) rfl rfl (by decide) rfl ?_
    refine wi_ldc (a := 1000003) rfl rfl ?_
    refine wi_aret rfl ?_
    refine wi_callV1 rfl (by decide) (by decide) rfl (kd_28 ..) rfl rfl rfl (c_tokIs3 hcnt hN hT h26 h27 h5 h6 hse heN h7 hkd (z := 0) (congrArg bI (decide_eq_false (hn 2 (by omega)))) ?_)
    refine wi_if_eq rfl (fun _ => ?_) (fun h9 => absurd (by decide) h9)
    refine wi_iinc (z := (3 : Int32)) rfl rfl rfl (by decide) rfl ?_
    refine wi_goto rfl ?_
    refine wi_iload_n rfl rfl ?_
    refine wi_bipush (x := 7) rfl rfl ?_
    refine wi_icmp_gt rfl (fun h9 => absurd h9 (by decide)) (fun _ => ?_)
    refine wi_aload_n rfl rfl ?_
    refine wi_iload_n rfl rfl ?_
    refine wi_callS1 rfl (by decide) (by decide) rfl rfl rfl ?_
    refine wi_iload_n rfl rfl ?_
    refine wi_tsw (t := 8) rfl rfl (by decide) rfl ?_
    refine wi_ldc (a := 1000004) rfl rfl ?_
    refine wi_aret rfl ?_
    refine wi_callV1 rfl (by decide) (by decide) rfl (kd_28 ..) rfl rfl rfl (c_tokIs4 hcnt hN hT h26 h27 h5 h6 hse heN h7 hkd (z := 0) (congrArg bI (decide_eq_false (hn 3 (by omega)))) ?_)
    refine wi_if_eq rfl (fun _ => ?_) (fun h9 => absurd (by decide) h9)
    refine wi_iinc (z := (4 : Int32)) rfl rfl rfl (by decide) rfl ?_
    refine wi_goto rfl ?_
    refine wi_iload_n rfl rfl ?_
    refine wi_bipush (x := 7) rfl rfl ?_
    refine wi_icmp_gt rfl (fun h9 => absurd h9 (by decide)) (fun _ => ?_)
    refine wi_aload_n rfl rfl ?_
    refine wi_iload_n rfl rfl ?_
    refine wi_callS1 rfl (by decide) (by decide) rfl rfl rfl ?_
    refine wi_iload_n rfl rfl ?_
    refine wi_tsw (t := 10) rfl rfl (by decide) rfl ?_
    refine wi_ldc (a := 1000005) rfl rfl ?_
    refine wi_aret rfl ?_
    refine wi_callV1 rfl (by decide) (by decide) rfl (kd_28 ..) rfl rfl rfl (c_tokIs5 hcnt hN hT h26 h27 h5 h6 hse heN h7 hkd (z := 0) (congrArg bI (decide_eq_false (hn 4 (by omega)))) ?_)
    refine wi_if_eq rfl (fun _ => ?_) (fun h9 => absurd (by decide) h9)
    refine wi_iinc (z := (5 : Int32)) rfl rfl rfl (by decide) rfl ?_
    refine wi_goto rfl ?_
    refine wi_iload_n rfl rfl ?_
    refine wi_bipush (x := 7) rfl rfl ?_
    refine wi_icmp_gt rfl (fun h9 => absurd h9 (by decide)) (fun _ => ?_)
    refine wi_aload_n rfl rfl ?_
    refine wi_iload_n rfl rfl ?_
    refine wi_callS1 rfl (by decide) (by decide) rfl rfl rfl ?_
    refine wi_iload_n rfl rfl ?_
    refine wi_tsw (t := 12) rfl rfl (by decide) rfl ?_
    refine wi_ldc (a := 1000006) rfl rfl ?_
    refine wi_aret rfl ?_
    refine wi_callV1 rfl (by decide) (by decide) rfl (kd_28 ..) rfl rfl rfl (c_tokIs6 hcnt hN hT h26 h27 h5 h6 hse heN h7 hkd (z := 1) (congrArg bI (decide_eq_true hy)) ?_)
    refine wi_if_eq rfl (fun h9 => absurd h9 (by decide)) (fun _ => ?_)
    refine wi_iload_n rfl rfl ?_
    refine wi_iret rfl (Or.inl rfl) ?_
    exact hQ
  · skip
    refine wi_iconst (x := 0) rfl rfl ?_
    refine wi_istore_n (l' := [.ref 28, .int (0 : Int32)]) rfl (Nat.le_of_ble_eq_true rfl) rfl rfl ?_
    refine wi_iload_n rfl rfl ?_
    refine wi_bipush (x := 7) rfl rfl ?_
    refine wi_icmp_gt rfl (fun h9 => absurd h9 (by decide)) (fun _ => ?_)
    refine wi_aload_n rfl rfl ?_
    refine wi_iload_n rfl rfl ?_
    refine wi_callS1 rfl (by decide) (by decide) rfl rfl rfl ?_
    refine wi_iload_n rfl rfl ?_
    refine wi_tsw (t := 2) rfl rfl (by decide) rfl ?_
    refine wi_ldc (a := 1000001) rfl rfl ?_
    refine wi_aret rfl ?_
    refine wi_callV1 rfl (by decide) (by decide) rfl (kd_28 ..) rfl rfl rfl (c_tokIs1 hcnt hN hT h26 h27 h5 h6 hse heN h7 hkd (z := 0) (congrArg bI (decide_eq_false (hn 0 (by omega)))) ?_)
    refine wi_if_eq rfl (fun _ => ?_) (fun h9 => absurd (by decide) h9)
    refine wi_iinc (z := (1 : Int32)) rfl rfl rfl (by decide) rfl ?_
    refine wi_goto rfl ?_
    refine wi_iload_n rfl rfl ?_
    refine wi_bipush (x := 7) rfl rfl ?_
    refine wi_icmp_gt rfl (fun h9 => absurd h9 (by decide)) (fun _ => ?_)
    refine wi_aload_n rfl rfl ?_
    refine wi_iload_n rfl rfl ?_
    refine wi_callS1 rfl (by decide) (by decide) rfl rfl rfl ?_
    refine wi_iload_n rfl rfl ?_
    refine wi_tsw (t := 4) rfl rfl (by decide) rfl ?_
    refine wi_ldc (a := 1000002) rfl rfl ?_
    refine wi_aret rfl ?_
    refine wi_callV1 rfl (by decide) (by decide) rfl (kd_28 ..) rfl rfl rfl (c_tokIs2 hcnt hN hT h26 h27 h5 h6 hse heN h7 hkd (z := 0) (congrArg bI (decide_eq_false (hn 1 (by omega)))) ?_)
    refine wi_if_eq rfl (fun _ => ?_) (fun h9 => absurd (by decide) h9)
    refine wi_iinc (z := (2 : Int32)) rfl rfl rfl (by decide) rfl ?_
    refine wi_goto rfl ?_
    refine wi_iload_n rfl rfl ?_
    refine wi_bipush (x := 7) rfl rfl ?_
    refine wi_icmp_gt rfl (fun h9 => absurd h9 (by decide)) (fun _ => ?_)
    refine wi_aload_n rfl rfl ?_
    refine wi_iload_n rfl rfl ?_
    refine wi_callS1 rfl (by decide) (by decide) rfl rfl rfl ?_
    refine wi_iload_n rfl rfl ?_
    refine wi_tsw (t := 6) rfl rfl (by decide) rfl ?_
    refine wi_ldc (a := 1000003) rfl rfl ?_
    refine wi_aret rfl ?_
    refine wi_callV1 rfl (by decide) (by decide) rfl (kd_28 ..) rfl rfl rfl (c_tokIs3 hcnt hN hT h26 h27 h5 h6 hse heN h7 hkd (z := 0) (congrArg bI (decide_eq_false (hn 2 (by omega)))) ?_)
    refine wi_if_eq rfl (fun _ => ?_) (fun h9 => absurd (by decide) h9)
    refine wi_iinc (z := (3 : Int32)) rfl rfl rfl (by decide) rfl ?_
    refine wi_goto rfl ?_
    refine wi_iload_n rfl rfl ?_
    refine wi_bipush (x := 7) rfl rfl ?_
    refine wi_icmp_gt rfl (fun h9 => absurd h9 (by decide)) (fun _ => ?_)
    refine wi_aload_n rfl rfl ?_
    refine wi_iload_n rfl rfl ?_
    refine wi_callS1 rfl (by decide) (by decide) rfl rfl rfl ?_
    refine wi_iload_n rfl rfl ?_
    refine wi_tsw (t := 8) rfl rfl (by decide) rfl ?_
    refine wi_ldc (a := 1000004) rfl rfl ?_
    refine wi_aret rfl ?_
    refine wi_callV1 rfl (by decide) (by decide) rfl (kd_28 ..) rfl rfl rfl (c_tokIs4 hcnt hN hT h26 h27 h5 h6 hse heN h7 hkd (z := 0) (congrArg bI (decide_eq_false (hn 3 (by omega)))) ?_)
    refine wi_if_eq rfl (fun _ => ?_) (fun h9 => absurd (by decide) h9)
    refine wi_iinc (z := (4 : Int32)) rfl rfl rfl (by decide) rfl ?_
    refine wi_goto rfl ?_
    refine wi_iload_n rfl rfl ?_
    refine wi_bipush (x := 7) rfl rfl ?_
    refine wi_icmp_gt rfl (fun h9 => absurd h9 (by decide)) (fun _ => ?_)
    refine wi_aload_n rfl rfl ?_
    refine wi_iload_n rfl rfl ?_
    refine wi_callS1 rfl (by decide) (by decide) rfl rfl rfl ?_
    refine wi_iload_n rfl rfl ?_
    refine wi_tsw (t := 10) rfl rfl (by decide) rfl ?_
    refine wi_ldc (a := 1000005) rfl rfl ?_
    refine wi_aret rfl ?_
    refine wi_callV1 rfl (by decide) (by decide) rfl (kd_28 ..) rfl rfl rfl (c_tokIs5 hcnt hN hT h26 h27 h5 h6 hse heN h7 hkd (z := 0) (congrArg bI (decide_eq_false (hn 4 (by omega)))) ?_)
    refine wi_if_eq rfl (fun _ => ?_) (fun h9 => absurd (by decide) h9)
    refine wi_iinc (z := (5 : Int32)) rfl rfl rfl (by decide) rfl ?_
    refine wi_goto rfl ?_
    refine wi_iload_n rfl rfl ?_
    refine wi_bipush (x := 7) rfl rfl ?_
    refine wi_icmp_gt rfl (fun h9 => absurd h9 (by decide)) (fun _ => ?_)
    refine wi_aload_n rfl rfl ?_
    refine wi_iload_n rfl rfl ?_
    refine wi_callS1 rfl (by decide) (by decide) rfl rfl rfl ?_
    refine wi_iload_n rfl rfl ?_
    refine wi_tsw (t := 12) rfl rfl (by decide) rfl ?_
    refine wi_ldc (a := 1000006) rfl rfl ?_
    refine wi_aret rfl ?_
    refine wi_callV1 rfl (by decide) (by decide) rfl (kd_28 ..) rfl rfl rfl (c_tokIs6 hcnt hN hT h26 h27 h5 h6 hse heN h7 hkd (z := 0) (congrArg bI (decide_eq_false (hn 5 (by omega)))) ?_)
    refine wi_if_eq rfl (fun _ => ?_) (fun h9 => absurd (by decide) h9)
    refine wi_iinc (z := (6 : Int32)) rfl rfl rfl (by decide) rfl ?_
    refine wi_goto rfl ?_
    refine wi_iload_n rfl rfl ?_
    refine wi_bipush (x := 7) rfl rfl ?_
    refine wi_icmp_gt rfl (fun h9 => absurd h9 (by decide)) (fun _ => ?_)
    refine wi_aload_n rfl rfl ?_
    refine wi_iload_n rfl rfl ?_
    refine wi_callS1 rfl (by decide) (by decide) rfl rfl rfl ?_
    refine wi_iload_n rfl rfl ?_
    refine wi_tsw (t := 14) rfl rfl (by decide) rfl ?_
    refine wi_ldc (a := 1000007) rfl rfl ?_
    refine wi_aret rfl ?_
    refine wi_callV1 rfl (by decide) (by decide) rfl (kd_28 ..) rfl rfl rfl (c_tokIs7 hcnt hN hT h26 h27 h5 h6 hse heN h7 hkd (z := 1) (congrArg bI (decide_eq_true hy)) ?_)
    refine wi_if_eq rfl (fun h9 => absurd h9 (by decide)) (fun _ => ?_)
    refine wi_iload_n rfl rfl ?_
    refine wi_iret rfl (Or.inl rfl) ?_
    exact hQ
  · skip
    refine wi_iconst (x := 0) rfl rfl ?_
    refine wi_istore_n (l' := [.ref 28, .int (0 : Int32)]) rfl (Nat.le_of_ble_eq_true rfl) rfl rfl ?_
    refine wi_iload_n rfl rfl ?_
    refine wi_bipush (x := 7) rfl rfl ?_
    refine wi_icmp_gt rfl (fun h9 => absurd h9 (by decide)) (fun _ => ?_)
    refine wi_aload_n rfl rfl ?_
    refine wi_iload_n rfl rfl ?_
    refine wi_callS1 rfl (by decide) (by decide) rfl rfl rfl ?_
    refine wi_iload_n rfl rfl ?_
    refine wi_tsw (t := 2) rfl rfl (by decide) rfl ?_
    refine wi_ldc (a := 1000001) rfl rfl ?_
    refine wi_aret rfl ?_
    refine wi_callV1 rfl (by decide) (by decide) rfl (kd_28 ..) rfl rfl rfl (c_tokIs1 hcnt hN hT h26 h27 h5 h6 hse heN h7 hkd (z := 0) (congrArg bI (decide_eq_false (hn 0 (by omega)))) ?_)
    refine wi_if_eq rfl (fun _ => ?_) (fun h9 => absurd (by decide) h9)
    refine wi_iinc (z := (1 : Int32)) rfl rfl rfl (by decide) rfl ?_
    refine wi_goto rfl ?_
    refine wi_iload_n rfl rfl ?_
    refine wi_bipush (x := 7) rfl rfl ?_
    refine wi_icmp_gt rfl (fun h9 => absurd h9 (by decide)) (fun _ => ?_)
    refine wi_aload_n rfl rfl ?_
    refine wi_iload_n rfl rfl ?_
    refine wi_callS1 rfl (by decide) (by decide) rfl rfl rfl ?_
    refine wi_iload_n rfl rfl ?_
    refine wi_tsw (t := 4) rfl rfl (by decide) rfl ?_
    refine wi_ldc (a := 1000002) rfl rfl ?_
    refine wi_aret rfl ?_
    refine wi_callV1 rfl (by decide) (by decide) rfl (kd_28 ..) rfl rfl rfl (c_tokIs2 hcnt hN hT h26 h27 h5 h6 hse heN h7 hkd (z := 0) (congrArg bI (decide_eq_false (hn 1 (by omega)))) ?_)
    refine wi_if_eq rfl (fun _ => ?_) (fun h9 => absurd (by decide) h9)
    refine wi_iinc (z := (2 : Int32)) rfl rfl rfl (by decide) rfl ?_
    refine wi_goto rfl ?_
    refine wi_iload_n rfl rfl ?_
    refine wi_bipush (x := 7) rfl rfl ?_
    refine wi_icmp_gt rfl (fun h9 => absurd h9 (by decide)) (fun _ => ?_)
    refine wi_aload_n rfl rfl ?_
    refine wi_iload_n rfl rfl ?_
    refine wi_callS1 rfl (by decide) (by decide) rfl rfl rfl ?_
    refine wi_iload_n rfl rfl ?_
    refine wi_tsw (t := 6) rfl rfl (by decide) rfl ?_
    refine wi_ldc (a := 1000003) rfl rfl ?_
    refine wi_aret rfl ?_
    refine wi_callV1 rfl (by decide) (by decide) rfl (kd_28 ..) rfl rfl rfl (c_tokIs3 hcnt hN hT h26 h27 h5 h6 hse heN h7 hkd (z := 0) (congrArg bI (decide_eq_false (hn 2 (by omega)))) ?_)
    refine wi_if_eq rfl (fun _ => ?_) (fun h9 => absurd (by decide) h9)
    refine wi_iinc (z := (3 : Int32)) rfl rfl rfl (by decide) rfl ?_
    refine wi_goto rfl ?_
    refine wi_iload_n rfl rfl ?_
    refine wi_bipush (x := 7) rfl rfl ?_
    refine wi_icmp_gt rfl (fun h9 => absurd h9 (by decide)) (fun _ => ?_)
    refine wi_aload_n rfl rfl ?_
    refine wi_iload_n rfl rfl ?_
    refine wi_callS1 rfl (by decide) (by decide) rfl rfl rfl ?_
    refine wi_iload_n rfl rfl ?_
    refine wi_tsw (t := 8) rfl rfl (by decide) rfl ?_
    refine wi_ldc (a := 1000004) rfl rfl ?_
    refine wi_aret rfl ?_
    refine wi_callV1 rfl (by decide) (by decide) rfl (kd_28 ..) rfl rfl rfl (c_tokIs4 hcnt hN hT h26 h27 h5 h6 hse heN h7 hkd (z := 0) (congrArg bI (decide_eq_false (hn 3 (by omega)))) ?_)
    refine wi_if_eq rfl (fun _ => ?_) (fun h9 => absurd (by decide) h9)
    refine wi_iinc (z := (4 : Int32)) rfl rfl rfl (by decide) rfl ?_
    refine wi_goto rfl ?_
    refine wi_iload_n rfl rfl ?_
    refine wi_bipush (x := 7) rfl rfl ?_
    refine wi_icmp_gt rfl (fun h9 => absurd h9 (by decide)) (fun _ => ?_)
    refine wi_aload_n rfl rfl ?_
    refine wi_iload_n rfl rfl ?_
    refine wi_callS1 rfl (by decide) (by decide) rfl rfl rfl ?_
    refine wi_iload_n rfl rfl ?_
    refine wi_tsw (t := 10) rfl rfl (by decide) rfl ?_
    refine wi_ldc (a := 1000005) rfl rfl ?_
    refine wi_aret rfl ?_
    refine wi_callV1 rfl (by decide) (by decide) rfl (kd_28 ..) rfl rfl rfl (c_tokIs5 hcnt hN hT h26 h27 h5 h6 hse heN h7 hkd (z := 0) (congrArg bI (decide_eq_false (hn 4 (by omega)))) ?_)
    refine wi_if_eq rfl (fun _ => ?_) (fun h9 => absurd (by decide) h9)
    refine wi_iinc (z := (5 : Int32)) rfl rfl rfl (by decide) rfl ?_
    refine wi_goto rfl ?_
    refine wi_iload_n rfl rfl ?_
    refine wi_bipush (x := 7) rfl rfl ?_
    refine wi_icmp_gt rfl (fun h9 => absurd h9 (by decide)) (fun _ => ?_)
    refine wi_aload_n rfl rfl ?_
    refine wi_iload_n rfl rfl ?_
    refine wi_callS1 rfl (by decide) (by decide) rfl rfl rfl ?_
    refine wi_iload_n rfl rfl ?_
    refine wi_tsw (t := 12) rfl rfl (by decide) rfl ?_
    refine wi_ldc (a := 1000006) rfl rfl ?_
    refine wi_aret rfl ?_
    refine wi_callV1 rfl (by decide) (by decide) rfl (kd_28 ..) rfl rfl rfl (c_tokIs6 hcnt hN hT h26 h27 h5 h6 hse heN h7 hkd (z := 0) (congrArg bI (decide_eq_false (hn 5 (by omega)))) ?_)
    refine wi_if_eq rfl (fun _ => ?_) (fun h9 => absurd (by decide) h9)
    refine wi_iinc (z := (6 : Int32)) rfl rfl rfl (by decide) rfl ?_
    refine wi_goto rfl ?_
    refine wi_iload_n rfl rfl ?_
    refine wi_bipush (x := 7) rfl rfl ?_
    refine wi_icmp_gt rfl (fun h9 => absurd h9 (by decide)) (fun _ => ?_)
    refine wi_aload_n rfl rfl ?_
    refine wi_iload_n rfl rfl ?_
    refine wi_callS1 rfl (by decide) (by decide) rfl rfl rfl ?_
    refine wi_iload_n rfl rfl ?_
    refine wi_tsw (t := 14) rfl rfl (by decide) rfl ?_
    refine wi_ldc (a := 1000007) rfl rfl ?_
    refine wi_aret rfl ?_
    refine wi_callV1 rfl (by decide) (by decide) rfl (kd_28 ..) rfl rfl rfl (c_tokIs7 hcnt hN hT h26 h27 h5 h6 hse heN h7 hkd (z := 0) (congrArg bI (decide_eq_false (hn 6 (by omega)))) ?_)
    refine wi_if_eq rfl (fun _ => ?_) (fun h9 => absurd (by decide) h9)
    refine wi_iinc (z := (7 : Int32)) rfl rfl rfl (by decide) rfl ?_
    refine wi_goto rfl ?_
    refine wi_iload_n rfl rfl ?_
    refine wi_bipush (x := 7) rfl rfl ?_
    refine wi_icmp_gt rfl (fun h9 => absurd h9 (by decide)) (fun _ => ?_)
    refine wi_aload_n rfl rfl ?_
    refine wi_iload_n rfl rfl ?_
    refine wi_callS1 rfl (by decide) (by decide) rfl rfl rfl ?_
    refine wi_iload_n rfl rfl ?_
    refine wi_tswD rfl rfl (by decide) ?_
    refine wi_ldc (a := 1000008) rfl rfl ?_
    refine wi_aret rfl ?_
    refine wi_callV1 rfl (by decide) (by decide) rfl (kd_28 ..) rfl rfl rfl (c_tokIs8 hcnt hN hT h26 h27 h5 h6 hse heN h7 hkd (z := 1) (congrArg bI (decide_eq_true hy)) ?_)
    refine wi_if_eq rfl (fun h9 => absurd h9 (by decide)) (fun _ => ?_)
    refine wi_iload_n rfl rfl ?_
    refine wi_iret rfl (Or.inl rfl) ?_
    exact hQ
  · omega
theorem sm_l {mi : Nat → Nat → Int32} {s e : Nat} (hcnt : cnt ≤ 400) (hN : N ≤ cnt) (hT : ∀ k, T k < 256) (h26 : mi 26 1 = Int32.ofNat cnt) (h27 : ∀ k, k < cnt → mi 27 k = Int32.ofNat (T k)) (h5 : mi 28 5 = Int32.ofNat e) (h6 : mi 28 6 = Int32.ofNat s) (hse : s < e) (heN : e ≤ N) {st9 : Nat} (hst : st9 + (e - s) ≤ N) (hQ : Q (some (.int (bI (allB (fun i => decide (T (st9 + i) = T (s + i))) (e - s))))) (am_shT, mrL b, mi, ml)) : ∀ r i, i + r = e - s → allB (fun i => decide (T (st9 + i) = T (s + i))) i = true → am_wp X (d + 1) 51 2 [.ref 28, .int (Int32.ofNat (st9)), .int (Int32.ofNat (i))] [] (am_shT, mrL b, mi, ml) Q := by
  intro r
  induction r with
  | zero =>
    intro i hi hpre
    refine wi_iload_n rfl rfl ?_
    refine wi_aload_n rfl rfl ?_
    refine wi_callV0 rfl (by decide) (by decide) rfl (kd_28 ..) rfl rfl rfl ?_
    refine wi_aload_n rfl rfl ?_
    refine wi_getIv (v := (Int32.ofNat (e))) rfl (kd_28 ..) h5 ?_
    refine wi_aload_n rfl rfl ?_
    refine wi_getIv (v := (Int32.ofNat (s))) rfl (kd_28 ..) h6 ?_
    refine wn_isub (z := (Int32.ofNat (e - s))) rfl (sub_n (a := e) (b := s) rfl rfl (by omega)) ?_
    refine wi_iret rfl (Or.inl rfl) ?_
    refine wi_icmp_ge rfl (fun _ => ?_) (fun h9 => absurd trivial (by exfalso; have h8 := (not_congr (le_n (a := e - s) (b := i) rfl rfl (by omega) (by omega))).mp h9; omega))
    refine wi_iconst (x := 1) rfl rfl ?_
    refine wi_iret rfl (by decide) ?_
    obtain rfl : i = e - s := by omega
    rw [hpre] at hQ
    exact hQ
  | succ r ih =>
    intro i hi hpre
    have hb1 := hT (st9 + i)
    have hb2 := hT (s + i)
    refine wi_iload_n rfl rfl ?_
    refine wi_aload_n rfl rfl ?_
    refine wi_callV0 rfl (by decide) (by decide) rfl (kd_28 ..) rfl rfl rfl ?_
    refine wi_aload_n rfl rfl ?_
    refine wi_getIv (v := (Int32.ofNat (e))) rfl (kd_28 ..) h5 ?_
    refine wi_aload_n rfl rfl ?_
    refine wi_getIv (v := (Int32.ofNat (s))) rfl (kd_28 ..) h6 ?_
    refine wn_isub (z := (Int32.ofNat (e - s))) rfl (sub_n (a := e) (b := s) rfl rfl (by omega)) ?_
    refine wi_iret rfl (Or.inl rfl) ?_
    refine wi_icmp_ge rfl (fun h9 => absurd trivial (by exfalso; have h8 := (le_n (a := e - s) (b := i) rfl rfl (by omega) (by omega)).mp h9; omega)) (fun _ => ?_)
    refine wi_aload_n rfl rfl ?_
    refine wi_getR rfl (kd_28 ..) (rd_28_2 _) ?_
    refine wi_iload_n rfl rfl ?_
    refine wi_iload_n rfl rfl ?_
    refine wn_iadd (z := (Int32.ofNat (st9 + i))) rfl (add_n (a := st9) (b := i) rfl rfl) ?_
    refine wi_callV1 rfl (by decide) (by decide) rfl (kd_26 ..) rfl rfl rfl (c_byteAt h26 hcnt (by omega) (h27 _ (by omega)) ?_)
    refine wi_aload_n rfl rfl ?_
    refine wi_getR rfl (kd_28 ..) (rd_28_2 _) ?_
    refine wi_aload_n rfl rfl ?_
    refine wi_getIv (v := (Int32.ofNat (s))) rfl (kd_28 ..) h6 ?_
    refine wi_iload_n rfl rfl ?_
    refine wn_iadd (z := (Int32.ofNat (s + i))) rfl (add_n (a := s) (b := i) rfl rfl) ?_
    refine wi_callV1 rfl (by decide) (by decide) rfl (kd_26 ..) rfl rfl rfl (c_byteAt h26 hcnt (by omega) (h27 _ (by omega)) ?_)
    refine wi_icmp_eq rfl (fun g1 => ?_) (fun g1 => ?_)
    · replace g1 := (eq_n (a := T (st9 + i)) (b := T (s + i)) rfl rfl (by omega) (by omega)).mp g1
      refine wi_iinc (z := (Int32.ofNat (i + 1))) rfl rfl rfl (add_n (a := i) (b := 1) rfl rfl) rfl ?_
      refine wi_goto rfl ?_
      have e8 : (fun i => decide (T (st9 + i) = T (s + i))) i = true := decide_eq_true g1
      refine ih (i + 1) (by omega) ?_
      show (allB (fun i => decide (T (st9 + i) = T (s + i))) i && (fun i => decide (T (st9 + i) = T (s + i))) i) = true
      rw [hpre, e8]
      rfl
    · replace g1 := (not_congr (eq_n (a := T (st9 + i)) (b := T (s + i)) rfl rfl (by omega) (by omega))).mp g1
      refine wi_iconst (x := 0) rfl rfl ?_
      refine wi_iret rfl (by decide) ?_
      have e8 : (fun i => decide (T (st9 + i) = T (s + i))) i = false := decide_eq_false g1
      rw [allB_f e8 (by omega)] at hQ
      exact hQ
theorem c_same {mi : Nat → Nat → Int32} {s e : Nat} (hcnt : cnt ≤ 400) (hN : N ≤ cnt) (hT : ∀ k, T k < 256) (h26 : mi 26 1 = Int32.ofNat cnt) (h27 : ∀ k, k < cnt → mi 27 k = Int32.ofNat (T k)) (h5 : mi 28 5 = Int32.ofNat e) (h6 : mi 28 6 = Int32.ofNat s) (hse : s < e) (heN : e ≤ N) {st9 : Nat} {z : Int32} (hst : st9 + (e - s) ≤ N) (hz : bI (allB (fun i => decide (T (st9 + i) = T (s + i))) (e - s)) = z) (hQ : Q (some (.int z)) (am_shT, mrL b, mi, ml)) : am_wp X (d + 1) 51 0 [.ref 28, .int (Int32.ofNat (st9)), .retAddr 0] [] (am_shT, mrL b, mi, ml) Q := by
  refine wi_iconst (x := 0) rfl rfl ?_
  refine wi_istore_n (l' := [.ref 28, .int (Int32.ofNat (st9)), .int (0 : Int32)]) rfl (Nat.le_of_ble_eq_true rfl) rfl rfl ?_
  exact sm_l hcnt hN hT h26 h27 h5 h6 hse heN hst (by rw [hz]; exact hQ) (e - s) 0 (by omega) rfl
theorem kn_iff {S : rgS} {s n i : Nat} : knw T S s n i = true ↔ (S.nl i = n ∧ allB (fun k => decide (T (S.ns i + k) = T (s + k))) n = true) := by
  unfold knw
  rw [decide_eq_true_iff, tx_iff, tx_len, allB_iff]
  refine ⟨fun h => ⟨h.1, fun k hk => decide_eq_true ?_⟩, fun h => ⟨h.1, fun k hk => ?_⟩⟩
  · have h1 := h.2 k (by omega)
    rw [tx_get hk] at h1
    exact h1
  · rw [h.1] at hk
    rw [tx_get hk]
    exact of_decide_eq_true (h.2 k hk)
theorem any_t {f : Nat → Bool} : ∀ n i, i < n → f i = true → anyB f n = true := by
  intro n
  induction n with
  | zero => intro i h _; omega
  | succ n ih =>
    intro i h hf
    show (anyB f n || f n) = true
    rcases Nat.lt_or_ge i n with h1 | h1
    · rw [ih i h1 hf]; rfl
    · rw [show n = i by omega, hf, Bool.or_true]
theorem nu_l {mi : Nat → Nat → Int32} {s e : Nat} (hcnt : cnt ≤ 400) (hN : N ≤ cnt) (hT : ∀ k, T k < 256) (h26 : mi 26 1 = Int32.ofNat cnt) (h27 : ∀ k, k < cnt → mi 27 k = Int32.ofNat (T k)) (h5 : mi 28 5 = Int32.ofNat e) (h6 : mi 28 6 = Int32.ofNat s) (hse : s < e) (heN : e ≤ N) (h3 : e - s ≤ 3) (hdg : ∀ k, s ≤ k → k < e → isD (T k) = true) (hQ : Q (some (.int (Int32.ofNat (nmR T s (e - s))))) (am_shT, mrL b, mi, ml)) : ∀ r i, i + r = e - s → am_wp X (d + 1) 55 5 [.ref 28, .int (Int32.ofNat (nmR T s (i))), .int (Int32.ofNat (s + i))] [] (am_shT, mrL b, mi, ml) Q := by
  intro r
  induction r with
  | zero =>
    intro i hi
    refine wi_iload_n rfl rfl ?_
    refine wi_aload_n rfl rfl ?_
    refine wi_getIv (v := (Int32.ofNat (e))) rfl (kd_28 ..) h5 ?_
    refine wi_icmp_ge rfl (fun _ => ?_) (fun h9 => absurd trivial (by exfalso; have h8 := (not_congr (le_n (a := e) (b := s + i) rfl rfl (by omega) (by omega))).mp h9; omega))
    refine wi_iload_n rfl rfl ?_
    refine wi_iret rfl (Or.inl rfl) ?_
    obtain rfl : i = e - s := by omega
    exact hQ
  | succ r ih =>
    intro i hi
    have hb1 := hT (s + i)
    have hb2 := hdg (s + i) (by omega) (by omega)
    unfold isD at hb2
    rw [Bool.and_eq_true, decide_eq_true_eq, decide_eq_true_eq] at hb2
    refine wi_iload_n rfl rfl ?_
    refine wi_aload_n rfl rfl ?_
    refine wi_getIv (v := (Int32.ofNat (e))) rfl (kd_28 ..) h5 ?_
    refine wi_icmp_ge rfl (fun h9 => absurd trivial (by exfalso; have h8 := (le_n (a := e) (b := s + i) rfl rfl (by omega) (by omega)).mp h9; omega)) (fun _ => ?_)
    refine wi_iload_n rfl rfl ?_
    refine wi_bipush (x := 10) rfl rfl ?_
    refine wn_imul (z := (Int32.ofNat ((nmR T s (i)) * 10))) rfl (mul_n (a := nmR T s (i)) (b := 10) rfl (rfl : (10 : Int32) = Int32.ofNat 10)) ?_
    refine wi_aload_n rfl rfl ?_
    refine wi_getR rfl (kd_28 ..) (rd_28_2 _) ?_
    refine wi_iload_n rfl rfl ?_
    refine wi_callV1 rfl (by decide) (by decide) rfl (kd_26 ..) rfl rfl rfl (c_byteAt h26 hcnt (by omega) (h27 _ (by omega)) ?_)
    refine wn_iadd (z := (Int32.ofNat ((nmR T s (i)) * 10 + T (s + i)))) rfl (add_n (a := (nmR T s (i)) * 10) (b := T (s + i)) rfl rfl) ?_
    refine wi_bipush (x := 48) rfl rfl ?_
    refine wn_isub (z := (Int32.ofNat ((nmR T s (i)) * 10 + T (s + i) - 48))) rfl (sub_n (a := (nmR T s (i)) * 10 + T (s + i)) (b := 48) rfl (rfl : (48 : Int32) = Int32.ofNat 48) (by omega)) ?_
    refine wi_istore_n (l' := [.ref 28, .int (Int32.ofNat ((nmR T s (i)) * 10 + T (s + i) - 48)), .int (Int32.ofNat (s + i))]) rfl (Nat.le_of_ble_eq_true rfl) rfl rfl ?_
    refine wi_iinc (z := (Int32.ofNat (s + i + 1))) rfl rfl rfl (add_n (a := s + i) (b := 1) rfl rfl) rfl ?_
    refine wi_goto rfl ?_
    have e8 : (nmR T s (i)) * 10 + T (s + i) - 48 = nmR T s (i + 1) := by
      show _ = nmR T s (i) * 10 + (T (s + i) - 48)
      omega
    rw [e8]
    exact ih (i + 1) (by omega)
theorem c_num {mi : Nat → Nat → Int32} {s e : Nat} (hcnt : cnt ≤ 400) (hN : N ≤ cnt) (hT : ∀ k, T k < 256) (h26 : mi 26 1 = Int32.ofNat cnt) (h27 : ∀ k, k < cnt → mi 27 k = Int32.ofNat (T k)) (h5 : mi 28 5 = Int32.ofNat e) (h6 : mi 28 6 = Int32.ofNat s) (hse : s < e) (heN : e ≤ N) (h3 : e - s ≤ 3) (hdg : ∀ k, s ≤ k → k < e → isD (T k) = true) (hQ : Q (some (.int (Int32.ofNat (nmR T s (e - s))))) (am_shT, mrL b, mi, ml)) : am_wp X (d + 1) 55 0 [.ref 28, .retAddr 0, .retAddr 0] [] (am_shT, mrL b, mi, ml) Q := by
  refine wi_iconst (x := 0) rfl rfl ?_
  refine wi_istore_n (l' := [.ref 28, .int (0 : Int32), .retAddr 0]) rfl (Nat.le_of_ble_eq_true rfl) rfl rfl ?_
  refine wi_aload_n rfl rfl ?_
  refine wi_getIv (v := (Int32.ofNat (s))) rfl (kd_28 ..) h6 ?_
  refine wi_istore_n (l' := [.ref 28, .int (0 : Int32), .int (Int32.ofNat (s))]) rfl (Nat.le_of_ble_eq_true rfl) rfl rfl ?_
  exact nu_l hcnt hN hT h26 h27 h5 h6 hse heN h3 hdg hQ (e - s) 0 (by omega)
def XR (B : Nat) (N : Nat) (mi0 : Nat → Nat → Int32) (pl : Nat) (S : rgS) (mi : Nat → Nat → Int32) : Prop :=
  (∀ a, (a < 28 ∨ 31 ≤ a) → (a < B ∨ B + 29 ≤ a) → mi a = mi0 a) ∧ mi 28 4 = Int32.ofNat N ∧ mi 28 5 = Int32.ofNat pl ∧ mi 28 8 = Int32.ofNat S.aw ∧ mi 28 11 = 0 ∧ mi 28 12 = -1 ∧ ((S.aw = 3 ∨ S.aw = 4) → mi 28 9 = Int32.ofNat S.tw) ∧ (S.aw = 4 → mi 28 10 = Int32.ofNat S.ts) ∧ mi B 4 = Int32.ofNat S.r ∧
  ∀ i, i < S.r → mi (B + 1) i = Int32.ofNat (S.tc i) ∧ mi 29 i = Int32.ofNat (S.ns i) ∧ mi 30 i = Int32.ofNat (S.nl i) ∧ ∀ k, k < S.tc i → mi (B + 3 + i) k = Int32.ofNat (S.fa i k) ∧ mi (B + 12 + i) k = Int32.ofNat (S.fs i k) ∧ mi (B + 21 + i) k = Int32.ofNat (S.fn i k)
theorem XR_28 {B : Nat} {mi0 mi mi2 : Nat → Nat → Int32} {pl pl2 aw tw ts p9 : Nat} {S : rgS} (hB : 31 ≤ B) (h : XR B N mi0 pl S mi) (ho : ∀ a, a ≠ 28 → mi2 a = mi a) (h4 : mi2 28 4 = mi 28 4) (h5 : mi2 28 5 = Int32.ofNat pl2) (h8 : mi2 28 8 = Int32.ofNat aw) (h11 : mi2 28 11 = mi 28 11) (h12 : mi2 28 12 = mi 28 12) (h9 : (aw = 3 ∨ aw = 4) → mi2 28 9 = Int32.ofNat tw) (h10 : aw = 4 → mi2 28 10 = Int32.ofNat ts) : XR B N mi0 pl2 ⟨aw, p9, S.r, tw, ts, S.ns, S.nl, S.tc, S.fa, S.fs, S.fn⟩ mi2 := by
  obtain ⟨g1, g2, g3, g4, g5, g6, g7, g8, g9, g10⟩ := h
  refine ⟨fun a h1 h2 => (ho a (by omega)).trans (g1 a h1 h2), h4.trans g2, h5, h8, h11.trans g5, h12.trans g6, h9, h10, ?_, fun i hi => ?_⟩
  · rw [ho B (by omega)]; exact g9
  · rw [ho (B + 1) (by omega), ho 29 (by decide), ho 30 (by decide), ho (B + 3 + i) (by omega), ho (B + 12 + i) (by omega), ho (B + 21 + i) (by omega)]
    exact g10 i hi
theorem XR_name {B : Nat} {mi0 mi : Nat → Nat → Int32} {e s : Nat} {S : rgS} (hB : B = 31 ∨ B = 97) (h : XR B N mi0 e S mi) (hr : S.r < 8) : XR B N mi0 e ⟨1, e, S.r + 1, S.tw, S.ts, up1 S.ns S.r s, up1 S.nl S.r (e - s), up1 S.tc S.r 0, S.fa, S.fs, S.fn⟩ (u2 (u2 (u2 (u2 (u2 mi 29 S.r (Int32.ofNat s)) 30 S.r (Int32.ofNat (e - s))) (B + 1) S.r 0) B 4 (Int32.ofNat (S.r + 1))) 28 8 1) := by
  obtain ⟨g1, g2, g3, g4, g5, g6, g7, g8, g9, g10⟩ := h
  refine ⟨fun a h1 h2 => ?_, ?_, ?_, rfl, ?_, ?_, fun h9 => (by rcases h9 with h9 | h9 <;> cases h9), fun h9 => (by cases h9), ?_, fun i hi => ?_⟩
  · rw [u2_ne (by omega), u2_ne (by omega), u2_ne (by omega), u2_ne (by omega), u2_ne (by omega)]
    exact g1 a h1 h2
  · rw [u2_off (by decide), u2_ne (by omega), u2_ne (by omega), u2_ne (by omega), u2_ne (by omega)]; exact g2
  · rw [u2_off (by decide), u2_ne (by omega), u2_ne (by omega), u2_ne (by omega), u2_ne (by omega)]; exact g3
  · rw [u2_off (by decide), u2_ne (by omega), u2_ne (by omega), u2_ne (by omega), u2_ne (by omega)]; exact g5
  · rw [u2_off (by decide), u2_ne (by omega), u2_ne (by omega), u2_ne (by omega), u2_ne (by omega)]; exact g6
  · rw [u2_ne (by omega), u2_same]
    rfl
  · have hi : i < S.r + 1 := hi
    have e1 : (u2 (u2 (u2 (u2 (u2 mi 29 S.r (Int32.ofNat s)) 30 S.r (Int32.ofNat (e - s))) (B + 1) S.r 0) B 4 (Int32.ofNat (S.r + 1))) 28 8 1) (B + 1) i = if i = S.r then 0 else mi (B + 1) i := by
      rw [u2_ne (by omega), u2_ne (by omega), u2_rd, u2_ne (by omega), u2_ne (by omega)]
    have e2 : (u2 (u2 (u2 (u2 (u2 mi 29 S.r (Int32.ofNat s)) 30 S.r (Int32.ofNat (e - s))) (B + 1) S.r 0) B 4 (Int32.ofNat (S.r + 1))) 28 8 1) 29 i = if i = S.r then Int32.ofNat s else mi 29 i := by
      rw [u2_ne (by omega), u2_ne (by omega), u2_ne (by omega), u2_ne (by omega), u2_rd]
    have e3 : (u2 (u2 (u2 (u2 (u2 mi 29 S.r (Int32.ofNat s)) 30 S.r (Int32.ofNat (e - s))) (B + 1) S.r 0) B 4 (Int32.ofNat (S.r + 1))) 28 8 1) 30 i = if i = S.r then Int32.ofNat (e - s) else mi 30 i := by
      rw [u2_ne (by omega), u2_ne (by omega), u2_ne (by omega), u2_rd, u2_ne (by omega)]
    have e4 : ∀ z, B + 2 ≤ z → (u2 (u2 (u2 (u2 (u2 mi 29 S.r (Int32.ofNat s)) 30 S.r (Int32.ofNat (e - s))) (B + 1) S.r 0) B 4 (Int32.ofNat (S.r + 1))) 28 8 1) z = mi z := fun z hz => by
      rw [u2_ne (by omega), u2_ne (by omega), u2_ne (by omega), u2_ne (by omega), u2_ne (by omega)]
    rw [e1, e2, e3, e4 (B + 3 + i) (by omega), e4 (B + 12 + i) (by omega), e4 (B + 21 + i) (by omega)]
    show _ = Int32.ofNat (up1 S.tc S.r 0 i) ∧ _ = Int32.ofNat (up1 S.ns S.r s i) ∧ _ = Int32.ofNat (up1 S.nl S.r (e - s) i) ∧ ∀ k, k < up1 S.tc S.r 0 i → _
    unfold up1
    by_cases hir : i = S.r
    · simp only [if_pos hir]
      exact ⟨rfl, trivial, trivial, fun k hk => by omega⟩
    · simp only [if_neg hir]
      exact g10 i (by omega)
theorem XR_test {B : Nat} {mi0 mi : Nat → Nat → Int32} {e num t : Nat} {S : rgS} (hB : B = 31 ∨ B = 97) (h : XR B N mi0 e S mi) (hr : 0 < S.r) (hr8 : S.r ≤ 8) (ht : t = S.tc (S.r - 1)) : XR B N mi0 e ⟨5, e, S.r, S.tw, S.ts, S.ns, S.nl, up1 S.tc (S.r - 1) (S.tc (S.r - 1) + 1), upp S.fa (S.r - 1) (S.tc (S.r - 1)) S.tw, upp S.fs (S.r - 1) (S.tc (S.r - 1)) S.ts, upp S.fn (S.r - 1) (S.tc (S.r - 1)) num⟩ (u2 (u2 (u2 (u2 (u2 mi (B + 3 + (S.r - 1)) t (Int32.ofNat S.tw)) (B + 12 + (S.r - 1)) t (Int32.ofNat S.ts)) (B + 21 + (S.r - 1)) t (Int32.ofNat num)) (B + 1) (S.r - 1) (Int32.ofNat (t + 1))) 28 8 5) := by
  obtain ⟨g1, g2, g3, g4, g5, g6, g7, g8, g9, g10⟩ := h
  rw [← ht]
  refine ⟨fun a h1 h2 => ?_, ?_, ?_, rfl, ?_, ?_, fun h9 => (by rcases h9 with h9 | h9 <;> cases h9), fun h9 => (by cases h9), ?_, fun i hi => ?_⟩
  · rw [u2_ne (by omega), u2_ne (by omega), u2_ne (by omega), u2_ne (by omega), u2_ne (by omega)]
    exact g1 a h1 h2
  · rw [u2_off (by decide), u2_ne (by omega), u2_ne (by omega), u2_ne (by omega), u2_ne (by omega)]; exact g2
  · rw [u2_off (by decide), u2_ne (by omega), u2_ne (by omega), u2_ne (by omega), u2_ne (by omega)]; exact g3
  · rw [u2_off (by decide), u2_ne (by omega), u2_ne (by omega), u2_ne (by omega), u2_ne (by omega)]; exact g5
  · rw [u2_off (by decide), u2_ne (by omega), u2_ne (by omega), u2_ne (by omega), u2_ne (by omega)]; exact g6
  · rw [u2_ne (by omega), u2_ne (by omega), u2_ne (by omega), u2_ne (by omega), u2_ne (by omega)]; exact g9
  · have hi : i < S.r := hi
    obtain ⟨m, hm⟩ : ∃ m, m = (u2 (u2 (u2 (u2 (u2 mi (B + 3 + (S.r - 1)) t (Int32.ofNat S.tw)) (B + 12 + (S.r - 1)) t (Int32.ofNat S.ts)) (B + 21 + (S.r - 1)) t (Int32.ofNat num)) (B + 1) (S.r - 1) (Int32.ofNat (t + 1))) 28 8 5) := ⟨_, rfl⟩
    rw [← hm]
    have e1 : m (B + 1) i = if i = S.r - 1 then Int32.ofNat (t + 1) else mi (B + 1) i := by
      rw [hm, u2_ne (by omega), u2_rd, u2_ne (by omega), u2_ne (by omega), u2_ne (by omega)]
    have e2 : m 29 i = mi 29 i := by rw [hm, u2_ne (by omega), u2_ne (by omega), u2_ne (by omega), u2_ne (by omega), u2_ne (by omega)]
    have e3 : m 30 i = mi 30 i := by rw [hm, u2_ne (by omega), u2_ne (by omega), u2_ne (by omega), u2_ne (by omega), u2_ne (by omega)]
    have f1 : ∀ k, m (B + 3 + i) k = if i = S.r - 1 ∧ k = t then Int32.ofNat S.tw else mi (B + 3 + i) k := fun k => by
      rw [hm, u2_ne (by omega), u2_ne (by omega), u2_ne (by omega), u2_ne (by omega)]
      by_cases hir : i = S.r - 1
      · rw [hir, u2_rd]
        by_cases hk : k = t
        · rw [if_pos hk, if_pos ⟨rfl, hk⟩]
        · rw [if_neg hk, if_neg (fun h9 => hk h9.2)]
      · rw [u2_ne (by omega), if_neg (fun h9 => hir h9.1)]
    have f2 : ∀ k, m (B + 12 + i) k = if i = S.r - 1 ∧ k = t then Int32.ofNat S.ts else mi (B + 12 + i) k := fun k => by
      rw [hm, u2_ne (by omega), u2_ne (by omega), u2_ne (by omega)]
      by_cases hir : i = S.r - 1
      · rw [hir, u2_rd, u2_ne (by omega)]
        by_cases hk : k = t
        · rw [if_pos hk, if_pos ⟨rfl, hk⟩]
        · rw [if_neg hk, if_neg (fun h9 => hk h9.2)]
      · rw [u2_ne (by omega), u2_ne (by omega), if_neg (fun h9 => hir h9.1)]
    have f3 : ∀ k, m (B + 21 + i) k = if i = S.r - 1 ∧ k = t then Int32.ofNat num else mi (B + 21 + i) k := fun k => by
      rw [hm, u2_ne (by omega), u2_ne (by omega)]
      by_cases hir : i = S.r - 1
      · rw [hir, u2_rd, u2_ne (by omega), u2_ne (by omega)]
        by_cases hk : k = t
        · rw [if_pos hk, if_pos ⟨rfl, hk⟩]
        · rw [if_neg hk, if_neg (fun h9 => hk h9.2)]
      · rw [u2_ne (by omega), u2_ne (by omega), u2_ne (by omega), if_neg (fun h9 => hir h9.1)]
    obtain ⟨q1, q2, q3, q4⟩ := g10 i hi
    rw [e1, e2, e3]
    show _ = Int32.ofNat (up1 S.tc (S.r - 1) (t + 1) i) ∧ _ ∧ _ ∧ ∀ k, k < up1 S.tc (S.r - 1) (t + 1) i → m (B + 3 + i) k = Int32.ofNat (upp S.fa (S.r - 1) t S.tw i k) ∧ m (B + 12 + i) k = Int32.ofNat (upp S.fs (S.r - 1) t S.ts i k) ∧ m (B + 21 + i) k = Int32.ofNat (upp S.fn (S.r - 1) t num i k)
    refine ⟨?_, q2, q3, fun k hk => ?_⟩
    · unfold up1
      by_cases hir : i = S.r - 1
      · rw [if_pos hir, if_pos hir]
      · rw [if_neg hir, if_neg hir]; exact q1
    · rw [f1, f2, f3]
      unfold upp
      by_cases hc : i = S.r - 1 ∧ k = t
      · rw [if_pos hc, if_pos hc, if_pos hc, if_pos hc, if_pos hc, if_pos hc]
        exact ⟨rfl, rfl, rfl⟩
      · rw [if_neg hc, if_neg hc, if_neg hc, if_neg hc, if_neg hc, if_neg hc]
        refine q4 k ?_
        unfold up1 at hk
        by_cases hir : i = S.r - 1
        · rw [if_pos hir] at hk
          have : ¬ k = t := fun h9 => hc ⟨hir, h9⟩
          rw [hir, ← ht]
          omega
        · rw [if_neg hir] at hk
          exact hk
theorem tkS_z {S : rgS} {s e kd : Nat} (h : kd = 0) : tkS T S s e kd = .inl 1 := if_pos h
theorem tkS_0 {S : rgS} {s e kd : Nat} (h : ¬ kd = 0) (ha : S.aw = 0) : tkS T S s e kd = tk0 T S s e kd := (if_neg h).trans (if_pos ha)
theorem tkS_1 {S : rgS} {s e kd : Nat} (h : ¬ kd = 0) (ha : S.aw = 1) : tkS T S s e kd = tk1 T S s e kd := (if_neg h).trans ((if_neg (by omega)).trans (if_pos ha))
theorem tkS_2 {S : rgS} {s e kd : Nat} (h : ¬ kd = 0) (ha : S.aw = 2) : tkS T S s e kd = tk2 T S s e kd := (if_neg h).trans ((if_neg (by omega)).trans ((if_neg (by omega)).trans (if_pos ha)))
theorem tkS_3 {S : rgS} {s e kd : Nat} (h : ¬ kd = 0) (ha : S.aw = 3) : tkS T S s e kd = tk3 S e kd := (if_neg h).trans ((if_neg (by omega)).trans ((if_neg (by omega)).trans ((if_neg (by omega)).trans (if_pos ha))))
theorem tkS_4 {S : rgS} {s e kd : Nat} (h : ¬ kd = 0) (ha : S.aw = 4) : tkS T S s e kd = tk4 T S s e kd := (if_neg h).trans ((if_neg (by omega)).trans ((if_neg (by omega)).trans ((if_neg (by omega)).trans ((if_neg (by omega)).trans (if_pos ha)))))
theorem tkS_5 {S : rgS} {s e kd : Nat} (h : ¬ kd = 0) (ha : S.aw = 5) : tkS T S s e kd = tk5 T S s e kd := (if_neg h).trans ((if_neg (by omega)).trans ((if_neg (by omega)).trans ((if_neg (by omega)).trans ((if_neg (by omega)).trans (if_neg (by omega))))))
theorem kn_true {mi : Nat → Nat → Int32} {s e : Nat} (hcnt : cnt ≤ 400) (hN : N ≤ cnt) (hT : ∀ k, T k < 256) (h26 : mi 26 1 = Int32.ofNat cnt) (h27 : ∀ k, k < cnt → mi 27 k = Int32.ofNat (T k)) (h5 : mi 28 5 = Int32.ofNat e) (h6 : mi 28 6 = Int32.ofNat s) (hse : s < e) (heN : e ≤ N) {S : rgS} (hrr : mi 97 4 = Int32.ofNat S.r) (hr8 : S.r ≤ 8) (hnm : ∀ i, i < S.r → (mi 29 i = Int32.ofNat (S.ns i) ∧ mi 30 i = Int32.ofNat (S.nl i) ∧ S.ns i + S.nl i ≤ N)) (hQ : Q (some (.int (bI (anyB (knw T S s (e - s)) S.r)))) (am_shT, mrL true, mi, ml)) : ∀ r i, i + r = S.r → anyB (knw T S s (e - s)) i = false → am_wp X (d + 2) 50 2 [.ref 28, .int (Int32.ofNat (i))] [] (am_shT, mrL true, mi, ml) Q := by
  intro r
  induction r with
  | zero =>
    intro i hi hpre
    refine wi_iload_n rfl rfl ?_
    refine wi_aload_n rfl rfl ?_
    refine wi_getR rfl (kd_28 ..) (rd_28_3 true) ?_
    refine wi_callV0 rfl (by decide) (by decide) rfl (kd_97 ..) rfl rfl rfl ?_
    refine wi_aload_n rfl rfl ?_
    refine wi_getIv (v := (Int32.ofNat (S.r))) rfl (kd_97 ..) hrr ?_
    refine wi_iret rfl (Or.inl rfl) ?_
    refine wi_icmp_ge rfl (fun _ => ?_) (fun h9 => absurd trivial (by exfalso; have h8 := (not_congr (le_n (a := S.r) (b := i) rfl rfl (by omega) (by omega))).mp h9; omega))
    refine wi_iconst (x := 0) rfl rfl ?_
    refine wi_iret rfl (by decide) ?_
    obtain rfl : i = S.r := by omega
    rw [hpre] at hQ
    exact hQ
  | succ r ih =>
    intro i hi hpre
    have q1 := hnm i (by omega)
    refine wi_iload_n rfl rfl ?_
    refine wi_aload_n rfl rfl ?_
    refine wi_getR rfl (kd_28 ..) (rd_28_3 true) ?_
    refine wi_callV0 rfl (by decide) (by decide) rfl (kd_97 ..) rfl rfl rfl ?_
    refine wi_aload_n rfl rfl ?_
    refine wi_getIv (v := (Int32.ofNat (S.r))) rfl (kd_97 ..) hrr ?_
    refine wi_iret rfl (Or.inl rfl) ?_
    refine wi_icmp_ge rfl (fun h9 => absurd trivial (by exfalso; have h8 := (le_n (a := S.r) (b := i) rfl rfl (by omega) (by omega)).mp h9; omega)) (fun _ => ?_)
    refine wi_aload_n rfl rfl ?_
    refine wi_getR rfl (kd_28 ..) (rd_28_1 _) ?_
    refine wi_iload_n rfl rfl ?_
    refine wn_iaload (q := i) (v := (Int32.ofNat (S.nl i))) rfl (ln_30 ..) rfl (by omega) (by decide) (by decide) (by decide) q1.2.1 ?_
    refine wi_aload_n rfl rfl ?_
    refine wi_callV0 rfl (by decide) (by decide) rfl (kd_28 ..) rfl rfl rfl ?_
    refine wi_aload_n rfl rfl ?_
    refine wi_getIv (v := (Int32.ofNat (e))) rfl (kd_28 ..) h5 ?_
    refine wi_aload_n rfl rfl ?_
    refine wi_getIv (v := (Int32.ofNat (s))) rfl (kd_28 ..) h6 ?_
    refine wn_isub (z := (Int32.ofNat (e - s))) rfl (sub_n (a := e) (b := s) rfl rfl (by omega)) ?_
    refine wi_iret rfl (Or.inl rfl) ?_
    refine wi_icmp_ne rfl (fun g1 => ?_) (fun g1 => ?_)
    · replace g1 := (ne_n (a := S.nl i) (b := e - s) rfl rfl (by omega) (by omega)).mp g1
      refine wi_iinc (z := (Int32.ofNat (i + 1))) rfl rfl rfl (add_n (a := i) (b := 1) rfl rfl) rfl ?_
      refine wi_goto rfl ?_
      have e8 : (knw T S s (e - s)) i = false := Bool.eq_false_iff.mpr (fun hk8 => by
        have hk9 := kn_iff.mp hk8
        have := hk9.1
        omega)
      refine ih (i + 1) (by omega) ?_
      show (anyB (knw T S s (e - s)) i || (knw T S s (e - s)) i) = false
      rw [hpre, e8]
      rfl
    · replace g1 := (not_congr (ne_n (a := S.nl i) (b := e - s) rfl rfl (by omega) (by omega))).mp g1
      refine wi_aload_n rfl rfl ?_
      refine wi_aload_n rfl rfl ?_
      refine wi_getR rfl (kd_28 ..) (rd_28_0 _) ?_
      refine wi_iload_n rfl rfl ?_
      refine wn_iaload (q := i) (v := (Int32.ofNat (S.ns i))) rfl (ln_29 ..) rfl (by omega) (by decide) (by decide) (by decide) q1.1 ?_
      refine wi_callV1 rfl (by decide) (by decide) rfl (kd_28 ..) rfl rfl rfl (c_same hcnt hN hT h26 h27 h5 h6 hse heN (by omega) rfl ?_)
      refine wi_if_eq rfl (fun g2 => ?_) (fun g2 => ?_)
      · skip
        refine wi_iinc (z := (Int32.ofNat (i + 1))) rfl rfl rfl (add_n (a := i) (b := 1) rfl rfl) rfl ?_
        refine wi_goto rfl ?_
        have e8 : (knw T S s (e - s)) i = false := Bool.eq_false_iff.mpr (fun hk8 => by
          have hk9 := kn_iff.mp hk8
          have := hk9.2
          rw [bI_z g2] at this
          cases this)
        refine ih (i + 1) (by omega) ?_
        show (anyB (knw T S s (e - s)) i || (knw T S s (e - s)) i) = false
        rw [hpre, e8]
        rfl
      · skip
        refine wi_iconst (x := 1) rfl rfl ?_
        refine wi_iret rfl (by decide) ?_
        have e8 : (knw T S s (e - s)) i = true := kn_iff.mpr ⟨by omega, bI_nz g2⟩
        rw [any_t S.r i (by omega) e8] at hQ
        exact hQ
theorem c_known_true {mi : Nat → Nat → Int32} {s e : Nat} (hcnt : cnt ≤ 400) (hN : N ≤ cnt) (hT : ∀ k, T k < 256) (h26 : mi 26 1 = Int32.ofNat cnt) (h27 : ∀ k, k < cnt → mi 27 k = Int32.ofNat (T k)) (h5 : mi 28 5 = Int32.ofNat e) (h6 : mi 28 6 = Int32.ofNat s) (hse : s < e) (heN : e ≤ N) {S : rgS} (hrr : mi 97 4 = Int32.ofNat S.r) (hr8 : S.r ≤ 8) (hnm : ∀ i, i < S.r → (mi 29 i = Int32.ofNat (S.ns i) ∧ mi 30 i = Int32.ofNat (S.nl i) ∧ S.ns i + S.nl i ≤ N)) {z : Int32} (hz : bI (anyB (knw T S s (e - s)) S.r) = z) (hQ : Q (some (.int z)) (am_shT, mrL true, mi, ml)) : am_wp X (d + 2) 50 0 [.ref 28, .retAddr 0] [] (am_shT, mrL true, mi, ml) Q := by
  refine wi_iconst (x := 0) rfl rfl ?_
  refine wi_istore_n (l' := [.ref 28, .int (0 : Int32)]) rfl (Nat.le_of_ble_eq_true rfl) rfl rfl ?_
  exact kn_true hcnt hN hT h26 h27 h5 h6 hse heN hrr hr8 hnm (by rw [hz]; exact hQ) S.r 0 (by omega) rfl
theorem tk2_n {S : rgS} {s e kd : Nat} (hw : (if kd = 1 then whF (txL T s (e - s)) 8 0 else none) = none) : tk2 T S s e kd = .inl 2 := by
  unfold tk2
  rw [hw]
theorem tk2_f {S : rgS} {s e kd x : Nat} (hw : (if kd = 1 then whF (txL T s (e - s)) 8 0 else none) = some x) (h : 6 ≤ S.tc (S.r - 1)) : tk2 T S s e kd = .inl 3 := by
  unfold tk2
  rw [hw]
  exact if_pos h
theorem tk2_s {S : rgS} {s e kd x : Nat} (hw : (if kd = 1 then whF (txL T s (e - s)) 8 0 else none) = some x) (h : ¬ 6 ≤ S.tc (S.r - 1)) : tk2 T S s e kd = .inr ⟨3, e, S.r, x, S.ts, S.ns, S.nl, S.tc, S.fa, S.fs, S.fn⟩ := by
  unfold tk2
  rw [hw]
  exact if_neg h
theorem c_take_true {mi0 : Nat → Nat → Int32} {S : rgS} {mi : Nat → Nat → Int32} {s e kd : Nat} (hcnt : cnt ≤ 400) (hN : N ≤ cnt) (hT : ∀ k, T k < 256) (h26 : mi 26 1 = Int32.ofNat cnt) (h27 : ∀ k, k < cnt → mi 27 k = Int32.ofNat (T k)) (h5 : mi 28 5 = Int32.ofNat e) (h6 : mi 28 6 = Int32.ofNat s) (hse : s < e) (heN : e ≤ N) (h7 : mi 28 7 = Int32.ofNat kd) (hkd : kd < 256) (hd3 : kd = 2 → e - s ≤ 3) (hdg : kd = 2 → ∀ k, s ≤ k → k < e → isD (T k) = true) (hX : XR 97 N mi0 e S mi) (hin : inS T N S)
    (hQ1 : ∀ k mi2, tkS T S s e kd = .inl k → (∀ a, (a < 28 ∨ 31 ≤ a) → (a < 97 ∨ 97 + 29 ≤ a) → mi2 a = mi0 a) → mi2 28 4 = Int32.ofNat N → mi2 28 11 = Int32.ofNat k → mi2 28 12 = Int32.ofNat s → k ≠ 0 → Q none (am_shT, mrL true, mi2, ml))
    (hQ2 : ∀ S' mi2, tkS T S s e kd = .inr S' → XR 97 N mi0 e S' mi2 → Q none (am_shT, mrL true, mi2, ml)) : am_wp X (d + 4) 42 0 [.ref 28] [] (am_shT, mrL true, mi, ml) Q := by
  have h4 := hX.2.1
  have h8' := hX.2.2.2.1
  have hrr := hX.2.2.2.2.2.2.2.2.1
  have hbk := hX.2.2.2.2.2.2.2.2.2
  obtain ⟨i1, i2, i3, i4, i5, i6, i7⟩ := hin
  have hnm : ∀ i, i < S.r → (mi 29 i = Int32.ofNat (S.ns i) ∧ mi 30 i = Int32.ofNat (S.nl i) ∧ S.ns i + S.nl i ≤ N) := fun i hi => ⟨(hbk i hi).2.1, (hbk i hi).2.2.1, (i7 i hi).2.1⟩
  by_cases hk0 : kd = 0
  · skip
    refine wi_aload_n rfl rfl ?_
    refine wi_getIv (v := (Int32.ofNat (kd))) rfl (kd_28 ..) h7 ?_
    refine wi_if_ne rfl (fun h9 => absurd trivial (by exfalso; have h8 := (ne_n (a := kd) (b := 0) rfl (rfl : (0 : Int32) = Int32.ofNat 0) (by omega) (by omega)).mp h9; omega)) (fun _ => ?_)
    refine wi_aload_n rfl rfl ?_
    refine wi_iconst (x := 1) rfl rfl ?_
    refine wi_callV1 rfl (by decide) (by decide) rfl (kd_28 ..) rfl rfl rfl ?_
    refine wi_aload_n rfl rfl ?_
    refine wi_iload_n rfl rfl ?_
    refine wi_aload_n rfl rfl ?_
    refine wi_getIv (v := (Int32.ofNat (s))) rfl (kd_28 ..) h6 ?_
    refine wi_callV2 rfl (by decide) (by decide) rfl (kd_28 ..) rfl rfl rfl ?_
    refine wi_aload_n rfl rfl ?_
    refine wi_iload_n rfl rfl ?_
    refine wi_putI rfl (kd_28 ..) ?_
    refine wi_aload_n rfl rfl ?_
    refine wi_iload_n rfl rfl ?_
    refine wi_putI rfl (kd_28 ..) ?_
    refine wi_ret rfl ?_
    refine wi_ret rfl ?_
    refine wi_ret rfl ?_
    exact hQ1 1 _ (tkS_z hk0) (fun a a1 a2 => (u2_ne (by omega)).trans ((u2_ne (by omega)).trans (hX.1 a a1 a2))) h4 rfl rfl (by decide)
  have haws : S.aw = 0 ∨ S.aw = 1 ∨ S.aw = 2 ∨ S.aw = 3 ∨ S.aw = 4 ∨ S.aw = 5 := by omega
  rcases haws with haw | haw | haw | haw | haw | haw
  · have h8 : mi 28 8 = 0 := by rw [h8', haw]; rfl
    cases hkn : anyB (knw T S s (e - s)) S.r
    · skip
      refine wi_aload_n rfl rfl ?_
      refine wi_getIv (v := (Int32.ofNat (kd))) rfl (kd_28 ..) h7 ?_
      refine wi_if_ne rfl (fun _ => ?_) (fun h9 => absurd trivial (by exfalso; have h8 := (not_congr (ne_n (a := kd) (b := 0) rfl (rfl : (0 : Int32) = Int32.ofNat 0) (by omega) (by omega))).mp h9; omega))
      refine wi_aload_n rfl rfl ?_
      refine wi_getIv (v := (0 : Int32)) rfl (kd_28 ..) h8 ?_
      refine wi_tsw (t := 10) rfl rfl (by decide) rfl ?_
      refine wi_aload_n rfl rfl ?_
      refine wi_callV0 rfl (by decide) (by decide) rfl (kd_28 ..) rfl rfl rfl ?_
      refine wi_aload_n rfl rfl ?_
      refine wi_getIv (v := (Int32.ofNat (kd))) rfl (kd_28 ..) h7 ?_
      refine wi_iconst (x := 1) rfl rfl ?_
      refine wi_icmp_ne rfl (fun g1 => ?_) (fun g1 => ?_)
      · replace g1 := (ne_n (a := kd) (b := 1) rfl (rfl : (1 : Int32) = Int32.ofNat 1) (by omega) (by omega)).mp g1
        refine wi_aload_n rfl rfl ?_
        refine wi_iconst (x := 2) rfl rfl ?_
        refine wi_callV1 rfl (by decide) (by decide) rfl (kd_28 ..) rfl rfl rfl ?_
        refine wi_aload_n rfl rfl ?_
        refine wi_iload_n rfl rfl ?_
        refine wi_aload_n rfl rfl ?_
        refine wi_getIv (v := (Int32.ofNat (s))) rfl (kd_28 ..) h6 ?_
        refine wi_callV2 rfl (by decide) (by decide) rfl (kd_28 ..) rfl rfl rfl ?_
        refine wi_aload_n rfl rfl ?_
        refine wi_iload_n rfl rfl ?_
        refine wi_putI rfl (kd_28 ..) ?_
        refine wi_aload_n rfl rfl ?_
        refine wi_iload_n rfl rfl ?_
        refine wi_putI rfl (kd_28 ..) ?_
        refine wi_ret rfl ?_
        refine wi_ret rfl ?_
        refine wi_goto rfl ?_
        refine wi_ret rfl ?_
        refine wi_goto rfl ?_
        refine wi_ret rfl ?_
        exact hQ1 2 _ ((tkS_0 hk0 haw).trans (if_pos (by omega))) (fun a a1 a2 => (u2_ne (by omega)).trans ((u2_ne (by omega)).trans (hX.1 a a1 a2))) h4 rfl rfl (by decide)
      · replace g1 := (not_congr (ne_n (a := kd) (b := 1) rfl (rfl : (1 : Int32) = Int32.ofNat 1) (by omega) (by omega))).mp g1
        refine wi_aload_n rfl rfl ?_
        refine wi_callV0 rfl (by decide) (by decide) rfl (kd_28 ..) rfl rfl rfl ?_
        refine wi_aload_n rfl rfl ?_
        refine wi_getIv (v := (Int32.ofNat (e))) rfl (kd_28 ..) h5 ?_
        refine wi_aload_n rfl rfl ?_
        refine wi_getIv (v := (Int32.ofNat (s))) rfl (kd_28 ..) h6 ?_
        refine wn_isub (z := (Int32.ofNat (e - s))) rfl (sub_n (a := e) (b := s) rfl rfl (by omega)) ?_
        refine wi_iret rfl (Or.inl rfl) ?_
        refine wi_bipush (x := 8) rfl rfl ?_
        refine wi_icmp_le rfl (fun g2 => ?_) (fun g2 => ?_)
        · replace g2 := (le_n (a := e - s) (b := 8) rfl (rfl : (8 : Int32) = Int32.ofNat 8) (by omega) (by omega)).mp g2
          refine wi_aload_n rfl rfl ?_
          refine wi_getR rfl (kd_28 ..) (rd_28_3 true) ?_
          refine wi_callV0 rfl (by decide) (by decide) rfl (kd_97 ..) rfl rfl rfl ?_
          refine wi_aload_n rfl rfl ?_
          refine wi_getIv (v := (Int32.ofNat (S.r))) rfl (kd_97 ..) hrr ?_
          refine wi_bipush (x := 8) rfl rfl ?_
          refine wi_icmp_lt rfl (fun g3 => ?_) (fun g3 => ?_)
          · replace g3 := (lt_n (a := S.r) (b := 8) rfl (rfl : (8 : Int32) = Int32.ofNat 8) (by omega) (by omega)).mp g3
            refine wi_iconst (x := 0) rfl rfl ?_
            refine wi_iret rfl (by decide) ?_
            refine wi_if_eq rfl (fun _ => ?_) (fun h9 => absurd (by decide) h9)
            refine wi_aload_n rfl rfl ?_
            refine wi_callV0 rfl (by decide) (by decide) rfl (kd_28 ..) rfl rfl rfl (c_known_true hcnt hN hT h26 h27 h5 h6 hse heN hrr (by omega) hnm (congrArg bI hkn) ?_)
            refine wi_if_eq rfl (fun _ => ?_) (fun h9 => absurd (by decide) h9)
            refine wi_aload_n rfl rfl ?_
            refine wi_callV0 rfl (by decide) (by decide) rfl (kd_28 ..) rfl rfl rfl ?_
            refine wi_aload_n rfl rfl ?_
            refine wi_getR rfl (kd_28 ..) (rd_28_3 true) ?_
            refine wi_callV0 rfl (by decide) (by decide) rfl (kd_97 ..) rfl rfl rfl ?_
            refine wi_aload_n rfl rfl ?_
            refine wi_getIv (v := (Int32.ofNat (S.r))) rfl (kd_97 ..) hrr ?_
            refine wi_iret rfl (Or.inl rfl) ?_
            refine wi_istore_n (l' := [.ref 28, .int (Int32.ofNat (S.r))]) rfl (Nat.le_of_ble_eq_true rfl) rfl rfl ?_
            refine wi_iload_n rfl rfl ?_
            refine wi_bipush (x := 8) rfl rfl ?_
            refine wi_icmp_ge rfl (fun h9 => absurd trivial (by exfalso; have h8 := (le_n (a := 8) (b := S.r) (rfl : (8 : Int32) = Int32.ofNat 8) rfl (by omega) (by omega)).mp h9; omega)) (fun _ => ?_)
            refine wi_aload_n rfl rfl ?_
            refine wi_getR rfl (kd_28 ..) (rd_28_0 _) ?_
            refine wi_iload_n rfl rfl ?_
            refine wi_aload_n rfl rfl ?_
            refine wi_getIv (v := (Int32.ofNat (s))) rfl (kd_28 ..) h6 ?_
            refine wn_iastore (q := S.r) rfl (ln_29 ..) rfl (by omega) (by decide) ?_
            refine wi_aload_n rfl rfl ?_
            refine wi_getR rfl (kd_28 ..) (rd_28_1 _) ?_
            refine wi_iload_n rfl rfl ?_
            refine wi_aload_n rfl rfl ?_
            refine wi_callV0 rfl (by decide) (by decide) rfl (kd_28 ..) rfl rfl rfl ?_
            refine wi_aload_n rfl rfl ?_
            refine wi_getIv (v := (Int32.ofNat (e))) rfl (kd_28 ..) h5 ?_
            refine wi_aload_n rfl rfl ?_
            refine wi_getIv (v := (Int32.ofNat (s))) rfl (kd_28 ..) h6 ?_
            refine wn_isub (z := (Int32.ofNat (e - s))) rfl (sub_n (a := e) (b := s) rfl rfl (by omega)) ?_
            refine wi_iret rfl (Or.inl rfl) ?_
            refine wn_iastore (q := S.r) rfl (ln_30 ..) rfl (by omega) (by decide) ?_
            refine wi_ret rfl ?_
            refine wi_aload_n rfl rfl ?_
            refine wi_getR rfl (kd_28 ..) (rd_28_3 true) ?_
            refine wi_callV0 rfl (by decide) (by decide) rfl (kd_97 ..) rfl rfl rfl ?_
            refine wi_aload_n rfl rfl ?_
            refine wi_callV0 rfl (by decide) (by decide) rfl (kd_97 ..) rfl rfl rfl ?_
            refine wi_aload_n rfl rfl ?_
            refine wi_getIv (v := (Int32.ofNat (S.r))) rfl (kd_97 ..) hrr ?_
            refine wi_bipush (x := 8) rfl rfl ?_
            refine wi_icmp_lt rfl (fun _ => ?_) (fun h9 => absurd trivial (by exfalso; have h8 := (not_congr (lt_n (a := S.r) (b := 8) rfl (rfl : (8 : Int32) = Int32.ofNat 8) (by omega) (by omega))).mp h9; omega))
            refine wi_iconst (x := 0) rfl rfl ?_
            refine wi_iret rfl (by decide) ?_
            refine wi_if_ne rfl (fun h9 => absurd h9 (by decide)) (fun _ => ?_)
            refine wi_aload_n rfl rfl ?_
            refine wi_getR rfl (kd_97 ..) (rd_97_0 _) ?_
            refine wi_aload_n rfl rfl ?_
            refine wi_getIv (v := (Int32.ofNat (S.r))) rfl (kd_97 ..) hrr ?_
            refine wi_iconst (x := 0) rfl rfl ?_
            refine wn_iastore (q := S.r) rfl (ln_98 ..) rfl (by omega) (by decide) ?_
            refine wi_aload_n rfl rfl ?_
            refine wi_dup rfl rfl ?_
            refine wi_getIv (v := (Int32.ofNat (S.r))) rfl (kd_97 ..) hrr ?_
            refine wi_iconst (x := 1) rfl rfl ?_
            refine wn_iadd (z := (Int32.ofNat (S.r + 1))) rfl (add_n (a := S.r) (b := 1) rfl (rfl : (1 : Int32) = Int32.ofNat 1)) ?_
            refine wi_putI rfl (kd_97 ..) ?_
            refine wi_ret rfl ?_
            refine wi_aload_n rfl rfl ?_
            refine wi_iconst (x := 1) rfl rfl ?_
            refine wi_putI rfl (kd_28 ..) ?_
            refine wi_ret rfl ?_
            refine wi_goto rfl ?_
            refine wi_ret rfl ?_
            exact hQ2 _ _ ((tkS_0 hk0 haw).trans ((if_neg (by omega)).trans ((if_neg (by omega)).trans (if_neg (by rw [hkn]; decide))))) (XR_name (Or.inr rfl) hX (by omega))
          · replace g3 := (not_congr (lt_n (a := S.r) (b := 8) rfl (rfl : (8 : Int32) = Int32.ofNat 8) (by omega) (by omega))).mp g3
            refine wi_iconst (x := 1) rfl rfl ?_
            refine wi_goto rfl ?_
            refine wi_iret rfl (by decide) ?_
            refine wi_if_eq rfl (fun h9 => absurd h9 (by decide)) (fun _ => ?_)
            refine wi_aload_n rfl rfl ?_
            refine wi_iconst (x := 3) rfl rfl ?_
            refine wi_callV1 rfl (by decide) (by decide) rfl (kd_28 ..) rfl rfl rfl ?_
            refine wi_aload_n rfl rfl ?_
            refine wi_iload_n rfl rfl ?_
            refine wi_aload_n rfl rfl ?_
            refine wi_getIv (v := (Int32.ofNat (s))) rfl (kd_28 ..) h6 ?_
            refine wi_callV2 rfl (by decide) (by decide) rfl (kd_28 ..) rfl rfl rfl ?_
            refine wi_aload_n rfl rfl ?_
            refine wi_iload_n rfl rfl ?_
            refine wi_putI rfl (kd_28 ..) ?_
            refine wi_aload_n rfl rfl ?_
            refine wi_iload_n rfl rfl ?_
            refine wi_putI rfl (kd_28 ..) ?_
            refine wi_ret rfl ?_
            refine wi_ret rfl ?_
            refine wi_goto rfl ?_
            refine wi_ret rfl ?_
            refine wi_goto rfl ?_
            refine wi_ret rfl ?_
            exact hQ1 3 _ ((tkS_0 hk0 haw).trans ((if_neg (by omega)).trans (if_pos (by omega)))) (fun a a1 a2 => (u2_ne (by omega)).trans ((u2_ne (by omega)).trans (hX.1 a a1 a2))) h4 rfl rfl (by decide)
        · replace g2 := (not_congr (le_n (a := e - s) (b := 8) rfl (rfl : (8 : Int32) = Int32.ofNat 8) (by omega) (by omega))).mp g2
          refine wi_aload_n rfl rfl ?_
          refine wi_iconst (x := 2) rfl rfl ?_
          refine wi_callV1 rfl (by decide) (by decide) rfl (kd_28 ..) rfl rfl rfl ?_
          refine wi_aload_n rfl rfl ?_
          refine wi_iload_n rfl rfl ?_
          refine wi_aload_n rfl rfl ?_
          refine wi_getIv (v := (Int32.ofNat (s))) rfl (kd_28 ..) h6 ?_
          refine wi_callV2 rfl (by decide) (by decide) rfl (kd_28 ..) rfl rfl rfl ?_
          refine wi_aload_n rfl rfl ?_
          refine wi_iload_n rfl rfl ?_
          refine wi_putI rfl (kd_28 ..) ?_
          refine wi_aload_n rfl rfl ?_
          refine wi_iload_n rfl rfl ?_
          refine wi_putI rfl (kd_28 ..) ?_
          refine wi_ret rfl ?_
          refine wi_ret rfl ?_
          refine wi_goto rfl ?_
          refine wi_ret rfl ?_
          refine wi_goto rfl ?_
          refine wi_ret rfl ?_
          exact hQ1 2 _ ((tkS_0 hk0 haw).trans (if_pos (by omega))) (fun a a1 a2 => (u2_ne (by omega)).trans ((u2_ne (by omega)).trans (hX.1 a a1 a2))) h4 rfl rfl (by decide)
    · skip
      refine wi_aload_n rfl rfl ?_
      refine wi_getIv (v := (Int32.ofNat (kd))) rfl (kd_28 ..) h7 ?_
      refine wi_if_ne rfl (fun _ => ?_) (fun h9 => absurd trivial (by exfalso; have h8 := (not_congr (ne_n (a := kd) (b := 0) rfl (rfl : (0 : Int32) = Int32.ofNat 0) (by omega) (by omega))).mp h9; omega))
      refine wi_aload_n rfl rfl ?_
      refine wi_getIv (v := (0 : Int32)) rfl (kd_28 ..) h8 ?_
      refine wi_tsw (t := 10) rfl rfl (by decide) rfl ?_
      refine wi_aload_n rfl rfl ?_
      refine wi_callV0 rfl (by decide) (by decide) rfl (kd_28 ..) rfl rfl rfl ?_
      refine wi_aload_n rfl rfl ?_
      refine wi_getIv (v := (Int32.ofNat (kd))) rfl (kd_28 ..) h7 ?_
      refine wi_iconst (x := 1) rfl rfl ?_
      refine wi_icmp_ne rfl (fun g1 => ?_) (fun g1 => ?_)
      · replace g1 := (ne_n (a := kd) (b := 1) rfl (rfl : (1 : Int32) = Int32.ofNat 1) (by omega) (by omega)).mp g1
        refine wi_aload_n rfl rfl ?_
        refine wi_iconst (x := 2) rfl rfl ?_
        refine wi_callV1 rfl (by decide) (by decide) rfl (kd_28 ..) rfl rfl rfl ?_
        refine wi_aload_n rfl rfl ?_
        refine wi_iload_n rfl rfl ?_
        refine wi_aload_n rfl rfl ?_
        refine wi_getIv (v := (Int32.ofNat (s))) rfl (kd_28 ..) h6 ?_
        refine wi_callV2 rfl (by decide) (by decide) rfl (kd_28 ..) rfl rfl rfl ?_
        refine wi_aload_n rfl rfl ?_
        refine wi_iload_n rfl rfl ?_
        refine wi_putI rfl (kd_28 ..) ?_
        refine wi_aload_n rfl rfl ?_
        refine wi_iload_n rfl rfl ?_
        refine wi_putI rfl (kd_28 ..) ?_
        refine wi_ret rfl ?_
        refine wi_ret rfl ?_
        refine wi_goto rfl ?_
        refine wi_ret rfl ?_
        refine wi_goto rfl ?_
        refine wi_ret rfl ?_
        exact hQ1 2 _ ((tkS_0 hk0 haw).trans (if_pos (by omega))) (fun a a1 a2 => (u2_ne (by omega)).trans ((u2_ne (by omega)).trans (hX.1 a a1 a2))) h4 rfl rfl (by decide)
      · replace g1 := (not_congr (ne_n (a := kd) (b := 1) rfl (rfl : (1 : Int32) = Int32.ofNat 1) (by omega) (by omega))).mp g1
        refine wi_aload_n rfl rfl ?_
        refine wi_callV0 rfl (by decide) (by decide) rfl (kd_28 ..) rfl rfl rfl ?_
        refine wi_aload_n rfl rfl ?_
        refine wi_getIv (v := (Int32.ofNat (e))) rfl (kd_28 ..) h5 ?_
        refine wi_aload_n rfl rfl ?_
        refine wi_getIv (v := (Int32.ofNat (s))) rfl (kd_28 ..) h6 ?_
        refine wn_isub (z := (Int32.ofNat (e - s))) rfl (sub_n (a := e) (b := s) rfl rfl (by omega)) ?_
        refine wi_iret rfl (Or.inl rfl) ?_
        refine wi_bipush (x := 8) rfl rfl ?_
        refine wi_icmp_le rfl (fun g2 => ?_) (fun g2 => ?_)
        · replace g2 := (le_n (a := e - s) (b := 8) rfl (rfl : (8 : Int32) = Int32.ofNat 8) (by omega) (by omega)).mp g2
          refine wi_aload_n rfl rfl ?_
          refine wi_getR rfl (kd_28 ..) (rd_28_3 true) ?_
          refine wi_callV0 rfl (by decide) (by decide) rfl (kd_97 ..) rfl rfl rfl ?_
          refine wi_aload_n rfl rfl ?_
          refine wi_getIv (v := (Int32.ofNat (S.r))) rfl (kd_97 ..) hrr ?_
          refine wi_bipush (x := 8) rfl rfl ?_
          refine wi_icmp_lt rfl (fun g3 => ?_) (fun g3 => ?_)
          · replace g3 := (lt_n (a := S.r) (b := 8) rfl (rfl : (8 : Int32) = Int32.ofNat 8) (by omega) (by omega)).mp g3
            refine wi_iconst (x := 0) rfl rfl ?_
            refine wi_iret rfl (by decide) ?_
            refine wi_if_eq rfl (fun _ => ?_) (fun h9 => absurd (by decide) h9)
            refine wi_aload_n rfl rfl ?_
            refine wi_callV0 rfl (by decide) (by decide) rfl (kd_28 ..) rfl rfl rfl (c_known_true hcnt hN hT h26 h27 h5 h6 hse heN hrr (by omega) hnm (congrArg bI hkn) ?_)
            refine wi_if_eq rfl (fun h9 => absurd h9 (by decide)) (fun _ => ?_)
            refine wi_aload_n rfl rfl ?_
            refine wi_iconst (x := 4) rfl rfl ?_
            refine wi_callV1 rfl (by decide) (by decide) rfl (kd_28 ..) rfl rfl rfl ?_
            refine wi_aload_n rfl rfl ?_
            refine wi_iload_n rfl rfl ?_
            refine wi_aload_n rfl rfl ?_
            refine wi_getIv (v := (Int32.ofNat (s))) rfl (kd_28 ..) h6 ?_
            refine wi_callV2 rfl (by decide) (by decide) rfl (kd_28 ..) rfl rfl rfl ?_
            refine wi_aload_n rfl rfl ?_
            refine wi_iload_n rfl rfl ?_
            refine wi_putI rfl (kd_28 ..) ?_
            refine wi_aload_n rfl rfl ?_
            refine wi_iload_n rfl rfl ?_
            refine wi_putI rfl (kd_28 ..) ?_
            refine wi_ret rfl ?_
            refine wi_ret rfl ?_
            refine wi_goto rfl ?_
            refine wi_ret rfl ?_
            refine wi_goto rfl ?_
            refine wi_ret rfl ?_
            exact hQ1 4 _ ((tkS_0 hk0 haw).trans ((if_neg (by omega)).trans ((if_neg (by omega)).trans (if_pos hkn)))) (fun a a1 a2 => (u2_ne (by omega)).trans ((u2_ne (by omega)).trans (hX.1 a a1 a2))) h4 rfl rfl (by decide)
          · replace g3 := (not_congr (lt_n (a := S.r) (b := 8) rfl (rfl : (8 : Int32) = Int32.ofNat 8) (by omega) (by omega))).mp g3
            refine wi_iconst (x := 1) rfl rfl ?_
            refine wi_goto rfl ?_
            refine wi_iret rfl (by decide) ?_
            refine wi_if_eq rfl (fun h9 => absurd h9 (by decide)) (fun _ => ?_)
            refine wi_aload_n rfl rfl ?_
            refine wi_iconst (x := 3) rfl rfl ?_
            refine wi_callV1 rfl (by decide) (by decide) rfl (kd_28 ..) rfl rfl rfl ?_
            refine wi_aload_n rfl rfl ?_
            refine wi_iload_n rfl rfl ?_
            refine wi_aload_n rfl rfl ?_
            refine wi_getIv (v := (Int32.ofNat (s))) rfl (kd_28 ..) h6 ?_
            refine wi_callV2 rfl (by decide) (by decide) rfl (kd_28 ..) rfl rfl rfl ?_
            refine wi_aload_n rfl rfl ?_
            refine wi_iload_n rfl rfl ?_
            refine wi_putI rfl (kd_28 ..) ?_
            refine wi_aload_n rfl rfl ?_
            refine wi_iload_n rfl rfl ?_
            refine wi_putI rfl (kd_28 ..) ?_
            refine wi_ret rfl ?_
            refine wi_ret rfl ?_
            refine wi_goto rfl ?_
            refine wi_ret rfl ?_
            refine wi_goto rfl ?_
            refine wi_ret rfl ?_
            exact hQ1 3 _ ((tkS_0 hk0 haw).trans ((if_neg (by omega)).trans (if_pos (by omega)))) (fun a a1 a2 => (u2_ne (by omega)).trans ((u2_ne (by omega)).trans (hX.1 a a1 a2))) h4 rfl rfl (by decide)
        · replace g2 := (not_congr (le_n (a := e - s) (b := 8) rfl (rfl : (8 : Int32) = Int32.ofNat 8) (by omega) (by omega))).mp g2
          refine wi_aload_n rfl rfl ?_
          refine wi_iconst (x := 2) rfl rfl ?_
          refine wi_callV1 rfl (by decide) (by decide) rfl (kd_28 ..) rfl rfl rfl ?_
          refine wi_aload_n rfl rfl ?_
          refine wi_iload_n rfl rfl ?_
          refine wi_aload_n rfl rfl ?_
          refine wi_getIv (v := (Int32.ofNat (s))) rfl (kd_28 ..) h6 ?_
          refine wi_callV2 rfl (by decide) (by decide) rfl (kd_28 ..) rfl rfl rfl ?_
          refine wi_aload_n rfl rfl ?_
          refine wi_iload_n rfl rfl ?_
          refine wi_putI rfl (kd_28 ..) ?_
          refine wi_aload_n rfl rfl ?_
          refine wi_iload_n rfl rfl ?_
          refine wi_putI rfl (kd_28 ..) ?_
          refine wi_ret rfl ?_
          refine wi_ret rfl ?_
          refine wi_goto rfl ?_
          refine wi_ret rfl ?_
          refine wi_goto rfl ?_
          refine wi_ret rfl ?_
          exact hQ1 2 _ ((tkS_0 hk0 haw).trans (if_pos (by omega))) (fun a a1 a2 => (u2_ne (by omega)).trans ((u2_ne (by omega)).trans (hX.1 a a1 a2))) h4 rfl rfl (by decide)
  · have h8 : mi 28 8 = 1 := by rw [h8', haw]; rfl
    have hrp := i4 (by omega)
    refine wi_aload_n rfl rfl ?_
    refine wi_getIv (v := (Int32.ofNat (kd))) rfl (kd_28 ..) h7 ?_
    refine wi_if_ne rfl (fun _ => ?_) (fun h9 => absurd trivial (by exfalso; have h8 := (not_congr (ne_n (a := kd) (b := 0) rfl (rfl : (0 : Int32) = Int32.ofNat 0) (by omega) (by omega))).mp h9; omega))
    refine wi_aload_n rfl rfl ?_
    refine wi_getIv (v := (1 : Int32)) rfl (kd_28 ..) h8 ?_
    refine wi_tsw (t := 13) rfl rfl (by decide) rfl ?_
    refine wi_aload_n rfl rfl ?_
    refine wi_callV0 rfl (by decide) (by decide) rfl (kd_28 ..) rfl rfl rfl ?_
    refine wi_aload_n rfl rfl ?_
    refine wi_ldc (a := 1000000) rfl rfl ?_
    refine wi_callV1 rfl (by decide) (by decide) rfl (kd_28 ..) rfl rfl rfl (c_tokIs0 hcnt hN hT h26 h27 h5 h6 hse heN h7 hkd rfl ?_)
    refine wi_if_eq rfl (fun g1 => ?_) (fun g1 => ?_)
    · skip
      refine wi_aload_n rfl rfl ?_
      refine wi_iconst (x := 2) rfl rfl ?_
      refine wi_callV1 rfl (by decide) (by decide) rfl (kd_28 ..) rfl rfl rfl ?_
      refine wi_aload_n rfl rfl ?_
      refine wi_iload_n rfl rfl ?_
      refine wi_aload_n rfl rfl ?_
      refine wi_getIv (v := (Int32.ofNat (s))) rfl (kd_28 ..) h6 ?_
      refine wi_callV2 rfl (by decide) (by decide) rfl (kd_28 ..) rfl rfl rfl ?_
      refine wi_aload_n rfl rfl ?_
      refine wi_iload_n rfl rfl ?_
      refine wi_putI rfl (kd_28 ..) ?_
      refine wi_aload_n rfl rfl ?_
      refine wi_iload_n rfl rfl ?_
      refine wi_putI rfl (kd_28 ..) ?_
      refine wi_ret rfl ?_
      refine wi_ret rfl ?_
      refine wi_ret rfl ?_
      refine wi_goto rfl ?_
      refine wi_ret rfl ?_
      exact hQ1 2 _ ((tkS_1 hk0 haw).trans (if_neg (of_decide_eq_false (bI_z g1)))) (fun a a1 a2 => (u2_ne (by omega)).trans ((u2_ne (by omega)).trans (hX.1 a a1 a2))) h4 rfl rfl (by decide)
    · skip
      refine wi_aload_n rfl rfl ?_
      refine wi_iconst (x := 2) rfl rfl ?_
      refine wi_putI rfl (kd_28 ..) ?_
      refine wi_goto rfl ?_
      refine wi_ret rfl ?_
      refine wi_goto rfl ?_
      refine wi_ret rfl ?_
      exact hQ2 _ _ ((tkS_1 hk0 haw).trans (if_pos (of_decide_eq_true (bI_nz g1)))) (XR_28 (p9 := e) (by decide) hX (fun a ha => u2_ne ha) rfl h5 rfl rfl rfl (fun h9 => (by rcases h9 with h9 | h9 <;> cases h9)) (fun h9 => (by cases h9)))
  · have h8 : mi 28 8 = 2 := by rw [h8', haw]; rfl
    have hrp := i4 (by omega)
    have htc := (hbk (S.r - 1) (by omega)).1
    have htb := (i7 (S.r - 1) (by omega)).1
    rcases hw : (if kd = 1 then whF (txL T s (e - s)) 8 0 else none) with _ | x
    · skip
      refine wi_aload_n rfl rfl ?_
      refine wi_getIv (v := (Int32.ofNat (kd))) rfl (kd_28 ..) h7 ?_
      refine wi_if_ne rfl (fun _ => ?_) (fun h9 => absurd trivial (by exfalso; have h8 := (not_congr (ne_n (a := kd) (b := 0) rfl (rfl : (0 : Int32) = Int32.ofNat 0) (by omega) (by omega))).mp h9; omega))
      refine wi_aload_n rfl rfl ?_
      refine wi_getIv (v := (2 : Int32)) rfl (kd_28 ..) h8 ?_
      refine wi_tsw (t := 16) rfl rfl (by decide) rfl ?_
      refine wi_aload_n rfl rfl ?_
      refine wi_callV0 rfl (by decide) (by decide) rfl (kd_28 ..) rfl rfl rfl ?_
      refine wi_aload_n rfl rfl ?_
      refine wi_callV0 rfl (by decide) (by decide) rfl (kd_28 ..) rfl rfl rfl (c_what0 hcnt hN hT h26 h27 h5 h6 hse heN h7 hkd hw ?_)
      refine wi_istore_n (l' := [.ref 28, .int (-1 : Int32)]) rfl (Nat.le_of_ble_eq_true rfl) rfl rfl ?_
      refine wi_iload_n rfl rfl ?_
      refine wi_iconst (x := (-1)) rfl rfl ?_
      refine wi_icmp_ne rfl (fun h9 => absurd h9 (by decide)) (fun _ => ?_)
      refine wi_aload_n rfl rfl ?_
      refine wi_iconst (x := 2) rfl rfl ?_
      refine wi_callV1 rfl (by decide) (by decide) rfl (kd_28 ..) rfl rfl rfl ?_
      refine wi_aload_n rfl rfl ?_
      refine wi_iload_n rfl rfl ?_
      refine wi_aload_n rfl rfl ?_
      refine wi_getIv (v := (Int32.ofNat (s))) rfl (kd_28 ..) h6 ?_
      refine wi_callV2 rfl (by decide) (by decide) rfl (kd_28 ..) rfl rfl rfl ?_
      refine wi_aload_n rfl rfl ?_
      refine wi_iload_n rfl rfl ?_
      refine wi_putI rfl (kd_28 ..) ?_
      refine wi_aload_n rfl rfl ?_
      refine wi_iload_n rfl rfl ?_
      refine wi_putI rfl (kd_28 ..) ?_
      refine wi_ret rfl ?_
      refine wi_ret rfl ?_
      refine wi_goto rfl ?_
      refine wi_ret rfl ?_
      refine wi_goto rfl ?_
      refine wi_ret rfl ?_
      exact hQ1 2 _ ((tkS_2 hk0 haw).trans (tk2_n hw)) (fun a a1 a2 => (u2_ne (by omega)).trans ((u2_ne (by omega)).trans (hX.1 a a1 a2))) h4 rfl rfl (by decide)
    · have hx8 : x < 8 := by
        split at hw
        · have := wh_b _ _ _ hw; omega
        · cases hw
      refine wi_aload_n rfl rfl ?_
      refine wi_getIv (v := (Int32.ofNat (kd))) rfl (kd_28 ..) h7 ?_
      refine wi_if_ne rfl (fun _ => ?_) (fun h9 => absurd trivial (by exfalso; have h8 := (not_congr (ne_n (a := kd) (b := 0) rfl (rfl : (0 : Int32) = Int32.ofNat 0) (by omega) (by omega))).mp h9; omega))
      refine wi_aload_n rfl rfl ?_
      refine wi_getIv (v := (2 : Int32)) rfl (kd_28 ..) h8 ?_
      refine wi_tsw (t := 16) rfl rfl (by decide) rfl ?_
      refine wi_aload_n rfl rfl ?_
      refine wi_callV0 rfl (by decide) (by decide) rfl (kd_28 ..) rfl rfl rfl ?_
      refine wi_aload_n rfl rfl ?_
      refine wi_callV0 rfl (by decide) (by decide) rfl (kd_28 ..) rfl rfl rfl (c_what1 hcnt hN hT h26 h27 h5 h6 hse heN h7 hkd hw ?_)
      refine wi_istore_n (l' := [.ref 28, .int (Int32.ofNat (x))]) rfl (Nat.le_of_ble_eq_true rfl) rfl rfl ?_
      refine wi_iload_n rfl rfl ?_
      refine wi_iconst (x := (-1)) rfl rfl ?_
      refine wi_icmp_ne rfl (fun _ => ?_) (fun h9 => absurd (nm1 (by omega)) h9)
      refine wi_aload_n rfl rfl ?_
      refine wi_getR rfl (kd_28 ..) (rd_28_3 true) ?_
      refine wi_callV0 rfl (by decide) (by decide) rfl (kd_97 ..) rfl rfl rfl ?_
      refine wi_aload_n rfl rfl ?_
      refine wi_getIv (v := (Int32.ofNat (S.r))) rfl (kd_97 ..) hrr ?_
      refine wi_if_le rfl (fun h9 => absurd trivial (by exfalso; have h8 := (le_n (a := S.r) (b := 0) rfl (rfl : (0 : Int32) = Int32.ofNat 0) (by omega) (by omega)).mp h9; omega)) (fun _ => ?_)
      refine wi_aload_n rfl rfl ?_
      refine wi_getR rfl (kd_97 ..) (rd_97_0 _) ?_
      refine wi_aload_n rfl rfl ?_
      refine wi_getIv (v := (Int32.ofNat (S.r))) rfl (kd_97 ..) hrr ?_
      refine wi_iconst (x := 1) rfl rfl ?_
      refine wn_isub (z := (Int32.ofNat (S.r - 1))) rfl (sub_n (a := S.r) (b := 1) rfl (rfl : (1 : Int32) = Int32.ofNat 1) (by omega)) ?_
      refine wn_iaload (q := S.r - 1) (v := (Int32.ofNat (S.tc (S.r - 1)))) rfl (ln_98 ..) rfl (by omega) (by decide) (by decide) (by decide) htc ?_
      refine wi_bipush (x := 6) rfl rfl ?_
      refine wi_icmp_lt rfl (fun g1 => ?_) (fun g1 => ?_)
      · replace g1 := (lt_n (a := S.tc (S.r - 1)) (b := 6) rfl (rfl : (6 : Int32) = Int32.ofNat 6) (by omega) (by omega)).mp g1
        refine wi_iconst (x := 0) rfl rfl ?_
        refine wi_iret rfl (by decide) ?_
        refine wi_if_eq rfl (fun _ => ?_) (fun h9 => absurd (by decide) h9)
        refine wi_aload_n rfl rfl ?_
        refine wi_iload_n rfl rfl ?_
        refine wi_putI rfl (kd_28 ..) ?_
        refine wi_aload_n rfl rfl ?_
        refine wi_iconst (x := 3) rfl rfl ?_
        refine wi_putI rfl (kd_28 ..) ?_
        refine wi_ret rfl ?_
        refine wi_goto rfl ?_
        refine wi_ret rfl ?_
        exact hQ2 _ _ ((tkS_2 hk0 haw).trans (tk2_s hw (by omega))) (XR_28 (p9 := e) (by decide) hX (fun a ha => (u2_ne ha).trans (u2_ne ha)) rfl h5 rfl rfl rfl (fun _ => rfl) (fun h9 => (by cases h9)))
      · replace g1 := (not_congr (lt_n (a := S.tc (S.r - 1)) (b := 6) rfl (rfl : (6 : Int32) = Int32.ofNat 6) (by omega) (by omega))).mp g1
        refine wi_iconst (x := 1) rfl rfl ?_
        refine wi_goto rfl ?_
        refine wi_iret rfl (by decide) ?_
        refine wi_if_eq rfl (fun h9 => absurd h9 (by decide)) (fun _ => ?_)
        refine wi_aload_n rfl rfl ?_
        refine wi_iconst (x := 3) rfl rfl ?_
        refine wi_callV1 rfl (by decide) (by decide) rfl (kd_28 ..) rfl rfl rfl ?_
        refine wi_aload_n rfl rfl ?_
        refine wi_iload_n rfl rfl ?_
        refine wi_aload_n rfl rfl ?_
        refine wi_getIv (v := (Int32.ofNat (s))) rfl (kd_28 ..) h6 ?_
        refine wi_callV2 rfl (by decide) (by decide) rfl (kd_28 ..) rfl rfl rfl ?_
        refine wi_aload_n rfl rfl ?_
        refine wi_iload_n rfl rfl ?_
        refine wi_putI rfl (kd_28 ..) ?_
        refine wi_aload_n rfl rfl ?_
        refine wi_iload_n rfl rfl ?_
        refine wi_putI rfl (kd_28 ..) ?_
        refine wi_ret rfl ?_
        refine wi_ret rfl ?_
        refine wi_goto rfl ?_
        refine wi_ret rfl ?_
        refine wi_goto rfl ?_
        refine wi_ret rfl ?_
        exact hQ1 3 _ ((tkS_2 hk0 haw).trans (tk2_f hw (by omega))) (fun a a1 a2 => (u2_ne (by omega)).trans ((u2_ne (by omega)).trans (hX.1 a a1 a2))) h4 rfl rfl (by decide)
  · have h8 : mi 28 8 = 3 := by rw [h8', haw]; rfl
    have hrp := i4 (by omega)
    have h9t := hX.2.2.2.2.2.2.1 (Or.inl haw)
    refine wi_aload_n rfl rfl ?_
    refine wi_getIv (v := (Int32.ofNat (kd))) rfl (kd_28 ..) h7 ?_
    refine wi_if_ne rfl (fun _ => ?_) (fun h9 => absurd trivial (by exfalso; have h8 := (not_congr (ne_n (a := kd) (b := 0) rfl (rfl : (0 : Int32) = Int32.ofNat 0) (by omega) (by omega))).mp h9; omega))
    refine wi_aload_n rfl rfl ?_
    refine wi_getIv (v := (3 : Int32)) rfl (kd_28 ..) h8 ?_
    refine wi_tsw (t := 19) rfl rfl (by decide) rfl ?_
    refine wi_aload_n rfl rfl ?_
    refine wi_callV0 rfl (by decide) (by decide) rfl (kd_28 ..) rfl rfl rfl ?_
    refine wi_aload_n rfl rfl ?_
    refine wi_getIv (v := (Int32.ofNat (kd))) rfl (kd_28 ..) h7 ?_
    refine wi_bipush (x := 60) rfl rfl ?_
    refine wi_icmp_eq rfl (fun g1 => ?_) (fun g1 => ?_)
    · replace g1 := (eq_n (a := kd) (b := 60) rfl (rfl : (60 : Int32) = Int32.ofNat 60) (by omega) (by omega)).mp g1
      refine wi_aload_n rfl rfl ?_
      refine wi_aload_n rfl rfl ?_
      refine wi_getIv (v := (Int32.ofNat (kd))) rfl (kd_28 ..) h7 ?_
      refine wi_putI rfl (kd_28 ..) ?_
      refine wi_aload_n rfl rfl ?_
      refine wi_iconst (x := 4) rfl rfl ?_
      refine wi_putI rfl (kd_28 ..) ?_
      refine wi_goto rfl ?_
      refine wi_ret rfl ?_
      refine wi_goto rfl ?_
      refine wi_ret rfl ?_
      exact hQ2 _ _ ((tkS_3 hk0 haw).trans (if_pos (by omega))) (XR_28 (p9 := e) (by decide) hX (fun a ha => (u2_ne ha).trans (u2_ne ha)) rfl h5 rfl rfl rfl (fun _ => h9t) (fun _ => rfl))
    · replace g1 := (not_congr (eq_n (a := kd) (b := 60) rfl (rfl : (60 : Int32) = Int32.ofNat 60) (by omega) (by omega))).mp g1
      refine wi_aload_n rfl rfl ?_
      refine wi_getIv (v := (Int32.ofNat (kd))) rfl (kd_28 ..) h7 ?_
      refine wi_bipush (x := 62) rfl rfl ?_
      refine wi_icmp_eq rfl (fun g2 => ?_) (fun g2 => ?_)
      · replace g2 := (eq_n (a := kd) (b := 62) rfl (rfl : (62 : Int32) = Int32.ofNat 62) (by omega) (by omega)).mp g2
        refine wi_aload_n rfl rfl ?_
        refine wi_aload_n rfl rfl ?_
        refine wi_getIv (v := (Int32.ofNat (kd))) rfl (kd_28 ..) h7 ?_
        refine wi_putI rfl (kd_28 ..) ?_
        refine wi_aload_n rfl rfl ?_
        refine wi_iconst (x := 4) rfl rfl ?_
        refine wi_putI rfl (kd_28 ..) ?_
        refine wi_goto rfl ?_
        refine wi_ret rfl ?_
        refine wi_goto rfl ?_
        refine wi_ret rfl ?_
        exact hQ2 _ _ ((tkS_3 hk0 haw).trans (if_pos (by omega))) (XR_28 (p9 := e) (by decide) hX (fun a ha => (u2_ne ha).trans (u2_ne ha)) rfl h5 rfl rfl rfl (fun _ => h9t) (fun _ => rfl))
      · replace g2 := (not_congr (eq_n (a := kd) (b := 62) rfl (rfl : (62 : Int32) = Int32.ofNat 62) (by omega) (by omega))).mp g2
        refine wi_aload_n rfl rfl ?_
        refine wi_getIv (v := (Int32.ofNat (kd))) rfl (kd_28 ..) h7 ?_
        refine wi_bipush (x := 61) rfl rfl ?_
        refine wi_icmp_ne rfl (fun g3 => ?_) (fun g3 => ?_)
        · replace g3 := (ne_n (a := kd) (b := 61) rfl (rfl : (61 : Int32) = Int32.ofNat 61) (by omega) (by omega)).mp g3
          refine wi_aload_n rfl rfl ?_
          refine wi_iconst (x := 2) rfl rfl ?_
          refine wi_callV1 rfl (by decide) (by decide) rfl (kd_28 ..) rfl rfl rfl ?_
          refine wi_aload_n rfl rfl ?_
          refine wi_iload_n rfl rfl ?_
          refine wi_aload_n rfl rfl ?_
          refine wi_getIv (v := (Int32.ofNat (s))) rfl (kd_28 ..) h6 ?_
          refine wi_callV2 rfl (by decide) (by decide) rfl (kd_28 ..) rfl rfl rfl ?_
          refine wi_aload_n rfl rfl ?_
          refine wi_iload_n rfl rfl ?_
          refine wi_putI rfl (kd_28 ..) ?_
          refine wi_aload_n rfl rfl ?_
          refine wi_iload_n rfl rfl ?_
          refine wi_putI rfl (kd_28 ..) ?_
          refine wi_ret rfl ?_
          refine wi_ret rfl ?_
          refine wi_ret rfl ?_
          refine wi_goto rfl ?_
          refine wi_ret rfl ?_
          exact hQ1 2 _ ((tkS_3 hk0 haw).trans (if_neg (by omega))) (fun a a1 a2 => (u2_ne (by omega)).trans ((u2_ne (by omega)).trans (hX.1 a a1 a2))) h4 rfl rfl (by decide)
        · replace g3 := (not_congr (ne_n (a := kd) (b := 61) rfl (rfl : (61 : Int32) = Int32.ofNat 61) (by omega) (by omega))).mp g3
          refine wi_aload_n rfl rfl ?_
          refine wi_aload_n rfl rfl ?_
          refine wi_getIv (v := (Int32.ofNat (kd))) rfl (kd_28 ..) h7 ?_
          refine wi_putI rfl (kd_28 ..) ?_
          refine wi_aload_n rfl rfl ?_
          refine wi_iconst (x := 4) rfl rfl ?_
          refine wi_putI rfl (kd_28 ..) ?_
          refine wi_goto rfl ?_
          refine wi_ret rfl ?_
          refine wi_goto rfl ?_
          refine wi_ret rfl ?_
          exact hQ2 _ _ ((tkS_3 hk0 haw).trans (if_pos (by omega))) (XR_28 (p9 := e) (by decide) hX (fun a ha => (u2_ne ha).trans (u2_ne ha)) rfl h5 rfl rfl rfl (fun _ => h9t) (fun _ => rfl))
  · have h8 : mi 28 8 = 4 := by rw [h8', haw]; rfl
    have hrp := i4 (by omega)
    have htc := (hbk (S.r - 1) (by omega)).1
    have htb := (i5 (Or.inr haw)).2
    have h9t := hX.2.2.2.2.2.2.1 (Or.inr haw)
    have h10t := hX.2.2.2.2.2.2.2.1 haw
    refine wi_aload_n rfl rfl ?_
    refine wi_getIv (v := (Int32.ofNat (kd))) rfl (kd_28 ..) h7 ?_
    refine wi_if_ne rfl (fun _ => ?_) (fun h9 => absurd trivial (by exfalso; have h8 := (not_congr (ne_n (a := kd) (b := 0) rfl (rfl : (0 : Int32) = Int32.ofNat 0) (by omega) (by omega))).mp h9; omega))
    refine wi_aload_n rfl rfl ?_
    refine wi_getIv (v := (4 : Int32)) rfl (kd_28 ..) h8 ?_
    refine wi_tsw (t := 22) rfl rfl (by decide) rfl ?_
    refine wi_aload_n rfl rfl ?_
    refine wi_callV0 rfl (by decide) (by decide) rfl (kd_28 ..) rfl rfl rfl ?_
    refine wi_aload_n rfl rfl ?_
    refine wi_getIv (v := (Int32.ofNat (kd))) rfl (kd_28 ..) h7 ?_
    refine wi_iconst (x := 2) rfl rfl ?_
    refine wi_icmp_ne rfl (fun g1 => ?_) (fun g1 => ?_)
    · replace g1 := (ne_n (a := kd) (b := 2) rfl (rfl : (2 : Int32) = Int32.ofNat 2) (by omega) (by omega)).mp g1
      refine wi_aload_n rfl rfl ?_
      refine wi_iconst (x := 2) rfl rfl ?_
      refine wi_callV1 rfl (by decide) (by decide) rfl (kd_28 ..) rfl rfl rfl ?_
      refine wi_aload_n rfl rfl ?_
      refine wi_iload_n rfl rfl ?_
      refine wi_aload_n rfl rfl ?_
      refine wi_getIv (v := (Int32.ofNat (s))) rfl (kd_28 ..) h6 ?_
      refine wi_callV2 rfl (by decide) (by decide) rfl (kd_28 ..) rfl rfl rfl ?_
      refine wi_aload_n rfl rfl ?_
      refine wi_iload_n rfl rfl ?_
      refine wi_putI rfl (kd_28 ..) ?_
      refine wi_aload_n rfl rfl ?_
      refine wi_iload_n rfl rfl ?_
      refine wi_putI rfl (kd_28 ..) ?_
      refine wi_ret rfl ?_
      refine wi_ret rfl ?_
      refine wi_ret rfl ?_
      refine wi_goto rfl ?_
      refine wi_ret rfl ?_
      exact hQ1 2 _ ((tkS_4 hk0 haw).trans (if_neg (by omega))) (fun a a1 a2 => (u2_ne (by omega)).trans ((u2_ne (by omega)).trans (hX.1 a a1 a2))) h4 rfl rfl (by decide)
    · replace g1 := (not_congr (ne_n (a := kd) (b := 2) rfl (rfl : (2 : Int32) = Int32.ofNat 2) (by omega) (by omega))).mp g1
      refine wi_aload_n rfl rfl ?_
      refine wi_getR rfl (kd_28 ..) (rd_28_3 true) ?_
      refine wi_aload_n rfl rfl ?_
      refine wi_getIv (v := (Int32.ofNat (S.tw))) rfl (kd_28 ..) h9t ?_
      refine wi_aload_n rfl rfl ?_
      refine wi_getIv (v := (Int32.ofNat (S.ts))) rfl (kd_28 ..) h10t ?_
      refine wi_aload_n rfl rfl ?_
      refine wi_callV0 rfl (by decide) (by decide) rfl (kd_28 ..) rfl rfl rfl (c_num hcnt hN hT h26 h27 h5 h6 hse heN (hd3 (by omega)) (hdg (by omega)) ?_)
      refine wi_callV3 rfl (by decide) (by decide) rfl (kd_97 ..) rfl rfl rfl ?_
      refine wi_aload_n rfl rfl ?_
      refine wi_getIv (v := (Int32.ofNat (S.r))) rfl (kd_97 ..) hrr ?_
      refine wi_if_le rfl (fun h9 => absurd trivial (by exfalso; have h8 := (le_n (a := S.r) (b := 0) rfl (rfl : (0 : Int32) = Int32.ofNat 0) (by omega) (by omega)).mp h9; omega)) (fun _ => ?_)
      refine wi_aload_n rfl rfl ?_
      refine wi_callV0 rfl (by decide) (by decide) rfl (kd_97 ..) rfl rfl rfl ?_
      refine wi_aload_n rfl rfl ?_
      refine wi_getIv (v := (Int32.ofNat (S.r))) rfl (kd_97 ..) hrr ?_
      refine wi_if_le rfl (fun h9 => absurd trivial (by exfalso; have h8 := (le_n (a := S.r) (b := 0) rfl (rfl : (0 : Int32) = Int32.ofNat 0) (by omega) (by omega)).mp h9; omega)) (fun _ => ?_)
      refine wi_aload_n rfl rfl ?_
      refine wi_getR rfl (kd_97 ..) (rd_97_0 _) ?_
      refine wi_aload_n rfl rfl ?_
      refine wi_getIv (v := (Int32.ofNat (S.r))) rfl (kd_97 ..) hrr ?_
      refine wi_iconst (x := 1) rfl rfl ?_
      refine wn_isub (z := (Int32.ofNat (S.r - 1))) rfl (sub_n (a := S.r) (b := 1) rfl (rfl : (1 : Int32) = Int32.ofNat 1) (by omega)) ?_
      refine wn_iaload (q := S.r - 1) (v := (Int32.ofNat (S.tc (S.r - 1)))) rfl (ln_98 ..) rfl (by omega) (by decide) (by decide) (by decide) htc ?_
      refine wi_bipush (x := 6) rfl rfl ?_
      refine wi_icmp_lt rfl (fun _ => ?_) (fun h9 => absurd trivial (by exfalso; have h8 := (not_congr (lt_n (a := S.tc (S.r - 1)) (b := 6) rfl (rfl : (6 : Int32) = Int32.ofNat 6) (by omega) (by omega))).mp h9; omega))
      refine wi_iconst (x := 0) rfl rfl ?_
      refine wi_iret rfl (by decide) ?_
      refine wi_if_ne rfl (fun h9 => absurd h9 (by decide)) (fun _ => ?_)
      refine wi_aload_n rfl rfl ?_
      refine wi_getIv (v := (Int32.ofNat (S.r))) rfl (kd_97 ..) hrr ?_
      refine wi_iconst (x := 1) rfl rfl ?_
      refine wn_isub (z := (Int32.ofNat (S.r - 1))) rfl (sub_n (a := S.r) (b := 1) rfl (rfl : (1 : Int32) = Int32.ofNat 1) (by omega)) ?_
      refine wi_istore (l' := [.ref 97, .int (Int32.ofNat (S.tw)), .int (Int32.ofNat (S.ts)), .int (Int32.ofNat (nmR T s (e - s))), .int (Int32.ofNat (S.r - 1)), .retAddr 0]) rfl (Nat.le_of_ble_eq_true rfl) rfl rfl ?_
      refine wi_aload_n rfl rfl ?_
      refine wi_getR rfl (kd_97 ..) (rd_97_0 _) ?_
      refine wi_iload rfl rfl ?_
      refine wn_iaload (q := S.r - 1) (v := (Int32.ofNat (S.tc (S.r - 1)))) rfl (ln_98 ..) rfl (by omega) (by decide) (by decide) (by decide) htc ?_
      refine wi_istore (l' := [.ref 97, .int (Int32.ofNat (S.tw)), .int (Int32.ofNat (S.ts)), .int (Int32.ofNat (nmR T s (e - s))), .int (Int32.ofNat (S.r - 1)), .int (Int32.ofNat (S.tc (S.r - 1)))]) rfl (Nat.le_of_ble_eq_true rfl) rfl rfl ?_
      refine wi_aload_n rfl rfl ?_
      refine wi_getR rfl (kd_97 ..) (rd_97_1 _) ?_
      refine wi_iload rfl rfl ?_
      refine wn_aaload (q := S.r - 1) rfl (Or.inr (ln_99 ..)) rfl (by omega) (by decide) (ra_99 _ _ (by omega)) ?_
      refine wi_iload rfl rfl ?_
      refine wi_iload_n rfl rfl ?_
      refine wn_iastore (q := S.tc (S.r - 1)) rfl (lr_99 (by omega) ..) rfl (by omega) (by decide) ?_
      refine wi_aload_n rfl rfl ?_
      refine wi_getR rfl (kd_97 ..) (rd_97_2 _) ?_
      refine wi_iload rfl rfl ?_
      refine wn_aaload (q := S.r - 1) rfl (Or.inr (ln_108 ..)) rfl (by omega) (by decide) (ra_108 _ _ (by omega)) ?_
      refine wi_iload rfl rfl ?_
      refine wi_iload_n rfl rfl ?_
      refine wn_iastore (q := S.tc (S.r - 1)) rfl (lr_108 (by omega) ..) rfl (by omega) (by decide) ?_
      refine wi_aload_n rfl rfl ?_
      refine wi_getR rfl (kd_97 ..) (rd_97_3 _) ?_
      refine wi_iload rfl rfl ?_
      refine wn_aaload (q := S.r - 1) rfl (Or.inr (ln_117 ..)) rfl (by omega) (by decide) (ra_117 _ _ (by omega)) ?_
      refine wi_iload rfl rfl ?_
      refine wi_iload_n rfl rfl ?_
      refine wn_iastore (q := S.tc (S.r - 1)) rfl (lr_117 (by omega) ..) rfl (by omega) (by decide) ?_
      refine wi_aload_n rfl rfl ?_
      refine wi_getR rfl (kd_97 ..) (rd_97_0 _) ?_
      refine wi_iload rfl rfl ?_
      refine wi_dup2 rfl ⟨rfl, rfl⟩ ?_
      refine wn_iaload (q := S.r - 1) (v := Int32.ofNat (S.tc (S.r - 1))) rfl (ln_98 ..) rfl (by omega) (by decide) (by decide) (by decide) (by rw [u2_ne (by omega), u2_ne (by omega), u2_ne (by omega)]; exact htc) ?_
      refine wi_iconst (x := 1) rfl rfl ?_
      refine wn_iadd (z := (Int32.ofNat (S.tc (S.r - 1) + 1))) rfl (add_n (a := S.tc (S.r - 1)) (b := 1) rfl (rfl : (1 : Int32) = Int32.ofNat 1)) ?_
      refine wn_iastore (q := S.r - 1) rfl (ln_98 ..) rfl (by omega) (by decide) ?_
      refine wi_ret rfl ?_
      refine wi_aload_n rfl rfl ?_
      refine wi_iconst (x := 5) rfl rfl ?_
      refine wi_putI rfl (kd_28 ..) ?_
      refine wi_goto rfl ?_
      refine wi_ret rfl ?_
      refine wi_goto rfl ?_
      refine wi_ret rfl ?_
      exact hQ2 _ _ ((tkS_4 hk0 haw).trans (if_pos (by omega))) (XR_test (Or.inr rfl) hX (by omega) (by omega) rfl)
  · have h8 : mi 28 8 = 5 := by rw [h8', haw]; rfl
    have hrp := i4 (by omega)
    refine wi_aload_n rfl rfl ?_
    refine wi_getIv (v := (Int32.ofNat (kd))) rfl (kd_28 ..) h7 ?_
    refine wi_if_ne rfl (fun _ => ?_) (fun h9 => absurd trivial (by exfalso; have h8 := (not_congr (ne_n (a := kd) (b := 0) rfl (rfl : (0 : Int32) = Int32.ofNat 0) (by omega) (by omega))).mp h9; omega))
    refine wi_aload_n rfl rfl ?_
    refine wi_getIv (v := (5 : Int32)) rfl (kd_28 ..) h8 ?_
    refine wi_tswD rfl rfl (by decide) ?_
    refine wi_aload_n rfl rfl ?_
    refine wi_callV0 rfl (by decide) (by decide) rfl (kd_28 ..) rfl rfl rfl ?_
    refine wi_aload_n rfl rfl ?_
    refine wi_getIv (v := (Int32.ofNat (kd))) rfl (kd_28 ..) h7 ?_
    refine wi_bipush (x := 59) rfl rfl ?_
    refine wi_icmp_ne rfl (fun g1 => ?_) (fun g1 => ?_)
    · replace g1 := (ne_n (a := kd) (b := 59) rfl (rfl : (59 : Int32) = Int32.ofNat 59) (by omega) (by omega)).mp g1
      refine wi_aload_n rfl rfl ?_
      refine wi_ldc (a := 1000009) rfl rfl ?_
      refine wi_callV1 rfl (by decide) (by decide) rfl (kd_28 ..) rfl rfl rfl (c_tokIs9 hcnt hN hT h26 h27 h5 h6 hse heN h7 hkd rfl ?_)
      refine wi_if_eq rfl (fun g2 => ?_) (fun g2 => ?_)
      · skip
        refine wi_aload_n rfl rfl ?_
        refine wi_iconst (x := 2) rfl rfl ?_
        refine wi_callV1 rfl (by decide) (by decide) rfl (kd_28 ..) rfl rfl rfl ?_
        refine wi_aload_n rfl rfl ?_
        refine wi_iload_n rfl rfl ?_
        refine wi_aload_n rfl rfl ?_
        refine wi_getIv (v := (Int32.ofNat (s))) rfl (kd_28 ..) h6 ?_
        refine wi_callV2 rfl (by decide) (by decide) rfl (kd_28 ..) rfl rfl rfl ?_
        refine wi_aload_n rfl rfl ?_
        refine wi_iload_n rfl rfl ?_
        refine wi_putI rfl (kd_28 ..) ?_
        refine wi_aload_n rfl rfl ?_
        refine wi_iload_n rfl rfl ?_
        refine wi_putI rfl (kd_28 ..) ?_
        refine wi_ret rfl ?_
        refine wi_ret rfl ?_
        refine wi_ret rfl ?_
        refine wi_ret rfl ?_
        exact hQ1 2 _ ((tkS_5 hk0 haw).trans ((if_neg (by omega)).trans (if_neg (of_decide_eq_false (bI_z g2))))) (fun a a1 a2 => (u2_ne (by omega)).trans ((u2_ne (by omega)).trans (hX.1 a a1 a2))) h4 rfl rfl (by decide)
      · skip
        refine wi_aload_n rfl rfl ?_
        refine wi_iconst (x := 2) rfl rfl ?_
        refine wi_putI rfl (kd_28 ..) ?_
        refine wi_goto rfl ?_
        refine wi_ret rfl ?_
        refine wi_ret rfl ?_
        exact hQ2 _ _ ((tkS_5 hk0 haw).trans ((if_neg (by omega)).trans (if_pos (of_decide_eq_true (bI_nz g2))))) (XR_28 (p9 := e) (by decide) hX (fun a ha => u2_ne ha) rfl h5 rfl rfl rfl (fun h9 => (by rcases h9 with h9 | h9 <;> cases h9)) (fun h9 => (by cases h9)))
    · replace g1 := (not_congr (ne_n (a := kd) (b := 59) rfl (rfl : (59 : Int32) = Int32.ofNat 59) (by omega) (by omega))).mp g1
      refine wi_aload_n rfl rfl ?_
      refine wi_iconst (x := 0) rfl rfl ?_
      refine wi_putI rfl (kd_28 ..) ?_
      refine wi_goto rfl ?_
      refine wi_ret rfl ?_
      refine wi_ret rfl ?_
      exact hQ2 _ _ ((tkS_5 hk0 haw).trans (if_pos (by omega))) (XR_28 (p9 := e) (by decide) hX (fun a ha => u2_ne ha) rfl h5 rfl rfl rfl (fun h9 => (by rcases h9 with h9 | h9 <;> cases h9)) (fun h9 => (by cases h9)))
theorem kn_false {mi : Nat → Nat → Int32} {s e : Nat} (hcnt : cnt ≤ 400) (hN : N ≤ cnt) (hT : ∀ k, T k < 256) (h26 : mi 26 1 = Int32.ofNat cnt) (h27 : ∀ k, k < cnt → mi 27 k = Int32.ofNat (T k)) (h5 : mi 28 5 = Int32.ofNat e) (h6 : mi 28 6 = Int32.ofNat s) (hse : s < e) (heN : e ≤ N) {S : rgS} (hrr : mi 31 4 = Int32.ofNat S.r) (hr8 : S.r ≤ 8) (hnm : ∀ i, i < S.r → (mi 29 i = Int32.ofNat (S.ns i) ∧ mi 30 i = Int32.ofNat (S.nl i) ∧ S.ns i + S.nl i ≤ N)) (hQ : Q (some (.int (bI (anyB (knw T S s (e - s)) S.r)))) (am_shT, mrL false, mi, ml)) : ∀ r i, i + r = S.r → anyB (knw T S s (e - s)) i = false → am_wp X (d + 2) 50 2 [.ref 28, .int (Int32.ofNat (i))] [] (am_shT, mrL false, mi, ml) Q := by
  intro r
  induction r with
  | zero =>
    intro i hi hpre
    refine wi_iload_n rfl rfl ?_
    refine wi_aload_n rfl rfl ?_
    refine wi_getR rfl (kd_28 ..) (rd_28_3 false) ?_
    refine wi_callV0 rfl (by decide) (by decide) rfl (kd_31 ..) rfl rfl rfl ?_
    refine wi_aload_n rfl rfl ?_
    refine wi_getIv (v := (Int32.ofNat (S.r))) rfl (kd_31 ..) hrr ?_
    refine wi_iret rfl (Or.inl rfl) ?_
    refine wi_icmp_ge rfl (fun _ => ?_) (fun h9 => absurd trivial (by exfalso; have h8 := (not_congr (le_n (a := S.r) (b := i) rfl rfl (by omega) (by omega))).mp h9; omega))
    refine wi_iconst (x := 0) rfl rfl ?_
    refine wi_iret rfl (by decide) ?_
    obtain rfl : i = S.r := by omega
    rw [hpre] at hQ
    exact hQ
  | succ r ih =>
    intro i hi hpre
    have q1 := hnm i (by omega)
    refine wi_iload_n rfl rfl ?_
    refine wi_aload_n rfl rfl ?_
    refine wi_getR rfl (kd_28 ..) (rd_28_3 false) ?_
    refine wi_callV0 rfl (by decide) (by decide) rfl (kd_31 ..) rfl rfl rfl ?_
    refine wi_aload_n rfl rfl ?_
    refine wi_getIv (v := (Int32.ofNat (S.r))) rfl (kd_31 ..) hrr ?_
    refine wi_iret rfl (Or.inl rfl) ?_
    refine wi_icmp_ge rfl (fun h9 => absurd trivial (by exfalso; have h8 := (le_n (a := S.r) (b := i) rfl rfl (by omega) (by omega)).mp h9; omega)) (fun _ => ?_)
    refine wi_aload_n rfl rfl ?_
    refine wi_getR rfl (kd_28 ..) (rd_28_1 _) ?_
    refine wi_iload_n rfl rfl ?_
    refine wn_iaload (q := i) (v := (Int32.ofNat (S.nl i))) rfl (ln_30 ..) rfl (by omega) (by decide) (by decide) (by decide) q1.2.1 ?_
    refine wi_aload_n rfl rfl ?_
    refine wi_callV0 rfl (by decide) (by decide) rfl (kd_28 ..) rfl rfl rfl ?_
    refine wi_aload_n rfl rfl ?_
    refine wi_getIv (v := (Int32.ofNat (e))) rfl (kd_28 ..) h5 ?_
    refine wi_aload_n rfl rfl ?_
    refine wi_getIv (v := (Int32.ofNat (s))) rfl (kd_28 ..) h6 ?_
    refine wn_isub (z := (Int32.ofNat (e - s))) rfl (sub_n (a := e) (b := s) rfl rfl (by omega)) ?_
    refine wi_iret rfl (Or.inl rfl) ?_
    refine wi_icmp_ne rfl (fun g1 => ?_) (fun g1 => ?_)
    · replace g1 := (ne_n (a := S.nl i) (b := e - s) rfl rfl (by omega) (by omega)).mp g1
      refine wi_iinc (z := (Int32.ofNat (i + 1))) rfl rfl rfl (add_n (a := i) (b := 1) rfl rfl) rfl ?_
      refine wi_goto rfl ?_
      have e8 : (knw T S s (e - s)) i = false := Bool.eq_false_iff.mpr (fun hk8 => by
        have hk9 := kn_iff.mp hk8
        have := hk9.1
        omega)
      refine ih (i + 1) (by omega) ?_
      show (anyB (knw T S s (e - s)) i || (knw T S s (e - s)) i) = false
      rw [hpre, e8]
      rfl
    · replace g1 := (not_congr (ne_n (a := S.nl i) (b := e - s) rfl rfl (by omega) (by omega))).mp g1
      refine wi_aload_n rfl rfl ?_
      refine wi_aload_n rfl rfl ?_
      refine wi_getR rfl (kd_28 ..) (rd_28_0 _) ?_
      refine wi_iload_n rfl rfl ?_
      refine wn_iaload (q := i) (v := (Int32.ofNat (S.ns i))) rfl (ln_29 ..) rfl (by omega) (by decide) (by decide) (by decide) q1.1 ?_
      refine wi_callV1 rfl (by decide) (by decide) rfl (kd_28 ..) rfl rfl rfl (c_same hcnt hN hT h26 h27 h5 h6 hse heN (by omega) rfl ?_)
      refine wi_if_eq rfl (fun g2 => ?_) (fun g2 => ?_)
      · skip
        refine wi_iinc (z := (Int32.ofNat (i + 1))) rfl rfl rfl (add_n (a := i) (b := 1) rfl rfl) rfl ?_
        refine wi_goto rfl ?_
        have e8 : (knw T S s (e - s)) i = false := Bool.eq_false_iff.mpr (fun hk8 => by
          have hk9 := kn_iff.mp hk8
          have := hk9.2
          rw [bI_z g2] at this
          cases this)
        refine ih (i + 1) (by omega) ?_
        show (anyB (knw T S s (e - s)) i || (knw T S s (e - s)) i) = false
        rw [hpre, e8]
        rfl
      · skip
        refine wi_iconst (x := 1) rfl rfl ?_
        refine wi_iret rfl (by decide) ?_
        have e8 : (knw T S s (e - s)) i = true := kn_iff.mpr ⟨by omega, bI_nz g2⟩
        rw [any_t S.r i (by omega) e8] at hQ
        exact hQ
theorem c_known_false {mi : Nat → Nat → Int32} {s e : Nat} (hcnt : cnt ≤ 400) (hN : N ≤ cnt) (hT : ∀ k, T k < 256) (h26 : mi 26 1 = Int32.ofNat cnt) (h27 : ∀ k, k < cnt → mi 27 k = Int32.ofNat (T k)) (h5 : mi 28 5 = Int32.ofNat e) (h6 : mi 28 6 = Int32.ofNat s) (hse : s < e) (heN : e ≤ N) {S : rgS} (hrr : mi 31 4 = Int32.ofNat S.r) (hr8 : S.r ≤ 8) (hnm : ∀ i, i < S.r → (mi 29 i = Int32.ofNat (S.ns i) ∧ mi 30 i = Int32.ofNat (S.nl i) ∧ S.ns i + S.nl i ≤ N)) {z : Int32} (hz : bI (anyB (knw T S s (e - s)) S.r) = z) (hQ : Q (some (.int z)) (am_shT, mrL false, mi, ml)) : am_wp X (d + 2) 50 0 [.ref 28, .retAddr 0] [] (am_shT, mrL false, mi, ml) Q := by
  refine wi_iconst (x := 0) rfl rfl ?_
  refine wi_istore_n (l' := [.ref 28, .int (0 : Int32)]) rfl (Nat.le_of_ble_eq_true rfl) rfl rfl ?_
  exact kn_false hcnt hN hT h26 h27 h5 h6 hse heN hrr hr8 hnm (by rw [hz]; exact hQ) S.r 0 (by omega) rfl
theorem c_take_false {mi0 : Nat → Nat → Int32} {S : rgS} {mi : Nat → Nat → Int32} {s e kd : Nat} (hcnt : cnt ≤ 400) (hN : N ≤ cnt) (hT : ∀ k, T k < 256) (h26 : mi 26 1 = Int32.ofNat cnt) (h27 : ∀ k, k < cnt → mi 27 k = Int32.ofNat (T k)) (h5 : mi 28 5 = Int32.ofNat e) (h6 : mi 28 6 = Int32.ofNat s) (hse : s < e) (heN : e ≤ N) (h7 : mi 28 7 = Int32.ofNat kd) (hkd : kd < 256) (hd3 : kd = 2 → e - s ≤ 3) (hdg : kd = 2 → ∀ k, s ≤ k → k < e → isD (T k) = true) (hX : XR 31 N mi0 e S mi) (hin : inS T N S)
    (hQ1 : ∀ k mi2, tkS T S s e kd = .inl k → (∀ a, (a < 28 ∨ 31 ≤ a) → (a < 31 ∨ 31 + 29 ≤ a) → mi2 a = mi0 a) → mi2 28 4 = Int32.ofNat N → mi2 28 11 = Int32.ofNat k → mi2 28 12 = Int32.ofNat s → k ≠ 0 → Q none (am_shT, mrL false, mi2, ml))
    (hQ2 : ∀ S' mi2, tkS T S s e kd = .inr S' → XR 31 N mi0 e S' mi2 → Q none (am_shT, mrL false, mi2, ml)) : am_wp X (d + 4) 42 0 [.ref 28] [] (am_shT, mrL false, mi, ml) Q := by
  have h4 := hX.2.1
  have h8' := hX.2.2.2.1
  have hrr := hX.2.2.2.2.2.2.2.2.1
  have hbk := hX.2.2.2.2.2.2.2.2.2
  obtain ⟨i1, i2, i3, i4, i5, i6, i7⟩ := hin
  have hnm : ∀ i, i < S.r → (mi 29 i = Int32.ofNat (S.ns i) ∧ mi 30 i = Int32.ofNat (S.nl i) ∧ S.ns i + S.nl i ≤ N) := fun i hi => ⟨(hbk i hi).2.1, (hbk i hi).2.2.1, (i7 i hi).2.1⟩
  by_cases hk0 : kd = 0
  · skip
    refine wi_aload_n rfl rfl ?_
    refine wi_getIv (v := (Int32.ofNat (kd))) rfl (kd_28 ..) h7 ?_
    refine wi_if_ne rfl (fun h9 => absurd trivial (by exfalso; have h8 := (ne_n (a := kd) (b := 0) rfl (rfl : (0 : Int32) = Int32.ofNat 0) (by omega) (by omega)).mp h9; omega)) (fun _ => ?_)
    refine wi_aload_n rfl rfl ?_
    refine wi_iconst (x := 1) rfl rfl ?_
    refine wi_callV1 rfl (by decide) (by decide) rfl (kd_28 ..) rfl rfl rfl ?_
    refine wi_aload_n rfl rfl ?_
    refine wi_iload_n rfl rfl ?_
    refine wi_aload_n rfl rfl ?_
    refine wi_getIv (v := (Int32.ofNat (s))) rfl (kd_28 ..) h6 ?_
    refine wi_callV2 rfl (by decide) (by decide) rfl (kd_28 ..) rfl rfl rfl ?_
    refine wi_aload_n rfl rfl ?_
    refine wi_iload_n rfl rfl ?_
    refine wi_putI rfl (kd_28 ..) ?_
    refine wi_aload_n rfl rfl ?_
    refine wi_iload_n rfl rfl ?_
    refine wi_putI rfl (kd_28 ..) ?_
    refine wi_ret rfl ?_
    refine wi_ret rfl ?_
    refine wi_ret rfl ?_
    exact hQ1 1 _ (tkS_z hk0) (fun a a1 a2 => (u2_ne (by omega)).trans ((u2_ne (by omega)).trans (hX.1 a a1 a2))) h4 rfl rfl (by decide)
  have haws : S.aw = 0 ∨ S.aw = 1 ∨ S.aw = 2 ∨ S.aw = 3 ∨ S.aw = 4 ∨ S.aw = 5 := by omega
  rcases haws with haw | haw | haw | haw | haw | haw
  · have h8 : mi 28 8 = 0 := by rw [h8', haw]; rfl
    cases hkn : anyB (knw T S s (e - s)) S.r
    · skip
      refine wi_aload_n rfl rfl ?_
      refine wi_getIv (v := (Int32.ofNat (kd))) rfl (kd_28 ..) h7 ?_
      refine wi_if_ne rfl (fun _ => ?_) (fun h9 => absurd trivial (by exfalso; have h8 := (not_congr (ne_n (a := kd) (b := 0) rfl (rfl : (0 : Int32) = Int32.ofNat 0) (by omega) (by omega))).mp h9; omega))
      refine wi_aload_n rfl rfl ?_
      refine wi_getIv (v := (0 : Int32)) rfl (kd_28 ..) h8 ?_
      refine wi_tsw (t := 10) rfl rfl (by decide) rfl ?_
      refine wi_aload_n rfl rfl ?_
      refine wi_callV0 rfl (by decide) (by decide) rfl (kd_28 ..) rfl rfl rfl ?_
      refine wi_aload_n rfl rfl ?_
      refine wi_getIv (v := (Int32.ofNat (kd))) rfl (kd_28 ..) h7 ?_
      refine wi_iconst (x := 1) rfl rfl ?_
      refine wi_icmp_ne rfl (fun g1 => ?_) (fun g1 => ?_)
      · replace g1 := (ne_n (a := kd) (b := 1) rfl (rfl : (1 : Int32) = Int32.ofNat 1) (by omega) (by omega)).mp g1
        refine wi_aload_n rfl rfl ?_
        refine wi_iconst (x := 2) rfl rfl ?_
        refine wi_callV1 rfl (by decide) (by decide) rfl (kd_28 ..) rfl rfl rfl ?_
        refine wi_aload_n rfl rfl ?_
        refine wi_iload_n rfl rfl ?_
        refine wi_aload_n rfl rfl ?_
        refine wi_getIv (v := (Int32.ofNat (s))) rfl (kd_28 ..) h6 ?_
        refine wi_callV2 rfl (by decide) (by decide) rfl (kd_28 ..) rfl rfl rfl ?_
        refine wi_aload_n rfl rfl ?_
        refine wi_iload_n rfl rfl ?_
        refine wi_putI rfl (kd_28 ..) ?_
        refine wi_aload_n rfl rfl ?_
        refine wi_iload_n rfl rfl ?_
        refine wi_putI rfl (kd_28 ..) ?_
        refine wi_ret rfl ?_
        refine wi_ret rfl ?_
        refine wi_goto rfl ?_
        refine wi_ret rfl ?_
        refine wi_goto rfl ?_
        refine wi_ret rfl ?_
        exact hQ1 2 _ ((tkS_0 hk0 haw).trans (if_pos (by omega))) (fun a a1 a2 => (u2_ne (by omega)).trans ((u2_ne (by omega)).trans (hX.1 a a1 a2))) h4 rfl rfl (by decide)
      · replace g1 := (not_congr (ne_n (a := kd) (b := 1) rfl (rfl : (1 : Int32) = Int32.ofNat 1) (by omega) (by omega))).mp g1
        refine wi_aload_n rfl rfl ?_
        refine wi_callV0 rfl (by decide) (by decide) rfl (kd_28 ..) rfl rfl rfl ?_
        refine wi_aload_n rfl rfl ?_
        refine wi_getIv (v := (Int32.ofNat (e))) rfl (kd_28 ..) h5 ?_
        refine wi_aload_n rfl rfl ?_
        refine wi_getIv (v := (Int32.ofNat (s))) rfl (kd_28 ..) h6 ?_
        refine wn_isub (z := (Int32.ofNat (e - s))) rfl (sub_n (a := e) (b := s) rfl rfl (by omega)) ?_
        refine wi_iret rfl (Or.inl rfl) ?_
        refine wi_bipush (x := 8) rfl rfl ?_
        refine wi_icmp_le rfl (fun g2 => ?_) (fun g2 => ?_)
        · replace g2 := (le_n (a := e - s) (b := 8) rfl (rfl : (8 : Int32) = Int32.ofNat 8) (by omega) (by omega)).mp g2
          refine wi_aload_n rfl rfl ?_
          refine wi_getR rfl (kd_28 ..) (rd_28_3 false) ?_
          refine wi_callV0 rfl (by decide) (by decide) rfl (kd_31 ..) rfl rfl rfl ?_
          refine wi_aload_n rfl rfl ?_
          refine wi_getIv (v := (Int32.ofNat (S.r))) rfl (kd_31 ..) hrr ?_
          refine wi_bipush (x := 8) rfl rfl ?_
          refine wi_icmp_lt rfl (fun g3 => ?_) (fun g3 => ?_)
          · replace g3 := (lt_n (a := S.r) (b := 8) rfl (rfl : (8 : Int32) = Int32.ofNat 8) (by omega) (by omega)).mp g3
            refine wi_iconst (x := 0) rfl rfl ?_
            refine wi_iret rfl (by decide) ?_
            refine wi_if_eq rfl (fun _ => ?_) (fun h9 => absurd (by decide) h9)
            refine wi_aload_n rfl rfl ?_
            refine wi_callV0 rfl (by decide) (by decide) rfl (kd_28 ..) rfl rfl rfl (c_known_false hcnt hN hT h26 h27 h5 h6 hse heN hrr (by omega) hnm (congrArg bI hkn) ?_)
            refine wi_if_eq rfl (fun _ => ?_) (fun h9 => absurd (by decide) h9)
            refine wi_aload_n rfl rfl ?_
            refine wi_callV0 rfl (by decide) (by decide) rfl (kd_28 ..) rfl rfl rfl ?_
            refine wi_aload_n rfl rfl ?_
            refine wi_getR rfl (kd_28 ..) (rd_28_3 false) ?_
            refine wi_callV0 rfl (by decide) (by decide) rfl (kd_31 ..) rfl rfl rfl ?_
            refine wi_aload_n rfl rfl ?_
            refine wi_getIv (v := (Int32.ofNat (S.r))) rfl (kd_31 ..) hrr ?_
            refine wi_iret rfl (Or.inl rfl) ?_
            refine wi_istore_n (l' := [.ref 28, .int (Int32.ofNat (S.r))]) rfl (Nat.le_of_ble_eq_true rfl) rfl rfl ?_
            refine wi_iload_n rfl rfl ?_
            refine wi_bipush (x := 8) rfl rfl ?_
            refine wi_icmp_ge rfl (fun h9 => absurd trivial (by exfalso; have h8 := (le_n (a := 8) (b := S.r) (rfl : (8 : Int32) = Int32.ofNat 8) rfl (by omega) (by omega)).mp h9; omega)) (fun _ => ?_)
            refine wi_aload_n rfl rfl ?_
            refine wi_getR rfl (kd_28 ..) (rd_28_0 _) ?_
            refine wi_iload_n rfl rfl ?_
            refine wi_aload_n rfl rfl ?_
            refine wi_getIv (v := (Int32.ofNat (s))) rfl (kd_28 ..) h6 ?_
            refine wn_iastore (q := S.r) rfl (ln_29 ..) rfl (by omega) (by decide) ?_
            refine wi_aload_n rfl rfl ?_
            refine wi_getR rfl (kd_28 ..) (rd_28_1 _) ?_
            refine wi_iload_n rfl rfl ?_
            refine wi_aload_n rfl rfl ?_
            refine wi_callV0 rfl (by decide) (by decide) rfl (kd_28 ..) rfl rfl rfl ?_
            refine wi_aload_n rfl rfl ?_
            refine wi_getIv (v := (Int32.ofNat (e))) rfl (kd_28 ..) h5 ?_
            refine wi_aload_n rfl rfl ?_
            refine wi_getIv (v := (Int32.ofNat (s))) rfl (kd_28 ..) h6 ?_
            refine wn_isub (z := (Int32.ofNat (e - s))) rfl (sub_n (a := e) (b := s) rfl rfl (by omega)) ?_
            refine wi_iret rfl (Or.inl rfl) ?_
            refine wn_iastore (q := S.r) rfl (ln_30 ..) rfl (by omega) (by decide) ?_
            refine wi_ret rfl ?_
            refine wi_aload_n rfl rfl ?_
            refine wi_getR rfl (kd_28 ..) (rd_28_3 false) ?_
            refine wi_callV0 rfl (by decide) (by decide) rfl (kd_31 ..) rfl rfl rfl ?_
            refine wi_aload_n rfl rfl ?_
            refine wi_callV0 rfl (by decide) (by decide) rfl (kd_31 ..) rfl rfl rfl ?_
            refine wi_aload_n rfl rfl ?_
            refine wi_getIv (v := (Int32.ofNat (S.r))) rfl (kd_31 ..) hrr ?_
            refine wi_bipush (x := 8) rfl rfl ?_
            refine wi_icmp_lt rfl (fun _ => ?_) (fun h9 => absurd trivial (by exfalso; have h8 := (not_congr (lt_n (a := S.r) (b := 8) rfl (rfl : (8 : Int32) = Int32.ofNat 8) (by omega) (by omega))).mp h9; omega))
            refine wi_iconst (x := 0) rfl rfl ?_
            refine wi_iret rfl (by decide) ?_
            refine wi_if_ne rfl (fun h9 => absurd h9 (by decide)) (fun _ => ?_)
            refine wi_aload_n rfl rfl ?_
            refine wi_getR rfl (kd_31 ..) (rd_31_0 _) ?_
            refine wi_aload_n rfl rfl ?_
            refine wi_getIv (v := (Int32.ofNat (S.r))) rfl (kd_31 ..) hrr ?_
            refine wi_iconst (x := 0) rfl rfl ?_
            refine wn_iastore (q := S.r) rfl (ln_32 ..) rfl (by omega) (by decide) ?_
            refine wi_aload_n rfl rfl ?_
            refine wi_dup rfl rfl ?_
            refine wi_getIv (v := (Int32.ofNat (S.r))) rfl (kd_31 ..) hrr ?_
            refine wi_iconst (x := 1) rfl rfl ?_
            refine wn_iadd (z := (Int32.ofNat (S.r + 1))) rfl (add_n (a := S.r) (b := 1) rfl (rfl : (1 : Int32) = Int32.ofNat 1)) ?_
            refine wi_putI rfl (kd_31 ..) ?_
            refine wi_ret rfl ?_
            refine wi_aload_n rfl rfl ?_
            refine wi_iconst (x := 1) rfl rfl ?_
            refine wi_putI rfl (kd_28 ..) ?_
            refine wi_ret rfl ?_
            refine wi_goto rfl ?_
            refine wi_ret rfl ?_
            exact hQ2 _ _ ((tkS_0 hk0 haw).trans ((if_neg (by omega)).trans ((if_neg (by omega)).trans (if_neg (by rw [hkn]; decide))))) (XR_name (Or.inl rfl) hX (by omega))
          · replace g3 := (not_congr (lt_n (a := S.r) (b := 8) rfl (rfl : (8 : Int32) = Int32.ofNat 8) (by omega) (by omega))).mp g3
            refine wi_iconst (x := 1) rfl rfl ?_
            refine wi_goto rfl ?_
            refine wi_iret rfl (by decide) ?_
            refine wi_if_eq rfl (fun h9 => absurd h9 (by decide)) (fun _ => ?_)
            refine wi_aload_n rfl rfl ?_
            refine wi_iconst (x := 3) rfl rfl ?_
            refine wi_callV1 rfl (by decide) (by decide) rfl (kd_28 ..) rfl rfl rfl ?_
            refine wi_aload_n rfl rfl ?_
            refine wi_iload_n rfl rfl ?_
            refine wi_aload_n rfl rfl ?_
            refine wi_getIv (v := (Int32.ofNat (s))) rfl (kd_28 ..) h6 ?_
            refine wi_callV2 rfl (by decide) (by decide) rfl (kd_28 ..) rfl rfl rfl ?_
            refine wi_aload_n rfl rfl ?_
            refine wi_iload_n rfl rfl ?_
            refine wi_putI rfl (kd_28 ..) ?_
            refine wi_aload_n rfl rfl ?_
            refine wi_iload_n rfl rfl ?_
            refine wi_putI rfl (kd_28 ..) ?_
            refine wi_ret rfl ?_
            refine wi_ret rfl ?_
            refine wi_goto rfl ?_
            refine wi_ret rfl ?_
            refine wi_goto rfl ?_
            refine wi_ret rfl ?_
            exact hQ1 3 _ ((tkS_0 hk0 haw).trans ((if_neg (by omega)).trans (if_pos (by omega)))) (fun a a1 a2 => (u2_ne (by omega)).trans ((u2_ne (by omega)).trans (hX.1 a a1 a2))) h4 rfl rfl (by decide)
        · replace g2 := (not_congr (le_n (a := e - s) (b := 8) rfl (rfl : (8 : Int32) = Int32.ofNat 8) (by omega) (by omega))).mp g2
          refine wi_aload_n rfl rfl ?_
          refine wi_iconst (x := 2) rfl rfl ?_
          refine wi_callV1 rfl (by decide) (by decide) rfl (kd_28 ..) rfl rfl rfl ?_
          refine wi_aload_n rfl rfl ?_
          refine wi_iload_n rfl rfl ?_
          refine wi_aload_n rfl rfl ?_
          refine wi_getIv (v := (Int32.ofNat (s))) rfl (kd_28 ..) h6 ?_
          refine wi_callV2 rfl (by decide) (by decide) rfl (kd_28 ..) rfl rfl rfl ?_
          refine wi_aload_n rfl rfl ?_
          refine wi_iload_n rfl rfl ?_
          refine wi_putI rfl (kd_28 ..) ?_
          refine wi_aload_n rfl rfl ?_
          refine wi_iload_n rfl rfl ?_
          refine wi_putI rfl (kd_28 ..) ?_
          refine wi_ret rfl ?_
          refine wi_ret rfl ?_
          refine wi_goto rfl ?_
          refine wi_ret rfl ?_
          refine wi_goto rfl ?_
          refine wi_ret rfl ?_
          exact hQ1 2 _ ((tkS_0 hk0 haw).trans (if_pos (by omega))) (fun a a1 a2 => (u2_ne (by omega)).trans ((u2_ne (by omega)).trans (hX.1 a a1 a2))) h4 rfl rfl (by decide)
    · skip
      refine wi_aload_n rfl rfl ?_
      refine wi_getIv (v := (Int32.ofNat (kd))) rfl (kd_28 ..) h7 ?_
      refine wi_if_ne rfl (fun _ => ?_) (fun h9 => absurd trivial (by exfalso; have h8 := (not_congr (ne_n (a := kd) (b := 0) rfl (rfl : (0 : Int32) = Int32.ofNat 0) (by omega) (by omega))).mp h9; omega))
      refine wi_aload_n rfl rfl ?_
      refine wi_getIv (v := (0 : Int32)) rfl (kd_28 ..) h8 ?_
      refine wi_tsw (t := 10) rfl rfl (by decide) rfl ?_
      refine wi_aload_n rfl rfl ?_
      refine wi_callV0 rfl (by decide) (by decide) rfl (kd_28 ..) rfl rfl rfl ?_
      refine wi_aload_n rfl rfl ?_
      refine wi_getIv (v := (Int32.ofNat (kd))) rfl (kd_28 ..) h7 ?_
      refine wi_iconst (x := 1) rfl rfl ?_
      refine wi_icmp_ne rfl (fun g1 => ?_) (fun g1 => ?_)
      · replace g1 := (ne_n (a := kd) (b := 1) rfl (rfl : (1 : Int32) = Int32.ofNat 1) (by omega) (by omega)).mp g1
        refine wi_aload_n rfl rfl ?_
        refine wi_iconst (x := 2) rfl rfl ?_
        refine wi_callV1 rfl (by decide) (by decide) rfl (kd_28 ..) rfl rfl rfl ?_
        refine wi_aload_n rfl rfl ?_
        refine wi_iload_n rfl rfl ?_
        refine wi_aload_n rfl rfl ?_
        refine wi_getIv (v := (Int32.ofNat (s))) rfl (kd_28 ..) h6 ?_
        refine wi_callV2 rfl (by decide) (by decide) rfl (kd_28 ..) rfl rfl rfl ?_
        refine wi_aload_n rfl rfl ?_
        refine wi_iload_n rfl rfl ?_
        refine wi_putI rfl (kd_28 ..) ?_
        refine wi_aload_n rfl rfl ?_
        refine wi_iload_n rfl rfl ?_
        refine wi_putI rfl (kd_28 ..) ?_
        refine wi_ret rfl ?_
        refine wi_ret rfl ?_
        refine wi_goto rfl ?_
        refine wi_ret rfl ?_
        refine wi_goto rfl ?_
        refine wi_ret rfl ?_
        exact hQ1 2 _ ((tkS_0 hk0 haw).trans (if_pos (by omega))) (fun a a1 a2 => (u2_ne (by omega)).trans ((u2_ne (by omega)).trans (hX.1 a a1 a2))) h4 rfl rfl (by decide)
      · replace g1 := (not_congr (ne_n (a := kd) (b := 1) rfl (rfl : (1 : Int32) = Int32.ofNat 1) (by omega) (by omega))).mp g1
        refine wi_aload_n rfl rfl ?_
        refine wi_callV0 rfl (by decide) (by decide) rfl (kd_28 ..) rfl rfl rfl ?_
        refine wi_aload_n rfl rfl ?_
        refine wi_getIv (v := (Int32.ofNat (e))) rfl (kd_28 ..) h5 ?_
        refine wi_aload_n rfl rfl ?_
        refine wi_getIv (v := (Int32.ofNat (s))) rfl (kd_28 ..) h6 ?_
        refine wn_isub (z := (Int32.ofNat (e - s))) rfl (sub_n (a := e) (b := s) rfl rfl (by omega)) ?_
        refine wi_iret rfl (Or.inl rfl) ?_
        refine wi_bipush (x := 8) rfl rfl ?_
        refine wi_icmp_le rfl (fun g2 => ?_) (fun g2 => ?_)
        · replace g2 := (le_n (a := e - s) (b := 8) rfl (rfl : (8 : Int32) = Int32.ofNat 8) (by omega) (by omega)).mp g2
          refine wi_aload_n rfl rfl ?_
          refine wi_getR rfl (kd_28 ..) (rd_28_3 false) ?_
          refine wi_callV0 rfl (by decide) (by decide) rfl (kd_31 ..) rfl rfl rfl ?_
          refine wi_aload_n rfl rfl ?_
          refine wi_getIv (v := (Int32.ofNat (S.r))) rfl (kd_31 ..) hrr ?_
          refine wi_bipush (x := 8) rfl rfl ?_
          refine wi_icmp_lt rfl (fun g3 => ?_) (fun g3 => ?_)
          · replace g3 := (lt_n (a := S.r) (b := 8) rfl (rfl : (8 : Int32) = Int32.ofNat 8) (by omega) (by omega)).mp g3
            refine wi_iconst (x := 0) rfl rfl ?_
            refine wi_iret rfl (by decide) ?_
            refine wi_if_eq rfl (fun _ => ?_) (fun h9 => absurd (by decide) h9)
            refine wi_aload_n rfl rfl ?_
            refine wi_callV0 rfl (by decide) (by decide) rfl (kd_28 ..) rfl rfl rfl (c_known_false hcnt hN hT h26 h27 h5 h6 hse heN hrr (by omega) hnm (congrArg bI hkn) ?_)
            refine wi_if_eq rfl (fun h9 => absurd h9 (by decide)) (fun _ => ?_)
            refine wi_aload_n rfl rfl ?_
            refine wi_iconst (x := 4) rfl rfl ?_
            refine wi_callV1 rfl (by decide) (by decide) rfl (kd_28 ..) rfl rfl rfl ?_
            refine wi_aload_n rfl rfl ?_
            refine wi_iload_n rfl rfl ?_
            refine wi_aload_n rfl rfl ?_
            refine wi_getIv (v := (Int32.ofNat (s))) rfl (kd_28 ..) h6 ?_
            refine wi_callV2 rfl (by decide) (by decide) rfl (kd_28 ..) rfl rfl rfl ?_
            refine wi_aload_n rfl rfl ?_
            refine wi_iload_n rfl rfl ?_
            refine wi_putI rfl (kd_28 ..) ?_
            refine wi_aload_n rfl rfl ?_
            refine wi_iload_n rfl rfl ?_
            refine wi_putI rfl (kd_28 ..) ?_
            refine wi_ret rfl ?_
            refine wi_ret rfl ?_
            refine wi_goto rfl ?_
            refine wi_ret rfl ?_
            refine wi_goto rfl ?_
            refine wi_ret rfl ?_
            exact hQ1 4 _ ((tkS_0 hk0 haw).trans ((if_neg (by omega)).trans ((if_neg (by omega)).trans (if_pos hkn)))) (fun a a1 a2 => (u2_ne (by omega)).trans ((u2_ne (by omega)).trans (hX.1 a a1 a2))) h4 rfl rfl (by decide)
          · replace g3 := (not_congr (lt_n (a := S.r) (b := 8) rfl (rfl : (8 : Int32) = Int32.ofNat 8) (by omega) (by omega))).mp g3
            refine wi_iconst (x := 1) rfl rfl ?_
            refine wi_goto rfl ?_
            refine wi_iret rfl (by decide) ?_
            refine wi_if_eq rfl (fun h9 => absurd h9 (by decide)) (fun _ => ?_)
            refine wi_aload_n rfl rfl ?_
            refine wi_iconst (x := 3) rfl rfl ?_
            refine wi_callV1 rfl (by decide) (by decide) rfl (kd_28 ..) rfl rfl rfl ?_
            refine wi_aload_n rfl rfl ?_
            refine wi_iload_n rfl rfl ?_
            refine wi_aload_n rfl rfl ?_
            refine wi_getIv (v := (Int32.ofNat (s))) rfl (kd_28 ..) h6 ?_
            refine wi_callV2 rfl (by decide) (by decide) rfl (kd_28 ..) rfl rfl rfl ?_
            refine wi_aload_n rfl rfl ?_
            refine wi_iload_n rfl rfl ?_
            refine wi_putI rfl (kd_28 ..) ?_
            refine wi_aload_n rfl rfl ?_
            refine wi_iload_n rfl rfl ?_
            refine wi_putI rfl (kd_28 ..) ?_
            refine wi_ret rfl ?_
            refine wi_ret rfl ?_
            refine wi_goto rfl ?_
            refine wi_ret rfl ?_
            refine wi_goto rfl ?_
            refine wi_ret rfl ?_
            exact hQ1 3 _ ((tkS_0 hk0 haw).trans ((if_neg (by omega)).trans (if_pos (by omega)))) (fun a a1 a2 => (u2_ne (by omega)).trans ((u2_ne (by omega)).trans (hX.1 a a1 a2))) h4 rfl rfl (by decide)
        · replace g2 := (not_congr (le_n (a := e - s) (b := 8) rfl (rfl : (8 : Int32) = Int32.ofNat 8) (by omega) (by omega))).mp g2
          refine wi_aload_n rfl rfl ?_
          refine wi_iconst (x := 2) rfl rfl ?_
          refine wi_callV1 rfl (by decide) (by decide) rfl (kd_28 ..) rfl rfl rfl ?_
          refine wi_aload_n rfl rfl ?_
          refine wi_iload_n rfl rfl ?_
          refine wi_aload_n rfl rfl ?_
          refine wi_getIv (v := (Int32.ofNat (s))) rfl (kd_28 ..) h6 ?_
          refine wi_callV2 rfl (by decide) (by decide) rfl (kd_28 ..) rfl rfl rfl ?_
          refine wi_aload_n rfl rfl ?_
          refine wi_iload_n rfl rfl ?_
          refine wi_putI rfl (kd_28 ..) ?_
          refine wi_aload_n rfl rfl ?_
          refine wi_iload_n rfl rfl ?_
          refine wi_putI rfl (kd_28 ..) ?_
          refine wi_ret rfl ?_
          refine wi_ret rfl ?_
          refine wi_goto rfl ?_
          refine wi_ret rfl ?_
          refine wi_goto rfl ?_
          refine wi_ret rfl ?_
          exact hQ1 2 _ ((tkS_0 hk0 haw).trans (if_pos (by omega))) (fun a a1 a2 => (u2_ne (by omega)).trans ((u2_ne (by omega)).trans (hX.1 a a1 a2))) h4 rfl rfl (by decide)
  · have h8 : mi 28 8 = 1 := by rw [h8', haw]; rfl
    have hrp := i4 (by omega)
    refine wi_aload_n rfl rfl ?_
    refine wi_getIv (v := (Int32.ofNat (kd))) rfl (kd_28 ..) h7 ?_
    refine wi_if_ne rfl (fun _ => ?_) (fun h9 => absurd trivial (by exfalso; have h8 := (not_congr (ne_n (a := kd) (b := 0) rfl (rfl : (0 : Int32) = Int32.ofNat 0) (by omega) (by omega))).mp h9; omega))
    refine wi_aload_n rfl rfl ?_
    refine wi_getIv (v := (1 : Int32)) rfl (kd_28 ..) h8 ?_
    refine wi_tsw (t := 13) rfl rfl (by decide) rfl ?_
    refine wi_aload_n rfl rfl ?_
    refine wi_callV0 rfl (by decide) (by decide) rfl (kd_28 ..) rfl rfl rfl ?_
    refine wi_aload_n rfl rfl ?_
    refine wi_ldc (a := 1000000) rfl rfl ?_
    refine wi_callV1 rfl (by decide) (by decide) rfl (kd_28 ..) rfl rfl rfl (c_tokIs0 hcnt hN hT h26 h27 h5 h6 hse heN h7 hkd rfl ?_)
    refine wi_if_eq rfl (fun g1 => ?_) (fun g1 => ?_)
    · skip
      refine wi_aload_n rfl rfl ?_
      refine wi_iconst (x := 2) rfl rfl ?_
      refine wi_callV1 rfl (by decide) (by decide) rfl (kd_28 ..) rfl rfl rfl ?_
      refine wi_aload_n rfl rfl ?_
      refine wi_iload_n rfl rfl ?_
      refine wi_aload_n rfl rfl ?_
      refine wi_getIv (v := (Int32.ofNat (s))) rfl (kd_28 ..) h6 ?_
      refine wi_callV2 rfl (by decide) (by decide) rfl (kd_28 ..) rfl rfl rfl ?_
      refine wi_aload_n rfl rfl ?_
      refine wi_iload_n rfl rfl ?_
      refine wi_putI rfl (kd_28 ..) ?_
      refine wi_aload_n rfl rfl ?_
      refine wi_iload_n rfl rfl ?_
      refine wi_putI rfl (kd_28 ..) ?_
      refine wi_ret rfl ?_
      refine wi_ret rfl ?_
      refine wi_ret rfl ?_
      refine wi_goto rfl ?_
      refine wi_ret rfl ?_
      exact hQ1 2 _ ((tkS_1 hk0 haw).trans (if_neg (of_decide_eq_false (bI_z g1)))) (fun a a1 a2 => (u2_ne (by omega)).trans ((u2_ne (by omega)).trans (hX.1 a a1 a2))) h4 rfl rfl (by decide)
    · skip
      refine wi_aload_n rfl rfl ?_
      refine wi_iconst (x := 2) rfl rfl ?_
      refine wi_putI rfl (kd_28 ..) ?_
      refine wi_goto rfl ?_
      refine wi_ret rfl ?_
      refine wi_goto rfl ?_
      refine wi_ret rfl ?_
      exact hQ2 _ _ ((tkS_1 hk0 haw).trans (if_pos (of_decide_eq_true (bI_nz g1)))) (XR_28 (p9 := e) (by decide) hX (fun a ha => u2_ne ha) rfl h5 rfl rfl rfl (fun h9 => (by rcases h9 with h9 | h9 <;> cases h9)) (fun h9 => (by cases h9)))
  · have h8 : mi 28 8 = 2 := by rw [h8', haw]; rfl
    have hrp := i4 (by omega)
    have htc := (hbk (S.r - 1) (by omega)).1
    have htb := (i7 (S.r - 1) (by omega)).1
    rcases hw : (if kd = 1 then whF (txL T s (e - s)) 8 0 else none) with _ | x
    · skip
      refine wi_aload_n rfl rfl ?_
      refine wi_getIv (v := (Int32.ofNat (kd))) rfl (kd_28 ..) h7 ?_
      refine wi_if_ne rfl (fun _ => ?_) (fun h9 => absurd trivial (by exfalso; have h8 := (not_congr (ne_n (a := kd) (b := 0) rfl (rfl : (0 : Int32) = Int32.ofNat 0) (by omega) (by omega))).mp h9; omega))
      refine wi_aload_n rfl rfl ?_
      refine wi_getIv (v := (2 : Int32)) rfl (kd_28 ..) h8 ?_
      refine wi_tsw (t := 16) rfl rfl (by decide) rfl ?_
      refine wi_aload_n rfl rfl ?_
      refine wi_callV0 rfl (by decide) (by decide) rfl (kd_28 ..) rfl rfl rfl ?_
      refine wi_aload_n rfl rfl ?_
      refine wi_callV0 rfl (by decide) (by decide) rfl (kd_28 ..) rfl rfl rfl (c_what0 hcnt hN hT h26 h27 h5 h6 hse heN h7 hkd hw ?_)
      refine wi_istore_n (l' := [.ref 28, .int (-1 : Int32)]) rfl (Nat.le_of_ble_eq_true rfl) rfl rfl ?_
      refine wi_iload_n rfl rfl ?_
      refine wi_iconst (x := (-1)) rfl rfl ?_
      refine wi_icmp_ne rfl (fun h9 => absurd h9 (by decide)) (fun _ => ?_)
      refine wi_aload_n rfl rfl ?_
      refine wi_iconst (x := 2) rfl rfl ?_
      refine wi_callV1 rfl (by decide) (by decide) rfl (kd_28 ..) rfl rfl rfl ?_
      refine wi_aload_n rfl rfl ?_
      refine wi_iload_n rfl rfl ?_
      refine wi_aload_n rfl rfl ?_
      refine wi_getIv (v := (Int32.ofNat (s))) rfl (kd_28 ..) h6 ?_
      refine wi_callV2 rfl (by decide) (by decide) rfl (kd_28 ..) rfl rfl rfl ?_
      refine wi_aload_n rfl rfl ?_
      refine wi_iload_n rfl rfl ?_
      refine wi_putI rfl (kd_28 ..) ?_
      refine wi_aload_n rfl rfl ?_
      refine wi_iload_n rfl rfl ?_
      refine wi_putI rfl (kd_28 ..) ?_
      refine wi_ret rfl ?_
      refine wi_ret rfl ?_
      refine wi_goto rfl ?_
      refine wi_ret rfl ?_
      refine wi_goto rfl ?_
      refine wi_ret rfl ?_
      exact hQ1 2 _ ((tkS_2 hk0 haw).trans (tk2_n hw)) (fun a a1 a2 => (u2_ne (by omega)).trans ((u2_ne (by omega)).trans (hX.1 a a1 a2))) h4 rfl rfl (by decide)
    · have hx8 : x < 8 := by
        split at hw
        · have := wh_b _ _ _ hw; omega
        · cases hw
      refine wi_aload_n rfl rfl ?_
      refine wi_getIv (v := (Int32.ofNat (kd))) rfl (kd_28 ..) h7 ?_
      refine wi_if_ne rfl (fun _ => ?_) (fun h9 => absurd trivial (by exfalso; have h8 := (not_congr (ne_n (a := kd) (b := 0) rfl (rfl : (0 : Int32) = Int32.ofNat 0) (by omega) (by omega))).mp h9; omega))
      refine wi_aload_n rfl rfl ?_
      refine wi_getIv (v := (2 : Int32)) rfl (kd_28 ..) h8 ?_
      refine wi_tsw (t := 16) rfl rfl (by decide) rfl ?_
      refine wi_aload_n rfl rfl ?_
      refine wi_callV0 rfl (by decide) (by decide) rfl (kd_28 ..) rfl rfl rfl ?_
      refine wi_aload_n rfl rfl ?_
      refine wi_callV0 rfl (by decide) (by decide) rfl (kd_28 ..) rfl rfl rfl (c_what1 hcnt hN hT h26 h27 h5 h6 hse heN h7 hkd hw ?_)
      refine wi_istore_n (l' := [.ref 28, .int (Int32.ofNat (x))]) rfl (Nat.le_of_ble_eq_true rfl) rfl rfl ?_
      refine wi_iload_n rfl rfl ?_
      refine wi_iconst (x := (-1)) rfl rfl ?_
      refine wi_icmp_ne rfl (fun _ => ?_) (fun h9 => absurd (nm1 (by omega)) h9)
      refine wi_aload_n rfl rfl ?_
      refine wi_getR rfl (kd_28 ..) (rd_28_3 false) ?_
      refine wi_callV0 rfl (by decide) (by decide) rfl (kd_31 ..) rfl rfl rfl ?_
      refine wi_aload_n rfl rfl ?_
      refine wi_getIv (v := (Int32.ofNat (S.r))) rfl (kd_31 ..) hrr ?_
      refine wi_if_le rfl (fun h9 => absurd trivial (by exfalso; have h8 := (le_n (a := S.r) (b := 0) rfl (rfl : (0 : Int32) = Int32.ofNat 0) (by omega) (by omega)).mp h9; omega)) (fun _ => ?_)
      refine wi_aload_n rfl rfl ?_
      refine wi_getR rfl (kd_31 ..) (rd_31_0 _) ?_
      refine wi_aload_n rfl rfl ?_
      refine wi_getIv (v := (Int32.ofNat (S.r))) rfl (kd_31 ..) hrr ?_
      refine wi_iconst (x := 1) rfl rfl ?_
      refine wn_isub (z := (Int32.ofNat (S.r - 1))) rfl (sub_n (a := S.r) (b := 1) rfl (rfl : (1 : Int32) = Int32.ofNat 1) (by omega)) ?_
      refine wn_iaload (q := S.r - 1) (v := (Int32.ofNat (S.tc (S.r - 1)))) rfl (ln_32 ..) rfl (by omega) (by decide) (by decide) (by decide) htc ?_
      refine wi_bipush (x := 6) rfl rfl ?_
      refine wi_icmp_lt rfl (fun g1 => ?_) (fun g1 => ?_)
      · replace g1 := (lt_n (a := S.tc (S.r - 1)) (b := 6) rfl (rfl : (6 : Int32) = Int32.ofNat 6) (by omega) (by omega)).mp g1
        refine wi_iconst (x := 0) rfl rfl ?_
        refine wi_iret rfl (by decide) ?_
        refine wi_if_eq rfl (fun _ => ?_) (fun h9 => absurd (by decide) h9)
        refine wi_aload_n rfl rfl ?_
        refine wi_iload_n rfl rfl ?_
        refine wi_putI rfl (kd_28 ..) ?_
        refine wi_aload_n rfl rfl ?_
        refine wi_iconst (x := 3) rfl rfl ?_
        refine wi_putI rfl (kd_28 ..) ?_
        refine wi_ret rfl ?_
        refine wi_goto rfl ?_
        refine wi_ret rfl ?_
        exact hQ2 _ _ ((tkS_2 hk0 haw).trans (tk2_s hw (by omega))) (XR_28 (p9 := e) (by decide) hX (fun a ha => (u2_ne ha).trans (u2_ne ha)) rfl h5 rfl rfl rfl (fun _ => rfl) (fun h9 => (by cases h9)))
      · replace g1 := (not_congr (lt_n (a := S.tc (S.r - 1)) (b := 6) rfl (rfl : (6 : Int32) = Int32.ofNat 6) (by omega) (by omega))).mp g1
        refine wi_iconst (x := 1) rfl rfl ?_
        refine wi_goto rfl ?_
        refine wi_iret rfl (by decide) ?_
        refine wi_if_eq rfl (fun h9 => absurd h9 (by decide)) (fun _ => ?_)
        refine wi_aload_n rfl rfl ?_
        refine wi_iconst (x := 3) rfl rfl ?_
        refine wi_callV1 rfl (by decide) (by decide) rfl (kd_28 ..) rfl rfl rfl ?_
        refine wi_aload_n rfl rfl ?_
        refine wi_iload_n rfl rfl ?_
        refine wi_aload_n rfl rfl ?_
        refine wi_getIv (v := (Int32.ofNat (s))) rfl (kd_28 ..) h6 ?_
        refine wi_callV2 rfl (by decide) (by decide) rfl (kd_28 ..) rfl rfl rfl ?_
        refine wi_aload_n rfl rfl ?_
        refine wi_iload_n rfl rfl ?_
        refine wi_putI rfl (kd_28 ..) ?_
        refine wi_aload_n rfl rfl ?_
        refine wi_iload_n rfl rfl ?_
        refine wi_putI rfl (kd_28 ..) ?_
        refine wi_ret rfl ?_
        refine wi_ret rfl ?_
        refine wi_goto rfl ?_
        refine wi_ret rfl ?_
        refine wi_goto rfl ?_
        refine wi_ret rfl ?_
        exact hQ1 3 _ ((tkS_2 hk0 haw).trans (tk2_f hw (by omega))) (fun a a1 a2 => (u2_ne (by omega)).trans ((u2_ne (by omega)).trans (hX.1 a a1 a2))) h4 rfl rfl (by decide)
  · have h8 : mi 28 8 = 3 := by rw [h8', haw]; rfl
    have hrp := i4 (by omega)
    have h9t := hX.2.2.2.2.2.2.1 (Or.inl haw)
    refine wi_aload_n rfl rfl ?_
    refine wi_getIv (v := (Int32.ofNat (kd))) rfl (kd_28 ..) h7 ?_
    refine wi_if_ne rfl (fun _ => ?_) (fun h9 => absurd trivial (by exfalso; have h8 := (not_congr (ne_n (a := kd) (b := 0) rfl (rfl : (0 : Int32) = Int32.ofNat 0) (by omega) (by omega))).mp h9; omega))
    refine wi_aload_n rfl rfl ?_
    refine wi_getIv (v := (3 : Int32)) rfl (kd_28 ..) h8 ?_
    refine wi_tsw (t := 19) rfl rfl (by decide) rfl ?_
    refine wi_aload_n rfl rfl ?_
    refine wi_callV0 rfl (by decide) (by decide) rfl (kd_28 ..) rfl rfl rfl ?_
    refine wi_aload_n rfl rfl ?_
    refine wi_getIv (v := (Int32.ofNat (kd))) rfl (kd_28 ..) h7 ?_
    refine wi_bipush (x := 60) rfl rfl ?_
    refine wi_icmp_eq rfl (fun g1 => ?_) (fun g1 => ?_)
    · replace g1 := (eq_n (a := kd) (b := 60) rfl (rfl : (60 : Int32) = Int32.ofNat 60) (by omega) (by omega)).mp g1
      refine wi_aload_n rfl rfl ?_
      refine wi_aload_n rfl rfl ?_
      refine wi_getIv (v := (Int32.ofNat (kd))) rfl (kd_28 ..) h7 ?_
      refine wi_putI rfl (kd_28 ..) ?_
      refine wi_aload_n rfl rfl ?_
      refine wi_iconst (x := 4) rfl rfl ?_
      refine wi_putI rfl (kd_28 ..) ?_
      refine wi_goto rfl ?_
      refine wi_ret rfl ?_
      refine wi_goto rfl ?_
      refine wi_ret rfl ?_
      exact hQ2 _ _ ((tkS_3 hk0 haw).trans (if_pos (by omega))) (XR_28 (p9 := e) (by decide) hX (fun a ha => (u2_ne ha).trans (u2_ne ha)) rfl h5 rfl rfl rfl (fun _ => h9t) (fun _ => rfl))
    · replace g1 := (not_congr (eq_n (a := kd) (b := 60) rfl (rfl : (60 : Int32) = Int32.ofNat 60) (by omega) (by omega))).mp g1
      refine wi_aload_n rfl rfl ?_
      refine wi_getIv (v := (Int32.ofNat (kd))) rfl (kd_28 ..) h7 ?_
      refine wi_bipush (x := 62) rfl rfl ?_
      refine wi_icmp_eq rfl (fun g2 => ?_) (fun g2 => ?_)
      · replace g2 := (eq_n (a := kd) (b := 62) rfl (rfl : (62 : Int32) = Int32.ofNat 62) (by omega) (by omega)).mp g2
        refine wi_aload_n rfl rfl ?_
        refine wi_aload_n rfl rfl ?_
        refine wi_getIv (v := (Int32.ofNat (kd))) rfl (kd_28 ..) h7 ?_
        refine wi_putI rfl (kd_28 ..) ?_
        refine wi_aload_n rfl rfl ?_
        refine wi_iconst (x := 4) rfl rfl ?_
        refine wi_putI rfl (kd_28 ..) ?_
        refine wi_goto rfl ?_
        refine wi_ret rfl ?_
        refine wi_goto rfl ?_
        refine wi_ret rfl ?_
        exact hQ2 _ _ ((tkS_3 hk0 haw).trans (if_pos (by omega))) (XR_28 (p9 := e) (by decide) hX (fun a ha => (u2_ne ha).trans (u2_ne ha)) rfl h5 rfl rfl rfl (fun _ => h9t) (fun _ => rfl))
      · replace g2 := (not_congr (eq_n (a := kd) (b := 62) rfl (rfl : (62 : Int32) = Int32.ofNat 62) (by omega) (by omega))).mp g2
        refine wi_aload_n rfl rfl ?_
        refine wi_getIv (v := (Int32.ofNat (kd))) rfl (kd_28 ..) h7 ?_
        refine wi_bipush (x := 61) rfl rfl ?_
        refine wi_icmp_ne rfl (fun g3 => ?_) (fun g3 => ?_)
        · replace g3 := (ne_n (a := kd) (b := 61) rfl (rfl : (61 : Int32) = Int32.ofNat 61) (by omega) (by omega)).mp g3
          refine wi_aload_n rfl rfl ?_
          refine wi_iconst (x := 2) rfl rfl ?_
          refine wi_callV1 rfl (by decide) (by decide) rfl (kd_28 ..) rfl rfl rfl ?_
          refine wi_aload_n rfl rfl ?_
          refine wi_iload_n rfl rfl ?_
          refine wi_aload_n rfl rfl ?_
          refine wi_getIv (v := (Int32.ofNat (s))) rfl (kd_28 ..) h6 ?_
          refine wi_callV2 rfl (by decide) (by decide) rfl (kd_28 ..) rfl rfl rfl ?_
          refine wi_aload_n rfl rfl ?_
          refine wi_iload_n rfl rfl ?_
          refine wi_putI rfl (kd_28 ..) ?_
          refine wi_aload_n rfl rfl ?_
          refine wi_iload_n rfl rfl ?_
          refine wi_putI rfl (kd_28 ..) ?_
          refine wi_ret rfl ?_
          refine wi_ret rfl ?_
          refine wi_ret rfl ?_
          refine wi_goto rfl ?_
          refine wi_ret rfl ?_
          exact hQ1 2 _ ((tkS_3 hk0 haw).trans (if_neg (by omega))) (fun a a1 a2 => (u2_ne (by omega)).trans ((u2_ne (by omega)).trans (hX.1 a a1 a2))) h4 rfl rfl (by decide)
        · replace g3 := (not_congr (ne_n (a := kd) (b := 61) rfl (rfl : (61 : Int32) = Int32.ofNat 61) (by omega) (by omega))).mp g3
          refine wi_aload_n rfl rfl ?_
          refine wi_aload_n rfl rfl ?_
          refine wi_getIv (v := (Int32.ofNat (kd))) rfl (kd_28 ..) h7 ?_
          refine wi_putI rfl (kd_28 ..) ?_
          refine wi_aload_n rfl rfl ?_
          refine wi_iconst (x := 4) rfl rfl ?_
          refine wi_putI rfl (kd_28 ..) ?_
          refine wi_goto rfl ?_
          refine wi_ret rfl ?_
          refine wi_goto rfl ?_
          refine wi_ret rfl ?_
          exact hQ2 _ _ ((tkS_3 hk0 haw).trans (if_pos (by omega))) (XR_28 (p9 := e) (by decide) hX (fun a ha => (u2_ne ha).trans (u2_ne ha)) rfl h5 rfl rfl rfl (fun _ => h9t) (fun _ => rfl))
  · have h8 : mi 28 8 = 4 := by rw [h8', haw]; rfl
    have hrp := i4 (by omega)
    have htc := (hbk (S.r - 1) (by omega)).1
    have htb := (i5 (Or.inr haw)).2
    have h9t := hX.2.2.2.2.2.2.1 (Or.inr haw)
    have h10t := hX.2.2.2.2.2.2.2.1 haw
    refine wi_aload_n rfl rfl ?_
    refine wi_getIv (v := (Int32.ofNat (kd))) rfl (kd_28 ..) h7 ?_
    refine wi_if_ne rfl (fun _ => ?_) (fun h9 => absurd trivial (by exfalso; have h8 := (not_congr (ne_n (a := kd) (b := 0) rfl (rfl : (0 : Int32) = Int32.ofNat 0) (by omega) (by omega))).mp h9; omega))
    refine wi_aload_n rfl rfl ?_
    refine wi_getIv (v := (4 : Int32)) rfl (kd_28 ..) h8 ?_
    refine wi_tsw (t := 22) rfl rfl (by decide) rfl ?_
    refine wi_aload_n rfl rfl ?_
    refine wi_callV0 rfl (by decide) (by decide) rfl (kd_28 ..) rfl rfl rfl ?_
    refine wi_aload_n rfl rfl ?_
    refine wi_getIv (v := (Int32.ofNat (kd))) rfl (kd_28 ..) h7 ?_
    refine wi_iconst (x := 2) rfl rfl ?_
    refine wi_icmp_ne rfl (fun g1 => ?_) (fun g1 => ?_)
    · replace g1 := (ne_n (a := kd) (b := 2) rfl (rfl : (2 : Int32) = Int32.ofNat 2) (by omega) (by omega)).mp g1
      refine wi_aload_n rfl rfl ?_
      refine wi_iconst (x := 2) rfl rfl ?_
      refine wi_callV1 rfl (by decide) (by decide) rfl (kd_28 ..) rfl rfl rfl ?_
      refine wi_aload_n rfl rfl ?_
      refine wi_iload_n rfl rfl ?_
      refine wi_aload_n rfl rfl ?_
      refine wi_getIv (v := (Int32.ofNat (s))) rfl (kd_28 ..) h6 ?_
      refine wi_callV2 rfl (by decide) (by decide) rfl (kd_28 ..) rfl rfl rfl ?_
      refine wi_aload_n rfl rfl ?_
      refine wi_iload_n rfl rfl ?_
      refine wi_putI rfl (kd_28 ..) ?_
      refine wi_aload_n rfl rfl ?_
      refine wi_iload_n rfl rfl ?_
      refine wi_putI rfl (kd_28 ..) ?_
      refine wi_ret rfl ?_
      refine wi_ret rfl ?_
      refine wi_ret rfl ?_
      refine wi_goto rfl ?_
      refine wi_ret rfl ?_
      exact hQ1 2 _ ((tkS_4 hk0 haw).trans (if_neg (by omega))) (fun a a1 a2 => (u2_ne (by omega)).trans ((u2_ne (by omega)).trans (hX.1 a a1 a2))) h4 rfl rfl (by decide)
    · replace g1 := (not_congr (ne_n (a := kd) (b := 2) rfl (rfl : (2 : Int32) = Int32.ofNat 2) (by omega) (by omega))).mp g1
      refine wi_aload_n rfl rfl ?_
      refine wi_getR rfl (kd_28 ..) (rd_28_3 false) ?_
      refine wi_aload_n rfl rfl ?_
      refine wi_getIv (v := (Int32.ofNat (S.tw))) rfl (kd_28 ..) h9t ?_
      refine wi_aload_n rfl rfl ?_
      refine wi_getIv (v := (Int32.ofNat (S.ts))) rfl (kd_28 ..) h10t ?_
      refine wi_aload_n rfl rfl ?_
      refine wi_callV0 rfl (by decide) (by decide) rfl (kd_28 ..) rfl rfl rfl (c_num hcnt hN hT h26 h27 h5 h6 hse heN (hd3 (by omega)) (hdg (by omega)) ?_)
      refine wi_callV3 rfl (by decide) (by decide) rfl (kd_31 ..) rfl rfl rfl ?_
      refine wi_aload_n rfl rfl ?_
      refine wi_getIv (v := (Int32.ofNat (S.r))) rfl (kd_31 ..) hrr ?_
      refine wi_if_le rfl (fun h9 => absurd trivial (by exfalso; have h8 := (le_n (a := S.r) (b := 0) rfl (rfl : (0 : Int32) = Int32.ofNat 0) (by omega) (by omega)).mp h9; omega)) (fun _ => ?_)
      refine wi_aload_n rfl rfl ?_
      refine wi_callV0 rfl (by decide) (by decide) rfl (kd_31 ..) rfl rfl rfl ?_
      refine wi_aload_n rfl rfl ?_
      refine wi_getIv (v := (Int32.ofNat (S.r))) rfl (kd_31 ..) hrr ?_
      refine wi_if_le rfl (fun h9 => absurd trivial (by exfalso; have h8 := (le_n (a := S.r) (b := 0) rfl (rfl : (0 : Int32) = Int32.ofNat 0) (by omega) (by omega)).mp h9; omega)) (fun _ => ?_)
      refine wi_aload_n rfl rfl ?_
      refine wi_getR rfl (kd_31 ..) (rd_31_0 _) ?_
      refine wi_aload_n rfl rfl ?_
      refine wi_getIv (v := (Int32.ofNat (S.r))) rfl (kd_31 ..) hrr ?_
      refine wi_iconst (x := 1) rfl rfl ?_
      refine wn_isub (z := (Int32.ofNat (S.r - 1))) rfl (sub_n (a := S.r) (b := 1) rfl (rfl : (1 : Int32) = Int32.ofNat 1) (by omega)) ?_
      refine wn_iaload (q := S.r - 1) (v := (Int32.ofNat (S.tc (S.r - 1)))) rfl (ln_32 ..) rfl (by omega) (by decide) (by decide) (by decide) htc ?_
      refine wi_bipush (x := 6) rfl rfl ?_
      refine wi_icmp_lt rfl (fun _ => ?_) (fun h9 => absurd trivial (by exfalso; have h8 := (not_congr (lt_n (a := S.tc (S.r - 1)) (b := 6) rfl (rfl : (6 : Int32) = Int32.ofNat 6) (by omega) (by omega))).mp h9; omega))
      refine wi_iconst (x := 0) rfl rfl ?_
      refine wi_iret rfl (by decide) ?_
      refine wi_if_ne rfl (fun h9 => absurd h9 (by decide)) (fun _ => ?_)
      refine wi_aload_n rfl rfl ?_
      refine wi_getIv (v := (Int32.ofNat (S.r))) rfl (kd_31 ..) hrr ?_
      refine wi_iconst (x := 1) rfl rfl ?_
      refine wn_isub (z := (Int32.ofNat (S.r - 1))) rfl (sub_n (a := S.r) (b := 1) rfl (rfl : (1 : Int32) = Int32.ofNat 1) (by omega)) ?_
      refine wi_istore (l' := [.ref 31, .int (Int32.ofNat (S.tw)), .int (Int32.ofNat (S.ts)), .int (Int32.ofNat (nmR T s (e - s))), .int (Int32.ofNat (S.r - 1)), .retAddr 0]) rfl (Nat.le_of_ble_eq_true rfl) rfl rfl ?_
      refine wi_aload_n rfl rfl ?_
      refine wi_getR rfl (kd_31 ..) (rd_31_0 _) ?_
      refine wi_iload rfl rfl ?_
      refine wn_iaload (q := S.r - 1) (v := (Int32.ofNat (S.tc (S.r - 1)))) rfl (ln_32 ..) rfl (by omega) (by decide) (by decide) (by decide) htc ?_
      refine wi_istore (l' := [.ref 31, .int (Int32.ofNat (S.tw)), .int (Int32.ofNat (S.ts)), .int (Int32.ofNat (nmR T s (e - s))), .int (Int32.ofNat (S.r - 1)), .int (Int32.ofNat (S.tc (S.r - 1)))]) rfl (Nat.le_of_ble_eq_true rfl) rfl rfl ?_
      refine wi_aload_n rfl rfl ?_
      refine wi_getR rfl (kd_31 ..) (rd_31_1 _) ?_
      refine wi_iload rfl rfl ?_
      refine wn_aaload (q := S.r - 1) rfl (Or.inr (ln_33 ..)) rfl (by omega) (by decide) (ra_33 _ _ (by omega)) ?_
      refine wi_iload rfl rfl ?_
      refine wi_iload_n rfl rfl ?_
      refine wn_iastore (q := S.tc (S.r - 1)) rfl (lr_33 (by omega) ..) rfl (by omega) (by decide) ?_
      refine wi_aload_n rfl rfl ?_
      refine wi_getR rfl (kd_31 ..) (rd_31_2 _) ?_
      refine wi_iload rfl rfl ?_
      refine wn_aaload (q := S.r - 1) rfl (Or.inr (ln_42 ..)) rfl (by omega) (by decide) (ra_42 _ _ (by omega)) ?_
      refine wi_iload rfl rfl ?_
      refine wi_iload_n rfl rfl ?_
      refine wn_iastore (q := S.tc (S.r - 1)) rfl (lr_42 (by omega) ..) rfl (by omega) (by decide) ?_
      refine wi_aload_n rfl rfl ?_
      refine wi_getR rfl (kd_31 ..) (rd_31_3 _) ?_
      refine wi_iload rfl rfl ?_
      refine wn_aaload (q := S.r - 1) rfl (Or.inr (ln_51 ..)) rfl (by omega) (by decide) (ra_51 _ _ (by omega)) ?_
      refine wi_iload rfl rfl ?_
      refine wi_iload_n rfl rfl ?_
      refine wn_iastore (q := S.tc (S.r - 1)) rfl (lr_51 (by omega) ..) rfl (by omega) (by decide) ?_
      refine wi_aload_n rfl rfl ?_
      refine wi_getR rfl (kd_31 ..) (rd_31_0 _) ?_
      refine wi_iload rfl rfl ?_
      refine wi_dup2 rfl ⟨rfl, rfl⟩ ?_
      refine wn_iaload (q := S.r - 1) (v := Int32.ofNat (S.tc (S.r - 1))) rfl (ln_32 ..) rfl (by omega) (by decide) (by decide) (by decide) (by rw [u2_ne (by omega), u2_ne (by omega), u2_ne (by omega)]; exact htc) ?_
      refine wi_iconst (x := 1) rfl rfl ?_
      refine wn_iadd (z := (Int32.ofNat (S.tc (S.r - 1) + 1))) rfl (add_n (a := S.tc (S.r - 1)) (b := 1) rfl (rfl : (1 : Int32) = Int32.ofNat 1)) ?_
      refine wn_iastore (q := S.r - 1) rfl (ln_32 ..) rfl (by omega) (by decide) ?_
      refine wi_ret rfl ?_
      refine wi_aload_n rfl rfl ?_
      refine wi_iconst (x := 5) rfl rfl ?_
      refine wi_putI rfl (kd_28 ..) ?_
      refine wi_goto rfl ?_
      refine wi_ret rfl ?_
      refine wi_goto rfl ?_
      refine wi_ret rfl ?_
      exact hQ2 _ _ ((tkS_4 hk0 haw).trans (if_pos (by omega))) (XR_test (Or.inl rfl) hX (by omega) (by omega) rfl)
  · have h8 : mi 28 8 = 5 := by rw [h8', haw]; rfl
    have hrp := i4 (by omega)
    refine wi_aload_n rfl rfl ?_
    refine wi_getIv (v := (Int32.ofNat (kd))) rfl (kd_28 ..) h7 ?_
    refine wi_if_ne rfl (fun _ => ?_) (fun h9 => absurd trivial (by exfalso; have h8 := (not_congr (ne_n (a := kd) (b := 0) rfl (rfl : (0 : Int32) = Int32.ofNat 0) (by omega) (by omega))).mp h9; omega))
    refine wi_aload_n rfl rfl ?_
    refine wi_getIv (v := (5 : Int32)) rfl (kd_28 ..) h8 ?_
    refine wi_tswD rfl rfl (by decide) ?_
    refine wi_aload_n rfl rfl ?_
    refine wi_callV0 rfl (by decide) (by decide) rfl (kd_28 ..) rfl rfl rfl ?_
    refine wi_aload_n rfl rfl ?_
    refine wi_getIv (v := (Int32.ofNat (kd))) rfl (kd_28 ..) h7 ?_
    refine wi_bipush (x := 59) rfl rfl ?_
    refine wi_icmp_ne rfl (fun g1 => ?_) (fun g1 => ?_)
    · replace g1 := (ne_n (a := kd) (b := 59) rfl (rfl : (59 : Int32) = Int32.ofNat 59) (by omega) (by omega)).mp g1
      refine wi_aload_n rfl rfl ?_
      refine wi_ldc (a := 1000009) rfl rfl ?_
      refine wi_callV1 rfl (by decide) (by decide) rfl (kd_28 ..) rfl rfl rfl (c_tokIs9 hcnt hN hT h26 h27 h5 h6 hse heN h7 hkd rfl ?_)
      refine wi_if_eq rfl (fun g2 => ?_) (fun g2 => ?_)
      · skip
        refine wi_aload_n rfl rfl ?_
        refine wi_iconst (x := 2) rfl rfl ?_
        refine wi_callV1 rfl (by decide) (by decide) rfl (kd_28 ..) rfl rfl rfl ?_
        refine wi_aload_n rfl rfl ?_
        refine wi_iload_n rfl rfl ?_
        refine wi_aload_n rfl rfl ?_
        refine wi_getIv (v := (Int32.ofNat (s))) rfl (kd_28 ..) h6 ?_
        refine wi_callV2 rfl (by decide) (by decide) rfl (kd_28 ..) rfl rfl rfl ?_
        refine wi_aload_n rfl rfl ?_
        refine wi_iload_n rfl rfl ?_
        refine wi_putI rfl (kd_28 ..) ?_
        refine wi_aload_n rfl rfl ?_
        refine wi_iload_n rfl rfl ?_
        refine wi_putI rfl (kd_28 ..) ?_
        refine wi_ret rfl ?_
        refine wi_ret rfl ?_
        refine wi_ret rfl ?_
        refine wi_ret rfl ?_
        exact hQ1 2 _ ((tkS_5 hk0 haw).trans ((if_neg (by omega)).trans (if_neg (of_decide_eq_false (bI_z g2))))) (fun a a1 a2 => (u2_ne (by omega)).trans ((u2_ne (by omega)).trans (hX.1 a a1 a2))) h4 rfl rfl (by decide)
      · skip
        refine wi_aload_n rfl rfl ?_
        refine wi_iconst (x := 2) rfl rfl ?_
        refine wi_putI rfl (kd_28 ..) ?_
        refine wi_goto rfl ?_
        refine wi_ret rfl ?_
        refine wi_ret rfl ?_
        exact hQ2 _ _ ((tkS_5 hk0 haw).trans ((if_neg (by omega)).trans (if_pos (of_decide_eq_true (bI_nz g2))))) (XR_28 (p9 := e) (by decide) hX (fun a ha => u2_ne ha) rfl h5 rfl rfl rfl (fun h9 => (by rcases h9 with h9 | h9 <;> cases h9)) (fun h9 => (by cases h9)))
    · replace g1 := (not_congr (ne_n (a := kd) (b := 59) rfl (rfl : (59 : Int32) = Int32.ofNat 59) (by omega) (by omega))).mp g1
      refine wi_aload_n rfl rfl ?_
      refine wi_iconst (x := 0) rfl rfl ?_
      refine wi_putI rfl (kd_28 ..) ?_
      refine wi_goto rfl ?_
      refine wi_ret rfl ?_
      refine wi_ret rfl ?_
      exact hQ2 _ _ ((tkS_5 hk0 haw).trans (if_pos (by omega))) (XR_28 (p9 := e) (by decide) hX (fun a ha => u2_ne ha) rfl h5 rfl rfl rfl (fun h9 => (by rcases h9 with h9 | h9 <;> cases h9)) (fun h9 => (by cases h9)))
def bkX (B : Nat) (E : rgS) (mi : Nat → Nat → Int32) : Prop := mi B 4 = Int32.ofNat E.r ∧ ∀ i, i < E.r → mi (B + 1) i = Int32.ofNat (E.tc i) ∧ ∀ k, k < E.tc i → mi (B + 3 + i) k = Int32.ofNat (E.fa i k) ∧ mi (B + 12 + i) k = Int32.ofNat (E.fs i k) ∧ mi (B + 21 + i) k = Int32.ofNat (E.fn i k)
def poX (B : Nat) (mi0 : Nat → Nat → Int32) (fk fp : Nat) (E : rgS) (mi : Nat → Nat → Int32) : Prop := (∀ a, (a < 28 ∨ 31 ≤ a) → (a < B ∨ B + 29 ≤ a) → mi a = mi0 a) ∧ mi 28 11 = Int32.ofNat fk ∧ (fk = 0 → mi 28 12 = -1) ∧ (fk ≠ 0 → mi 28 12 = Int32.ofNat fp) ∧ (fk = 0 → bkX B E mi)
theorem kdt_2 {s : Nat} (h : kdT T N s = 2) (hs : s < N) : enT T N s - s ≤ 3 ∧ ∀ k, s ≤ k → k < enT T N s → isD (T k) = true := by
  unfold kdT at h
  by_cases h1 : isL (T s) = true
  · rw [if_pos h1] at h; cases h
  · rw [if_neg h1] at h
    by_cases h2 : isD (T s) = true
    · rw [if_pos h2] at h
      have he : enT T N s = rn T N isD s := (if_neg h1).trans (if_pos h2)
      by_cases h3 : rn T N isD s - s ≤ 3
      · rw [he]
        exact ⟨h3, (rn_b (T := T) (N := N) (pr := isD) (p := s) (by omega)).2.2.2⟩
      · rw [if_neg h3] at h; cases h
    · rw [if_neg h2] at h
      by_cases h3 : isG (T s) = true
      · rw [if_pos h3] at h
        rw [h] at h3
        exact absurd h3 (by decide)
      · rw [if_neg h3] at h; cases h
theorem tk_k {S : rgS} {s e kd k : Nat} (h : tkS T S s e kd = .inl k) : k < 2147483648 := by
  have aux : ∀ {x : Nat ⊕ rgS}, x = .inl k → (x = .inl 1 ∨ x = .inl 2 ∨ x = .inl 3 ∨ x = .inl 4 ∨ ∃ y, x = .inr y) → k < 2147483648 := fun hx hc => by
    rcases hc with h1 | h1 | h1 | h1 | ⟨y, h1⟩
    all_goals
      rw [h1] at hx
      cases hx
    all_goals omega
  refine aux h ?_
  unfold tkS
  split
  · exact Or.inl rfl
  split
  · unfold tk0
    split
    · exact Or.inr (Or.inl rfl)
    split
    · exact Or.inr (Or.inr (Or.inl rfl))
    split
    · exact Or.inr (Or.inr (Or.inr (Or.inl rfl)))
    · exact Or.inr (Or.inr (Or.inr (Or.inr ⟨_, rfl⟩)))
  split
  · unfold tk1
    split
    · exact Or.inr (Or.inr (Or.inr (Or.inr ⟨_, rfl⟩)))
    · exact Or.inr (Or.inl rfl)
  split
  · unfold tk2
    split
    · exact Or.inr (Or.inl rfl)
    · split
      · exact Or.inr (Or.inr (Or.inl rfl))
      · exact Or.inr (Or.inr (Or.inr (Or.inr ⟨_, rfl⟩)))
  split
  · unfold tk3
    split
    · exact Or.inr (Or.inr (Or.inr (Or.inr ⟨_, rfl⟩)))
    · exact Or.inr (Or.inl rfl)
  split
  · unfold tk4
    split
    · exact Or.inr (Or.inr (Or.inr (Or.inr ⟨_, rfl⟩)))
    · exact Or.inr (Or.inl rfl)
  · unfold tk5
    split
    · exact Or.inr (Or.inr (Or.inr (Or.inr ⟨_, rfl⟩)))
    split
    · exact Or.inr (Or.inr (Or.inr (Or.inr ⟨_, rfl⟩)))
    · exact Or.inr (Or.inl rfl)
theorem ra_true {n9 : Int32} {mi0 : Nat → Nat → Int32} (hcnt : cnt ≤ 400) (hN : N ≤ cnt) (hT : ∀ k, T k < 256) (m26 : mi0 26 1 = Int32.ofNat cnt) (m27 : ∀ k, k < cnt → mi0 27 k = Int32.ofNat (T k)) : ∀ z (S : rgS) (tn : Nat) (mi1 : Nat → Nat → Int32) (Q : Option Value → am_M → Prop), N - S.p < z → tn ≤ S.p → inS T N S → XR 97 N mi0 S.p S mi1 → (∀ fk fp E mi2, runS T N S fk fp E → (fk = 0 → inS T N E) → poX 97 mi0 fk fp E mi2 → Q (some (.int (bI (decide (fk = 0))))) (am_shT, mrL true, mi2, ml)) → am_wp X (d + 5) 38 20 [.ref 28, .int n9, .int (Int32.ofNat (tn))] [] (am_shT, mrL true, mi1, ml) Q := by
  intro z
  induction z with
  | zero => intro S tn mi1 Q hz; omega
  | succ z ih =>
    intro S tn mi1 Q hz htn hin hX hQ
    have hp1 := hin.1
    have h11 : mi1 28 11 = 0 := hX.2.2.2.2.1
    have h4 := hX.2.1
    have h5 := hX.2.2.1
    have h26 : mi1 26 1 = Int32.ofNat cnt := by rw [hX.1 26 (by decide) (by decide)]; exact m26
    have h27 : ∀ k, k < cnt → mi1 27 k = Int32.ofNat (T k) := by rw [hX.1 27 (by decide) (by decide)]; exact m27
    refine wi_iload_n rfl rfl ?_
    refine wi_sipush (x := 400) rfl rfl ?_
    refine wi_icmp_gt rfl (fun h9 => absurd trivial (by exfalso; have h8 := (lt_n (a := 400) (b := tn) (rfl : (400 : Int32) = Int32.ofNat 400) rfl (by omega) (by omega)).mp h9; omega)) (fun _ => ?_)
    refine wi_aload_n rfl rfl ?_
    refine wi_getIv (v := (0 : Int32)) rfl (kd_28 ..) h11 ?_
    refine wi_if_ne rfl (fun h9 => absurd h9 (by decide)) (fun _ => ?_)
    refine wi_aload_n rfl rfl ?_
    refine wi_callV0 rfl (by decide) (by decide) rfl (kd_28 ..) rfl rfl rfl (c_nextTok hcnt hN hT h26 h27 h4 h5 hp1 rfl (fun hsN mi2 k1 k2 => ?_) (fun hsN mi2 k1 k2 k3 k4 k5 => ?_))
    · have e11 : mi2 28 11 = 0 := by rw [k2 11 (by decide) (by decide) (by decide)]; exact h11
      have e12 : mi2 28 12 = -1 := by rw [k2 12 (by decide) (by decide) (by decide)]; exact hX.2.2.2.2.2.1
      have e4 : mi2 28 4 = Int32.ofNat N := by rw [k2 4 (by decide) (by decide) (by decide)]; exact h4
      have e8' : mi2 28 8 = Int32.ofNat S.aw := by rw [k2 8 (by decide) (by decide) (by decide)]; exact hX.2.2.2.1
      by_cases haw : S.aw = 0
      · have e8 : mi2 28 8 = 0 := by rw [e8', haw]; rfl
        refine wi_if_eq rfl (fun _ => ?_) (fun h9 => absurd (by decide) h9)
        refine wi_aload_n rfl rfl ?_
        refine wi_getIv (v := (0 : Int32)) rfl (kd_28 ..) e11 ?_
        refine wi_if_ne rfl (fun h9 => absurd h9 (by decide)) (fun _ => ?_)
        refine wi_aload_n rfl rfl ?_
        refine wi_getIv (v := (0 : Int32)) rfl (kd_28 ..) e8 ?_
        refine wi_if_eq rfl (fun _ => ?_) (fun h9 => absurd (by decide) h9)
        refine wi_aload_n rfl rfl ?_
        refine wi_getIv (v := (0 : Int32)) rfl (kd_28 ..) e11 ?_
        refine wi_if_ne rfl (fun h9 => absurd h9 (by decide)) (fun _ => ?_)
        refine wi_iconst (x := 1) rfl rfl ?_
        refine wi_goto rfl ?_
        refine wi_iret rfl (by decide) ?_
        exact hQ 0 0 S mi2 (runS.fin S hsN haw) (fun _ => hin) ⟨fun a a1 a2 => (k1 a (by omega)).trans (hX.1 a a1 a2), e11, fun _ => e12, fun h9 => absurd rfl h9, fun _ => ⟨by rw [k1 97 (by decide)]; exact hX.2.2.2.2.2.2.2.2.1, fun i hi => by rw [k1 (97 + 1) (by decide), k1 (97 + 3 + i) (by omega), k1 (97 + 12 + i) (by omega), k1 (97 + 21 + i) (by omega)]; exact ⟨(hX.2.2.2.2.2.2.2.2.2 i hi).1, (hX.2.2.2.2.2.2.2.2.2 i hi).2.2.2⟩⟩⟩
      · have e8 := e8'
        have haw5 := hin.2.2.1
        refine wi_if_eq rfl (fun _ => ?_) (fun h9 => absurd (by decide) h9)
        refine wi_aload_n rfl rfl ?_
        refine wi_getIv (v := (0 : Int32)) rfl (kd_28 ..) e11 ?_
        refine wi_if_ne rfl (fun h9 => absurd h9 (by decide)) (fun _ => ?_)
        refine wi_aload_n rfl rfl ?_
        refine wi_getIv (v := (Int32.ofNat (S.aw))) rfl (kd_28 ..) e8 ?_
        refine wi_if_eq rfl (fun h9 => absurd trivial (by exfalso; have h8 := (eq_n (a := S.aw) (b := 0) rfl (rfl : (0 : Int32) = Int32.ofNat 0) (by omega) (by omega)).mp h9; omega)) (fun _ => ?_)
        refine wi_aload_n rfl rfl ?_
        refine wi_iconst (x := 2) rfl rfl ?_
        refine wi_aload_n rfl rfl ?_
        refine wi_getIv (v := (Int32.ofNat (N))) rfl (kd_28 ..) e4 ?_
        refine wi_callV2 rfl (by decide) (by decide) rfl (kd_28 ..) rfl rfl rfl ?_
        refine wi_aload_n rfl rfl ?_
        refine wi_iload_n rfl rfl ?_
        refine wi_putI rfl (kd_28 ..) ?_
        refine wi_aload_n rfl rfl ?_
        refine wi_iload_n rfl rfl ?_
        refine wi_putI rfl (kd_28 ..) ?_
        refine wi_ret rfl ?_
        refine wi_aload_n rfl rfl ?_
        refine wi_getIv (v := (2 : Int32)) rfl (kd_28 ..) rfl ?_
        refine wi_if_ne rfl (fun _ => ?_) (fun h9 => absurd (by decide) h9)
        refine wi_iconst (x := 0) rfl rfl ?_
        refine wi_iret rfl (by decide) ?_
        exact hQ 2 N S _ (runS.eba S hsN haw) (fun h9 => by cases h9) ⟨fun a a1 a2 => (u2_ne (by omega)).trans ((u2_ne (by omega)).trans ((k1 a (by omega)).trans (hX.1 a a1 a2))), rfl, fun h9 => (by cases h9), fun _ => rfl, fun h9 => (by cases h9)⟩
    · have heb := en_b (T := T) hsN
      have g26 : mi2 26 1 = Int32.ofNat cnt := by rw [k1 26 (by decide)]; exact h26
      have g27 : ∀ k, k < cnt → mi2 27 k = Int32.ofNat (T k) := by rw [k1 27 (by decide)]; exact h27
      have hX2 : XR 97 N mi0 (enT T N (rn T N isB S.p)) S mi2 := by
        have h9 := XR_28 (aw := S.aw) (tw := S.tw) (ts := S.ts) (p9 := S.p) (by decide) hX k1 (k2 4 (by decide) (by decide) (by decide)) k3 (by rw [k2 8 (by decide) (by decide) (by decide)]; exact hX.2.2.2.1) (k2 11 (by decide) (by decide) (by decide)) (k2 12 (by decide) (by decide) (by decide)) (fun h9 => by rw [k2 9 (by decide) (by decide) (by decide)]; exact hX.2.2.2.2.2.2.1 h9) (fun h9 => by rw [k2 10 (by decide) (by decide) (by decide)]; exact hX.2.2.2.2.2.2.2.1 h9)
        exact h9
      have hrs := rn_b (T := T) (N := N) (pr := isB) (p := S.p) hp1
      refine wi_if_eq rfl (fun h9 => absurd h9 (by decide)) (fun _ => ?_)
      refine wi_aload_n rfl rfl ?_
      refine wi_callV0 rfl (by decide) (by decide) rfl (kd_28 ..) rfl rfl rfl (c_take_true (mi0 := mi0) (S := S) hcnt hN hT g26 g27 k3 k4 heb.1 heb.2 k5 (kd_b (hT _)) (fun h9 => (kdt_2 h9 hsN).1) (fun h9 => (kdt_2 h9 hsN).2) hX2 hin (fun k mi3 t1 t2 t3 t4 t5 t6 => ?_) (fun S' mi3 t1 t2 => ?_))
      · have hQ' := hQ
        have hk9 : k < 2147483648 := by
          by_cases h9 : tkS T S (rn T N isB S.p) (enT T N (rn T N isB S.p)) (kdT T N (rn T N isB S.p)) = .inl k
          · exact tk_k h9
          · exact absurd t1 h9
        refine wi_iinc (z := (Int32.ofNat (tn + 1))) rfl rfl rfl (add_n (a := tn) (b := 1) rfl rfl) rfl ?_
        refine wi_goto rfl ?_
        skip
        refine wi_iload_n rfl rfl ?_
        refine wi_sipush (x := 400) rfl rfl ?_
        refine wi_icmp_gt rfl (fun g1 => ?_) (fun g1 => ?_)
        · replace g1 := (lt_n (a := 400) (b := tn + 1) (rfl : (400 : Int32) = Int32.ofNat 400) rfl (by omega) (by omega)).mp g1
          refine wi_aload_n rfl rfl ?_
          refine wi_getIv (v := (Int32.ofNat (k))) rfl (kd_28 ..) t4 ?_
          refine wi_if_ne rfl (fun _ => ?_) (fun h9 => absurd trivial (by exfalso; have h8 := (not_congr (ne_n (a := k) (b := 0) rfl (rfl : (0 : Int32) = Int32.ofNat 0) (by omega) (by omega))).mp h9; omega))
          refine wi_aload_n rfl rfl ?_
          refine wi_getIv (v := (Int32.ofNat (k))) rfl (kd_28 ..) t4 ?_
          refine wi_if_ne rfl (fun _ => ?_) (fun h9 => absurd trivial (by exfalso; have h8 := (not_congr (ne_n (a := k) (b := 0) rfl (rfl : (0 : Int32) = Int32.ofNat 0) (by omega) (by omega))).mp h9; omega))
          refine wi_iconst (x := 0) rfl rfl ?_
          refine wi_iret rfl (by decide) ?_
          have h8 := hQ' k (rn T N isB S.p) S mi3 (runS.bad S k hsN t1) (fun h9 => absurd h9 t6) ⟨t2, t4, fun h9 => absurd h9 t6, fun _ => t5, fun h9 => absurd h9 t6⟩
          rw [decide_eq_false t6] at h8
          exact h8
        · replace g1 := (not_congr (lt_n (a := 400) (b := tn + 1) (rfl : (400 : Int32) = Int32.ofNat 400) rfl (by omega) (by omega))).mp g1
          refine wi_aload_n rfl rfl ?_
          refine wi_getIv (v := (Int32.ofNat (k))) rfl (kd_28 ..) t4 ?_
          refine wi_if_ne rfl (fun _ => ?_) (fun h9 => absurd trivial (by exfalso; have h8 := (not_congr (ne_n (a := k) (b := 0) rfl (rfl : (0 : Int32) = Int32.ofNat 0) (by omega) (by omega))).mp h9; omega))
          refine wi_aload_n rfl rfl ?_
          refine wi_getIv (v := (Int32.ofNat (k))) rfl (kd_28 ..) t4 ?_
          refine wi_if_ne rfl (fun _ => ?_) (fun h9 => absurd trivial (by exfalso; have h8 := (not_congr (ne_n (a := k) (b := 0) rfl (rfl : (0 : Int32) = Int32.ofNat 0) (by omega) (by omega))).mp h9; omega))
          refine wi_aload_n rfl rfl ?_
          refine wi_getIv (v := (Int32.ofNat (k))) rfl (kd_28 ..) t4 ?_
          refine wi_if_ne rfl (fun _ => ?_) (fun h9 => absurd trivial (by exfalso; have h8 := (not_congr (ne_n (a := k) (b := 0) rfl (rfl : (0 : Int32) = Int32.ofNat 0) (by omega) (by omega))).mp h9; omega))
          refine wi_iconst (x := 0) rfl rfl ?_
          refine wi_iret rfl (by decide) ?_
          have h8 := hQ' k (rn T N isB S.p) S mi3 (runS.bad S k hsN t1) (fun h9 => absurd h9 t6) ⟨t2, t4, fun h9 => absurd h9 t6, fun _ => t5, fun h9 => absurd h9 t6⟩
          rw [decide_eq_false t6] at h8
          exact h8
      · obtain ⟨j1, j2⟩ := tk_inv (fun k _ => hT k) hin hsN t1
        refine wi_iinc (z := (Int32.ofNat (tn + 1))) rfl rfl rfl (add_n (a := tn) (b := 1) rfl rfl) rfl ?_
        refine wi_goto rfl ?_
        rw [← j2] at t2
        exact ih S' (tn + 1) mi3 Q (by omega) (by omega) j1 t2 (fun fk fp E mi4 r1 r2 r3 => hQ fk fp E mi4 (runS.stp S S' E fk fp hsN t1 r1) r2 r3)
def S0 : rgS := ⟨0, 0, 0, 0, 0, fun _ => 0, fun _ => 0, fun _ => 0, fun _ _ => 0, fun _ _ => 0, fun _ _ => 0⟩
theorem S0_in : inS T N S0 := ⟨Nat.zero_le _, Nat.zero_le _, Nat.zero_le _, fun h => absurd rfl h, fun h => (by rcases h with h | h <;> cases h), fun h => (by cases h), fun i hi => absurd hi (Nat.not_lt_zero _)⟩
theorem c_readAll_true {mi : Nat → Nat → Int32} (hcnt : cnt ≤ 400) (hN : N ≤ cnt) (hT : ∀ k, T k < 256) (h26 : mi 26 1 = Int32.ofNat cnt) (h27 : ∀ k, k < cnt → mi 27 k = Int32.ofNat (T k)) (hQ : ∀ fk fp E mi2, runS T N S0 fk fp E → (fk = 0 → inS T N E) → poX 97 mi fk fp E mi2 → Q (some (.int (bI (decide (fk = 0))))) (am_shT, mrL true, mi2, ml)) : am_wp X (d + 5) 38 0 [.ref 28, .int (Int32.ofNat N), .retAddr 0] [] (am_shT, mrL true, mi, ml) Q := by
  refine wi_aload_n rfl rfl ?_
  refine wi_iload_n rfl rfl ?_
  refine wi_putI rfl (kd_28 ..) ?_
  refine wi_aload_n rfl rfl ?_
  refine wi_getR rfl (kd_28 ..) (rd_28_3 true) ?_
  refine wi_callV0 rfl (by decide) (by decide) rfl (kd_97 ..) rfl rfl rfl ?_
  refine wi_aload_n rfl rfl ?_
  refine wi_iconst (x := 0) rfl rfl ?_
  refine wi_putI rfl (kd_97 ..) ?_
  refine wi_ret rfl ?_
  refine wi_aload_n rfl rfl ?_
  refine wi_iconst (x := 0) rfl rfl ?_
  refine wi_putI rfl (kd_28 ..) ?_
  refine wi_aload_n rfl rfl ?_
  refine wi_iconst (x := 0) rfl rfl ?_
  refine wi_putI rfl (kd_28 ..) ?_
  refine wi_aload_n rfl rfl ?_
  refine wi_iconst (x := 0) rfl rfl ?_
  refine wi_putI rfl (kd_28 ..) ?_
  refine wi_aload_n rfl rfl ?_
  refine wi_iconst (x := (-1)) rfl rfl ?_
  refine wi_putI rfl (kd_28 ..) ?_
  refine wi_iconst (x := 0) rfl rfl ?_
  refine wi_istore_n (l' := [.ref 28, .int (Int32.ofNat (N)), .int (0 : Int32)]) rfl (Nat.le_of_ble_eq_true rfl) rfl rfl ?_
  refine ra_true (mi0 := mi) hcnt hN hT h26 h27 (N + 1) S0 0 _ Q (by show N - 0 < N + 1; omega) (Nat.le_refl _) S0_in ⟨fun a a1 a2 => ?_, rfl, rfl, rfl, rfl, rfl, fun h9 => (by rcases h9 with h9 | h9 <;> cases h9), fun h9 => (by cases h9), rfl, fun i hi => absurd hi (Nat.not_lt_zero _)⟩ hQ
  rw [u2_ne (by omega), u2_ne (by omega), u2_ne (by omega), u2_ne (by omega), u2_ne (show a ≠ bkN true from by show a ≠ 97; omega), u2_ne (by omega)]
theorem ra_false {n9 : Int32} {mi0 : Nat → Nat → Int32} (hcnt : cnt ≤ 400) (hN : N ≤ cnt) (hT : ∀ k, T k < 256) (m26 : mi0 26 1 = Int32.ofNat cnt) (m27 : ∀ k, k < cnt → mi0 27 k = Int32.ofNat (T k)) : ∀ z (S : rgS) (tn : Nat) (mi1 : Nat → Nat → Int32) (Q : Option Value → am_M → Prop), N - S.p < z → tn ≤ S.p → inS T N S → XR 31 N mi0 S.p S mi1 → (∀ fk fp E mi2, runS T N S fk fp E → (fk = 0 → inS T N E) → poX 31 mi0 fk fp E mi2 → Q (some (.int (bI (decide (fk = 0))))) (am_shT, mrL false, mi2, ml)) → am_wp X (d + 5) 38 20 [.ref 28, .int n9, .int (Int32.ofNat (tn))] [] (am_shT, mrL false, mi1, ml) Q := by
  intro z
  induction z with
  | zero => intro S tn mi1 Q hz; omega
  | succ z ih =>
    intro S tn mi1 Q hz htn hin hX hQ
    have hp1 := hin.1
    have h11 : mi1 28 11 = 0 := hX.2.2.2.2.1
    have h4 := hX.2.1
    have h5 := hX.2.2.1
    have h26 : mi1 26 1 = Int32.ofNat cnt := by rw [hX.1 26 (by decide) (by decide)]; exact m26
    have h27 : ∀ k, k < cnt → mi1 27 k = Int32.ofNat (T k) := by rw [hX.1 27 (by decide) (by decide)]; exact m27
    refine wi_iload_n rfl rfl ?_
    refine wi_sipush (x := 400) rfl rfl ?_
    refine wi_icmp_gt rfl (fun h9 => absurd trivial (by exfalso; have h8 := (lt_n (a := 400) (b := tn) (rfl : (400 : Int32) = Int32.ofNat 400) rfl (by omega) (by omega)).mp h9; omega)) (fun _ => ?_)
    refine wi_aload_n rfl rfl ?_
    refine wi_getIv (v := (0 : Int32)) rfl (kd_28 ..) h11 ?_
    refine wi_if_ne rfl (fun h9 => absurd h9 (by decide)) (fun _ => ?_)
    refine wi_aload_n rfl rfl ?_
    refine wi_callV0 rfl (by decide) (by decide) rfl (kd_28 ..) rfl rfl rfl (c_nextTok hcnt hN hT h26 h27 h4 h5 hp1 rfl (fun hsN mi2 k1 k2 => ?_) (fun hsN mi2 k1 k2 k3 k4 k5 => ?_))
    · have e11 : mi2 28 11 = 0 := by rw [k2 11 (by decide) (by decide) (by decide)]; exact h11
      have e12 : mi2 28 12 = -1 := by rw [k2 12 (by decide) (by decide) (by decide)]; exact hX.2.2.2.2.2.1
      have e4 : mi2 28 4 = Int32.ofNat N := by rw [k2 4 (by decide) (by decide) (by decide)]; exact h4
      have e8' : mi2 28 8 = Int32.ofNat S.aw := by rw [k2 8 (by decide) (by decide) (by decide)]; exact hX.2.2.2.1
      by_cases haw : S.aw = 0
      · have e8 : mi2 28 8 = 0 := by rw [e8', haw]; rfl
        refine wi_if_eq rfl (fun _ => ?_) (fun h9 => absurd (by decide) h9)
        refine wi_aload_n rfl rfl ?_
        refine wi_getIv (v := (0 : Int32)) rfl (kd_28 ..) e11 ?_
        refine wi_if_ne rfl (fun h9 => absurd h9 (by decide)) (fun _ => ?_)
        refine wi_aload_n rfl rfl ?_
        refine wi_getIv (v := (0 : Int32)) rfl (kd_28 ..) e8 ?_
        refine wi_if_eq rfl (fun _ => ?_) (fun h9 => absurd (by decide) h9)
        refine wi_aload_n rfl rfl ?_
        refine wi_getIv (v := (0 : Int32)) rfl (kd_28 ..) e11 ?_
        refine wi_if_ne rfl (fun h9 => absurd h9 (by decide)) (fun _ => ?_)
        refine wi_iconst (x := 1) rfl rfl ?_
        refine wi_goto rfl ?_
        refine wi_iret rfl (by decide) ?_
        exact hQ 0 0 S mi2 (runS.fin S hsN haw) (fun _ => hin) ⟨fun a a1 a2 => (k1 a (by omega)).trans (hX.1 a a1 a2), e11, fun _ => e12, fun h9 => absurd rfl h9, fun _ => ⟨by rw [k1 31 (by decide)]; exact hX.2.2.2.2.2.2.2.2.1, fun i hi => by rw [k1 (31 + 1) (by decide), k1 (31 + 3 + i) (by omega), k1 (31 + 12 + i) (by omega), k1 (31 + 21 + i) (by omega)]; exact ⟨(hX.2.2.2.2.2.2.2.2.2 i hi).1, (hX.2.2.2.2.2.2.2.2.2 i hi).2.2.2⟩⟩⟩
      · have e8 := e8'
        have haw5 := hin.2.2.1
        refine wi_if_eq rfl (fun _ => ?_) (fun h9 => absurd (by decide) h9)
        refine wi_aload_n rfl rfl ?_
        refine wi_getIv (v := (0 : Int32)) rfl (kd_28 ..) e11 ?_
        refine wi_if_ne rfl (fun h9 => absurd h9 (by decide)) (fun _ => ?_)
        refine wi_aload_n rfl rfl ?_
        refine wi_getIv (v := (Int32.ofNat (S.aw))) rfl (kd_28 ..) e8 ?_
        refine wi_if_eq rfl (fun h9 => absurd trivial (by exfalso; have h8 := (eq_n (a := S.aw) (b := 0) rfl (rfl : (0 : Int32) = Int32.ofNat 0) (by omega) (by omega)).mp h9; omega)) (fun _ => ?_)
        refine wi_aload_n rfl rfl ?_
        refine wi_iconst (x := 2) rfl rfl ?_
        refine wi_aload_n rfl rfl ?_
        refine wi_getIv (v := (Int32.ofNat (N))) rfl (kd_28 ..) e4 ?_
        refine wi_callV2 rfl (by decide) (by decide) rfl (kd_28 ..) rfl rfl rfl ?_
        refine wi_aload_n rfl rfl ?_
        refine wi_iload_n rfl rfl ?_
        refine wi_putI rfl (kd_28 ..) ?_
        refine wi_aload_n rfl rfl ?_
        refine wi_iload_n rfl rfl ?_
        refine wi_putI rfl (kd_28 ..) ?_
        refine wi_ret rfl ?_
        refine wi_aload_n rfl rfl ?_
        refine wi_getIv (v := (2 : Int32)) rfl (kd_28 ..) rfl ?_
        refine wi_if_ne rfl (fun _ => ?_) (fun h9 => absurd (by decide) h9)
        refine wi_iconst (x := 0) rfl rfl ?_
        refine wi_iret rfl (by decide) ?_
        exact hQ 2 N S _ (runS.eba S hsN haw) (fun h9 => by cases h9) ⟨fun a a1 a2 => (u2_ne (by omega)).trans ((u2_ne (by omega)).trans ((k1 a (by omega)).trans (hX.1 a a1 a2))), rfl, fun h9 => (by cases h9), fun _ => rfl, fun h9 => (by cases h9)⟩
    · have heb := en_b (T := T) hsN
      have g26 : mi2 26 1 = Int32.ofNat cnt := by rw [k1 26 (by decide)]; exact h26
      have g27 : ∀ k, k < cnt → mi2 27 k = Int32.ofNat (T k) := by rw [k1 27 (by decide)]; exact h27
      have hX2 : XR 31 N mi0 (enT T N (rn T N isB S.p)) S mi2 := by
        have h9 := XR_28 (aw := S.aw) (tw := S.tw) (ts := S.ts) (p9 := S.p) (by decide) hX k1 (k2 4 (by decide) (by decide) (by decide)) k3 (by rw [k2 8 (by decide) (by decide) (by decide)]; exact hX.2.2.2.1) (k2 11 (by decide) (by decide) (by decide)) (k2 12 (by decide) (by decide) (by decide)) (fun h9 => by rw [k2 9 (by decide) (by decide) (by decide)]; exact hX.2.2.2.2.2.2.1 h9) (fun h9 => by rw [k2 10 (by decide) (by decide) (by decide)]; exact hX.2.2.2.2.2.2.2.1 h9)
        exact h9
      have hrs := rn_b (T := T) (N := N) (pr := isB) (p := S.p) hp1
      refine wi_if_eq rfl (fun h9 => absurd h9 (by decide)) (fun _ => ?_)
      refine wi_aload_n rfl rfl ?_
      refine wi_callV0 rfl (by decide) (by decide) rfl (kd_28 ..) rfl rfl rfl (c_take_false (mi0 := mi0) (S := S) hcnt hN hT g26 g27 k3 k4 heb.1 heb.2 k5 (kd_b (hT _)) (fun h9 => (kdt_2 h9 hsN).1) (fun h9 => (kdt_2 h9 hsN).2) hX2 hin (fun k mi3 t1 t2 t3 t4 t5 t6 => ?_) (fun S' mi3 t1 t2 => ?_))
      · have hQ' := hQ
        have hk9 : k < 2147483648 := by
          by_cases h9 : tkS T S (rn T N isB S.p) (enT T N (rn T N isB S.p)) (kdT T N (rn T N isB S.p)) = .inl k
          · exact tk_k h9
          · exact absurd t1 h9
        refine wi_iinc (z := (Int32.ofNat (tn + 1))) rfl rfl rfl (add_n (a := tn) (b := 1) rfl rfl) rfl ?_
        refine wi_goto rfl ?_
        skip
        refine wi_iload_n rfl rfl ?_
        refine wi_sipush (x := 400) rfl rfl ?_
        refine wi_icmp_gt rfl (fun g1 => ?_) (fun g1 => ?_)
        · replace g1 := (lt_n (a := 400) (b := tn + 1) (rfl : (400 : Int32) = Int32.ofNat 400) rfl (by omega) (by omega)).mp g1
          refine wi_aload_n rfl rfl ?_
          refine wi_getIv (v := (Int32.ofNat (k))) rfl (kd_28 ..) t4 ?_
          refine wi_if_ne rfl (fun _ => ?_) (fun h9 => absurd trivial (by exfalso; have h8 := (not_congr (ne_n (a := k) (b := 0) rfl (rfl : (0 : Int32) = Int32.ofNat 0) (by omega) (by omega))).mp h9; omega))
          refine wi_aload_n rfl rfl ?_
          refine wi_getIv (v := (Int32.ofNat (k))) rfl (kd_28 ..) t4 ?_
          refine wi_if_ne rfl (fun _ => ?_) (fun h9 => absurd trivial (by exfalso; have h8 := (not_congr (ne_n (a := k) (b := 0) rfl (rfl : (0 : Int32) = Int32.ofNat 0) (by omega) (by omega))).mp h9; omega))
          refine wi_iconst (x := 0) rfl rfl ?_
          refine wi_iret rfl (by decide) ?_
          have h8 := hQ' k (rn T N isB S.p) S mi3 (runS.bad S k hsN t1) (fun h9 => absurd h9 t6) ⟨t2, t4, fun h9 => absurd h9 t6, fun _ => t5, fun h9 => absurd h9 t6⟩
          rw [decide_eq_false t6] at h8
          exact h8
        · replace g1 := (not_congr (lt_n (a := 400) (b := tn + 1) (rfl : (400 : Int32) = Int32.ofNat 400) rfl (by omega) (by omega))).mp g1
          refine wi_aload_n rfl rfl ?_
          refine wi_getIv (v := (Int32.ofNat (k))) rfl (kd_28 ..) t4 ?_
          refine wi_if_ne rfl (fun _ => ?_) (fun h9 => absurd trivial (by exfalso; have h8 := (not_congr (ne_n (a := k) (b := 0) rfl (rfl : (0 : Int32) = Int32.ofNat 0) (by omega) (by omega))).mp h9; omega))
          refine wi_aload_n rfl rfl ?_
          refine wi_getIv (v := (Int32.ofNat (k))) rfl (kd_28 ..) t4 ?_
          refine wi_if_ne rfl (fun _ => ?_) (fun h9 => absurd trivial (by exfalso; have h8 := (not_congr (ne_n (a := k) (b := 0) rfl (rfl : (0 : Int32) = Int32.ofNat 0) (by omega) (by omega))).mp h9; omega))
          refine wi_aload_n rfl rfl ?_
          refine wi_getIv (v := (Int32.ofNat (k))) rfl (kd_28 ..) t4 ?_
          refine wi_if_ne rfl (fun _ => ?_) (fun h9 => absurd trivial (by exfalso; have h8 := (not_congr (ne_n (a := k) (b := 0) rfl (rfl : (0 : Int32) = Int32.ofNat 0) (by omega) (by omega))).mp h9; omega))
          refine wi_iconst (x := 0) rfl rfl ?_
          refine wi_iret rfl (by decide) ?_
          have h8 := hQ' k (rn T N isB S.p) S mi3 (runS.bad S k hsN t1) (fun h9 => absurd h9 t6) ⟨t2, t4, fun h9 => absurd h9 t6, fun _ => t5, fun h9 => absurd h9 t6⟩
          rw [decide_eq_false t6] at h8
          exact h8
      · obtain ⟨j1, j2⟩ := tk_inv (fun k _ => hT k) hin hsN t1
        refine wi_iinc (z := (Int32.ofNat (tn + 1))) rfl rfl rfl (add_n (a := tn) (b := 1) rfl rfl) rfl ?_
        refine wi_goto rfl ?_
        rw [← j2] at t2
        exact ih S' (tn + 1) mi3 Q (by omega) (by omega) j1 t2 (fun fk fp E mi4 r1 r2 r3 => hQ fk fp E mi4 (runS.stp S S' E fk fp hsN t1 r1) r2 r3)
theorem c_readAll_false {mi : Nat → Nat → Int32} (hcnt : cnt ≤ 400) (hN : N ≤ cnt) (hT : ∀ k, T k < 256) (h26 : mi 26 1 = Int32.ofNat cnt) (h27 : ∀ k, k < cnt → mi 27 k = Int32.ofNat (T k)) (hQ : ∀ fk fp E mi2, runS T N S0 fk fp E → (fk = 0 → inS T N E) → poX 31 mi fk fp E mi2 → Q (some (.int (bI (decide (fk = 0))))) (am_shT, mrL false, mi2, ml)) : am_wp X (d + 5) 38 0 [.ref 28, .int (Int32.ofNat N), .retAddr 0] [] (am_shT, mrL false, mi, ml) Q := by
  refine wi_aload_n rfl rfl ?_
  refine wi_iload_n rfl rfl ?_
  refine wi_putI rfl (kd_28 ..) ?_
  refine wi_aload_n rfl rfl ?_
  refine wi_getR rfl (kd_28 ..) (rd_28_3 false) ?_
  refine wi_callV0 rfl (by decide) (by decide) rfl (kd_31 ..) rfl rfl rfl ?_
  refine wi_aload_n rfl rfl ?_
  refine wi_iconst (x := 0) rfl rfl ?_
  refine wi_putI rfl (kd_31 ..) ?_
  refine wi_ret rfl ?_
  refine wi_aload_n rfl rfl ?_
  refine wi_iconst (x := 0) rfl rfl ?_
  refine wi_putI rfl (kd_28 ..) ?_
  refine wi_aload_n rfl rfl ?_
  refine wi_iconst (x := 0) rfl rfl ?_
  refine wi_putI rfl (kd_28 ..) ?_
  refine wi_aload_n rfl rfl ?_
  refine wi_iconst (x := 0) rfl rfl ?_
  refine wi_putI rfl (kd_28 ..) ?_
  refine wi_aload_n rfl rfl ?_
  refine wi_iconst (x := (-1)) rfl rfl ?_
  refine wi_putI rfl (kd_28 ..) ?_
  refine wi_iconst (x := 0) rfl rfl ?_
  refine wi_istore_n (l' := [.ref 28, .int (Int32.ofNat (N)), .int (0 : Int32)]) rfl (Nat.le_of_ble_eq_true rfl) rfl rfl ?_
  refine ra_false (mi0 := mi) hcnt hN hT h26 h27 (N + 1) S0 0 _ Q (by show N - 0 < N + 1; omega) (Nat.le_refl _) S0_in ⟨fun a a1 a2 => ?_, rfl, rfl, rfl, rfl, rfl, fun h9 => (by rcases h9 with h9 | h9 <;> cases h9), fun h9 => (by cases h9), rfl, fun i hi => absurd hi (Nat.not_lt_zero _)⟩ hQ
  rw [u2_ne (by omega), u2_ne (by omega), u2_ne (by omega), u2_ne (by omega), u2_ne (show a ≠ bkN false from by show a ≠ 31; omega), u2_ne (by omega)]
end RX
