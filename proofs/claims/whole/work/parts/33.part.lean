/-! ===== part, fair ===== -/
theorem max_n {x y : Int32} {a b : Nat} (hx : x = Int32.ofNat a) (hy : y = Int32.ofNat b) (ha : a < 2147483648) (hb : b < 2147483648) : (if x < y then y else x) = Int32.ofNat (max a b) := by
  have e := lt_n hx hy ha hb
  subst hx; subst hy
  by_cases h : a < b
  · rw [if_pos (e.mpr h), Nat.max_eq_right (by omega)]
  · rw [if_neg (fun h2 => h (e.mp h2)), Nat.max_eq_left (by omega)]
theorem min_n {x y : Int32} {a b : Nat} (hx : x = Int32.ofNat a) (hy : y = Int32.ofNat b) (ha : a < 2147483648) (hb : b < 2147483648) : (if y < x then y else x) = Int32.ofNat (min a b) := by
  have e := lt_n hy hx hb ha
  subst hx; subst hy
  by_cases h : b < a
  · rw [if_pos (e.mpr h), Nat.min_eq_right (by omega)]
  · rw [if_neg (fun h2 => h (e.mp h2)), Nat.min_eq_left (by omega)]
theorem max_l {x y : Int64} {a b : Nat} (hx : x = Int64.ofNat a) (hy : y = Int64.ofNat b) (ha : a < 9223372036854775808) (hb : b < 9223372036854775808) : (if y < x then x else y) = Int64.ofNat (max a b) := by
  have e : y < x ↔ b < a := by
    subst hx; subst hy
    rw [Int64.lt_iff_toInt_lt, l_toInt ha, l_toInt hb]; omega
  subst hx; subst hy
  by_cases h : b < a
  · rw [if_pos (e.mpr h), Nat.max_eq_left (by omega)]
  · rw [if_neg (fun h2 => h (e.mp h2)), Nat.max_eq_right (by omega)]
section WM
variable {X : Nat × (Nat → Int32)} {d mid j : Nat} {ls st : List Value} {Q : Option Value → am_M → Prop} {p r1 r2 r3 ix : Nat} {x y z : Int32} {lx ly lz : Int64} {M : am_M}
theorem wn_max (hc : am_cd mid j = some (.invokestatic ix, p, 1001, r2, r3)) (hw : am_low st = true) (hz : (if x < y then y else x) = z) (k : am_wp X d mid (j + 1) ls (.int z :: st) M Q) : am_wp X d mid j ls (.int y :: .int x :: st) M Q := wi_max hc hw (by rw [hz]; exact k)
theorem wn_min (hc : am_cd mid j = some (.invokestatic ix, p, 1002, r2, r3)) (hw : am_low st = true) (hz : (if y < x then y else x) = z) (k : am_wp X d mid (j + 1) ls (.int z :: st) M Q) : am_wp X d mid j ls (.int y :: .int x :: st) M Q := wi_min hc hw (by rw [hz]; exact k)
theorem wn_lmax (hc : am_cd mid j = some (.invokestatic ix, p, 1005, r2, r3)) (hw : am_low st = true) (hz : (if ly < lx then lx else ly) = lz) (k : am_wp X d mid (j + 1) ls (.long lz :: st) M Q) : am_wp X d mid j ls (.long ly :: .long lx :: st) M Q := wi_lmax hc hw (by rw [hz]; exact k)
end WM
theorem sub_toI {A B : Nat} (hA : A < 4611686018427387904) (hB : B < 4611686018427387904) : (Int64.ofNat A - Int64.ofNat B).toInt = (A : Int) - B := by
  rw [Int64.toInt_sub, l_toInt (by omega), l_toInt (by omega)]
  exact Int.bmod_eq_of_le (by omega) (by omega)
theorem cnt_all {n : Nat} : cntN (fun _ => true) n = n := by
  induction n with
  | zero => rfl
  | succ n ih =>
    show cntN _ n + 1 = _
    rw [ih]
theorem a_part {X : Nat × (Nat → Int32)} {r : Int32} : arm X 129 200 [.ref 0, .int r] [.ref 134, .int r, .retAddr 0, .retAddr 0, .retAddr 0, .retAddr 0] := by
  intro mi ml b hR Q hK
  obtain ⟨n, t, hst, ⟨hn0, hn4, hn⟩, ⟨ht0, ht5, ht⟩, hT, hF, hC, hM, hP, hTp, hB, hFa, hS, hMk, hfr⟩ := hR
  obtain ⟨g, hg, hg30, hB1, hB2, hB3, hac, has⟩ := hMk
  have hby : ∀ k, k < g → mi 155 k = Int32.ofNat (clN (mi 155) k) ∧ clN (mi 155) k ≤ 2 := fun k hk => clN_of (hi := 2) (hB1 k hk).2.1
  have hva : ∀ k, k < g → mi 156 k = Int32.ofNat (clN (mi 156) k) ∧ clN (mi 156) k ≤ 10 := fun k hk => clN_of (hi := 10) (hB1 k hk).2.2
  have hof : ∀ k, k < g → mi 154 k = Int32.ofNat (clN (mi 154) k) ∧ clN (mi 154) k ≤ 7 := fun k hk => clN_of (hi := 7) (hB1 k hk).1
  obtain ⟨s0, es0⟩ : ∃ z, z = sumN (fun _ => true) (clN (mi 156)) g := ⟨_, rfl⟩
  have has' := has
  rw [← es0] at has'
  have hs0 : s0 ≤ 1000 := by rw [es0]; exact Nat.le_trans (sumN_le (z := 10) (fun k hk => (hva k hk).2)) (by omega)
  rcases wn_cases r 0 2 (by decide) (by decide) with e_r | ⟨y, l_y, h_y, rfl⟩
  · rcases wn_zero.mp e_r with z_r | z_r
    · refine wi_iload_n rfl rfl ?_
      refine wi_iconst (x := 0) rfl rfl ?_
      refine wi_iconst (x := 2) rfl rfl ?_
      refine wi_callS3 rfl (by decide) (by decide) rfl rfl rfl (c_wiV e_r ?_)
      refine wi_if_ne rfl (fun h9 => absurd h9 (by decide)) (fun _ => ?_)
      refine wi_aload_n rfl rfl ?_
      refine wi_iconst (x := 2) rfl rfl ?_
      refine wi_callV1 rfl (by decide) (by decide) rfl (kd_0 ..) rfl rfl rfl ?_
      refine wi_aload_n rfl rfl ?_
      refine wi_iload_n rfl rfl ?_
      refine wi_putI rfl (kd_0 ..) ?_
      refine wi_iconst (x := 0) rfl rfl ?_
      refine wi_iret rfl (by decide) ?_
      refine wi_iret rfl (by decide) ?_
      refine hK _ _ _ _ (fun Q2 h2 => ?_)
      refine wi_aload_n rfl rfl ?_
      refine wi_iconst (x := 0) rfl rfl ?_
      refine wi_putI rfl (kd_134 ..) ?_
      refine wi_aload_n rfl rfl ?_
      refine wi_iconst (x := 0) rfl rfl ?_
      refine wi_putI rfl (kd_134 ..) ?_
      refine wi_iload_n rfl rfl ?_
      refine wi_if_lt rfl (fun _ => ?_) (fun h9 => absurd z_r h9)
      refine wi_aload_n rfl rfl ?_
      refine wi_iconst (x := 2) rfl rfl ?_
      refine wi_callV1 rfl (by decide) (by decide) rfl (kd_134 ..) rfl rfl rfl ?_
      refine wi_aload_n rfl rfl ?_
      refine wi_iload_n rfl rfl ?_
      refine wi_putI rfl (kd_134 ..) ?_
      refine wi_iconst (x := 0) rfl rfl ?_
      refine wi_iret rfl (by decide) ?_
      refine wi_iret rfl (by decide) ?_
      refine h2 _ _ _ ?_
      exact ⟨n, t, rfl, ⟨hn0, hn4, hn⟩, ⟨ht0, ht5, ht⟩, hT, hF, hC, hM, hP, hTp, hB, hFa, hS, ⟨g, hg, hg30, hB1, hB2, hB3, hac, has⟩, hfr⟩
    · refine wi_iload_n rfl rfl ?_
      refine wi_iconst (x := 0) rfl rfl ?_
      refine wi_iconst (x := 2) rfl rfl ?_
      refine wi_callS3 rfl (by decide) (by decide) rfl rfl rfl (c_wiV e_r ?_)
      refine wi_if_ne rfl (fun h9 => absurd h9 (by decide)) (fun _ => ?_)
      refine wi_aload_n rfl rfl ?_
      refine wi_iconst (x := 2) rfl rfl ?_
      refine wi_callV1 rfl (by decide) (by decide) rfl (kd_0 ..) rfl rfl rfl ?_
      refine wi_aload_n rfl rfl ?_
      refine wi_iload_n rfl rfl ?_
      refine wi_putI rfl (kd_0 ..) ?_
      refine wi_iconst (x := 0) rfl rfl ?_
      refine wi_iret rfl (by decide) ?_
      refine wi_iret rfl (by decide) ?_
      refine hK _ _ _ _ (fun Q2 h2 => ?_)
      refine wi_aload_n rfl rfl ?_
      refine wi_iconst (x := 0) rfl rfl ?_
      refine wi_putI rfl (kd_134 ..) ?_
      refine wi_aload_n rfl rfl ?_
      refine wi_iconst (x := 0) rfl rfl ?_
      refine wi_putI rfl (kd_134 ..) ?_
      refine wi_iload_n rfl rfl ?_
      refine wi_if_lt rfl (fun h9 => absurd (Int32.lt_trans z_r h9) (by decide)) (fun _ => ?_)
      refine wi_iload_n rfl rfl ?_
      refine wi_iconst (x := 2) rfl rfl ?_
      refine wi_icmp_le rfl (fun h9 => absurd z_r (Int32.not_lt.mpr h9)) (fun _ => ?_)
      refine wi_aload_n rfl rfl ?_
      refine wi_iconst (x := 2) rfl rfl ?_
      refine wi_callV1 rfl (by decide) (by decide) rfl (kd_134 ..) rfl rfl rfl ?_
      refine wi_aload_n rfl rfl ?_
      refine wi_iload_n rfl rfl ?_
      refine wi_putI rfl (kd_134 ..) ?_
      refine wi_iconst (x := 0) rfl rfl ?_
      refine wi_iret rfl (by decide) ?_
      refine wi_iret rfl (by decide) ?_
      refine h2 _ _ _ ?_
      exact ⟨n, t, rfl, ⟨hn0, hn4, hn⟩, ⟨ht0, ht5, ht⟩, hT, hF, hC, hM, hP, hTp, hB, hFa, hS, ⟨g, hg, hg30, hB1, hB2, hB3, hac, has⟩, hfr⟩
  · have hRC := hB3 y (by omega)
    obtain ⟨rc, erc⟩ : ∃ z, z = cntN (fun k => clN (mi 155) k == y) g := ⟨_, rfl⟩
    obtain ⟨rs, ers⟩ : ∃ z, z = sumN (fun k => clN (mi 155) k == y) (clN (mi 156)) g := ⟨_, rfl⟩
    rw [← erc, ← ers] at hRC
    have hrc : rc ≤ g := by rw [erc]; exact cntN_le
    have hrs : rs ≤ 1000 := by rw [ers]; exact Nat.le_trans (sumN_le (z := 10) (fun k hk => (hva k hk).2)) (by omega)
    have m1 : rs * g ≤ 1000 * 100 := Nat.mul_le_mul hrs hg
    have m2 : s0 * rc ≤ 1000 * 100 := Nat.mul_le_mul hs0 (by omega)
    have m3 : rc * g ≤ 100 * 100 := Nat.mul_le_mul (by omega) hg
    have hza := labs_z (a9 := Int64.ofNat (rs * g) - Int64.ofNat (s0 * rc)) (by rw [sub_toI (by omega) (by omega)]; omega)
    by_cases h0 : rc = 0
    · refine wi_iload_n rfl rfl ?_
      refine wi_iconst (x := 0) rfl rfl ?_
      refine wi_iconst (x := 2) rfl rfl ?_
      refine wi_callS3 rfl (by decide) (by decide) rfl rfl rfl (c_wiV (wn_in (lo := 0) (hi := 2) (by omega) (by omega) (by decide)) ?_)
      refine wi_if_ne rfl (fun _ => ?_) (fun h9 => absurd (by decide) h9)
      refine wi_aload_n rfl rfl ?_
      refine wi_getR rfl (kd_0 ..) (rd_0_9 _) ?_
      refine wi_aload_n rfl rfl ?_
      refine wi_getR rfl (kd_0 ..) (rd_0_10 _) ?_
      refine wi_iload_n rfl rfl ?_
      refine wi_callV2 rfl (by decide) (by decide) rfl (kd_75 ..) rfl rfl rfl ?_
      refine wi_iload_n rfl rfl ?_
      refine wi_iconst (x := 0) rfl rfl ?_
      refine wi_iconst (x := 2) rfl rfl ?_
      refine wi_callS3 rfl (by decide) (by decide) rfl rfl rfl (c_wiV (wn_in (lo := 0) (hi := 2) (by omega) (by omega) (by decide)) ?_)
      refine wi_if_eq rfl (fun h9 => absurd h9 (by decide)) (fun _ => ?_)
      refine wi_aload_n rfl rfl ?_
      refine wi_getR rfl (kd_75 ..) (rd_75_2 _) ?_
      refine wi_iload_n rfl rfl ?_
      refine wn_laload (q := y) (lv := (Int64.ofNat (rc))) rfl (ln_94 ..) rfl (by omega) (by decide) hRC.1 ?_
      refine wi_lconst (lx := 0) rfl rfl ?_
      refine wi_lcmp rfl ?_
      refine wi_if_ne rfl (fun h9 => absurd trivial (by exfalso; have h8 := (lc_ne (a := rc) (b := 0) rfl (rfl : (0 : Int64) = Int64.ofNat 0) (by omega) (by omega)).mp h9; omega)) (fun _ => ?_)
      refine wi_aload_n rfl rfl ?_
      refine wi_lconst (lx := 0) rfl rfl ?_
      refine wi_lconst (lx := 1) rfl rfl ?_
      refine wi_callV2 rfl (by decide) (by decide) rfl (kd_96 ..) rfl rfl rfl (c_become (P := 0) (Z := 1) (labs_n (Z := 0) (rfl : (0 : Int64) = Int64.ofNat 0) (by omega)) (by omega) (by omega) (by omega) ?_)
      refine wi_ret rfl ?_
      refine wi_aload_n rfl rfl ?_
      refine wi_callV0 rfl (by decide) (by decide) rfl (kd_0 ..) rfl rfl rfl ?_
      refine wi_aload_n rfl rfl ?_
      refine wi_iconst (x := 0) rfl rfl ?_
      refine wi_putI rfl (kd_0 ..) ?_
      refine wi_iconst (x := 1) rfl rfl ?_
      refine wi_iret rfl (by decide) ?_
      refine wi_iret rfl (by decide) ?_
      refine hK _ _ _ _ (fun Q2 h2 => ?_)
      refine wi_aload_n rfl rfl ?_
      refine wi_iconst (x := 0) rfl rfl ?_
      refine wi_putI rfl (kd_134 ..) ?_
      refine wi_aload_n rfl rfl ?_
      refine wi_iconst (x := 0) rfl rfl ?_
      refine wi_putI rfl (kd_134 ..) ?_
      refine wi_iload_n rfl rfl ?_
      refine wi_if_lt rfl (fun h9 => absurd trivial (by exfalso; have h8 := (lt_n (a := y) (b := 0) rfl (rfl : (0 : Int32) = Int32.ofNat 0) (by omega) (by omega)).mp h9; omega)) (fun _ => ?_)
      refine wi_iload_n rfl rfl ?_
      refine wi_iconst (x := 2) rfl rfl ?_
      refine wi_icmp_le rfl (fun _ => ?_) (fun h9 => absurd trivial (by exfalso; have h8 := (not_congr (le_n (a := y) (b := 2) rfl (rfl : (2 : Int32) = Int32.ofNat 2) (by omega) (by omega))).mp h9; omega))
      refine wi_aload_n rfl rfl ?_
      refine wi_iload_n rfl rfl ?_
      refine wi_callV1 rfl (by decide) (by decide) rfl (kd_134 ..) rfl rfl rfl (c_manyBy (y := y) (by omega) hg30 hg hby hva erc.symm ?_)
      refine wn_i2l (lz := (Int64.ofNat (rc))) rfl (i2l_n (a := rc) rfl (by omega)) ?_
      refine wi_lstore_n rfl (Nat.le_of_ble_eq_true rfl) rfl rfl ?_
      refine wi_lload_n rfl rfl ?_
      refine wi_lconst (lx := 0) rfl rfl ?_
      refine wi_lcmp rfl ?_
      refine wi_if_ne rfl (fun h9 => absurd trivial (by exfalso; have h8 := (lc_ne (a := rc) (b := 0) rfl (rfl : (0 : Int64) = Int64.ofNat 0) (by omega) (by omega)).mp h9; omega)) (fun _ => ?_)
      refine wi_aload_n rfl rfl ?_
      refine wi_lconst (lx := 0) rfl rfl ?_
      refine wi_lconst (lx := 1) rfl rfl ?_
      refine wi_callV2 rfl (by decide) (by decide) rfl (kd_134 ..) rfl rfl rfl (c_tells (P := 0) (Z := 1) (labs_n (Z := 0) (rfl : (0 : Int64) = Int64.ofNat 0) (by omega)) (by omega) (by omega) (by omega) ?_)
      refine wi_iret rfl (by decide) ?_
      refine h2 _ _ _ ?_
      exact ⟨n, t, rfl, ⟨hn0, hn4, hn⟩, ⟨ht0, ht5, ht⟩, hT, hF, hC, hM, hP, hTp, hB, hFa, hS, ⟨g, hg, hg30, hB1, hB2, hB3, hac, has⟩, ⟨rfl, rfl⟩⟩
    · have hpos : 0 < rc * g := Nat.mul_pos (by omega) (by omega)
      refine wi_iload_n rfl rfl ?_
      refine wi_iconst (x := 0) rfl rfl ?_
      refine wi_iconst (x := 2) rfl rfl ?_
      refine wi_callS3 rfl (by decide) (by decide) rfl rfl rfl (c_wiV (wn_in (lo := 0) (hi := 2) (by omega) (by omega) (by decide)) ?_)
      refine wi_if_ne rfl (fun _ => ?_) (fun h9 => absurd (by decide) h9)
      refine wi_aload_n rfl rfl ?_
      refine wi_getR rfl (kd_0 ..) (rd_0_9 _) ?_
      refine wi_aload_n rfl rfl ?_
      refine wi_getR rfl (kd_0 ..) (rd_0_10 _) ?_
      refine wi_iload_n rfl rfl ?_
      refine wi_callV2 rfl (by decide) (by decide) rfl (kd_75 ..) rfl rfl rfl ?_
      refine wi_iload_n rfl rfl ?_
      refine wi_iconst (x := 0) rfl rfl ?_
      refine wi_iconst (x := 2) rfl rfl ?_
      refine wi_callS3 rfl (by decide) (by decide) rfl rfl rfl (c_wiV (wn_in (lo := 0) (hi := 2) (by omega) (by omega) (by decide)) ?_)
      refine wi_if_eq rfl (fun h9 => absurd h9 (by decide)) (fun _ => ?_)
      refine wi_aload_n rfl rfl ?_
      refine wi_getR rfl (kd_75 ..) (rd_75_2 _) ?_
      refine wi_iload_n rfl rfl ?_
      refine wn_laload (q := y) (lv := (Int64.ofNat (rc))) rfl (ln_94 ..) rfl (by omega) (by decide) hRC.1 ?_
      refine wi_lconst (lx := 0) rfl rfl ?_
      refine wi_lcmp rfl ?_
      refine wi_if_ne rfl (fun _ => ?_) (fun h9 => absurd trivial (by exfalso; have h8 := (not_congr (lc_ne (a := rc) (b := 0) rfl (rfl : (0 : Int64) = Int64.ofNat 0) (by omega) (by omega))).mp h9; omega))
      refine wi_aload_n rfl rfl ?_
      refine wi_getR rfl (kd_75 ..) (rd_75_2 _) ?_
      refine wi_iload_n rfl rfl ?_
      refine wn_laload (q := y) (lv := (Int64.ofNat (rc))) rfl (ln_94 ..) rfl (by omega) (by decide) hRC.1 ?_
      refine wi_lstore_n rfl (Nat.le_of_ble_eq_true rfl) rfl rfl ?_
      refine wi_aload_n rfl rfl ?_
      refine wi_aload_n rfl rfl ?_
      refine wi_getR rfl (kd_75 ..) (rd_75_3 _) ?_
      refine wi_iload_n rfl rfl ?_
      refine wn_laload (q := y) (lv := (Int64.ofNat (rs))) rfl (ln_95 ..) rfl (by omega) (by decide) hRC.2 ?_
      refine wi_aload_n rfl rfl ?_
      refine wi_getLv (lv := (Int64.ofNat (g))) rfl (kd_75 ..) hac ?_
      refine wn_lmul (lz := (Int64.ofNat (rs * g))) rfl (mul_l (a := rs) (b := g) rfl rfl) ?_
      refine wi_aload_n rfl rfl ?_
      refine wi_getLv (lv := (Int64.ofNat (s0))) rfl (kd_75 ..) has' ?_
      refine wi_lload_n rfl rfl ?_
      refine wn_lmul (lz := (Int64.ofNat (s0 * rc))) rfl (mul_l (a := s0) (b := rc) rfl rfl) ?_
      refine wi_lsub rfl ?_
      refine wi_lload_n rfl rfl ?_
      refine wi_aload_n rfl rfl ?_
      refine wi_getLv (lv := (Int64.ofNat (g))) rfl (kd_75 ..) hac ?_
      refine wn_lmul (lz := (Int64.ofNat (rc * g))) rfl (mul_l (a := rc) (b := g) rfl rfl) ?_
      refine wi_callV2 rfl (by decide) (by decide) rfl (kd_96 ..) rfl rfl rfl (c_become (P := (Int64.ofNat (rs * g) - Int64.ofNat (s0 * rc)).toInt.natAbs) (Z := rc * g) hza.1 hza.2 (by omega) hpos ?_)
      refine wi_ret rfl ?_
      refine wi_aload_n rfl rfl ?_
      refine wi_callV0 rfl (by decide) (by decide) rfl (kd_0 ..) rfl rfl rfl ?_
      refine wi_aload_n rfl rfl ?_
      refine wi_iconst (x := 0) rfl rfl ?_
      refine wi_putI rfl (kd_0 ..) ?_
      refine wi_iconst (x := 1) rfl rfl ?_
      refine wi_iret rfl (by decide) ?_
      refine wi_iret rfl (by decide) ?_
      refine hK _ _ _ _ (fun Q2 h2 => ?_)
      refine wi_aload_n rfl rfl ?_
      refine wi_iconst (x := 0) rfl rfl ?_
      refine wi_putI rfl (kd_134 ..) ?_
      refine wi_aload_n rfl rfl ?_
      refine wi_iconst (x := 0) rfl rfl ?_
      refine wi_putI rfl (kd_134 ..) ?_
      refine wi_iload_n rfl rfl ?_
      refine wi_if_lt rfl (fun h9 => absurd trivial (by exfalso; have h8 := (lt_n (a := y) (b := 0) rfl (rfl : (0 : Int32) = Int32.ofNat 0) (by omega) (by omega)).mp h9; omega)) (fun _ => ?_)
      refine wi_iload_n rfl rfl ?_
      refine wi_iconst (x := 2) rfl rfl ?_
      refine wi_icmp_le rfl (fun _ => ?_) (fun h9 => absurd trivial (by exfalso; have h8 := (not_congr (le_n (a := y) (b := 2) rfl (rfl : (2 : Int32) = Int32.ofNat 2) (by omega) (by omega))).mp h9; omega))
      refine wi_aload_n rfl rfl ?_
      refine wi_iload_n rfl rfl ?_
      refine wi_callV1 rfl (by decide) (by decide) rfl (kd_134 ..) rfl rfl rfl (c_manyBy (y := y) (by omega) hg30 hg hby hva erc.symm ?_)
      refine wn_i2l (lz := (Int64.ofNat (rc))) rfl (i2l_n (a := rc) rfl (by omega)) ?_
      refine wi_lstore_n rfl (Nat.le_of_ble_eq_true rfl) rfl rfl ?_
      refine wi_lload_n rfl rfl ?_
      refine wi_lconst (lx := 0) rfl rfl ?_
      refine wi_lcmp rfl ?_
      refine wi_if_ne rfl (fun _ => ?_) (fun h9 => absurd trivial (by exfalso; have h8 := (not_congr (lc_ne (a := rc) (b := 0) rfl (rfl : (0 : Int64) = Int64.ofNat 0) (by omega) (by omega))).mp h9; omega))
      refine wi_aload_n rfl rfl ?_
      refine wi_iconst (x := 3) rfl rfl ?_
      refine wi_callV1 rfl (by decide) (by decide) rfl (kd_134 ..) rfl rfl rfl (c_manyBy3 hg30 hg hby hva cnt_all ?_)
      refine wn_i2l (lz := (Int64.ofNat (g))) rfl (i2l_n (a := g) rfl (by omega)) ?_
      refine wi_lstore rfl (Nat.le_of_ble_eq_true rfl) rfl rfl ?_
      refine wi_aload_n rfl rfl ?_
      refine wi_aload_n rfl rfl ?_
      refine wi_iload_n rfl rfl ?_
      refine wi_callV1 rfl (by decide) (by decide) rfl (kd_134 ..) rfl rfl rfl (c_sumBy (y := y) (by omega) hg30 hg hby hva ers.symm ?_)
      refine wn_i2l (lz := (Int64.ofNat (rs))) rfl (i2l_n (a := rs) rfl (by omega)) ?_
      refine wi_lload rfl rfl ?_
      refine wn_lmul (lz := (Int64.ofNat (rs * g))) rfl (mul_l (a := rs) (b := g) rfl rfl) ?_
      refine wi_aload_n rfl rfl ?_
      refine wi_iconst (x := 3) rfl rfl ?_
      refine wi_callV1 rfl (by decide) (by decide) rfl (kd_134 ..) rfl rfl rfl (c_sumBy3 hg30 hg hby hva es0.symm ?_)
      refine wn_i2l (lz := (Int64.ofNat (s0))) rfl (i2l_n (a := s0) rfl (by omega)) ?_
      refine wi_lload_n rfl rfl ?_
      refine wn_lmul (lz := (Int64.ofNat (s0 * rc))) rfl (mul_l (a := s0) (b := rc) rfl rfl) ?_
      refine wi_lsub rfl ?_
      refine wi_lload_n rfl rfl ?_
      refine wi_lload rfl rfl ?_
      refine wn_lmul (lz := (Int64.ofNat (rc * g))) rfl (mul_l (a := rc) (b := g) rfl rfl) ?_
      refine wi_callV2 rfl (by decide) (by decide) rfl (kd_134 ..) rfl rfl rfl (c_tells (P := (Int64.ofNat (rs * g) - Int64.ofNat (s0 * rc)).toInt.natAbs) (Z := rc * g) hza.1 hza.2 (by omega) hpos ?_)
      refine wi_iret rfl (by decide) ?_
      refine h2 _ _ _ ?_
      exact ⟨n, t, rfl, ⟨hn0, hn4, hn⟩, ⟨ht0, ht5, ht⟩, hT, hF, hC, hM, hP, hTp, hB, hFa, hS, ⟨g, hg, hg30, hB1, hB2, hB3, hac, has⟩, ⟨rfl, rfl⟩⟩
