/-! ===== when ===== -/
def wS (w0 : six) (r u : Nat → Int32) (t : Nat) : Nat → six
  | 0 => w0
  | i + 1 => dayF (wS w0 r u t i).1 (wS w0 r u t i).2.1 (wS w0 r u t i).2.2.1 (wS w0 r u t i).2.2.2.1 (wS w0 r u t i).2.2.2.2.1 (wS w0 r u t i).2.2.2.2.2 (r (t + i)) (u (t + i)) 0 0
def wB (w : six) : Prop := rB w.1 0 100 ∧ rB w.2.1 0 100 ∧ rB w.2.2.1 0 100 ∧ rB w.2.2.2.1 0 60 ∧ rB w.2.2.2.2.1 0 100 ∧ rB w.2.2.2.2.2 0 100
theorem wS_B {w0 : six} {r u : Nat → Int32} {t : Nat} (h : wB w0) (i : Nat) : wB (wS w0 r u t i) := by
  induction i with
  | zero => exact h
  | succ i ih => exact day_rB ih.2.2.2.1
theorem wS_m {w0 : six} {r u : Nat → Int32} {t : Nat} (h : wB w0) (i : Nat) (hr : rB (r (t + i)) 0 100) : wS w0 r u t (i + 1) = mdayF (wS w0 r u t i).1 (wS w0 r u t i).2.1 (wS w0 r u t i).2.2.1 (wS w0 r u t i).2.2.2.1 (wS w0 r u t i).2.2.2.2.1 (wS w0 r u t i).2.2.2.2.2 (r (t + i)) (u (t + i)) 0 0 := day_eq (wS_B h i).1 hr ⟨by decide, by decide⟩
theorem fst_cases (Z : Nat → Prop) (n : Nat) : (∀ i, i < n → ¬ Z i) ∨ ∃ k, k < n ∧ Z k ∧ ∀ i, i < k → ¬ Z i := by
  induction n with
  | zero => exact Or.inl (fun i h => by omega)
  | succ n ih =>
    rcases ih with h | ⟨k, h1, h2, h3⟩
    · by_cases hz : Z n
      · exact Or.inr ⟨n, by omega, hz, h⟩
      · left
        intro i hi
        rcases Nat.lt_or_ge i n with h1 | h1
        · exact h i h1
        · rw [show i = n by omega]; exact hz
    · exact Or.inr ⟨k, by omega, h2, h3⟩
theorem wn_st {s : Int32} {q : Nat} (hq : q ≤ 8) : wnF s 0 (Int32.ofNat q - 1) = stF s (Int32.ofNat q) := by
  unfold wnF stF
  by_cases h : s < 0
  · rw [if_pos h, if_pos h]
  · rw [if_neg h, if_neg h]
    have e : (Int32.ofNat q - 1).toInt = (q : Int) - 1 := by
      rw [Int32.toInt_sub, i32_toInt (by omega), show (1 : Int32).toInt = 1 from rfl]
      exact Int.bmod_eq_of_le (by omega) (by omega)
    by_cases h1 : Int32.ofNat q ≤ s
    · rw [if_pos h1, if_pos]
      rw [Int32.le_iff_toInt_le, i32_toInt (by omega)] at h1
      rw [Int32.lt_iff_toInt_lt, e]
      omega
    · rw [if_neg h1, if_neg]
      rw [Int32.le_iff_toInt_le, i32_toInt (by omega)] at h1
      rw [Int32.lt_iff_toInt_lt, e]
      omega
theorem st_zr {s n : Int32} (h : stF s n = 0) : s < 0 ∨ (¬ s < 0 ∧ n ≤ s) := by
  unfold stF at h
  by_cases h1 : s < 0
  · exact Or.inl h1
  · rw [if_neg h1] at h
    by_cases h2 : n ≤ s
    · exact Or.inr ⟨h1, h2⟩
    · rw [if_neg h2] at h
      exact absurd h (by decide)
theorem bkC_fr {mi mi' : Nat → Nat → Int32} {b : Bool} {q : Nat} (hq : q ≤ 8) (ho : ∀ a, 31 ≤ a → a < 126 → mi' a = mi a) (h : bkC mi b q) : bkC mi' b q := by
  cases b
  · refine ⟨by rw [ho 97 (by omega) (by omega)]; exact h.1, fun r hr => ?_⟩
    obtain ⟨t, h1, h2, h3⟩ := h.2 r hr
    refine ⟨t, h1, by rw [ho 98 (by omega) (by omega)]; exact h2, ?_⟩
    rw [ho (100 + r) (by omega) (by omega)]
    exact h3
  · refine ⟨by rw [ho 31 (by omega) (by omega)]; exact h.1, fun r hr => ?_⟩
    obtain ⟨t, h1, h2, h3⟩ := h.2 r hr
    refine ⟨t, h1, by rw [ho 32 (by omega) (by omega)]; exact h2, ?_⟩
    rw [ho (34 + r) (by omega) (by omega)]
    exact h3
theorem RXb_fr {mi mi' : Nat → Nat → Int32} {b : Bool} {w : six} {rain : Int32} {q : Nat} (hq : q ≤ 8) (ho : ∀ a, 31 ≤ a → a < 126 → mi' a = mi a) : frI (RXb mi' b w rain) q 0 = frI (RXb mi b w rain) q 0 := by
  refine frI_congr (q := q) (fun r hr => ?_) q 0 (by omega)
  cases b
  · show RX_97 mi' w rain r = RX_97 mi w rain r
    unfold RX_97
    rw [ho 98 (by omega) (by omega), ho (100 + r) (by omega) (by omega), ho (109 + r) (by omega) (by omega), ho (118 + r) (by omega) (by omega)]
  · show RX_31 mi' w rain r = RX_31 mi w rain r
    unfold RX_31
    rw [ho 32 (by omega) (by omega), ho (34 + r) (by omega) (by omega), ho (43 + r) (by omega) (by omega), ho (52 + r) (by omega) (by omega)]
theorem up6_ne {mi : Nat → Nat → Int32} {a p : Nat} {w : six} (h : a ≠ p) : up6 mi p w a = mi a := upT_ne h
section WH
variable {X : Nat × (Nat → Int32)} {d : Nat} {Q : Option Value → am_M → Prop} {mi : Nat → Nat → Int32} {ml : Nat → Nat → Int64} {b : Bool}
theorem xw_s {W : Nat → six} {Z : Nat → Int32} {q s rl mn t : Nat} (hs : s < 8) (hrl : rl < 8) (hmn : mn ≤ 60) (ht9 : t + mn ≤ 999) (h14 : mi 0 14 = Int32.ofNat t) (hq : q ≤ 8) (hbk : bkC mi b q) (hW : ∀ i, i < mn → W (i + 1) = dayF (W i).1 (W i).2.1 (W i).2.2.1 (W i).2.2.2.1 (W i).2.2.2.2.1 (W i).2.2.2.2.2 (mi 4 (t + i)) (mi 5 (t + i)) 0 0) (hZ : ∀ i, i < mn → frI (RXb mi b (W i) (mi 4 (t + i))) q 0 = Z i) {k : Nat} (hk : k < mn) (hyes : Z k = Int32.ofNat rl) (hno : ∀ i, i < k → ¬ Z i = Int32.ofNat rl) (hQ : am_wp X (d + 6) 122 63 [.ref 0, .int (Int32.ofNat (s)), .int (Int32.ofNat (rl)), .int (Int32.ofNat (mn)), .int (Int32.ofNat (t + k))] [] (am_shT, mrL b, up6 mi 2 (W (k)), ml) Q) : ∀ r i, i + r = k → am_wp X (d + 6) 122 46 [.ref 0, .int (Int32.ofNat (s)), .int (Int32.ofNat (rl)), .int (Int32.ofNat (mn)), .int (Int32.ofNat (t + i))] [] (am_shT, mrL b, up6 mi 2 (W (i)), ml) Q := by
  intro r
  induction r with
  | zero =>
    intro i hi
    obtain rfl : i = k := by omega
    refine wi_iload rfl rfl ?_
    refine wi_aload_n rfl rfl ?_
    refine wi_getIv (v := (Int32.ofNat (t))) rfl (kd_0 ..) h14 ?_
    refine wi_iload_n rfl rfl ?_
    refine wn_iadd (z := (Int32.ofNat (t + mn))) rfl (add_n (a := t) (b := mn) rfl rfl) ?_
    refine wi_icmp_ge rfl (fun h9 => absurd trivial (by exfalso; have h8 := (le_n (a := t + mn) (b := t + i) rfl rfl (by omega) (by omega)).mp h9; omega)) (fun _ => ?_)
    refine wi_aload_n rfl rfl ?_
    refine wi_getR rfl (kd_0 ..) (rd_0_11 _) ?_
    refine wi_aload_n rfl rfl ?_
    refine wi_getR rfl (kd_0 ..) (rd_0_1 _) ?_
    refine wi_aload_n rfl rfl ?_
    refine wi_getR rfl (kd_0 ..) (rd_0_2 _) ?_
    refine wi_iload rfl rfl ?_
    refine wi_callV1 rfl (by decide) (by decide) rfl (kd_3 ..) rfl rfl rfl (c_rain3 (by omega) ?_)
    refine wi_callV2 rfl (by decide) (by decide) rfl (kd_bkR ..) rfl rfl rfl (c_ruleFor (z := Z i) (kd_2 ..) hq (bkC_fr hq (fun a h1 h2 => up6_ne (by omega)) hbk) ((RXb_fr hq (fun a h1 h2 => up6_ne (by omega))).trans (hZ i (by omega))) ?_)
    refine wi_iload_n rfl rfl ?_
    refine wi_icmp_ne rfl (fun h9 => absurd hyes h9) (fun _ => ?_)
    exact hQ
  | succ r ih =>
    intro i hi
    refine wi_iload rfl rfl ?_
    refine wi_aload_n rfl rfl ?_
    refine wi_getIv (v := (Int32.ofNat (t))) rfl (kd_0 ..) h14 ?_
    refine wi_iload_n rfl rfl ?_
    refine wn_iadd (z := (Int32.ofNat (t + mn))) rfl (add_n (a := t) (b := mn) rfl rfl) ?_
    refine wi_icmp_ge rfl (fun h9 => absurd trivial (by exfalso; have h8 := (le_n (a := t + mn) (b := t + i) rfl rfl (by omega) (by omega)).mp h9; omega)) (fun _ => ?_)
    refine wi_aload_n rfl rfl ?_
    refine wi_getR rfl (kd_0 ..) (rd_0_11 _) ?_
    refine wi_aload_n rfl rfl ?_
    refine wi_getR rfl (kd_0 ..) (rd_0_1 _) ?_
    refine wi_aload_n rfl rfl ?_
    refine wi_getR rfl (kd_0 ..) (rd_0_2 _) ?_
    refine wi_iload rfl rfl ?_
    refine wi_callV1 rfl (by decide) (by decide) rfl (kd_3 ..) rfl rfl rfl (c_rain3 (by omega) ?_)
    refine wi_callV2 rfl (by decide) (by decide) rfl (kd_bkR ..) rfl rfl rfl (c_ruleFor (z := Z i) (kd_2 ..) hq (bkC_fr hq (fun a h1 h2 => up6_ne (by omega)) hbk) ((RXb_fr hq (fun a h1 h2 => up6_ne (by omega))).trans (hZ i (by omega))) ?_)
    refine wi_iload_n rfl rfl ?_
    refine wi_icmp_ne rfl (fun _ => ?_) (fun h9 => absurd (hno i (by omega)) h9)
    refine wi_aload_n rfl rfl ?_
    refine wi_getR rfl (kd_0 ..) (rd_0_1 _) ?_
    refine wi_aload_n rfl rfl ?_
    refine wi_getR rfl (kd_0 ..) (rd_0_2 _) ?_
    refine wi_iload rfl rfl ?_
    refine wi_callV1 rfl (by decide) (by decide) rfl (kd_3 ..) rfl rfl rfl (c_rain3 (by omega) ?_)
    refine wi_aload_n rfl rfl ?_
    refine wi_getR rfl (kd_0 ..) (rd_0_2 _) ?_
    refine wi_iload rfl rfl ?_
    refine wi_callV1 rfl (by decide) (by decide) rfl (kd_3 ..) rfl rfl rfl (c_sun3 (by omega) ?_)
    refine wi_iconst (x := 0) rfl rfl ?_
    refine wi_iconst (x := 0) rfl rfl ?_
    refine wi_callV4 rfl (by decide) (by decide) rfl (kd_2 ..) rfl rfl rfl (c_passDay (kd_2 ..) ?_)
    refine wi_iinc (z := (Int32.ofNat (t + i + 1))) rfl rfl rfl (add_n (a := t + i) (b := 1) rfl rfl) rfl ?_
    refine wi_goto rfl ?_
    refine wp_mem (mi2 := up6 mi 2 (W (i + 1))) ?_ (ih (i + 1) (by omega))
    rw [hW i (by omega)]
    exact upT_upT
theorem xw_n {W : Nat → six} {Z : Nat → Int32} {q s rl mn t : Nat} (hs : s < 8) (hrl : rl < 8) (hmn : mn ≤ 60) (ht9 : t + mn ≤ 999) (h14 : mi 0 14 = Int32.ofNat t) (hq : q ≤ 8) (hbk : bkC mi b q) (hW : ∀ i, i < mn → W (i + 1) = dayF (W i).1 (W i).2.1 (W i).2.2.1 (W i).2.2.2.1 (W i).2.2.2.2.1 (W i).2.2.2.2.2 (mi 4 (t + i)) (mi 5 (t + i)) 0 0) (hZ : ∀ i, i < mn → frI (RXb mi b (W i) (mi 4 (t + i))) q 0 = Z i) (hno : ∀ i, i < mn → ¬ Z i = Int32.ofNat rl) (hQ : am_wp X (d + 6) 122 82 [.ref 0, .int (Int32.ofNat (s)), .int (Int32.ofNat (rl)), .int (Int32.ofNat (mn)), .int (Int32.ofNat (t + mn))] [] (am_shT, mrL b, up6 mi 2 (W (mn)), ml) Q) : ∀ r i, i + r = mn → am_wp X (d + 6) 122 46 [.ref 0, .int (Int32.ofNat (s)), .int (Int32.ofNat (rl)), .int (Int32.ofNat (mn)), .int (Int32.ofNat (t + i))] [] (am_shT, mrL b, up6 mi 2 (W (i)), ml) Q := by
  intro r
  induction r with
  | zero =>
    intro i hi
    refine wi_iload rfl rfl ?_
    refine wi_aload_n rfl rfl ?_
    refine wi_getIv (v := (Int32.ofNat (t))) rfl (kd_0 ..) h14 ?_
    refine wi_iload_n rfl rfl ?_
    refine wn_iadd (z := (Int32.ofNat (t + mn))) rfl (add_n (a := t) (b := mn) rfl rfl) ?_
    refine wi_icmp_ge rfl (fun _ => ?_) (fun h9 => absurd trivial (by exfalso; have h8 := (not_congr (le_n (a := t + mn) (b := t + i) rfl rfl (by omega) (by omega))).mp h9; omega))
    obtain rfl : i = mn := by omega
    exact hQ
  | succ r ih =>
    intro i hi
    refine wi_iload rfl rfl ?_
    refine wi_aload_n rfl rfl ?_
    refine wi_getIv (v := (Int32.ofNat (t))) rfl (kd_0 ..) h14 ?_
    refine wi_iload_n rfl rfl ?_
    refine wn_iadd (z := (Int32.ofNat (t + mn))) rfl (add_n (a := t) (b := mn) rfl rfl) ?_
    refine wi_icmp_ge rfl (fun h9 => absurd trivial (by exfalso; have h8 := (le_n (a := t + mn) (b := t + i) rfl rfl (by omega) (by omega)).mp h9; omega)) (fun _ => ?_)
    refine wi_aload_n rfl rfl ?_
    refine wi_getR rfl (kd_0 ..) (rd_0_11 _) ?_
    refine wi_aload_n rfl rfl ?_
    refine wi_getR rfl (kd_0 ..) (rd_0_1 _) ?_
    refine wi_aload_n rfl rfl ?_
    refine wi_getR rfl (kd_0 ..) (rd_0_2 _) ?_
    refine wi_iload rfl rfl ?_
    refine wi_callV1 rfl (by decide) (by decide) rfl (kd_3 ..) rfl rfl rfl (c_rain3 (by omega) ?_)
    refine wi_callV2 rfl (by decide) (by decide) rfl (kd_bkR ..) rfl rfl rfl (c_ruleFor (z := Z i) (kd_2 ..) hq (bkC_fr hq (fun a h1 h2 => up6_ne (by omega)) hbk) ((RXb_fr hq (fun a h1 h2 => up6_ne (by omega))).trans (hZ i (by omega))) ?_)
    refine wi_iload_n rfl rfl ?_
    refine wi_icmp_ne rfl (fun _ => ?_) (fun h9 => absurd (hno i (by omega)) h9)
    refine wi_aload_n rfl rfl ?_
    refine wi_getR rfl (kd_0 ..) (rd_0_1 _) ?_
    refine wi_aload_n rfl rfl ?_
    refine wi_getR rfl (kd_0 ..) (rd_0_2 _) ?_
    refine wi_iload rfl rfl ?_
    refine wi_callV1 rfl (by decide) (by decide) rfl (kd_3 ..) rfl rfl rfl (c_rain3 (by omega) ?_)
    refine wi_aload_n rfl rfl ?_
    refine wi_getR rfl (kd_0 ..) (rd_0_2 _) ?_
    refine wi_iload rfl rfl ?_
    refine wi_callV1 rfl (by decide) (by decide) rfl (kd_3 ..) rfl rfl rfl (c_sun3 (by omega) ?_)
    refine wi_iconst (x := 0) rfl rfl ?_
    refine wi_iconst (x := 0) rfl rfl ?_
    refine wi_callV4 rfl (by decide) (by decide) rfl (kd_2 ..) rfl rfl rfl (c_passDay (kd_2 ..) ?_)
    refine wi_iinc (z := (Int32.ofNat (t + i + 1))) rfl rfl rfl (add_n (a := t + i) (b := 1) rfl rfl) rfl ?_
    refine wi_goto rfl ?_
    refine wp_mem (mi2 := up6 mi 2 (W (i + 1))) ?_ (ih (i + 1) (by omega))
    rw [hW i (by omega)]
    exact upT_upT
theorem mw_s {W : Nat → six} {Z : Nat → Int32} {q s rl mn t : Nat} (hs : s < 8) (hrl : rl < 8) (hmn : mn ≤ 60) (ht9 : t + mn ≤ 999) (h5 : mi 134 5 = Int32.ofNat t) (h47 : mi 134 47 = Int32.ofNat q) (hq : q ≤ 8) (hbm : ∀ r, r < q → ∃ t : Nat, t ≤ 6 ∧ mi 158 r = Int32.ofNat t ∧ ∀ k, k < t → mi 159 (6 * r + k) = Int32.ofNat (clN (mi 159) (6 * r + k)) ∧ clN (mi 159) (6 * r + k) ≤ 7) (hW : ∀ i, i < mn → W (i + 1) = mdayF (W i).1 (W i).2.1 (W i).2.2.1 (W i).2.2.2.1 (W i).2.2.2.2.1 (W i).2.2.2.2.2 (mi 138 (t + i)) (mi 139 (t + i)) 0 0) (hZ : ∀ i, i < mn → frI (RM mi (W i) (mi 138 (t + i))) q 0 = Z i) {k : Nat} (hk : k < mn) (hyes : Z k = Int32.ofNat rl) (hno : ∀ i, i < k → ¬ Z i = Int32.ofNat rl) (hQ : am_wp X (d + 6) 187 57 [.ref 134, .int (Int32.ofNat (s)), .int (Int32.ofNat (rl)), .int (Int32.ofNat (mn)), .int (Int32.ofNat (t + k))] [] (am_shT, mrL b, up6 mi 142 (W (k)), ml) Q) : ∀ r i, i + r = k → am_wp X (d + 6) 187 46 [.ref 134, .int (Int32.ofNat (s)), .int (Int32.ofNat (rl)), .int (Int32.ofNat (mn)), .int (Int32.ofNat (t + i))] [] (am_shT, mrL b, up6 mi 142 (W (i)), ml) Q := by
  intro r
  induction r with
  | zero =>
    intro i hi
    obtain rfl : i = k := by omega
    refine wi_iload rfl rfl ?_
    refine wi_aload_n rfl rfl ?_
    refine wi_getIv (v := (Int32.ofNat (t))) rfl (kd_134 ..) h5 ?_
    refine wi_iload_n rfl rfl ?_
    refine wn_iadd (z := (Int32.ofNat (t + mn))) rfl (add_n (a := t) (b := mn) rfl rfl) ?_
    refine wi_icmp_ge rfl (fun h9 => absurd trivial (by exfalso; have h8 := (le_n (a := t + mn) (b := t + i) rfl rfl (by omega) (by omega)).mp h9; omega)) (fun _ => ?_)
    refine wi_aload_n rfl rfl ?_
    refine wi_iload rfl rfl ?_
    refine wi_callV1 rfl (by decide) (by decide) rfl (kd_134 ..) rfl rfl rfl (c_rated (w := W i) (mi := mi) (z := Z i) (by omega) rfl h47 hq hbm (hZ i (by omega)) ?_)
    refine wi_iload_n rfl rfl ?_
    refine wi_icmp_ne rfl (fun h9 => absurd hyes h9) (fun _ => ?_)
    exact hQ
  | succ r ih =>
    intro i hi
    refine wi_iload rfl rfl ?_
    refine wi_aload_n rfl rfl ?_
    refine wi_getIv (v := (Int32.ofNat (t))) rfl (kd_134 ..) h5 ?_
    refine wi_iload_n rfl rfl ?_
    refine wn_iadd (z := (Int32.ofNat (t + mn))) rfl (add_n (a := t) (b := mn) rfl rfl) ?_
    refine wi_icmp_ge rfl (fun h9 => absurd trivial (by exfalso; have h8 := (le_n (a := t + mn) (b := t + i) rfl rfl (by omega) (by omega)).mp h9; omega)) (fun _ => ?_)
    refine wi_aload_n rfl rfl ?_
    refine wi_iload rfl rfl ?_
    refine wi_callV1 rfl (by decide) (by decide) rfl (kd_134 ..) rfl rfl rfl (c_rated (w := W i) (mi := mi) (z := Z i) (by omega) rfl h47 hq hbm (hZ i (by omega)) ?_)
    refine wi_iload_n rfl rfl ?_
    refine wi_icmp_ne rfl (fun _ => ?_) (fun h9 => absurd (hno i (by omega)) h9)
    refine wi_aload_n rfl rfl ?_
    refine wi_aload_n rfl rfl ?_
    refine wi_getR rfl (kd_134 ..) (rd_134_9 _) ?_
    refine wi_iload rfl rfl ?_
    refine wn_iaload (q := t + i) (v := (mi 138 (t + i))) rfl (ln_138 ..) rfl (by omega) (by decide) (by decide) (by decide) rfl ?_
    refine wi_aload_n rfl rfl ?_
    refine wi_getR rfl (kd_134 ..) (rd_134_10 _) ?_
    refine wi_iload rfl rfl ?_
    refine wn_iaload (q := t + i) (v := (mi 139 (t + i))) rfl (ln_139 ..) rfl (by omega) (by decide) (by decide) (by decide) rfl ?_
    refine wi_iconst (x := 0) rfl rfl ?_
    refine wi_iconst (x := 0) rfl rfl ?_
    refine wi_callV4 rfl (by decide) (by decide) rfl (kd_134 ..) rfl rfl rfl (c_steps ?_)
    refine wi_iinc (z := (Int32.ofNat (t + i + 1))) rfl rfl rfl (add_n (a := t + i) (b := 1) rfl rfl) rfl ?_
    refine wi_goto rfl ?_
    refine wp_mem (mi2 := up6 mi 142 (W (i + 1))) ?_ (ih (i + 1) (by omega))
    rw [hW i (by omega)]
theorem mw_n {W : Nat → six} {Z : Nat → Int32} {q s rl mn t : Nat} (hs : s < 8) (hrl : rl < 8) (hmn : mn ≤ 60) (ht9 : t + mn ≤ 999) (h5 : mi 134 5 = Int32.ofNat t) (h47 : mi 134 47 = Int32.ofNat q) (hq : q ≤ 8) (hbm : ∀ r, r < q → ∃ t : Nat, t ≤ 6 ∧ mi 158 r = Int32.ofNat t ∧ ∀ k, k < t → mi 159 (6 * r + k) = Int32.ofNat (clN (mi 159) (6 * r + k)) ∧ clN (mi 159) (6 * r + k) ≤ 7) (hW : ∀ i, i < mn → W (i + 1) = mdayF (W i).1 (W i).2.1 (W i).2.2.1 (W i).2.2.2.1 (W i).2.2.2.2.1 (W i).2.2.2.2.2 (mi 138 (t + i)) (mi 139 (t + i)) 0 0) (hZ : ∀ i, i < mn → frI (RM mi (W i) (mi 138 (t + i))) q 0 = Z i) (hno : ∀ i, i < mn → ¬ Z i = Int32.ofNat rl) (hQ : am_wp X (d + 6) 187 73 [.ref 134, .int (Int32.ofNat (s)), .int (Int32.ofNat (rl)), .int (Int32.ofNat (mn)), .int (Int32.ofNat (t + mn))] [] (am_shT, mrL b, up6 mi 142 (W (mn)), ml) Q) : ∀ r i, i + r = mn → am_wp X (d + 6) 187 46 [.ref 134, .int (Int32.ofNat (s)), .int (Int32.ofNat (rl)), .int (Int32.ofNat (mn)), .int (Int32.ofNat (t + i))] [] (am_shT, mrL b, up6 mi 142 (W (i)), ml) Q := by
  intro r
  induction r with
  | zero =>
    intro i hi
    refine wi_iload rfl rfl ?_
    refine wi_aload_n rfl rfl ?_
    refine wi_getIv (v := (Int32.ofNat (t))) rfl (kd_134 ..) h5 ?_
    refine wi_iload_n rfl rfl ?_
    refine wn_iadd (z := (Int32.ofNat (t + mn))) rfl (add_n (a := t) (b := mn) rfl rfl) ?_
    refine wi_icmp_ge rfl (fun _ => ?_) (fun h9 => absurd trivial (by exfalso; have h8 := (not_congr (le_n (a := t + mn) (b := t + i) rfl rfl (by omega) (by omega))).mp h9; omega))
    obtain rfl : i = mn := by omega
    exact hQ
  | succ r ih =>
    intro i hi
    refine wi_iload rfl rfl ?_
    refine wi_aload_n rfl rfl ?_
    refine wi_getIv (v := (Int32.ofNat (t))) rfl (kd_134 ..) h5 ?_
    refine wi_iload_n rfl rfl ?_
    refine wn_iadd (z := (Int32.ofNat (t + mn))) rfl (add_n (a := t) (b := mn) rfl rfl) ?_
    refine wi_icmp_ge rfl (fun h9 => absurd trivial (by exfalso; have h8 := (le_n (a := t + mn) (b := t + i) rfl rfl (by omega) (by omega)).mp h9; omega)) (fun _ => ?_)
    refine wi_aload_n rfl rfl ?_
    refine wi_iload rfl rfl ?_
    refine wi_callV1 rfl (by decide) (by decide) rfl (kd_134 ..) rfl rfl rfl (c_rated (w := W i) (mi := mi) (z := Z i) (by omega) rfl h47 hq hbm (hZ i (by omega)) ?_)
    refine wi_iload_n rfl rfl ?_
    refine wi_icmp_ne rfl (fun _ => ?_) (fun h9 => absurd (hno i (by omega)) h9)
    refine wi_aload_n rfl rfl ?_
    refine wi_aload_n rfl rfl ?_
    refine wi_getR rfl (kd_134 ..) (rd_134_9 _) ?_
    refine wi_iload rfl rfl ?_
    refine wn_iaload (q := t + i) (v := (mi 138 (t + i))) rfl (ln_138 ..) rfl (by omega) (by decide) (by decide) (by decide) rfl ?_
    refine wi_aload_n rfl rfl ?_
    refine wi_getR rfl (kd_134 ..) (rd_134_10 _) ?_
    refine wi_iload rfl rfl ?_
    refine wn_iaload (q := t + i) (v := (mi 139 (t + i))) rfl (ln_139 ..) rfl (by omega) (by decide) (by decide) (by decide) rfl ?_
    refine wi_iconst (x := 0) rfl rfl ?_
    refine wi_iconst (x := 0) rfl rfl ?_
    refine wi_callV4 rfl (by decide) (by decide) rfl (kd_134 ..) rfl rfl rfl (c_steps ?_)
    refine wi_iinc (z := (Int32.ofNat (t + i + 1))) rfl rfl rfl (add_n (a := t + i) (b := 1) rfl rfl) rfl ?_
    refine wi_goto rfl ?_
    refine wp_mem (mi2 := up6 mi 142 (W (i + 1))) ?_ (ih (i + 1) (by omega))
    rw [hW i (by omega)]
end WH
set_option maxHeartbeats 4000000 in
theorem a_when {X : Nat × (Nat → Int32)} {s9 r9 m9 : Int32} : arm X 122 187 [.ref 0, .int s9, .int r9, .int m9, .retAddr 0] [.ref 134, .int s9, .int r9, .int m9, .retAddr 0] := by
  intro mi ml b hR Q hK
  obtain ⟨n, t, hst, ⟨hn0, hn4, hn⟩, ⟨ht0, ht5, ht⟩, hT, hF, hC, hM, hP, hTp, hB, hFa, hS, hMk, hfr⟩ := hR
  obtain ⟨q, hq, h47, hbk, hRe, hbm⟩ := bk_eq hB
  rcases st_cases s9 (n := n) (by omega) with e_s9 | ⟨s, h_s, rfl⟩
  · refine wi_aload_n rfl rfl ?_
    refine wi_iload_n rfl rfl ?_
    refine wi_callV1 rfl (by decide) (by decide) rfl (kd_0 ..) rfl rfl rfl (c_has hn0 e_s9 ?_)
    refine wi_if_ne rfl (fun h9 => absurd h9 (by decide)) (fun _ => ?_)
    refine wi_aload_n rfl rfl ?_
    refine wi_iconst (x := 1) rfl rfl ?_
    refine wi_callV1 rfl (by decide) (by decide) rfl (kd_0 ..) rfl rfl rfl ?_
    refine wi_aload_n rfl rfl ?_
    refine wi_iload_n rfl rfl ?_
    refine wi_putI rfl (kd_0 ..) ?_
    refine wi_iconst (x := (-1)) rfl rfl ?_
    refine wi_iret rfl (Or.inl rfl) ?_
    refine wi_iret rfl (Or.inl rfl) ?_
    refine hK _ _ _ _ (fun Q2 h2 => ?_)
    refine wi_aload_n rfl rfl ?_
    refine wi_iconst (x := 0) rfl rfl ?_
    refine wi_putI rfl (kd_134 ..) ?_
    refine wi_aload_n rfl rfl ?_
    refine wi_iconst (x := 0) rfl rfl ?_
    refine wi_putI rfl (kd_134 ..) ?_
    refine wi_aload_n rfl rfl ?_
    refine wi_iload_n rfl rfl ?_
    refine wi_callV1 rfl (by decide) (by decide) rfl (kd_134 ..) rfl rfl rfl (c_isS hn4 e_s9 ?_)
    refine wi_if_ne rfl (fun h9 => absurd h9 (by decide)) (fun _ => ?_)
    refine wi_aload_n rfl rfl ?_
    refine wi_iconst (x := 1) rfl rfl ?_
    refine wi_callV1 rfl (by decide) (by decide) rfl (kd_134 ..) rfl rfl rfl ?_
    refine wi_aload_n rfl rfl ?_
    refine wi_iload_n rfl rfl ?_
    refine wi_putI rfl (kd_134 ..) ?_
    refine wi_iconst (x := (-1)) rfl rfl ?_
    refine wi_iret rfl (Or.inl rfl) ?_
    refine wi_iret rfl (Or.inl rfl) ?_
    refine h2 _ _ _ ?_
    exact ⟨n, t, rfl, ⟨hn0, hn4, hn⟩, ⟨ht0, ht5, ht⟩, hT, hF, hC, hM, hP, hTp, hB, hFa, hS, hMk, hfr⟩
  · rcases st_cases r9 (n := q) (by omega) with e_r9 | ⟨rl, h_r, rfl⟩
    · rcases st_zr e_r9 with z_r | z_r
      · refine wi_aload_n rfl rfl ?_
        refine wi_iload_n rfl rfl ?_
        refine wi_callV1 rfl (by decide) (by decide) rfl (kd_0 ..) rfl rfl rfl (c_has hn0 (st_in (by omega) (by omega)) ?_)
        refine wi_if_ne rfl (fun _ => ?_) (fun h9 => absurd (by decide) h9)
        refine wi_iload_n rfl rfl ?_
        refine wi_iconst (x := 0) rfl rfl ?_
        refine wi_aload_n rfl rfl ?_
        refine wi_getR rfl (kd_0 ..) (rd_0_11 _) ?_
        refine wi_callV0 rfl (by decide) (by decide) rfl (kd_bkR ..) rfl rfl rfl (c_ruleCount (q := q) hbk ?_)
        refine wi_iconst (x := 1) rfl rfl ?_
        refine wi_isub rfl ?_
        refine wi_callS3 rfl (by decide) (by decide) rfl rfl rfl (c_wiV (v := 0) (by rw [wn_st hq]; exact e_r9) ?_)
        refine wi_if_eq rfl (fun _ => ?_) (fun h9 => absurd (by decide) h9)
        refine wi_aload_n rfl rfl ?_
        refine wi_iconst (x := 2) rfl rfl ?_
        refine wi_callV1 rfl (by decide) (by decide) rfl (kd_0 ..) rfl rfl rfl ?_
        refine wi_aload_n rfl rfl ?_
        refine wi_iload_n rfl rfl ?_
        refine wi_putI rfl (kd_0 ..) ?_
        refine wi_iconst (x := (-1)) rfl rfl ?_
        refine wi_iret rfl (Or.inl rfl) ?_
        refine wi_iret rfl (Or.inl rfl) ?_
        refine hK _ _ _ _ (fun Q2 h2 => ?_)
        refine wi_aload_n rfl rfl ?_
        refine wi_iconst (x := 0) rfl rfl ?_
        refine wi_putI rfl (kd_134 ..) ?_
        refine wi_aload_n rfl rfl ?_
        refine wi_iconst (x := 0) rfl rfl ?_
        refine wi_putI rfl (kd_134 ..) ?_
        refine wi_aload_n rfl rfl ?_
        refine wi_iload_n rfl rfl ?_
        refine wi_callV1 rfl (by decide) (by decide) rfl (kd_134 ..) rfl rfl rfl (c_isS hn4 (st_in (by omega) (by omega)) ?_)
        refine wi_if_ne rfl (fun _ => ?_) (fun h9 => absurd (by decide) h9)
        refine wi_iload_n rfl rfl ?_
        refine wi_if_lt rfl (fun _ => ?_) (fun h9 => absurd z_r h9)
        refine wi_aload_n rfl rfl ?_
        refine wi_iconst (x := 2) rfl rfl ?_
        refine wi_callV1 rfl (by decide) (by decide) rfl (kd_134 ..) rfl rfl rfl ?_
        refine wi_aload_n rfl rfl ?_
        refine wi_iload_n rfl rfl ?_
        refine wi_putI rfl (kd_134 ..) ?_
        refine wi_iconst (x := (-1)) rfl rfl ?_
        refine wi_iret rfl (Or.inl rfl) ?_
        refine wi_iret rfl (Or.inl rfl) ?_
        refine h2 _ _ _ ?_
        exact ⟨n, t, rfl, ⟨hn0, hn4, hn⟩, ⟨ht0, ht5, ht⟩, hT, hF, hC, hM, hP, hTp, hB, hFa, hS, hMk, hfr⟩
      · refine wi_aload_n rfl rfl ?_
        refine wi_iload_n rfl rfl ?_
        refine wi_callV1 rfl (by decide) (by decide) rfl (kd_0 ..) rfl rfl rfl (c_has hn0 (st_in (by omega) (by omega)) ?_)
        refine wi_if_ne rfl (fun _ => ?_) (fun h9 => absurd (by decide) h9)
        refine wi_iload_n rfl rfl ?_
        refine wi_iconst (x := 0) rfl rfl ?_
        refine wi_aload_n rfl rfl ?_
        refine wi_getR rfl (kd_0 ..) (rd_0_11 _) ?_
        refine wi_callV0 rfl (by decide) (by decide) rfl (kd_bkR ..) rfl rfl rfl (c_ruleCount (q := q) hbk ?_)
        refine wi_iconst (x := 1) rfl rfl ?_
        refine wi_isub rfl ?_
        refine wi_callS3 rfl (by decide) (by decide) rfl rfl rfl (c_wiV (v := 0) (by rw [wn_st hq]; exact e_r9) ?_)
        refine wi_if_eq rfl (fun _ => ?_) (fun h9 => absurd (by decide) h9)
        refine wi_aload_n rfl rfl ?_
        refine wi_iconst (x := 2) rfl rfl ?_
        refine wi_callV1 rfl (by decide) (by decide) rfl (kd_0 ..) rfl rfl rfl ?_
        refine wi_aload_n rfl rfl ?_
        refine wi_iload_n rfl rfl ?_
        refine wi_putI rfl (kd_0 ..) ?_
        refine wi_iconst (x := (-1)) rfl rfl ?_
        refine wi_iret rfl (Or.inl rfl) ?_
        refine wi_iret rfl (Or.inl rfl) ?_
        refine hK _ _ _ _ (fun Q2 h2 => ?_)
        refine wi_aload_n rfl rfl ?_
        refine wi_iconst (x := 0) rfl rfl ?_
        refine wi_putI rfl (kd_134 ..) ?_
        refine wi_aload_n rfl rfl ?_
        refine wi_iconst (x := 0) rfl rfl ?_
        refine wi_putI rfl (kd_134 ..) ?_
        refine wi_aload_n rfl rfl ?_
        refine wi_iload_n rfl rfl ?_
        refine wi_callV1 rfl (by decide) (by decide) rfl (kd_134 ..) rfl rfl rfl (c_isS hn4 (st_in (by omega) (by omega)) ?_)
        refine wi_if_ne rfl (fun _ => ?_) (fun h9 => absurd (by decide) h9)
        refine wi_iload_n rfl rfl ?_
        refine wi_if_lt rfl (fun h9 => absurd h9 z_r.1) (fun _ => ?_)
        refine wi_iload_n rfl rfl ?_
        refine wi_aload_n rfl rfl ?_
        refine wi_getIv (v := (Int32.ofNat (q))) rfl (kd_134 ..) h47 ?_
        refine wi_icmp_ge rfl (fun _ => ?_) (fun h9 => absurd z_r.2 h9)
        refine wi_aload_n rfl rfl ?_
        refine wi_iconst (x := 2) rfl rfl ?_
        refine wi_callV1 rfl (by decide) (by decide) rfl (kd_134 ..) rfl rfl rfl ?_
        refine wi_aload_n rfl rfl ?_
        refine wi_iload_n rfl rfl ?_
        refine wi_putI rfl (kd_134 ..) ?_
        refine wi_iconst (x := (-1)) rfl rfl ?_
        refine wi_iret rfl (Or.inl rfl) ?_
        refine wi_iret rfl (Or.inl rfl) ?_
        refine h2 _ _ _ ?_
        exact ⟨n, t, rfl, ⟨hn0, hn4, hn⟩, ⟨ht0, ht5, ht⟩, hT, hF, hC, hM, hP, hTp, hB, hFa, hS, hMk, hfr⟩
    · rcases wn_cases m9 1 60 (by decide) (by decide) with e_m9 | ⟨mn, l_m, h_m, rfl⟩
      · rcases wn_zero.mp e_m9 with z_m9 | z_m9
        · refine wi_aload_n rfl rfl ?_
          refine wi_iload_n rfl rfl ?_
          refine wi_callV1 rfl (by decide) (by decide) rfl (kd_0 ..) rfl rfl rfl (c_has hn0 (st_in (by omega) (by omega)) ?_)
          refine wi_if_ne rfl (fun _ => ?_) (fun h9 => absurd (by decide) h9)
          refine wi_iload_n rfl rfl ?_
          refine wi_iconst (x := 0) rfl rfl ?_
          refine wi_aload_n rfl rfl ?_
          refine wi_getR rfl (kd_0 ..) (rd_0_11 _) ?_
          refine wi_callV0 rfl (by decide) (by decide) rfl (kd_bkR ..) rfl rfl rfl (c_ruleCount (q := q) hbk ?_)
          refine wi_iconst (x := 1) rfl rfl ?_
          refine wi_isub rfl ?_
          refine wi_callS3 rfl (by decide) (by decide) rfl rfl rfl (c_wiV (v := 1) (by rw [wn_st hq]; exact st_in (by omega) (by omega)) ?_)
          refine wi_if_eq rfl (fun h9 => absurd h9 (by decide)) (fun _ => ?_)
          refine wi_iload_n rfl rfl ?_
          refine wi_iconst (x := 1) rfl rfl ?_
          refine wi_bipush (x := 60) rfl rfl ?_
          refine wi_callS3 rfl (by decide) (by decide) rfl rfl rfl (c_wiV e_m9 ?_)
          refine wi_if_ne rfl (fun h9 => absurd h9 (by decide)) (fun _ => ?_)
          refine wi_aload_n rfl rfl ?_
          refine wi_iconst (x := 2) rfl rfl ?_
          refine wi_callV1 rfl (by decide) (by decide) rfl (kd_0 ..) rfl rfl rfl ?_
          refine wi_aload_n rfl rfl ?_
          refine wi_iload_n rfl rfl ?_
          refine wi_putI rfl (kd_0 ..) ?_
          refine wi_iconst (x := (-1)) rfl rfl ?_
          refine wi_iret rfl (Or.inl rfl) ?_
          refine wi_iret rfl (Or.inl rfl) ?_
          refine hK _ _ _ _ (fun Q2 h2 => ?_)
          refine wi_aload_n rfl rfl ?_
          refine wi_iconst (x := 0) rfl rfl ?_
          refine wi_putI rfl (kd_134 ..) ?_
          refine wi_aload_n rfl rfl ?_
          refine wi_iconst (x := 0) rfl rfl ?_
          refine wi_putI rfl (kd_134 ..) ?_
          refine wi_aload_n rfl rfl ?_
          refine wi_iload_n rfl rfl ?_
          refine wi_callV1 rfl (by decide) (by decide) rfl (kd_134 ..) rfl rfl rfl (c_isS hn4 (st_in (by omega) (by omega)) ?_)
          refine wi_if_ne rfl (fun _ => ?_) (fun h9 => absurd (by decide) h9)
          refine wi_iload_n rfl rfl ?_
          refine wi_if_lt rfl (fun h9 => absurd trivial (by exfalso; have h8 := (lt_n (a := rl) (b := 0) rfl (rfl : (0 : Int32) = Int32.ofNat 0) (by omega) (by omega)).mp h9; omega)) (fun _ => ?_)
          refine wi_iload_n rfl rfl ?_
          refine wi_aload_n rfl rfl ?_
          refine wi_getIv (v := (Int32.ofNat (q))) rfl (kd_134 ..) h47 ?_
          refine wi_icmp_ge rfl (fun h9 => absurd trivial (by exfalso; have h8 := (le_n (a := q) (b := rl) rfl rfl (by omega) (by omega)).mp h9; omega)) (fun _ => ?_)
          refine wi_iload_n rfl rfl ?_
          refine wi_iconst (x := 1) rfl rfl ?_
          refine wi_icmp_lt rfl (fun _ => ?_) (fun h9 => absurd z_m9 h9)
          refine wi_aload_n rfl rfl ?_
          refine wi_iconst (x := 2) rfl rfl ?_
          refine wi_callV1 rfl (by decide) (by decide) rfl (kd_134 ..) rfl rfl rfl ?_
          refine wi_aload_n rfl rfl ?_
          refine wi_iload_n rfl rfl ?_
          refine wi_putI rfl (kd_134 ..) ?_
          refine wi_iconst (x := (-1)) rfl rfl ?_
          refine wi_iret rfl (Or.inl rfl) ?_
          refine wi_iret rfl (Or.inl rfl) ?_
          refine h2 _ _ _ ?_
          exact ⟨n, t, rfl, ⟨hn0, hn4, hn⟩, ⟨ht0, ht5, ht⟩, hT, hF, hC, hM, hP, hTp, hB, hFa, hS, hMk, hfr⟩
        · refine wi_aload_n rfl rfl ?_
          refine wi_iload_n rfl rfl ?_
          refine wi_callV1 rfl (by decide) (by decide) rfl (kd_0 ..) rfl rfl rfl (c_has hn0 (st_in (by omega) (by omega)) ?_)
          refine wi_if_ne rfl (fun _ => ?_) (fun h9 => absurd (by decide) h9)
          refine wi_iload_n rfl rfl ?_
          refine wi_iconst (x := 0) rfl rfl ?_
          refine wi_aload_n rfl rfl ?_
          refine wi_getR rfl (kd_0 ..) (rd_0_11 _) ?_
          refine wi_callV0 rfl (by decide) (by decide) rfl (kd_bkR ..) rfl rfl rfl (c_ruleCount (q := q) hbk ?_)
          refine wi_iconst (x := 1) rfl rfl ?_
          refine wi_isub rfl ?_
          refine wi_callS3 rfl (by decide) (by decide) rfl rfl rfl (c_wiV (v := 1) (by rw [wn_st hq]; exact st_in (by omega) (by omega)) ?_)
          refine wi_if_eq rfl (fun h9 => absurd h9 (by decide)) (fun _ => ?_)
          refine wi_iload_n rfl rfl ?_
          refine wi_iconst (x := 1) rfl rfl ?_
          refine wi_bipush (x := 60) rfl rfl ?_
          refine wi_callS3 rfl (by decide) (by decide) rfl rfl rfl (c_wiV e_m9 ?_)
          refine wi_if_ne rfl (fun h9 => absurd h9 (by decide)) (fun _ => ?_)
          refine wi_aload_n rfl rfl ?_
          refine wi_iconst (x := 2) rfl rfl ?_
          refine wi_callV1 rfl (by decide) (by decide) rfl (kd_0 ..) rfl rfl rfl ?_
          refine wi_aload_n rfl rfl ?_
          refine wi_iload_n rfl rfl ?_
          refine wi_putI rfl (kd_0 ..) ?_
          refine wi_iconst (x := (-1)) rfl rfl ?_
          refine wi_iret rfl (Or.inl rfl) ?_
          refine wi_iret rfl (Or.inl rfl) ?_
          refine hK _ _ _ _ (fun Q2 h2 => ?_)
          refine wi_aload_n rfl rfl ?_
          refine wi_iconst (x := 0) rfl rfl ?_
          refine wi_putI rfl (kd_134 ..) ?_
          refine wi_aload_n rfl rfl ?_
          refine wi_iconst (x := 0) rfl rfl ?_
          refine wi_putI rfl (kd_134 ..) ?_
          refine wi_aload_n rfl rfl ?_
          refine wi_iload_n rfl rfl ?_
          refine wi_callV1 rfl (by decide) (by decide) rfl (kd_134 ..) rfl rfl rfl (c_isS hn4 (st_in (by omega) (by omega)) ?_)
          refine wi_if_ne rfl (fun _ => ?_) (fun h9 => absurd (by decide) h9)
          refine wi_iload_n rfl rfl ?_
          refine wi_if_lt rfl (fun h9 => absurd trivial (by exfalso; have h8 := (lt_n (a := rl) (b := 0) rfl (rfl : (0 : Int32) = Int32.ofNat 0) (by omega) (by omega)).mp h9; omega)) (fun _ => ?_)
          refine wi_iload_n rfl rfl ?_
          refine wi_aload_n rfl rfl ?_
          refine wi_getIv (v := (Int32.ofNat (q))) rfl (kd_134 ..) h47 ?_
          refine wi_icmp_ge rfl (fun h9 => absurd trivial (by exfalso; have h8 := (le_n (a := q) (b := rl) rfl rfl (by omega) (by omega)).mp h9; omega)) (fun _ => ?_)
          refine wi_iload_n rfl rfl ?_
          refine wi_iconst (x := 1) rfl rfl ?_
          refine wi_icmp_lt rfl (fun h9 => absurd (Int32.lt_trans z_m9 h9) (by decide)) (fun _ => ?_)
          refine wi_iload_n rfl rfl ?_
          refine wi_bipush (x := 60) rfl rfl ?_
          refine wi_icmp_le rfl (fun h9 => absurd z_m9 (Int32.not_lt.mpr h9)) (fun _ => ?_)
          refine wi_aload_n rfl rfl ?_
          refine wi_iconst (x := 2) rfl rfl ?_
          refine wi_callV1 rfl (by decide) (by decide) rfl (kd_134 ..) rfl rfl rfl ?_
          refine wi_aload_n rfl rfl ?_
          refine wi_iload_n rfl rfl ?_
          refine wi_putI rfl (kd_134 ..) ?_
          refine wi_iconst (x := (-1)) rfl rfl ?_
          refine wi_iret rfl (Or.inl rfl) ?_
          refine wi_iret rfl (Or.inl rfl) ?_
          refine h2 _ _ _ ?_
          exact ⟨n, t, rfl, ⟨hn0, hn4, hn⟩, ⟨ht0, ht5, ht⟩, hT, hF, hC, hM, hP, hTp, hB, hFa, hS, hMk, hfr⟩
      · by_cases h999 : t + mn ≤ 999
        · have hTs := rTurf_at hT (q := s) (by omega) hn
          obtain ⟨⟨a0, a1, a2, a3, a4, a5, a6, a7⟩, hTb⟩ := hTs
          obtain ⟨w0, hw⟩ : ∃ w, w = sx (mi (126 + s)) := ⟨_, rfl⟩
          have hwb : wB w0 := by
            rw [hw]
            exact ⟨hTb.1, hTb.2.1, hTb.2.2.1, hTb.2.2.2.1, hTb.2.2.2.2.1, hTb.2.2.2.2.2.1⟩
          have hw3 : ∀ mm : Nat → Nat → Int32, mm 135 = mi 135 → upT mm 142 (mm 135 (6 * s + 0)) (mm 135 (6 * s + 1)) (mm 135 (6 * s + 2)) (mm 135 (6 * s + 3)) (mm 135 (6 * s + 4)) (mm 135 (6 * s + 5)) = up6 mm 142 (wS w0 (mi 4) (mi 5) t 0) := fun mm e9 => by
            show _ = up6 mm 142 w0
            rw [e9, hw, ← a0, ← a1, ← a2, ← a3, ← a4, ← a5]
            rfl
          have hwx : upT mi 2 (mi (126 + s) 0) (mi (126 + s) 1) (mi (126 + s) 2) (mi (126 + s) 3) (mi (126 + s) 4) (mi (126 + s) 5) = up6 mi 2 (wS w0 (mi 4) (mi 5) t 0) := by
            show _ = up6 mi 2 w0
            rw [hw]
            rfl
          obtain ⟨Z, hZ⟩ : ∃ Z : Nat → Int32, ∀ i, i < mn → frI (RXb mi b (wS w0 (mi 4) (mi 5) t i) (mi 4 (t + i))) q 0 = Z i := ⟨_, fun _ _ => rfl⟩
          have hZm : ∀ i, i < mn → frI (RM mi (wS w0 (mi 4) (mi 5) t i) (mi 138 (t + i))) q 0 = Z i := fun i hi => by
            rw [← hZ i hi, ← (hF (t + i) (by omega)).1]
            exact (frI_congr (fun r hr => hRe _ _ r hr) q 0 (by omega)).symm
          have hWm : ∀ i, i < mn → wS w0 (mi 4) (mi 5) t (i + 1) = mdayF (wS w0 (mi 4) (mi 5) t i).1 (wS w0 (mi 4) (mi 5) t i).2.1 (wS w0 (mi 4) (mi 5) t i).2.2.1 (wS w0 (mi 4) (mi 5) t i).2.2.2.1 (wS w0 (mi 4) (mi 5) t i).2.2.2.2.1 (wS w0 (mi 4) (mi 5) t i).2.2.2.2.2 (mi 138 (t + i)) (mi 139 (t + i)) 0 0 := fun i hi => by
            rw [← (hF (t + i) (by omega)).1, ← (hF (t + i) (by omega)).2.1]
            exact wS_m hwb i (hF (t + i) (by omega)).2.2.1
          rcases fst_cases (fun i => Z i = Int32.ofNat rl) mn with hno | ⟨k, hk, hyes, hno⟩
          · refine wi_aload_n rfl rfl ?_
            refine wi_iload_n rfl rfl ?_
            refine wi_callV1 rfl (by decide) (by decide) rfl (kd_0 ..) rfl rfl rfl (c_has hn0 (st_in (by omega) (by omega)) ?_)
            refine wi_if_ne rfl (fun _ => ?_) (fun h9 => absurd (by decide) h9)
            refine wi_iload_n rfl rfl ?_
            refine wi_iconst (x := 0) rfl rfl ?_
            refine wi_aload_n rfl rfl ?_
            refine wi_getR rfl (kd_0 ..) (rd_0_11 _) ?_
            refine wi_callV0 rfl (by decide) (by decide) rfl (kd_bkR ..) rfl rfl rfl (c_ruleCount (q := q) hbk ?_)
            refine wi_iconst (x := 1) rfl rfl ?_
            refine wi_isub rfl ?_
            refine wi_callS3 rfl (by decide) (by decide) rfl rfl rfl (c_wiV (v := 1) (by rw [wn_st hq]; exact st_in (by omega) (by omega)) ?_)
            refine wi_if_eq rfl (fun h9 => absurd h9 (by decide)) (fun _ => ?_)
            refine wi_iload_n rfl rfl ?_
            refine wi_iconst (x := 1) rfl rfl ?_
            refine wi_bipush (x := 60) rfl rfl ?_
            refine wi_callS3 rfl (by decide) (by decide) rfl rfl rfl (c_wiV (wn_in (lo := 1) (hi := 60) (by omega) (by omega) (by decide)) ?_)
            refine wi_if_ne rfl (fun _ => ?_) (fun h9 => absurd (by decide) h9)
            refine wi_aload_n rfl rfl ?_
            refine wi_getIv (v := (Int32.ofNat (t))) rfl (kd_0 ..) ht0 ?_
            refine wi_iload_n rfl rfl ?_
            refine wn_iadd (z := (Int32.ofNat (t + mn))) rfl (add_n (a := t) (b := mn) rfl rfl) ?_
            refine wi_sipush (x := 999) rfl rfl ?_
            refine wi_icmp_le rfl (fun _ => ?_) (fun h9 => absurd trivial (by exfalso; have h8 := (not_congr (le_n (a := t + mn) (b := 999) rfl (rfl : (999 : Int32) = Int32.ofNat 999) (by omega) (by omega))).mp h9; omega))
            refine wi_aload_n rfl rfl ?_
            refine wi_getR rfl (kd_0 ..) (rd_0_1 _) ?_
            refine wi_aload_n rfl rfl ?_
            refine wi_getR rfl (kd_0 ..) (rd_0_0 _) ?_
            refine wi_iload_n rfl rfl ?_
            refine wn_aaload (q := s) rfl (Or.inl (ln_1 ..)) rfl (by omega) (by decide) (ra_1 _ _ (by omega)) ?_
            refine wi_callV1 rfl (by decide) (by decide) rfl (kd_2 ..) rfl rfl rfl (c_copyFrom (kd_2 ..) (kr_1 (by omega) ..) (by omega) ?_)
            refine wi_aload_n rfl rfl ?_
            refine wi_getIv (v := (Int32.ofNat (t))) rfl (kd_0 ..) ht0 ?_
            refine wi_istore rfl (Nat.le_of_ble_eq_true rfl) rfl rfl ?_
            refine wp_mem hwx ?_
            refine xw_n (W := wS w0 (mi 4) (mi 5) t) (Z := Z) (by omega) (by omega) h_m h999 ht0 hq hbk (fun i _ => rfl) hZ hno ?_ mn 0 (by omega)
            refine wi_aload_n rfl rfl ?_
            refine wi_iconst (x := 5) rfl rfl ?_
            refine wi_callV1 rfl (by decide) (by decide) rfl (kd_0 ..) rfl rfl rfl ?_
            refine wi_aload_n rfl rfl ?_
            refine wi_iload_n rfl rfl ?_
            refine wi_putI rfl (kd_0 ..) ?_
            refine wi_iconst (x := (-1)) rfl rfl ?_
            refine wi_iret rfl (Or.inl rfl) ?_
            refine wi_iret rfl (Or.inl rfl) ?_
            refine hK _ _ _ _ (fun Q2 h2 => ?_)
            refine wi_aload_n rfl rfl ?_
            refine wi_iconst (x := 0) rfl rfl ?_
            refine wi_putI rfl (kd_134 ..) ?_
            refine wi_aload_n rfl rfl ?_
            refine wi_iconst (x := 0) rfl rfl ?_
            refine wi_putI rfl (kd_134 ..) ?_
            refine wi_aload_n rfl rfl ?_
            refine wi_iload_n rfl rfl ?_
            refine wi_callV1 rfl (by decide) (by decide) rfl (kd_134 ..) rfl rfl rfl (c_isS hn4 (st_in (by omega) (by omega)) ?_)
            refine wi_if_ne rfl (fun _ => ?_) (fun h9 => absurd (by decide) h9)
            refine wi_iload_n rfl rfl ?_
            refine wi_if_lt rfl (fun h9 => absurd trivial (by exfalso; have h8 := (lt_n (a := rl) (b := 0) rfl (rfl : (0 : Int32) = Int32.ofNat 0) (by omega) (by omega)).mp h9; omega)) (fun _ => ?_)
            refine wi_iload_n rfl rfl ?_
            refine wi_aload_n rfl rfl ?_
            refine wi_getIv (v := (Int32.ofNat (q))) rfl (kd_134 ..) h47 ?_
            refine wi_icmp_ge rfl (fun h9 => absurd trivial (by exfalso; have h8 := (le_n (a := q) (b := rl) rfl rfl (by omega) (by omega)).mp h9; omega)) (fun _ => ?_)
            refine wi_iload_n rfl rfl ?_
            refine wi_iconst (x := 1) rfl rfl ?_
            refine wi_icmp_lt rfl (fun h9 => absurd trivial (by exfalso; have h8 := (lt_n (a := mn) (b := 1) rfl (rfl : (1 : Int32) = Int32.ofNat 1) (by omega) (by omega)).mp h9; omega)) (fun _ => ?_)
            refine wi_iload_n rfl rfl ?_
            refine wi_bipush (x := 60) rfl rfl ?_
            refine wi_icmp_le rfl (fun _ => ?_) (fun h9 => absurd trivial (by exfalso; have h8 := (not_congr (le_n (a := mn) (b := 60) rfl (rfl : (60 : Int32) = Int32.ofNat 60) (by omega) (by omega))).mp h9; omega))
            refine wi_aload_n rfl rfl ?_
            refine wi_getIv (v := (Int32.ofNat (t))) rfl (kd_134 ..) ht5 ?_
            refine wi_iload_n rfl rfl ?_
            refine wn_iadd (z := (Int32.ofNat (t + mn))) rfl (add_n (a := t) (b := mn) rfl rfl) ?_
            refine wi_sipush (x := 999) rfl rfl ?_
            refine wi_icmp_le rfl (fun _ => ?_) (fun h9 => absurd trivial (by exfalso; have h8 := (not_congr (le_n (a := t + mn) (b := 999) rfl (rfl : (999 : Int32) = Int32.ofNat 999) (by omega) (by omega))).mp h9; omega))
            refine wi_aload_n rfl rfl ?_
            refine wi_iload_n rfl rfl ?_
            refine wi_callV1 rfl (by decide) (by decide) rfl (kd_134 ..) rfl rfl rfl (c_begin (by omega) ?_)
            refine wi_aload_n rfl rfl ?_
            refine wi_getIv (v := (Int32.ofNat (t))) rfl (kd_134 ..) ht5 ?_
            refine wi_istore rfl (Nat.le_of_ble_eq_true rfl) rfl rfl ?_
            refine wp_mem (hw3 (u2 (u2 (u2 (up6 mi 2 (wS w0 (mi 4) (mi 5) t mn)) 0 12 (5 : Int32)) 134 1 (0 : Int32)) 134 0 (0 : Int32)) rfl) ?_
            refine mw_n (mi := (u2 (u2 (u2 (up6 mi 2 (wS w0 (mi 4) (mi 5) t mn)) 0 12 (5 : Int32)) 134 1 (0 : Int32)) 134 0 (0 : Int32))) (W := wS w0 (mi 4) (mi 5) t) (Z := Z) (by omega) (by omega) h_m h999 ht5 h47 hq hbm hWm hZm hno ?_ mn 0 (by omega)
            refine wi_aload_n rfl rfl ?_
            refine wi_iconst (x := 5) rfl rfl ?_
            refine wi_callV1 rfl (by decide) (by decide) rfl (kd_134 ..) rfl rfl rfl ?_
            refine wi_aload_n rfl rfl ?_
            refine wi_iload_n rfl rfl ?_
            refine wi_putI rfl (kd_134 ..) ?_
            refine wi_iconst (x := (-1)) rfl rfl ?_
            refine wi_iret rfl (Or.inl rfl) ?_
            refine wi_iret rfl (Or.inl rfl) ?_
            refine h2 _ _ _ ?_
            exact ⟨n, t, rfl, ⟨hn0, hn4, hn⟩, ⟨ht0, ht5, ht⟩, hT, hF, hC, hM, hP, hTp, hB, hFa, hS, hMk, hfr⟩
          · refine wi_aload_n rfl rfl ?_
            refine wi_iload_n rfl rfl ?_
            refine wi_callV1 rfl (by decide) (by decide) rfl (kd_0 ..) rfl rfl rfl (c_has hn0 (st_in (by omega) (by omega)) ?_)
            refine wi_if_ne rfl (fun _ => ?_) (fun h9 => absurd (by decide) h9)
            refine wi_iload_n rfl rfl ?_
            refine wi_iconst (x := 0) rfl rfl ?_
            refine wi_aload_n rfl rfl ?_
            refine wi_getR rfl (kd_0 ..) (rd_0_11 _) ?_
            refine wi_callV0 rfl (by decide) (by decide) rfl (kd_bkR ..) rfl rfl rfl (c_ruleCount (q := q) hbk ?_)
            refine wi_iconst (x := 1) rfl rfl ?_
            refine wi_isub rfl ?_
            refine wi_callS3 rfl (by decide) (by decide) rfl rfl rfl (c_wiV (v := 1) (by rw [wn_st hq]; exact st_in (by omega) (by omega)) ?_)
            refine wi_if_eq rfl (fun h9 => absurd h9 (by decide)) (fun _ => ?_)
            refine wi_iload_n rfl rfl ?_
            refine wi_iconst (x := 1) rfl rfl ?_
            refine wi_bipush (x := 60) rfl rfl ?_
            refine wi_callS3 rfl (by decide) (by decide) rfl rfl rfl (c_wiV (wn_in (lo := 1) (hi := 60) (by omega) (by omega) (by decide)) ?_)
            refine wi_if_ne rfl (fun _ => ?_) (fun h9 => absurd (by decide) h9)
            refine wi_aload_n rfl rfl ?_
            refine wi_getIv (v := (Int32.ofNat (t))) rfl (kd_0 ..) ht0 ?_
            refine wi_iload_n rfl rfl ?_
            refine wn_iadd (z := (Int32.ofNat (t + mn))) rfl (add_n (a := t) (b := mn) rfl rfl) ?_
            refine wi_sipush (x := 999) rfl rfl ?_
            refine wi_icmp_le rfl (fun _ => ?_) (fun h9 => absurd trivial (by exfalso; have h8 := (not_congr (le_n (a := t + mn) (b := 999) rfl (rfl : (999 : Int32) = Int32.ofNat 999) (by omega) (by omega))).mp h9; omega))
            refine wi_aload_n rfl rfl ?_
            refine wi_getR rfl (kd_0 ..) (rd_0_1 _) ?_
            refine wi_aload_n rfl rfl ?_
            refine wi_getR rfl (kd_0 ..) (rd_0_0 _) ?_
            refine wi_iload_n rfl rfl ?_
            refine wn_aaload (q := s) rfl (Or.inl (ln_1 ..)) rfl (by omega) (by decide) (ra_1 _ _ (by omega)) ?_
            refine wi_callV1 rfl (by decide) (by decide) rfl (kd_2 ..) rfl rfl rfl (c_copyFrom (kd_2 ..) (kr_1 (by omega) ..) (by omega) ?_)
            refine wi_aload_n rfl rfl ?_
            refine wi_getIv (v := (Int32.ofNat (t))) rfl (kd_0 ..) ht0 ?_
            refine wi_istore rfl (Nat.le_of_ble_eq_true rfl) rfl rfl ?_
            refine wp_mem hwx ?_
            refine xw_s (W := wS w0 (mi 4) (mi 5) t) (Z := Z) (by omega) (by omega) h_m h999 ht0 hq hbk (fun i _ => rfl) hZ hk hyes hno ?_ k 0 (by omega)
            refine wi_aload_n rfl rfl ?_
            refine wi_iload rfl rfl ?_
            refine wi_callV1 rfl (by decide) (by decide) rfl (kd_0 ..) rfl rfl rfl ?_
            refine wi_aload_n rfl rfl ?_
            refine wi_iconst (x := 0) rfl rfl ?_
            refine wi_putI rfl (kd_0 ..) ?_
            refine wi_iload_n rfl rfl ?_
            refine wi_iret rfl (Or.inl rfl) ?_
            refine wi_iret rfl (Or.inl rfl) ?_
            refine hK _ _ _ _ (fun Q2 h2 => ?_)
            refine wi_aload_n rfl rfl ?_
            refine wi_iconst (x := 0) rfl rfl ?_
            refine wi_putI rfl (kd_134 ..) ?_
            refine wi_aload_n rfl rfl ?_
            refine wi_iconst (x := 0) rfl rfl ?_
            refine wi_putI rfl (kd_134 ..) ?_
            refine wi_aload_n rfl rfl ?_
            refine wi_iload_n rfl rfl ?_
            refine wi_callV1 rfl (by decide) (by decide) rfl (kd_134 ..) rfl rfl rfl (c_isS hn4 (st_in (by omega) (by omega)) ?_)
            refine wi_if_ne rfl (fun _ => ?_) (fun h9 => absurd (by decide) h9)
            refine wi_iload_n rfl rfl ?_
            refine wi_if_lt rfl (fun h9 => absurd trivial (by exfalso; have h8 := (lt_n (a := rl) (b := 0) rfl (rfl : (0 : Int32) = Int32.ofNat 0) (by omega) (by omega)).mp h9; omega)) (fun _ => ?_)
            refine wi_iload_n rfl rfl ?_
            refine wi_aload_n rfl rfl ?_
            refine wi_getIv (v := (Int32.ofNat (q))) rfl (kd_134 ..) h47 ?_
            refine wi_icmp_ge rfl (fun h9 => absurd trivial (by exfalso; have h8 := (le_n (a := q) (b := rl) rfl rfl (by omega) (by omega)).mp h9; omega)) (fun _ => ?_)
            refine wi_iload_n rfl rfl ?_
            refine wi_iconst (x := 1) rfl rfl ?_
            refine wi_icmp_lt rfl (fun h9 => absurd trivial (by exfalso; have h8 := (lt_n (a := mn) (b := 1) rfl (rfl : (1 : Int32) = Int32.ofNat 1) (by omega) (by omega)).mp h9; omega)) (fun _ => ?_)
            refine wi_iload_n rfl rfl ?_
            refine wi_bipush (x := 60) rfl rfl ?_
            refine wi_icmp_le rfl (fun _ => ?_) (fun h9 => absurd trivial (by exfalso; have h8 := (not_congr (le_n (a := mn) (b := 60) rfl (rfl : (60 : Int32) = Int32.ofNat 60) (by omega) (by omega))).mp h9; omega))
            refine wi_aload_n rfl rfl ?_
            refine wi_getIv (v := (Int32.ofNat (t))) rfl (kd_134 ..) ht5 ?_
            refine wi_iload_n rfl rfl ?_
            refine wn_iadd (z := (Int32.ofNat (t + mn))) rfl (add_n (a := t) (b := mn) rfl rfl) ?_
            refine wi_sipush (x := 999) rfl rfl ?_
            refine wi_icmp_le rfl (fun _ => ?_) (fun h9 => absurd trivial (by exfalso; have h8 := (not_congr (le_n (a := t + mn) (b := 999) rfl (rfl : (999 : Int32) = Int32.ofNat 999) (by omega) (by omega))).mp h9; omega))
            refine wi_aload_n rfl rfl ?_
            refine wi_iload_n rfl rfl ?_
            refine wi_callV1 rfl (by decide) (by decide) rfl (kd_134 ..) rfl rfl rfl (c_begin (by omega) ?_)
            refine wi_aload_n rfl rfl ?_
            refine wi_getIv (v := (Int32.ofNat (t))) rfl (kd_134 ..) ht5 ?_
            refine wi_istore rfl (Nat.le_of_ble_eq_true rfl) rfl rfl ?_
            refine wp_mem (hw3 (u2 (u2 (u2 (up6 mi 2 (wS w0 (mi 4) (mi 5) t k)) 0 12 (0 : Int32)) 134 1 (0 : Int32)) 134 0 (0 : Int32)) rfl) ?_
            refine mw_s (mi := (u2 (u2 (u2 (up6 mi 2 (wS w0 (mi 4) (mi 5) t k)) 0 12 (0 : Int32)) 134 1 (0 : Int32)) 134 0 (0 : Int32))) (W := wS w0 (mi 4) (mi 5) t) (Z := Z) (by omega) (by omega) h_m h999 ht5 h47 hq hbm hWm hZm hk hyes hno ?_ k 0 (by omega)
            refine wi_iload rfl rfl ?_
            refine wi_iret rfl (Or.inl rfl) ?_
            refine h2 _ _ _ ?_
            exact ⟨n, t, rfl, ⟨hn0, hn4, hn⟩, ⟨ht0, ht5, ht⟩, hT, hF, hC, hM, hP, hTp, hB, hFa, hS, hMk, hfr⟩
        · refine wi_aload_n rfl rfl ?_
          refine wi_iload_n rfl rfl ?_
          refine wi_callV1 rfl (by decide) (by decide) rfl (kd_0 ..) rfl rfl rfl (c_has hn0 (st_in (by omega) (by omega)) ?_)
          refine wi_if_ne rfl (fun _ => ?_) (fun h9 => absurd (by decide) h9)
          refine wi_iload_n rfl rfl ?_
          refine wi_iconst (x := 0) rfl rfl ?_
          refine wi_aload_n rfl rfl ?_
          refine wi_getR rfl (kd_0 ..) (rd_0_11 _) ?_
          refine wi_callV0 rfl (by decide) (by decide) rfl (kd_bkR ..) rfl rfl rfl (c_ruleCount (q := q) hbk ?_)
          refine wi_iconst (x := 1) rfl rfl ?_
          refine wi_isub rfl ?_
          refine wi_callS3 rfl (by decide) (by decide) rfl rfl rfl (c_wiV (v := 1) (by rw [wn_st hq]; exact st_in (by omega) (by omega)) ?_)
          refine wi_if_eq rfl (fun h9 => absurd h9 (by decide)) (fun _ => ?_)
          refine wi_iload_n rfl rfl ?_
          refine wi_iconst (x := 1) rfl rfl ?_
          refine wi_bipush (x := 60) rfl rfl ?_
          refine wi_callS3 rfl (by decide) (by decide) rfl rfl rfl (c_wiV (wn_in (lo := 1) (hi := 60) (by omega) (by omega) (by decide)) ?_)
          refine wi_if_ne rfl (fun _ => ?_) (fun h9 => absurd (by decide) h9)
          refine wi_aload_n rfl rfl ?_
          refine wi_getIv (v := (Int32.ofNat (t))) rfl (kd_0 ..) ht0 ?_
          refine wi_iload_n rfl rfl ?_
          refine wn_iadd (z := (Int32.ofNat (t + mn))) rfl (add_n (a := t) (b := mn) rfl rfl) ?_
          refine wi_sipush (x := 999) rfl rfl ?_
          refine wi_icmp_le rfl (fun h9 => absurd trivial (by exfalso; have h8 := (le_n (a := t + mn) (b := 999) rfl (rfl : (999 : Int32) = Int32.ofNat 999) (by omega) (by omega)).mp h9; omega)) (fun _ => ?_)
          refine wi_aload_n rfl rfl ?_
          refine wi_bipush (x := 6) rfl rfl ?_
          refine wi_callV1 rfl (by decide) (by decide) rfl (kd_0 ..) rfl rfl rfl ?_
          refine wi_aload_n rfl rfl ?_
          refine wi_iload_n rfl rfl ?_
          refine wi_putI rfl (kd_0 ..) ?_
          refine wi_iconst (x := (-1)) rfl rfl ?_
          refine wi_iret rfl (Or.inl rfl) ?_
          refine wi_iret rfl (Or.inl rfl) ?_
          refine hK _ _ _ _ (fun Q2 h2 => ?_)
          refine wi_aload_n rfl rfl ?_
          refine wi_iconst (x := 0) rfl rfl ?_
          refine wi_putI rfl (kd_134 ..) ?_
          refine wi_aload_n rfl rfl ?_
          refine wi_iconst (x := 0) rfl rfl ?_
          refine wi_putI rfl (kd_134 ..) ?_
          refine wi_aload_n rfl rfl ?_
          refine wi_iload_n rfl rfl ?_
          refine wi_callV1 rfl (by decide) (by decide) rfl (kd_134 ..) rfl rfl rfl (c_isS hn4 (st_in (by omega) (by omega)) ?_)
          refine wi_if_ne rfl (fun _ => ?_) (fun h9 => absurd (by decide) h9)
          refine wi_iload_n rfl rfl ?_
          refine wi_if_lt rfl (fun h9 => absurd trivial (by exfalso; have h8 := (lt_n (a := rl) (b := 0) rfl (rfl : (0 : Int32) = Int32.ofNat 0) (by omega) (by omega)).mp h9; omega)) (fun _ => ?_)
          refine wi_iload_n rfl rfl ?_
          refine wi_aload_n rfl rfl ?_
          refine wi_getIv (v := (Int32.ofNat (q))) rfl (kd_134 ..) h47 ?_
          refine wi_icmp_ge rfl (fun h9 => absurd trivial (by exfalso; have h8 := (le_n (a := q) (b := rl) rfl rfl (by omega) (by omega)).mp h9; omega)) (fun _ => ?_)
          refine wi_iload_n rfl rfl ?_
          refine wi_iconst (x := 1) rfl rfl ?_
          refine wi_icmp_lt rfl (fun h9 => absurd trivial (by exfalso; have h8 := (lt_n (a := mn) (b := 1) rfl (rfl : (1 : Int32) = Int32.ofNat 1) (by omega) (by omega)).mp h9; omega)) (fun _ => ?_)
          refine wi_iload_n rfl rfl ?_
          refine wi_bipush (x := 60) rfl rfl ?_
          refine wi_icmp_le rfl (fun _ => ?_) (fun h9 => absurd trivial (by exfalso; have h8 := (not_congr (le_n (a := mn) (b := 60) rfl (rfl : (60 : Int32) = Int32.ofNat 60) (by omega) (by omega))).mp h9; omega))
          refine wi_aload_n rfl rfl ?_
          refine wi_getIv (v := (Int32.ofNat (t))) rfl (kd_134 ..) ht5 ?_
          refine wi_iload_n rfl rfl ?_
          refine wn_iadd (z := (Int32.ofNat (t + mn))) rfl (add_n (a := t) (b := mn) rfl rfl) ?_
          refine wi_sipush (x := 999) rfl rfl ?_
          refine wi_icmp_le rfl (fun h9 => absurd trivial (by exfalso; have h8 := (le_n (a := t + mn) (b := 999) rfl (rfl : (999 : Int32) = Int32.ofNat 999) (by omega) (by omega)).mp h9; omega)) (fun _ => ?_)
          refine wi_aload_n rfl rfl ?_
          refine wi_bipush (x := 6) rfl rfl ?_
          refine wi_callV1 rfl (by decide) (by decide) rfl (kd_134 ..) rfl rfl rfl ?_
          refine wi_aload_n rfl rfl ?_
          refine wi_iload_n rfl rfl ?_
          refine wi_putI rfl (kd_134 ..) ?_
          refine wi_iconst (x := (-1)) rfl rfl ?_
          refine wi_iret rfl (Or.inl rfl) ?_
          refine wi_iret rfl (Or.inl rfl) ?_
          refine h2 _ _ _ ?_
          exact ⟨n, t, rfl, ⟨hn0, hn4, hn⟩, ⟨ht0, ht5, ht⟩, hT, hF, hC, hM, hP, hTp, hB, hFa, hS, hMk, hfr⟩
