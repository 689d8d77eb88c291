/-! ===== rules: the reference reads ===== -/
def cdN (T : Nat → Nat) (s : Nat) : Nat → Nat
  | 0 => 0
  | k + 1 => cdN T s k * 32 + (T (s + k) - 96)
def wvN (T : Nat → Nat) (s k : Nat) : Int64 := if k ≤ 12 then Int64.ofNat (cdN T s k) else -1
def srN (kd : Nat) : Nat := if kd = 0 then 4 else if kd ≤ 2 then kd else 3
theorem isL_b {c : Nat} (h : isL c = true) : 97 ≤ c ∧ c ≤ 122 := by
  unfold isL at h
  rw [Bool.and_eq_true, decide_eq_true_eq, decide_eq_true_eq] at h
  exact h
theorem isD_b {c : Nat} (h : isD c = true) : 48 ≤ c ∧ c ≤ 57 := by
  unfold isD at h
  rw [Bool.and_eq_true, decide_eq_true_eq, decide_eq_true_eq] at h
  exact h
theorem cd_b {T : Nat → Nat} {s : Nat} : ∀ k, (∀ i, i < k → isL (T (s + i)) = true) → cdN T s k < 32 ^ k := by
  intro k
  induction k with
  | zero => intro _; exact Nat.one_pos
  | succ k ih =>
    intro h
    have h1 := ih (fun i hi => h i (by omega))
    have h2 := isL_b (h k (by omega))
    show cdN T s k * 32 + (T (s + k) - 96) < 32 ^ (k + 1)
    rw [Nat.pow_succ]
    omega
theorem cd_12 {T : Nat → Nat} {s k : Nat} (h : ∀ i, i < k → isL (T (s + i)) = true) (hk : k ≤ 12) : cdN T s k < 1152921504606846976 := by
  have h1 := cd_b k h
  have h2 : 32 ^ k ≤ 32 ^ 12 := Nat.pow_le_pow_right (by decide) hk
  have h3 : (32 : Nat) ^ 12 = 1152921504606846976 := by decide
  omega
theorem cd_inj {T : Nat → Nat} : ∀ (k k' s s' : Nat), (∀ i, i < k → isL (T (s + i)) = true) → (∀ i, i < k' → isL (T (s' + i)) = true) → cdN T s k = cdN T s' k' → k = k' ∧ ∀ i, i < k → T (s + i) = T (s' + i) := by
  intro k
  induction k with
  | zero =>
    intro k' s s' h1 h2 he
    rcases k' with _ | k'
    · exact ⟨rfl, fun i hi => by omega⟩
    · exfalso
      have h3 := isL_b (h2 k' (by omega))
      have h4 : 0 = cdN T s' k' * 32 + (T (s' + k') - 96) := he
      omega
  | succ k ih =>
    intro k' s s' h1 h2 he
    rcases k' with _ | k'
    · exfalso
      have h3 := isL_b (h1 k (by omega))
      have h4 : cdN T s k * 32 + (T (s + k) - 96) = 0 := he
      omega
    · have h3 := isL_b (h1 k (by omega))
      have h3' := isL_b (h2 k' (by omega))
      have h4 : cdN T s k * 32 + (T (s + k) - 96) = cdN T s' k' * 32 + (T (s' + k') - 96) := he
      obtain ⟨h5, h6⟩ := ih k' s s' (fun i hi => h1 i (by omega)) (fun i hi => h2 i (by omega)) (by omega)
      refine ⟨by omega, fun i hi => ?_⟩
      rcases Nat.lt_or_ge i k with h7 | h7
      · exact h6 i h7
      · subst h5
        rw [show i = k by omega]
        omega
def cdW (l : List Nat) : Nat := cdN (fun i => l.getD i 0) 0 l.length
theorem cd_word {T : Nat → Nat} {s k : Nat} {l : List Nat} (h : ∀ i, i < k → isL (T (s + i)) = true) (hl : ∀ i, i < l.length → isL (l.getD i 0) = true) : cdN T s k = cdW l ↔ txL T s k = l := by
  rw [tx_iff]
  have aux : ∀ (k k' : Nat) (U : Nat → Nat), (∀ i, i < k → isL (T (s + i)) = true) → (∀ i, i < k' → isL (U (0 + i)) = true) → cdN T s k = cdN U 0 k' → k = k' ∧ ∀ i, i < k → T (s + i) = U (0 + i) := by
    intro k
    induction k with
    | zero =>
      intro k' U h1 h2 he
      rcases k' with _ | k'
      · exact ⟨rfl, fun i hi => by omega⟩
      · exfalso
        have h3 := isL_b (h2 k' (by omega))
        have h4 : 0 = cdN U 0 k' * 32 + (U (0 + k') - 96) := he
        omega
    | succ k ih =>
      intro k' U h1 h2 he
      rcases k' with _ | k'
      · exfalso
        have h3 := isL_b (h1 k (by omega))
        have h4 : cdN T s k * 32 + (T (s + k) - 96) = 0 := he
        omega
      · have h3 := isL_b (h1 k (by omega))
        have h3' := isL_b (h2 k' (by omega))
        have h4 : cdN T s k * 32 + (T (s + k) - 96) = cdN U 0 k' * 32 + (U (0 + k') - 96) := he
        obtain ⟨h5, h6⟩ := ih k' U (fun i hi => h1 i (by omega)) (fun i hi => h2 i (by omega)) (by omega)
        refine ⟨by omega, fun i hi => ?_⟩
        rcases Nat.lt_or_ge i k with h7 | h7
        · exact h6 i h7
        · subst h5
          rw [show i = k by omega]
          omega
  refine ⟨fun he => ?_, fun he => ?_⟩
  · obtain ⟨h5, h6⟩ := aux k l.length (fun i => l.getD i 0) h (fun i hi => by rw [Nat.zero_add]; exact hl i hi) he
    exact ⟨h5, fun i hi => by have := h6 i hi; rw [Nat.zero_add] at this; exact this⟩
  · obtain ⟨h5, h6⟩ := he
    unfold cdW
    rw [← h5]
    have : ∀ n, n ≤ k → cdN T s n = cdN (fun i => l.getD i 0) 0 n := by
      intro n
      induction n with
      | zero => intro _; rfl
      | succ n ih =>
        intro hn
        show cdN T s n * 32 + (T (s + n) - 96) = cdN (fun i => l.getD i 0) 0 n * 32 + (l.getD (0 + n) 0 - 96)
        rw [ih (by omega), h6 n (by omega), Nat.zero_add]
    exact this k (Nat.le_refl _)
theorem kd_1 {T : Nat → Nat} {N s : Nat} (h : kdT T N s = 1) (hs : s < N) : isL (T s) = true ∧ enT T N s = rn T N isL s ∧ ∀ i, i < enT T N s - s → isL (T (s + i)) = true := by
  have h1 : isL (T s) = true := by
    by_cases h9 : isL (T s) = true
    · exact h9
    · exfalso
      unfold kdT at h
      rw [if_neg h9] at h
      by_cases h10 : isD (T s) = true
      · rw [if_pos h10] at h
        split at h <;> omega
      · rw [if_neg h10] at h
        by_cases h11 : isG (T s) = true
        · rw [if_pos h11] at h
          rw [h] at h11
          exact absurd h11 (by decide)
        · rw [if_neg h11] at h
          omega
  have he : enT T N s = rn T N isL s := if_pos h1
  refine ⟨h1, he, fun i hi => ?_⟩
  rw [he] at hi
  exact (rn_b (T := T) (N := N) (pr := isL) (p := s) (by omega)).2.2.2 (s + i) (by omega) (by omega)
/-- a token that the reference has taken up -/
def mLd (T : Nat → Nat) (N p : Nat) (mi : Nat → Nat → Int32) (ml : Nat → Nat → Int64) : Prop :=
  mi 134 42 = Int32.ofNat (rn T N isB p) ∧ (N ≤ rn T N isB p → mi 134 41 = 0) ∧ (rn T N isB p < N → mi 134 43 = Int32.ofNat (enT T N (rn T N isB p)) ∧ mi 134 41 = Int32.ofNat (srN (kdT T N (rn T N isB p))) ∧
    (kdT T N (rn T N isB p) = 1 → mi 134 45 = Int32.ofNat (enT T N (rn T N isB p) - rn T N isB p) ∧ ml 134 46 = wvN T (rn T N isB p) (enT T N (rn T N isB p) - rn T N isB p)) ∧
    (kdT T N (rn T N isB p) = 2 → mi 134 44 = Int32.ofNat (nmR T (rn T N isB p) (enT T N (rn T N isB p) - rn T N isB p))) ∧ (2 < kdT T N (rn T N isB p) → mi 134 44 = Int32.ofNat (kdT T N (rn T N isB p))))
section RM
variable {X : Nat × (Nat → Int32)} {d : Nat} {Q : Option Value → am_M → Prop} {b : Bool} {M : am_M} {T : Nat → Nat} {N : Nat}
theorem c_misL {a : Nat} {z : Int32} (ha : a < 256) (hz : bI (isL a) = z) (hQ : Q (some (.int z)) M) : am_wp X d 170 0 [.int (Int32.ofNat a)] [] M Q := by
  refine wi_iload_n rfl rfl ?_
  refine wi_bipush (x := 97) rfl rfl ?_
  refine wi_icmp_lt rfl (fun g1 => ?_) (fun g1 => ?_)
  · replace g1 := (lt_n (a := a) (b := 97) rfl (rfl : (97 : Int32) = Int32.ofNat 97) (by omega) (by omega)).mp g1
    refine wi_iconst (x := 0) rfl rfl ?_
    refine wi_iret rfl (by decide) ?_
    have e9 : isL a = false := by
      unfold isL
      simp only [Bool.and_eq_false_iff, decide_eq_true_eq, decide_eq_false_iff_not]
      omega
    rw [e9] at hz
    subst hz
    exact hQ
  · replace g1 := (not_congr (lt_n (a := a) (b := 97) rfl (rfl : (97 : Int32) = Int32.ofNat 97) (by omega) (by omega))).mp g1
    refine wi_iload_n rfl rfl ?_
    refine wi_bipush (x := 122) rfl rfl ?_
    refine wi_icmp_gt rfl (fun g2 => ?_) (fun g2 => ?_)
    · replace g2 := (lt_n (a := 122) (b := a) (rfl : (122 : Int32) = Int32.ofNat 122) rfl (by omega) (by omega)).mp g2
      refine wi_iconst (x := 0) rfl rfl ?_
      refine wi_iret rfl (by decide) ?_
      have e9 : isL a = false := by
        unfold isL
        simp only [Bool.and_eq_false_iff, decide_eq_true_eq, decide_eq_false_iff_not]
        omega
      rw [e9] at hz
      subst hz
      exact hQ
    · replace g2 := (not_congr (lt_n (a := 122) (b := a) (rfl : (122 : Int32) = Int32.ofNat 122) rfl (by omega) (by omega))).mp g2
      refine wi_iconst (x := 1) rfl rfl ?_
      refine wi_goto rfl ?_
      refine wi_iret rfl (by decide) ?_
      have e9 : isL a = true := by
        unfold isL
        simp only [Bool.and_eq_true, decide_eq_true_eq, decide_eq_false_iff_not]
        omega
      rw [e9] at hz
      subst hz
      exact hQ
theorem c_misD {a : Nat} {z : Int32} (ha : a < 256) (hz : bI (isD a) = z) (hQ : Q (some (.int z)) M) : am_wp X d 171 0 [.int (Int32.ofNat a)] [] M Q := by
  refine wi_iload_n rfl rfl ?_
  refine wi_bipush (x := 48) rfl rfl ?_
  refine wi_icmp_lt rfl (fun g1 => ?_) (fun g1 => ?_)
  · replace g1 := (lt_n (a := a) (b := 48) rfl (rfl : (48 : Int32) = Int32.ofNat 48) (by omega) (by omega)).mp g1
    refine wi_iconst (x := 0) rfl rfl ?_
    refine wi_iret rfl (by decide) ?_
    have e9 : isD a = false := by
      unfold isD
      simp only [Bool.and_eq_false_iff, decide_eq_true_eq, decide_eq_false_iff_not]
      omega
    rw [e9] at hz
    subst hz
    exact hQ
  · replace g1 := (not_congr (lt_n (a := a) (b := 48) rfl (rfl : (48 : Int32) = Int32.ofNat 48) (by omega) (by omega))).mp g1
    refine wi_iload_n rfl rfl ?_
    refine wi_bipush (x := 57) rfl rfl ?_
    refine wi_icmp_gt rfl (fun g2 => ?_) (fun g2 => ?_)
    · replace g2 := (lt_n (a := 57) (b := a) (rfl : (57 : Int32) = Int32.ofNat 57) rfl (by omega) (by omega)).mp g2
      refine wi_iconst (x := 0) rfl rfl ?_
      refine wi_iret rfl (by decide) ?_
      have e9 : isD a = false := by
        unfold isD
        simp only [Bool.and_eq_false_iff, decide_eq_true_eq, decide_eq_false_iff_not]
        omega
      rw [e9] at hz
      subst hz
      exact hQ
    · replace g2 := (not_congr (lt_n (a := 57) (b := a) (rfl : (57 : Int32) = Int32.ofNat 57) rfl (by omega) (by omega))).mp g2
      refine wi_iconst (x := 1) rfl rfl ?_
      refine wi_goto rfl ?_
      refine wi_iret rfl (by decide) ?_
      have e9 : isD a = true := by
        unfold isD
        simp only [Bool.and_eq_true, decide_eq_true_eq, decide_eq_false_iff_not]
        omega
      rw [e9] at hz
      subst hz
      exact hQ
theorem c_look {mi : Nat → Nat → Int32} {ml : Nat → Nat → Int64} {k : Nat} (hN4 : N ≤ 400) (h36 : mi 134 36 = Int32.ofNat N) (hk : k < N) (h157 : mi 157 k &&& 255 = Int32.ofNat (T k)) (hQ : Q (some (.int (Int32.ofNat (T k)))) (am_shT, mrL b, mi, ml)) : am_wp X d 169 0 [.ref 134, .int (Int32.ofNat k)] [] (am_shT, mrL b, mi, ml) Q := by
  refine wi_iload_n rfl rfl ?_
  refine wi_aload_n rfl rfl ?_
  refine wi_getIv (v := (Int32.ofNat (N))) rfl (kd_134 ..) h36 ?_
  refine wi_icmp_ge rfl (fun h9 => absurd trivial (by exfalso; have h8 := (le_n (a := N) (b := k) rfl rfl (by omega) (by omega)).mp h9; omega)) (fun _ => ?_)
  refine wi_aload_n rfl rfl ?_
  refine wi_getR rfl (kd_134 ..) (rd_134_34 _) ?_
  refine wi_iload_n rfl rfl ?_
  refine wn_baload (q := k) (v := (mi 157 k)) rfl (Or.inl (ln_157 ..)) rfl (by omega) (by decide) rfl ?_
  refine wi_sipush (x := 255) rfl rfl ?_
  refine wi_iand rfl ?_
  rw [h157]
  refine wi_goto rfl ?_
  refine wi_iret rfl (Or.inl rfl) ?_
  exact hQ
theorem c_look0 {mi : Nat → Nat → Int32} {ml : Nat → Nat → Int64} {k : Nat} (hN4 : N ≤ 400) (h36 : mi 134 36 = Int32.ofNat N) (hk : N ≤ k) (hk2 : k ≤ 400) (hQ : Q (some (.int 0)) (am_shT, mrL b, mi, ml)) : am_wp X d 169 0 [.ref 134, .int (Int32.ofNat k)] [] (am_shT, mrL b, mi, ml) Q := by
  refine wi_iload_n rfl rfl ?_
  refine wi_aload_n rfl rfl ?_
  refine wi_getIv (v := (Int32.ofNat (N))) rfl (kd_134 ..) h36 ?_
  refine wi_icmp_ge rfl (fun _ => ?_) (fun h9 => absurd trivial (by exfalso; have h8 := (not_congr (le_n (a := N) (b := k) rfl rfl (by omega) (by omega))).mp h9; omega))
  refine wi_iconst (x := 0) rfl rfl ?_
  refine wi_iret rfl (Or.inl rfl) ?_
  exact hQ
theorem mn_bl {v1 : Value} {ml : Nat → Nat → Int64} (hN4 : N ≤ 400) (hT : ∀ k, T k < 256) : ∀ k p (mi1 : Nat → Nat → Int32), p + k = N → mi1 134 36 = Int32.ofNat N → (∀ k, k < N → mi1 157 k &&& 255 = Int32.ofNat (T k)) → mi1 134 42 = Int32.ofNat p → (∀ mi2 : Nat → Nat → Int32, (∀ a, a ≠ 134 → mi2 a = mi1 a) → (∀ j, j ≠ 42 → mi2 134 j = mi1 134 j) → mi2 134 42 = Int32.ofNat (rn T N isB p) → am_wp X (d + 2) 172 28 [.ref 134, v1] [] (am_shT, mrL b, mi2, ml) Q) → am_wp X (d + 2) 172 4 [.ref 134, v1] [] (am_shT, mrL b, mi1, ml) Q := by
  intro k
  induction k with
  | zero =>
    intro p mi1 hp h36 h157 h42 hQ
    refine wi_aload_n rfl rfl ?_
    refine wi_getIv (v := (Int32.ofNat (p))) rfl (kd_134 ..) h42 ?_
    refine wi_aload_n rfl rfl ?_
    refine wi_getIv (v := (Int32.ofNat (N))) rfl (kd_134 ..) h36 ?_
    refine wi_icmp_ge rfl (fun _ => ?_) (fun h9 => absurd trivial (by exfalso; have h8 := (not_congr (le_n (a := N) (b := p) rfl rfl (by omega) (by omega))).mp h9; omega))
    rw [rn_end (by omega)] at hQ
    exact hQ mi1 (fun _ _ => rfl) (fun _ _ => rfl) h42
  | succ k ih =>
    intro p mi1 hp h36 h157 h42 hQ
    have hTp := hT p
    refine wi_aload_n rfl rfl ?_
    refine wi_getIv (v := (Int32.ofNat (p))) rfl (kd_134 ..) h42 ?_
    refine wi_aload_n rfl rfl ?_
    refine wi_getIv (v := (Int32.ofNat (N))) rfl (kd_134 ..) h36 ?_
    refine wi_icmp_ge rfl (fun h9 => absurd trivial (by exfalso; have h8 := (le_n (a := N) (b := p) rfl rfl (by omega) (by omega)).mp h9; omega)) (fun _ => ?_)
    refine wi_aload_n rfl rfl ?_
    refine wi_aload_n rfl rfl ?_
    refine wi_getIv (v := (Int32.ofNat (p))) rfl (kd_134 ..) h42 ?_
    refine wi_callV1 rfl (by decide) (by decide) rfl (kd_134 ..) rfl rfl rfl (c_look hN4 h36 (by omega) (h157 _ (by omega)) ?_)
    refine wi_bipush (x := 10) rfl rfl ?_
    refine wi_icmp_eq rfl (fun g1 => ?_) (fun g1 => ?_)
    · replace g1 := (eq_n (a := T p) (b := 10) rfl (rfl : (10 : Int32) = Int32.ofNat 10) (by omega) (by omega)).mp g1
      refine wi_aload_n rfl rfl ?_
      refine wi_dup rfl rfl ?_
      refine wi_getIv (v := (Int32.ofNat (p))) rfl (kd_134 ..) h42 ?_
      refine wi_iconst (x := 1) rfl rfl ?_
      refine wn_iadd (z := (Int32.ofNat (p + 1))) rfl (add_n (a := p) (b := 1) rfl (rfl : (1 : Int32) = Int32.ofNat 1)) ?_
      refine wi_putI rfl (kd_134 ..) ?_
      refine wi_goto rfl ?_
      have hpr : isB (T p) = true := by
        unfold isB
        simp only [Bool.or_eq_true, beq_iff_eq]
        omega
      rw [rn_go (by omega) hpr] at hQ
      exact ih (p + 1) (u2 mi1 134 42 (Int32.ofNat (p + 1))) (by omega) h36 h157 rfl (fun mi2 k1 k2 k3 => hQ mi2 (fun a ha => (k1 a ha).trans (u2_ne ha)) (fun j hj => (k2 j hj).trans (u2_off hj)) k3)
    · replace g1 := (not_congr (eq_n (a := T p) (b := 10) rfl (rfl : (10 : Int32) = Int32.ofNat 10) (by omega) (by omega))).mp g1
      refine wi_aload_n rfl rfl ?_
      refine wi_aload_n rfl rfl ?_
      refine wi_getIv (v := (Int32.ofNat (p))) rfl (kd_134 ..) h42 ?_
      refine wi_callV1 rfl (by decide) (by decide) rfl (kd_134 ..) rfl rfl rfl (c_look hN4 h36 (by omega) (h157 _ (by omega)) ?_)
      refine wi_bipush (x := 32) rfl rfl ?_
      refine wi_icmp_ne rfl (fun g2 => ?_) (fun g2 => ?_)
      · replace g2 := (ne_n (a := T p) (b := 32) rfl (rfl : (32 : Int32) = Int32.ofNat 32) (by omega) (by omega)).mp g2
        have hpr : isB (T p) = false := by
          unfold isB
          simp only [Bool.or_eq_false_iff, beq_eq_false_iff_ne]
          omega
        rw [rn_no (by omega) hpr] at hQ
        exact hQ mi1 (fun _ _ => rfl) (fun _ _ => rfl) h42
      · replace g2 := (not_congr (ne_n (a := T p) (b := 32) rfl (rfl : (32 : Int32) = Int32.ofNat 32) (by omega) (by omega))).mp g2
        refine wi_aload_n rfl rfl ?_
        refine wi_dup rfl rfl ?_
        refine wi_getIv (v := (Int32.ofNat (p))) rfl (kd_134 ..) h42 ?_
        refine wi_iconst (x := 1) rfl rfl ?_
        refine wn_iadd (z := (Int32.ofNat (p + 1))) rfl (add_n (a := p) (b := 1) rfl (rfl : (1 : Int32) = Int32.ofNat 1)) ?_
        refine wi_putI rfl (kd_134 ..) ?_
        refine wi_goto rfl ?_
        have hpr : isB (T p) = true := by
          unfold isB
          simp only [Bool.or_eq_true, beq_iff_eq]
          omega
        rw [rn_go (by omega) hpr] at hQ
        exact ih (p + 1) (u2 mi1 134 42 (Int32.ofNat (p + 1))) (by omega) h36 h157 rfl (fun mi2 k1 k2 k3 => hQ mi2 (fun a ha => (k1 a ha).trans (u2_ne ha)) (fun j hj => (k2 j hj).trans (u2_off hj)) k3)
theorem mn_le {v1 : Value} {s : Nat} (hN4 : N ≤ 400) (hT : ∀ k, T k < 256) (hs : s < N) : ∀ z k (mi1 : Nat → Nat → Int32) (ml1 : Nat → Nat → Int64), s + k + z = N → mi1 134 36 = Int32.ofNat N → (∀ k, k < N → mi1 157 k &&& 255 = Int32.ofNat (T k)) → mi1 134 42 = Int32.ofNat s → mi1 134 43 = Int32.ofNat (s + k) → ml1 134 46 = wvN T s k → rn T N isL (s + k) = rn T N isL s → (∀ i, i < k → isL (T (s + i)) = true) → (∀ (mi2 : Nat → Nat → Int32) (ml2 : Nat → Nat → Int64), (∀ a, a ≠ 134 → mi2 a = mi1 a) → (∀ j, j ≠ 43 → mi2 134 j = mi1 134 j) → (∀ a, a ≠ 134 → ml2 a = ml1 a) → (∀ j, j ≠ 46 → ml2 134 j = ml1 134 j) → mi2 134 43 = Int32.ofNat (rn T N isL s) → ml2 134 46 = wvN T s (rn T N isL s - s) → am_wp X (d + 2) 172 91 [.ref 134, v1] [] (am_shT, mrL b, mi2, ml2) Q) → am_wp X (d + 2) 172 55 [.ref 134, v1] [] (am_shT, mrL b, mi1, ml1) Q := by
  intro z
  induction z with
  | zero =>
    intro k mi1 ml1 hz h36 h157 h42 h43 h46 hrn hlt hQ
    refine wi_aload_n rfl rfl ?_
    refine wi_aload_n rfl rfl ?_
    refine wi_getIv (v := (Int32.ofNat (s + k))) rfl (kd_134 ..) h43 ?_
    refine wi_callV1 rfl (by decide) (by decide) rfl (kd_134 ..) rfl rfl rfl (c_look0 hN4 h36 (by omega) (by omega) ?_)
    refine wi_callS1 rfl (by decide) (by decide) rfl rfl rfl (c_misL (a := 0) (by decide) (z := 0) rfl ?_)
    refine wi_if_eq rfl (fun _ => ?_) (fun h9 => absurd (by decide) h9)
    have e9 : rn T N isL s = s + k := by
      rw [← hrn, rn_end (by omega)]
    rw [e9] at hQ
    exact hQ mi1 ml1 (fun _ _ => rfl) (fun _ _ => rfl) (fun _ _ => rfl) (fun _ _ => rfl) h43 (by rw [show s + k - s = k by omega]; exact h46)
  | succ z ih =>
    intro k mi1 ml1 hz h36 h157 h42 h43 h46 hrn hlt hQ
    have hTp := hT (s + k)
    cases hpr : isL (T (s + k))
    · skip
      refine wi_aload_n rfl rfl ?_
      refine wi_aload_n rfl rfl ?_
      refine wi_getIv (v := (Int32.ofNat (s + k))) rfl (kd_134 ..) h43 ?_
      refine wi_callV1 rfl (by decide) (by decide) rfl (kd_134 ..) rfl rfl rfl (c_look hN4 h36 (by omega) (h157 _ (by omega)) ?_)
      refine wi_callS1 rfl (by decide) (by decide) rfl rfl rfl (c_misL (hT (s + k)) (congrArg bI hpr) ?_)
      refine wi_if_eq rfl (fun _ => ?_) (fun h9 => absurd (by decide) h9)
      have e9 : rn T N isL s = s + k := by
        rw [← hrn, rn_no (by omega) hpr]
      rw [e9] at hQ
      exact hQ mi1 ml1 (fun _ _ => rfl) (fun _ _ => rfl) (fun _ _ => rfl) (fun _ _ => rfl) h43 (by rw [show s + k - s = k by omega]; exact h46)
    · have hLb := isL_b hpr
      by_cases hk12 : k < 12
      · have h46n : ml1 134 46 = Int64.ofNat (cdN T s k) := by rw [h46]; exact if_pos (by omega)
        have hcd := cd_12 hlt (show k ≤ 12 by omega)
        refine wi_aload_n rfl rfl ?_
        refine wi_aload_n rfl rfl ?_
        refine wi_getIv (v := (Int32.ofNat (s + k))) rfl (kd_134 ..) h43 ?_
        refine wi_callV1 rfl (by decide) (by decide) rfl (kd_134 ..) rfl rfl rfl (c_look hN4 h36 (by omega) (h157 _ (by omega)) ?_)
        refine wi_callS1 rfl (by decide) (by decide) rfl rfl rfl (c_misL (hT (s + k)) (congrArg bI hpr) ?_)
        refine wi_if_eq rfl (fun h9 => absurd h9 (by decide)) (fun _ => ?_)
        refine wi_aload_n rfl rfl ?_
        refine wi_aload_n rfl rfl ?_
        refine wi_getIv (v := (Int32.ofNat (s + k))) rfl (kd_134 ..) h43 ?_
        refine wi_aload_n rfl rfl ?_
        refine wi_getIv (v := (Int32.ofNat (s))) rfl (kd_134 ..) h42 ?_
        refine wn_isub (z := (Int32.ofNat (s + k - s))) rfl (sub_n (a := s + k) (b := s) rfl rfl (by omega)) ?_
        refine wi_bipush (x := 12) rfl rfl ?_
        refine wi_icmp_ge rfl (fun h9 => absurd trivial (by exfalso; have h8 := (le_n (a := 12) (b := s + k - s) (rfl : (12 : Int32) = Int32.ofNat 12) rfl (by omega) (by omega)).mp h9; omega)) (fun _ => ?_)
        refine wi_aload_n rfl rfl ?_
        refine wi_getLv (lv := (Int64.ofNat (cdN T s k))) rfl (kd_134 ..) h46n ?_
        refine wi_ldc2_w (lx := 32) rfl rfl ?_
        refine wn_lmul (lz := (Int64.ofNat ((cdN T s k) * 32))) rfl (mul_l (a := cdN T s k) (b := 32) rfl (rfl : (32 : Int64) = Int64.ofNat 32)) ?_
        refine wi_aload_n rfl rfl ?_
        refine wi_aload_n rfl rfl ?_
        refine wi_getIv (v := (Int32.ofNat (s + k))) rfl (kd_134 ..) h43 ?_
        refine wi_callV1 rfl (by decide) (by decide) rfl (kd_134 ..) rfl rfl rfl (c_look hN4 h36 (by omega) (h157 _ (by omega)) ?_)
        refine wn_i2l (lz := (Int64.ofNat (T (s + k)))) rfl (i2l_n (a := T (s + k)) rfl (by omega)) ?_
        refine wn_ladd (lz := (Int64.ofNat ((cdN T s k) * 32 + T (s + k)))) rfl (add_l (a := (cdN T s k) * 32) (b := T (s + k)) rfl rfl) ?_
        refine wi_ldc2_w (lx := 96) rfl rfl ?_
        refine wn_lsub (lz := (Int64.ofNat ((cdN T s k) * 32 + T (s + k) - 96))) rfl (sub_l (a := (cdN T s k) * 32 + T (s + k)) (b := 96) rfl (rfl : (96 : Int64) = Int64.ofNat 96) (by omega)) ?_
        refine wi_goto rfl ?_
        refine wi_putL rfl (kd_134 ..) ?_
        refine wi_aload_n rfl rfl ?_
        refine wi_dup rfl rfl ?_
        refine wi_getIv (v := (Int32.ofNat (s + k))) rfl (kd_134 ..) h43 ?_
        refine wi_iconst (x := 1) rfl rfl ?_
        refine wn_iadd (z := (Int32.ofNat (s + k + 1))) rfl (add_n (a := s + k) (b := 1) rfl (rfl : (1 : Int32) = Int32.ofNat 1)) ?_
        refine wi_putI rfl (kd_134 ..) ?_
        refine wi_goto rfl ?_
        refine ih (k + 1) (u2 mi1 134 43 (Int32.ofNat (s + k + 1))) (u2 ml1 134 46 (Int64.ofNat ((cdN T s k) * 32 + T (s + k) - 96))) (by omega) h36 h157 h42 (u2_same.trans (by rw [Nat.add_assoc])) (by
            show _ = wvN T s (k + 1)
            unfold wvN
            rw [u2_same, if_pos (show k + 1 ≤ 12 by omega)]
            show _ = Int64.ofNat (cdN T s k * 32 + (T (s + k) - 96))
            congr 1
            omega) (by rw [← hrn, rn_go (by omega) hpr, Nat.add_assoc]) (fun i hi => ?_) (fun mi2 ml2 k1 k2 k3 k4 k5 k6 => hQ mi2 ml2 (fun a ha => (k1 a ha).trans (u2_ne ha)) (fun j hj => (k2 j hj).trans (u2_off hj)) (fun a ha => (k3 a ha).trans (u2_ne ha)) (fun j hj => (k4 j hj).trans (u2_off hj)) k5 k6)
        rcases Nat.lt_or_ge i k with h8 | h8
        · exact hlt i h8
        · rw [show i = k by omega]; exact hpr
      · skip
        refine wi_aload_n rfl rfl ?_
        refine wi_aload_n rfl rfl ?_
        refine wi_getIv (v := (Int32.ofNat (s + k))) rfl (kd_134 ..) h43 ?_
        refine wi_callV1 rfl (by decide) (by decide) rfl (kd_134 ..) rfl rfl rfl (c_look hN4 h36 (by omega) (h157 _ (by omega)) ?_)
        refine wi_callS1 rfl (by decide) (by decide) rfl rfl rfl (c_misL (hT (s + k)) (congrArg bI hpr) ?_)
        refine wi_if_eq rfl (fun h9 => absurd h9 (by decide)) (fun _ => ?_)
        refine wi_aload_n rfl rfl ?_
        refine wi_aload_n rfl rfl ?_
        refine wi_getIv (v := (Int32.ofNat (s + k))) rfl (kd_134 ..) h43 ?_
        refine wi_aload_n rfl rfl ?_
        refine wi_getIv (v := (Int32.ofNat (s))) rfl (kd_134 ..) h42 ?_
        refine wn_isub (z := (Int32.ofNat (s + k - s))) rfl (sub_n (a := s + k) (b := s) rfl rfl (by omega)) ?_
        refine wi_bipush (x := 12) rfl rfl ?_
        refine wi_icmp_ge rfl (fun _ => ?_) (fun h9 => absurd trivial (by exfalso; have h8 := (not_congr (le_n (a := 12) (b := s + k - s) (rfl : (12 : Int32) = Int32.ofNat 12) rfl (by omega) (by omega))).mp h9; omega))
        refine wi_ldc2_w (lx := (-1)) rfl rfl ?_
        refine wi_putL rfl (kd_134 ..) ?_
        refine wi_aload_n rfl rfl ?_
        refine wi_dup rfl rfl ?_
        refine wi_getIv (v := (Int32.ofNat (s + k))) rfl (kd_134 ..) h43 ?_
        refine wi_iconst (x := 1) rfl rfl ?_
        refine wn_iadd (z := (Int32.ofNat (s + k + 1))) rfl (add_n (a := s + k) (b := 1) rfl (rfl : (1 : Int32) = Int32.ofNat 1)) ?_
        refine wi_putI rfl (kd_134 ..) ?_
        refine wi_goto rfl ?_
        refine ih (k + 1) (u2 mi1 134 43 (Int32.ofNat (s + k + 1))) (u2 ml1 134 46 (-1 : Int64)) (by omega) h36 h157 h42 (u2_same.trans (by rw [Nat.add_assoc])) (by
            show _ = wvN T s (k + 1)
            unfold wvN
            rw [u2_same, if_neg (show ¬ k + 1 ≤ 12 by omega)]) (by rw [← hrn, rn_go (by omega) hpr, Nat.add_assoc]) (fun i hi => ?_) (fun mi2 ml2 k1 k2 k3 k4 k5 k6 => hQ mi2 ml2 (fun a ha => (k1 a ha).trans (u2_ne ha)) (fun j hj => (k2 j hj).trans (u2_off hj)) (fun a ha => (k3 a ha).trans (u2_ne ha)) (fun j hj => (k4 j hj).trans (u2_off hj)) k5 k6)
        rcases Nat.lt_or_ge i k with h8 | h8
        · exact hlt i h8
        · rw [show i = k by omega]; exact hpr
theorem nm_b {s : Nat} (hT : ∀ k, T k < 256) : ∀ k, k ≤ 3 → nmR T s k ≤ 1000000 := by
  intro k hk
  have h0 := hT (s + 0)
  have h1 := hT (s + 1)
  have h2 := hT (s + 2)
  rcases k with _ | _ | _ | _ | k
  · exact Nat.zero_le _
  · show 0 * 10 + (T (s + 0) - 48) ≤ _
    omega
  · show (0 * 10 + (T (s + 0) - 48)) * 10 + (T (s + 1) - 48) ≤ _
    omega
  · show ((0 * 10 + (T (s + 0) - 48)) * 10 + (T (s + 1) - 48)) * 10 + (T (s + 2) - 48) ≤ _
    omega
  · omega
theorem mn_di {v1 : Value} {ml : Nat → Nat → Int64} {s : Nat} (hN4 : N ≤ 400) (hT : ∀ k, T k < 256) (hs : s < N) : ∀ z k (mi1 : Nat → Nat → Int32), s + k + z = N → mi1 134 36 = Int32.ofNat N → (∀ k, k < N → mi1 157 k &&& 255 = Int32.ofNat (T k)) → mi1 134 42 = Int32.ofNat s → mi1 134 43 = Int32.ofNat (s + k) → mi1 134 44 = Int32.ofNat (nmR T s (min k 3)) → rn T N isD (s + k) = rn T N isD s → (∀ (mi2 : Nat → Nat → Int32), (∀ a, a ≠ 134 → mi2 a = mi1 a) → (∀ j, j ≠ 43 → j ≠ 44 → mi2 134 j = mi1 134 j) → mi2 134 43 = Int32.ofNat (rn T N isD s) → mi2 134 44 = Int32.ofNat (nmR T s (min (rn T N isD s - s) 3)) → am_wp X (d + 2) 172 138 [.ref 134, v1] [] (am_shT, mrL b, mi2, ml) Q) → am_wp X (d + 2) 172 105 [.ref 134, v1] [] (am_shT, mrL b, mi1, ml) Q := by
  intro z
  induction z with
  | zero =>
    intro k mi1 hz h36 h157 h42 h43 h44 hrn hQ
    refine wi_aload_n rfl rfl ?_
    refine wi_aload_n rfl rfl ?_
    refine wi_getIv (v := (Int32.ofNat (s + k))) rfl (kd_134 ..) h43 ?_
    refine wi_callV1 rfl (by decide) (by decide) rfl (kd_134 ..) rfl rfl rfl (c_look0 hN4 h36 (by omega) (by omega) ?_)
    refine wi_callS1 rfl (by decide) (by decide) rfl rfl rfl (c_misD (a := 0) (by decide) (z := 0) rfl ?_)
    refine wi_if_eq rfl (fun _ => ?_) (fun h9 => absurd (by decide) h9)
    have e9 : rn T N isD s = s + k := by
      rw [← hrn, rn_end (by omega)]
    rw [e9] at hQ
    exact hQ mi1 (fun _ _ => rfl) (fun _ _ _ => rfl) h43 (by rw [show s + k - s = k by omega]; exact h44)
  | succ z ih =>
    intro k mi1 hz h36 h157 h42 h43 h44 hrn hQ
    have hTp := hT (s + k)
    have hnb := nm_b (s := s) hT (min k 3) (by omega)
    cases hpr : isD (T (s + k))
    · skip
      refine wi_aload_n rfl rfl ?_
      refine wi_aload_n rfl rfl ?_
      refine wi_getIv (v := (Int32.ofNat (s + k))) rfl (kd_134 ..) h43 ?_
      refine wi_callV1 rfl (by decide) (by decide) rfl (kd_134 ..) rfl rfl rfl (c_look hN4 h36 (by omega) (h157 _ (by omega)) ?_)
      refine wi_callS1 rfl (by decide) (by decide) rfl rfl rfl (c_misD (hT (s + k)) (congrArg bI hpr) ?_)
      refine wi_if_eq rfl (fun _ => ?_) (fun h9 => absurd (by decide) h9)
      have e9 : rn T N isD s = s + k := by
        rw [← hrn, rn_no (by omega) hpr]
      rw [e9] at hQ
      exact hQ mi1 (fun _ _ => rfl) (fun _ _ _ => rfl) h43 (by rw [show s + k - s = k by omega]; exact h44)
    · have hLb := isD_b hpr
      by_cases hk3 : k < 3
      · skip
        refine wi_aload_n rfl rfl ?_
        refine wi_aload_n rfl rfl ?_
        refine wi_getIv (v := (Int32.ofNat (s + k))) rfl (kd_134 ..) h43 ?_
        refine wi_callV1 rfl (by decide) (by decide) rfl (kd_134 ..) rfl rfl rfl (c_look hN4 h36 (by omega) (h157 _ (by omega)) ?_)
        refine wi_callS1 rfl (by decide) (by decide) rfl rfl rfl (c_misD (hT (s + k)) (congrArg bI hpr) ?_)
        refine wi_if_eq rfl (fun h9 => absurd h9 (by decide)) (fun _ => ?_)
        refine wi_aload_n rfl rfl ?_
        refine wi_getIv (v := (Int32.ofNat (s + k))) rfl (kd_134 ..) h43 ?_
        refine wi_aload_n rfl rfl ?_
        refine wi_getIv (v := (Int32.ofNat (s))) rfl (kd_134 ..) h42 ?_
        refine wn_isub (z := (Int32.ofNat (s + k - s))) rfl (sub_n (a := s + k) (b := s) rfl rfl (by omega)) ?_
        refine wi_iconst (x := 3) rfl rfl ?_
        refine wi_icmp_ge rfl (fun h9 => absurd trivial (by exfalso; have h8 := (le_n (a := 3) (b := s + k - s) (rfl : (3 : Int32) = Int32.ofNat 3) rfl (by omega) (by omega)).mp h9; omega)) (fun _ => ?_)
        refine wi_aload_n rfl rfl ?_
        refine wi_bipush (x := 10) rfl rfl ?_
        refine wi_aload_n rfl rfl ?_
        refine wi_getIv (v := (Int32.ofNat (nmR T s (min k 3)))) rfl (kd_134 ..) h44 ?_
        refine wn_imul (z := (Int32.ofNat (10 * (nmR T s (min k 3))))) rfl (mul_n (a := 10) (b := nmR T s (min k 3)) (rfl : (10 : Int32) = Int32.ofNat 10) rfl) ?_
        refine wi_aload_n rfl rfl ?_
        refine wi_aload_n rfl rfl ?_
        refine wi_getIv (v := (Int32.ofNat (s + k))) rfl (kd_134 ..) h43 ?_
        refine wi_callV1 rfl (by decide) (by decide) rfl (kd_134 ..) rfl rfl rfl (c_look hN4 h36 (by omega) (h157 _ (by omega)) ?_)
        refine wn_iadd (z := (Int32.ofNat (10 * (nmR T s (min k 3)) + T (s + k)))) rfl (add_n (a := 10 * (nmR T s (min k 3))) (b := T (s + k)) rfl rfl) ?_
        refine wi_bipush (x := 48) rfl rfl ?_
        refine wn_isub (z := (Int32.ofNat (10 * (nmR T s (min k 3)) + T (s + k) - 48))) rfl (sub_n (a := 10 * (nmR T s (min k 3)) + T (s + k)) (b := 48) rfl (rfl : (48 : Int32) = Int32.ofNat 48) (by omega)) ?_
        refine wi_putI rfl (kd_134 ..) ?_
        refine wi_aload_n rfl rfl ?_
        refine wi_dup rfl rfl ?_
        refine wi_getIv (v := (Int32.ofNat (s + k))) rfl (kd_134 ..) h43 ?_
        refine wi_iconst (x := 1) rfl rfl ?_
        refine wn_iadd (z := (Int32.ofNat (s + k + 1))) rfl (add_n (a := s + k) (b := 1) rfl (rfl : (1 : Int32) = Int32.ofNat 1)) ?_
        refine wi_putI rfl (kd_134 ..) ?_
        refine wi_goto rfl ?_
        refine ih (k + 1) (u2 (u2 mi1 134 44 (Int32.ofNat (10 * (nmR T s (min k 3)) + T (s + k) - 48))) 134 43 (Int32.ofNat (s + k + 1))) (by omega) h36 h157 h42 (u2_same.trans (by rw [Nat.add_assoc])) (by
            rw [u2_off (by decide), u2_same, show min (k + 1) 3 = k + 1 by omega, show min k 3 = k by omega]
            show _ = Int32.ofNat (nmR T s k * 10 + (T (s + k) - 48))
            congr 1
            omega) (by rw [← hrn, rn_go (by omega) hpr, Nat.add_assoc]) (fun mi2 k1 k2 k3 k4 => hQ mi2 (fun a ha => (k1 a ha).trans ((u2_ne ha).trans (u2_ne ha))) (fun j hj hj2 => (k2 j hj hj2).trans ((u2_off hj).trans (u2_off hj2))) k3 k4)
      · skip
        refine wi_aload_n rfl rfl ?_
        refine wi_aload_n rfl rfl ?_
        refine wi_getIv (v := (Int32.ofNat (s + k))) rfl (kd_134 ..) h43 ?_
        refine wi_callV1 rfl (by decide) (by decide) rfl (kd_134 ..) rfl rfl rfl (c_look hN4 h36 (by omega) (h157 _ (by omega)) ?_)
        refine wi_callS1 rfl (by decide) (by decide) rfl rfl rfl (c_misD (hT (s + k)) (congrArg bI hpr) ?_)
        refine wi_if_eq rfl (fun h9 => absurd h9 (by decide)) (fun _ => ?_)
        refine wi_aload_n rfl rfl ?_
        refine wi_getIv (v := (Int32.ofNat (s + k))) rfl (kd_134 ..) h43 ?_
        refine wi_aload_n rfl rfl ?_
        refine wi_getIv (v := (Int32.ofNat (s))) rfl (kd_134 ..) h42 ?_
        refine wn_isub (z := (Int32.ofNat (s + k - s))) rfl (sub_n (a := s + k) (b := s) rfl rfl (by omega)) ?_
        refine wi_iconst (x := 3) rfl rfl ?_
        refine wi_icmp_ge rfl (fun _ => ?_) (fun h9 => absurd trivial (by exfalso; have h8 := (not_congr (le_n (a := 3) (b := s + k - s) (rfl : (3 : Int32) = Int32.ofNat 3) rfl (by omega) (by omega))).mp h9; omega))
        refine wi_aload_n rfl rfl ?_
        refine wi_dup rfl rfl ?_
        refine wi_getIv (v := (Int32.ofNat (s + k))) rfl (kd_134 ..) h43 ?_
        refine wi_iconst (x := 1) rfl rfl ?_
        refine wn_iadd (z := (Int32.ofNat (s + k + 1))) rfl (add_n (a := s + k) (b := 1) rfl (rfl : (1 : Int32) = Int32.ofNat 1)) ?_
        refine wi_putI rfl (kd_134 ..) ?_
        refine wi_goto rfl ?_
        refine ih (k + 1) (u2 mi1 134 43 (Int32.ofNat (s + k + 1))) (by omega) h36 h157 h42 (u2_same.trans (by rw [Nat.add_assoc])) (by rw [u2_off (by decide), show min (k + 1) 3 = min k 3 by omega]; exact h44) (by rw [← hrn, rn_go (by omega) hpr, Nat.add_assoc]) (fun mi2 k1 k2 k3 k4 => hQ mi2 (fun a ha => (k1 a ha).trans (u2_ne ha)) (fun j hj hj2 => (k2 j hj hj2).trans (u2_off hj)) k3 k4)
theorem isG_b {c : Nat} (h : isG c = true) : c = 60 ∨ c = 62 ∨ c = 61 ∨ c = 59 := by
  unfold isG at h
  simp only [Bool.or_eq_true, beq_iff_eq] at h
  omega
theorem isG_n {c : Nat} (h : isG c = false) : c ≠ 60 ∧ c ≠ 62 ∧ c ≠ 61 ∧ c ≠ 59 := by
  unfold isG at h
  simp only [Bool.or_eq_false_iff, beq_eq_false_iff_ne] at h
  omega
theorem c_mnext {mi : Nat → Nat → Int32} {ml : Nat → Nat → Int64} {p : Nat} (hN4 : N ≤ 400) (hT : ∀ k, T k < 256) (h36 : mi 134 36 = Int32.ofNat N) (h157 : ∀ k, k < N → mi 157 k &&& 255 = Int32.ofNat (T k)) (h43 : mi 134 43 = Int32.ofNat p) (hp : p ≤ N)
    (hQ : ∀ (mi2 : Nat → Nat → Int32) (ml2 : Nat → Nat → Int64), (∀ a, a ≠ 134 → mi2 a = mi a) → (∀ j, (j < 41 ∨ 45 < j) → mi2 134 j = mi 134 j) → (∀ a, a ≠ 134 → ml2 a = ml a) → (∀ j, j ≠ 46 → ml2 134 j = ml 134 j) → mLd T N p mi2 ml2 → Q none (am_shT, mrL b, mi2, ml2)) : am_wp X (d + 2) 172 0 [.ref 134, .retAddr 0] [] (am_shT, mrL b, mi, ml) Q := by
  obtain ⟨s, hs⟩ : ∃ s, s = rn T N isB p := ⟨_, rfl⟩
  have hsb := rn_b (T := T) (N := N) (pr := isB) (p := p) hp
  rw [← hs] at hsb
  have hTs := hT s
  rcases Nat.lt_or_ge s N with hsN | hsN
  rotate_left
  · skip
    refine wi_aload_n rfl rfl ?_
    refine wi_aload_n rfl rfl ?_
    refine wi_getIv (v := (Int32.ofNat (p))) rfl (kd_134 ..) h43 ?_
    refine wi_putI rfl (kd_134 ..) ?_
    refine mn_bl hN4 hT (N - p) p (u2 mi 134 42 (Int32.ofNat p)) (by omega) h36 h157 u2_same (fun mi2 k1 k2 k3 => ?_)
    have g36 : mi2 134 36 = Int32.ofNat N := by rw [k2 36 (by decide), u2_off (by decide)]; exact h36
    have g157 : ∀ k, k < N → mi2 157 k &&& 255 = Int32.ofNat (T k) := by rw [k1 157 (by decide), u2_ne (by decide)]; exact h157
    have gf1 : ∀ a, a ≠ 134 → mi2 a = mi a := fun a ha => (k1 a ha).trans (u2_ne ha)
    have gf2 : ∀ j, (j < 41 ∨ 45 < j) → mi2 134 j = mi 134 j := fun j hj => (k2 j (by omega)).trans (u2_off (by omega))
    rw [← hs] at k3
    refine wi_aload_n rfl rfl ?_
    refine wi_aload_n rfl rfl ?_
    refine wi_getIv (v := (Int32.ofNat (s))) rfl (kd_134 ..) k3 ?_
    refine wi_putI rfl (kd_134 ..) ?_
    refine wi_aload_n rfl rfl ?_
    refine wi_getIv (v := (Int32.ofNat (s))) rfl (kd_134 ..) k3 ?_
    refine wi_aload_n rfl rfl ?_
    refine wi_getIv (v := (Int32.ofNat (N))) rfl (kd_134 ..) g36 ?_
    refine wi_icmp_lt rfl (fun h9 => absurd trivial (by exfalso; have h8 := (lt_n (a := s) (b := N) rfl rfl (by omega) (by omega)).mp h9; omega)) (fun _ => ?_)
    refine wi_aload_n rfl rfl ?_
    refine wi_iconst (x := 0) rfl rfl ?_
    refine wi_putI rfl (kd_134 ..) ?_
    refine wi_ret rfl ?_
    refine hQ _ _ (fun a ha => ?_) (fun j hj => ?_) (fun _ _ => rfl) (fun _ _ => rfl) ?_
    · rw [u2_ne ha, u2_ne ha]; exact gf1 a ha
    · rw [u2_off (by omega), u2_off (by omega)]; exact gf2 j hj
    · unfold mLd
      rw [← hs]
      exact ⟨k3, fun _ => rfl, fun h9 => absurd h9 (by omega)⟩
  cases hL : isL (T s)
  rotate_left
  · have hle := rn_b (T := T) (N := N) (pr := isL) (p := s) (by omega)
    refine wi_aload_n rfl rfl ?_
    refine wi_aload_n rfl rfl ?_
    refine wi_getIv (v := (Int32.ofNat (p))) rfl (kd_134 ..) h43 ?_
    refine wi_putI rfl (kd_134 ..) ?_
    refine mn_bl hN4 hT (N - p) p (u2 mi 134 42 (Int32.ofNat p)) (by omega) h36 h157 u2_same (fun mi2 k1 k2 k3 => ?_)
    have g36 : mi2 134 36 = Int32.ofNat N := by rw [k2 36 (by decide), u2_off (by decide)]; exact h36
    have g157 : ∀ k, k < N → mi2 157 k &&& 255 = Int32.ofNat (T k) := by rw [k1 157 (by decide), u2_ne (by decide)]; exact h157
    have gf1 : ∀ a, a ≠ 134 → mi2 a = mi a := fun a ha => (k1 a ha).trans (u2_ne ha)
    have gf2 : ∀ j, (j < 41 ∨ 45 < j) → mi2 134 j = mi 134 j := fun j hj => (k2 j (by omega)).trans (u2_off (by omega))
    rw [← hs] at k3
    refine wi_aload_n rfl rfl ?_
    refine wi_aload_n rfl rfl ?_
    refine wi_getIv (v := (Int32.ofNat (s))) rfl (kd_134 ..) k3 ?_
    refine wi_putI rfl (kd_134 ..) ?_
    refine wi_aload_n rfl rfl ?_
    refine wi_getIv (v := (Int32.ofNat (s))) rfl (kd_134 ..) k3 ?_
    refine wi_aload_n rfl rfl ?_
    refine wi_getIv (v := (Int32.ofNat (N))) rfl (kd_134 ..) g36 ?_
    refine wi_icmp_lt rfl (fun _ => ?_) (fun h9 => absurd trivial (by exfalso; have h8 := (not_congr (lt_n (a := s) (b := N) rfl rfl (by omega) (by omega))).mp h9; omega))
    refine wi_aload_n rfl rfl ?_
    refine wi_aload_n rfl rfl ?_
    refine wi_getIv (v := (Int32.ofNat (s))) rfl (kd_134 ..) k3 ?_
    refine wi_callV1 rfl (by decide) (by decide) rfl (kd_134 ..) rfl rfl rfl (c_look hN4 g36 (by omega) (g157 _ (by omega)) ?_)
    refine wi_istore_n (l' := [.ref 134, .int (Int32.ofNat (T s))]) rfl (Nat.le_of_ble_eq_true rfl) rfl rfl ?_
    refine wi_iload_n rfl rfl ?_
    refine wi_callS1 rfl (by decide) (by decide) rfl rfl rfl (c_misL (hT s) (congrArg bI hL) ?_)
    refine wi_if_eq rfl (fun h9 => absurd h9 (by decide)) (fun _ => ?_)
    refine wi_aload_n rfl rfl ?_
    refine wi_iconst (x := 1) rfl rfl ?_
    refine wi_putI rfl (kd_134 ..) ?_
    refine wi_aload_n rfl rfl ?_
    refine wi_lconst (lx := 0) rfl rfl ?_
    refine wi_putL rfl (kd_134 ..) ?_
    refine mn_le hN4 hT hsN (N - s) 0 _ _ (by omega) g36 g157 k3 rfl rfl rfl (fun i hi => absurd hi (by omega)) (fun mi3 ml3 q1 q2 q3 q4 q5 q6 => ?_)
    refine wi_aload_n rfl rfl ?_
    refine wi_aload_n rfl rfl ?_
    refine wi_getIv (v := Int32.ofNat (rn T N isL s)) rfl (kd_134 ..) q5 ?_
    refine wi_aload_n rfl rfl ?_
    refine wi_getIv (v := Int32.ofNat s) rfl (kd_134 ..) ((q2 42 (by decide)).trans k3) ?_
    refine wn_isub (z := (Int32.ofNat (rn T N isL s - s))) rfl (sub_n (a := rn T N isL s) (b := s) rfl rfl (by omega)) ?_
    refine wi_putI rfl (kd_134 ..) ?_
    refine wi_goto rfl ?_
    refine wi_ret rfl ?_
    have ek : kdT T N s = 1 := if_pos hL
    have ee : enT T N s = rn T N isL s := if_pos hL
    refine hQ _ _ (fun a ha => ?_) (fun j hj => ?_) (fun a ha => ?_) (fun j hj => ?_) ?_
    · rw [u2_ne ha, q1 a ha, u2_ne ha, u2_ne ha]; exact gf1 a ha
    · rw [u2_off (by omega), q2 j (by omega), u2_off (by omega), u2_off (by omega)]; exact gf2 j hj
    · rw [q3 a ha, u2_ne ha]
    · rw [q4 j hj, u2_off hj]
    · unfold mLd
      rw [← hs, ek, ee]
      refine ⟨(u2_off (by decide)).trans ((q2 42 (by decide)).trans k3), fun h9 => absurd h9 (by omega), fun _ => ⟨(u2_off (by decide)).trans q5, (u2_off (by decide)).trans (q2 41 (by decide)), fun _ => ⟨u2_same, q6⟩, fun h9 => absurd h9 (by decide), fun h9 => absurd h9 (by decide)⟩⟩
  have hL0 : ¬ isL (T s) = true := by rw [hL]; decide
  cases hD : isD (T s)
  rotate_left
  · have hde := rn_b (T := T) (N := N) (pr := isD) (p := s) (by omega)
    by_cases h3 : rn T N isD s - s ≤ 3
    · skip
      refine wi_aload_n rfl rfl ?_
      refine wi_aload_n rfl rfl ?_
      refine wi_getIv (v := (Int32.ofNat (p))) rfl (kd_134 ..) h43 ?_
      refine wi_putI rfl (kd_134 ..) ?_
      refine mn_bl hN4 hT (N - p) p (u2 mi 134 42 (Int32.ofNat p)) (by omega) h36 h157 u2_same (fun mi2 k1 k2 k3 => ?_)
      have g36 : mi2 134 36 = Int32.ofNat N := by rw [k2 36 (by decide), u2_off (by decide)]; exact h36
      have g157 : ∀ k, k < N → mi2 157 k &&& 255 = Int32.ofNat (T k) := by rw [k1 157 (by decide), u2_ne (by decide)]; exact h157
      have gf1 : ∀ a, a ≠ 134 → mi2 a = mi a := fun a ha => (k1 a ha).trans (u2_ne ha)
      have gf2 : ∀ j, (j < 41 ∨ 45 < j) → mi2 134 j = mi 134 j := fun j hj => (k2 j (by omega)).trans (u2_off (by omega))
      rw [← hs] at k3
      refine wi_aload_n rfl rfl ?_
      refine wi_aload_n rfl rfl ?_
      refine wi_getIv (v := (Int32.ofNat (s))) rfl (kd_134 ..) k3 ?_
      refine wi_putI rfl (kd_134 ..) ?_
      refine wi_aload_n rfl rfl ?_
      refine wi_getIv (v := (Int32.ofNat (s))) rfl (kd_134 ..) k3 ?_
      refine wi_aload_n rfl rfl ?_
      refine wi_getIv (v := (Int32.ofNat (N))) rfl (kd_134 ..) g36 ?_
      refine wi_icmp_lt rfl (fun _ => ?_) (fun h9 => absurd trivial (by exfalso; have h8 := (not_congr (lt_n (a := s) (b := N) rfl rfl (by omega) (by omega))).mp h9; omega))
      refine wi_aload_n rfl rfl ?_
      refine wi_aload_n rfl rfl ?_
      refine wi_getIv (v := (Int32.ofNat (s))) rfl (kd_134 ..) k3 ?_
      refine wi_callV1 rfl (by decide) (by decide) rfl (kd_134 ..) rfl rfl rfl (c_look hN4 g36 (by omega) (g157 _ (by omega)) ?_)
      refine wi_istore_n (l' := [.ref 134, .int (Int32.ofNat (T s))]) rfl (Nat.le_of_ble_eq_true rfl) rfl rfl ?_
      refine wi_iload_n rfl rfl ?_
      refine wi_callS1 rfl (by decide) (by decide) rfl rfl rfl (c_misL (hT s) (congrArg bI hL) ?_)
      refine wi_if_eq rfl (fun _ => ?_) (fun h9 => absurd (by decide) h9)
      refine wi_iload_n rfl rfl ?_
      refine wi_callS1 rfl (by decide) (by decide) rfl rfl rfl (c_misD (hT s) (congrArg bI hD) ?_)
      refine wi_if_eq rfl (fun h9 => absurd h9 (by decide)) (fun _ => ?_)
      refine wi_aload_n rfl rfl ?_
      refine wi_iconst (x := 0) rfl rfl ?_
      refine wi_putI rfl (kd_134 ..) ?_
      refine mn_di hN4 hT hsN (N - s) 0 _ (by omega) g36 g157 k3 rfl rfl rfl (fun mi3 q1 q2 q5 q6 => ?_)
      refine wi_aload_n rfl rfl ?_
      refine wi_aload_n rfl rfl ?_
      refine wi_getIv (v := Int32.ofNat (rn T N isD s)) rfl (kd_134 ..) q5 ?_
      refine wi_aload_n rfl rfl ?_
      refine wi_getIv (v := Int32.ofNat s) rfl (kd_134 ..) ((q2 42 (by decide) (by decide)).trans k3) ?_
      refine wn_isub (z := (Int32.ofNat (rn T N isD s - s))) rfl (sub_n (a := rn T N isD s) (b := s) rfl rfl (by omega)) ?_
      refine wi_iconst (x := 3) rfl rfl ?_
      refine wi_icmp_le rfl (fun _ => ?_) (fun h9 => absurd trivial (by exfalso; have h8 := (not_congr (le_n (a := rn T N isD s - s) (b := 3) rfl (rfl : (3 : Int32) = Int32.ofNat 3) (by omega) (by omega))).mp h9; omega))
      refine wi_iconst (x := 2) rfl rfl ?_
      refine wi_putI rfl (kd_134 ..) ?_
      refine wi_goto rfl ?_
      refine wi_ret rfl ?_
      have ek : kdT T N s = 2 := (if_neg hL0).trans ((if_pos hD).trans (if_pos (by omega)))
      have ee : enT T N s = rn T N isD s := (if_neg hL0).trans (if_pos hD)
      refine hQ _ _ (fun a ha => ?_) (fun j hj => ?_) (fun _ _ => rfl) (fun _ _ => rfl) ?_
      · rw [u2_ne ha, q1 a ha, u2_ne ha, u2_ne ha]; exact gf1 a ha
      · rw [u2_off (by omega), q2 j (by omega) (by omega), u2_off (by omega), u2_off (by omega)]; exact gf2 j hj
      · unfold mLd
        rw [← hs, ek, ee]
        refine ⟨(u2_off (by decide)).trans ((q2 42 (by decide) (by decide)).trans k3), fun h9 => absurd h9 (by omega), fun _ => ⟨(u2_off (by decide)).trans q5, u2_same, fun h9 => absurd h9 (by decide), fun h9 => by rw [u2_off (by decide), q6, show min (rn T N isD s - s) 3 = rn T N isD s - s by omega], fun h9 => absurd h9 (by decide)⟩⟩
    · skip
      refine wi_aload_n rfl rfl ?_
      refine wi_aload_n rfl rfl ?_
      refine wi_getIv (v := (Int32.ofNat (p))) rfl (kd_134 ..) h43 ?_
      refine wi_putI rfl (kd_134 ..) ?_
      refine mn_bl hN4 hT (N - p) p (u2 mi 134 42 (Int32.ofNat p)) (by omega) h36 h157 u2_same (fun mi2 k1 k2 k3 => ?_)
      have g36 : mi2 134 36 = Int32.ofNat N := by rw [k2 36 (by decide), u2_off (by decide)]; exact h36
      have g157 : ∀ k, k < N → mi2 157 k &&& 255 = Int32.ofNat (T k) := by rw [k1 157 (by decide), u2_ne (by decide)]; exact h157
      have gf1 : ∀ a, a ≠ 134 → mi2 a = mi a := fun a ha => (k1 a ha).trans (u2_ne ha)
      have gf2 : ∀ j, (j < 41 ∨ 45 < j) → mi2 134 j = mi 134 j := fun j hj => (k2 j (by omega)).trans (u2_off (by omega))
      rw [← hs] at k3
      refine wi_aload_n rfl rfl ?_
      refine wi_aload_n rfl rfl ?_
      refine wi_getIv (v := (Int32.ofNat (s))) rfl (kd_134 ..) k3 ?_
      refine wi_putI rfl (kd_134 ..) ?_
      refine wi_aload_n rfl rfl ?_
      refine wi_getIv (v := (Int32.ofNat (s))) rfl (kd_134 ..) k3 ?_
      refine wi_aload_n rfl rfl ?_
      refine wi_getIv (v := (Int32.ofNat (N))) rfl (kd_134 ..) g36 ?_
      refine wi_icmp_lt rfl (fun _ => ?_) (fun h9 => absurd trivial (by exfalso; have h8 := (not_congr (lt_n (a := s) (b := N) rfl rfl (by omega) (by omega))).mp h9; omega))
      refine wi_aload_n rfl rfl ?_
      refine wi_aload_n rfl rfl ?_
      refine wi_getIv (v := (Int32.ofNat (s))) rfl (kd_134 ..) k3 ?_
      refine wi_callV1 rfl (by decide) (by decide) rfl (kd_134 ..) rfl rfl rfl (c_look hN4 g36 (by omega) (g157 _ (by omega)) ?_)
      refine wi_istore_n (l' := [.ref 134, .int (Int32.ofNat (T s))]) rfl (Nat.le_of_ble_eq_true rfl) rfl rfl ?_
      refine wi_iload_n rfl rfl ?_
      refine wi_callS1 rfl (by decide) (by decide) rfl rfl rfl (c_misL (hT s) (congrArg bI hL) ?_)
      refine wi_if_eq rfl (fun _ => ?_) (fun h9 => absurd (by decide) h9)
      refine wi_iload_n rfl rfl ?_
      refine wi_callS1 rfl (by decide) (by decide) rfl rfl rfl (c_misD (hT s) (congrArg bI hD) ?_)
      refine wi_if_eq rfl (fun h9 => absurd h9 (by decide)) (fun _ => ?_)
      refine wi_aload_n rfl rfl ?_
      refine wi_iconst (x := 0) rfl rfl ?_
      refine wi_putI rfl (kd_134 ..) ?_
      refine mn_di hN4 hT hsN (N - s) 0 _ (by omega) g36 g157 k3 rfl rfl rfl (fun mi3 q1 q2 q5 q6 => ?_)
      refine wi_aload_n rfl rfl ?_
      refine wi_aload_n rfl rfl ?_
      refine wi_getIv (v := Int32.ofNat (rn T N isD s)) rfl (kd_134 ..) q5 ?_
      refine wi_aload_n rfl rfl ?_
      refine wi_getIv (v := Int32.ofNat s) rfl (kd_134 ..) ((q2 42 (by decide) (by decide)).trans k3) ?_
      refine wn_isub (z := (Int32.ofNat (rn T N isD s - s))) rfl (sub_n (a := rn T N isD s) (b := s) rfl rfl (by omega)) ?_
      refine wi_iconst (x := 3) rfl rfl ?_
      refine wi_icmp_le rfl (fun h9 => absurd trivial (by exfalso; have h8 := (le_n (a := rn T N isD s - s) (b := 3) rfl (rfl : (3 : Int32) = Int32.ofNat 3) (by omega) (by omega)).mp h9; omega)) (fun _ => ?_)
      refine wi_iconst (x := 4) rfl rfl ?_
      refine wi_goto rfl ?_
      refine wi_putI rfl (kd_134 ..) ?_
      refine wi_goto rfl ?_
      refine wi_ret rfl ?_
      have ek : kdT T N s = 0 := (if_neg hL0).trans ((if_pos hD).trans (if_neg (by omega)))
      have ee : enT T N s = rn T N isD s := (if_neg hL0).trans (if_pos hD)
      refine hQ _ _ (fun a ha => ?_) (fun j hj => ?_) (fun _ _ => rfl) (fun _ _ => rfl) ?_
      · rw [u2_ne ha, q1 a ha, u2_ne ha, u2_ne ha]; exact gf1 a ha
      · rw [u2_off (by omega), q2 j (by omega) (by omega), u2_off (by omega), u2_off (by omega)]; exact gf2 j hj
      · unfold mLd
        rw [← hs, ek, ee]
        refine ⟨(u2_off (by decide)).trans ((q2 42 (by decide) (by decide)).trans k3), fun h9 => absurd h9 (by omega), fun _ => ⟨(u2_off (by decide)).trans q5, u2_same, fun h9 => absurd h9 (by decide), fun h9 => absurd h9 (by decide), fun h9 => absurd h9 (by decide)⟩⟩
  have hD0 : ¬ isD (T s) = true := by rw [hD]; decide
  cases hG : isG (T s)
  · have hG0 : ¬ isG (T s) = true := by rw [hG]; decide
    have hGn := isG_n hG
    refine wi_aload_n rfl rfl ?_
    refine wi_aload_n rfl rfl ?_
    refine wi_getIv (v := (Int32.ofNat (p))) rfl (kd_134 ..) h43 ?_
    refine wi_putI rfl (kd_134 ..) ?_
    refine mn_bl hN4 hT (N - p) p (u2 mi 134 42 (Int32.ofNat p)) (by omega) h36 h157 u2_same (fun mi2 k1 k2 k3 => ?_)
    have g36 : mi2 134 36 = Int32.ofNat N := by rw [k2 36 (by decide), u2_off (by decide)]; exact h36
    have g157 : ∀ k, k < N → mi2 157 k &&& 255 = Int32.ofNat (T k) := by rw [k1 157 (by decide), u2_ne (by decide)]; exact h157
    have gf1 : ∀ a, a ≠ 134 → mi2 a = mi a := fun a ha => (k1 a ha).trans (u2_ne ha)
    have gf2 : ∀ j, (j < 41 ∨ 45 < j) → mi2 134 j = mi 134 j := fun j hj => (k2 j (by omega)).trans (u2_off (by omega))
    rw [← hs] at k3
    refine wi_aload_n rfl rfl ?_
    refine wi_aload_n rfl rfl ?_
    refine wi_getIv (v := (Int32.ofNat (s))) rfl (kd_134 ..) k3 ?_
    refine wi_putI rfl (kd_134 ..) ?_
    refine wi_aload_n rfl rfl ?_
    refine wi_getIv (v := (Int32.ofNat (s))) rfl (kd_134 ..) k3 ?_
    refine wi_aload_n rfl rfl ?_
    refine wi_getIv (v := (Int32.ofNat (N))) rfl (kd_134 ..) g36 ?_
    refine wi_icmp_lt rfl (fun _ => ?_) (fun h9 => absurd trivial (by exfalso; have h8 := (not_congr (lt_n (a := s) (b := N) rfl rfl (by omega) (by omega))).mp h9; omega))
    refine wi_aload_n rfl rfl ?_
    refine wi_aload_n rfl rfl ?_
    refine wi_getIv (v := (Int32.ofNat (s))) rfl (kd_134 ..) k3 ?_
    refine wi_callV1 rfl (by decide) (by decide) rfl (kd_134 ..) rfl rfl rfl (c_look hN4 g36 (by omega) (g157 _ (by omega)) ?_)
    refine wi_istore_n (l' := [.ref 134, .int (Int32.ofNat (T s))]) rfl (Nat.le_of_ble_eq_true rfl) rfl rfl ?_
    refine wi_iload_n rfl rfl ?_
    refine wi_callS1 rfl (by decide) (by decide) rfl rfl rfl (c_misL (hT s) (congrArg bI hL) ?_)
    refine wi_if_eq rfl (fun _ => ?_) (fun h9 => absurd (by decide) h9)
    refine wi_iload_n rfl rfl ?_
    refine wi_callS1 rfl (by decide) (by decide) rfl rfl rfl (c_misD (hT s) (congrArg bI hD) ?_)
    refine wi_if_eq rfl (fun _ => ?_) (fun h9 => absurd (by decide) h9)
    refine wi_aload_n rfl rfl ?_
    refine wi_aload_n rfl rfl ?_
    refine wi_getIv (v := (Int32.ofNat (s))) rfl (kd_134 ..) k3 ?_
    refine wi_iconst (x := 1) rfl rfl ?_
    refine wn_iadd (z := (Int32.ofNat (s + 1))) rfl (add_n (a := s) (b := 1) rfl (rfl : (1 : Int32) = Int32.ofNat 1)) ?_
    refine wi_putI rfl (kd_134 ..) ?_
    refine wi_aload_n rfl rfl ?_
    refine wi_iload_n rfl rfl ?_
    refine wi_putI rfl (kd_134 ..) ?_
    refine wi_aload_n rfl rfl ?_
    refine wi_iload_n rfl rfl ?_
    refine wi_bipush (x := 60) rfl rfl ?_
    refine wi_icmp_eq rfl (fun h9 => absurd trivial (by exfalso; have h8 := (eq_n (a := T s) (b := 60) rfl (rfl : (60 : Int32) = Int32.ofNat 60) (by omega) (by omega)).mp h9; omega)) (fun _ => ?_)
    refine wi_iload_n rfl rfl ?_
    refine wi_bipush (x := 62) rfl rfl ?_
    refine wi_icmp_eq rfl (fun h9 => absurd trivial (by exfalso; have h8 := (eq_n (a := T s) (b := 62) rfl (rfl : (62 : Int32) = Int32.ofNat 62) (by omega) (by omega)).mp h9; omega)) (fun _ => ?_)
    refine wi_iload_n rfl rfl ?_
    refine wi_bipush (x := 61) rfl rfl ?_
    refine wi_icmp_eq rfl (fun h9 => absurd trivial (by exfalso; have h8 := (eq_n (a := T s) (b := 61) rfl (rfl : (61 : Int32) = Int32.ofNat 61) (by omega) (by omega)).mp h9; omega)) (fun _ => ?_)
    refine wi_iload_n rfl rfl ?_
    refine wi_bipush (x := 59) rfl rfl ?_
    refine wi_icmp_ne rfl (fun _ => ?_) (fun h9 => absurd trivial (by exfalso; have h8 := (not_congr (ne_n (a := T s) (b := 59) rfl (rfl : (59 : Int32) = Int32.ofNat 59) (by omega) (by omega))).mp h9; omega))
    refine wi_iconst (x := 4) rfl rfl ?_
    refine wi_putI rfl (kd_134 ..) ?_
    refine wi_ret rfl ?_
    have ek : kdT T N s = 0 := (if_neg hL0).trans ((if_neg hD0).trans (if_neg hG0))
    have ee : enT T N s = s + 1 := (if_neg hL0).trans (if_neg hD0)
    refine hQ _ _ (fun a ha => ?_) (fun j hj => ?_) (fun _ _ => rfl) (fun _ _ => rfl) ?_
    · rw [u2_ne ha, u2_ne ha, u2_ne ha, u2_ne ha]; exact gf1 a ha
    · rw [u2_off (by omega), u2_off (by omega), u2_off (by omega), u2_off (by omega)]; exact gf2 j hj
    · unfold mLd
      rw [← hs, ek, ee]
      refine ⟨k3, fun h9 => absurd h9 (by omega), fun _ => ⟨rfl, rfl, fun h9 => absurd h9 (by decide), fun h9 => absurd h9 (by decide), fun h9 => absurd h9 (by decide)⟩⟩
  · have hGg := isG_b hG
    refine wi_aload_n rfl rfl ?_
    refine wi_aload_n rfl rfl ?_
    refine wi_getIv (v := (Int32.ofNat (p))) rfl (kd_134 ..) h43 ?_
    refine wi_putI rfl (kd_134 ..) ?_
    refine mn_bl hN4 hT (N - p) p (u2 mi 134 42 (Int32.ofNat p)) (by omega) h36 h157 u2_same (fun mi2 k1 k2 k3 => ?_)
    have g36 : mi2 134 36 = Int32.ofNat N := by rw [k2 36 (by decide), u2_off (by decide)]; exact h36
    have g157 : ∀ k, k < N → mi2 157 k &&& 255 = Int32.ofNat (T k) := by rw [k1 157 (by decide), u2_ne (by decide)]; exact h157
    have gf1 : ∀ a, a ≠ 134 → mi2 a = mi a := fun a ha => (k1 a ha).trans (u2_ne ha)
    have gf2 : ∀ j, (j < 41 ∨ 45 < j) → mi2 134 j = mi 134 j := fun j hj => (k2 j (by omega)).trans (u2_off (by omega))
    rw [← hs] at k3
    refine wi_aload_n rfl rfl ?_
    refine wi_aload_n rfl rfl ?_
    refine wi_getIv (v := (Int32.ofNat (s))) rfl (kd_134 ..) k3 ?_
    refine wi_putI rfl (kd_134 ..) ?_
    refine wi_aload_n rfl rfl ?_
    refine wi_getIv (v := (Int32.ofNat (s))) rfl (kd_134 ..) k3 ?_
    refine wi_aload_n rfl rfl ?_
    refine wi_getIv (v := (Int32.ofNat (N))) rfl (kd_134 ..) g36 ?_
    refine wi_icmp_lt rfl (fun _ => ?_) (fun h9 => absurd trivial (by exfalso; have h8 := (not_congr (lt_n (a := s) (b := N) rfl rfl (by omega) (by omega))).mp h9; omega))
    refine wi_aload_n rfl rfl ?_
    refine wi_aload_n rfl rfl ?_
    refine wi_getIv (v := (Int32.ofNat (s))) rfl (kd_134 ..) k3 ?_
    refine wi_callV1 rfl (by decide) (by decide) rfl (kd_134 ..) rfl rfl rfl (c_look hN4 g36 (by omega) (g157 _ (by omega)) ?_)
    refine wi_istore_n (l' := [.ref 134, .int (Int32.ofNat (T s))]) rfl (Nat.le_of_ble_eq_true rfl) rfl rfl ?_
    refine wi_iload_n rfl rfl ?_
    refine wi_callS1 rfl (by decide) (by decide) rfl rfl rfl (c_misL (hT s) (congrArg bI hL) ?_)
    refine wi_if_eq rfl (fun _ => ?_) (fun h9 => absurd (by decide) h9)
    refine wi_iload_n rfl rfl ?_
    refine wi_callS1 rfl (by decide) (by decide) rfl rfl rfl (c_misD (hT s) (congrArg bI hD) ?_)
    refine wi_if_eq rfl (fun _ => ?_) (fun h9 => absurd (by decide) h9)
    refine wi_aload_n rfl rfl ?_
    refine wi_aload_n rfl rfl ?_
    refine wi_getIv (v := (Int32.ofNat (s))) rfl (kd_134 ..) k3 ?_
    refine wi_iconst (x := 1) rfl rfl ?_
    refine wn_iadd (z := (Int32.ofNat (s + 1))) rfl (add_n (a := s) (b := 1) rfl (rfl : (1 : Int32) = Int32.ofNat 1)) ?_
    refine wi_putI rfl (kd_134 ..) ?_
    refine wi_aload_n rfl rfl ?_
    refine wi_iload_n rfl rfl ?_
    refine wi_putI rfl (kd_134 ..) ?_
    refine wi_aload_n rfl rfl ?_
    refine wi_iload_n rfl rfl ?_
    refine wi_bipush (x := 60) rfl rfl ?_
    refine wi_icmp_eq rfl (fun g1 => ?_) (fun g1 => ?_)
    · replace g1 := (eq_n (a := T s) (b := 60) rfl (rfl : (60 : Int32) = Int32.ofNat 60) (by omega) (by omega)).mp g1
      refine wi_iconst (x := 3) rfl rfl ?_
      refine wi_goto rfl ?_
      refine wi_putI rfl (kd_134 ..) ?_
      refine wi_ret rfl ?_
      have ek : kdT T N s = T s := (if_neg hL0).trans ((if_neg hD0).trans (if_pos hG))
      have ee : enT T N s = s + 1 := (if_neg hL0).trans (if_neg hD0)
      have hGb := isG_b hG
      have hsr : srN (T s) = 3 := (if_neg (by omega)).trans (if_neg (by omega))
      refine hQ _ _ (fun a ha => ?_) (fun j hj => ?_) (fun _ _ => rfl) (fun _ _ => rfl) ?_
      · rw [u2_ne ha, u2_ne ha, u2_ne ha, u2_ne ha]; exact gf1 a ha
      · rw [u2_off (by omega), u2_off (by omega), u2_off (by omega), u2_off (by omega)]; exact gf2 j hj
      · unfold mLd
        rw [← hs, ek, ee]
        refine ⟨k3, fun h9 => absurd h9 (by omega), fun _ => ⟨rfl, (by rw [hsr]; rfl), fun h9 => absurd h9 (by omega), fun h9 => absurd h9 (by omega), fun _ => rfl⟩⟩
    · replace g1 := (not_congr (eq_n (a := T s) (b := 60) rfl (rfl : (60 : Int32) = Int32.ofNat 60) (by omega) (by omega))).mp g1
      refine wi_iload_n rfl rfl ?_
      refine wi_bipush (x := 62) rfl rfl ?_
      refine wi_icmp_eq rfl (fun g2 => ?_) (fun g2 => ?_)
      · replace g2 := (eq_n (a := T s) (b := 62) rfl (rfl : (62 : Int32) = Int32.ofNat 62) (by omega) (by omega)).mp g2
        refine wi_iconst (x := 3) rfl rfl ?_
        refine wi_goto rfl ?_
        refine wi_putI rfl (kd_134 ..) ?_
        refine wi_ret rfl ?_
        have ek : kdT T N s = T s := (if_neg hL0).trans ((if_neg hD0).trans (if_pos hG))
        have ee : enT T N s = s + 1 := (if_neg hL0).trans (if_neg hD0)
        have hGb := isG_b hG
        have hsr : srN (T s) = 3 := (if_neg (by omega)).trans (if_neg (by omega))
        refine hQ _ _ (fun a ha => ?_) (fun j hj => ?_) (fun _ _ => rfl) (fun _ _ => rfl) ?_
        · rw [u2_ne ha, u2_ne ha, u2_ne ha, u2_ne ha]; exact gf1 a ha
        · rw [u2_off (by omega), u2_off (by omega), u2_off (by omega), u2_off (by omega)]; exact gf2 j hj
        · unfold mLd
          rw [← hs, ek, ee]
          refine ⟨k3, fun h9 => absurd h9 (by omega), fun _ => ⟨rfl, (by rw [hsr]; rfl), fun h9 => absurd h9 (by omega), fun h9 => absurd h9 (by omega), fun _ => rfl⟩⟩
      · replace g2 := (not_congr (eq_n (a := T s) (b := 62) rfl (rfl : (62 : Int32) = Int32.ofNat 62) (by omega) (by omega))).mp g2
        refine wi_iload_n rfl rfl ?_
        refine wi_bipush (x := 61) rfl rfl ?_
        refine wi_icmp_eq rfl (fun g3 => ?_) (fun g3 => ?_)
        · replace g3 := (eq_n (a := T s) (b := 61) rfl (rfl : (61 : Int32) = Int32.ofNat 61) (by omega) (by omega)).mp g3
          refine wi_iconst (x := 3) rfl rfl ?_
          refine wi_goto rfl ?_
          refine wi_putI rfl (kd_134 ..) ?_
          refine wi_ret rfl ?_
          have ek : kdT T N s = T s := (if_neg hL0).trans ((if_neg hD0).trans (if_pos hG))
          have ee : enT T N s = s + 1 := (if_neg hL0).trans (if_neg hD0)
          have hGb := isG_b hG
          have hsr : srN (T s) = 3 := (if_neg (by omega)).trans (if_neg (by omega))
          refine hQ _ _ (fun a ha => ?_) (fun j hj => ?_) (fun _ _ => rfl) (fun _ _ => rfl) ?_
          · rw [u2_ne ha, u2_ne ha, u2_ne ha, u2_ne ha]; exact gf1 a ha
          · rw [u2_off (by omega), u2_off (by omega), u2_off (by omega), u2_off (by omega)]; exact gf2 j hj
          · unfold mLd
            rw [← hs, ek, ee]
            refine ⟨k3, fun h9 => absurd h9 (by omega), fun _ => ⟨rfl, (by rw [hsr]; rfl), fun h9 => absurd h9 (by omega), fun h9 => absurd h9 (by omega), fun _ => rfl⟩⟩
        · replace g3 := (not_congr (eq_n (a := T s) (b := 61) rfl (rfl : (61 : Int32) = Int32.ofNat 61) (by omega) (by omega))).mp g3
          refine wi_iload_n rfl rfl ?_
          refine wi_bipush (x := 59) rfl rfl ?_
          refine wi_icmp_ne rfl (fun g4 => ?_) (fun g4 => ?_)
          · replace g4 := (ne_n (a := T s) (b := 59) rfl (rfl : (59 : Int32) = Int32.ofNat 59) (by omega) (by omega)).mp g4
            refine wi_iconst (x := 4) rfl rfl ?_
            refine wi_putI rfl (kd_134 ..) ?_
            refine wi_ret rfl ?_
            exact absurd hGg (by omega)
          · replace g4 := (not_congr (ne_n (a := T s) (b := 59) rfl (rfl : (59 : Int32) = Int32.ofNat 59) (by omega) (by omega))).mp g4
            refine wi_iconst (x := 3) rfl rfl ?_
            refine wi_goto rfl ?_
            refine wi_putI rfl (kd_134 ..) ?_
            refine wi_ret rfl ?_
            have ek : kdT T N s = T s := (if_neg hL0).trans ((if_neg hD0).trans (if_pos hG))
            have ee : enT T N s = s + 1 := (if_neg hL0).trans (if_neg hD0)
            have hGb := isG_b hG
            have hsr : srN (T s) = 3 := (if_neg (by omega)).trans (if_neg (by omega))
            refine hQ _ _ (fun a ha => ?_) (fun j hj => ?_) (fun _ _ => rfl) (fun _ _ => rfl) ?_
            · rw [u2_ne ha, u2_ne ha, u2_ne ha, u2_ne ha]; exact gf1 a ha
            · rw [u2_off (by omega), u2_off (by omega), u2_off (by omega), u2_off (by omega)]; exact gf2 j hj
            · unfold mLd
              rw [← hs, ek, ee]
              refine ⟨k3, fun h9 => absurd h9 (by omega), fun _ => ⟨rfl, (by rw [hsr]; rfl), fun h9 => absurd h9 (by omega), fun h9 => absurd h9 (by omega), fun _ => rfl⟩⟩
theorem c_sp0 (hQ : Q (some (.long (Int64.ofNat 762030))) M) : am_wp X d 173 0 [.int (119 : Int32), .int (104 : Int32), .int (101 : Int32), .int (110 : Int32), .int (0 : Int32), .int (0 : Int32), .retAddr 0, .retAddr 0] [] M Q := by
  refine wi_iload_n rfl rfl ?_
  refine wn_i2l (lz := (Int64.ofNat (119))) rfl (i2l_n (a := 119) (rfl : (119 : Int32) = Int32.ofNat 119) (by omega)) ?_
  refine wi_ldc2_w (lx := 96) rfl rfl ?_
  refine wn_lsub (lz := (Int64.ofNat (119 - 96))) rfl (sub_l (a := 119) (b := 96) rfl (rfl : (96 : Int64) = Int64.ofNat 96) (by omega)) ?_
  refine wi_lstore (l' := [.int (119 : Int32), .int (104 : Int32), .int (101 : Int32), .int (110 : Int32), .int (0 : Int32), .int (0 : Int32), .long (Int64.ofNat (119 - 96)), .retAddr 0]) rfl (Nat.le_of_ble_eq_true rfl) rfl rfl ?_
  refine wi_lload rfl rfl ?_
  refine wi_ldc2_w (lx := 32) rfl rfl ?_
  refine wn_lmul (lz := (Int64.ofNat ((119 - 96) * 32))) rfl (mul_l (a := 119 - 96) (b := 32) rfl (rfl : (32 : Int64) = Int64.ofNat 32)) ?_
  refine wi_iload_n rfl rfl ?_
  refine wn_i2l (lz := (Int64.ofNat (104))) rfl (i2l_n (a := 104) (rfl : (104 : Int32) = Int32.ofNat 104) (by omega)) ?_
  refine wn_ladd (lz := (Int64.ofNat ((119 - 96) * 32 + 104))) rfl (add_l (a := (119 - 96) * 32) (b := 104) rfl rfl) ?_
  refine wi_ldc2_w (lx := 96) rfl rfl ?_
  refine wn_lsub (lz := (Int64.ofNat ((119 - 96) * 32 + 104 - 96))) rfl (sub_l (a := (119 - 96) * 32 + 104) (b := 96) rfl (rfl : (96 : Int64) = Int64.ofNat 96) (by omega)) ?_
  refine wi_lstore (l' := [.int (119 : Int32), .int (104 : Int32), .int (101 : Int32), .int (110 : Int32), .int (0 : Int32), .int (0 : Int32), .long (Int64.ofNat ((119 - 96) * 32 + 104 - 96)), .retAddr 0]) rfl (Nat.le_of_ble_eq_true rfl) rfl rfl ?_
  refine wi_lload rfl rfl ?_
  refine wi_ldc2_w (lx := 32) rfl rfl ?_
  refine wn_lmul (lz := (Int64.ofNat (((119 - 96) * 32 + 104 - 96) * 32))) rfl (mul_l (a := (119 - 96) * 32 + 104 - 96) (b := 32) rfl (rfl : (32 : Int64) = Int64.ofNat 32)) ?_
  refine wi_iload_n rfl rfl ?_
  refine wn_i2l (lz := (Int64.ofNat (101))) rfl (i2l_n (a := 101) (rfl : (101 : Int32) = Int32.ofNat 101) (by omega)) ?_
  refine wn_ladd (lz := (Int64.ofNat (((119 - 96) * 32 + 104 - 96) * 32 + 101))) rfl (add_l (a := ((119 - 96) * 32 + 104 - 96) * 32) (b := 101) rfl rfl) ?_
  refine wi_ldc2_w (lx := 96) rfl rfl ?_
  refine wn_lsub (lz := (Int64.ofNat (((119 - 96) * 32 + 104 - 96) * 32 + 101 - 96))) rfl (sub_l (a := ((119 - 96) * 32 + 104 - 96) * 32 + 101) (b := 96) rfl (rfl : (96 : Int64) = Int64.ofNat 96) (by omega)) ?_
  refine wi_lstore (l' := [.int (119 : Int32), .int (104 : Int32), .int (101 : Int32), .int (110 : Int32), .int (0 : Int32), .int (0 : Int32), .long (Int64.ofNat (((119 - 96) * 32 + 104 - 96) * 32 + 101 - 96)), .retAddr 0]) rfl (Nat.le_of_ble_eq_true rfl) rfl rfl ?_
  refine wi_iload_n rfl rfl ?_
  refine wi_if_le rfl (fun h9 => absurd h9 (by decide)) (fun _ => ?_)
  refine wi_lload rfl rfl ?_
  refine wi_ldc2_w (lx := 32) rfl rfl ?_
  refine wn_lmul (lz := (Int64.ofNat ((((119 - 96) * 32 + 104 - 96) * 32 + 101 - 96) * 32))) rfl (mul_l (a := ((119 - 96) * 32 + 104 - 96) * 32 + 101 - 96) (b := 32) rfl (rfl : (32 : Int64) = Int64.ofNat 32)) ?_
  refine wi_iload_n rfl rfl ?_
  refine wn_i2l (lz := (Int64.ofNat (110))) rfl (i2l_n (a := 110) (rfl : (110 : Int32) = Int32.ofNat 110) (by omega)) ?_
  refine wn_ladd (lz := (Int64.ofNat ((((119 - 96) * 32 + 104 - 96) * 32 + 101 - 96) * 32 + 110))) rfl (add_l (a := (((119 - 96) * 32 + 104 - 96) * 32 + 101 - 96) * 32) (b := 110) rfl rfl) ?_
  refine wi_ldc2_w (lx := 96) rfl rfl ?_
  refine wn_lsub (lz := (Int64.ofNat ((((119 - 96) * 32 + 104 - 96) * 32 + 101 - 96) * 32 + 110 - 96))) rfl (sub_l (a := (((119 - 96) * 32 + 104 - 96) * 32 + 101 - 96) * 32 + 110) (b := 96) rfl (rfl : (96 : Int64) = Int64.ofNat 96) (by omega)) ?_
  refine wi_goto rfl ?_
  refine wi_lstore (l' := [.int (119 : Int32), .int (104 : Int32), .int (101 : Int32), .int (110 : Int32), .int (0 : Int32), .int (0 : Int32), .long (Int64.ofNat ((((119 - 96) * 32 + 104 - 96) * 32 + 101 - 96) * 32 + 110 - 96)), .retAddr 0]) rfl (Nat.le_of_ble_eq_true rfl) rfl rfl ?_
  refine wi_iload rfl rfl ?_
  refine wi_if_le rfl (fun _ => ?_) (fun h9 => absurd (by decide) h9)
  refine wi_lload rfl rfl ?_
  refine wi_lstore (l' := [.int (119 : Int32), .int (104 : Int32), .int (101 : Int32), .int (110 : Int32), .int (0 : Int32), .int (0 : Int32), .long (Int64.ofNat ((((119 - 96) * 32 + 104 - 96) * 32 + 101 - 96) * 32 + 110 - 96)), .retAddr 0]) rfl (Nat.le_of_ble_eq_true rfl) rfl rfl ?_
  refine wi_iload rfl rfl ?_
  refine wi_if_le rfl (fun _ => ?_) (fun h9 => absurd (by decide) h9)
  refine wi_lload rfl rfl ?_
  refine wi_lret rfl ?_
  exact hQ
theorem c_sp1 (hQ : Q (some (.long (Int64.ofNat 6605428))) M) : am_wp X d 173 0 [.int (102 : Int32), .int (105 : Int32), .int (114 : Int32), .int (115 : Int32), .int (116 : Int32), .int (0 : Int32), .retAddr 0, .retAddr 0] [] M Q := by
  refine wi_iload_n rfl rfl ?_
  refine wn_i2l (lz := (Int64.ofNat (102))) rfl (i2l_n (a := 102) (rfl : (102 : Int32) = Int32.ofNat 102) (by omega)) ?_
  refine wi_ldc2_w (lx := 96) rfl rfl ?_
  refine wn_lsub (lz := (Int64.ofNat (102 - 96))) rfl (sub_l (a := 102) (b := 96) rfl (rfl : (96 : Int64) = Int64.ofNat 96) (by omega)) ?_
  refine wi_lstore (l' := [.int (102 : Int32), .int (105 : Int32), .int (114 : Int32), .int (115 : Int32), .int (116 : Int32), .int (0 : Int32), .long (Int64.ofNat (102 - 96)), .retAddr 0]) rfl (Nat.le_of_ble_eq_true rfl) rfl rfl ?_
  refine wi_lload rfl rfl ?_
  refine wi_ldc2_w (lx := 32) rfl rfl ?_
  refine wn_lmul (lz := (Int64.ofNat ((102 - 96) * 32))) rfl (mul_l (a := 102 - 96) (b := 32) rfl (rfl : (32 : Int64) = Int64.ofNat 32)) ?_
  refine wi_iload_n rfl rfl ?_
  refine wn_i2l (lz := (Int64.ofNat (105))) rfl (i2l_n (a := 105) (rfl : (105 : Int32) = Int32.ofNat 105) (by omega)) ?_
  refine wn_ladd (lz := (Int64.ofNat ((102 - 96) * 32 + 105))) rfl (add_l (a := (102 - 96) * 32) (b := 105) rfl rfl) ?_
  refine wi_ldc2_w (lx := 96) rfl rfl ?_
  refine wn_lsub (lz := (Int64.ofNat ((102 - 96) * 32 + 105 - 96))) rfl (sub_l (a := (102 - 96) * 32 + 105) (b := 96) rfl (rfl : (96 : Int64) = Int64.ofNat 96) (by omega)) ?_
  refine wi_lstore (l' := [.int (102 : Int32), .int (105 : Int32), .int (114 : Int32), .int (115 : Int32), .int (116 : Int32), .int (0 : Int32), .long (Int64.ofNat ((102 - 96) * 32 + 105 - 96)), .retAddr 0]) rfl (Nat.le_of_ble_eq_true rfl) rfl rfl ?_
  refine wi_lload rfl rfl ?_
  refine wi_ldc2_w (lx := 32) rfl rfl ?_
  refine wn_lmul (lz := (Int64.ofNat (((102 - 96) * 32 + 105 - 96) * 32))) rfl (mul_l (a := (102 - 96) * 32 + 105 - 96) (b := 32) rfl (rfl : (32 : Int64) = Int64.ofNat 32)) ?_
  refine wi_iload_n rfl rfl ?_
  refine wn_i2l (lz := (Int64.ofNat (114))) rfl (i2l_n (a := 114) (rfl : (114 : Int32) = Int32.ofNat 114) (by omega)) ?_
  refine wn_ladd (lz := (Int64.ofNat (((102 - 96) * 32 + 105 - 96) * 32 + 114))) rfl (add_l (a := ((102 - 96) * 32 + 105 - 96) * 32) (b := 114) rfl rfl) ?_
  refine wi_ldc2_w (lx := 96) rfl rfl ?_
  refine wn_lsub (lz := (Int64.ofNat (((102 - 96) * 32 + 105 - 96) * 32 + 114 - 96))) rfl (sub_l (a := ((102 - 96) * 32 + 105 - 96) * 32 + 114) (b := 96) rfl (rfl : (96 : Int64) = Int64.ofNat 96) (by omega)) ?_
  refine wi_lstore (l' := [.int (102 : Int32), .int (105 : Int32), .int (114 : Int32), .int (115 : Int32), .int (116 : Int32), .int (0 : Int32), .long (Int64.ofNat (((102 - 96) * 32 + 105 - 96) * 32 + 114 - 96)), .retAddr 0]) rfl (Nat.le_of_ble_eq_true rfl) rfl rfl ?_
  refine wi_iload_n rfl rfl ?_
  refine wi_if_le rfl (fun h9 => absurd h9 (by decide)) (fun _ => ?_)
  refine wi_lload rfl rfl ?_
  refine wi_ldc2_w (lx := 32) rfl rfl ?_
  refine wn_lmul (lz := (Int64.ofNat ((((102 - 96) * 32 + 105 - 96) * 32 + 114 - 96) * 32))) rfl (mul_l (a := ((102 - 96) * 32 + 105 - 96) * 32 + 114 - 96) (b := 32) rfl (rfl : (32 : Int64) = Int64.ofNat 32)) ?_
  refine wi_iload_n rfl rfl ?_
  refine wn_i2l (lz := (Int64.ofNat (115))) rfl (i2l_n (a := 115) (rfl : (115 : Int32) = Int32.ofNat 115) (by omega)) ?_
  refine wn_ladd (lz := (Int64.ofNat ((((102 - 96) * 32 + 105 - 96) * 32 + 114 - 96) * 32 + 115))) rfl (add_l (a := (((102 - 96) * 32 + 105 - 96) * 32 + 114 - 96) * 32) (b := 115) rfl rfl) ?_
  refine wi_ldc2_w (lx := 96) rfl rfl ?_
  refine wn_lsub (lz := (Int64.ofNat ((((102 - 96) * 32 + 105 - 96) * 32 + 114 - 96) * 32 + 115 - 96))) rfl (sub_l (a := (((102 - 96) * 32 + 105 - 96) * 32 + 114 - 96) * 32 + 115) (b := 96) rfl (rfl : (96 : Int64) = Int64.ofNat 96) (by omega)) ?_
  refine wi_goto rfl ?_
  refine wi_lstore (l' := [.int (102 : Int32), .int (105 : Int32), .int (114 : Int32), .int (115 : Int32), .int (116 : Int32), .int (0 : Int32), .long (Int64.ofNat ((((102 - 96) * 32 + 105 - 96) * 32 + 114 - 96) * 32 + 115 - 96)), .retAddr 0]) rfl (Nat.le_of_ble_eq_true rfl) rfl rfl ?_
  refine wi_iload rfl rfl ?_
  refine wi_if_le rfl (fun h9 => absurd h9 (by decide)) (fun _ => ?_)
  refine wi_lload rfl rfl ?_
  refine wi_ldc2_w (lx := 32) rfl rfl ?_
  refine wn_lmul (lz := (Int64.ofNat (((((102 - 96) * 32 + 105 - 96) * 32 + 114 - 96) * 32 + 115 - 96) * 32))) rfl (mul_l (a := (((102 - 96) * 32 + 105 - 96) * 32 + 114 - 96) * 32 + 115 - 96) (b := 32) rfl (rfl : (32 : Int64) = Int64.ofNat 32)) ?_
  refine wi_iload rfl rfl ?_
  refine wn_i2l (lz := (Int64.ofNat (116))) rfl (i2l_n (a := 116) (rfl : (116 : Int32) = Int32.ofNat 116) (by omega)) ?_
  refine wn_ladd (lz := (Int64.ofNat (((((102 - 96) * 32 + 105 - 96) * 32 + 114 - 96) * 32 + 115 - 96) * 32 + 116))) rfl (add_l (a := ((((102 - 96) * 32 + 105 - 96) * 32 + 114 - 96) * 32 + 115 - 96) * 32) (b := 116) rfl rfl) ?_
  refine wi_ldc2_w (lx := 96) rfl rfl ?_
  refine wn_lsub (lz := (Int64.ofNat (((((102 - 96) * 32 + 105 - 96) * 32 + 114 - 96) * 32 + 115 - 96) * 32 + 116 - 96))) rfl (sub_l (a := ((((102 - 96) * 32 + 105 - 96) * 32 + 114 - 96) * 32 + 115 - 96) * 32 + 116) (b := 96) rfl (rfl : (96 : Int64) = Int64.ofNat 96) (by omega)) ?_
  refine wi_goto rfl ?_
  refine wi_lstore (l' := [.int (102 : Int32), .int (105 : Int32), .int (114 : Int32), .int (115 : Int32), .int (116 : Int32), .int (0 : Int32), .long (Int64.ofNat (((((102 - 96) * 32 + 105 - 96) * 32 + 114 - 96) * 32 + 115 - 96) * 32 + 116 - 96)), .retAddr 0]) rfl (Nat.le_of_ble_eq_true rfl) rfl rfl ?_
  refine wi_iload rfl rfl ?_
  refine wi_if_le rfl (fun _ => ?_) (fun h9 => absurd (by decide) h9)
  refine wi_lload rfl rfl ?_
  refine wi_lret rfl ?_
  exact hQ
theorem c_sp2 (hQ : Q (some (.long (Int64.ofNat 642891204))) M) : am_wp X d 173 0 [.int (115 : Int32), .int (101 : Int32), .int (99 : Int32), .int (111 : Int32), .int (110 : Int32), .int (100 : Int32), .retAddr 0, .retAddr 0] [] M Q := by
  refine wi_iload_n rfl rfl ?_
  refine wn_i2l (lz := (Int64.ofNat (115))) rfl (i2l_n (a := 115) (rfl : (115 : Int32) = Int32.ofNat 115) (by omega)) ?_
  refine wi_ldc2_w (lx := 96) rfl rfl ?_
  refine wn_lsub (lz := (Int64.ofNat (115 - 96))) rfl (sub_l (a := 115) (b := 96) rfl (rfl : (96 : Int64) = Int64.ofNat 96) (by omega)) ?_
  refine wi_lstore (l' := [.int (115 : Int32), .int (101 : Int32), .int (99 : Int32), .int (111 : Int32), .int (110 : Int32), .int (100 : Int32), .long (Int64.ofNat (115 - 96)), .retAddr 0]) rfl (Nat.le_of_ble_eq_true rfl) rfl rfl ?_
  refine wi_lload rfl rfl ?_
  refine wi_ldc2_w (lx := 32) rfl rfl ?_
  refine wn_lmul (lz := (Int64.ofNat ((115 - 96) * 32))) rfl (mul_l (a := 115 - 96) (b := 32) rfl (rfl : (32 : Int64) = Int64.ofNat 32)) ?_
  refine wi_iload_n rfl rfl ?_
  refine wn_i2l (lz := (Int64.ofNat (101))) rfl (i2l_n (a := 101) (rfl : (101 : Int32) = Int32.ofNat 101) (by omega)) ?_
  refine wn_ladd (lz := (Int64.ofNat ((115 - 96) * 32 + 101))) rfl (add_l (a := (115 - 96) * 32) (b := 101) rfl rfl) ?_
  refine wi_ldc2_w (lx := 96) rfl rfl ?_
  refine wn_lsub (lz := (Int64.ofNat ((115 - 96) * 32 + 101 - 96))) rfl (sub_l (a := (115 - 96) * 32 + 101) (b := 96) rfl (rfl : (96 : Int64) = Int64.ofNat 96) (by omega)) ?_
  refine wi_lstore (l' := [.int (115 : Int32), .int (101 : Int32), .int (99 : Int32), .int (111 : Int32), .int (110 : Int32), .int (100 : Int32), .long (Int64.ofNat ((115 - 96) * 32 + 101 - 96)), .retAddr 0]) rfl (Nat.le_of_ble_eq_true rfl) rfl rfl ?_
  refine wi_lload rfl rfl ?_
  refine wi_ldc2_w (lx := 32) rfl rfl ?_
  refine wn_lmul (lz := (Int64.ofNat (((115 - 96) * 32 + 101 - 96) * 32))) rfl (mul_l (a := (115 - 96) * 32 + 101 - 96) (b := 32) rfl (rfl : (32 : Int64) = Int64.ofNat 32)) ?_
  refine wi_iload_n rfl rfl ?_
  refine wn_i2l (lz := (Int64.ofNat (99))) rfl (i2l_n (a := 99) (rfl : (99 : Int32) = Int32.ofNat 99) (by omega)) ?_
  refine wn_ladd (lz := (Int64.ofNat (((115 - 96) * 32 + 101 - 96) * 32 + 99))) rfl (add_l (a := ((115 - 96) * 32 + 101 - 96) * 32) (b := 99) rfl rfl) ?_
  refine wi_ldc2_w (lx := 96) rfl rfl ?_
  refine wn_lsub (lz := (Int64.ofNat (((115 - 96) * 32 + 101 - 96) * 32 + 99 - 96))) rfl (sub_l (a := ((115 - 96) * 32 + 101 - 96) * 32 + 99) (b := 96) rfl (rfl : (96 : Int64) = Int64.ofNat 96) (by omega)) ?_
  refine wi_lstore (l' := [.int (115 : Int32), .int (101 : Int32), .int (99 : Int32), .int (111 : Int32), .int (110 : Int32), .int (100 : Int32), .long (Int64.ofNat (((115 - 96) * 32 + 101 - 96) * 32 + 99 - 96)), .retAddr 0]) rfl (Nat.le_of_ble_eq_true rfl) rfl rfl ?_
  refine wi_iload_n rfl rfl ?_
  refine wi_if_le rfl (fun h9 => absurd h9 (by decide)) (fun _ => ?_)
  refine wi_lload rfl rfl ?_
  refine wi_ldc2_w (lx := 32) rfl rfl ?_
  refine wn_lmul (lz := (Int64.ofNat ((((115 - 96) * 32 + 101 - 96) * 32 + 99 - 96) * 32))) rfl (mul_l (a := ((115 - 96) * 32 + 101 - 96) * 32 + 99 - 96) (b := 32) rfl (rfl : (32 : Int64) = Int64.ofNat 32)) ?_
  refine wi_iload_n rfl rfl ?_
  refine wn_i2l (lz := (Int64.ofNat (111))) rfl (i2l_n (a := 111) (rfl : (111 : Int32) = Int32.ofNat 111) (by omega)) ?_
  refine wn_ladd (lz := (Int64.ofNat ((((115 - 96) * 32 + 101 - 96) * 32 + 99 - 96) * 32 + 111))) rfl (add_l (a := (((115 - 96) * 32 + 101 - 96) * 32 + 99 - 96) * 32) (b := 111) rfl rfl) ?_
  refine wi_ldc2_w (lx := 96) rfl rfl ?_
  refine wn_lsub (lz := (Int64.ofNat ((((115 - 96) * 32 + 101 - 96) * 32 + 99 - 96) * 32 + 111 - 96))) rfl (sub_l (a := (((115 - 96) * 32 + 101 - 96) * 32 + 99 - 96) * 32 + 111) (b := 96) rfl (rfl : (96 : Int64) = Int64.ofNat 96) (by omega)) ?_
  refine wi_goto rfl ?_
  refine wi_lstore (l' := [.int (115 : Int32), .int (101 : Int32), .int (99 : Int32), .int (111 : Int32), .int (110 : Int32), .int (100 : Int32), .long (Int64.ofNat ((((115 - 96) * 32 + 101 - 96) * 32 + 99 - 96) * 32 + 111 - 96)), .retAddr 0]) rfl (Nat.le_of_ble_eq_true rfl) rfl rfl ?_
  refine wi_iload rfl rfl ?_
  refine wi_if_le rfl (fun h9 => absurd h9 (by decide)) (fun _ => ?_)
  refine wi_lload rfl rfl ?_
  refine wi_ldc2_w (lx := 32) rfl rfl ?_
  refine wn_lmul (lz := (Int64.ofNat (((((115 - 96) * 32 + 101 - 96) * 32 + 99 - 96) * 32 + 111 - 96) * 32))) rfl (mul_l (a := (((115 - 96) * 32 + 101 - 96) * 32 + 99 - 96) * 32 + 111 - 96) (b := 32) rfl (rfl : (32 : Int64) = Int64.ofNat 32)) ?_
  refine wi_iload rfl rfl ?_
  refine wn_i2l (lz := (Int64.ofNat (110))) rfl (i2l_n (a := 110) (rfl : (110 : Int32) = Int32.ofNat 110) (by omega)) ?_
  refine wn_ladd (lz := (Int64.ofNat (((((115 - 96) * 32 + 101 - 96) * 32 + 99 - 96) * 32 + 111 - 96) * 32 + 110))) rfl (add_l (a := ((((115 - 96) * 32 + 101 - 96) * 32 + 99 - 96) * 32 + 111 - 96) * 32) (b := 110) rfl rfl) ?_
  refine wi_ldc2_w (lx := 96) rfl rfl ?_
  refine wn_lsub (lz := (Int64.ofNat (((((115 - 96) * 32 + 101 - 96) * 32 + 99 - 96) * 32 + 111 - 96) * 32 + 110 - 96))) rfl (sub_l (a := ((((115 - 96) * 32 + 101 - 96) * 32 + 99 - 96) * 32 + 111 - 96) * 32 + 110) (b := 96) rfl (rfl : (96 : Int64) = Int64.ofNat 96) (by omega)) ?_
  refine wi_goto rfl ?_
  refine wi_lstore (l' := [.int (115 : Int32), .int (101 : Int32), .int (99 : Int32), .int (111 : Int32), .int (110 : Int32), .int (100 : Int32), .long (Int64.ofNat (((((115 - 96) * 32 + 101 - 96) * 32 + 99 - 96) * 32 + 111 - 96) * 32 + 110 - 96)), .retAddr 0]) rfl (Nat.le_of_ble_eq_true rfl) rfl rfl ?_
  refine wi_iload rfl rfl ?_
  refine wi_if_le rfl (fun h9 => absurd h9 (by decide)) (fun _ => ?_)
  refine wi_lload rfl rfl ?_
  refine wi_ldc2_w (lx := 32) rfl rfl ?_
  refine wn_lmul (lz := (Int64.ofNat ((((((115 - 96) * 32 + 101 - 96) * 32 + 99 - 96) * 32 + 111 - 96) * 32 + 110 - 96) * 32))) rfl (mul_l (a := ((((115 - 96) * 32 + 101 - 96) * 32 + 99 - 96) * 32 + 111 - 96) * 32 + 110 - 96) (b := 32) rfl (rfl : (32 : Int64) = Int64.ofNat 32)) ?_
  refine wi_iload rfl rfl ?_
  refine wn_i2l (lz := (Int64.ofNat (100))) rfl (i2l_n (a := 100) (rfl : (100 : Int32) = Int32.ofNat 100) (by omega)) ?_
  refine wn_ladd (lz := (Int64.ofNat ((((((115 - 96) * 32 + 101 - 96) * 32 + 99 - 96) * 32 + 111 - 96) * 32 + 110 - 96) * 32 + 100))) rfl (add_l (a := (((((115 - 96) * 32 + 101 - 96) * 32 + 99 - 96) * 32 + 111 - 96) * 32 + 110 - 96) * 32) (b := 100) rfl rfl) ?_
  refine wi_ldc2_w (lx := 96) rfl rfl ?_
  refine wn_lsub (lz := (Int64.ofNat ((((((115 - 96) * 32 + 101 - 96) * 32 + 99 - 96) * 32 + 111 - 96) * 32 + 110 - 96) * 32 + 100 - 96))) rfl (sub_l (a := (((((115 - 96) * 32 + 101 - 96) * 32 + 99 - 96) * 32 + 111 - 96) * 32 + 110 - 96) * 32 + 100) (b := 96) rfl (rfl : (96 : Int64) = Int64.ofNat 96) (by omega)) ?_
  refine wi_goto rfl ?_
  refine wi_lret rfl ?_
  exact hQ
theorem c_sp3 (hQ : Q (some (.long (Int64.ofNat 21243460))) M) : am_wp X d 173 0 [.int (116 : Int32), .int (104 : Int32), .int (105 : Int32), .int (114 : Int32), .int (100 : Int32), .int (0 : Int32), .retAddr 0, .retAddr 0] [] M Q := by
  refine wi_iload_n rfl rfl ?_
  refine wn_i2l (lz := (Int64.ofNat (116))) rfl (i2l_n (a := 116) (rfl : (116 : Int32) = Int32.ofNat 116) (by omega)) ?_
  refine wi_ldc2_w (lx := 96) rfl rfl ?_
  refine wn_lsub (lz := (Int64.ofNat (116 - 96))) rfl (sub_l (a := 116) (b := 96) rfl (rfl : (96 : Int64) = Int64.ofNat 96) (by omega)) ?_
  refine wi_lstore (l' := [.int (116 : Int32), .int (104 : Int32), .int (105 : Int32), .int (114 : Int32), .int (100 : Int32), .int (0 : Int32), .long (Int64.ofNat (116 - 96)), .retAddr 0]) rfl (Nat.le_of_ble_eq_true rfl) rfl rfl ?_
  refine wi_lload rfl rfl ?_
  refine wi_ldc2_w (lx := 32) rfl rfl ?_
  refine wn_lmul (lz := (Int64.ofNat ((116 - 96) * 32))) rfl (mul_l (a := 116 - 96) (b := 32) rfl (rfl : (32 : Int64) = Int64.ofNat 32)) ?_
  refine wi_iload_n rfl rfl ?_
  refine wn_i2l (lz := (Int64.ofNat (104))) rfl (i2l_n (a := 104) (rfl : (104 : Int32) = Int32.ofNat 104) (by omega)) ?_
  refine wn_ladd (lz := (Int64.ofNat ((116 - 96) * 32 + 104))) rfl (add_l (a := (116 - 96) * 32) (b := 104) rfl rfl) ?_
  refine wi_ldc2_w (lx := 96) rfl rfl ?_
  refine wn_lsub (lz := (Int64.ofNat ((116 - 96) * 32 + 104 - 96))) rfl (sub_l (a := (116 - 96) * 32 + 104) (b := 96) rfl (rfl : (96 : Int64) = Int64.ofNat 96) (by omega)) ?_
  refine wi_lstore (l' := [.int (116 : Int32), .int (104 : Int32), .int (105 : Int32), .int (114 : Int32), .int (100 : Int32), .int (0 : Int32), .long (Int64.ofNat ((116 - 96) * 32 + 104 - 96)), .retAddr 0]) rfl (Nat.le_of_ble_eq_true rfl) rfl rfl ?_
  refine wi_lload rfl rfl ?_
  refine wi_ldc2_w (lx := 32) rfl rfl ?_
  refine wn_lmul (lz := (Int64.ofNat (((116 - 96) * 32 + 104 - 96) * 32))) rfl (mul_l (a := (116 - 96) * 32 + 104 - 96) (b := 32) rfl (rfl : (32 : Int64) = Int64.ofNat 32)) ?_
  refine wi_iload_n rfl rfl ?_
  refine wn_i2l (lz := (Int64.ofNat (105))) rfl (i2l_n (a := 105) (rfl : (105 : Int32) = Int32.ofNat 105) (by omega)) ?_
  refine wn_ladd (lz := (Int64.ofNat (((116 - 96) * 32 + 104 - 96) * 32 + 105))) rfl (add_l (a := ((116 - 96) * 32 + 104 - 96) * 32) (b := 105) rfl rfl) ?_
  refine wi_ldc2_w (lx := 96) rfl rfl ?_
  refine wn_lsub (lz := (Int64.ofNat (((116 - 96) * 32 + 104 - 96) * 32 + 105 - 96))) rfl (sub_l (a := ((116 - 96) * 32 + 104 - 96) * 32 + 105) (b := 96) rfl (rfl : (96 : Int64) = Int64.ofNat 96) (by omega)) ?_
  refine wi_lstore (l' := [.int (116 : Int32), .int (104 : Int32), .int (105 : Int32), .int (114 : Int32), .int (100 : Int32), .int (0 : Int32), .long (Int64.ofNat (((116 - 96) * 32 + 104 - 96) * 32 + 105 - 96)), .retAddr 0]) rfl (Nat.le_of_ble_eq_true rfl) rfl rfl ?_
  refine wi_iload_n rfl rfl ?_
  refine wi_if_le rfl (fun h9 => absurd h9 (by decide)) (fun _ => ?_)
  refine wi_lload rfl rfl ?_
  refine wi_ldc2_w (lx := 32) rfl rfl ?_
  refine wn_lmul (lz := (Int64.ofNat ((((116 - 96) * 32 + 104 - 96) * 32 + 105 - 96) * 32))) rfl (mul_l (a := ((116 - 96) * 32 + 104 - 96) * 32 + 105 - 96) (b := 32) rfl (rfl : (32 : Int64) = Int64.ofNat 32)) ?_
  refine wi_iload_n rfl rfl ?_
  refine wn_i2l (lz := (Int64.ofNat (114))) rfl (i2l_n (a := 114) (rfl : (114 : Int32) = Int32.ofNat 114) (by omega)) ?_
  refine wn_ladd (lz := (Int64.ofNat ((((116 - 96) * 32 + 104 - 96) * 32 + 105 - 96) * 32 + 114))) rfl (add_l (a := (((116 - 96) * 32 + 104 - 96) * 32 + 105 - 96) * 32) (b := 114) rfl rfl) ?_
  refine wi_ldc2_w (lx := 96) rfl rfl ?_
  refine wn_lsub (lz := (Int64.ofNat ((((116 - 96) * 32 + 104 - 96) * 32 + 105 - 96) * 32 + 114 - 96))) rfl (sub_l (a := (((116 - 96) * 32 + 104 - 96) * 32 + 105 - 96) * 32 + 114) (b := 96) rfl (rfl : (96 : Int64) = Int64.ofNat 96) (by omega)) ?_
  refine wi_goto rfl ?_
  refine wi_lstore (l' := [.int (116 : Int32), .int (104 : Int32), .int (105 : Int32), .int (114 : Int32), .int (100 : Int32), .int (0 : Int32), .long (Int64.ofNat ((((116 - 96) * 32 + 104 - 96) * 32 + 105 - 96) * 32 + 114 - 96)), .retAddr 0]) rfl (Nat.le_of_ble_eq_true rfl) rfl rfl ?_
  refine wi_iload rfl rfl ?_
  refine wi_if_le rfl (fun h9 => absurd h9 (by decide)) (fun _ => ?_)
  refine wi_lload rfl rfl ?_
  refine wi_ldc2_w (lx := 32) rfl rfl ?_
  refine wn_lmul (lz := (Int64.ofNat (((((116 - 96) * 32 + 104 - 96) * 32 + 105 - 96) * 32 + 114 - 96) * 32))) rfl (mul_l (a := (((116 - 96) * 32 + 104 - 96) * 32 + 105 - 96) * 32 + 114 - 96) (b := 32) rfl (rfl : (32 : Int64) = Int64.ofNat 32)) ?_
  refine wi_iload rfl rfl ?_
  refine wn_i2l (lz := (Int64.ofNat (100))) rfl (i2l_n (a := 100) (rfl : (100 : Int32) = Int32.ofNat 100) (by omega)) ?_
  refine wn_ladd (lz := (Int64.ofNat (((((116 - 96) * 32 + 104 - 96) * 32 + 105 - 96) * 32 + 114 - 96) * 32 + 100))) rfl (add_l (a := ((((116 - 96) * 32 + 104 - 96) * 32 + 105 - 96) * 32 + 114 - 96) * 32) (b := 100) rfl rfl) ?_
  refine wi_ldc2_w (lx := 96) rfl rfl ?_
  refine wn_lsub (lz := (Int64.ofNat (((((116 - 96) * 32 + 104 - 96) * 32 + 105 - 96) * 32 + 114 - 96) * 32 + 100 - 96))) rfl (sub_l (a := ((((116 - 96) * 32 + 104 - 96) * 32 + 105 - 96) * 32 + 114 - 96) * 32 + 100) (b := 96) rfl (rfl : (96 : Int64) = Int64.ofNat 96) (by omega)) ?_
  refine wi_goto rfl ?_
  refine wi_lstore (l' := [.int (116 : Int32), .int (104 : Int32), .int (105 : Int32), .int (114 : Int32), .int (100 : Int32), .int (0 : Int32), .long (Int64.ofNat (((((116 - 96) * 32 + 104 - 96) * 32 + 105 - 96) * 32 + 114 - 96) * 32 + 100 - 96)), .retAddr 0]) rfl (Nat.le_of_ble_eq_true rfl) rfl rfl ?_
  refine wi_iload rfl rfl ?_
  refine wi_if_le rfl (fun _ => ?_) (fun h9 => absurd (by decide) h9)
  refine wi_lload rfl rfl ?_
  refine wi_lret rfl ?_
  exact hQ
theorem c_sp4 (hQ : Q (some (.long (Int64.ofNat 7931507))) M) : am_wp X d 173 0 [.int (103 : Int32), .int (114 : Int32), .int (97 : Int32), .int (115 : Int32), .int (115 : Int32), .int (0 : Int32), .retAddr 0, .retAddr 0] [] M Q := by
  refine wi_iload_n rfl rfl ?_
  refine wn_i2l (lz := (Int64.ofNat (103))) rfl (i2l_n (a := 103) (rfl : (103 : Int32) = Int32.ofNat 103) (by omega)) ?_
  refine wi_ldc2_w (lx := 96) rfl rfl ?_
  refine wn_lsub (lz := (Int64.ofNat (103 - 96))) rfl (sub_l (a := 103) (b := 96) rfl (rfl : (96 : Int64) = Int64.ofNat 96) (by omega)) ?_
  refine wi_lstore (l' := [.int (103 : Int32), .int (114 : Int32), .int (97 : Int32), .int (115 : Int32), .int (115 : Int32), .int (0 : Int32), .long (Int64.ofNat (103 - 96)), .retAddr 0]) rfl (Nat.le_of_ble_eq_true rfl) rfl rfl ?_
  refine wi_lload rfl rfl ?_
  refine wi_ldc2_w (lx := 32) rfl rfl ?_
  refine wn_lmul (lz := (Int64.ofNat ((103 - 96) * 32))) rfl (mul_l (a := 103 - 96) (b := 32) rfl (rfl : (32 : Int64) = Int64.ofNat 32)) ?_
  refine wi_iload_n rfl rfl ?_
  refine wn_i2l (lz := (Int64.ofNat (114))) rfl (i2l_n (a := 114) (rfl : (114 : Int32) = Int32.ofNat 114) (by omega)) ?_
  refine wn_ladd (lz := (Int64.ofNat ((103 - 96) * 32 + 114))) rfl (add_l (a := (103 - 96) * 32) (b := 114) rfl rfl) ?_
  refine wi_ldc2_w (lx := 96) rfl rfl ?_
  refine wn_lsub (lz := (Int64.ofNat ((103 - 96) * 32 + 114 - 96))) rfl (sub_l (a := (103 - 96) * 32 + 114) (b := 96) rfl (rfl : (96 : Int64) = Int64.ofNat 96) (by omega)) ?_
  refine wi_lstore (l' := [.int (103 : Int32), .int (114 : Int32), .int (97 : Int32), .int (115 : Int32), .int (115 : Int32), .int (0 : Int32), .long (Int64.ofNat ((103 - 96) * 32 + 114 - 96)), .retAddr 0]) rfl (Nat.le_of_ble_eq_true rfl) rfl rfl ?_
  refine wi_lload rfl rfl ?_
  refine wi_ldc2_w (lx := 32) rfl rfl ?_
  refine wn_lmul (lz := (Int64.ofNat (((103 - 96) * 32 + 114 - 96) * 32))) rfl (mul_l (a := (103 - 96) * 32 + 114 - 96) (b := 32) rfl (rfl : (32 : Int64) = Int64.ofNat 32)) ?_
  refine wi_iload_n rfl rfl ?_
  refine wn_i2l (lz := (Int64.ofNat (97))) rfl (i2l_n (a := 97) (rfl : (97 : Int32) = Int32.ofNat 97) (by omega)) ?_
  refine wn_ladd (lz := (Int64.ofNat (((103 - 96) * 32 + 114 - 96) * 32 + 97))) rfl (add_l (a := ((103 - 96) * 32 + 114 - 96) * 32) (b := 97) rfl rfl) ?_
  refine wi_ldc2_w (lx := 96) rfl rfl ?_
  refine wn_lsub (lz := (Int64.ofNat (((103 - 96) * 32 + 114 - 96) * 32 + 97 - 96))) rfl (sub_l (a := ((103 - 96) * 32 + 114 - 96) * 32 + 97) (b := 96) rfl (rfl : (96 : Int64) = Int64.ofNat 96) (by omega)) ?_
  refine wi_lstore (l' := [.int (103 : Int32), .int (114 : Int32), .int (97 : Int32), .int (115 : Int32), .int (115 : Int32), .int (0 : Int32), .long (Int64.ofNat (((103 - 96) * 32 + 114 - 96) * 32 + 97 - 96)), .retAddr 0]) rfl (Nat.le_of_ble_eq_true rfl) rfl rfl ?_
  refine wi_iload_n rfl rfl ?_
  refine wi_if_le rfl (fun h9 => absurd h9 (by decide)) (fun _ => ?_)
  refine wi_lload rfl rfl ?_
  refine wi_ldc2_w (lx := 32) rfl rfl ?_
  refine wn_lmul (lz := (Int64.ofNat ((((103 - 96) * 32 + 114 - 96) * 32 + 97 - 96) * 32))) rfl (mul_l (a := ((103 - 96) * 32 + 114 - 96) * 32 + 97 - 96) (b := 32) rfl (rfl : (32 : Int64) = Int64.ofNat 32)) ?_
  refine wi_iload_n rfl rfl ?_
  refine wn_i2l (lz := (Int64.ofNat (115))) rfl (i2l_n (a := 115) (rfl : (115 : Int32) = Int32.ofNat 115) (by omega)) ?_
  refine wn_ladd (lz := (Int64.ofNat ((((103 - 96) * 32 + 114 - 96) * 32 + 97 - 96) * 32 + 115))) rfl (add_l (a := (((103 - 96) * 32 + 114 - 96) * 32 + 97 - 96) * 32) (b := 115) rfl rfl) ?_
  refine wi_ldc2_w (lx := 96) rfl rfl ?_
  refine wn_lsub (lz := (Int64.ofNat ((((103 - 96) * 32 + 114 - 96) * 32 + 97 - 96) * 32 + 115 - 96))) rfl (sub_l (a := (((103 - 96) * 32 + 114 - 96) * 32 + 97 - 96) * 32 + 115) (b := 96) rfl (rfl : (96 : Int64) = Int64.ofNat 96) (by omega)) ?_
  refine wi_goto rfl ?_
  refine wi_lstore (l' := [.int (103 : Int32), .int (114 : Int32), .int (97 : Int32), .int (115 : Int32), .int (115 : Int32), .int (0 : Int32), .long (Int64.ofNat ((((103 - 96) * 32 + 114 - 96) * 32 + 97 - 96) * 32 + 115 - 96)), .retAddr 0]) rfl (Nat.le_of_ble_eq_true rfl) rfl rfl ?_
  refine wi_iload rfl rfl ?_
  refine wi_if_le rfl (fun h9 => absurd h9 (by decide)) (fun _ => ?_)
  refine wi_lload rfl rfl ?_
  refine wi_ldc2_w (lx := 32) rfl rfl ?_
  refine wn_lmul (lz := (Int64.ofNat (((((103 - 96) * 32 + 114 - 96) * 32 + 97 - 96) * 32 + 115 - 96) * 32))) rfl (mul_l (a := (((103 - 96) * 32 + 114 - 96) * 32 + 97 - 96) * 32 + 115 - 96) (b := 32) rfl (rfl : (32 : Int64) = Int64.ofNat 32)) ?_
  refine wi_iload rfl rfl ?_
  refine wn_i2l (lz := (Int64.ofNat (115))) rfl (i2l_n (a := 115) (rfl : (115 : Int32) = Int32.ofNat 115) (by omega)) ?_
  refine wn_ladd (lz := (Int64.ofNat (((((103 - 96) * 32 + 114 - 96) * 32 + 97 - 96) * 32 + 115 - 96) * 32 + 115))) rfl (add_l (a := ((((103 - 96) * 32 + 114 - 96) * 32 + 97 - 96) * 32 + 115 - 96) * 32) (b := 115) rfl rfl) ?_
  refine wi_ldc2_w (lx := 96) rfl rfl ?_
  refine wn_lsub (lz := (Int64.ofNat (((((103 - 96) * 32 + 114 - 96) * 32 + 97 - 96) * 32 + 115 - 96) * 32 + 115 - 96))) rfl (sub_l (a := ((((103 - 96) * 32 + 114 - 96) * 32 + 97 - 96) * 32 + 115 - 96) * 32 + 115) (b := 96) rfl (rfl : (96 : Int64) = Int64.ofNat 96) (by omega)) ?_
  refine wi_goto rfl ?_
  refine wi_lstore (l' := [.int (103 : Int32), .int (114 : Int32), .int (97 : Int32), .int (115 : Int32), .int (115 : Int32), .int (0 : Int32), .long (Int64.ofNat (((((103 - 96) * 32 + 114 - 96) * 32 + 97 - 96) * 32 + 115 - 96) * 32 + 115 - 96)), .retAddr 0]) rfl (Nat.le_of_ble_eq_true rfl) rfl rfl ?_
  refine wi_iload rfl rfl ?_
  refine wi_if_le rfl (fun _ => ?_) (fun h9 => absurd (by decide) h9)
  refine wi_lload rfl rfl ?_
  refine wi_lret rfl ?_
  exact hQ
theorem c_sp5 (hQ : Q (some (.long (Int64.ofNat 263748))) M) : am_wp X d 173 0 [.int (104 : Int32), .int (97 : Int32), .int (114 : Int32), .int (100 : Int32), .int (0 : Int32), .int (0 : Int32), .retAddr 0, .retAddr 0] [] M Q := by
  refine wi_iload_n rfl rfl ?_
  refine wn_i2l (lz := (Int64.ofNat (104))) rfl (i2l_n (a := 104) (rfl : (104 : Int32) = Int32.ofNat 104) (by omega)) ?_
  refine wi_ldc2_w (lx := 96) rfl rfl ?_
  refine wn_lsub (lz := (Int64.ofNat (104 - 96))) rfl (sub_l (a := 104) (b := 96) rfl (rfl : (96 : Int64) = Int64.ofNat 96) (by omega)) ?_
  refine wi_lstore (l' := [.int (104 : Int32), .int (97 : Int32), .int (114 : Int32), .int (100 : Int32), .int (0 : Int32), .int (0 : Int32), .long (Int64.ofNat (104 - 96)), .retAddr 0]) rfl (Nat.le_of_ble_eq_true rfl) rfl rfl ?_
  refine wi_lload rfl rfl ?_
  refine wi_ldc2_w (lx := 32) rfl rfl ?_
  refine wn_lmul (lz := (Int64.ofNat ((104 - 96) * 32))) rfl (mul_l (a := 104 - 96) (b := 32) rfl (rfl : (32 : Int64) = Int64.ofNat 32)) ?_
  refine wi_iload_n rfl rfl ?_
  refine wn_i2l (lz := (Int64.ofNat (97))) rfl (i2l_n (a := 97) (rfl : (97 : Int32) = Int32.ofNat 97) (by omega)) ?_
  refine wn_ladd (lz := (Int64.ofNat ((104 - 96) * 32 + 97))) rfl (add_l (a := (104 - 96) * 32) (b := 97) rfl rfl) ?_
  refine wi_ldc2_w (lx := 96) rfl rfl ?_
  refine wn_lsub (lz := (Int64.ofNat ((104 - 96) * 32 + 97 - 96))) rfl (sub_l (a := (104 - 96) * 32 + 97) (b := 96) rfl (rfl : (96 : Int64) = Int64.ofNat 96) (by omega)) ?_
  refine wi_lstore (l' := [.int (104 : Int32), .int (97 : Int32), .int (114 : Int32), .int (100 : Int32), .int (0 : Int32), .int (0 : Int32), .long (Int64.ofNat ((104 - 96) * 32 + 97 - 96)), .retAddr 0]) rfl (Nat.le_of_ble_eq_true rfl) rfl rfl ?_
  refine wi_lload rfl rfl ?_
  refine wi_ldc2_w (lx := 32) rfl rfl ?_
  refine wn_lmul (lz := (Int64.ofNat (((104 - 96) * 32 + 97 - 96) * 32))) rfl (mul_l (a := (104 - 96) * 32 + 97 - 96) (b := 32) rfl (rfl : (32 : Int64) = Int64.ofNat 32)) ?_
  refine wi_iload_n rfl rfl ?_
  refine wn_i2l (lz := (Int64.ofNat (114))) rfl (i2l_n (a := 114) (rfl : (114 : Int32) = Int32.ofNat 114) (by omega)) ?_
  refine wn_ladd (lz := (Int64.ofNat (((104 - 96) * 32 + 97 - 96) * 32 + 114))) rfl (add_l (a := ((104 - 96) * 32 + 97 - 96) * 32) (b := 114) rfl rfl) ?_
  refine wi_ldc2_w (lx := 96) rfl rfl ?_
  refine wn_lsub (lz := (Int64.ofNat (((104 - 96) * 32 + 97 - 96) * 32 + 114 - 96))) rfl (sub_l (a := ((104 - 96) * 32 + 97 - 96) * 32 + 114) (b := 96) rfl (rfl : (96 : Int64) = Int64.ofNat 96) (by omega)) ?_
  refine wi_lstore (l' := [.int (104 : Int32), .int (97 : Int32), .int (114 : Int32), .int (100 : Int32), .int (0 : Int32), .int (0 : Int32), .long (Int64.ofNat (((104 - 96) * 32 + 97 - 96) * 32 + 114 - 96)), .retAddr 0]) rfl (Nat.le_of_ble_eq_true rfl) rfl rfl ?_
  refine wi_iload_n rfl rfl ?_
  refine wi_if_le rfl (fun h9 => absurd h9 (by decide)) (fun _ => ?_)
  refine wi_lload rfl rfl ?_
  refine wi_ldc2_w (lx := 32) rfl rfl ?_
  refine wn_lmul (lz := (Int64.ofNat ((((104 - 96) * 32 + 97 - 96) * 32 + 114 - 96) * 32))) rfl (mul_l (a := ((104 - 96) * 32 + 97 - 96) * 32 + 114 - 96) (b := 32) rfl (rfl : (32 : Int64) = Int64.ofNat 32)) ?_
  refine wi_iload_n rfl rfl ?_
  refine wn_i2l (lz := (Int64.ofNat (100))) rfl (i2l_n (a := 100) (rfl : (100 : Int32) = Int32.ofNat 100) (by omega)) ?_
  refine wn_ladd (lz := (Int64.ofNat ((((104 - 96) * 32 + 97 - 96) * 32 + 114 - 96) * 32 + 100))) rfl (add_l (a := (((104 - 96) * 32 + 97 - 96) * 32 + 114 - 96) * 32) (b := 100) rfl rfl) ?_
  refine wi_ldc2_w (lx := 96) rfl rfl ?_
  refine wn_lsub (lz := (Int64.ofNat ((((104 - 96) * 32 + 97 - 96) * 32 + 114 - 96) * 32 + 100 - 96))) rfl (sub_l (a := (((104 - 96) * 32 + 97 - 96) * 32 + 114 - 96) * 32 + 100) (b := 96) rfl (rfl : (96 : Int64) = Int64.ofNat 96) (by omega)) ?_
  refine wi_goto rfl ?_
  refine wi_lstore (l' := [.int (104 : Int32), .int (97 : Int32), .int (114 : Int32), .int (100 : Int32), .int (0 : Int32), .int (0 : Int32), .long (Int64.ofNat ((((104 - 96) * 32 + 97 - 96) * 32 + 114 - 96) * 32 + 100 - 96)), .retAddr 0]) rfl (Nat.le_of_ble_eq_true rfl) rfl rfl ?_
  refine wi_iload rfl rfl ?_
  refine wi_if_le rfl (fun _ => ?_) (fun h9 => absurd (by decide) h9)
  refine wi_lload rfl rfl ?_
  refine wi_lstore (l' := [.int (104 : Int32), .int (97 : Int32), .int (114 : Int32), .int (100 : Int32), .int (0 : Int32), .int (0 : Int32), .long (Int64.ofNat ((((104 - 96) * 32 + 97 - 96) * 32 + 114 - 96) * 32 + 100 - 96)), .retAddr 0]) rfl (Nat.le_of_ble_eq_true rfl) rfl rfl ?_
  refine wi_iload rfl rfl ?_
  refine wi_if_le rfl (fun _ => ?_) (fun h9 => absurd (by decide) h9)
  refine wi_lload rfl rfl ?_
  refine wi_lret rfl ?_
  exact hQ
theorem c_sp6 (hQ : Q (some (.long (Int64.ofNat 758834))) M) : am_wp X d 173 0 [.int (119 : Int32), .int (101 : Int32), .int (97 : Int32), .int (114 : Int32), .int (0 : Int32), .int (0 : Int32), .retAddr 0, .retAddr 0] [] M Q := by
  refine wi_iload_n rfl rfl ?_
  refine wn_i2l (lz := (Int64.ofNat (119))) rfl (i2l_n (a := 119) (rfl : (119 : Int32) = Int32.ofNat 119) (by omega)) ?_
  refine wi_ldc2_w (lx := 96) rfl rfl ?_
  refine wn_lsub (lz := (Int64.ofNat (119 - 96))) rfl (sub_l (a := 119) (b := 96) rfl (rfl : (96 : Int64) = Int64.ofNat 96) (by omega)) ?_
  refine wi_lstore (l' := [.int (119 : Int32), .int (101 : Int32), .int (97 : Int32), .int (114 : Int32), .int (0 : Int32), .int (0 : Int32), .long (Int64.ofNat (119 - 96)), .retAddr 0]) rfl (Nat.le_of_ble_eq_true rfl) rfl rfl ?_
  refine wi_lload rfl rfl ?_
  refine wi_ldc2_w (lx := 32) rfl rfl ?_
  refine wn_lmul (lz := (Int64.ofNat ((119 - 96) * 32))) rfl (mul_l (a := 119 - 96) (b := 32) rfl (rfl : (32 : Int64) = Int64.ofNat 32)) ?_
  refine wi_iload_n rfl rfl ?_
  refine wn_i2l (lz := (Int64.ofNat (101))) rfl (i2l_n (a := 101) (rfl : (101 : Int32) = Int32.ofNat 101) (by omega)) ?_
  refine wn_ladd (lz := (Int64.ofNat ((119 - 96) * 32 + 101))) rfl (add_l (a := (119 - 96) * 32) (b := 101) rfl rfl) ?_
  refine wi_ldc2_w (lx := 96) rfl rfl ?_
  refine wn_lsub (lz := (Int64.ofNat ((119 - 96) * 32 + 101 - 96))) rfl (sub_l (a := (119 - 96) * 32 + 101) (b := 96) rfl (rfl : (96 : Int64) = Int64.ofNat 96) (by omega)) ?_
  refine wi_lstore (l' := [.int (119 : Int32), .int (101 : Int32), .int (97 : Int32), .int (114 : Int32), .int (0 : Int32), .int (0 : Int32), .long (Int64.ofNat ((119 - 96) * 32 + 101 - 96)), .retAddr 0]) rfl (Nat.le_of_ble_eq_true rfl) rfl rfl ?_
  refine wi_lload rfl rfl ?_
  refine wi_ldc2_w (lx := 32) rfl rfl ?_
  refine wn_lmul (lz := (Int64.ofNat (((119 - 96) * 32 + 101 - 96) * 32))) rfl (mul_l (a := (119 - 96) * 32 + 101 - 96) (b := 32) rfl (rfl : (32 : Int64) = Int64.ofNat 32)) ?_
  refine wi_iload_n rfl rfl ?_
  refine wn_i2l (lz := (Int64.ofNat (97))) rfl (i2l_n (a := 97) (rfl : (97 : Int32) = Int32.ofNat 97) (by omega)) ?_
  refine wn_ladd (lz := (Int64.ofNat (((119 - 96) * 32 + 101 - 96) * 32 + 97))) rfl (add_l (a := ((119 - 96) * 32 + 101 - 96) * 32) (b := 97) rfl rfl) ?_
  refine wi_ldc2_w (lx := 96) rfl rfl ?_
  refine wn_lsub (lz := (Int64.ofNat (((119 - 96) * 32 + 101 - 96) * 32 + 97 - 96))) rfl (sub_l (a := ((119 - 96) * 32 + 101 - 96) * 32 + 97) (b := 96) rfl (rfl : (96 : Int64) = Int64.ofNat 96) (by omega)) ?_
  refine wi_lstore (l' := [.int (119 : Int32), .int (101 : Int32), .int (97 : Int32), .int (114 : Int32), .int (0 : Int32), .int (0 : Int32), .long (Int64.ofNat (((119 - 96) * 32 + 101 - 96) * 32 + 97 - 96)), .retAddr 0]) rfl (Nat.le_of_ble_eq_true rfl) rfl rfl ?_
  refine wi_iload_n rfl rfl ?_
  refine wi_if_le rfl (fun h9 => absurd h9 (by decide)) (fun _ => ?_)
  refine wi_lload rfl rfl ?_
  refine wi_ldc2_w (lx := 32) rfl rfl ?_
  refine wn_lmul (lz := (Int64.ofNat ((((119 - 96) * 32 + 101 - 96) * 32 + 97 - 96) * 32))) rfl (mul_l (a := ((119 - 96) * 32 + 101 - 96) * 32 + 97 - 96) (b := 32) rfl (rfl : (32 : Int64) = Int64.ofNat 32)) ?_
  refine wi_iload_n rfl rfl ?_
  refine wn_i2l (lz := (Int64.ofNat (114))) rfl (i2l_n (a := 114) (rfl : (114 : Int32) = Int32.ofNat 114) (by omega)) ?_
  refine wn_ladd (lz := (Int64.ofNat ((((119 - 96) * 32 + 101 - 96) * 32 + 97 - 96) * 32 + 114))) rfl (add_l (a := (((119 - 96) * 32 + 101 - 96) * 32 + 97 - 96) * 32) (b := 114) rfl rfl) ?_
  refine wi_ldc2_w (lx := 96) rfl rfl ?_
  refine wn_lsub (lz := (Int64.ofNat ((((119 - 96) * 32 + 101 - 96) * 32 + 97 - 96) * 32 + 114 - 96))) rfl (sub_l (a := (((119 - 96) * 32 + 101 - 96) * 32 + 97 - 96) * 32 + 114) (b := 96) rfl (rfl : (96 : Int64) = Int64.ofNat 96) (by omega)) ?_
  refine wi_goto rfl ?_
  refine wi_lstore (l' := [.int (119 : Int32), .int (101 : Int32), .int (97 : Int32), .int (114 : Int32), .int (0 : Int32), .int (0 : Int32), .long (Int64.ofNat ((((119 - 96) * 32 + 101 - 96) * 32 + 97 - 96) * 32 + 114 - 96)), .retAddr 0]) rfl (Nat.le_of_ble_eq_true rfl) rfl rfl ?_
  refine wi_iload rfl rfl ?_
  refine wi_if_le rfl (fun _ => ?_) (fun h9 => absurd (by decide) h9)
  refine wi_lload rfl rfl ?_
  refine wi_lstore (l' := [.int (119 : Int32), .int (101 : Int32), .int (97 : Int32), .int (114 : Int32), .int (0 : Int32), .int (0 : Int32), .long (Int64.ofNat ((((119 - 96) * 32 + 101 - 96) * 32 + 97 - 96) * 32 + 114 - 96)), .retAddr 0]) rfl (Nat.le_of_ble_eq_true rfl) rfl rfl ?_
  refine wi_iload rfl rfl ?_
  refine wi_if_le rfl (fun _ => ?_) (fun h9 => absurd (by decide) h9)
  refine wi_lload rfl rfl ?_
  refine wi_lret rfl ?_
  exact hQ
theorem c_sp7 (hQ : Q (some (.long (Int64.ofNat 83540069))) M) : am_wp X d 173 0 [.int (98 : Int32), .int (111 : Int32), .int (117 : Int32), .int (110 : Int32), .int (99 : Int32), .int (101 : Int32), .retAddr 0, .retAddr 0] [] M Q := by
  refine wi_iload_n rfl rfl ?_
  refine wn_i2l (lz := (Int64.ofNat (98))) rfl (i2l_n (a := 98) (rfl : (98 : Int32) = Int32.ofNat 98) (by omega)) ?_
  refine wi_ldc2_w (lx := 96) rfl rfl ?_
  refine wn_lsub (lz := (Int64.ofNat (98 - 96))) rfl (sub_l (a := 98) (b := 96) rfl (rfl : (96 : Int64) = Int64.ofNat 96) (by omega)) ?_
  refine wi_lstore (l' := [.int (98 : Int32), .int (111 : Int32), .int (117 : Int32), .int (110 : Int32), .int (99 : Int32), .int (101 : Int32), .long (Int64.ofNat (98 - 96)), .retAddr 0]) rfl (Nat.le_of_ble_eq_true rfl) rfl rfl ?_
  refine wi_lload rfl rfl ?_
  refine wi_ldc2_w (lx := 32) rfl rfl ?_
  refine wn_lmul (lz := (Int64.ofNat ((98 - 96) * 32))) rfl (mul_l (a := 98 - 96) (b := 32) rfl (rfl : (32 : Int64) = Int64.ofNat 32)) ?_
  refine wi_iload_n rfl rfl ?_
  refine wn_i2l (lz := (Int64.ofNat (111))) rfl (i2l_n (a := 111) (rfl : (111 : Int32) = Int32.ofNat 111) (by omega)) ?_
  refine wn_ladd (lz := (Int64.ofNat ((98 - 96) * 32 + 111))) rfl (add_l (a := (98 - 96) * 32) (b := 111) rfl rfl) ?_
  refine wi_ldc2_w (lx := 96) rfl rfl ?_
  refine wn_lsub (lz := (Int64.ofNat ((98 - 96) * 32 + 111 - 96))) rfl (sub_l (a := (98 - 96) * 32 + 111) (b := 96) rfl (rfl : (96 : Int64) = Int64.ofNat 96) (by omega)) ?_
  refine wi_lstore (l' := [.int (98 : Int32), .int (111 : Int32), .int (117 : Int32), .int (110 : Int32), .int (99 : Int32), .int (101 : Int32), .long (Int64.ofNat ((98 - 96) * 32 + 111 - 96)), .retAddr 0]) rfl (Nat.le_of_ble_eq_true rfl) rfl rfl ?_
  refine wi_lload rfl rfl ?_
  refine wi_ldc2_w (lx := 32) rfl rfl ?_
  refine wn_lmul (lz := (Int64.ofNat (((98 - 96) * 32 + 111 - 96) * 32))) rfl (mul_l (a := (98 - 96) * 32 + 111 - 96) (b := 32) rfl (rfl : (32 : Int64) = Int64.ofNat 32)) ?_
  refine wi_iload_n rfl rfl ?_
  refine wn_i2l (lz := (Int64.ofNat (117))) rfl (i2l_n (a := 117) (rfl : (117 : Int32) = Int32.ofNat 117) (by omega)) ?_
  refine wn_ladd (lz := (Int64.ofNat (((98 - 96) * 32 + 111 - 96) * 32 + 117))) rfl (add_l (a := ((98 - 96) * 32 + 111 - 96) * 32) (b := 117) rfl rfl) ?_
  refine wi_ldc2_w (lx := 96) rfl rfl ?_
  refine wn_lsub (lz := (Int64.ofNat (((98 - 96) * 32 + 111 - 96) * 32 + 117 - 96))) rfl (sub_l (a := ((98 - 96) * 32 + 111 - 96) * 32 + 117) (b := 96) rfl (rfl : (96 : Int64) = Int64.ofNat 96) (by omega)) ?_
  refine wi_lstore (l' := [.int (98 : Int32), .int (111 : Int32), .int (117 : Int32), .int (110 : Int32), .int (99 : Int32), .int (101 : Int32), .long (Int64.ofNat (((98 - 96) * 32 + 111 - 96) * 32 + 117 - 96)), .retAddr 0]) rfl (Nat.le_of_ble_eq_true rfl) rfl rfl ?_
  refine wi_iload_n rfl rfl ?_
  refine wi_if_le rfl (fun h9 => absurd h9 (by decide)) (fun _ => ?_)
  refine wi_lload rfl rfl ?_
  refine wi_ldc2_w (lx := 32) rfl rfl ?_
  refine wn_lmul (lz := (Int64.ofNat ((((98 - 96) * 32 + 111 - 96) * 32 + 117 - 96) * 32))) rfl (mul_l (a := ((98 - 96) * 32 + 111 - 96) * 32 + 117 - 96) (b := 32) rfl (rfl : (32 : Int64) = Int64.ofNat 32)) ?_
  refine wi_iload_n rfl rfl ?_
  refine wn_i2l (lz := (Int64.ofNat (110))) rfl (i2l_n (a := 110) (rfl : (110 : Int32) = Int32.ofNat 110) (by omega)) ?_
  refine wn_ladd (lz := (Int64.ofNat ((((98 - 96) * 32 + 111 - 96) * 32 + 117 - 96) * 32 + 110))) rfl (add_l (a := (((98 - 96) * 32 + 111 - 96) * 32 + 117 - 96) * 32) (b := 110) rfl rfl) ?_
  refine wi_ldc2_w (lx := 96) rfl rfl ?_
  refine wn_lsub (lz := (Int64.ofNat ((((98 - 96) * 32 + 111 - 96) * 32 + 117 - 96) * 32 + 110 - 96))) rfl (sub_l (a := (((98 - 96) * 32 + 111 - 96) * 32 + 117 - 96) * 32 + 110) (b := 96) rfl (rfl : (96 : Int64) = Int64.ofNat 96) (by omega)) ?_
  refine wi_goto rfl ?_
  refine wi_lstore (l' := [.int (98 : Int32), .int (111 : Int32), .int (117 : Int32), .int (110 : Int32), .int (99 : Int32), .int (101 : Int32), .long (Int64.ofNat ((((98 - 96) * 32 + 111 - 96) * 32 + 117 - 96) * 32 + 110 - 96)), .retAddr 0]) rfl (Nat.le_of_ble_eq_true rfl) rfl rfl ?_
  refine wi_iload rfl rfl ?_
  refine wi_if_le rfl (fun h9 => absurd h9 (by decide)) (fun _ => ?_)
  refine wi_lload rfl rfl ?_
  refine wi_ldc2_w (lx := 32) rfl rfl ?_
  refine wn_lmul (lz := (Int64.ofNat (((((98 - 96) * 32 + 111 - 96) * 32 + 117 - 96) * 32 + 110 - 96) * 32))) rfl (mul_l (a := (((98 - 96) * 32 + 111 - 96) * 32 + 117 - 96) * 32 + 110 - 96) (b := 32) rfl (rfl : (32 : Int64) = Int64.ofNat 32)) ?_
  refine wi_iload rfl rfl ?_
  refine wn_i2l (lz := (Int64.ofNat (99))) rfl (i2l_n (a := 99) (rfl : (99 : Int32) = Int32.ofNat 99) (by omega)) ?_
  refine wn_ladd (lz := (Int64.ofNat (((((98 - 96) * 32 + 111 - 96) * 32 + 117 - 96) * 32 + 110 - 96) * 32 + 99))) rfl (add_l (a := ((((98 - 96) * 32 + 111 - 96) * 32 + 117 - 96) * 32 + 110 - 96) * 32) (b := 99) rfl rfl) ?_
  refine wi_ldc2_w (lx := 96) rfl rfl ?_
  refine wn_lsub (lz := (Int64.ofNat (((((98 - 96) * 32 + 111 - 96) * 32 + 117 - 96) * 32 + 110 - 96) * 32 + 99 - 96))) rfl (sub_l (a := ((((98 - 96) * 32 + 111 - 96) * 32 + 117 - 96) * 32 + 110 - 96) * 32 + 99) (b := 96) rfl (rfl : (96 : Int64) = Int64.ofNat 96) (by omega)) ?_
  refine wi_goto rfl ?_
  refine wi_lstore (l' := [.int (98 : Int32), .int (111 : Int32), .int (117 : Int32), .int (110 : Int32), .int (99 : Int32), .int (101 : Int32), .long (Int64.ofNat (((((98 - 96) * 32 + 111 - 96) * 32 + 117 - 96) * 32 + 110 - 96) * 32 + 99 - 96)), .retAddr 0]) rfl (Nat.le_of_ble_eq_true rfl) rfl rfl ?_
  refine wi_iload rfl rfl ?_
  refine wi_if_le rfl (fun h9 => absurd h9 (by decide)) (fun _ => ?_)
  refine wi_lload rfl rfl ?_
  refine wi_ldc2_w (lx := 32) rfl rfl ?_
  refine wn_lmul (lz := (Int64.ofNat ((((((98 - 96) * 32 + 111 - 96) * 32 + 117 - 96) * 32 + 110 - 96) * 32 + 99 - 96) * 32))) rfl (mul_l (a := ((((98 - 96) * 32 + 111 - 96) * 32 + 117 - 96) * 32 + 110 - 96) * 32 + 99 - 96) (b := 32) rfl (rfl : (32 : Int64) = Int64.ofNat 32)) ?_
  refine wi_iload rfl rfl ?_
  refine wn_i2l (lz := (Int64.ofNat (101))) rfl (i2l_n (a := 101) (rfl : (101 : Int32) = Int32.ofNat 101) (by omega)) ?_
  refine wn_ladd (lz := (Int64.ofNat ((((((98 - 96) * 32 + 111 - 96) * 32 + 117 - 96) * 32 + 110 - 96) * 32 + 99 - 96) * 32 + 101))) rfl (add_l (a := (((((98 - 96) * 32 + 111 - 96) * 32 + 117 - 96) * 32 + 110 - 96) * 32 + 99 - 96) * 32) (b := 101) rfl rfl) ?_
  refine wi_ldc2_w (lx := 96) rfl rfl ?_
  refine wn_lsub (lz := (Int64.ofNat ((((((98 - 96) * 32 + 111 - 96) * 32 + 117 - 96) * 32 + 110 - 96) * 32 + 99 - 96) * 32 + 101 - 96))) rfl (sub_l (a := (((((98 - 96) * 32 + 111 - 96) * 32 + 117 - 96) * 32 + 110 - 96) * 32 + 99 - 96) * 32 + 101) (b := 96) rfl (rfl : (96 : Int64) = Int64.ofNat 96) (by omega)) ?_
  refine wi_goto rfl ?_
  refine wi_lret rfl ?_
  exact hQ
theorem c_sp8 (hQ : Q (some (.long (Int64.ofNat 591150))) M) : am_wp X d 173 0 [.int (114 : Int32), .int (97 : Int32), .int (105 : Int32), .int (110 : Int32), .int (0 : Int32), .int (0 : Int32), .retAddr 0, .retAddr 0] [] M Q := by
  refine wi_iload_n rfl rfl ?_
  refine wn_i2l (lz := (Int64.ofNat (114))) rfl (i2l_n (a := 114) (rfl : (114 : Int32) = Int32.ofNat 114) (by omega)) ?_
  refine wi_ldc2_w (lx := 96) rfl rfl ?_
  refine wn_lsub (lz := (Int64.ofNat (114 - 96))) rfl (sub_l (a := 114) (b := 96) rfl (rfl : (96 : Int64) = Int64.ofNat 96) (by omega)) ?_
  refine wi_lstore (l' := [.int (114 : Int32), .int (97 : Int32), .int (105 : Int32), .int (110 : Int32), .int (0 : Int32), .int (0 : Int32), .long (Int64.ofNat (114 - 96)), .retAddr 0]) rfl (Nat.le_of_ble_eq_true rfl) rfl rfl ?_
  refine wi_lload rfl rfl ?_
  refine wi_ldc2_w (lx := 32) rfl rfl ?_
  refine wn_lmul (lz := (Int64.ofNat ((114 - 96) * 32))) rfl (mul_l (a := 114 - 96) (b := 32) rfl (rfl : (32 : Int64) = Int64.ofNat 32)) ?_
  refine wi_iload_n rfl rfl ?_
  refine wn_i2l (lz := (Int64.ofNat (97))) rfl (i2l_n (a := 97) (rfl : (97 : Int32) = Int32.ofNat 97) (by omega)) ?_
  refine wn_ladd (lz := (Int64.ofNat ((114 - 96) * 32 + 97))) rfl (add_l (a := (114 - 96) * 32) (b := 97) rfl rfl) ?_
  refine wi_ldc2_w (lx := 96) rfl rfl ?_
  refine wn_lsub (lz := (Int64.ofNat ((114 - 96) * 32 + 97 - 96))) rfl (sub_l (a := (114 - 96) * 32 + 97) (b := 96) rfl (rfl : (96 : Int64) = Int64.ofNat 96) (by omega)) ?_
  refine wi_lstore (l' := [.int (114 : Int32), .int (97 : Int32), .int (105 : Int32), .int (110 : Int32), .int (0 : Int32), .int (0 : Int32), .long (Int64.ofNat ((114 - 96) * 32 + 97 - 96)), .retAddr 0]) rfl (Nat.le_of_ble_eq_true rfl) rfl rfl ?_
  refine wi_lload rfl rfl ?_
  refine wi_ldc2_w (lx := 32) rfl rfl ?_
  refine wn_lmul (lz := (Int64.ofNat (((114 - 96) * 32 + 97 - 96) * 32))) rfl (mul_l (a := (114 - 96) * 32 + 97 - 96) (b := 32) rfl (rfl : (32 : Int64) = Int64.ofNat 32)) ?_
  refine wi_iload_n rfl rfl ?_
  refine wn_i2l (lz := (Int64.ofNat (105))) rfl (i2l_n (a := 105) (rfl : (105 : Int32) = Int32.ofNat 105) (by omega)) ?_
  refine wn_ladd (lz := (Int64.ofNat (((114 - 96) * 32 + 97 - 96) * 32 + 105))) rfl (add_l (a := ((114 - 96) * 32 + 97 - 96) * 32) (b := 105) rfl rfl) ?_
  refine wi_ldc2_w (lx := 96) rfl rfl ?_
  refine wn_lsub (lz := (Int64.ofNat (((114 - 96) * 32 + 97 - 96) * 32 + 105 - 96))) rfl (sub_l (a := ((114 - 96) * 32 + 97 - 96) * 32 + 105) (b := 96) rfl (rfl : (96 : Int64) = Int64.ofNat 96) (by omega)) ?_
  refine wi_lstore (l' := [.int (114 : Int32), .int (97 : Int32), .int (105 : Int32), .int (110 : Int32), .int (0 : Int32), .int (0 : Int32), .long (Int64.ofNat (((114 - 96) * 32 + 97 - 96) * 32 + 105 - 96)), .retAddr 0]) rfl (Nat.le_of_ble_eq_true rfl) rfl rfl ?_
  refine wi_iload_n rfl rfl ?_
  refine wi_if_le rfl (fun h9 => absurd h9 (by decide)) (fun _ => ?_)
  refine wi_lload rfl rfl ?_
  refine wi_ldc2_w (lx := 32) rfl rfl ?_
  refine wn_lmul (lz := (Int64.ofNat ((((114 - 96) * 32 + 97 - 96) * 32 + 105 - 96) * 32))) rfl (mul_l (a := ((114 - 96) * 32 + 97 - 96) * 32 + 105 - 96) (b := 32) rfl (rfl : (32 : Int64) = Int64.ofNat 32)) ?_
  refine wi_iload_n rfl rfl ?_
  refine wn_i2l (lz := (Int64.ofNat (110))) rfl (i2l_n (a := 110) (rfl : (110 : Int32) = Int32.ofNat 110) (by omega)) ?_
  refine wn_ladd (lz := (Int64.ofNat ((((114 - 96) * 32 + 97 - 96) * 32 + 105 - 96) * 32 + 110))) rfl (add_l (a := (((114 - 96) * 32 + 97 - 96) * 32 + 105 - 96) * 32) (b := 110) rfl rfl) ?_
  refine wi_ldc2_w (lx := 96) rfl rfl ?_
  refine wn_lsub (lz := (Int64.ofNat ((((114 - 96) * 32 + 97 - 96) * 32 + 105 - 96) * 32 + 110 - 96))) rfl (sub_l (a := (((114 - 96) * 32 + 97 - 96) * 32 + 105 - 96) * 32 + 110) (b := 96) rfl (rfl : (96 : Int64) = Int64.ofNat 96) (by omega)) ?_
  refine wi_goto rfl ?_
  refine wi_lstore (l' := [.int (114 : Int32), .int (97 : Int32), .int (105 : Int32), .int (110 : Int32), .int (0 : Int32), .int (0 : Int32), .long (Int64.ofNat ((((114 - 96) * 32 + 97 - 96) * 32 + 105 - 96) * 32 + 110 - 96)), .retAddr 0]) rfl (Nat.le_of_ble_eq_true rfl) rfl rfl ?_
  refine wi_iload rfl rfl ?_
  refine wi_if_le rfl (fun _ => ?_) (fun h9 => absurd (by decide) h9)
  refine wi_lload rfl rfl ?_
  refine wi_lstore (l' := [.int (114 : Int32), .int (97 : Int32), .int (105 : Int32), .int (110 : Int32), .int (0 : Int32), .int (0 : Int32), .long (Int64.ofNat ((((114 - 96) * 32 + 97 - 96) * 32 + 105 - 96) * 32 + 110 - 96)), .retAddr 0]) rfl (Nat.le_of_ble_eq_true rfl) rfl rfl ?_
  refine wi_iload rfl rfl ?_
  refine wi_if_le rfl (fun _ => ?_) (fun h9 => absurd (by decide) h9)
  refine wi_lload rfl rfl ?_
  refine wi_lret rfl ?_
  exact hQ
theorem c_sp9 (hQ : Q (some (.long (Int64.ofNat 1476))) M) : am_wp X d 173 0 [.int (97 : Int32), .int (110 : Int32), .int (100 : Int32), .int (0 : Int32), .int (0 : Int32), .int (0 : Int32), .retAddr 0, .retAddr 0] [] M Q := by
  refine wi_iload_n rfl rfl ?_
  refine wn_i2l (lz := (Int64.ofNat (97))) rfl (i2l_n (a := 97) (rfl : (97 : Int32) = Int32.ofNat 97) (by omega)) ?_
  refine wi_ldc2_w (lx := 96) rfl rfl ?_
  refine wn_lsub (lz := (Int64.ofNat (97 - 96))) rfl (sub_l (a := 97) (b := 96) rfl (rfl : (96 : Int64) = Int64.ofNat 96) (by omega)) ?_
  refine wi_lstore (l' := [.int (97 : Int32), .int (110 : Int32), .int (100 : Int32), .int (0 : Int32), .int (0 : Int32), .int (0 : Int32), .long (Int64.ofNat (97 - 96)), .retAddr 0]) rfl (Nat.le_of_ble_eq_true rfl) rfl rfl ?_
  refine wi_lload rfl rfl ?_
  refine wi_ldc2_w (lx := 32) rfl rfl ?_
  refine wn_lmul (lz := (Int64.ofNat ((97 - 96) * 32))) rfl (mul_l (a := 97 - 96) (b := 32) rfl (rfl : (32 : Int64) = Int64.ofNat 32)) ?_
  refine wi_iload_n rfl rfl ?_
  refine wn_i2l (lz := (Int64.ofNat (110))) rfl (i2l_n (a := 110) (rfl : (110 : Int32) = Int32.ofNat 110) (by omega)) ?_
  refine wn_ladd (lz := (Int64.ofNat ((97 - 96) * 32 + 110))) rfl (add_l (a := (97 - 96) * 32) (b := 110) rfl rfl) ?_
  refine wi_ldc2_w (lx := 96) rfl rfl ?_
  refine wn_lsub (lz := (Int64.ofNat ((97 - 96) * 32 + 110 - 96))) rfl (sub_l (a := (97 - 96) * 32 + 110) (b := 96) rfl (rfl : (96 : Int64) = Int64.ofNat 96) (by omega)) ?_
  refine wi_lstore (l' := [.int (97 : Int32), .int (110 : Int32), .int (100 : Int32), .int (0 : Int32), .int (0 : Int32), .int (0 : Int32), .long (Int64.ofNat ((97 - 96) * 32 + 110 - 96)), .retAddr 0]) rfl (Nat.le_of_ble_eq_true rfl) rfl rfl ?_
  refine wi_lload rfl rfl ?_
  refine wi_ldc2_w (lx := 32) rfl rfl ?_
  refine wn_lmul (lz := (Int64.ofNat (((97 - 96) * 32 + 110 - 96) * 32))) rfl (mul_l (a := (97 - 96) * 32 + 110 - 96) (b := 32) rfl (rfl : (32 : Int64) = Int64.ofNat 32)) ?_
  refine wi_iload_n rfl rfl ?_
  refine wn_i2l (lz := (Int64.ofNat (100))) rfl (i2l_n (a := 100) (rfl : (100 : Int32) = Int32.ofNat 100) (by omega)) ?_
  refine wn_ladd (lz := (Int64.ofNat (((97 - 96) * 32 + 110 - 96) * 32 + 100))) rfl (add_l (a := ((97 - 96) * 32 + 110 - 96) * 32) (b := 100) rfl rfl) ?_
  refine wi_ldc2_w (lx := 96) rfl rfl ?_
  refine wn_lsub (lz := (Int64.ofNat (((97 - 96) * 32 + 110 - 96) * 32 + 100 - 96))) rfl (sub_l (a := ((97 - 96) * 32 + 110 - 96) * 32 + 100) (b := 96) rfl (rfl : (96 : Int64) = Int64.ofNat 96) (by omega)) ?_
  refine wi_lstore (l' := [.int (97 : Int32), .int (110 : Int32), .int (100 : Int32), .int (0 : Int32), .int (0 : Int32), .int (0 : Int32), .long (Int64.ofNat (((97 - 96) * 32 + 110 - 96) * 32 + 100 - 96)), .retAddr 0]) rfl (Nat.le_of_ble_eq_true rfl) rfl rfl ?_
  refine wi_iload_n rfl rfl ?_
  refine wi_if_le rfl (fun _ => ?_) (fun h9 => absurd (by decide) h9)
  refine wi_lload rfl rfl ?_
  refine wi_lstore (l' := [.int (97 : Int32), .int (110 : Int32), .int (100 : Int32), .int (0 : Int32), .int (0 : Int32), .int (0 : Int32), .long (Int64.ofNat (((97 - 96) * 32 + 110 - 96) * 32 + 100 - 96)), .retAddr 0]) rfl (Nat.le_of_ble_eq_true rfl) rfl rfl ?_
  refine wi_iload rfl rfl ?_
  refine wi_if_le rfl (fun _ => ?_) (fun h9 => absurd (by decide) h9)
  refine wi_lload rfl rfl ?_
  refine wi_lstore (l' := [.int (97 : Int32), .int (110 : Int32), .int (100 : Int32), .int (0 : Int32), .int (0 : Int32), .int (0 : Int32), .long (Int64.ofNat (((97 - 96) * 32 + 110 - 96) * 32 + 100 - 96)), .retAddr 0]) rfl (Nat.le_of_ble_eq_true rfl) rfl rfl ?_
  refine wi_iload rfl rfl ?_
  refine wi_if_le rfl (fun _ => ?_) (fun h9 => absurd (by decide) h9)
  refine wi_lload rfl rfl ?_
  refine wi_lret rfl ?_
  exact hQ
theorem wl_ok : (∀ i, i < wWhen.length → isL (wWhen.getD i 0) = true) ∧ (∀ i, i < wAnd.length → isL (wAnd.getD i 0) = true) ∧ ∀ w, w < 8 → ∀ i, i < (wds w).length → isL ((wds w).getD i 0) = true := ⟨by decide, by decide, by decide⟩
theorem wv_eq {s n c : Nat} {l : List Nat} (h : ∀ i, i < n → isL (T (s + i)) = true) (hl : ∀ i, i < l.length → isL (l.getD i 0) = true) (hc : cdW l = c) (hc2 : c < 1152921504606846976) (hl2 : l.length ≤ 12) : (lg_cmp (wvN T s n) (Int64.ofNat c) = 0) ↔ txL T s n = l := by
  rw [← cd_word h hl, hc]
  unfold wvN
  by_cases hn : n ≤ 12
  · rw [if_pos hn]
    have hb := cd_12 h hn
    exact lc_eq (a := cdN T s n) (b := c) rfl rfl (by omega) (by omega)
  · rw [if_neg hn]
    have h1 : ¬ cdN T s n = c := fun h2 => by
      rw [← hc] at h2
      have h3 := ((cd_word h hl).mp h2)
      have h4 := (tx_iff.mp h3).1
      omega
    refine ⟨fun h2 => ?_, fun h2 => absurd h2 h1⟩
    exfalso
    unfold lg_cmp at h2
    have h5 : ¬ (-1 : Int64) > Int64.ofNat c := by
      show ¬ Int64.ofNat c < -1
      rw [Int64.lt_iff_toInt_lt, l_toInt (by omega), show (-1 : Int64).toInt = -1 from rfl]
      omega
    have h6 : ¬ (-1 : Int64) = Int64.ofNat c := fun h3 => by
      have h4 := congrArg Int64.toInt h3
      rw [l_toInt (by omega), show (-1 : Int64).toInt = -1 from rfl] at h4
      omega
    rw [if_neg h5, if_neg h6] at h2
    exact absurd h2 (by decide)
theorem sr_1 {kd : Nat} : (srN kd = 1 ↔ kd = 1) ∧ (srN kd = 2 ↔ kd = 2) ∧ (srN kd = 3 ↔ 2 < kd) ∧ (srN kd = 4 ↔ kd = 0) ∧ srN kd ≤ 4 ∧ 1 ≤ srN kd := by
  unfold srN
  by_cases h : kd = 0
  · rw [if_pos h]; omega
  · rw [if_neg h]
    by_cases h2 : kd ≤ 2
    · rw [if_pos h2]; omega
    · rw [if_neg h2]; omega
/-- the token at p is this word -/
def tkW (T : Nat → Nat) (N p : Nat) (l : List Nat) : Bool := decide (rn T N isB p < N ∧ kdT T N (rn T N isB p) = 1 ∧ txL T (rn T N isB p) (enT T N (rn T N isB p) - rn T N isB p) = l)
theorem c_isW {mi : Nat → Nat → Int32} {ml : Nat → Nat → Int64} {p c : Nat} {l : List Nat} (hLd : mLd T N p mi ml) (hl : ∀ i, i < l.length → isL (l.getD i 0) = true) (hc : cdW l = c) (hc2 : c < 1152921504606846976) (hl2 : l.length ≤ 12) (hQ : Q (some (.int (bI (tkW T N p l)))) (am_shT, mrL b, mi, ml)) : am_wp X d 174 0 [.ref 134, .long (Int64.ofNat c), .retAddr 0] [] (am_shT, mrL b, mi, ml) Q := by
  unfold mLd at hLd
  obtain ⟨s, hs⟩ : ∃ s, s = rn T N isB p := ⟨_, rfl⟩
  rw [← hs] at hLd
  have hsr := sr_1 (kd := kdT T N s)
  rcases Nat.lt_or_ge s N with hsN | hsN
  rotate_left
  · have h41 := hLd.2.1 hsN
    refine wi_aload_n rfl rfl ?_
    refine wi_getIv (v := (0 : Int32)) rfl (kd_134 ..) h41 ?_
    refine wi_iconst (x := 1) rfl rfl ?_
    refine wi_icmp_ne rfl (fun _ => ?_) (fun h9 => absurd (by decide) h9)
    refine wi_iconst (x := 0) rfl rfl ?_
    refine wi_iret rfl (by decide) ?_
    rw [show tkW T N p l = false from decide_eq_false (fun h9 => by rw [← hs] at h9; omega)] at hQ
    exact hQ
  have h41 := (hLd.2.2 hsN).2.1
  by_cases hk1 : kdT T N s = 1
  · have h46 := ((hLd.2.2 hsN).2.2.1 hk1).2
    have hkd := kd_1 hk1 hsN
    refine wi_aload_n rfl rfl ?_
    refine wi_getIv (v := (Int32.ofNat (srN (kdT T N s)))) rfl (kd_134 ..) h41 ?_
    refine wi_iconst (x := 1) rfl rfl ?_
    refine wi_icmp_ne rfl (fun h9 => absurd trivial (by exfalso; have h8 := (ne_n (a := srN (kdT T N s)) (b := 1) rfl (rfl : (1 : Int32) = Int32.ofNat 1) (by omega) (by omega)).mp h9; omega)) (fun _ => ?_)
    refine wi_aload_n rfl rfl ?_
    refine wi_getLv (lv := (wvN T s (enT T N s - s))) rfl (kd_134 ..) h46 ?_
    refine wi_lload_n rfl rfl ?_
    refine wi_lcmp rfl ?_
    refine wi_if_ne rfl (fun g1 => ?_) (fun g1 => ?_)
    · skip
      refine wi_iconst (x := 0) rfl rfl ?_
      refine wi_iret rfl (by decide) ?_
      rw [show tkW T N p l = false from decide_eq_false (fun h9 => by rw [← hs] at h9; exact g1 ((wv_eq hkd.2.2 hl hc hc2 hl2).mpr h9.2.2))] at hQ
      exact hQ
    · replace g1 := Classical.not_not.mp g1
      refine wi_iconst (x := 1) rfl rfl ?_
      refine wi_goto rfl ?_
      refine wi_iret rfl (by decide) ?_
      rw [show tkW T N p l = true from decide_eq_true (by rw [← hs]; exact ⟨hsN, hk1, (wv_eq hkd.2.2 hl hc hc2 hl2).mp g1⟩)] at hQ
      exact hQ
  · skip
    refine wi_aload_n rfl rfl ?_
    refine wi_getIv (v := (Int32.ofNat (srN (kdT T N s)))) rfl (kd_134 ..) h41 ?_
    refine wi_iconst (x := 1) rfl rfl ?_
    refine wi_icmp_ne rfl (fun _ => ?_) (fun h9 => absurd trivial (by exfalso; have h8 := (not_congr (ne_n (a := srN (kdT T N s)) (b := 1) rfl (rfl : (1 : Int32) = Int32.ofNat 1) (by omega) (by omega))).mp h9; omega))
    refine wi_iconst (x := 0) rfl rfl ?_
    refine wi_iret rfl (by decide) ?_
    rw [show tkW T N p l = false from decide_eq_false (fun h9 => by rw [← hs] at h9; omega)] at hQ
    exact hQ
theorem c_isWz {mi : Nat → Nat → Int32} {ml : Nat → Nat → Int64} {p c : Nat} {l : List Nat} {z : Int32} (hLd : mLd T N p mi ml) (hl : ∀ i, i < l.length → isL (l.getD i 0) = true) (hc : cdW l = c) (hc2 : c < 1152921504606846976) (hl2 : l.length ≤ 12) (hz : bI (tkW T N p l) = z) (hQ : Q (some (.int z)) (am_shT, mrL b, mi, ml)) : am_wp X d 174 0 [.ref 134, .long (Int64.ofNat c), .retAddr 0] [] (am_shT, mrL b, mi, ml) Q := c_isW hLd hl hc hc2 hl2 (by rw [hz]; exact hQ)
theorem inv_bad {S E : rgS} {k fk fp : Nat} (hs : rn T N isB S.p < N) (h : tkS T S (rn T N isB S.p) (enT T N (rn T N isB S.p)) (kdT T N (rn T N isB S.p)) = .inl k) (hr : runS T N S fk fp E) : fk = k ∧ fp = rn T N isB S.p := by
  rcases run_cs hr with h1 | h1 | h1 | ⟨h1, S', h2, -⟩
  · omega
  · omega
  · rw [h] at h1
    obtain ⟨-, h2, h3, -⟩ := h1
    cases h2
    exact ⟨rfl, h3⟩
  · rw [h] at h2
    cases h2
theorem inv_stp {S S1 E : rgS} {fk fp : Nat} (hs : rn T N isB S.p < N) (h : tkS T S (rn T N isB S.p) (enT T N (rn T N isB S.p)) (kdT T N (rn T N isB S.p)) = .inr S1) (hr : runS T N S fk fp E) : runS T N S1 fk fp E := by
  rcases run_cs hr with h1 | h1 | h1 | ⟨h1, S', h2, h3⟩
  · omega
  · omega
  · rw [h] at h1
    obtain ⟨-, h2, -⟩ := h1
    cases h2
  · rw [h] at h2
    cases h2
    exact h3
theorem inv_eba {S E : rgS} {fk fp : Nat} (hs : N ≤ rn T N isB S.p) (ha : S.aw ≠ 0) (hr : runS T N S fk fp E) : fk = 2 ∧ fp = N := by
  rcases run_cs hr with h1 | h1 | h1 | ⟨h1, -⟩
  · exact absurd h1.2.1 ha
  · exact ⟨h1.2.2.1, h1.2.2.2.1⟩
  · omega
  · omega
theorem inv_fin {S E : rgS} {fk fp : Nat} (hs : N ≤ rn T N isB S.p) (ha : S.aw = 0) (hr : runS T N S fk fp E) : fk = 0 ∧ E = S := by
  rcases run_cs hr with h1 | h1 | h1 | ⟨h1, -⟩
  · exact ⟨h1.2.2.1, h1.2.2.2.2⟩
  · exact absurd ha h1.2.1
  · omega
  · omega
def wrK (T : Nat → Nat) (N p : Nat) : Nat := if rn T N isB p < N ∧ kdT T N (rn T N isB p) = 0 then 1 else 2
theorem wr_run {S E : rgS} {fk fp : Nat} (hr : runS T N S fk fp E) (hp : S.p ≤ N) (ha : S.aw ≠ 0 ∨ rn T N isB S.p < N) (h : rn T N isB S.p < N → kdT T N (rn T N isB S.p) ≠ 0 → tkS T S (rn T N isB S.p) (enT T N (rn T N isB S.p)) (kdT T N (rn T N isB S.p)) = .inl 2) : fk = wrK T N S.p ∧ fp = rn T N isB S.p := by
  have hb := rn_b (T := T) (N := N) (pr := isB) (p := S.p) hp
  unfold wrK
  rcases Nat.lt_or_ge (rn T N isB S.p) N with hs | hs
  · by_cases hk : kdT T N (rn T N isB S.p) = 0
    · rw [if_pos ⟨hs, hk⟩]
      exact inv_bad hs (tkS_z hk) hr
    · rw [if_neg (fun h9 => hk h9.2)]
      exact inv_bad hs (h hs hk) hr
  · rw [if_neg (fun h9 => by omega)]
    have h1 := inv_eba hs (by omega) hr
    exact ⟨h1.1, by omega⟩
def FRm (mi0 : Nat → Nat → Int32) (ml0 : Nat → Nat → Int64) (mi : Nat → Nat → Int32) (ml : Nat → Nat → Int64) : Prop := (∀ a, a ≠ 134 → (a < 162 ∨ 165 < a) → mi a = mi0 a) ∧ (∀ j, (j < 39 ∨ (45 < j ∧ j ≠ 48)) → mi 134 j = mi0 134 j) ∧ (∀ a, a ≠ 134 → a ≠ 166 → ml a = ml0 a) ∧ (∀ j, j ≠ 46 → ml 134 j = ml0 134 j)
def MS (T : Nat → Nat) (mi0 : Nat → Nat → Int32) (ml0 : Nat → Nat → Int64) (nr : Nat) (S : rgS) (mi : Nat → Nat → Int32) (ml : Nat → Nat → Int64) : Prop := FRm mi0 ml0 mi ml ∧ mi 134 39 = 0 ∧ mi 134 48 = Int32.ofNat nr ∧ ∀ i, i < S.r → mi 162 i = Int32.ofNat (S.tc i) ∧ ml 166 i = Int64.ofNat (cdN T (S.ns i) (S.nl i)) ∧ ∀ k, k < S.tc i → mi 163 (6 * i + k) = Int32.ofNat (S.fa i k) ∧ mi 164 (6 * i + k) = Int32.ofNat (S.fs i k) ∧ mi 165 (6 * i + k) = Int32.ofNat (S.fn i k)
def MF (mi0 : Nat → Nat → Int32) (ml0 : Nat → Nat → Int64) (fk fp : Nat) (mi : Nat → Nat → Int32) (ml : Nat → Nat → Int64) : Prop := FRm mi0 ml0 mi ml ∧ mi 134 39 = Int32.ofNat fk ∧ mi 134 40 = Int32.ofNat fp
theorem MS_nx {mi0 mi mi2 : Nat → Nat → Int32} {ml0 ml ml2 : Nat → Nat → Int64} {nr : Nat} {S : rgS} (h : MS T mi0 ml0 nr S mi ml) (h1 : ∀ a, a ≠ 134 → mi2 a = mi a) (h2 : ∀ j, (j < 41 ∨ 45 < j) → mi2 134 j = mi 134 j) (h3 : ∀ a, a ≠ 134 → ml2 a = ml a) (h4 : ∀ j, j ≠ 46 → ml2 134 j = ml 134 j) : MS T mi0 ml0 nr S mi2 ml2 := by
  obtain ⟨⟨f1, f2, f3, f4⟩, g1, g2, g3⟩ := h
  refine ⟨⟨fun a a1 a2 => (h1 a a1).trans (f1 a a1 a2), fun j hj => (h2 j (by omega)).trans (f2 j hj), fun a a1 a2 => (h3 a a1).trans (f3 a a1 a2), fun j hj => (h4 j hj).trans (f4 j hj)⟩, ?_, ?_, fun i hi => ?_⟩
  · rw [h2 39 (by decide)]; exact g1
  · rw [h2 48 (by decide)]; exact g2
  · rw [h1 162 (by decide), h1 163 (by decide), h1 164 (by decide), h1 165 (by decide), h3 166 (by decide)]
    exact g3 i hi
theorem MF_of {mi0 mi : Nat → Nat → Int32} {ml0 ml : Nat → Nat → Int64} {k q : Nat} {K : Int32} (h : FRm mi0 ml0 mi ml) (hK : K = Int32.ofNat k) : MF mi0 ml0 k q (u2 (u2 mi 134 39 K) 134 40 (Int32.ofNat q)) ml := by
  obtain ⟨f1, f2, f3, f4⟩ := h
  refine ⟨⟨fun a a1 a2 => (u2_ne a1).trans ((u2_ne a1).trans (f1 a a1 a2)), fun j hj => (u2_off (by omega)).trans ((u2_off (by omega)).trans (f2 j hj)), f3, f4⟩, ?_, u2_same⟩
  rw [u2_off (by decide), u2_same]
  exact hK
theorem c_wrong {mi : Nat → Nat → Int32} {ml : Nat → Nat → Int64} {p : Nat} (hLd : mLd T N p mi ml) (h39 : mi 134 39 = 0) (hQ : Q none (am_shT, mrL b, u2 (u2 mi 134 39 (Int32.ofNat (wrK T N p))) 134 40 (Int32.ofNat (rn T N isB p)), ml)) : am_wp X (d + 1) 177 0 [.ref 134] [] (am_shT, mrL b, mi, ml) Q := by
  unfold mLd at hLd
  obtain ⟨s, hs⟩ : ∃ s, s = rn T N isB p := ⟨_, rfl⟩
  rw [← hs] at hLd hQ
  have hsr := sr_1 (kd := kdT T N s)
  have h42 := hLd.1
  rcases Nat.lt_or_ge s N with hsN | hsN
  rotate_left
  · have h41 := hLd.2.1 hsN
    refine wi_aload_n rfl rfl ?_
    refine wi_aload_n rfl rfl ?_
    refine wi_getIv (v := (0 : Int32)) rfl (kd_134 ..) h41 ?_
    refine wi_iconst (x := 4) rfl rfl ?_
    refine wi_icmp_ne rfl (fun _ => ?_) (fun h9 => absurd (by decide) h9)
    refine wi_iconst (x := 2) rfl rfl ?_
    refine wi_aload_n rfl rfl ?_
    refine wi_getIv (v := (Int32.ofNat (s))) rfl (kd_134 ..) h42 ?_
    refine wi_callV2 rfl (by decide) (by decide) rfl (kd_134 ..) rfl rfl rfl ?_
    refine wi_aload_n rfl rfl ?_
    refine wi_getIv (v := (0 : Int32)) rfl (kd_134 ..) h39 ?_
    refine wi_if_le rfl (fun _ => ?_) (fun h9 => absurd (by decide) h9)
    refine wi_aload_n rfl rfl ?_
    refine wi_iload_n rfl rfl ?_
    refine wi_putI rfl (kd_134 ..) ?_
    refine wi_aload_n rfl rfl ?_
    refine wi_iload_n rfl rfl ?_
    refine wi_putI rfl (kd_134 ..) ?_
    refine wi_ret rfl ?_
    refine wi_ret rfl ?_
    have ew : wrK T N p = 2 := by
      unfold wrK
      rw [← hs]
      exact if_neg (fun h9 => by omega)
    rw [ew] at hQ
    exact hQ
  have h41 := (hLd.2.2 hsN).2.1
  by_cases hk0 : kdT T N s = 0
  · skip
    refine wi_aload_n rfl rfl ?_
    refine wi_aload_n rfl rfl ?_
    refine wi_getIv (v := (Int32.ofNat (srN (kdT T N s)))) rfl (kd_134 ..) h41 ?_
    refine wi_iconst (x := 4) rfl rfl ?_
    refine wi_icmp_ne rfl (fun h9 => absurd trivial (by exfalso; have h8 := (ne_n (a := srN (kdT T N s)) (b := 4) rfl (rfl : (4 : Int32) = Int32.ofNat 4) (by omega) (by omega)).mp h9; omega)) (fun _ => ?_)
    refine wi_iconst (x := 1) rfl rfl ?_
    refine wi_goto rfl ?_
    refine wi_aload_n rfl rfl ?_
    refine wi_getIv (v := (Int32.ofNat (s))) rfl (kd_134 ..) h42 ?_
    refine wi_callV2 rfl (by decide) (by decide) rfl (kd_134 ..) rfl rfl rfl ?_
    refine wi_aload_n rfl rfl ?_
    refine wi_getIv (v := (0 : Int32)) rfl (kd_134 ..) h39 ?_
    refine wi_if_le rfl (fun _ => ?_) (fun h9 => absurd (by decide) h9)
    refine wi_aload_n rfl rfl ?_
    refine wi_iload_n rfl rfl ?_
    refine wi_putI rfl (kd_134 ..) ?_
    refine wi_aload_n rfl rfl ?_
    refine wi_iload_n rfl rfl ?_
    refine wi_putI rfl (kd_134 ..) ?_
    refine wi_ret rfl ?_
    refine wi_ret rfl ?_
    have ew : wrK T N p = 1 := by
      unfold wrK
      rw [← hs]
      exact if_pos ⟨hsN, hk0⟩
    rw [ew] at hQ
    exact hQ
  · skip
    refine wi_aload_n rfl rfl ?_
    refine wi_aload_n rfl rfl ?_
    refine wi_getIv (v := (Int32.ofNat (srN (kdT T N s)))) rfl (kd_134 ..) h41 ?_
    refine wi_iconst (x := 4) rfl rfl ?_
    refine wi_icmp_ne rfl (fun _ => ?_) (fun h9 => absurd trivial (by exfalso; have h8 := (not_congr (ne_n (a := srN (kdT T N s)) (b := 4) rfl (rfl : (4 : Int32) = Int32.ofNat 4) (by omega) (by omega))).mp h9; omega))
    refine wi_iconst (x := 2) rfl rfl ?_
    refine wi_aload_n rfl rfl ?_
    refine wi_getIv (v := (Int32.ofNat (s))) rfl (kd_134 ..) h42 ?_
    refine wi_callV2 rfl (by decide) (by decide) rfl (kd_134 ..) rfl rfl rfl ?_
    refine wi_aload_n rfl rfl ?_
    refine wi_getIv (v := (0 : Int32)) rfl (kd_134 ..) h39 ?_
    refine wi_if_le rfl (fun _ => ?_) (fun h9 => absurd (by decide) h9)
    refine wi_aload_n rfl rfl ?_
    refine wi_iload_n rfl rfl ?_
    refine wi_putI rfl (kd_134 ..) ?_
    refine wi_aload_n rfl rfl ?_
    refine wi_iload_n rfl rfl ?_
    refine wi_putI rfl (kd_134 ..) ?_
    refine wi_ret rfl ?_
    refine wi_ret rfl ?_
    have ew : wrK T N p = 2 := by
      unfold wrK
      rw [← hs]
      exact if_neg (fun h9 => hk0 h9.2)
    rw [ew] at hQ
    exact hQ
theorem c_isSg {mi : Nat → Nat → Int32} {ml : Nat → Nat → Int64} {p c : Nat} {z : Int32} (hT : ∀ k, T k < 256) (hLd : mLd T N p mi ml) (hc : 2 < c) (hc2 : c < 256) (hz : bI (decide (rn T N isB p < N ∧ kdT T N (rn T N isB p) = c)) = z) (hQ : Q (some (.int z)) (am_shT, mrL b, mi, ml)) : am_wp X d 175 0 [.ref 134, .int (Int32.ofNat c)] [] (am_shT, mrL b, mi, ml) Q := by
  unfold mLd at hLd
  obtain ⟨s, hs⟩ : ∃ s, s = rn T N isB p := ⟨_, rfl⟩
  rw [← hs] at hLd
  have hsr := sr_1 (kd := kdT T N s)
  have hkb := kd_b (T := T) (N := N) (s := s) (hT s)
  rcases Nat.lt_or_ge s N with hsN | hsN
  rotate_left
  · have h41 := hLd.2.1 hsN
    refine wi_aload_n rfl rfl ?_
    refine wi_getIv (v := (0 : Int32)) rfl (kd_134 ..) h41 ?_
    refine wi_iconst (x := 3) rfl rfl ?_
    refine wi_icmp_ne rfl (fun _ => ?_) (fun h9 => absurd (by decide) h9)
    refine wi_iconst (x := 0) rfl rfl ?_
    refine wi_iret rfl (by decide) ?_
    rw [decide_eq_false (show ¬ (rn T N isB p < N ∧ kdT T N (rn T N isB p) = c) by rw [← hs]; omega)] at hz
    subst hz
    exact hQ
  have h41 := (hLd.2.2 hsN).2.1
  by_cases hk2 : 2 < kdT T N s
  · have h44 := (hLd.2.2 hsN).2.2.2.2 hk2
    refine wi_aload_n rfl rfl ?_
    refine wi_getIv (v := (Int32.ofNat (srN (kdT T N s)))) rfl (kd_134 ..) h41 ?_
    refine wi_iconst (x := 3) rfl rfl ?_
    refine wi_icmp_ne rfl (fun h9 => absurd trivial (by exfalso; have h8 := (ne_n (a := srN (kdT T N s)) (b := 3) rfl (rfl : (3 : Int32) = Int32.ofNat 3) (by omega) (by omega)).mp h9; omega)) (fun _ => ?_)
    refine wi_aload_n rfl rfl ?_
    refine wi_getIv (v := (Int32.ofNat (kdT T N s))) rfl (kd_134 ..) h44 ?_
    refine wi_iload_n rfl rfl ?_
    refine wi_icmp_ne rfl (fun g1 => ?_) (fun g1 => ?_)
    · replace g1 := (ne_n (a := kdT T N s) (b := c) rfl rfl (by omega) (by omega)).mp g1
      refine wi_iconst (x := 0) rfl rfl ?_
      refine wi_iret rfl (by decide) ?_
      rw [decide_eq_false (show ¬ (rn T N isB p < N ∧ kdT T N (rn T N isB p) = c) by rw [← hs]; omega)] at hz
      subst hz
      exact hQ
    · replace g1 := (not_congr (ne_n (a := kdT T N s) (b := c) rfl rfl (by omega) (by omega))).mp g1
      refine wi_iconst (x := 1) rfl rfl ?_
      refine wi_goto rfl ?_
      refine wi_iret rfl (by decide) ?_
      rw [decide_eq_true (show rn T N isB p < N ∧ kdT T N (rn T N isB p) = c by rw [← hs]; omega)] at hz
      subst hz
      exact hQ
  · skip
    refine wi_aload_n rfl rfl ?_
    refine wi_getIv (v := (Int32.ofNat (srN (kdT T N s)))) rfl (kd_134 ..) h41 ?_
    refine wi_iconst (x := 3) rfl rfl ?_
    refine wi_icmp_ne rfl (fun _ => ?_) (fun h9 => absurd trivial (by exfalso; have h8 := (not_congr (ne_n (a := srN (kdT T N s)) (b := 3) rfl (rfl : (3 : Int32) = Int32.ofNat 3) (by omega) (by omega))).mp h9; omega))
    refine wi_iconst (x := 0) rfl rfl ?_
    refine wi_iret rfl (by decide) ?_
    rw [decide_eq_false (show ¬ (rn T N isB p < N ∧ kdT T N (rn T N isB p) = c) by rw [← hs]; omega)] at hz
    subst hz
    exact hQ
theorem c_wo0 {mi : Nat → Nat → Int32} {ml : Nat → Nat → Int64} {p : Nat} (hLd : mLd T N p mi ml) (hn : ∀ j, j < 8 → tkW T N p (wds j) = false) (hQ : Q (some (.int (-1))) (am_shT, mrL b, mi, ml)) : am_wp X (d + 1) 178 0 [.ref 134] [] (am_shT, mrL b, mi, ml) Q := by
  refine wi_aload_n rfl rfl ?_
  refine wi_bipush (x := 102) rfl rfl ?_
  refine wi_bipush (x := 105) rfl rfl ?_
  refine wi_bipush (x := 114) rfl rfl ?_
  refine wi_bipush (x := 115) rfl rfl ?_
  refine wi_bipush (x := 116) rfl rfl ?_
  refine wi_iconst (x := 0) rfl rfl ?_
  refine wi_callS6 rfl (by decide) (by decide) rfl rfl rfl (c_sp1 ?_)
  refine wi_callV1 rfl (by decide) (by decide) rfl (kd_134 ..) rfl rfl rfl (c_isWz (p := p) (l := (wds 0)) hLd (wl_ok.2.2 0 (by decide)) (by decide) (by decide) (by decide) (z := 0) (congrArg bI (hn 0 (by omega))) ?_)
  refine wi_if_eq rfl (fun _ => ?_) (fun h9 => absurd (by decide) h9)
  refine wi_aload_n rfl rfl ?_
  refine wi_bipush (x := 115) rfl rfl ?_
  refine wi_bipush (x := 101) rfl rfl ?_
  refine wi_bipush (x := 99) rfl rfl ?_
  refine wi_bipush (x := 111) rfl rfl ?_
  refine wi_bipush (x := 110) rfl rfl ?_
  refine wi_bipush (x := 100) rfl rfl ?_
  refine wi_callS6 rfl (by decide) (by decide) rfl rfl rfl (c_sp2 ?_)
  refine wi_callV1 rfl (by decide) (by decide) rfl (kd_134 ..) rfl rfl rfl (c_isWz (p := p) (l := (wds 1)) hLd (wl_ok.2.2 1 (by decide)) (by decide) (by decide) (by decide) (z := 0) (congrArg bI (hn 1 (by omega))) ?_)
  refine wi_if_eq rfl (fun _ => ?_) (fun h9 => absurd (by decide) h9)
  refine wi_aload_n rfl rfl ?_
  refine wi_bipush (x := 116) rfl rfl ?_
  refine wi_bipush (x := 104) rfl rfl ?_
  refine wi_bipush (x := 105) rfl rfl ?_
  refine wi_bipush (x := 114) rfl rfl ?_
  refine wi_bipush (x := 100) rfl rfl ?_
  refine wi_iconst (x := 0) rfl rfl ?_
  refine wi_callS6 rfl (by decide) (by decide) rfl rfl rfl (c_sp3 ?_)
  refine wi_callV1 rfl (by decide) (by decide) rfl (kd_134 ..) rfl rfl rfl (c_isWz (p := p) (l := (wds 2)) hLd (wl_ok.2.2 2 (by decide)) (by decide) (by decide) (by decide) (z := 0) (congrArg bI (hn 2 (by omega))) ?_)
  refine wi_if_eq rfl (fun _ => ?_) (fun h9 => absurd (by decide) h9)
  refine wi_aload_n rfl rfl ?_
  refine wi_bipush (x := 103) rfl rfl ?_
  refine wi_bipush (x := 114) rfl rfl ?_
  refine wi_bipush (x := 97) rfl rfl ?_
  refine wi_bipush (x := 115) rfl rfl ?_
  refine wi_bipush (x := 115) rfl rfl ?_
  refine wi_iconst (x := 0) rfl rfl ?_
  refine wi_callS6 rfl (by decide) (by decide) rfl rfl rfl (c_sp4 ?_)
  refine wi_callV1 rfl (by decide) (by decide) rfl (kd_134 ..) rfl rfl rfl (c_isWz (p := p) (l := (wds 3)) hLd (wl_ok.2.2 3 (by decide)) (by decide) (by decide) (by decide) (z := 0) (congrArg bI (hn 3 (by omega))) ?_)
  refine wi_if_eq rfl (fun _ => ?_) (fun h9 => absurd (by decide) h9)
  refine wi_aload_n rfl rfl ?_
  refine wi_bipush (x := 104) rfl rfl ?_
  refine wi_bipush (x := 97) rfl rfl ?_
  refine wi_bipush (x := 114) rfl rfl ?_
  refine wi_bipush (x := 100) rfl rfl ?_
  refine wi_iconst (x := 0) rfl rfl ?_
  refine wi_iconst (x := 0) rfl rfl ?_
  refine wi_callS6 rfl (by decide) (by decide) rfl rfl rfl (c_sp5 ?_)
  refine wi_callV1 rfl (by decide) (by decide) rfl (kd_134 ..) rfl rfl rfl (c_isWz (p := p) (l := (wds 4)) hLd (wl_ok.2.2 4 (by decide)) (by decide) (by decide) (by decide) (z := 0) (congrArg bI (hn 4 (by omega))) ?_)
  refine wi_if_eq rfl (fun _ => ?_) (fun h9 => absurd (by decide) h9)
  refine wi_aload_n rfl rfl ?_
  refine wi_bipush (x := 119) rfl rfl ?_
  refine wi_bipush (x := 101) rfl rfl ?_
  refine wi_bipush (x := 97) rfl rfl ?_
  refine wi_bipush (x := 114) rfl rfl ?_
  refine wi_iconst (x := 0) rfl rfl ?_
  refine wi_iconst (x := 0) rfl rfl ?_
  refine wi_callS6 rfl (by decide) (by decide) rfl rfl rfl (c_sp6 ?_)
  refine wi_callV1 rfl (by decide) (by decide) rfl (kd_134 ..) rfl rfl rfl (c_isWz (p := p) (l := (wds 5)) hLd (wl_ok.2.2 5 (by decide)) (by decide) (by decide) (by decide) (z := 0) (congrArg bI (hn 5 (by omega))) ?_)
  refine wi_if_eq rfl (fun _ => ?_) (fun h9 => absurd (by decide) h9)
  refine wi_aload_n rfl rfl ?_
  refine wi_bipush (x := 98) rfl rfl ?_
  refine wi_bipush (x := 111) rfl rfl ?_
  refine wi_bipush (x := 117) rfl rfl ?_
  refine wi_bipush (x := 110) rfl rfl ?_
  refine wi_bipush (x := 99) rfl rfl ?_
  refine wi_bipush (x := 101) rfl rfl ?_
  refine wi_callS6 rfl (by decide) (by decide) rfl rfl rfl (c_sp7 ?_)
  refine wi_callV1 rfl (by decide) (by decide) rfl (kd_134 ..) rfl rfl rfl (c_isWz (p := p) (l := (wds 6)) hLd (wl_ok.2.2 6 (by decide)) (by decide) (by decide) (by decide) (z := 0) (congrArg bI (hn 6 (by omega))) ?_)
  refine wi_if_eq rfl (fun _ => ?_) (fun h9 => absurd (by decide) h9)
  refine wi_aload_n rfl rfl ?_
  refine wi_bipush (x := 114) rfl rfl ?_
  refine wi_bipush (x := 97) rfl rfl ?_
  refine wi_bipush (x := 105) rfl rfl ?_
  refine wi_bipush (x := 110) rfl rfl ?_
  refine wi_iconst (x := 0) rfl rfl ?_
  refine wi_iconst (x := 0) rfl rfl ?_
  refine wi_callS6 rfl (by decide) (by decide) rfl rfl rfl (c_sp8 ?_)
  refine wi_callV1 rfl (by decide) (by decide) rfl (kd_134 ..) rfl rfl rfl (c_isWz (p := p) (l := (wds 7)) hLd (wl_ok.2.2 7 (by decide)) (by decide) (by decide) (by decide) (z := 0) (congrArg bI (hn 7 (by omega))) ?_)
  refine wi_if_eq rfl (fun _ => ?_) (fun h9 => absurd (by decide) h9)
  refine wi_iconst (x := (-1)) rfl rfl ?_
  refine wi_iret rfl (Or.inl rfl) ?_
  exact hQ
theorem c_wo1 {mi : Nat → Nat → Int32} {ml : Nat → Nat → Int64} {p x : Nat} (hLd : mLd T N p mi ml) (hx8 : x < 8) (hn : ∀ j, j < x → tkW T N p (wds j) = false) (hy : tkW T N p (wds x) = true) (hQ : Q (some (.int (Int32.ofNat x))) (am_shT, mrL b, mi, ml)) : am_wp X (d + 1) 178 0 [.ref 134] [] (am_shT, mrL b, mi, ml) Q := by
  rcases x with _ | _ | _ | _ | _ | _ | _ | _ | x
  · skip
    refine wi_aload_n rfl rfl ?_
    refine wi_bipush (x := 102) rfl rfl ?_
    refine wi_bipush (x := 105) rfl rfl ?_
    refine wi_bipush (x := 114) rfl rfl ?_
    refine wi_bipush (x := 115) rfl rfl ?_
    refine wi_bipush (x := 116) rfl rfl ?_
    refine wi_iconst (x := 0) rfl rfl ?_
    refine wi_callS6 rfl (by decide) (by decide) rfl rfl rfl (c_sp1 ?_)
    refine wi_callV1 rfl (by decide) (by decide) rfl (kd_134 ..) rfl rfl rfl (c_isWz (p := p) (l := (wds 0)) hLd (wl_ok.2.2 0 (by decide)) (by decide) (by decide) (by decide) (z := 1) (congrArg bI hy) ?_)
    refine wi_if_eq rfl (fun h9 => absurd h9 (by decide)) (fun _ => ?_)
    refine wi_iconst (x := 0) rfl rfl ?_
    refine wi_iret rfl (Or.inl rfl) ?_
    exact hQ
  · skip
    refine wi_aload_n rfl rfl ?_
    refine wi_bipush (x := 102) rfl rfl ?_
    refine wi_bipush (x := 105) rfl rfl ?_
    refine wi_bipush (x := 114) rfl rfl ?_
    refine wi_bipush (x := 115) rfl rfl ?_
    refine wi_bipush (x := 116) rfl rfl ?_
    refine wi_iconst (x := 0) rfl rfl ?_
    refine wi_callS6 rfl (by decide) (by decide) rfl rfl rfl (c_sp1 ?_)
    refine wi_callV1 rfl (by decide) (by decide) rfl (kd_134 ..) rfl rfl rfl (c_isWz (p := p) (l := (wds 0)) hLd (wl_ok.2.2 0 (by decide)) (by decide) (by decide) (by decide) (z := 0) (congrArg bI (hn 0 (by omega))) ?_)
    refine wi_if_eq rfl (fun _ => ?_) (fun h9 => absurd (by decide) h9)
    refine wi_aload_n rfl rfl ?_
    refine wi_bipush (x := 115) rfl rfl ?_
    refine wi_bipush (x := 101) rfl rfl ?_
    refine wi_bipush (x := 99) rfl rfl ?_
    refine wi_bipush (x := 111) rfl rfl ?_
    refine wi_bipush (x := 110) rfl rfl ?_
    refine wi_bipush (x := 100) rfl rfl ?_
    refine wi_callS6 rfl (by decide) (by decide) rfl rfl rfl (c_sp2 ?_)
    refine wi_callV1 rfl (by decide) (by decide) rfl (kd_134 ..) rfl rfl rfl (c_isWz (p := p) (l := (wds 1)) hLd (wl_ok.2.2 1 (by decide)) (by decide) (by decide) (by decide) (z := 1) (congrArg bI hy) ?_)
    refine wi_if_eq rfl (fun h9 => absurd h9 (by decide)) (fun _ => ?_)
    refine wi_iconst (x := 1) rfl rfl ?_
    refine wi_iret rfl (Or.inl rfl) ?_
    exact hQ
  · skip
    refine wi_aload_n rfl rfl ?_
    refine wi_bipush (x := 102) rfl rfl ?_
    refine wi_bipush (x := 105) rfl rfl ?_
    refine wi_bipush (x := 114) rfl rfl ?_
    refine wi_bipush (x := 115) rfl rfl ?_
    refine wi_bipush (x := 116) rfl rfl ?_
    refine wi_iconst (x := 0) rfl rfl ?_
    refine wi_callS6 rfl (by decide) (by decide) rfl rfl rfl (c_sp1 ?_)
    refine wi_callV1 rfl (by decide) (by decide) rfl (kd_134 ..) rfl rfl rfl (c_isWz (p := p) (l := (wds 0)) hLd (wl_ok.2.2 0 (by decide)) (by decide) (by decide) (by decide) (z := 0) (congrArg bI (hn 0 (by omega))) ?_)
    refine wi_if_eq rfl (fun _ => ?_) (fun h9 => absurd (by decide) h9)
    refine wi_aload_n rfl rfl ?_
    refine wi_bipush (x := 115) rfl rfl ?_
    refine wi_bipush (x := 101) rfl rfl ?_
    refine wi_bipush (x := 99) rfl rfl ?_
    refine wi_bipush (x := 111) rfl rfl ?_
    refine wi_bipush (x := 110) rfl rfl ?_
    refine wi_bipush (x := 100) rfl rfl ?_
    refine wi_callS6 rfl (by decide) (by decide) rfl rfl rfl (c_sp2 ?_)
    refine wi_callV1 rfl (by decide) (by decide) rfl (kd_134 ..) rfl rfl rfl (c_isWz (p := p) (l := (wds 1)) hLd (wl_ok.2.2 1 (by decide)) (by decide) (by decide) (by decide) (z := 0) (congrArg bI (hn 1 (by omega))) ?_)
    refine wi_if_eq rfl (fun _ => ?_) (fun h9 => absurd (by decide) h9)
    refine wi_aload_n rfl rfl ?_
    refine wi_bipush (x := 116) rfl rfl ?_
    refine wi_bipush (x := 104) rfl rfl ?_
    refine wi_bipush (x := 105) rfl rfl ?_
    refine wi_bipush (x := 114) rfl rfl ?_
    refine wi_bipush (x := 100) rfl rfl ?_
    refine wi_iconst (x := 0) rfl rfl ?_
    refine wi_callS6 rfl (by decide) (by decide) rfl rfl rfl (c_sp3 ?_)
    refine wi_callV1 rfl (by decide) (by decide) rfl (kd_134 ..) rfl rfl rfl (c_isWz (p := p) (l := (wds 2)) hLd (wl_ok.2.2 2 (by decide)) (by decide) (by decide) (by decide) (z := 1) (congrArg bI hy) ?_)
    refine wi_if_eq rfl (fun h9 => absurd h9 (by decide)) (fun _ => ?_)
    refine wi_iconst (x := 2) rfl rfl ?_
    refine wi_iret rfl (Or.inl rfl) ?_
    exact hQ
  · skip
    refine wi_aload_n rfl rfl ?_
    refine wi_bipush (x := 102) rfl rfl ?_
    refine wi_bipush (x := 105) rfl rfl ?_
    refine wi_bipush (x := 114) rfl rfl ?_
    refine wi_bipush (x := 115) rfl rfl ?_
    refine wi_bipush (x := 116) rfl rfl ?_
    refine wi_iconst (x := 0) rfl rfl ?_
    refine wi_callS6 rfl (by decide) (by decide) rfl rfl rfl (c_sp1 ?_)
    refine wi_callV1 rfl (by decide) (by decide) rfl (kd_134 ..) rfl rfl rfl (c_isWz (p := p) (l := (wds 0)) hLd (wl_ok.2.2 0 (by decide)) (by decide) (by decide) (by decide) (z := 0) (congrArg bI (hn 0 (by omega))) ?_)
    refine wi_if_eq rfl (fun _ => ?_) (fun h9 => absurd (by decide) h9)
    refine wi_aload_n rfl rfl ?_
    refine wi_bipush (x := 115) rfl rfl ?_
    refine wi_bipush (x := 101) rfl rfl ?_
    refine wi_bipush (x := 99) rfl rfl ?_
    refine wi_bipush (x := 111) rfl rfl ?_
    refine wi_bipush (x := 110) rfl rfl ?_
    refine wi_bipush (x := 100) rfl rfl ?_
    refine wi_callS6 rfl (by decide) (by decide) rfl rfl rfl (c_sp2 ?_)
    refine wi_callV1 rfl (by decide) (by decide) rfl (kd_134 ..) rfl rfl rfl (c_isWz (p := p) (l := (wds 1)) hLd (wl_ok.2.2 1 (by decide)) (by decide) (by decide) (by decide) (z := 0) (congrArg bI (hn 1 (by omega))) ?_)
    refine wi_if_eq rfl (fun _ => ?_) (fun h9 => absurd (by decide) h9)
    refine wi_aload_n rfl rfl ?_
    refine wi_bipush (x := 116) rfl rfl ?_
    refine wi_bipush (x := 104) rfl rfl ?_
    refine wi_bipush (x := 105) rfl rfl ?_
    refine wi_bipush (x := 114) rfl rfl ?_
    refine wi_bipush (x := 100) rfl rfl ?_
    refine wi_iconst (x := 0) rfl rfl ?_
    refine wi_callS6 rfl (by decide) (by decide) rfl rfl rfl (c_sp3 ?_)
    refine wi_callV1 rfl (by decide) (by decide) rfl (kd_134 ..) rfl rfl rfl (c_isWz (p := p) (l := (wds 2)) hLd (wl_ok.2.2 2 (by decide)) (by decide) (by decide) (by decide) (z := 0) (congrArg bI (hn 2 (by omega))) ?_)
    refine wi_if_eq rfl (fun _ => ?_) (fun h9 => absurd (by decide) h9)
    refine wi_aload_n rfl rfl ?_
    refine wi_bipush (x := 103) rfl rfl ?_
    refine wi_bipush (x := 114) rfl rfl ?_
    refine wi_bipush (x := 97) rfl rfl ?_
    refine wi_bipush (x := 115) rfl rfl ?_
    refine wi_bipush (x := 115) rfl rfl ?_
    refine wi_iconst (x := 0) rfl rfl ?_
    refine wi_callS6 rfl (by decide) (by decide) rfl rfl rfl (c_sp4 ?_)
    refine wi_callV1 rfl (by decide) (by decide) rfl (kd_134 ..) rfl rfl rfl (c_isWz (p := p) (l := (wds 3)) hLd (wl_ok.2.2 3 (by decide)) (by decide) (by decide) (by decide) (z := 1) (congrArg bI hy) ?_)
    refine wi_if_eq rfl (fun h9 => absurd h9 (by decide)) (fun _ => ?_)
    refine wi_iconst (x := 3) rfl rfl ?_
    refine wi_iret rfl (Or.inl rfl) ?_
    exact hQ
  · skip
    refine wi_aload_n rfl rfl ?_
    refine wi_bipush (x := 102) rfl rfl ?_
    refine wi_bipush (x := 105) rfl rfl ?_
    refine wi_bipush (x := 114) rfl rfl ?_
    refine wi_bipush (x := 115) rfl rfl ?_
    refine wi_bipush (x := 116) rfl rfl ?_
    refine wi_iconst (x := 0) rfl rfl ?_
    refine wi_callS6 rfl (by decide) (by decide) rfl rfl rfl (c_sp1 ?_)
    refine wi_callV1 rfl (by decide) (by decide) rfl (kd_134 ..) rfl rfl rfl (c_isWz (p := p) (l := (wds 0)) hLd (wl_ok.2.2 0 (by decide)) (by decide) (by decide) (by decide) (z := 0) (congrArg bI (hn 0 (by omega))) ?_)
    refine wi_if_eq rfl (fun _ => ?_) (fun h9 => absurd (by decide) h9)
    refine wi_aload_n rfl rfl ?_
    refine wi_bipush (x := 115) rfl rfl ?_
    refine wi_bipush (x := 101) rfl rfl ?_
    refine wi_bipush (x := 99) rfl rfl ?_
    refine wi_bipush (x := 111) rfl rfl ?_
    refine wi_bipush (x := 110) rfl rfl ?_
    refine wi_bipush (x := 100) rfl rfl ?_
    refine wi_callS6 rfl (by decide) (by decide) rfl rfl rfl (c_sp2 ?_)
    refine wi_callV1 rfl (by decide) (by decide) rfl (kd_134 ..) rfl rfl rfl (c_isWz (p := p) (l := (wds 1)) hLd (wl_ok.2.2 1 (by decide)) (by decide) (by decide) (by decide) (z := 0) (congrArg bI (hn 1 (by omega))) ?_)
    refine wi_if_eq rfl (fun _ => ?_) (fun h9 => absurd (by decide) h9)
    refine wi_aload_n rfl rfl ?_
    refine wi_bipush (x := 116) rfl rfl ?_
    refine wi_bipush (x := 104) rfl rfl ?_
    refine wi_bipush (x := 105) rfl rfl ?_
    refine wi_bipush (x := 114) rfl rfl ?_
    refine wi_bipush (x := 100) rfl rfl ?_
    refine wi_iconst (x := 0) rfl rfl ?_
    refine wi_callS6 rfl (by decide) (by decide) rfl rfl rfl (c_sp3 ?_)
    refine wi_callV1 rfl (by decide) (by decide) rfl (kd_134 ..) rfl rfl rfl (c_isWz (p := p) (l := (wds 2)) hLd (wl_ok.2.2 2 (by decide)) (by decide) (by decide) (by decide) (z := 0) (congrArg bI (hn 2 (by omega))) ?_)
    refine wi_if_eq rfl (fun _ => ?_) (fun h9 => absurd (by decide) h9)
    refine wi_aload_n rfl rfl ?_
    refine wi_bipush (x := 103) rfl rfl ?_
    refine wi_bipush (x := 114) rfl rfl ?_
    refine wi_bipush (x := 97) rfl rfl ?_
    refine wi_bipush (x := 115) rfl rfl ?_
    refine wi_bipush (x := 115) rfl rfl ?_
    refine wi_iconst (x := 0) rfl rfl ?_
    refine wi_callS6 rfl (by decide) (by decide) rfl rfl rfl (c_sp4 ?_)
    refine wi_callV1 rfl (by decide) (by decide) rfl (kd_134 ..) rfl rfl rfl (c_isWz (p := p) (l := (wds 3)) hLd (wl_ok.2.2 3 (by decide)) (by decide) (by decide) (by decide) (z := 0) (congrArg bI (hn 3 (by omega))) ?_)
    refine wi_if_eq rfl (fun _ => ?_) (fun h9 => absurd (by decide) h9)
    refine wi_aload_n rfl rfl ?_
    refine wi_bipush (x := 104) rfl rfl ?_
    refine wi_bipush (x := 97) rfl rfl ?_
    refine wi_bipush (x := 114) rfl rfl ?_
    refine wi_bipush (x := 100) rfl rfl ?_
    refine wi_iconst (x := 0) rfl rfl ?_
    refine wi_iconst (x := 0) rfl rfl ?_
    refine wi_callS6 rfl (by decide) (by decide) rfl rfl rfl (c_sp5 ?_)
    refine wi_callV1 rfl (by decide) (by decide) rfl (kd_134 ..) rfl rfl rfl (c_isWz (p := p) (l := (wds 4)) hLd (wl_ok.2.2 4 (by decide)) (by decide) (by decide) (by decide) (z := 1) (congrArg bI hy) ?_)
    refine wi_if_eq rfl (fun h9 => absurd h9 (by decide)) (fun _ => ?_)
    refine wi_iconst (x := 4) rfl rfl ?_
    refine wi_iret rfl (Or.inl rfl) ?_
    exact hQ
  · skip
    refine wi_aload_n rfl rfl ?_
    refine wi_bipush (x := 102) rfl rfl ?_
    refine wi_bipush (x := 105) rfl rfl ?_
    refine wi_bipush (x := 114) rfl rfl ?_
    refine wi_bipush (x := 115) rfl rfl ?_
    refine wi_bipush (x := 116) rfl rfl ?_
    refine wi_iconst (x := 0) rfl rfl ?_
    refine wi_callS6 rfl (by decide) (by decide) rfl rfl rfl (c_sp1 ?_)
    refine wi_callV1 rfl (by decide) (by decide) rfl (kd_134 ..) rfl rfl rfl (c_isWz (p := p) (l := (wds 0)) hLd (wl_ok.2.2 0 (by decide)) (by decide) (by decide) (by decide) (z := 0) (congrArg bI (hn 0 (by omega))) ?_)
    refine wi_if_eq rfl (fun _ => ?_) (fun h9 => absurd (by decide) h9)
    refine wi_aload_n rfl rfl ?_
    refine wi_bipush (x := 115) rfl rfl ?_
    refine wi_bipush (x := 101) rfl rfl ?_
    refine wi_bipush (x := 99) rfl rfl ?_
    refine wi_bipush (x := 111) rfl rfl ?_
    refine wi_bipush (x := 110) rfl rfl ?_
    refine wi_bipush (x := 100) rfl rfl ?_
    refine wi_callS6 rfl (by decide) (by decide) rfl rfl rfl (c_sp2 ?_)
    refine wi_callV1 rfl (by decide) (by decide) rfl (kd_134 ..) rfl rfl rfl (c_isWz (p := p) (l := (wds 1)) hLd (wl_ok.2.2 1 (by decide)) (by decide) (by decide) (by decide) (z := 0) (congrArg bI (hn 1 (by omega))) ?_)
    refine wi_if_eq rfl (fun _ => ?_) (fun h9 => absurd (by decide) h9)
    refine wi_aload_n rfl rfl ?_
    refine wi_bipush (x := 116) rfl rfl ?_
    refine wi_bipush (x := 104) rfl rfl ?_
    refine wi_bipush (x := 105) rfl rfl ?_
    refine wi_bipush (x := 114) rfl rfl ?_
    refine wi_bipush (x := 100) rfl rfl ?_
    refine wi_iconst (x := 0) rfl rfl ?_
    refine wi_callS6 rfl (by decide) (by decide) rfl rfl rfl (c_sp3 ?_)
    refine wi_callV1 rfl (by decide) (by decide) rfl (kd_134 ..) rfl rfl rfl (c_isWz (p := p) (l := (wds 2)) hLd (wl_ok.2.2 2 (by decide)) (by decide) (by decide) (by decide) (z := 0) (congrArg bI (hn 2 (by omega))) ?_)
    refine wi_if_eq rfl (fun _ => ?_) (fun h9 => absurd (by decide) h9)
    refine wi_aload_n rfl rfl ?_
    refine wi_bipush (x := 103) rfl rfl ?_
    refine wi_bipush (x := 114) rfl rfl ?_
    refine wi_bipush (x := 97) rfl rfl ?_
    refine wi_bipush (x := 115) rfl rfl ?_
    refine wi_bipush (x := 115) rfl rfl ?_
    refine wi_iconst (x := 0) rfl rfl ?_
    refine wi_callS6 rfl (by decide) (by decide) rfl rfl rfl (c_sp4 ?_)
    refine wi_callV1 rfl (by decide) (by decide) rfl (kd_134 ..) rfl rfl rfl (c_isWz (p := p) (l := (wds 3)) hLd (wl_ok.2.2 3 (by decide)) (by decide) (by decide) (by decide) (z := 0) (congrArg bI (hn 3 (by omega))) ?_)
    refine wi_if_eq rfl (fun _ => ?_) (fun h9 => absurd (by decide) h9)
    refine wi_aload_n rfl rfl ?_
    refine wi_bipush (x := 104) rfl rfl ?_
    refine wi_bipush (x := 97) rfl rfl ?_
    refine wi_bipush (x := 114) rfl rfl ?_
    refine wi_bipush (x := 100) rfl rfl ?_
    refine wi_iconst (x := 0) rfl rfl ?_
    refine wi_iconst (x := 0) rfl rfl ?_
    refine wi_callS6 rfl (by decide) (by decide) rfl rfl rfl (c_sp5 ?_)
    refine wi_callV1 rfl (by decide) (by decide) rfl (kd_134 ..) rfl rfl rfl (c_isWz (p := p) (l := (wds 4)) hLd (wl_ok.2.2 4 (by decide)) (by decide) (by decide) (by decide) (z := 0) (congrArg bI (hn 4 (by omega))) ?_)
    refine wi_if_eq rfl (fun _ => ?_) (fun h9 => absurd (by decide) h9)
    refine wi_aload_n rfl rfl ?_
    refine wi_bipush (x := 119) rfl rfl ?_
    refine wi_bipush (x := 101) rfl rfl ?_
    refine wi_bipush (x := 97) rfl rfl ?_
    refine wi_bipush (x := 114) rfl rfl ?_
    refine wi_iconst (x := 0) rfl rfl ?_
    refine wi_iconst (x := 0) rfl rfl ?_
    refine wi_callS6 rfl (by decide) (by decide) rfl rfl rfl (c_sp6 ?_)
    refine wi_callV1 rfl (by decide) (by decide) rfl (kd_134 ..) rfl rfl rfl (c_isWz (p := p) (l := (wds 5)) hLd (wl_ok.2.2 5 (by decide)) (by decide) (by decide) (by decide) (z := 1) (congrArg bI hy) ?_)
    refine wi_if_eq rfl (fun h9 => absurd h9 (by decide)) (fun _ => ?_)
    refine wi_iconst (x := 5) rfl rfl ?_
    refine wi_iret rfl (Or.inl rfl) ?_
    exact hQ
  · skip
    refine wi_aload_n rfl rfl ?_
    refine wi_bipush (x := 102) rfl rfl ?_
    refine wi_bipush (x := 105) rfl rfl ?_
    refine wi_bipush (x := 114) rfl rfl ?_
    refine wi_bipush (x := 115) rfl rfl ?_
    refine wi_bipush (x := 116) rfl rfl ?_
    refine wi_iconst (x := 0) rfl rfl ?_
    refine wi_callS6 rfl (by decide) (by decide) rfl rfl rfl (c_sp1 ?_)
    refine wi_callV1 rfl (by decide) (by decide) rfl (kd_134 ..) rfl rfl rfl (c_isWz (p := p) (l := (wds 0)) hLd (wl_ok.2.2 0 (by decide)) (by decide) (by decide) (by decide) (z := 0) (congrArg bI (hn 0 (by omega))) ?_)
    refine wi_if_eq rfl (fun _ => ?_) (fun h9 => absurd (by decide) h9)
    refine wi_aload_n rfl rfl ?_
    refine wi_bipush (x := 115) rfl rfl ?_
    refine wi_bipush (x := 101) rfl rfl ?_
    refine wi_bipush (x := 99) rfl rfl ?_
    refine wi_bipush (x := 111) rfl rfl ?_
    refine wi_bipush (x := 110) rfl rfl ?_
    refine wi_bipush (x := 100) rfl rfl ?_
    refine wi_callS6 rfl (by decide) (by decide) rfl rfl rfl (c_sp2 ?_)
    refine wi_callV1 rfl (by decide) (by decide) rfl (kd_134 ..) rfl rfl rfl (c_isWz (p := p) (l := (wds 1)) hLd (wl_ok.2.2 1 (by decide)) (by decide) (by decide) (by decide) (z := 0) (congrArg bI (hn 1 (by omega))) ?_)
    refine wi_if_eq rfl (fun _ => ?_) (fun h9 => absurd (by decide) h9)
    refine wi_aload_n rfl rfl ?_
    refine wi_bipush (x := 116) rfl rfl ?_
    refine wi_bipush (x := 104) rfl rfl ?_
    refine wi_bipush (x := 105) rfl rfl ?_
    refine wi_bipush (x := 114) rfl rfl ?_
    refine wi_bipush (x := 100) rfl rfl ?_
    refine wi_iconst (x := 0) rfl rfl ?_
    refine wi_callS6 rfl (by decide) (by decide) rfl rfl rfl (c_sp3 ?_)
    refine wi_callV1 rfl (by decide) (by decide) rfl (kd_134 ..) rfl rfl rfl (c_isWz (p := p) (l := (wds 2)) hLd (wl_ok.2.2 2 (by decide)) (by decide) (by decide) (by decide) (z := 0) (congrArg bI (hn 2 (by omega))) ?_)
    refine wi_if_eq rfl (fun _ => ?_) (fun h9 => absurd (by decide) h9)
    refine wi_aload_n rfl rfl ?_
    refine wi_bipush (x := 103) rfl rfl ?_
    refine wi_bipush (x := 114) rfl rfl ?_
    refine wi_bipush (x := 97) rfl rfl ?_
    refine wi_bipush (x := 115) rfl rfl ?_
    refine wi_bipush (x := 115) rfl rfl ?_
    refine wi_iconst (x := 0) rfl rfl ?_
    refine wi_callS6 rfl (by decide) (by decide) rfl rfl rfl (c_sp4 ?_)
    refine wi_callV1 rfl (by decide) (by decide) rfl (kd_134 ..) rfl rfl rfl (c_isWz (p := p) (l := (wds 3)) hLd (wl_ok.2.2 3 (by decide)) (by decide) (by decide) (by decide) (z := 0) (congrArg bI (hn 3 (by omega))) ?_)
    refine wi_if_eq rfl (fun _ => ?_) (fun h9 => absurd (by decide) h9)
    refine wi_aload_n rfl rfl ?_
    refine wi_bipush (x := 104) rfl rfl ?_
    refine wi_bipush (x := 97) rfl rfl ?_
    refine wi_bipush (x := 114) rfl rfl ?_
    refine wi_bipush (x := 100) rfl rfl ?_
    refine wi_iconst (x := 0) rfl rfl ?_
    refine wi_iconst (x := 0) rfl rfl ?_
    refine wi_callS6 rfl (by decide) (by decide) rfl rfl rfl (c_sp5 ?_)
    refine wi_callV1 rfl (by decide) (by decide) rfl (kd_134 ..) rfl rfl rfl (c_isWz (p := p) (l := (wds 4)) hLd (wl_ok.2.2 4 (by decide)) (by decide) (by decide) (by decide) (z := 0) (congrArg bI (hn 4 (by omega))) ?_)
    refine wi_if_eq rfl (fun _ => ?_) (fun h9 => absurd (by decide) h9)
    refine wi_aload_n rfl rfl ?_
    refine wi_bipush (x := 119) rfl rfl ?_
    refine wi_bipush (x := 101) rfl rfl ?_
    refine wi_bipush (x := 97) rfl rfl ?_
    refine wi_bipush (x := 114) rfl rfl ?_
    refine wi_iconst (x := 0) rfl rfl ?_
    refine wi_iconst (x := 0) rfl rfl ?_
    refine wi_callS6 rfl (by decide) (by decide) rfl rfl rfl (c_sp6 ?_)
    refine wi_callV1 rfl (by decide) (by decide) rfl (kd_134 ..) rfl rfl rfl (c_isWz (p := p) (l := (wds 5)) hLd (wl_ok.2.2 5 (by decide)) (by decide) (by decide) (by decide) (z := 0) (congrArg bI (hn 5 (by omega))) ?_)
    refine wi_if_eq rfl (fun _ => ?_) (fun h9 => absurd (by decide) h9)
    refine wi_aload_n rfl rfl ?_
    refine wi_bipush (x := 98) rfl rfl ?_
    refine wi_bipush (x := 111) rfl rfl ?_
    refine wi_bipush (x := 117) rfl rfl ?_
    refine wi_bipush (x := 110) rfl rfl ?_
    refine wi_bipush (x := 99) rfl rfl ?_
    refine wi_bipush (x := 101) rfl rfl ?_
    refine wi_callS6 rfl (by decide) (by decide) rfl rfl rfl (c_sp7 ?_)
    refine wi_callV1 rfl (by decide) (by decide) rfl (kd_134 ..) rfl rfl rfl (c_isWz (p := p) (l := (wds 6)) hLd (wl_ok.2.2 6 (by decide)) (by decide) (by decide) (by decide) (z := 1) (congrArg bI hy) ?_)
    refine wi_if_eq rfl (fun h9 => absurd h9 (by decide)) (fun _ => ?_)
    refine wi_bipush (x := 6) rfl rfl ?_
    refine wi_iret rfl (Or.inl rfl) ?_
    exact hQ
  · skip
    refine wi_aload_n rfl rfl ?_
    refine wi_bipush (x := 102) rfl rfl ?_
    refine wi_bipush (x := 105) rfl rfl ?_
    refine wi_bipush (x := 114) rfl rfl ?_
    refine wi_bipush (x := 115) rfl rfl ?_
    refine wi_bipush (x := 116) rfl rfl ?_
    refine wi_iconst (x := 0) rfl rfl ?_
    refine wi_callS6 rfl (by decide) (by decide) rfl rfl rfl (c_sp1 ?_)
    refine wi_callV1 rfl (by decide) (by decide) rfl (kd_134 ..) rfl rfl rfl (c_isWz (p := p) (l := (wds 0)) hLd (wl_ok.2.2 0 (by decide)) (by decide) (by decide) (by decide) (z := 0) (congrArg bI (hn 0 (by omega))) ?_)
    refine wi_if_eq rfl (fun _ => ?_) (fun h9 => absurd (by decide) h9)
    refine wi_aload_n rfl rfl ?_
    refine wi_bipush (x := 115) rfl rfl ?_
    refine wi_bipush (x := 101) rfl rfl ?_
    refine wi_bipush (x := 99) rfl rfl ?_
    refine wi_bipush (x := 111) rfl rfl ?_
    refine wi_bipush (x := 110) rfl rfl ?_
    refine wi_bipush (x := 100) rfl rfl ?_
    refine wi_callS6 rfl (by decide) (by decide) rfl rfl rfl (c_sp2 ?_)
    refine wi_callV1 rfl (by decide) (by decide) rfl (kd_134 ..) rfl rfl rfl (c_isWz (p := p) (l := (wds 1)) hLd (wl_ok.2.2 1 (by decide)) (by decide) (by decide) (by decide) (z := 0) (congrArg bI (hn 1 (by omega))) ?_)
    refine wi_if_eq rfl (fun _ => ?_) (fun h9 => absurd (by decide) h9)
    refine wi_aload_n rfl rfl ?_
    refine wi_bipush (x := 116) rfl rfl ?_
    refine wi_bipush (x := 104) rfl rfl ?_
    refine wi_bipush (x := 105) rfl rfl ?_
    refine wi_bipush (x := 114) rfl rfl ?_
    refine wi_bipush (x := 100) rfl rfl ?_
    refine wi_iconst (x := 0) rfl rfl ?_
    refine wi_callS6 rfl (by decide) (by decide) rfl rfl rfl (c_sp3 ?_)
    refine wi_callV1 rfl (by decide) (by decide) rfl (kd_134 ..) rfl rfl rfl (c_isWz (p := p) (l := (wds 2)) hLd (wl_ok.2.2 2 (by decide)) (by decide) (by decide) (by decide) (z := 0) (congrArg bI (hn 2 (by omega))) ?_)
    refine wi_if_eq rfl (fun _ => ?_) (fun h9 => absurd (by decide) h9)
    refine wi_aload_n rfl rfl ?_
    refine wi_bipush (x := 103) rfl rfl ?_
    refine wi_bipush (x := 114) rfl rfl ?_
    refine wi_bipush (x := 97) rfl rfl ?_
    refine wi_bipush (x := 115) rfl rfl ?_
    refine wi_bipush (x := 115) rfl rfl ?_
    refine wi_iconst (x := 0) rfl rfl ?_
    refine wi_callS6 rfl (by decide) (by decide) rfl rfl rfl (c_sp4 ?_)
    refine wi_callV1 rfl (by decide) (by decide) rfl (kd_134 ..) rfl rfl rfl (c_isWz (p := p) (l := (wds 3)) hLd (wl_ok.2.2 3 (by decide)) (by decide) (by decide) (by decide) (z := 0) (congrArg bI (hn 3 (by omega))) ?_)
    refine wi_if_eq rfl (fun _ => ?_) (fun h9 => absurd (by decide) h9)
    refine wi_aload_n rfl rfl ?_
    refine wi_bipush (x := 104) rfl rfl ?_
    refine wi_bipush (x := 97) rfl rfl ?_
    refine wi_bipush (x := 114) rfl rfl ?_
    refine wi_bipush (x := 100) rfl rfl ?_
    refine wi_iconst (x := 0) rfl rfl ?_
    refine wi_iconst (x := 0) rfl rfl ?_
    refine wi_callS6 rfl (by decide) (by decide) rfl rfl rfl (c_sp5 ?_)
    refine wi_callV1 rfl (by decide) (by decide) rfl (kd_134 ..) rfl rfl rfl (c_isWz (p := p) (l := (wds 4)) hLd (wl_ok.2.2 4 (by decide)) (by decide) (by decide) (by decide) (z := 0) (congrArg bI (hn 4 (by omega))) ?_)
    refine wi_if_eq rfl (fun _ => ?_) (fun h9 => absurd (by decide) h9)
    refine wi_aload_n rfl rfl ?_
    refine wi_bipush (x := 119) rfl rfl ?_
    refine wi_bipush (x := 101) rfl rfl ?_
    refine wi_bipush (x := 97) rfl rfl ?_
    refine wi_bipush (x := 114) rfl rfl ?_
    refine wi_iconst (x := 0) rfl rfl ?_
    refine wi_iconst (x := 0) rfl rfl ?_
    refine wi_callS6 rfl (by decide) (by decide) rfl rfl rfl (c_sp6 ?_)
    refine wi_callV1 rfl (by decide) (by decide) rfl (kd_134 ..) rfl rfl rfl (c_isWz (p := p) (l := (wds 5)) hLd (wl_ok.2.2 5 (by decide)) (by decide) (by decide) (by decide) (z := 0) (congrArg bI (hn 5 (by omega))) ?_)
    refine wi_if_eq rfl (fun _ => ?_) (fun h9 => absurd (by decide) h9)
    refine wi_aload_n rfl rfl ?_
    refine wi_bipush (x := 98) rfl rfl ?_
    refine wi_bipush (x := 111) rfl rfl ?_
    refine wi_bipush (x := 117) rfl rfl ?_
    refine wi_bipush (x := 110) rfl rfl ?_
    refine wi_bipush (x := 99) rfl rfl ?_
    refine wi_bipush (x := 101) rfl rfl ?_
    refine wi_callS6 rfl (by decide) (by decide) rfl rfl rfl (c_sp7 ?_)
    refine wi_callV1 rfl (by decide) (by decide) rfl (kd_134 ..) rfl rfl rfl (c_isWz (p := p) (l := (wds 6)) hLd (wl_ok.2.2 6 (by decide)) (by decide) (by decide) (by decide) (z := 0) (congrArg bI (hn 6 (by omega))) ?_)
    refine wi_if_eq rfl (fun _ => ?_) (fun h9 => absurd (by decide) h9)
    refine wi_aload_n rfl rfl ?_
    refine wi_bipush (x := 114) rfl rfl ?_
    refine wi_bipush (x := 97) rfl rfl ?_
    refine wi_bipush (x := 105) rfl rfl ?_
    refine wi_bipush (x := 110) rfl rfl ?_
    refine wi_iconst (x := 0) rfl rfl ?_
    refine wi_iconst (x := 0) rfl rfl ?_
    refine wi_callS6 rfl (by decide) (by decide) rfl rfl rfl (c_sp8 ?_)
    refine wi_callV1 rfl (by decide) (by decide) rfl (kd_134 ..) rfl rfl rfl (c_isWz (p := p) (l := (wds 7)) hLd (wl_ok.2.2 7 (by decide)) (by decide) (by decide) (by decide) (z := 1) (congrArg bI hy) ?_)
    refine wi_if_eq rfl (fun h9 => absurd h9 (by decide)) (fun _ => ?_)
    refine wi_bipush (x := 7) rfl rfl ?_
    refine wi_goto rfl ?_
    refine wi_iret rfl (Or.inl rfl) ?_
    exact hQ
  · omega
theorem wrK_p {p : Nat} : 1 ≤ wrK T N p ∧ wrK T N p ≤ 2 := by
  unfold wrK
  split <;> omega
theorem MS_test {mi0 mi : Nat → Nat → Int32} {ml0 ml : Nat → Nat → Int64} {nr e num : Nat} {S : rgS} (h : MS T mi0 ml0 nr S mi ml) (hr : S.r = nr + 1) (hr8 : S.r ≤ 8) (ht : ∀ i, i < S.r → S.tc i ≤ 6) (ht5 : S.tc nr < 6) (h163 : mi 163 (6 * nr + S.tc nr) = Int32.ofNat S.tw) (h164 : mi 164 (6 * nr + S.tc nr) = Int32.ofNat S.ts) : MS T mi0 ml0 nr ⟨5, e, S.r, S.tw, S.ts, S.ns, S.nl, up1 S.tc (S.r - 1) (S.tc (S.r - 1) + 1), upp S.fa (S.r - 1) (S.tc (S.r - 1)) S.tw, upp S.fs (S.r - 1) (S.tc (S.r - 1)) S.ts, upp S.fn (S.r - 1) (S.tc (S.r - 1)) num⟩ (u2 (u2 mi 165 (6 * nr + S.tc nr) (Int32.ofNat num)) 162 nr (Int32.ofNat (S.tc nr + 1))) ml := by
  obtain ⟨⟨f1, f2, f3, f4⟩, g1, g2, g3⟩ := h
  have en : S.r - 1 = nr := by omega
  rw [en]
  refine ⟨⟨fun a a1 a2 => ?_, fun j hj => ?_, f3, f4⟩, ?_, ?_, fun i hi => ?_⟩
  · rw [u2_ne (by omega), u2_ne (by omega)]; exact f1 a a1 a2
  · rw [u2_ne (by decide), u2_ne (by decide)]; exact f2 j hj
  · rw [u2_ne (by decide), u2_ne (by decide)]; exact g1
  · rw [u2_ne (by decide), u2_ne (by decide)]; exact g2
  · have hi : i < S.r := hi
    obtain ⟨q1, q2, q3⟩ := g3 i hi
    have hti := ht i hi
    rw [u2_rd, u2_ne (show (162 : Nat) ≠ 165 by decide), u2_ne (show (163 : Nat) ≠ 162 by decide), u2_ne (show (163 : Nat) ≠ 165 by decide), u2_ne (show (164 : Nat) ≠ 162 by decide), u2_ne (show (164 : Nat) ≠ 165 by decide), u2_ne (show (165 : Nat) ≠ 162 by decide)]
    show _ = Int32.ofNat (up1 S.tc nr (S.tc nr + 1) i) ∧ _ ∧ ∀ k, k < up1 S.tc nr (S.tc nr + 1) i → _ = Int32.ofNat (upp S.fa nr (S.tc nr) S.tw i k) ∧ _ = Int32.ofNat (upp S.fs nr (S.tc nr) S.ts i k) ∧ _ = Int32.ofNat (upp S.fn nr (S.tc nr) num i k)
    unfold up1 upp
    by_cases hir : i = nr
    · subst hir
      rw [if_pos rfl, if_pos rfl]
      refine ⟨rfl, q2, fun k hk => ?_⟩
      rw [u2_rd]
      by_cases hkt : k = S.tc i
      · subst hkt
        refine ⟨?_, ?_, ?_⟩
        · rw [if_pos ⟨rfl, rfl⟩]; exact h163
        · rw [if_pos ⟨rfl, rfl⟩]; exact h164
        · rw [if_pos rfl, if_pos ⟨rfl, rfl⟩]
      · obtain ⟨q4, q5, q6⟩ := q3 k (by omega)
        refine ⟨?_, ?_, ?_⟩
        · rw [if_neg (fun h9 => hkt h9.2)]; exact q4
        · rw [if_neg (fun h9 => hkt h9.2)]; exact q5
        · rw [if_neg (show ¬ 6 * i + k = 6 * i + S.tc i by omega), if_neg (fun h9 => hkt h9.2)]; exact q6
    · rw [if_neg hir, if_neg hir]
      refine ⟨q1, q2, fun k hk => ?_⟩
      rw [u2_off (by omega), if_neg (fun h9 => hir h9.1), if_neg (fun h9 => hir h9.1), if_neg (fun h9 => hir h9.1)]
      exact q3 k hk
theorem MS_same {mi0 mi mi2 : Nat → Nat → Int32} {ml0 ml : Nat → Nat → Int64} {nr : Nat} {S S2 : rgS} (h : MS T mi0 ml0 nr S mi ml) (ho : ∀ a, a ≠ 163 → a ≠ 164 → mi2 a = mi a) (h163 : ∀ i, i < S.r → ∀ k, k < S.tc i → mi2 163 (6 * i + k) = mi 163 (6 * i + k) ∧ mi2 164 (6 * i + k) = mi 164 (6 * i + k)) (e1 : S2.r = S.r) (e2 : S2.tc = S.tc) (e3 : S2.ns = S.ns) (e4 : S2.nl = S.nl) (e5 : S2.fa = S.fa) (e6 : S2.fs = S.fs) (e7 : S2.fn = S.fn) : MS T mi0 ml0 nr S2 mi2 ml := by
  obtain ⟨⟨f1, f2, f3, f4⟩, g1, g2, g3⟩ := h
  have h134 := ho 134 (by decide) (by decide)
  refine ⟨⟨fun a a1 a2 => (ho a (by omega) (by omega)).trans (f1 a a1 a2), fun j hj => by rw [h134]; exact f2 j hj, f3, f4⟩, by rw [h134]; exact g1, by rw [h134]; exact g2, fun i hi => ?_⟩
  rw [e1] at hi
  rw [e2, e3, e4, e5, e6, e7, ho 162 (by decide) (by decide), ho 165 (by decide) (by decide)]
  obtain ⟨q1, q2, q3⟩ := g3 i hi
  refine ⟨q1, q2, fun k hk => ?_⟩
  rw [(h163 i hi k hk).1, (h163 i hi k hk).2]
  exact q3 k hk
theorem rt_c {mi0 mi : Nat → Nat → Int32} {ml0 ml : Nat → Nat → Int64} {S E : rgS} {nr fk fp : Nat} {x1 : Int32} (hN4 : N ≤ 400) (hT : ∀ k, T k < 256) (b36 : mi0 134 36 = Int32.ofNat N) (b157 : ∀ k, k < N → mi0 157 k &&& 255 = Int32.ofNat (T k)) (hin : inS T N S) (haw : S.aw = 4) (hnr : S.r = nr + 1) (hM : MS T mi0 ml0 nr S mi ml) (hLd : mLd T N S.p mi ml) (hr : runS T N S fk fp E) (h163 : mi 163 (6 * nr + S.tc nr) = Int32.ofNat S.tw) (h164 : mi 164 (6 * nr + S.tc nr) = Int32.ofNat S.ts) (hF : ∀ mi2 ml2, fk ≠ 0 → MF mi0 ml0 fk fp mi2 ml2 → Q none (am_shT, mrL b, mi2, ml2)) (hO : ∀ S' mi2 ml2, S'.aw = 5 → inS T N S' → S.p < S'.p → S'.r = S.r → runS T N S' fk fp E → MS T mi0 ml0 nr S' mi2 ml2 → mLd T N S'.p mi2 ml2 → Q none (am_shT, mrL b, mi2, ml2)) : am_wp X (d + 3) 179 65 [.ref 134, .int x1, .int (Int32.ofNat (6 * nr + S.tc nr))] [] (am_shT, mrL b, mi, ml) Q := by
  have hrb := rn_b (T := T) (N := N) (pr := isB) (p := S.p) hin.1
  have hwk := wrK_p (T := T) (N := N) (p := S.p)
  have g36 : mi 134 36 = Int32.ofNat N := by rw [hM.1.2.1 36 (by decide)]; exact b36
  have g157 : ∀ k, k < N → mi 157 k &&& 255 = Int32.ofNat (T k) := by rw [hM.1.1 157 (by decide) (by decide)]; exact b157
  by_cases hnum : (rn T N isB S.p) < N → ¬ kdT T N (rn T N isB S.p) = 2
  · have hne : ¬ mi 134 41 = 2 := by
      rcases Nat.lt_or_ge (rn T N isB S.p) N with h1 | h1
      · rw [(hLd.2.2 h1).2.1]
        have hsr := sr_1 (kd := kdT T N (rn T N isB S.p))
        exact fun h9 => hnum h1 (hsr.2.1.mp ((eq_n (b := 2) rfl rfl (by omega) (by decide)).mp h9))
      · rw [hLd.2.1 h1]; decide
    refine wi_aload_n rfl rfl ?_
    refine wi_getIv (v := (mi 134 41)) rfl (kd_134 ..) rfl ?_
    refine wi_iconst (x := 2) rfl rfl ?_
    refine wi_icmp_eq rfl (fun h9 => absurd h9 hne) (fun _ => ?_)
    refine wi_aload_n rfl rfl ?_
    refine wi_callV0 rfl (by decide) (by decide) rfl (kd_134 ..) rfl rfl rfl (c_wrong hLd hM.2.1 ?_)
    refine wi_ret rfl ?_
    obtain ⟨rfl, rfl⟩ := wr_run hr hin.1 (Or.inl (by omega)) (fun h1 h2 => (tkS_4 h2 haw).trans (if_neg (fun h9 => hnum h1 h9)))
    exact hF _ _ (by omega) (MF_of hM.1 rfl)
  · obtain ⟨hsN, h2'⟩ := Classical.not_imp.mp hnum
    have hk2 : kdT T N (rn T N isB S.p) = 2 := Classical.not_not.mp h2'
    have heb := en_b (T := T) hsN
    have hlt : S.p < enT T N (rn T N isB S.p) := by omega
    have h41 : mi 134 41 = 2 := by rw [(hLd.2.2 hsN).2.1, hk2]; rfl
    have h44 := (hLd.2.2 hsN).2.2.2.1 hk2
    have h43 := (hLd.2.2 hsN).1
    have hnb := nm_b (s := (rn T N isB S.p)) hT (enT T N (rn T N isB S.p) - (rn T N isB S.p)) (kdt_2 hk2 hsN).1
    have htc := (hM.2.2.2 nr (by omega)).1
    have ht5 := (hin.2.2.2.2.1 (Or.inr haw)).2
    rw [show S.r - 1 = nr by omega] at ht5
    have hr8 := hin.2.1
    have htk : tkS T S (rn T N isB S.p) (enT T N (rn T N isB S.p)) (kdT T N (rn T N isB S.p)) = .inr _ := (tkS_4 (by omega) haw).trans (if_pos hk2)
    have ti := tk_inv (fun k _ => hT k) hin hsN htk
    have hM5 := MS_test (e := enT T N (rn T N isB S.p)) (num := nmR T (rn T N isB S.p) (enT T N (rn T N isB S.p) - (rn T N isB S.p))) hM hnr hr8 (fun i hi => (hin.2.2.2.2.2.2 i hi).1) ht5 h163 h164
    refine wi_aload_n rfl rfl ?_
    refine wi_getIv (v := (2 : Int32)) rfl (kd_134 ..) h41 ?_
    refine wi_iconst (x := 2) rfl rfl ?_
    refine wi_icmp_eq rfl (fun _ => ?_) (fun h9 => absurd (by decide) h9)
    refine wi_aload_n rfl rfl ?_
    refine wi_getR rfl (kd_134 ..) (rd_134_56 _) ?_
    refine wi_iload_n rfl rfl ?_
    refine wi_aload_n rfl rfl ?_
    refine wi_getIv (v := (Int32.ofNat (nmR T (rn T N isB S.p) (enT T N (rn T N isB S.p) - (rn T N isB S.p))))) rfl (kd_134 ..) h44 ?_
    refine wn_iastore (q := 6 * nr + S.tc nr) rfl (ln_165 ..) rfl (by omega) (by decide) ?_
    refine wi_aload_n rfl rfl ?_
    refine wi_getR rfl (kd_134 ..) (rd_134_53 _) ?_
    refine wi_aload_n rfl rfl ?_
    refine wi_getIv (v := (Int32.ofNat (nr))) rfl (kd_134 ..) hM.2.2.1 ?_
    refine wi_dup2 rfl ⟨rfl, rfl⟩ ?_
    refine wn_iaload (q := nr) (v := (Int32.ofNat (S.tc nr))) rfl (ln_162 ..) rfl (by omega) (by decide) (by decide) (by decide) (by rw [u2_ne (by decide)]; exact htc) ?_
    refine wi_iconst (x := 1) rfl rfl ?_
    refine wn_iadd (z := (Int32.ofNat (S.tc nr + 1))) rfl (add_n (a := S.tc nr) (b := 1) rfl (rfl : (1 : Int32) = Int32.ofNat 1)) ?_
    refine wn_iastore (q := nr) rfl (ln_162 ..) rfl (by omega) (by decide) ?_
    refine wi_aload_n rfl rfl ?_
    refine wi_callV0 rfl (by decide) (by decide) rfl (kd_134 ..) rfl rfl rfl (c_mnext hN4 hT (by rw [u2_ne (by decide), u2_ne (by decide)]; exact g36) (by rw [u2_ne (by decide), u2_ne (by decide)]; exact g157) (by rw [u2_ne (by decide), u2_ne (by decide)]; exact h43) (p := enT T N (rn T N isB S.p)) heb.2 (fun mi2 ml2 n1 n2 n3 n4 n5 => ?_))
    refine wi_ret rfl ?_
    exact hO _ _ _ rfl ti.1 (by rw [ti.2]; exact hlt) rfl (inv_stp hsN htk hr) (MS_nx hM5 n1 n2 n3 n4) n5
theorem rt_b {mi0 mi : Nat → Nat → Int32} {ml0 ml : Nat → Nat → Int64} {S E : rgS} {nr fk fp : Nat} (hN4 : N ≤ 400) (hT : ∀ k, T k < 256) (b36 : mi0 134 36 = Int32.ofNat N) (b157 : ∀ k, k < N → mi0 157 k &&& 255 = Int32.ofNat (T k)) (hin : inS T N S) (haw : S.aw = 3) (hnr : S.r = nr + 1) (hM : MS T mi0 ml0 nr S mi ml) (hLd : mLd T N S.p mi ml) (hr : runS T N S fk fp E) (hF : ∀ mi2 ml2, fk ≠ 0 → MF mi0 ml0 fk fp mi2 ml2 → Q none (am_shT, mrL b, mi2, ml2)) (hO : ∀ S' mi2 ml2, S'.aw = 5 → inS T N S' → S.p < S'.p → S'.r = S.r → runS T N S' fk fp E → MS T mi0 ml0 nr S' mi2 ml2 → mLd T N S'.p mi2 ml2 → Q none (am_shT, mrL b, mi2, ml2)) : am_wp X (d + 3) 179 37 [.ref 134, .int (Int32.ofNat (S.tw)), .int (Int32.ofNat (6 * nr + S.tc nr))] [] (am_shT, mrL b, mi, ml) Q := by
  have hrb := rn_b (T := T) (N := N) (pr := isB) (p := S.p) hin.1
  have hwk := wrK_p (T := T) (N := N) (p := S.p)
  have g36 : mi 134 36 = Int32.ofNat N := by rw [hM.1.2.1 36 (by decide)]; exact b36
  have g157 : ∀ k, k < N → mi 157 k &&& 255 = Int32.ofNat (T k) := by rw [hM.1.1 157 (by decide) (by decide)]; exact b157
  have hkb := kd_b (T := T) (N := N) (s := (rn T N isB S.p)) (hT _)
  by_cases hnos : (rn T N isB S.p) < N → ¬ (kdT T N (rn T N isB S.p) = 60 ∨ kdT T N (rn T N isB S.p) = 62 ∨ kdT T N (rn T N isB S.p) = 61)
  · skip
    refine wi_aload_n rfl rfl ?_
    refine wi_bipush (x := 60) rfl rfl ?_
    refine wi_callV1 rfl (by decide) (by decide) rfl (kd_134 ..) rfl rfl rfl (c_isSg (c := 60) hT hLd (by decide) (by decide) (z := 0) (congrArg bI (decide_eq_false (fun h9 => hnos h9.1 (by omega)))) ?_)
    refine wi_if_ne rfl (fun h9 => absurd h9 (by decide)) (fun _ => ?_)
    refine wi_aload_n rfl rfl ?_
    refine wi_bipush (x := 62) rfl rfl ?_
    refine wi_callV1 rfl (by decide) (by decide) rfl (kd_134 ..) rfl rfl rfl (c_isSg (c := 62) hT hLd (by decide) (by decide) (z := 0) (congrArg bI (decide_eq_false (fun h9 => hnos h9.1 (by omega)))) ?_)
    refine wi_if_ne rfl (fun h9 => absurd h9 (by decide)) (fun _ => ?_)
    refine wi_aload_n rfl rfl ?_
    refine wi_bipush (x := 61) rfl rfl ?_
    refine wi_callV1 rfl (by decide) (by decide) rfl (kd_134 ..) rfl rfl rfl (c_isSg (c := 61) hT hLd (by decide) (by decide) (z := 0) (congrArg bI (decide_eq_false (fun h9 => hnos h9.1 (by omega)))) ?_)
    refine wi_if_ne rfl (fun h9 => absurd h9 (by decide)) (fun _ => ?_)
    refine wi_aload_n rfl rfl ?_
    refine wi_callV0 rfl (by decide) (by decide) rfl (kd_134 ..) rfl rfl rfl (c_wrong hLd hM.2.1 ?_)
    refine wi_ret rfl ?_
    obtain ⟨rfl, rfl⟩ := wr_run hr hin.1 (Or.inl (by omega)) (fun h1 h2 => (tkS_3 h2 haw).trans (if_neg (fun h9 => hnos h1 h9)))
    exact hF _ _ (by omega) (MF_of hM.1 rfl)
  · obtain ⟨hsN, h2'⟩ := Classical.not_imp.mp hnos
    have hks : kdT T N (rn T N isB S.p) = 60 ∨ kdT T N (rn T N isB S.p) = 62 ∨ kdT T N (rn T N isB S.p) = 61 := Classical.not_not.mp h2'
    have heb := en_b (T := T) hsN
    have h44 := (hLd.2.2 hsN).2.2.2.2 (by omega)
    have h43 := (hLd.2.2 hsN).1
    have ht5 := (hin.2.2.2.2.1 (Or.inl haw)).2
    rw [show S.r - 1 = nr by omega] at ht5
    have hr8 := hin.2.1
    have htw := (hin.2.2.2.2.1 (Or.inl haw)).1
    have htk : tkS T S (rn T N isB S.p) (enT T N (rn T N isB S.p)) (kdT T N (rn T N isB S.p)) = .inr (⟨4, enT T N (rn T N isB S.p), S.r, S.tw, kdT T N (rn T N isB S.p), S.ns, S.nl, S.tc, S.fa, S.fs, S.fn⟩ : rgS) := (tkS_3 (by omega) haw).trans (if_pos hks)
    have ti := tk_inv (fun k _ => hT k) hin hsN htk
    have hM4 : MS T mi0 ml0 nr (⟨4, enT T N (rn T N isB S.p), S.r, S.tw, kdT T N (rn T N isB S.p), S.ns, S.nl, S.tc, S.fa, S.fs, S.fn⟩ : rgS) (u2 (u2 mi 163 (6 * nr + S.tc nr) (Int32.ofNat S.tw)) 164 (6 * nr + S.tc nr) (Int32.ofNat (kdT T N (rn T N isB S.p)))) ml := MS_same hM (fun a a1 a2 => (u2_ne a2).trans (u2_ne a1)) (fun i hi k hk => by
      have h6 := (hin.2.2.2.2.2.2 i hi).1
      have hne : ¬ 6 * i + k = 6 * nr + S.tc nr := fun h9 => by
        have hin' : i = nr := by omega
        subst hin'
        omega
      rw [u2_ne (by decide), u2_off hne, u2_off hne, u2_ne (by decide)]
      exact ⟨rfl, rfl⟩) rfl rfl rfl rfl rfl rfl rfl
    have h163' : (u2 (u2 mi 163 (6 * nr + S.tc nr) (Int32.ofNat S.tw)) 164 (6 * nr + S.tc nr) (Int32.ofNat (kdT T N (rn T N isB S.p)))) 163 (6 * nr + S.tc nr) = Int32.ofNat S.tw := by rw [u2_ne (by decide), u2_same]
    have h164' : (u2 (u2 mi 163 (6 * nr + S.tc nr) (Int32.ofNat S.tw)) 164 (6 * nr + S.tc nr) (Int32.ofNat (kdT T N (rn T N isB S.p)))) 164 (6 * nr + S.tc nr) = Int32.ofNat (kdT T N (rn T N isB S.p)) := u2_same
    rcases hks with hkd | hkd | hkd
    · skip
      refine wi_aload_n rfl rfl ?_
      refine wi_bipush (x := 60) rfl rfl ?_
      refine wi_callV1 rfl (by decide) (by decide) rfl (kd_134 ..) rfl rfl rfl (c_isSg (c := 60) hT hLd (by decide) (by decide) (z := 1) (congrArg bI (decide_eq_true ⟨hsN, hkd⟩)) ?_)
      refine wi_if_ne rfl (fun _ => ?_) (fun h9 => absurd (by decide) h9)
      refine wi_aload_n rfl rfl ?_
      refine wi_getR rfl (kd_134 ..) (rd_134_54 _) ?_
      refine wi_iload_n rfl rfl ?_
      refine wi_iload_n rfl rfl ?_
      refine wn_iastore (q := 6 * nr + S.tc nr) rfl (ln_163 ..) rfl (by omega) (by decide) ?_
      refine wi_aload_n rfl rfl ?_
      refine wi_getR rfl (kd_134 ..) (rd_134_55 _) ?_
      refine wi_iload_n rfl rfl ?_
      refine wi_aload_n rfl rfl ?_
      refine wi_getIv (v := (Int32.ofNat (kdT T N (rn T N isB S.p)))) rfl (kd_134 ..) h44 ?_
      refine wn_iastore (q := 6 * nr + S.tc nr) rfl (ln_164 ..) rfl (by omega) (by decide) ?_
      refine wi_aload_n rfl rfl ?_
      refine wi_callV0 rfl (by decide) (by decide) rfl (kd_134 ..) rfl rfl rfl (c_mnext hN4 hT (by rw [u2_ne (by decide), u2_ne (by decide)]; exact g36) (by rw [u2_ne (by decide), u2_ne (by decide)]; exact g157) (by rw [u2_ne (by decide), u2_ne (by decide)]; exact h43) (p := enT T N (rn T N isB S.p)) heb.2 (fun mi2 ml2 n1 n2 n3 n4 n5 => ?_))
      exact rt_c (S := (⟨4, enT T N (rn T N isB S.p), S.r, S.tw, kdT T N (rn T N isB S.p), S.ns, S.nl, S.tc, S.fa, S.fs, S.fn⟩ : rgS)) hN4 hT b36 b157 ti.1 rfl hnr (MS_nx hM4 n1 n2 n3 n4) n5 (inv_stp hsN htk hr) (by rw [n1 163 (by decide)]; exact h163') (by rw [n1 164 (by decide)]; exact h164') hF (fun S' mi3 ml3 o1 o2 o3 o4 o5 o6 o7 => hO S' mi3 ml3 o1 o2 (by have : enT T N (rn T N isB S.p) < S'.p := o3; omega) o4 o5 o6 o7)
    · skip
      refine wi_aload_n rfl rfl ?_
      refine wi_bipush (x := 60) rfl rfl ?_
      refine wi_callV1 rfl (by decide) (by decide) rfl (kd_134 ..) rfl rfl rfl (c_isSg (c := 60) hT hLd (by decide) (by decide) (z := 0) (congrArg bI (decide_eq_false (fun h9 => by omega))) ?_)
      refine wi_if_ne rfl (fun h9 => absurd h9 (by decide)) (fun _ => ?_)
      refine wi_aload_n rfl rfl ?_
      refine wi_bipush (x := 62) rfl rfl ?_
      refine wi_callV1 rfl (by decide) (by decide) rfl (kd_134 ..) rfl rfl rfl (c_isSg (c := 62) hT hLd (by decide) (by decide) (z := 1) (congrArg bI (decide_eq_true ⟨hsN, hkd⟩)) ?_)
      refine wi_if_ne rfl (fun _ => ?_) (fun h9 => absurd (by decide) h9)
      refine wi_aload_n rfl rfl ?_
      refine wi_getR rfl (kd_134 ..) (rd_134_54 _) ?_
      refine wi_iload_n rfl rfl ?_
      refine wi_iload_n rfl rfl ?_
      refine wn_iastore (q := 6 * nr + S.tc nr) rfl (ln_163 ..) rfl (by omega) (by decide) ?_
      refine wi_aload_n rfl rfl ?_
      refine wi_getR rfl (kd_134 ..) (rd_134_55 _) ?_
      refine wi_iload_n rfl rfl ?_
      refine wi_aload_n rfl rfl ?_
      refine wi_getIv (v := (Int32.ofNat (kdT T N (rn T N isB S.p)))) rfl (kd_134 ..) h44 ?_
      refine wn_iastore (q := 6 * nr + S.tc nr) rfl (ln_164 ..) rfl (by omega) (by decide) ?_
      refine wi_aload_n rfl rfl ?_
      refine wi_callV0 rfl (by decide) (by decide) rfl (kd_134 ..) rfl rfl rfl (c_mnext hN4 hT (by rw [u2_ne (by decide), u2_ne (by decide)]; exact g36) (by rw [u2_ne (by decide), u2_ne (by decide)]; exact g157) (by rw [u2_ne (by decide), u2_ne (by decide)]; exact h43) (p := enT T N (rn T N isB S.p)) heb.2 (fun mi2 ml2 n1 n2 n3 n4 n5 => ?_))
      exact rt_c (S := (⟨4, enT T N (rn T N isB S.p), S.r, S.tw, kdT T N (rn T N isB S.p), S.ns, S.nl, S.tc, S.fa, S.fs, S.fn⟩ : rgS)) hN4 hT b36 b157 ti.1 rfl hnr (MS_nx hM4 n1 n2 n3 n4) n5 (inv_stp hsN htk hr) (by rw [n1 163 (by decide)]; exact h163') (by rw [n1 164 (by decide)]; exact h164') hF (fun S' mi3 ml3 o1 o2 o3 o4 o5 o6 o7 => hO S' mi3 ml3 o1 o2 (by have : enT T N (rn T N isB S.p) < S'.p := o3; omega) o4 o5 o6 o7)
    · skip
      refine wi_aload_n rfl rfl ?_
      refine wi_bipush (x := 60) rfl rfl ?_
      refine wi_callV1 rfl (by decide) (by decide) rfl (kd_134 ..) rfl rfl rfl (c_isSg (c := 60) hT hLd (by decide) (by decide) (z := 0) (congrArg bI (decide_eq_false (fun h9 => by omega))) ?_)
      refine wi_if_ne rfl (fun h9 => absurd h9 (by decide)) (fun _ => ?_)
      refine wi_aload_n rfl rfl ?_
      refine wi_bipush (x := 62) rfl rfl ?_
      refine wi_callV1 rfl (by decide) (by decide) rfl (kd_134 ..) rfl rfl rfl (c_isSg (c := 62) hT hLd (by decide) (by decide) (z := 0) (congrArg bI (decide_eq_false (fun h9 => by omega))) ?_)
      refine wi_if_ne rfl (fun h9 => absurd h9 (by decide)) (fun _ => ?_)
      refine wi_aload_n rfl rfl ?_
      refine wi_bipush (x := 61) rfl rfl ?_
      refine wi_callV1 rfl (by decide) (by decide) rfl (kd_134 ..) rfl rfl rfl (c_isSg (c := 61) hT hLd (by decide) (by decide) (z := 1) (congrArg bI (decide_eq_true ⟨hsN, hkd⟩)) ?_)
      refine wi_if_ne rfl (fun _ => ?_) (fun h9 => absurd (by decide) h9)
      refine wi_aload_n rfl rfl ?_
      refine wi_getR rfl (kd_134 ..) (rd_134_54 _) ?_
      refine wi_iload_n rfl rfl ?_
      refine wi_iload_n rfl rfl ?_
      refine wn_iastore (q := 6 * nr + S.tc nr) rfl (ln_163 ..) rfl (by omega) (by decide) ?_
      refine wi_aload_n rfl rfl ?_
      refine wi_getR rfl (kd_134 ..) (rd_134_55 _) ?_
      refine wi_iload_n rfl rfl ?_
      refine wi_aload_n rfl rfl ?_
      refine wi_getIv (v := (Int32.ofNat (kdT T N (rn T N isB S.p)))) rfl (kd_134 ..) h44 ?_
      refine wn_iastore (q := 6 * nr + S.tc nr) rfl (ln_164 ..) rfl (by omega) (by decide) ?_
      refine wi_aload_n rfl rfl ?_
      refine wi_callV0 rfl (by decide) (by decide) rfl (kd_134 ..) rfl rfl rfl (c_mnext hN4 hT (by rw [u2_ne (by decide), u2_ne (by decide)]; exact g36) (by rw [u2_ne (by decide), u2_ne (by decide)]; exact g157) (by rw [u2_ne (by decide), u2_ne (by decide)]; exact h43) (p := enT T N (rn T N isB S.p)) heb.2 (fun mi2 ml2 n1 n2 n3 n4 n5 => ?_))
      exact rt_c (S := (⟨4, enT T N (rn T N isB S.p), S.r, S.tw, kdT T N (rn T N isB S.p), S.ns, S.nl, S.tc, S.fa, S.fs, S.fn⟩ : rgS)) hN4 hT b36 b157 ti.1 rfl hnr (MS_nx hM4 n1 n2 n3 n4) n5 (inv_stp hsN htk hr) (by rw [n1 163 (by decide)]; exact h163') (by rw [n1 164 (by decide)]; exact h164') hF (fun S' mi3 ml3 o1 o2 o3 o4 o5 o6 o7 => hO S' mi3 ml3 o1 o2 (by have : enT T N (rn T N isB S.p) < S'.p := o3; omega) o4 o5 o6 o7)
theorem c_rdTest {mi0 mi : Nat → Nat → Int32} {ml0 ml : Nat → Nat → Int64} {S E : rgS} {nr fk fp : Nat} (hN4 : N ≤ 400) (hT : ∀ k, T k < 256) (b36 : mi0 134 36 = Int32.ofNat N) (b157 : ∀ k, k < N → mi0 157 k &&& 255 = Int32.ofNat (T k)) (hin : inS T N S) (haw : S.aw = 2) (hnr : S.r = nr + 1) (hM : MS T mi0 ml0 nr S mi ml) (hLd : mLd T N S.p mi ml) (hr : runS T N S fk fp E) (hF : ∀ mi2 ml2, fk ≠ 0 → MF mi0 ml0 fk fp mi2 ml2 → Q none (am_shT, mrL b, mi2, ml2)) (hO : ∀ S' mi2 ml2, S'.aw = 5 → inS T N S' → S.p < S'.p → S'.r = S.r → runS T N S' fk fp E → MS T mi0 ml0 nr S' mi2 ml2 → mLd T N S'.p mi2 ml2 → Q none (am_shT, mrL b, mi2, ml2)) : am_wp X (d + 3) 179 0 [.ref 134, .retAddr 0, .retAddr 0] [] (am_shT, mrL b, mi, ml) Q := by
  have hrb := rn_b (T := T) (N := N) (pr := isB) (p := S.p) hin.1
  have hwk := wrK_p (T := T) (N := N) (p := S.p)
  have g36 : mi 134 36 = Int32.ofNat N := by rw [hM.1.2.1 36 (by decide)]; exact b36
  have g157 : ∀ k, k < N → mi 157 k &&& 255 = Int32.ofNat (T k) := by rw [hM.1.1 157 (by decide) (by decide)]; exact b157
  have htc := (hM.2.2.2 nr (by omega)).1
  have htb := (hin.2.2.2.2.2.2 nr (by omega)).1
  have hr8 := hin.2.1
  rcases hw : (if (rn T N isB S.p) < N ∧ kdT T N (rn T N isB S.p) = 1 then whF (txL T (rn T N isB S.p) (enT T N (rn T N isB S.p) - (rn T N isB S.p))) 8 0 else none) with _ | x
  · have hwn : (rn T N isB S.p) < N → (if kdT T N (rn T N isB S.p) = 1 then whF (txL T (rn T N isB S.p) (enT T N (rn T N isB S.p) - (rn T N isB S.p))) 8 0 else none) = none := fun h1 => by
      by_cases h2 : kdT T N (rn T N isB S.p) = 1
      · rw [if_pos ⟨h1, h2⟩] at hw
        rw [if_pos h2]; exact hw
      · exact if_neg h2
    have hn : ∀ j, j < 8 → tkW T N S.p (wds j) = false := fun j hj => decide_eq_false (fun h9 => by
      have h1 := hwn h9.1
      rw [if_pos h9.2.1] at h1
      exact wh_none 8 0 h1 j (by omega) (by omega) h9.2.2)
    refine wi_aload_n rfl rfl ?_
    refine wi_callV0 rfl (by decide) (by decide) rfl (kd_134 ..) rfl rfl rfl (c_wo0 hLd hn ?_)
    refine wi_istore_n (l' := [.ref 134, .int (-1 : Int32), .retAddr 0]) rfl (Nat.le_of_ble_eq_true rfl) rfl rfl ?_
    refine wi_iload_n rfl rfl ?_
    refine wi_if_ge rfl (fun h9 => absurd h9 (by decide)) (fun _ => ?_)
    refine wi_aload_n rfl rfl ?_
    refine wi_callV0 rfl (by decide) (by decide) rfl (kd_134 ..) rfl rfl rfl (c_wrong hLd hM.2.1 ?_)
    refine wi_ret rfl ?_
    obtain ⟨rfl, rfl⟩ := wr_run hr hin.1 (Or.inl (by omega)) (fun h1 h2 => (tkS_2 h2 haw).trans (tk2_n (hwn h1)))
    exact hF _ _ (by omega) (MF_of hM.1 rfl)
  · have hc : (rn T N isB S.p) < N ∧ kdT T N (rn T N isB S.p) = 1 := by
      by_cases h1 : (rn T N isB S.p) < N ∧ kdT T N (rn T N isB S.p) = 1
      · exact h1
      · rw [if_neg h1] at hw; cases hw
    rw [if_pos hc] at hw
    obtain ⟨hsN, hk1⟩ := hc
    obtain ⟨w1, w2⟩ := wh_some 8 0 x hw
    have hw : (if kdT T N (rn T N isB S.p) = 1 then whF (txL T (rn T N isB S.p) (enT T N (rn T N isB S.p) - (rn T N isB S.p))) 8 0 else none) = some x := by rw [if_pos hk1]; exact hw
    have hx8 : x < 8 := by omega
    have hn : ∀ j, j < x → tkW T N S.p (wds j) = false := fun j hj => decide_eq_false (fun h9 => w2 j (by omega) hj h9.2.2)
    have hy : tkW T N S.p (wds x) = true := decide_eq_true ⟨hsN, hk1, w1.2.2⟩
    have heb := en_b (T := T) hsN
    have h43 := (hLd.2.2 hsN).1
    by_cases hful : S.tc nr = 6
    · skip
      refine wi_aload_n rfl rfl ?_
      refine wi_callV0 rfl (by decide) (by decide) rfl (kd_134 ..) rfl rfl rfl (c_wo1 (x := x) hLd hx8 hn hy ?_)
      refine wi_istore_n (l' := [.ref 134, .int (Int32.ofNat (x)), .retAddr 0]) rfl (Nat.le_of_ble_eq_true rfl) rfl rfl ?_
      refine wi_iload_n rfl rfl ?_
      refine wi_if_ge rfl (fun _ => ?_) (fun h9 => absurd trivial (by exfalso; have h8 := (not_congr (le_n (a := 0) (b := x) (rfl : (0 : Int32) = Int32.ofNat 0) rfl (by omega) (by omega))).mp h9; omega))
      refine wi_aload_n rfl rfl ?_
      refine wi_getR rfl (kd_134 ..) (rd_134_53 _) ?_
      refine wi_aload_n rfl rfl ?_
      refine wi_getIv (v := (Int32.ofNat (nr))) rfl (kd_134 ..) hM.2.2.1 ?_
      refine wn_iaload (q := nr) (v := (Int32.ofNat (S.tc nr))) rfl (ln_162 ..) rfl (by omega) (by decide) (by decide) (by decide) htc ?_
      refine wi_bipush (x := 6) rfl rfl ?_
      refine wi_icmp_ne rfl (fun h9 => absurd trivial (by exfalso; have h8 := (ne_n (a := S.tc nr) (b := 6) rfl (rfl : (6 : Int32) = Int32.ofNat 6) (by omega) (by omega)).mp h9; omega)) (fun _ => ?_)
      refine wi_aload_n rfl rfl ?_
      refine wi_iconst (x := 3) rfl rfl ?_
      refine wi_aload_n rfl rfl ?_
      refine wi_getIv (v := (Int32.ofNat ((rn T N isB S.p)))) rfl (kd_134 ..) hLd.1 ?_
      refine wi_callV2 rfl (by decide) (by decide) rfl (kd_134 ..) rfl rfl rfl ?_
      refine wi_aload_n rfl rfl ?_
      refine wi_getIv (v := (0 : Int32)) rfl (kd_134 ..) hM.2.1 ?_
      refine wi_if_le rfl (fun _ => ?_) (fun h9 => absurd (by decide) h9)
      refine wi_aload_n rfl rfl ?_
      refine wi_iload_n rfl rfl ?_
      refine wi_putI rfl (kd_134 ..) ?_
      refine wi_aload_n rfl rfl ?_
      refine wi_iload_n rfl rfl ?_
      refine wi_putI rfl (kd_134 ..) ?_
      refine wi_ret rfl ?_
      refine wi_aload_n rfl rfl ?_
      refine wi_getIv (v := (3 : Int32)) rfl (kd_134 ..) rfl ?_
      refine wi_if_le rfl (fun h9 => absurd h9 (by decide)) (fun _ => ?_)
      refine wi_ret rfl ?_
      obtain ⟨rfl, rfl⟩ := inv_bad hsN ((tkS_2 (by omega) haw).trans (tk2_f hw (by rw [show S.r - 1 = nr by omega]; omega))) hr
      exact hF _ _ (by decide) (MF_of hM.1 rfl)
    · have htk : tkS T S (rn T N isB S.p) (enT T N (rn T N isB S.p)) (kdT T N (rn T N isB S.p)) = .inr (⟨3, enT T N (rn T N isB S.p), S.r, x, S.ts, S.ns, S.nl, S.tc, S.fa, S.fs, S.fn⟩ : rgS) := (tkS_2 (by omega) haw).trans (tk2_s hw (by rw [show S.r - 1 = nr by omega]; omega))
      have ti := tk_inv (fun k _ => hT k) hin hsN htk
      have hM3 : MS T mi0 ml0 nr (⟨3, enT T N (rn T N isB S.p), S.r, x, S.ts, S.ns, S.nl, S.tc, S.fa, S.fs, S.fn⟩ : rgS) mi ml := MS_same hM (fun _ _ _ => rfl) (fun _ _ _ _ => ⟨rfl, rfl⟩) rfl rfl rfl rfl rfl rfl rfl
      refine wi_aload_n rfl rfl ?_
      refine wi_callV0 rfl (by decide) (by decide) rfl (kd_134 ..) rfl rfl rfl (c_wo1 (x := x) hLd hx8 hn hy ?_)
      refine wi_istore_n (l' := [.ref 134, .int (Int32.ofNat (x)), .retAddr 0]) rfl (Nat.le_of_ble_eq_true rfl) rfl rfl ?_
      refine wi_iload_n rfl rfl ?_
      refine wi_if_ge rfl (fun _ => ?_) (fun h9 => absurd trivial (by exfalso; have h8 := (not_congr (le_n (a := 0) (b := x) (rfl : (0 : Int32) = Int32.ofNat 0) rfl (by omega) (by omega))).mp h9; omega))
      refine wi_aload_n rfl rfl ?_
      refine wi_getR rfl (kd_134 ..) (rd_134_53 _) ?_
      refine wi_aload_n rfl rfl ?_
      refine wi_getIv (v := (Int32.ofNat (nr))) rfl (kd_134 ..) hM.2.2.1 ?_
      refine wn_iaload (q := nr) (v := (Int32.ofNat (S.tc nr))) rfl (ln_162 ..) rfl (by omega) (by decide) (by decide) (by decide) htc ?_
      refine wi_bipush (x := 6) rfl rfl ?_
      refine wi_icmp_ne rfl (fun _ => ?_) (fun h9 => absurd trivial (by exfalso; have h8 := (not_congr (ne_n (a := S.tc nr) (b := 6) rfl (rfl : (6 : Int32) = Int32.ofNat 6) (by omega) (by omega))).mp h9; omega))
      refine wi_aload_n rfl rfl ?_
      refine wi_getIv (v := (0 : Int32)) rfl (kd_134 ..) hM.2.1 ?_
      refine wi_if_le rfl (fun _ => ?_) (fun h9 => absurd (by decide) h9)
      refine wi_bipush (x := 6) rfl rfl ?_
      refine wi_aload_n rfl rfl ?_
      refine wi_getIv (v := (Int32.ofNat (nr))) rfl (kd_134 ..) hM.2.2.1 ?_
      refine wn_imul (z := (Int32.ofNat (6 * nr))) rfl (mul_n (a := 6) (b := nr) (rfl : (6 : Int32) = Int32.ofNat 6) rfl) ?_
      refine wi_aload_n rfl rfl ?_
      refine wi_getR rfl (kd_134 ..) (rd_134_53 _) ?_
      refine wi_aload_n rfl rfl ?_
      refine wi_getIv (v := (Int32.ofNat (nr))) rfl (kd_134 ..) hM.2.2.1 ?_
      refine wn_iaload (q := nr) (v := (Int32.ofNat (S.tc nr))) rfl (ln_162 ..) rfl (by omega) (by decide) (by decide) (by decide) htc ?_
      refine wn_iadd (z := (Int32.ofNat (6 * nr + S.tc nr))) rfl (add_n (a := 6 * nr) (b := S.tc nr) rfl rfl) ?_
      refine wi_istore_n (l' := [.ref 134, .int (Int32.ofNat (x)), .int (Int32.ofNat (6 * nr + S.tc nr))]) rfl (Nat.le_of_ble_eq_true rfl) rfl rfl ?_
      refine wi_aload_n rfl rfl ?_
      refine wi_callV0 rfl (by decide) (by decide) rfl (kd_134 ..) rfl rfl rfl (c_mnext hN4 hT g36 g157 h43 (p := enT T N (rn T N isB S.p)) heb.2 (fun mi2 ml2 n1 n2 n3 n4 n5 => ?_))
      exact rt_b (S := (⟨3, enT T N (rn T N isB S.p), S.r, x, S.ts, S.ns, S.nl, S.tc, S.fa, S.fs, S.fn⟩ : rgS)) hN4 hT b36 b157 ti.1 rfl hnr (MS_nx hM3 n1 n2 n3 n4) n5 (inv_stp hsN htk hr) hF (fun S' mi3 ml3 o1 o2 o3 o4 o5 o6 o7 => hO S' mi3 ml3 o1 o2 (by have : enT T N (rn T N isB S.p) < S'.p := o3; omega) o4 o5 o6 o7)
theorem run_k {S E : rgS} {fk fp : Nat} (h : runS T N S fk fp E) : fk < 2147483648 := h (fun _ fk _ _ => fk < 2147483648) ⟨fun _ _ _ => (show (0 : Nat) < 2147483648 by decide), fun _ _ _ => (show (2 : Nat) < 2147483648 by decide), fun _ _ _ h2 => tk_k h2, fun _ _ _ _ _ _ _ h3 => h3⟩
theorem MS_up {mi0 mi : Nat → Nat → Int32} {ml0 ml : Nat → Nat → Int64} {nr v : Nat} {S : rgS} (h : MS T mi0 ml0 nr S mi ml) : MS T mi0 ml0 v S (u2 mi 134 48 (Int32.ofNat v)) ml := by
  obtain ⟨⟨f1, f2, f3, f4⟩, g1, g2, g3⟩ := h
  refine ⟨⟨fun a a1 a2 => (u2_ne a1).trans (f1 a a1 a2), fun j hj => (u2_off (by omega)).trans (f2 j hj), f3, f4⟩, (u2_off (by decide)).trans g1, u2_same, fun i hi => ?_⟩
  rw [u2_ne (by decide), u2_ne (by decide), u2_ne (by decide), u2_ne (by decide)]
  exact g3 i hi
theorem mLd_u {mi : Nat → Nat → Int32} {ml : Nat → Nat → Int64} {p : Nat} {v : Int32} (h : mLd T N p mi ml) : mLd T N p (u2 mi 134 48 v) ml := by
  unfold mLd at h ⊢
  rw [u2_off (show (42 : Nat) ≠ 48 by decide), u2_off (show (41 : Nat) ≠ 48 by decide), u2_off (show (43 : Nat) ≠ 48 by decide), u2_off (show (45 : Nat) ≠ 48 by decide), u2_off (show (44 : Nat) ≠ 48 by decide)]
  exact h
theorem MS_name {mi0 mi : Nat → Nat → Int32} {ml0 ml : Nat → Nat → Int64} {nr e s n : Nat} {S : rgS} (h : MS T mi0 ml0 nr S mi ml) (hr : S.r = nr) : MS T mi0 ml0 nr ⟨1, e, S.r + 1, S.tw, S.ts, up1 S.ns S.r s, up1 S.nl S.r n, up1 S.tc S.r 0, S.fa, S.fs, S.fn⟩ (u2 mi 162 nr 0) (u2 ml 166 nr (Int64.ofNat (cdN T s n))) := by
  obtain ⟨⟨f1, f2, f3, f4⟩, g1, g2, g3⟩ := h
  refine ⟨⟨fun a a1 a2 => (u2_ne (by omega)).trans (f1 a a1 a2), fun j hj => by rw [u2_ne (by decide)]; exact f2 j hj, fun a a1 a2 => (u2_ne a2).trans (f3 a a1 a2), fun j hj => by rw [u2_ne (by decide)]; exact f4 j hj⟩, by rw [u2_ne (by decide)]; exact g1, by rw [u2_ne (by decide)]; exact g2, fun i hi => ?_⟩
  have hi : i < S.r + 1 := hi
  rw [u2_rd, u2_rd, u2_ne (by decide), u2_ne (by decide), u2_ne (by decide)]
  show _ = Int32.ofNat (up1 S.tc S.r 0 i) ∧ _ = Int64.ofNat (cdN T (up1 S.ns S.r s i) (up1 S.nl S.r n i)) ∧ ∀ k, k < up1 S.tc S.r 0 i → _
  unfold up1
  rw [hr]
  by_cases hir : i = nr
  · simp only [if_pos hir]
    exact ⟨rfl, trivial, fun k hk => by omega⟩
  · simp only [if_neg hir]
    exact g3 i (by omega)
theorem cd_tx {a s n m : Nat} (h : txL T a n = txL T s m) : cdN T a n = cdN T s m := by
  obtain ⟨h1, h2⟩ := tx_iff.mp h
  rw [tx_len] at h1
  subst h1
  have : ∀ k, k ≤ n → cdN T a k = cdN T s k := by
    intro k
    induction k with
    | zero => intro _; rfl
    | succ k ih =>
      intro hk
      have h3 := h2 k (by omega)
      rw [tx_get (by omega)] at h3
      show cdN T a k * 32 + (T (a + k) - 96) = cdN T s k * 32 + (T (s + k) - 96)
      rw [ih (by omega), h3]
  exact this n (Nat.le_refl _)
theorem kn_cd {S : rgS} {s n i : Nat} (h1 : ∀ k, k < S.nl i → isL (T (S.ns i + k)) = true) (h2 : ∀ k, k < n → isL (T (s + k)) = true) : knw T S s n i = true ↔ cdN T (S.ns i) (S.nl i) = cdN T s n := by
  unfold knw
  rw [decide_eq_true_iff]
  refine ⟨cd_tx, fun h => ?_⟩
  obtain ⟨h3, h4⟩ := cd_inj _ _ _ _ h1 h2 h
  rw [tx_iff, tx_len]
  exact ⟨h3, fun k hk => by rw [h4 k hk, tx_get (by omega)]⟩
theorem any_ex {f : Nat → Bool} : ∀ n, anyB f n = true → ∃ i, i < n ∧ f i = true := by
  intro n
  induction n with
  | zero => intro h; cases h
  | succ n ih =>
    intro h
    have h1 : (anyB f n || f n) = true := h
    rw [Bool.or_eq_true] at h1
    rcases h1 with h1 | h1
    · obtain ⟨i, h2, h3⟩ := ih h1
      exact ⟨i, by omega, h3⟩
    · exact ⟨n, by omega, h1⟩
theorem rr_loop {mi0 : Nat → Nat → Int32} {ml0 : Nat → Nat → Int64} {E : rgS} {nr fk fp : Nat} (hN4 : N ≤ 400) (hT : ∀ k, T k < 256) (b36 : mi0 134 36 = Int32.ofNat N) (b157 : ∀ k, k < N → mi0 157 k &&& 255 = Int32.ofNat (T k)) : ∀ z (S : rgS) (mi : Nat → Nat → Int32) (ml : Nat → Nat → Int64) (Q : Option Value → am_M → Prop), N - S.p < z → inS T N S → S.aw = 2 → S.r = nr + 1 → MS T mi0 ml0 nr S mi ml → mi 134 43 = Int32.ofNat S.p → runS T N S fk fp E → (∀ mi2 ml2, fk ≠ 0 → MF mi0 ml0 fk fp mi2 ml2 → Q none (am_shT, mrL b, mi2, ml2)) → (∀ S' mi2 ml2, S'.aw = 0 → inS T N S' → S.p < S'.p → S'.r = nr + 1 → runS T N S' fk fp E → MS T mi0 ml0 (nr + 1) S' mi2 ml2 → mLd T N S'.p mi2 ml2 → Q none (am_shT, mrL b, mi2, ml2)) → am_wp X (d + 4) 180 74 [.ref 134, .int 1] [] (am_shT, mrL b, mi, ml) Q := by
  intro z
  induction z with
  | zero => intro S mi ml Q hz; omega
  | succ z ih =>
    intro S mi ml Q hz hin haw hnr hM h43 hr hF hO
    have hfk := run_k hr
    have g36 : mi 134 36 = Int32.ofNat N := by rw [hM.1.2.1 36 (by decide)]; exact b36
    have g157 : ∀ k, k < N → mi 157 k &&& 255 = Int32.ofNat (T k) := by rw [hM.1.1 157 (by decide) (by decide)]; exact b157
    refine wi_iload_n rfl rfl ?_
    refine wi_if_eq rfl (fun h9 => absurd h9 (by decide)) (fun _ => ?_)
    refine wi_aload_n rfl rfl ?_
    refine wi_getIv (v := (0 : Int32)) rfl (kd_134 ..) hM.2.1 ?_
    refine wi_if_ne rfl (fun h9 => absurd h9 (by decide)) (fun _ => ?_)
    refine wi_aload_n rfl rfl ?_
    refine wi_callV0 rfl (by decide) (by decide) rfl (kd_134 ..) rfl rfl rfl (c_mnext hN4 hT g36 g157 h43 (p := S.p) hin.1 (fun mi2 ml2 n1 n2 n3 n4 n5 => ?_))
    refine wi_aload_n rfl rfl ?_
    refine wi_callV0 rfl (by decide) (by decide) rfl (kd_134 ..) rfl rfl rfl (c_rdTest hN4 hT b36 b157 hin haw hnr (MS_nx hM n1 n2 n3 n4) n5 hr (fun mi3 ml3 f1 f2 => ?_) (fun S1 mi3 ml3 o1 o2 o3 o4 o5 o6 o7 => ?_))
    · skip
      refine wi_aload_n rfl rfl ?_
      refine wi_getIv (v := (Int32.ofNat (fk))) rfl (kd_134 ..) f2.2.1 ?_
      refine wi_if_ne rfl (fun _ => ?_) (fun h9 => absurd trivial (by exfalso; have h8 := (not_congr (ne_n (a := fk) (b := 0) rfl (rfl : (0 : Int32) = Int32.ofNat 0) (by omega) (by omega))).mp h9; omega))
      refine wi_iconst (x := 0) rfl rfl ?_
      refine wi_istore_n (l' := [.ref 134, .int (0 : Int32)]) rfl (Nat.le_of_ble_eq_true rfl) rfl rfl ?_
      refine wi_goto rfl ?_
      refine wi_iload_n rfl rfl ?_
      refine wi_if_eq rfl (fun _ => ?_) (fun h9 => absurd (by decide) h9)
      refine wi_aload_n rfl rfl ?_
      refine wi_getIv (v := (Int32.ofNat (fk))) rfl (kd_134 ..) f2.2.1 ?_
      refine wi_if_ne rfl (fun _ => ?_) (fun h9 => absurd trivial (by exfalso; have h8 := (not_congr (ne_n (a := fk) (b := 0) rfl (rfl : (0 : Int32) = Int32.ofNat 0) (by omega) (by omega))).mp h9; omega))
      refine wi_aload_n rfl rfl ?_
      refine wi_getIv (v := (Int32.ofNat (fk))) rfl (kd_134 ..) f2.2.1 ?_
      refine wi_if_le rfl (fun h9 => absurd trivial (by exfalso; have h8 := (le_n (a := fk) (b := 0) rfl (rfl : (0 : Int32) = Int32.ofNat 0) (by omega) (by omega)).mp h9; omega)) (fun _ => ?_)
      refine wi_ret rfl ?_
      exact hF _ _ f1 f2
    · have hrb := rn_b (T := T) (N := N) (pr := isB) (p := S1.p) o2.1
      have hwk := wrK_p (T := T) (N := N) (p := S1.p)
      have hr8 := o2.2.1
      cases han : tkW T N S1.p wAnd
      · by_cases hns : (rn T N isB S1.p) < N → ¬ kdT T N (rn T N isB S1.p) = 59
        · skip
          refine wi_aload_n rfl rfl ?_
          refine wi_getIv (v := (0 : Int32)) rfl (kd_134 ..) o6.2.1 ?_
          refine wi_if_ne rfl (fun h9 => absurd h9 (by decide)) (fun _ => ?_)
          refine wi_aload_n rfl rfl ?_
          refine wi_bipush (x := 97) rfl rfl ?_
          refine wi_bipush (x := 110) rfl rfl ?_
          refine wi_bipush (x := 100) rfl rfl ?_
          refine wi_iconst (x := 0) rfl rfl ?_
          refine wi_iconst (x := 0) rfl rfl ?_
          refine wi_iconst (x := 0) rfl rfl ?_
          refine wi_callS6 rfl (by decide) (by decide) rfl rfl rfl (c_sp9 ?_)
          refine wi_callV1 rfl (by decide) (by decide) rfl (kd_134 ..) rfl rfl rfl (c_isWz (p := S1.p) (l := wAnd) o7 wl_ok.2.1 (by decide) (by decide) (by decide) (z := 0) (congrArg bI han) ?_)
          refine wi_if_eq rfl (fun _ => ?_) (fun h9 => absurd (by decide) h9)
          refine wi_iconst (x := 0) rfl rfl ?_
          refine wi_istore_n (l' := [.ref 134, .int (0 : Int32)]) rfl (Nat.le_of_ble_eq_true rfl) rfl rfl ?_
          refine wi_goto rfl ?_
          refine wi_iload_n rfl rfl ?_
          refine wi_if_eq rfl (fun _ => ?_) (fun h9 => absurd (by decide) h9)
          refine wi_aload_n rfl rfl ?_
          refine wi_getIv (v := (0 : Int32)) rfl (kd_134 ..) o6.2.1 ?_
          refine wi_if_ne rfl (fun h9 => absurd h9 (by decide)) (fun _ => ?_)
          refine wi_aload_n rfl rfl ?_
          refine wi_bipush (x := 59) rfl rfl ?_
          refine wi_callV1 rfl (by decide) (by decide) rfl (kd_134 ..) rfl rfl rfl (c_isSg (c := 59) hT o7 (by decide) (by decide) (z := 0) (congrArg bI (decide_eq_false (fun h9 => hns h9.1 h9.2))) ?_)
          refine wi_if_ne rfl (fun h9 => absurd h9 (by decide)) (fun _ => ?_)
          refine wi_aload_n rfl rfl ?_
          refine wi_callV0 rfl (by decide) (by decide) rfl (kd_134 ..) rfl rfl rfl (c_wrong o7 o6.2.1 ?_)
          refine wi_aload_n rfl rfl ?_
          refine wi_getIv (v := (Int32.ofNat (wrK T N S1.p))) rfl (kd_134 ..) rfl ?_
          refine wi_if_le rfl (fun h9 => absurd trivial (by exfalso; have h8 := (le_n (a := wrK T N S1.p) (b := 0) rfl (rfl : (0 : Int32) = Int32.ofNat 0) (by omega) (by omega)).mp h9; omega)) (fun _ => ?_)
          refine wi_ret rfl ?_
          obtain ⟨rfl, rfl⟩ := wr_run o5 o2.1 (Or.inl (by omega)) (fun h1 h2 => (tkS_5 h2 o1).trans ((if_neg (hns h1)).trans (if_neg (fun h9 => by have h8 := of_decide_eq_false han; exact h8 ⟨h1, h9.1, h9.2⟩))))
          exact hF _ _ (by omega) (MF_of o6.1 rfl)
        · obtain ⟨hsN, h2'⟩ := Classical.not_imp.mp hns
          have hk : kdT T N (rn T N isB S1.p) = 59 := Classical.not_not.mp h2'
          have heb := en_b (T := T) hsN
          have htk : tkS T S1 (rn T N isB S1.p) (enT T N (rn T N isB S1.p)) (kdT T N (rn T N isB S1.p)) = .inr (⟨0, enT T N (rn T N isB S1.p), S1.r, S1.tw, S1.ts, S1.ns, S1.nl, S1.tc, S1.fa, S1.fs, S1.fn⟩ : rgS) := (tkS_5 (by omega) o1).trans (if_pos hk)
          have ti := tk_inv (fun k _ => hT k) o2 hsN htk
          have hM0 : MS T mi0 ml0 nr (⟨0, enT T N (rn T N isB S1.p), S1.r, S1.tw, S1.ts, S1.ns, S1.nl, S1.tc, S1.fa, S1.fs, S1.fn⟩ : rgS) mi3 ml3 := MS_same o6 (fun _ _ _ => rfl) (fun _ _ _ _ => ⟨rfl, rfl⟩) rfl rfl rfl rfl rfl rfl rfl
          refine wi_aload_n rfl rfl ?_
          refine wi_getIv (v := (0 : Int32)) rfl (kd_134 ..) o6.2.1 ?_
          refine wi_if_ne rfl (fun h9 => absurd h9 (by decide)) (fun _ => ?_)
          refine wi_aload_n rfl rfl ?_
          refine wi_bipush (x := 97) rfl rfl ?_
          refine wi_bipush (x := 110) rfl rfl ?_
          refine wi_bipush (x := 100) rfl rfl ?_
          refine wi_iconst (x := 0) rfl rfl ?_
          refine wi_iconst (x := 0) rfl rfl ?_
          refine wi_iconst (x := 0) rfl rfl ?_
          refine wi_callS6 rfl (by decide) (by decide) rfl rfl rfl (c_sp9 ?_)
          refine wi_callV1 rfl (by decide) (by decide) rfl (kd_134 ..) rfl rfl rfl (c_isWz (p := S1.p) (l := wAnd) o7 wl_ok.2.1 (by decide) (by decide) (by decide) (z := 0) (congrArg bI han) ?_)
          refine wi_if_eq rfl (fun _ => ?_) (fun h9 => absurd (by decide) h9)
          refine wi_iconst (x := 0) rfl rfl ?_
          refine wi_istore_n (l' := [.ref 134, .int (0 : Int32)]) rfl (Nat.le_of_ble_eq_true rfl) rfl rfl ?_
          refine wi_goto rfl ?_
          refine wi_iload_n rfl rfl ?_
          refine wi_if_eq rfl (fun _ => ?_) (fun h9 => absurd (by decide) h9)
          refine wi_aload_n rfl rfl ?_
          refine wi_getIv (v := (0 : Int32)) rfl (kd_134 ..) o6.2.1 ?_
          refine wi_if_ne rfl (fun h9 => absurd h9 (by decide)) (fun _ => ?_)
          refine wi_aload_n rfl rfl ?_
          refine wi_bipush (x := 59) rfl rfl ?_
          refine wi_callV1 rfl (by decide) (by decide) rfl (kd_134 ..) rfl rfl rfl (c_isSg (c := 59) hT o7 (by decide) (by decide) (z := 1) (congrArg bI (decide_eq_true ⟨hsN, hk⟩)) ?_)
          refine wi_if_ne rfl (fun _ => ?_) (fun h9 => absurd (by decide) h9)
          refine wi_aload_n rfl rfl ?_
          refine wi_getIv (v := (0 : Int32)) rfl (kd_134 ..) o6.2.1 ?_
          refine wi_if_le rfl (fun _ => ?_) (fun h9 => absurd (by decide) h9)
          refine wi_aload_n rfl rfl ?_
          refine wi_callV0 rfl (by decide) (by decide) rfl (kd_134 ..) rfl rfl rfl (c_mnext hN4 hT (by rw [o6.1.2.1 36 (by decide)]; exact b36) (by rw [o6.1.1 157 (by decide) (by decide)]; exact b157) (o7.2.2 hsN).1 (p := enT T N (rn T N isB S1.p)) heb.2 (fun mi4 ml4 n1 n2 n3 n4 n5 => ?_))
          refine wi_aload_n rfl rfl ?_
          refine wi_dup rfl rfl ?_
          refine wi_getIv (v := Int32.ofNat nr) rfl (kd_134 ..) (by rw [n2 48 (by decide)]; exact o6.2.2.1) ?_
          refine wi_iconst (x := 1) rfl rfl ?_
          refine wn_iadd (z := (Int32.ofNat (nr + 1))) rfl (add_n (a := nr) (b := 1) rfl (rfl : (1 : Int32) = Int32.ofNat 1)) ?_
          refine wi_putI rfl (kd_134 ..) ?_
          refine wi_ret rfl ?_
          refine hO (⟨0, enT T N (rn T N isB S1.p), S1.r, S1.tw, S1.ts, S1.ns, S1.nl, S1.tc, S1.fa, S1.fs, S1.fn⟩ : rgS) _ _ rfl ti.1 (by show S.p < enT T N (rn T N isB S1.p); omega) (o4.trans hnr) (inv_stp hsN htk o5) (MS_up (MS_nx hM0 n1 n2 n3 n4)) (mLd_u n5)
      · obtain ⟨hsN, hk1, htx⟩ := of_decide_eq_true han
        have heb := en_b (T := T) hsN
        have hlt : S1.p < enT T N (rn T N isB S1.p) := by omega
        have htk : tkS T S1 (rn T N isB S1.p) (enT T N (rn T N isB S1.p)) (kdT T N (rn T N isB S1.p)) = .inr (⟨2, enT T N (rn T N isB S1.p), S1.r, S1.tw, S1.ts, S1.ns, S1.nl, S1.tc, S1.fa, S1.fs, S1.fn⟩ : rgS) := (tkS_5 (by omega) o1).trans ((if_neg (by omega)).trans (if_pos ⟨hk1, htx⟩))
        have ti := tk_inv (fun k _ => hT k) o2 hsN htk
        refine wi_aload_n rfl rfl ?_
        refine wi_getIv (v := (0 : Int32)) rfl (kd_134 ..) o6.2.1 ?_
        refine wi_if_ne rfl (fun h9 => absurd h9 (by decide)) (fun _ => ?_)
        refine wi_aload_n rfl rfl ?_
        refine wi_bipush (x := 97) rfl rfl ?_
        refine wi_bipush (x := 110) rfl rfl ?_
        refine wi_bipush (x := 100) rfl rfl ?_
        refine wi_iconst (x := 0) rfl rfl ?_
        refine wi_iconst (x := 0) rfl rfl ?_
        refine wi_iconst (x := 0) rfl rfl ?_
        refine wi_callS6 rfl (by decide) (by decide) rfl rfl rfl (c_sp9 ?_)
        refine wi_callV1 rfl (by decide) (by decide) rfl (kd_134 ..) rfl rfl rfl (c_isWz (p := S1.p) (l := wAnd) o7 wl_ok.2.1 (by decide) (by decide) (by decide) (z := 1) (congrArg bI han) ?_)
        refine wi_if_eq rfl (fun h9 => absurd h9 (by decide)) (fun _ => ?_)
        refine wi_iconst (x := 1) rfl rfl ?_
        refine wi_goto rfl ?_
        refine wi_istore_n (l' := [.ref 134, .int (1 : Int32)]) rfl (Nat.le_of_ble_eq_true rfl) rfl rfl ?_
        refine wi_goto rfl ?_
        exact ih (⟨2, enT T N (rn T N isB S1.p), S1.r, S1.tw, S1.ts, S1.ns, S1.nl, S1.tc, S1.fa, S1.fs, S1.fn⟩ : rgS) mi3 ml3 Q (by have : S1.p < enT T N (rn T N isB S1.p) := hlt; show N - enT T N (rn T N isB S1.p) < z; omega) ti.1 rfl (o4.trans hnr) (MS_same o6 (fun _ _ _ => rfl) (fun _ _ _ _ => ⟨rfl, rfl⟩) rfl rfl rfl rfl rfl rfl rfl) ((o7.2.2 hsN).1) (inv_stp hsN htk o5) hF (fun S' mi4 ml4 p1 p2 p3 p4 p5 p6 p7 => hO S' mi4 ml4 p1 p2 (by have : enT T N (rn T N isB S1.p) < S'.p := p3; omega) p4 p5 p6 p7)
theorem nm_pos {mi : Nat → Nat → Int32} {ml : Nat → Nat → Int64} {A9 : Nat → Nat} {nr s c9 : Nat} {bd : Nat} (hnr8 : nr ≤ 8) (h48 : mi 134 48 = Int32.ofNat nr) (h42 : mi 134 42 = Int32.ofNat s) (h166 : ∀ k, k < nr → ml 166 k = Int64.ofNat (A9 k) ∧ A9 k < 1152921504606846976) (h46 : ml 134 46 = Int64.ofNat c9) (hc9 : c9 < 1152921504606846976) (h39 : mi 134 39 = Int32.ofNat bd) (hbd : 1 ≤ bd) (hbd2 : bd ≤ 4) (hQ : am_wp X (d + 4) 180 41 [.ref 134, .int (Int32.ofNat (nr))] [] (am_shT, mrL b, mi, ml) Q) : ∀ r i, i + r = nr → am_wp X (d + 4) 180 22 [.ref 134, .int (Int32.ofNat (i))] [] (am_shT, mrL b, mi, ml) Q := by
  intro r
  induction r with
  | zero =>
    intro i hi
    refine wi_iload_n rfl rfl ?_
    refine wi_aload_n rfl rfl ?_
    refine wi_getIv (v := (Int32.ofNat (nr))) rfl (kd_134 ..) h48 ?_
    refine wi_icmp_ge rfl (fun _ => ?_) (fun h9 => absurd trivial (by exfalso; have h8 := (not_congr (le_n (a := nr) (b := i) rfl rfl (by omega) (by omega))).mp h9; omega))
    obtain rfl : i = nr := by omega
    exact hQ
  | succ r ih =>
    intro i hi
    have q1 := h166 i (by omega)
    refine wi_iload_n rfl rfl ?_
    refine wi_aload_n rfl rfl ?_
    refine wi_getIv (v := (Int32.ofNat (nr))) rfl (kd_134 ..) h48 ?_
    refine wi_icmp_ge rfl (fun h9 => absurd trivial (by exfalso; have h8 := (le_n (a := nr) (b := i) rfl rfl (by omega) (by omega)).mp h9; omega)) (fun _ => ?_)
    refine wi_aload_n rfl rfl ?_
    refine wi_getR rfl (kd_134 ..) (rd_134_57 _) ?_
    refine wi_iload_n rfl rfl ?_
    refine wn_laload (q := i) (lv := (Int64.ofNat (A9 i))) rfl (ln_166 ..) rfl (by omega) (by decide) q1.1 ?_
    refine wi_aload_n rfl rfl ?_
    refine wi_getLv (lv := (Int64.ofNat (c9))) rfl (kd_134 ..) h46 ?_
    refine wi_lcmp rfl ?_
    refine wi_if_ne rfl (fun g1 => ?_) (fun g1 => ?_)
    · replace g1 := (lc_ne (a := A9 i) (b := c9) rfl rfl (by omega) (by omega)).mp g1
      refine wi_iinc (z := (Int32.ofNat (i + 1))) rfl rfl rfl (add_n (a := i) (b := 1) rfl rfl) rfl ?_
      refine wi_goto rfl ?_
      exact ih (i + 1) (by omega)
    · replace g1 := (not_congr (lc_ne (a := A9 i) (b := c9) rfl rfl (by omega) (by omega))).mp g1
      refine wi_aload_n rfl rfl ?_
      refine wi_iconst (x := 4) rfl rfl ?_
      refine wi_aload_n rfl rfl ?_
      refine wi_getIv (v := (Int32.ofNat (s))) rfl (kd_134 ..) h42 ?_
      refine wi_callV2 rfl (by decide) (by decide) rfl (kd_134 ..) rfl rfl rfl ?_
      refine wi_aload_n rfl rfl ?_
      refine wi_getIv (v := (Int32.ofNat (bd))) rfl (kd_134 ..) h39 ?_
      refine wi_if_le rfl (fun h9 => absurd trivial (by exfalso; have h8 := (le_n (a := bd) (b := 0) rfl (rfl : (0 : Int32) = Int32.ofNat 0) (by omega) (by omega)).mp h9; omega)) (fun _ => ?_)
      refine wi_ret rfl ?_
      refine wi_iinc (z := (Int32.ofNat (i + 1))) rfl rfl rfl (add_n (a := i) (b := 1) rfl rfl) rfl ?_
      refine wi_goto rfl ?_
      exact ih (i + 1) (by omega)
theorem nm_no {mi : Nat → Nat → Int32} {ml : Nat → Nat → Int64} {A9 : Nat → Nat} {nr s c9 : Nat} (hnr8 : nr ≤ 8) (h48 : mi 134 48 = Int32.ofNat nr) (h42 : mi 134 42 = Int32.ofNat s) (h166 : ∀ k, k < nr → ml 166 k = Int64.ofNat (A9 k) ∧ A9 k < 1152921504606846976) (h46 : ml 134 46 = Int64.ofNat c9) (hc9 : c9 < 1152921504606846976) (h39 : mi 134 39 = 0) (hne : ∀ k, k < nr → ¬ A9 k = c9) (hQ : am_wp X (d + 4) 180 41 [.ref 134, .int (Int32.ofNat (nr))] [] (am_shT, mrL b, mi, ml) Q) : ∀ r i, i + r = nr → am_wp X (d + 4) 180 22 [.ref 134, .int (Int32.ofNat (i))] [] (am_shT, mrL b, mi, ml) Q := by
  intro r
  induction r with
  | zero =>
    intro i hi
    refine wi_iload_n rfl rfl ?_
    refine wi_aload_n rfl rfl ?_
    refine wi_getIv (v := (Int32.ofNat (nr))) rfl (kd_134 ..) h48 ?_
    refine wi_icmp_ge rfl (fun _ => ?_) (fun h9 => absurd trivial (by exfalso; have h8 := (not_congr (le_n (a := nr) (b := i) rfl rfl (by omega) (by omega))).mp h9; omega))
    obtain rfl : i = nr := by omega
    exact hQ
  | succ r ih =>
    intro i hi
    have q1 := h166 i (by omega)
    have q2 := hne i (by omega)
    refine wi_iload_n rfl rfl ?_
    refine wi_aload_n rfl rfl ?_
    refine wi_getIv (v := (Int32.ofNat (nr))) rfl (kd_134 ..) h48 ?_
    refine wi_icmp_ge rfl (fun h9 => absurd trivial (by exfalso; have h8 := (le_n (a := nr) (b := i) rfl rfl (by omega) (by omega)).mp h9; omega)) (fun _ => ?_)
    refine wi_aload_n rfl rfl ?_
    refine wi_getR rfl (kd_134 ..) (rd_134_57 _) ?_
    refine wi_iload_n rfl rfl ?_
    refine wn_laload (q := i) (lv := (Int64.ofNat (A9 i))) rfl (ln_166 ..) rfl (by omega) (by decide) q1.1 ?_
    refine wi_aload_n rfl rfl ?_
    refine wi_getLv (lv := (Int64.ofNat (c9))) rfl (kd_134 ..) h46 ?_
    refine wi_lcmp rfl ?_
    refine wi_if_ne rfl (fun _ => ?_) (fun h9 => absurd trivial (by exfalso; have h8 := (not_congr (lc_ne (a := A9 i) (b := c9) rfl rfl (by omega) (by omega))).mp h9; omega))
    refine wi_iinc (z := (Int32.ofNat (i + 1))) rfl rfl rfl (add_n (a := i) (b := 1) rfl rfl) rfl ?_
    refine wi_goto rfl ?_
    exact ih (i + 1) (by omega)
theorem nm_yes {mi : Nat → Nat → Int32} {ml : Nat → Nat → Int64} {A9 : Nat → Nat} {nr s c9 : Nat} (hnr8 : nr ≤ 8) (h48 : mi 134 48 = Int32.ofNat nr) (h42 : mi 134 42 = Int32.ofNat s) (h166 : ∀ k, k < nr → ml 166 k = Int64.ofNat (A9 k) ∧ A9 k < 1152921504606846976) (h46 : ml 134 46 = Int64.ofNat c9) (hc9 : c9 < 1152921504606846976) (h39 : mi 134 39 = 0) (hQ : am_wp X (d + 4) 180 41 [.ref 134, .int (Int32.ofNat (nr))] [] (am_shT, mrL b, (u2 (u2 mi 134 39 4) 134 40 (Int32.ofNat s)), ml) Q) : ∀ r i, i + r = nr → (∃ k, i ≤ k ∧ k < nr ∧ A9 k = c9) → am_wp X (d + 4) 180 22 [.ref 134, .int (Int32.ofNat (i))] [] (am_shT, mrL b, mi, ml) Q := by
  intro r
  induction r with
  | zero =>
    intro i hi hex
    obtain ⟨k, h1, h2, h3⟩ := hex
    omega
  | succ r ih =>
    intro i hi hex
    have q1 := h166 i (by omega)
    by_cases heq : A9 i = c9
    · skip
      refine wi_iload_n rfl rfl ?_
      refine wi_aload_n rfl rfl ?_
      refine wi_getIv (v := (Int32.ofNat (nr))) rfl (kd_134 ..) h48 ?_
      refine wi_icmp_ge rfl (fun h9 => absurd trivial (by exfalso; have h8 := (le_n (a := nr) (b := i) rfl rfl (by omega) (by omega)).mp h9; omega)) (fun _ => ?_)
      refine wi_aload_n rfl rfl ?_
      refine wi_getR rfl (kd_134 ..) (rd_134_57 _) ?_
      refine wi_iload_n rfl rfl ?_
      refine wn_laload (q := i) (lv := (Int64.ofNat (A9 i))) rfl (ln_166 ..) rfl (by omega) (by decide) q1.1 ?_
      refine wi_aload_n rfl rfl ?_
      refine wi_getLv (lv := (Int64.ofNat (c9))) rfl (kd_134 ..) h46 ?_
      refine wi_lcmp rfl ?_
      refine wi_if_ne rfl (fun h9 => absurd trivial (by exfalso; have h8 := (lc_ne (a := A9 i) (b := c9) rfl rfl (by omega) (by omega)).mp h9; omega)) (fun _ => ?_)
      refine wi_aload_n rfl rfl ?_
      refine wi_iconst (x := 4) rfl rfl ?_
      refine wi_aload_n rfl rfl ?_
      refine wi_getIv (v := (Int32.ofNat (s))) rfl (kd_134 ..) h42 ?_
      refine wi_callV2 rfl (by decide) (by decide) rfl (kd_134 ..) rfl rfl rfl ?_
      refine wi_aload_n rfl rfl ?_
      refine wi_getIv (v := (0 : Int32)) rfl (kd_134 ..) h39 ?_
      refine wi_if_le rfl (fun _ => ?_) (fun h9 => absurd (by decide) h9)
      refine wi_aload_n rfl rfl ?_
      refine wi_iload_n rfl rfl ?_
      refine wi_putI rfl (kd_134 ..) ?_
      refine wi_aload_n rfl rfl ?_
      refine wi_iload_n rfl rfl ?_
      refine wi_putI rfl (kd_134 ..) ?_
      refine wi_ret rfl ?_
      refine wi_iinc (z := (Int32.ofNat (i + 1))) rfl rfl rfl (add_n (a := i) (b := 1) rfl rfl) rfl ?_
      refine wi_goto rfl ?_
      exact nm_pos (bd := 4) (mi := u2 (u2 mi 134 39 4) 134 40 (Int32.ofNat s)) hnr8 h48 h42 h166 h46 hc9 rfl (by decide) (by decide) hQ r (i + 1) (by omega)
    · skip
      refine wi_iload_n rfl rfl ?_
      refine wi_aload_n rfl rfl ?_
      refine wi_getIv (v := (Int32.ofNat (nr))) rfl (kd_134 ..) h48 ?_
      refine wi_icmp_ge rfl (fun h9 => absurd trivial (by exfalso; have h8 := (le_n (a := nr) (b := i) rfl rfl (by omega) (by omega)).mp h9; omega)) (fun _ => ?_)
      refine wi_aload_n rfl rfl ?_
      refine wi_getR rfl (kd_134 ..) (rd_134_57 _) ?_
      refine wi_iload_n rfl rfl ?_
      refine wn_laload (q := i) (lv := (Int64.ofNat (A9 i))) rfl (ln_166 ..) rfl (by omega) (by decide) q1.1 ?_
      refine wi_aload_n rfl rfl ?_
      refine wi_getLv (lv := (Int64.ofNat (c9))) rfl (kd_134 ..) h46 ?_
      refine wi_lcmp rfl ?_
      refine wi_if_ne rfl (fun _ => ?_) (fun h9 => absurd trivial (by exfalso; have h8 := (not_congr (lc_ne (a := A9 i) (b := c9) rfl rfl (by omega) (by omega))).mp h9; omega))
      refine wi_iinc (z := (Int32.ofNat (i + 1))) rfl rfl rfl (add_n (a := i) (b := 1) rfl rfl) rfl ?_
      refine wi_goto rfl ?_
      exact ih (i + 1) (by omega) (by
        obtain ⟨k, h1, h2, h3⟩ := hex
        refine ⟨k, ?_, h2, h3⟩
        rcases Nat.lt_or_ge i k with h4 | h4
        · exact h4
        · exact absurd h3 (by rw [show k = i by omega]; exact heq))
theorem rr_when {mi0 mi : Nat → Nat → Int32} {ml0 ml : Nat → Nat → Int64} {S E : rgS} {nr fk fp : Nat} {v1 : Value} (hN4 : N ≤ 400) (hT : ∀ k, T k < 256) (b36 : mi0 134 36 = Int32.ofNat N) (b157 : ∀ k, k < N → mi0 157 k &&& 255 = Int32.ofNat (T k)) (hin : inS T N S) (haw : S.aw = 1) (hnr : S.r = nr + 1) (hM : MS T mi0 ml0 nr S mi ml) (hLd : mLd T N S.p mi ml) (hr : runS T N S fk fp E) (hF : ∀ mi2 ml2, fk ≠ 0 → MF mi0 ml0 fk fp mi2 ml2 → Q none (am_shT, mrL b, mi2, ml2)) (hO : ∀ S' mi2 ml2, S'.aw = 0 → inS T N S' → S.p < S'.p → S'.r = nr + 1 → runS T N S' fk fp E → MS T mi0 ml0 (nr + 1) S' mi2 ml2 → mLd T N S'.p mi2 ml2 → Q none (am_shT, mrL b, mi2, ml2)) : am_wp X (d + 4) 180 60 [.ref 134, v1] [] (am_shT, mrL b, mi, ml) Q := by
  have hrb := rn_b (T := T) (N := N) (pr := isB) (p := S.p) hin.1
  have hwk := wrK_p (T := T) (N := N) (p := S.p)
  have g36 : mi 134 36 = Int32.ofNat N := by rw [hM.1.2.1 36 (by decide)]; exact b36
  have g157 : ∀ k, k < N → mi 157 k &&& 255 = Int32.ofNat (T k) := by rw [hM.1.1 157 (by decide) (by decide)]; exact b157
  cases hwh : tkW T N S.p wWhen
  · skip
    refine wi_aload_n rfl rfl ?_
    refine wi_bipush (x := 119) rfl rfl ?_
    refine wi_bipush (x := 104) rfl rfl ?_
    refine wi_bipush (x := 101) rfl rfl ?_
    refine wi_bipush (x := 110) rfl rfl ?_
    refine wi_iconst (x := 0) rfl rfl ?_
    refine wi_iconst (x := 0) rfl rfl ?_
    refine wi_callS6 rfl (by decide) (by decide) rfl rfl rfl (c_sp0 ?_)
    refine wi_callV1 rfl (by decide) (by decide) rfl (kd_134 ..) rfl rfl rfl (c_isWz (p := S.p) (l := wWhen) hLd wl_ok.1 (by decide) (by decide) (by decide) (z := 0) (congrArg bI hwh) ?_)
    refine wi_istore_n (l' := [.ref 134, .int (0 : Int32)]) rfl (Nat.le_of_ble_eq_true rfl) rfl rfl ?_
    refine wi_iload_n rfl rfl ?_
    refine wi_if_ne rfl (fun h9 => absurd h9 (by decide)) (fun _ => ?_)
    refine wi_aload_n rfl rfl ?_
    refine wi_callV0 rfl (by decide) (by decide) rfl (kd_134 ..) rfl rfl rfl (c_wrong hLd hM.2.1 ?_)
    refine wi_iload_n rfl rfl ?_
    refine wi_if_eq rfl (fun _ => ?_) (fun h9 => absurd (by decide) h9)
    refine wi_aload_n rfl rfl ?_
    refine wi_getIv (v := (Int32.ofNat (wrK T N S.p))) rfl (kd_134 ..) rfl ?_
    refine wi_if_ne rfl (fun _ => ?_) (fun h9 => absurd trivial (by exfalso; have h8 := (not_congr (ne_n (a := wrK T N S.p) (b := 0) rfl (rfl : (0 : Int32) = Int32.ofNat 0) (by omega) (by omega))).mp h9; omega))
    refine wi_aload_n rfl rfl ?_
    refine wi_getIv (v := (Int32.ofNat (wrK T N S.p))) rfl (kd_134 ..) rfl ?_
    refine wi_if_le rfl (fun h9 => absurd trivial (by exfalso; have h8 := (le_n (a := wrK T N S.p) (b := 0) rfl (rfl : (0 : Int32) = Int32.ofNat 0) (by omega) (by omega)).mp h9; omega)) (fun _ => ?_)
    refine wi_ret rfl ?_
    obtain ⟨rfl, rfl⟩ := wr_run hr hin.1 (Or.inl (by omega)) (fun h1 h2 => (tkS_1 h2 haw).trans (if_neg (fun h9 => (of_decide_eq_false hwh) ⟨h1, h9.1, h9.2⟩)))
    exact hF _ _ (by omega) (MF_of hM.1 rfl)
  · obtain ⟨hsN, hk1, htx⟩ := of_decide_eq_true hwh
    have heb := en_b (T := T) hsN
    have htk : tkS T S (rn T N isB S.p) (enT T N (rn T N isB S.p)) (kdT T N (rn T N isB S.p)) = .inr (⟨2, enT T N (rn T N isB S.p), S.r, S.tw, S.ts, S.ns, S.nl, S.tc, S.fa, S.fs, S.fn⟩ : rgS) := (tkS_1 (by omega) haw).trans (if_pos ⟨hk1, htx⟩)
    have ti := tk_inv (fun k _ => hT k) hin hsN htk
    refine wi_aload_n rfl rfl ?_
    refine wi_bipush (x := 119) rfl rfl ?_
    refine wi_bipush (x := 104) rfl rfl ?_
    refine wi_bipush (x := 101) rfl rfl ?_
    refine wi_bipush (x := 110) rfl rfl ?_
    refine wi_iconst (x := 0) rfl rfl ?_
    refine wi_iconst (x := 0) rfl rfl ?_
    refine wi_callS6 rfl (by decide) (by decide) rfl rfl rfl (c_sp0 ?_)
    refine wi_callV1 rfl (by decide) (by decide) rfl (kd_134 ..) rfl rfl rfl (c_isWz (p := S.p) (l := wWhen) hLd wl_ok.1 (by decide) (by decide) (by decide) (z := 1) (congrArg bI hwh) ?_)
    refine wi_istore_n (l' := [.ref 134, .int (1 : Int32)]) rfl (Nat.le_of_ble_eq_true rfl) rfl rfl ?_
    refine wi_iload_n rfl rfl ?_
    refine wi_if_ne rfl (fun _ => ?_) (fun h9 => absurd (by decide) h9)
    exact rr_loop hN4 hT b36 b157 (N + 1) (⟨2, enT T N (rn T N isB S.p), S.r, S.tw, S.ts, S.ns, S.nl, S.tc, S.fa, S.fs, S.fn⟩ : rgS) mi ml Q (by show N - enT T N (rn T N isB S.p) < N + 1; omega) ti.1 rfl hnr (MS_same hM (fun _ _ _ => rfl) (fun _ _ _ _ => ⟨rfl, rfl⟩) rfl rfl rfl rfl rfl rfl rfl) ((hLd.2.2 hsN).1) (inv_stp hsN htk hr) hF (fun S' mi4 ml4 p1 p2 p3 p4 p5 p6 p7 => hO S' mi4 ml4 p1 p2 (by have : enT T N (rn T N isB S.p) < S'.p := p3; omega) p4 p5 p6 p7)
theorem c_rdRule {mi0 mi : Nat → Nat → Int32} {ml0 ml : Nat → Nat → Int64} {S E : rgS} {nr fk fp : Nat} (hN4 : N ≤ 400) (hT : ∀ k, T k < 256) (b36 : mi0 134 36 = Int32.ofNat N) (b157 : ∀ k, k < N → mi0 157 k &&& 255 = Int32.ofNat (T k)) (hin : inS T N S) (haw : S.aw = 0) (hnr : S.r = nr) (hM : MS T mi0 ml0 nr S mi ml) (hLd : mLd T N S.p mi ml) (hsN : (rn T N isB S.p) < N) (hr : runS T N S fk fp E) (hF : ∀ mi2 ml2, fk ≠ 0 → MF mi0 ml0 fk fp mi2 ml2 → Q none (am_shT, mrL b, mi2, ml2)) (hO : ∀ S' mi2 ml2, S'.aw = 0 → inS T N S' → S.p < S'.p → S'.r = nr + 1 → runS T N S' fk fp E → MS T mi0 ml0 (nr + 1) S' mi2 ml2 → mLd T N S'.p mi2 ml2 → Q none (am_shT, mrL b, mi2, ml2)) : am_wp X (d + 4) 180 0 [.ref 134, .retAddr 0] [] (am_shT, mrL b, mi, ml) Q := by
  have hrb := rn_b (T := T) (N := N) (pr := isB) (p := S.p) hin.1
  have hwk := wrK_p (T := T) (N := N) (p := S.p)
  have g36 : mi 134 36 = Int32.ofNat N := by rw [hM.1.2.1 36 (by decide)]; exact b36
  have g157 : ∀ k, k < N → mi 157 k &&& 255 = Int32.ofNat (T k) := by rw [hM.1.1 157 (by decide) (by decide)]; exact b157
  have h41 := (hLd.2.2 hsN).2.1
  have h43 := (hLd.2.2 hsN).1
  have heb := en_b (T := T) hsN
  have hsr := sr_1 (kd := kdT T N (rn T N isB S.p))
  have hr8 := hin.2.1
  by_cases hk1 : kdT T N (rn T N isB S.p) = 1
  rotate_left
  · skip
    refine wi_aload_n rfl rfl ?_
    refine wi_getIv (v := (Int32.ofNat (srN (kdT T N (rn T N isB S.p))))) rfl (kd_134 ..) h41 ?_
    refine wi_iconst (x := 1) rfl rfl ?_
    refine wi_icmp_ne rfl (fun _ => ?_) (fun h9 => absurd trivial (by exfalso; have h8 := (not_congr (ne_n (a := srN (kdT T N (rn T N isB S.p))) (b := 1) rfl (rfl : (1 : Int32) = Int32.ofNat 1) (by omega) (by omega))).mp h9; omega))
    refine wi_aload_n rfl rfl ?_
    refine wi_callV0 rfl (by decide) (by decide) rfl (kd_134 ..) rfl rfl rfl (c_wrong hLd hM.2.1 ?_)
    refine wi_ret rfl ?_
    obtain ⟨rfl, rfl⟩ := wr_run hr hin.1 (Or.inr hsN) (fun h1 h2 => (tkS_0 h2 haw).trans (if_pos (by omega)))
    exact hF _ _ (by omega) (MF_of hM.1 rfl)
  have h45 := ((hLd.2.2 hsN).2.2.1 hk1).1
  by_cases hl8 : enT T N (rn T N isB S.p) - (rn T N isB S.p) ≤ 8
  rotate_left
  · skip
    refine wi_aload_n rfl rfl ?_
    refine wi_getIv (v := (Int32.ofNat (srN (kdT T N (rn T N isB S.p))))) rfl (kd_134 ..) h41 ?_
    refine wi_iconst (x := 1) rfl rfl ?_
    refine wi_icmp_ne rfl (fun h9 => absurd trivial (by exfalso; have h8 := (ne_n (a := srN (kdT T N (rn T N isB S.p))) (b := 1) rfl (rfl : (1 : Int32) = Int32.ofNat 1) (by omega) (by omega)).mp h9; omega)) (fun _ => ?_)
    refine wi_aload_n rfl rfl ?_
    refine wi_getIv (v := (Int32.ofNat (enT T N (rn T N isB S.p) - (rn T N isB S.p)))) rfl (kd_134 ..) h45 ?_
    refine wi_bipush (x := 8) rfl rfl ?_
    refine wi_icmp_le rfl (fun h9 => absurd trivial (by exfalso; have h8 := (le_n (a := enT T N (rn T N isB S.p) - (rn T N isB S.p)) (b := 8) rfl (rfl : (8 : Int32) = Int32.ofNat 8) (by omega) (by omega)).mp h9; omega)) (fun _ => ?_)
    refine wi_aload_n rfl rfl ?_
    refine wi_callV0 rfl (by decide) (by decide) rfl (kd_134 ..) rfl rfl rfl (c_wrong hLd hM.2.1 ?_)
    refine wi_ret rfl ?_
    obtain ⟨rfl, rfl⟩ := wr_run hr hin.1 (Or.inr hsN) (fun h1 h2 => (tkS_0 h2 haw).trans (if_pos (by omega)))
    exact hF _ _ (by omega) (MF_of hM.1 rfl)
  have hlet := (kd_1 hk1 hsN).2.2
  have h46 : ml 134 46 = Int64.ofNat (cdN T (rn T N isB S.p) (enT T N (rn T N isB S.p) - (rn T N isB S.p))) := ((hLd.2.2 hsN).2.2.1 hk1).2.trans (if_pos (by omega))
  have hc9 := cd_12 hlet (by omega)
  have hnm : ∀ k, k < nr → (∀ j, j < S.nl k → isL (T (S.ns k + j)) = true) ∧ S.nl k ≤ 8 := fun k hk => ⟨(hin.2.2.2.2.2.2 k (by omega)).2.2.2.1, (hin.2.2.2.2.2.2 k (by omega)).2.2.1⟩
  have h166 : ∀ k, k < nr → ml 166 k = Int64.ofNat (cdN T (S.ns k) (S.nl k)) ∧ cdN T (S.ns k) (S.nl k) < 1152921504606846976 := fun k hk => ⟨(hM.2.2.2 k (by omega)).2.1, cd_12 (hnm k hk).1 (by have := (hnm k hk).2; omega)⟩
  by_cases hful : nr = 8
  · skip
    refine wi_aload_n rfl rfl ?_
    refine wi_getIv (v := (Int32.ofNat (srN (kdT T N (rn T N isB S.p))))) rfl (kd_134 ..) h41 ?_
    refine wi_iconst (x := 1) rfl rfl ?_
    refine wi_icmp_ne rfl (fun h9 => absurd trivial (by exfalso; have h8 := (ne_n (a := srN (kdT T N (rn T N isB S.p))) (b := 1) rfl (rfl : (1 : Int32) = Int32.ofNat 1) (by omega) (by omega)).mp h9; omega)) (fun _ => ?_)
    refine wi_aload_n rfl rfl ?_
    refine wi_getIv (v := (Int32.ofNat (enT T N (rn T N isB S.p) - (rn T N isB S.p)))) rfl (kd_134 ..) h45 ?_
    refine wi_bipush (x := 8) rfl rfl ?_
    refine wi_icmp_le rfl (fun _ => ?_) (fun h9 => absurd trivial (by exfalso; have h8 := (not_congr (le_n (a := enT T N (rn T N isB S.p) - (rn T N isB S.p)) (b := 8) rfl (rfl : (8 : Int32) = Int32.ofNat 8) (by omega) (by omega))).mp h9; omega))
    refine wi_aload_n rfl rfl ?_
    refine wi_getIv (v := (Int32.ofNat (nr))) rfl (kd_134 ..) hM.2.2.1 ?_
    refine wi_bipush (x := 8) rfl rfl ?_
    refine wi_icmp_ne rfl (fun h9 => absurd trivial (by exfalso; have h8 := (ne_n (a := nr) (b := 8) rfl (rfl : (8 : Int32) = Int32.ofNat 8) (by omega) (by omega)).mp h9; omega)) (fun _ => ?_)
    refine wi_aload_n rfl rfl ?_
    refine wi_iconst (x := 3) rfl rfl ?_
    refine wi_aload_n rfl rfl ?_
    refine wi_getIv (v := (Int32.ofNat ((rn T N isB S.p)))) rfl (kd_134 ..) hLd.1 ?_
    refine wi_callV2 rfl (by decide) (by decide) rfl (kd_134 ..) rfl rfl rfl ?_
    refine wi_aload_n rfl rfl ?_
    refine wi_getIv (v := (0 : Int32)) rfl (kd_134 ..) hM.2.1 ?_
    refine wi_if_le rfl (fun _ => ?_) (fun h9 => absurd (by decide) h9)
    refine wi_aload_n rfl rfl ?_
    refine wi_iload_n rfl rfl ?_
    refine wi_putI rfl (kd_134 ..) ?_
    refine wi_aload_n rfl rfl ?_
    refine wi_iload_n rfl rfl ?_
    refine wi_putI rfl (kd_134 ..) ?_
    refine wi_ret rfl ?_
    refine wi_iconst (x := 0) rfl rfl ?_
    refine wi_istore_n (l' := [.ref 134, .int (0 : Int32)]) rfl (Nat.le_of_ble_eq_true rfl) rfl rfl ?_
    refine nm_pos (bd := 3) (A9 := fun k => cdN T (S.ns k) (S.nl k)) (mi := u2 (u2 mi 134 39 3) 134 40 (Int32.ofNat (rn T N isB S.p))) (by omega) hM.2.2.1 hLd.1 h166 h46 hc9 rfl (by decide) (by decide) ?_ nr 0 (by omega)
    refine wi_aload_n rfl rfl ?_
    refine wi_getIv (v := (3 : Int32)) rfl (kd_134 ..) rfl ?_
    refine wi_if_le rfl (fun h9 => absurd h9 (by decide)) (fun _ => ?_)
    refine wi_ret rfl ?_
    obtain ⟨rfl, rfl⟩ := inv_bad hsN ((tkS_0 (by omega) haw).trans ((if_neg (by omega)).trans (if_pos (by omega)))) hr
    exact hF _ _ (by decide) (MF_of hM.1 rfl)
  cases hkn : anyB (knw T S (rn T N isB S.p) (enT T N (rn T N isB S.p) - (rn T N isB S.p))) S.r
  rotate_left
  · have hex : ∃ k, 0 ≤ k ∧ k < nr ∧ cdN T (S.ns k) (S.nl k) = cdN T (rn T N isB S.p) (enT T N (rn T N isB S.p) - (rn T N isB S.p)) := by
      obtain ⟨k, h1, h2⟩ := any_ex _ hkn
      exact ⟨k, Nat.zero_le _, by omega, (kn_cd (hnm k (by omega)).1 hlet).mp h2⟩
    refine wi_aload_n rfl rfl ?_
    refine wi_getIv (v := (Int32.ofNat (srN (kdT T N (rn T N isB S.p))))) rfl (kd_134 ..) h41 ?_
    refine wi_iconst (x := 1) rfl rfl ?_
    refine wi_icmp_ne rfl (fun h9 => absurd trivial (by exfalso; have h8 := (ne_n (a := srN (kdT T N (rn T N isB S.p))) (b := 1) rfl (rfl : (1 : Int32) = Int32.ofNat 1) (by omega) (by omega)).mp h9; omega)) (fun _ => ?_)
    refine wi_aload_n rfl rfl ?_
    refine wi_getIv (v := (Int32.ofNat (enT T N (rn T N isB S.p) - (rn T N isB S.p)))) rfl (kd_134 ..) h45 ?_
    refine wi_bipush (x := 8) rfl rfl ?_
    refine wi_icmp_le rfl (fun _ => ?_) (fun h9 => absurd trivial (by exfalso; have h8 := (not_congr (le_n (a := enT T N (rn T N isB S.p) - (rn T N isB S.p)) (b := 8) rfl (rfl : (8 : Int32) = Int32.ofNat 8) (by omega) (by omega))).mp h9; omega))
    refine wi_aload_n rfl rfl ?_
    refine wi_getIv (v := (Int32.ofNat (nr))) rfl (kd_134 ..) hM.2.2.1 ?_
    refine wi_bipush (x := 8) rfl rfl ?_
    refine wi_icmp_ne rfl (fun _ => ?_) (fun h9 => absurd trivial (by exfalso; have h8 := (not_congr (ne_n (a := nr) (b := 8) rfl (rfl : (8 : Int32) = Int32.ofNat 8) (by omega) (by omega))).mp h9; omega))
    refine wi_iconst (x := 0) rfl rfl ?_
    refine wi_istore_n (l' := [.ref 134, .int (0 : Int32)]) rfl (Nat.le_of_ble_eq_true rfl) rfl rfl ?_
    refine nm_yes (A9 := fun k => cdN T (S.ns k) (S.nl k)) (by omega) hM.2.2.1 hLd.1 h166 h46 hc9 hM.2.1 ?_ nr 0 (by omega) hex
    refine wi_aload_n rfl rfl ?_
    refine wi_getIv (v := (4 : Int32)) rfl (kd_134 ..) rfl ?_
    refine wi_if_le rfl (fun h9 => absurd h9 (by decide)) (fun _ => ?_)
    refine wi_ret rfl ?_
    obtain ⟨rfl, rfl⟩ := inv_bad hsN ((tkS_0 (by omega) haw).trans ((if_neg (by omega)).trans ((if_neg (by omega)).trans (if_pos hkn)))) hr
    exact hF _ _ (by decide) (MF_of hM.1 rfl)
  have hne : ∀ k, k < nr → ¬ cdN T (S.ns k) (S.nl k) = cdN T (rn T N isB S.p) (enT T N (rn T N isB S.p) - (rn T N isB S.p)) := fun k hk h9 => by
    have h1 := any_t S.r k (by omega) ((kn_cd (S := S) (hnm k hk).1 hlet).mpr h9)
    rw [hkn] at h1
    cases h1
  have htk : tkS T S (rn T N isB S.p) (enT T N (rn T N isB S.p)) (kdT T N (rn T N isB S.p)) = .inr (⟨1, enT T N (rn T N isB S.p), S.r + 1, S.tw, S.ts, up1 S.ns S.r (rn T N isB S.p), up1 S.nl S.r (enT T N (rn T N isB S.p) - (rn T N isB S.p)), up1 S.tc S.r 0, S.fa, S.fs, S.fn⟩ : rgS) := (tkS_0 (by omega) haw).trans ((if_neg (by omega)).trans ((if_neg (by omega)).trans (if_neg (by rw [hkn]; decide))))
  have ti := tk_inv (fun k _ => hT k) hin hsN htk
  have hM1 := MS_name (e := enT T N (rn T N isB S.p)) (s := (rn T N isB S.p)) (n := enT T N (rn T N isB S.p) - (rn T N isB S.p)) hM hnr
  refine wi_aload_n rfl rfl ?_
  refine wi_getIv (v := (Int32.ofNat (srN (kdT T N (rn T N isB S.p))))) rfl (kd_134 ..) h41 ?_
  refine wi_iconst (x := 1) rfl rfl ?_
  refine wi_icmp_ne rfl (fun h9 => absurd trivial (by exfalso; have h8 := (ne_n (a := srN (kdT T N (rn T N isB S.p))) (b := 1) rfl (rfl : (1 : Int32) = Int32.ofNat 1) (by omega) (by omega)).mp h9; omega)) (fun _ => ?_)
  refine wi_aload_n rfl rfl ?_
  refine wi_getIv (v := (Int32.ofNat (enT T N (rn T N isB S.p) - (rn T N isB S.p)))) rfl (kd_134 ..) h45 ?_
  refine wi_bipush (x := 8) rfl rfl ?_
  refine wi_icmp_le rfl (fun _ => ?_) (fun h9 => absurd trivial (by exfalso; have h8 := (not_congr (le_n (a := enT T N (rn T N isB S.p) - (rn T N isB S.p)) (b := 8) rfl (rfl : (8 : Int32) = Int32.ofNat 8) (by omega) (by omega))).mp h9; omega))
  refine wi_aload_n rfl rfl ?_
  refine wi_getIv (v := (Int32.ofNat (nr))) rfl (kd_134 ..) hM.2.2.1 ?_
  refine wi_bipush (x := 8) rfl rfl ?_
  refine wi_icmp_ne rfl (fun _ => ?_) (fun h9 => absurd trivial (by exfalso; have h8 := (not_congr (ne_n (a := nr) (b := 8) rfl (rfl : (8 : Int32) = Int32.ofNat 8) (by omega) (by omega))).mp h9; omega))
  refine wi_iconst (x := 0) rfl rfl ?_
  refine wi_istore_n (l' := [.ref 134, .int (0 : Int32)]) rfl (Nat.le_of_ble_eq_true rfl) rfl rfl ?_
  refine nm_no (A9 := fun k => cdN T (S.ns k) (S.nl k)) (by omega) hM.2.2.1 hLd.1 h166 h46 hc9 hM.2.1 hne ?_ nr 0 (by omega)
  refine wi_aload_n rfl rfl ?_
  refine wi_getIv (v := (0 : Int32)) rfl (kd_134 ..) hM.2.1 ?_
  refine wi_if_le rfl (fun _ => ?_) (fun h9 => absurd (by decide) h9)
  refine wi_aload_n rfl rfl ?_
  refine wi_getR rfl (kd_134 ..) (rd_134_57 _) ?_
  refine wi_aload_n rfl rfl ?_
  refine wi_getIv (v := (Int32.ofNat (nr))) rfl (kd_134 ..) hM.2.2.1 ?_
  refine wi_aload_n rfl rfl ?_
  refine wi_getLv (lv := Int64.ofNat (cdN T (rn T N isB S.p) (enT T N (rn T N isB S.p) - (rn T N isB S.p)))) rfl (kd_134 ..) h46 ?_
  refine wn_lastore (q := nr) rfl (ln_166 ..) rfl (by omega) (by decide) ?_
  refine wi_aload_n rfl rfl ?_
  refine wi_getR rfl (kd_134 ..) (rd_134_53 _) ?_
  refine wi_aload_n rfl rfl ?_
  refine wi_getIv (v := (Int32.ofNat (nr))) rfl (kd_134 ..) hM.2.2.1 ?_
  refine wi_iconst (x := 0) rfl rfl ?_
  refine wn_iastore (q := nr) rfl (ln_162 ..) rfl (by omega) (by decide) ?_
  refine wi_aload_n rfl rfl ?_
  refine wi_callV0 rfl (by decide) (by decide) rfl (kd_134 ..) rfl rfl rfl (c_mnext hN4 hT (by rw [u2_ne (by decide)]; exact g36) (by rw [u2_ne (by decide)]; exact g157) (by rw [u2_ne (by decide)]; exact h43) (p := enT T N (rn T N isB S.p)) heb.2 (fun mi2 ml2 n1 n2 n3 n4 n5 => ?_))
  exact rr_when (S := (⟨1, enT T N (rn T N isB S.p), S.r + 1, S.tw, S.ts, up1 S.ns S.r (rn T N isB S.p), up1 S.nl S.r (enT T N (rn T N isB S.p) - (rn T N isB S.p)), up1 S.tc S.r 0, S.fa, S.fs, S.fn⟩ : rgS)) hN4 hT b36 b157 ti.1 rfl (by show S.r + 1 = nr + 1; omega) (MS_nx hM1 n1 n2 n3 n4) n5 (inv_stp hsN htk hr) hF (fun S' mi4 ml4 p1 p2 p3 p4 p5 p6 p7 => hO S' mi4 ml4 p1 p2 (by have : enT T N (rn T N isB S.p) < S'.p := p3; omega) p4 p5 p6 p7)
theorem ru_loop {mi0 : Nat → Nat → Int32} {ml0 : Nat → Nat → Int64} {E : rgS} {fk fp : Nat} {n9 : Int32} {v2 v3 : Value} (hN4 : N ≤ 400) (hT : ∀ k, T k < 256) (b36 : mi0 134 36 = Int32.ofNat N) (b157 : ∀ k, k < N → mi0 157 k &&& 255 = Int32.ofNat (T k)) : ∀ z (S : rgS) (mi : Nat → Nat → Int32) (ml : Nat → Nat → Int64), N - S.p < z → inS T N S → S.aw = 0 → MS T mi0 ml0 S.r S mi ml → mLd T N S.p mi ml → runS T N S fk fp E → (∀ mi2 ml2, (fk ≠ 0 → MF mi0 ml0 fk fp mi2 ml2) → (fk = 0 → MS T mi0 ml0 E.r E mi2 ml2 ∧ inS T N E) → am_wp X (d + 5) 183 42 [.ref 134, .int n9, v2, v3] [] (am_shT, mrL b, mi2, ml2) Q) → am_wp X (d + 5) 183 33 [.ref 134, .int n9, v2, v3] [] (am_shT, mrL b, mi, ml) Q := by
  intro z
  induction z with
  | zero => intro S mi ml hz; omega
  | succ z ih =>
    intro S mi ml hz hin haw hM hLd hr hQ
    have hfk := run_k hr
    have hrb := rn_b (T := T) (N := N) (pr := isB) (p := S.p) hin.1
    rcases Nat.lt_or_ge (rn T N isB S.p) N with hsN | hsN
    · have h41 := (hLd.2.2 hsN).2.1
      have hsr := sr_1 (kd := kdT T N (rn T N isB S.p))
      refine wi_aload_n rfl rfl ?_
      refine wi_getIv (v := (0 : Int32)) rfl (kd_134 ..) hM.2.1 ?_
      refine wi_if_ne rfl (fun h9 => absurd h9 (by decide)) (fun _ => ?_)
      refine wi_aload_n rfl rfl ?_
      refine wi_getIv (v := (Int32.ofNat (srN (kdT T N (rn T N isB S.p))))) rfl (kd_134 ..) h41 ?_
      refine wi_if_eq rfl (fun h9 => absurd trivial (by exfalso; have h8 := (eq_n (a := srN (kdT T N (rn T N isB S.p))) (b := 0) rfl (rfl : (0 : Int32) = Int32.ofNat 0) (by omega) (by omega)).mp h9; omega)) (fun _ => ?_)
      refine wi_aload_n rfl rfl ?_
      refine wi_callV0 rfl (by decide) (by decide) rfl (kd_134 ..) rfl rfl rfl (c_rdRule hN4 hT b36 b157 hin haw rfl hM hLd hsN hr (fun mi3 ml3 f1 f2 => ?_) (fun S1 mi3 ml3 o1 o2 o3 o4 o5 o6 o7 => ?_))
      · skip
        refine wi_goto rfl ?_
        skip
        refine wi_aload_n rfl rfl ?_
        refine wi_getIv (v := (Int32.ofNat (fk))) rfl (kd_134 ..) f2.2.1 ?_
        refine wi_if_ne rfl (fun _ => ?_) (fun h9 => absurd trivial (by exfalso; have h8 := (not_congr (ne_n (a := fk) (b := 0) rfl (rfl : (0 : Int32) = Int32.ofNat 0) (by omega) (by omega))).mp h9; omega))
        exact hQ mi3 ml3 (fun _ => f2) (fun h9 => absurd h9 f1)
      · skip
        refine wi_goto rfl ?_
        exact ih S1 mi3 ml3 (by omega) o2 o1 (o4 ▸ o6) o7 o5 hQ
    · have h41 := hLd.2.1 hsN
      refine wi_aload_n rfl rfl ?_
      refine wi_getIv (v := (0 : Int32)) rfl (kd_134 ..) hM.2.1 ?_
      refine wi_if_ne rfl (fun h9 => absurd h9 (by decide)) (fun _ => ?_)
      refine wi_aload_n rfl rfl ?_
      refine wi_getIv (v := (0 : Int32)) rfl (kd_134 ..) h41 ?_
      refine wi_if_eq rfl (fun _ => ?_) (fun h9 => absurd (by decide) h9)
      obtain ⟨rfl, rfl⟩ := inv_fin hsN haw hr
      exact hQ mi ml (fun h9 => absurd rfl h9) (fun _ => ⟨hM, hin⟩)
theorem cp_in {ml : Nat → Nat → Int64} {r9 t9 : Nat} {n9 : Int32} (hr9 : r9 < 8) (ht9 : t9 ≤ 6) : ∀ r i (mi1 : Nat → Nat → Int32), i + r = t9 → mi1 158 r9 = Int32.ofNat t9 → (∀ mi2 : Nat → Nat → Int32, (∀ a, a ≠ 159 → a ≠ 160 → a ≠ 161 → mi2 a = mi1 a) → (∀ z, 6 * r9 + i ≤ z → z < 6 * r9 + t9 → mi2 159 z = mi1 163 z ∧ mi2 160 z = mi1 164 z ∧ mi2 161 z = mi1 165 z) → (∀ z, (z < 6 * r9 + i ∨ 6 * r9 + t9 ≤ z) → mi2 159 z = mi1 159 z ∧ mi2 160 z = mi1 160 z ∧ mi2 161 z = mi1 161 z) → am_wp X (d + 5) 183 120 [.ref 134, .int n9, .int (Int32.ofNat (r9)), .int (Int32.ofNat (6 * r9 + t9))] [] (am_shT, mrL b, mi2, ml) Q) → am_wp X (d + 5) 183 84 [.ref 134, .int n9, .int (Int32.ofNat (r9)), .int (Int32.ofNat (6 * r9 + i))] [] (am_shT, mrL b, mi1, ml) Q := by
  intro r
  induction r with
  | zero =>
    intro i mi1 hi h158 hQ
    refine wi_iload_n rfl rfl ?_
    refine wi_bipush (x := 6) rfl rfl ?_
    refine wi_iload_n rfl rfl ?_
    refine wn_imul (z := (Int32.ofNat (6 * r9))) rfl (mul_n (a := 6) (b := r9) (rfl : (6 : Int32) = Int32.ofNat 6) rfl) ?_
    refine wi_aload_n rfl rfl ?_
    refine wi_getR rfl (kd_134 ..) (rd_134_49 _) ?_
    refine wi_iload_n rfl rfl ?_
    refine wn_iaload (q := r9) (v := (Int32.ofNat (t9))) rfl (ln_158 ..) rfl (by omega) (by decide) (by decide) (by decide) h158 ?_
    refine wn_iadd (z := (Int32.ofNat (6 * r9 + t9))) rfl (add_n (a := 6 * r9) (b := t9) rfl rfl) ?_
    refine wi_icmp_ge rfl (fun _ => ?_) (fun h9 => absurd trivial (by exfalso; have h8 := (not_congr (le_n (a := 6 * r9 + t9) (b := 6 * r9 + i) rfl rfl (by omega) (by omega))).mp h9; omega))
    obtain rfl : i = t9 := by omega
    exact hQ mi1 (fun _ _ _ _ => rfl) (fun z h1 h2 => absurd h1 (by omega)) (fun z _ => ⟨rfl, rfl, rfl⟩)
  | succ r ih =>
    intro i mi1 hi h158 hQ
    refine wi_iload_n rfl rfl ?_
    refine wi_bipush (x := 6) rfl rfl ?_
    refine wi_iload_n rfl rfl ?_
    refine wn_imul (z := (Int32.ofNat (6 * r9))) rfl (mul_n (a := 6) (b := r9) (rfl : (6 : Int32) = Int32.ofNat 6) rfl) ?_
    refine wi_aload_n rfl rfl ?_
    refine wi_getR rfl (kd_134 ..) (rd_134_49 _) ?_
    refine wi_iload_n rfl rfl ?_
    refine wn_iaload (q := r9) (v := (Int32.ofNat (t9))) rfl (ln_158 ..) rfl (by omega) (by decide) (by decide) (by decide) h158 ?_
    refine wn_iadd (z := (Int32.ofNat (6 * r9 + t9))) rfl (add_n (a := 6 * r9) (b := t9) rfl rfl) ?_
    refine wi_icmp_ge rfl (fun h9 => absurd trivial (by exfalso; have h8 := (le_n (a := 6 * r9 + t9) (b := 6 * r9 + i) rfl rfl (by omega) (by omega)).mp h9; omega)) (fun _ => ?_)
    refine wi_aload_n rfl rfl ?_
    refine wi_getR rfl (kd_134 ..) (rd_134_50 _) ?_
    refine wi_iload_n rfl rfl ?_
    refine wi_aload_n rfl rfl ?_
    refine wi_getR rfl (kd_134 ..) (rd_134_54 _) ?_
    refine wi_iload_n rfl rfl ?_
    refine wn_iaload (q := 6 * r9 + i) (v := (mi1 163 (6 * r9 + i))) rfl (ln_163 ..) rfl (by omega) (by decide) (by decide) (by decide) rfl ?_
    refine wn_iastore (q := 6 * r9 + i) rfl (ln_159 ..) rfl (by omega) (by decide) ?_
    refine wi_aload_n rfl rfl ?_
    refine wi_getR rfl (kd_134 ..) (rd_134_51 _) ?_
    refine wi_iload_n rfl rfl ?_
    refine wi_aload_n rfl rfl ?_
    refine wi_getR rfl (kd_134 ..) (rd_134_55 _) ?_
    refine wi_iload_n rfl rfl ?_
    refine wn_iaload (q := 6 * r9 + i) (v := (mi1 164 (6 * r9 + i))) rfl (ln_164 ..) rfl (by omega) (by decide) (by decide) (by decide) rfl ?_
    refine wn_iastore (q := 6 * r9 + i) rfl (ln_160 ..) rfl (by omega) (by decide) ?_
    refine wi_aload_n rfl rfl ?_
    refine wi_getR rfl (kd_134 ..) (rd_134_52 _) ?_
    refine wi_iload_n rfl rfl ?_
    refine wi_aload_n rfl rfl ?_
    refine wi_getR rfl (kd_134 ..) (rd_134_56 _) ?_
    refine wi_iload_n rfl rfl ?_
    refine wn_iaload (q := 6 * r9 + i) (v := (mi1 165 (6 * r9 + i))) rfl (ln_165 ..) rfl (by omega) (by decide) (by decide) (by decide) rfl ?_
    refine wn_iastore (q := 6 * r9 + i) rfl (ln_161 ..) rfl (by omega) (by decide) ?_
    refine wi_iinc (z := (Int32.ofNat (6 * r9 + i + 1))) rfl rfl rfl (add_n (a := 6 * r9 + i) (b := 1) rfl rfl) rfl ?_
    refine wi_goto rfl ?_
    refine ih (i + 1) (u2 (u2 (u2 mi1 159 (6 * r9 + i) (mi1 163 (6 * r9 + i))) 160 (6 * r9 + i) (mi1 164 (6 * r9 + i))) 161 (6 * r9 + i) (mi1 165 (6 * r9 + i))) (by omega) h158 (fun mi2 k1 k2 k3 => hQ mi2 (fun a a1 a2 a3 => (k1 a a1 a2 a3).trans ((u2_ne a3).trans ((u2_ne a2).trans (u2_ne a1)))) (fun z z1 z2 => ?_) (fun z z1 => ?_))
    · rcases Nat.lt_or_ge (6 * r9 + i) z with z3 | z3
      · exact k2 z (by omega) z2
      · obtain ⟨q1, q2, q3⟩ := k3 z (by omega)
        rw [q1, q2, q3, show z = 6 * r9 + i by omega, u2_ne (by decide), u2_ne (by decide), u2_same, u2_ne (by decide), u2_same, u2_same]
        exact ⟨rfl, rfl, rfl⟩
    · obtain ⟨q1, q2, q3⟩ := k3 z (by omega)
      rw [q1, q2, q3, u2_ne (by decide), u2_ne (by decide), u2_off (by omega), u2_ne (show (160 : Nat) ≠ 161 by decide), u2_off (by omega), u2_ne (show (160 : Nat) ≠ 159 by decide), u2_off (by omega), u2_ne (by decide), u2_ne (by decide)]
      exact ⟨rfl, rfl, rfl⟩
theorem cp_out {ml : Nat → Nat → Int64} {R9 : Nat} {n9 : Int32} {tc : Nat → Nat} (hR : R9 ≤ 8) (ht : ∀ i, i < R9 → tc i ≤ 6) : ∀ r r9 (mi1 : Nat → Nat → Int32) (v3 : Value), r9 + r = R9 → mi1 134 47 = Int32.ofNat R9 → (∀ i, i < R9 → mi1 162 i = Int32.ofNat (tc i)) → (∀ mi2 : Nat → Nat → Int32, (∀ a, a ≠ 158 → a ≠ 159 → a ≠ 160 → a ≠ 161 → mi2 a = mi1 a) → (∀ i, r9 ≤ i → i < R9 → mi2 158 i = mi1 162 i ∧ ∀ k, k < tc i → mi2 159 (6 * i + k) = mi1 163 (6 * i + k) ∧ mi2 160 (6 * i + k) = mi1 164 (6 * i + k) ∧ mi2 161 (6 * i + k) = mi1 165 (6 * i + k)) → (∀ i, i < r9 → mi2 158 i = mi1 158 i ∧ ∀ k, k < 6 → mi2 159 (6 * i + k) = mi1 159 (6 * i + k) ∧ mi2 160 (6 * i + k) = mi1 160 (6 * i + k) ∧ mi2 161 (6 * i + k) = mi1 161 (6 * i + k)) → Q (some (.int (Int32.ofNat R9))) (am_shT, mrL b, mi2, ml)) → am_wp X (d + 5) 183 68 [.ref 134, .int n9, .int (Int32.ofNat (r9)), v3] [] (am_shT, mrL b, mi1, ml) Q := by
  intro r
  induction r with
  | zero =>
    intro r9 mi1 v3 hi h47 h162 hQ
    refine wi_iload_n rfl rfl ?_
    refine wi_aload_n rfl rfl ?_
    refine wi_getIv (v := (Int32.ofNat (R9))) rfl (kd_134 ..) h47 ?_
    refine wi_icmp_ge rfl (fun _ => ?_) (fun h9 => absurd trivial (by exfalso; have h8 := (not_congr (le_n (a := R9) (b := r9) rfl rfl (by omega) (by omega))).mp h9; omega))
    refine wi_aload_n rfl rfl ?_
    refine wi_getIv (v := (Int32.ofNat (R9))) rfl (kd_134 ..) h47 ?_
    refine wi_iret rfl (Or.inl rfl) ?_
    obtain rfl : r9 = R9 := by omega
    exact hQ mi1 (fun _ _ _ _ _ => rfl) (fun i i1 i2 => absurd i1 (by omega)) (fun i i1 => ⟨rfl, fun k hk => ⟨rfl, rfl, rfl⟩⟩)
  | succ r ih =>
    intro r9 mi1 v3 hi h47 h162 hQ
    refine wi_iload_n rfl rfl ?_
    refine wi_aload_n rfl rfl ?_
    refine wi_getIv (v := (Int32.ofNat (R9))) rfl (kd_134 ..) h47 ?_
    refine wi_icmp_ge rfl (fun h9 => absurd trivial (by exfalso; have h8 := (le_n (a := R9) (b := r9) rfl rfl (by omega) (by omega)).mp h9; omega)) (fun _ => ?_)
    refine wi_aload_n rfl rfl ?_
    refine wi_getR rfl (kd_134 ..) (rd_134_49 _) ?_
    refine wi_iload_n rfl rfl ?_
    refine wi_aload_n rfl rfl ?_
    refine wi_getR rfl (kd_134 ..) (rd_134_53 _) ?_
    refine wi_iload_n rfl rfl ?_
    refine wn_iaload (q := r9) (v := (Int32.ofNat (tc r9))) rfl (ln_162 ..) rfl (by omega) (by decide) (by decide) (by decide) (h162 r9 (by omega)) ?_
    refine wn_iastore (q := r9) rfl (ln_158 ..) rfl (by omega) (by decide) ?_
    refine wi_bipush (x := 6) rfl rfl ?_
    refine wi_iload_n rfl rfl ?_
    refine wn_imul (z := (Int32.ofNat (6 * r9))) rfl (mul_n (a := 6) (b := r9) (rfl : (6 : Int32) = Int32.ofNat 6) rfl) ?_
    refine wi_istore_n (l' := [.ref 134, .int n9, .int (Int32.ofNat (r9)), .int (Int32.ofNat (6 * r9))]) rfl (Nat.le_of_ble_eq_true rfl) rfl rfl ?_
    refine cp_in (t9 := tc r9) (by omega) (ht r9 (by omega)) (tc r9) 0 _ (by omega) u2_same (fun mi2 k1 k2 k3 => ?_)
    refine wi_iinc (z := (Int32.ofNat (r9 + 1))) rfl rfl rfl (add_n (a := r9) (b := 1) rfl rfl) rfl ?_
    refine wi_goto rfl ?_
    refine ih (r9 + 1) mi2 _ (by omega) (by rw [k1 134 (by decide) (by decide) (by decide), u2_ne (by decide)]; exact h47) (fun i hi => by rw [k1 162 (by decide) (by decide) (by decide), u2_ne (by decide)]; exact h162 i hi) (fun mi3 j1 j2 j3 => hQ mi3 (fun a a1 a2 a3 a4 => (j1 a a1 a2 a3 a4).trans ((k1 a a2 a3 a4).trans (u2_ne a1))) (fun i i1 i2 => ?_) (fun i i1 => ?_))
    · rcases Nat.lt_or_ge r9 i with i3 | i3
      · obtain ⟨q1, q2⟩ := j2 i (by omega) i2
        rw [k1 162 (by decide) (by decide) (by decide), u2_ne (by decide)] at q1
        rw [k1 163 (by decide) (by decide) (by decide), k1 164 (by decide) (by decide) (by decide), k1 165 (by decide) (by decide) (by decide), u2_ne (by decide), u2_ne (by decide), u2_ne (by decide)] at q2
        exact ⟨q1, q2⟩
      · have hir : i = r9 := by omega
        subst hir
        obtain ⟨q1, q2⟩ := j3 i (by omega)
        have hti := ht i i2
        refine ⟨?_, fun k hk => ?_⟩
        · rw [q1, k1 158 (by decide) (by decide) (by decide), u2_same]
          exact (h162 i i2).symm
        · obtain ⟨q3, q4, q5⟩ := q2 k (by omega)
          obtain ⟨q6, q7, q8⟩ := k2 (6 * i + k) (by omega) (by omega)
          rw [u2_ne (by decide)] at q6 q7 q8
          exact ⟨q3.trans q6, q4.trans q7, q5.trans q8⟩
    · obtain ⟨q1, q2⟩ := j3 i (by omega)
      refine ⟨?_, fun k hk => ?_⟩
      · rw [q1, k1 158 (by decide) (by decide) (by decide), u2_off (by omega)]
      · obtain ⟨q3, q4, q5⟩ := q2 k hk
        obtain ⟨q6, q7, q8⟩ := k3 (6 * i + k) (by omega)
        rw [u2_ne (by decide)] at q6 q7 q8
        exact ⟨q3.trans q6, q4.trans q7, q5.trans q8⟩
end RM
