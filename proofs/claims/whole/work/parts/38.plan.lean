/-! ===== plan ===== -/
def wc (w0 : six) (rn sn : Nat → Int32) : Nat → Nat → six
  | 0, _ => w0
  | k + 1, z => dayF (wc w0 rn sn k (z / 4)).1 (wc w0 rn sn k (z / 4)).2.1 (wc w0 rn sn k (z / 4)).2.2.1 (wc w0 rn sn k (z / 4)).2.2.2.1 (wc w0 rn sn k (z / 4)).2.2.2.2.1 (wc w0 rn sn k (z / 4)).2.2.2.2.2 (rn k) (sn k) (Int32.ofNat (z % 4)) 0
def cc : Nat → Nat → Nat
  | 0, _ => 0
  | k + 1, z => cc k (z / 4) + z % 4 % 2
def rc : Nat → Nat → Nat
  | 0, _ => 0
  | k + 1, z => rc k (z / 4) + z % 4 / 2
def dg (k z j : Nat) : Nat := z / 4 ^ (k - 1 - j) % 4
def bN (w : six) : Nat := (bncF w.1 w.2.2.2.1 w.2.2.2.2.1 w.2.2.2.2.2).toNatClampNeg
abbrev PS : Type := Option (Nat × Nat × Nat)
def mo (s : PS) : Int32 := match s with
  | none => -1
  | some x => Int32.ofNat x.1
def fo (s : PS) : Int32 := match s with
  | none => 0
  | some x => Int32.ofNat x.2.1
def lfP (n cov rol : Nat) (B : Nat → Nat) (z : Nat) (s : PS) : PS := if cc n z ≤ cov ∧ rc n z ≤ rol then (match s with
  | none => some (B z, cc n z + rc n z, z)
  | some x => if x.1 < B z ∨ (B z = x.1 ∧ cc n z + rc n z < x.2.1) then some (B z, cc n z + rc n z, z) else some x) else s
def trP (L : Nat → PS → PS) : Nat → Nat → PS → PS
  | 0, z, s => L z s
  | m + 1, z, s => trP L m (4 * z + 3) (trP L m (4 * z + 2) (trP L m (4 * z + 1) (trP L m (4 * z + 0) s)))
def fcP (L : Nat → PS → PS) : Nat → Nat → PS → PS
  | 0, _, s => s
  | c + 1, lo, s => fcP L c (lo + 1) (L lo s)
theorem fcP_add {L : Nat → PS → PS} : ∀ (a b lo : Nat) (s : PS), fcP L (a + b) lo s = fcP L b (lo + a) (fcP L a lo s) := by
  intro a
  induction a with
  | zero => intro b lo s; rw [Nat.zero_add]; rfl
  | succ a ih =>
    intro b lo s
    rw [show a + 1 + b = (a + b) + 1 by omega]
    show fcP L (a + b) (lo + 1) (L lo s) = fcP L b (lo + (a + 1)) (fcP L a (lo + 1) (L lo s))
    rw [ih, show lo + 1 + a = lo + (a + 1) by omega]
theorem tr_fc {L : Nat → PS → PS} : ∀ (m z : Nat) (s : PS), trP L m z s = fcP L (4 ^ m) (z * 4 ^ m) s := by
  intro m
  induction m with
  | zero =>
    intro z s
    rw [Nat.pow_zero, Nat.mul_one]
    rfl
  | succ m ih =>
    intro z s
    show trP L m (4 * z + 3) (trP L m (4 * z + 2) (trP L m (4 * z + 1) (trP L m (4 * z + 0) s))) = _
    rw [ih, ih, ih, ih]
    have e : 4 ^ (m + 1) = ((4 ^ m + 4 ^ m) + 4 ^ m) + 4 ^ m := by rw [Nat.pow_succ]; omega
    rw [e, fcP_add, fcP_add, fcP_add]
    have a0 : z * (((4 ^ m + 4 ^ m) + 4 ^ m) + 4 ^ m) = (4 * z + 0) * 4 ^ m := by rw [← e, Nat.pow_succ, Nat.add_zero, Nat.mul_comm 4 z, Nat.mul_assoc, Nat.mul_comm (4 ^ m) 4]
    have a1 : (4 * z + 1) * 4 ^ m = (4 * z + 0) * 4 ^ m + 4 ^ m := by rw [Nat.add_mul, Nat.one_mul]; rfl
    have a2 : (4 * z + 2) * 4 ^ m = (4 * z + 0) * 4 ^ m + (4 ^ m + 4 ^ m) := by rw [Nat.add_mul (4 * z) 2, Nat.add_zero]; omega
    have a3 : (4 * z + 3) * 4 ^ m = (4 * z + 0) * 4 ^ m + ((4 ^ m + 4 ^ m) + 4 ^ m) := by rw [Nat.add_mul (4 * z) 3, Nat.add_zero]; omega
    rw [a0, a1, a2, a3]
theorem c4 {z i : Nat} (hi : i < 4) : (4 * z + i) / 4 = z ∧ (4 * z + i) % 4 = i := by omega
theorem cc_s {k z i : Nat} (hi : i < 4) : cc (k + 1) (4 * z + i) = cc k z + i % 2 ∧ rc (k + 1) (4 * z + i) = rc k z + i / 2 := by
  have h := c4 (z := z) hi
  show cc k ((4 * z + i) / 4) + (4 * z + i) % 4 % 2 = _ ∧ rc k ((4 * z + i) / 4) + (4 * z + i) % 4 / 2 = _
  rw [h.1, h.2]
  exact ⟨rfl, rfl⟩
theorem wc_s {w0 : six} {rn sn : Nat → Int32} {k z i : Nat} (hi : i < 4) : wc w0 rn sn (k + 1) (4 * z + i) = dayF (wc w0 rn sn k z).1 (wc w0 rn sn k z).2.1 (wc w0 rn sn k z).2.2.1 (wc w0 rn sn k z).2.2.2.1 (wc w0 rn sn k z).2.2.2.2.1 (wc w0 rn sn k z).2.2.2.2.2 (rn k) (sn k) (Int32.ofNat i) 0 := by
  have h := c4 (z := z) hi
  show dayF (wc w0 rn sn k ((4 * z + i) / 4)).1 (wc w0 rn sn k ((4 * z + i) / 4)).2.1 (wc w0 rn sn k ((4 * z + i) / 4)).2.2.1 (wc w0 rn sn k ((4 * z + i) / 4)).2.2.2.1 (wc w0 rn sn k ((4 * z + i) / 4)).2.2.2.2.1 (wc w0 rn sn k ((4 * z + i) / 4)).2.2.2.2.2 (rn k) (sn k) (Int32.ofNat ((4 * z + i) % 4)) 0 = _
  rw [h.1, h.2]
theorem dg_s {k z i j : Nat} (hi : i < 4) (hj : j < k) : dg (k + 1) (4 * z + i) j = dg k z j := by
  unfold dg
  rw [show k + 1 - 1 - j = (k - 1 - j) + 1 by omega, Nat.pow_succ, Nat.mul_comm (4 ^ (k - 1 - j)) 4, ← Nat.div_div_eq_div_mul, (c4 (z := z) hi).1]
theorem dg_l {k z i : Nat} (hi : i < 4) : dg (k + 1) (4 * z + i) k = i := by
  unfold dg
  rw [show k + 1 - 1 - k = 0 by omega, Nat.pow_zero, Nat.div_one]
  exact (c4 hi).2
theorem dg_le {k z j : Nat} : dg k z j ≤ 3 := by
  unfold dg
  omega
theorem tr_skip {n cov rol : Nat} {B : Nat → Nat} : ∀ (m k z : Nat) (s : PS), k + m = n → (cov < cc k z ∨ rol < rc k z) → trP (lfP n cov rol B) m z s = s := by
  intro m
  induction m with
  | zero =>
    intro k z s hk h
    obtain rfl : k = n := by omega
    show lfP k cov rol B z s = s
    exact if_neg (by omega)
  | succ m ih =>
    intro k z s hk h
    have hs : ∀ i, i < 4 → ∀ s', trP (lfP n cov rol B) m (4 * z + i) s' = s' := fun i hi s' => ih (k + 1) (4 * z + i) s' (by omega) (by
      rw [(cc_s hi).1, (cc_s hi).2]
      omega)
    show trP (lfP n cov rol B) m (4 * z + 3) (trP (lfP n cov rol B) m (4 * z + 2) (trP (lfP n cov rol B) m (4 * z + 1) (trP (lfP n cov rol B) m (4 * z + 0) s))) = s
    rw [hs 0 (by decide), hs 1 (by decide), hs 2 (by decide), hs 3 (by decide)]
theorem bN_eq (w : six) : bncF w.1 w.2.2.2.1 w.2.2.2.2.1 w.2.2.2.2.2 = Int32.ofNat (bN w) ∧ bN w < 2147483648 := by
  obtain ⟨x, hx⟩ : ∃ x : Int32, bncF w.1 w.2.2.2.1 w.2.2.2.2.1 w.2.2.2.2.2 = if 0 < x then x else 0 := ⟨_, rfl⟩
  unfold bN
  rw [hx]
  have h0 : 0 ≤ (if 0 < x then x else 0 : Int32).toInt := by
    by_cases h : 0 < x
    · rw [if_pos h]
      rw [Int32.lt_iff_toInt_lt] at h
      have z0 : (0 : Int32).toInt = 0 := rfl
      omega
    · rw [if_neg h]
      decide
  obtain ⟨q, e1, e2⟩ := nat_of h0
  have h3 := (if 0 < x then x else 0 : Int32).toInt_lt
  rw [cl_n e1 (by omega)]
  exact ⟨e1, by omega⟩
theorem cc_le : ∀ k z, cc k z ≤ k ∧ rc k z ≤ k := by
  intro k
  induction k with
  | zero => intro z; exact ⟨Nat.le_refl _, Nat.le_refl _⟩
  | succ k ih =>
    intro z
    have h := ih (z / 4)
    show cc k (z / 4) + z % 4 % 2 ≤ _ ∧ rc k (z / 4) + z % 4 / 2 ≤ _
    omega
theorem gtm1 {a : Nat} (h : a < 2147483648) : (-1 : Int32) < Int32.ofNat a := by
  rw [Int32.lt_iff_toInt_lt, i32_toInt h, show (-1 : Int32).toInt = -1 from rfl]
  omega
theorem nm2 {j : Nat} (h : j < 2147483648) : ¬ (Int32.ofNat j = -1) := by
  intro h1
  have h2 := congrArg Int32.toInt h1
  rw [i32_toInt h] at h2
  have h3 : (-1 : Int32).toInt = -1 := rfl
  omega
theorem shl1 {n : Nat} (h : n ≤ 6) : ((1 : Int32) <<< (Int32.ofNat (2 * n) &&& 31)) = Int32.ofNat (4 ^ n) := (show ∀ n, n < 7 → ((1 : Int32) <<< (Int32.ofNat (2 * n) &&& 31)) = Int32.ofNat (4 ^ n) from by decide) n (by omega)
theorem shr_dg {z e : Nat} (hz : z < 2147483648) (he : e ≤ 5) : ((Int32.ofNat z >>> (Int32.ofNat (2 * e) &&& 31)) &&& 3) = Int32.ofNat (z / 4 ^ e % 4) := by
  have h1 : ((Int32.ofNat (2 * e) &&& 31 : Int32).toBitVec.smod 32).toNat = 2 * e := (show ∀ e, e < 6 → ((Int32.ofNat (2 * e) &&& 31 : Int32).toBitVec.smod 32).toNat = 2 * e from by decide) e (by omega)
  have h2 : Int32.ofNat z >>> (Int32.ofNat (2 * e) &&& 31) = Int32.ofNat (z / 2 ^ (2 * e)) := pk_shrN (n := z) (by omega) _ _ h1
  have e4 : (2 : Nat) ^ (2 * e) = 4 ^ e := by rw [Nat.pow_mul]
  rw [h2, e4]
  have h3 : z / 4 ^ e ≤ z := Nat.div_le_self _ _
  exact pk_andN (n := z / 4 ^ e) (by omega) 2 (by decide)
theorem and1_n {a : Nat} (h : a < 4) : (Int32.ofNat a &&& 1) = Int32.ofNat (a % 2) := (show ∀ a, a < 4 → (Int32.ofNat a &&& 1) = Int32.ofNat (a % 2) from by decide) a h
theorem shr1_n {a : Nat} (h : a < 4) : (Int32.ofNat a >>> ((1 : Int32) &&& 31)) = Int32.ofNat (a / 2) := (show ∀ a, a < 4 → (Int32.ofNat a >>> ((1 : Int32) &&& 31)) = Int32.ofNat (a / 2) from by decide) a h
/-- the class's planner, what was tried taken in -/
def PI (mi0 : Nat → Nat → Int32) (n : Nat) (s : PS) (mi1 : Nat → Nat → Int32) : Prop :=
  (∀ a, a ≠ 13 → a ≠ 15 → a ≠ 16 → (a < 20 ∨ 26 ≤ a) → mi1 a = mi0 a) ∧ (∀ j, j ≠ 6 → j ≠ 7 → mi1 13 j = mi0 13 j) ∧ mi1 13 6 = mo s ∧ mi1 13 7 = fo s ∧
  (∀ x, s = some x → (∀ j, j < n → mi1 16 j = Int32.ofNat (dg n x.2.2 j)) ∧ x.1 < 2147483648 ∧ x.2.1 ≤ 12)
theorem PI_fr {mi0 mi1 mi2 : Nat → Nat → Int32} {n : Nat} {s : PS} (h : PI mi0 n s mi1) (ho : ∀ a, a ≠ 15 → (a < 20 ∨ 26 ≤ a) → mi2 a = mi1 a) : PI mi0 n s mi2 := by
  obtain ⟨h1, h2, h3, h4, h5⟩ := h
  have e13 := ho 13 (by decide) (by decide)
  have e16 := ho 16 (by decide) (by decide)
  refine ⟨fun a a1 a2 a3 a4 => (ho a a2 a4).trans (h1 a a1 a2 a3 a4), ?_, ?_, ?_, ?_⟩
  · rw [e13]; exact h2
  · rw [e13]; exact h3
  · rw [e13]; exact h4
  · rw [e16]; exact h5
theorem sx_up6 {mi : Nat → Nat → Int32} {a : Nat} {w : six} : sx (up6 mi a w a) = w := by
  unfold up6 sx
  simp only [upT_rd]
  rfl
theorem lf_none {n cov rol z : Nat} {B : Nat → Nat} (hc : cc n z ≤ cov) (hr : rc n z ≤ rol) : lfP n cov rol B z none = some (B z, cc n z + rc n z, z) := if_pos ⟨hc, hr⟩
theorem lf_upd {n cov rol z : Nat} {B : Nat → Nat} {x : Nat × Nat × Nat} (hc : cc n z ≤ cov) (hr : rc n z ≤ rol) (h : x.1 < B z ∨ (B z = x.1 ∧ cc n z + rc n z < x.2.1)) : lfP n cov rol B z (some x) = some (B z, cc n z + rc n z, z) := (if_pos ⟨hc, hr⟩).trans (if_pos h)
theorem lf_no {n cov rol z : Nat} {B : Nat → Nat} {x : Nat × Nat × Nat} (hc : cc n z ≤ cov) (hr : rc n z ≤ rol) (h : ¬ (x.1 < B z ∨ (B z = x.1 ∧ cc n z + rc n z < x.2.1))) : lfP n cov rol B z (some x) = some x := (if_pos ⟨hc, hr⟩).trans (if_neg h)
theorem lf_out {n cov rol z : Nat} {B : Nat → Nat} {s : PS} (h : ¬ (cc n z ≤ cov ∧ rc n z ≤ rol)) : lfP n cov rol B z s = s := if_neg h
theorem pl_mem {mi1 : Nat → Nat → Int32} {k A B : Nat} {c r u : Int32} (hA : A ≠ 15) (hB : B ≠ 15) (hAB : B ≠ A) {m2 m3 : Nat → Nat → Int32} (e2 : m2 = upT (u2 mi1 15 k c) A (u2 mi1 15 k c B 0) (u2 mi1 15 k c B 1) (u2 mi1 15 k c B 2) (u2 mi1 15 k c B 3) (u2 mi1 15 k c B 4) (u2 mi1 15 k c B 5))
    (e3 : m3 = up6 m2 A (dayF (m2 A 0) (m2 A 1) (m2 A 2) (m2 A 3) (m2 A 4) (m2 A 5) r u c 0)) : (∀ a, a ≠ 15 → a ≠ A → m3 a = mi1 a) ∧ (∀ j, m3 15 j = if j = k then c else mi1 15 j) ∧ sx (m3 A) = dayF (sx (mi1 B)).1 (sx (mi1 B)).2.1 (sx (mi1 B)).2.2.1 (sx (mi1 B)).2.2.2.1 (sx (mi1 B)).2.2.2.2.1 (sx (mi1 B)).2.2.2.2.2 r u c 0 := by
  have f : ∀ a, a ≠ A → m3 a = u2 mi1 15 k c a := fun a ha => by
    rw [e3, up6_ne ha, e2, upT_ne ha]
  refine ⟨fun a h1 h2 => (f a h2).trans (u2_ne h1), fun j => ?_, ?_⟩
  · rw [f 15 (fun h => hA h.symm), u2_rd]
  · have g : sx (m3 A) = dayF (m2 A 0) (m2 A 1) (m2 A 2) (m2 A 3) (m2 A 4) (m2 A 5) r u c 0 := by
      rw [e3, sx_up6]
    rw [g]
    have q : ∀ j, j < 6 → m2 A j = mi1 B j := fun j hj => by
      rw [e2, upT_rd, u2_ne hB]
      rcases j with _ | _ | _ | _ | _ | _ | j
      all_goals first | rfl | omega
    rw [q 0 (by decide), q 1 (by decide), q 2 (by decide), q 3 (by decide), q 4 (by decide), q 5 (by decide)]
    rfl
section PL
variable {X : Nat × (Nat → Int32)} {d : Nat} {Q : Option Value → am_M → Prop} {ml : Nat → Nat → Int64} {b : Bool} {mi0 : Nat → Nat → Int32} {n cov rol : Nat} {w0 : six} {rn sn : Nat → Int32}
theorem wg_l {wk : Nat} {x2 : Int32} (hn : n ≤ 6) : ∀ r i (mi1 : Nat → Nat → Int32), i + r = n → mi1 13 5 = Int32.ofNat n → (∀ mi2 : Nat → Nat → Int32, (∀ a, a ≠ 16 → mi2 a = mi1 a) → (∀ j, i ≤ j → j < n → mi2 16 j = mi1 15 j) → (∀ j, j < i → mi2 16 j = mi1 16 j) → Q none (am_shT, mrL b, mi2, ml)) → am_wp X d 23 27 [.ref 13, .int (Int32.ofNat (wk)), .int x2, .int (Int32.ofNat (i))] [] (am_shT, mrL b, mi1, ml) Q := by
  intro r
  induction r with
  | zero =>
    intro i mi1 hi h5 hQ
    refine wi_iload_n rfl rfl ?_
    refine wi_aload_n rfl rfl ?_
    refine wi_getIv (v := (Int32.ofNat (n))) rfl (kd_13 ..) h5 ?_
    refine wi_icmp_ge rfl (fun _ => ?_) (fun h9 => absurd trivial (by exfalso; have h8 := (not_congr (le_n (a := n) (b := i) rfl rfl (by omega) (by omega))).mp h9; omega))
    refine wi_ret rfl ?_
    obtain rfl : i = n := by omega
    exact hQ mi1 (fun _ _ => rfl) (fun j h1 h2 => absurd h1 (by omega)) (fun _ _ => rfl)
  | succ r ih =>
    intro i mi1 hi h5 hQ
    refine wi_iload_n rfl rfl ?_
    refine wi_aload_n rfl rfl ?_
    refine wi_getIv (v := (Int32.ofNat (n))) rfl (kd_13 ..) h5 ?_
    refine wi_icmp_ge rfl (fun h9 => absurd trivial (by exfalso; have h8 := (le_n (a := n) (b := i) rfl rfl (by omega) (by omega)).mp h9; omega)) (fun _ => ?_)
    refine wi_aload_n rfl rfl ?_
    refine wi_getR rfl (kd_13 ..) (rd_13_2 _) ?_
    refine wi_iload_n rfl rfl ?_
    refine wi_aload_n rfl rfl ?_
    refine wi_getR rfl (kd_13 ..) (rd_13_1 _) ?_
    refine wi_iload_n rfl rfl ?_
    refine wn_iaload (q := i) (v := (mi1 15 i)) rfl (ln_15 ..) rfl (by omega) (by decide) (by decide) (by decide) rfl ?_
    refine wn_iastore (q := i) rfl (ln_16 ..) rfl (by omega) (by decide) ?_
    refine wi_iinc (z := (Int32.ofNat (i + 1))) rfl rfl rfl (add_n (a := i) (b := 1) rfl rfl) rfl ?_
    refine wi_goto rfl ?_
    refine ih (i + 1) (u2 mi1 16 i (mi1 15 i)) (by omega) h5 (fun mi2 h1 h2 h3 => hQ mi2 (fun a ha => (h1 a ha).trans (u2_ne ha)) (fun j k1 k2 => ?_) (fun j k1 => ?_))
    · rcases Nat.lt_or_ge i j with k3 | k3
      · exact (h2 j (by omega) k2).trans (congrFun (u2_ne (by decide)) j)
      · rw [show j = i by omega, h3 i (by omega), u2_same]
    · rw [h3 j (by omega), u2_off (by omega)]
theorem c_bounceZ {mi : Nat → Nat → Int32} {a : Nat} {z : Int32} (hk : am_kd (am_shT, mrL b, mi, ml) a = 8) (hz : bncF (mi a 0) (mi a 3) (mi a 4) (mi a 5) = z) (hQ : Q (some (.int z)) (am_shT, mrL b, mi, ml)) : am_wp X d 93 0 [.ref a, .retAddr 0] [] (am_shT, mrL b, mi, ml) Q := c_bounce hk (by rw [hz]; exact hQ)
theorem c_weigh {B : Nat → Nat} {z : Nat} {s : PS} {mi1 : Nat → Nat → Int32} (hn : n ≤ 6) (h5 : mi1 13 5 = Int32.ofNat n) (hP : PI mi0 n s mi1) (hT : ∀ j, j < n → mi1 15 j = Int32.ofNat (dg n z j)) (hB1 : bncF (mi1 (19 + n) 0) (mi1 (19 + n) 3) (mi1 (19 + n) 4) (mi1 (19 + n) 5) = Int32.ofNat (B z)) (hB2 : B z < 2147483648) (hc : cc n z ≤ cov) (hr : rc n z ≤ rol)
    (hQ : ∀ mi2, PI mi0 n (lfP n cov rol B z s) mi2 → (∀ j, j < n → mi2 15 j = mi1 15 j) → (∀ j, j ≤ n → mi2 (19 + j) = mi1 (19 + j)) → Q none (am_shT, mrL b, mi2, ml)) : am_wp X (d + 1) 23 0 [.ref 13, .int (Int32.ofNat (cc n z + rc n z)), .retAddr 0, .retAddr 0] [] (am_shT, mrL b, mi1, ml) Q := by
  have hcl := cc_le n z
  rcases s with _ | x
  · have h6 : mi1 13 6 = -1 := hP.2.2.1
    have h7 : mi1 13 7 = 0 := hP.2.2.2.1
    refine wi_aload_n rfl rfl ?_
    refine wi_getR rfl (kd_13 ..) (rd_13_0 _) ?_
    refine wi_aload_n rfl rfl ?_
    refine wi_getIv (v := (Int32.ofNat (n))) rfl (kd_13 ..) h5 ?_
    refine wn_aaload (q := n) rfl (Or.inl (ln_14 ..)) rfl (by omega) (by decide) (ra_14 _ _ (by omega)) ?_
    refine wi_callV0 rfl (by decide) (by decide) rfl (kr_14 (by omega) ..) rfl rfl rfl (c_bounceZ (kr_14 (by omega) ..) hB1 ?_)
    refine wi_istore_n (l' := [.ref 13, .int (Int32.ofNat (cc n z + rc n z)), .int (Int32.ofNat (B z)), .retAddr 0]) rfl (Nat.le_of_ble_eq_true rfl) rfl rfl ?_
    refine wi_iload_n rfl rfl ?_
    refine wi_aload_n rfl rfl ?_
    refine wi_getIv (v := (-1 : Int32)) rfl (kd_13 ..) h6 ?_
    refine wi_icmp_gt rfl (fun _ => ?_) (fun h9 => absurd (gtm1 (by omega)) h9)
    refine wi_aload_n rfl rfl ?_
    refine wi_iload_n rfl rfl ?_
    refine wi_putI rfl (kd_13 ..) ?_
    refine wi_aload_n rfl rfl ?_
    refine wi_iload_n rfl rfl ?_
    refine wi_putI rfl (kd_13 ..) ?_
    refine wi_iconst (x := 0) rfl rfl ?_
    refine wi_istore_n (l' := [.ref 13, .int (Int32.ofNat (cc n z + rc n z)), .int (Int32.ofNat (B z)), .int (0 : Int32)]) rfl (Nat.le_of_ble_eq_true rfl) rfl rfl ?_
    have hL : lfP n cov rol B z none = some (B z, cc n z + rc n z, z) := by
        exact lf_none hc hr
    refine wg_l hn n 0 _ (by omega) h5 (fun mi2 k1 k2 k3 => ?_)
    refine hQ mi2 ?_ (fun j hj => congrFun (k1 15 (by decide)) j) (fun j hj => (k1 (19 + j) (by omega)).trans ((u2_ne (by omega)).trans (u2_ne (by omega))))
    rw [hL]
    refine ⟨fun a a1 a2 a3 a4 => ?_, fun j j1 j2 => ?_, ?_, ?_, fun y hy => ?_⟩
    · rw [k1 a a3, u2_ne a1, u2_ne a1]
      exact hP.1 a a1 a2 a3 a4
    · rw [k1 13 (by decide), u2_off j2, u2_off j1]
      exact hP.2.1 j j1 j2
    · rw [k1 13 (by decide), u2_off (by decide), u2_same]
      rfl
    · rw [k1 13 (by decide), u2_same]
      rfl
    · cases hy
      refine ⟨fun j hj => ?_, hB2, by have := cc_le n z; show cc n z + rc n z ≤ 12; omega⟩
      rw [k2 j (by omega) hj]
      exact hT j hj
  · have h6 : mi1 13 6 = Int32.ofNat x.1 := hP.2.2.1
    have h7 : mi1 13 7 = Int32.ofNat x.2.1 := hP.2.2.2.1
    have hx := (hP.2.2.2.2 x rfl).2
    refine wi_aload_n rfl rfl ?_
    refine wi_getR rfl (kd_13 ..) (rd_13_0 _) ?_
    refine wi_aload_n rfl rfl ?_
    refine wi_getIv (v := (Int32.ofNat (n))) rfl (kd_13 ..) h5 ?_
    refine wn_aaload (q := n) rfl (Or.inl (ln_14 ..)) rfl (by omega) (by decide) (ra_14 _ _ (by omega)) ?_
    refine wi_callV0 rfl (by decide) (by decide) rfl (kr_14 (by omega) ..) rfl rfl rfl (c_bounceZ (kr_14 (by omega) ..) hB1 ?_)
    refine wi_istore_n (l' := [.ref 13, .int (Int32.ofNat (cc n z + rc n z)), .int (Int32.ofNat (B z)), .retAddr 0]) rfl (Nat.le_of_ble_eq_true rfl) rfl rfl ?_
    refine wi_iload_n rfl rfl ?_
    refine wi_aload_n rfl rfl ?_
    refine wi_getIv (v := (Int32.ofNat (x.1))) rfl (kd_13 ..) h6 ?_
    refine wi_icmp_gt rfl (fun g1 => ?_) (fun g1 => ?_)
    · replace g1 := (lt_n (a := x.1) (b := B z) rfl rfl (by omega) (by omega)).mp g1
      refine wi_aload_n rfl rfl ?_
      refine wi_iload_n rfl rfl ?_
      refine wi_putI rfl (kd_13 ..) ?_
      refine wi_aload_n rfl rfl ?_
      refine wi_iload_n rfl rfl ?_
      refine wi_putI rfl (kd_13 ..) ?_
      refine wi_iconst (x := 0) rfl rfl ?_
      refine wi_istore_n (l' := [.ref 13, .int (Int32.ofNat (cc n z + rc n z)), .int (Int32.ofNat (B z)), .int (0 : Int32)]) rfl (Nat.le_of_ble_eq_true rfl) rfl rfl ?_
      have hL : lfP n cov rol B z (some x) = some (B z, cc n z + rc n z, z) := by
          exact lf_upd hc hr (by omega)
      refine wg_l hn n 0 _ (by omega) h5 (fun mi2 k1 k2 k3 => ?_)
      refine hQ mi2 ?_ (fun j hj => congrFun (k1 15 (by decide)) j) (fun j hj => (k1 (19 + j) (by omega)).trans ((u2_ne (by omega)).trans (u2_ne (by omega))))
      rw [hL]
      refine ⟨fun a a1 a2 a3 a4 => ?_, fun j j1 j2 => ?_, ?_, ?_, fun y hy => ?_⟩
      · rw [k1 a a3, u2_ne a1, u2_ne a1]
        exact hP.1 a a1 a2 a3 a4
      · rw [k1 13 (by decide), u2_off j2, u2_off j1]
        exact hP.2.1 j j1 j2
      · rw [k1 13 (by decide), u2_off (by decide), u2_same]
        rfl
      · rw [k1 13 (by decide), u2_same]
        rfl
      · cases hy
        refine ⟨fun j hj => ?_, hB2, by have := cc_le n z; show cc n z + rc n z ≤ 12; omega⟩
        rw [k2 j (by omega) hj]
        exact hT j hj
    · replace g1 := (not_congr (lt_n (a := x.1) (b := B z) rfl rfl (by omega) (by omega))).mp g1
      refine wi_iload_n rfl rfl ?_
      refine wi_aload_n rfl rfl ?_
      refine wi_getIv (v := (Int32.ofNat (x.1))) rfl (kd_13 ..) h6 ?_
      refine wi_icmp_ne rfl (fun g2 => ?_) (fun g2 => ?_)
      · replace g2 := (ne_n (a := B z) (b := x.1) rfl rfl (by omega) (by omega)).mp g2
        refine wi_ret rfl ?_
        have hL : lfP n cov rol B z (some x) = some x := by
          exact lf_no hc hr (by omega)
        rw [hL] at hQ
        exact hQ mi1 hP (fun _ _ => rfl) (fun _ _ => rfl)
      · replace g2 := (not_congr (ne_n (a := B z) (b := x.1) rfl rfl (by omega) (by omega))).mp g2
        refine wi_iload_n rfl rfl ?_
        refine wi_aload_n rfl rfl ?_
        refine wi_getIv (v := (Int32.ofNat (x.2.1))) rfl (kd_13 ..) h7 ?_
        refine wi_icmp_ge rfl (fun g3 => ?_) (fun g3 => ?_)
        · replace g3 := (le_n (a := x.2.1) (b := cc n z + rc n z) rfl rfl (by omega) (by omega)).mp g3
          refine wi_ret rfl ?_
          have hL : lfP n cov rol B z (some x) = some x := by
            exact lf_no hc hr (by omega)
          rw [hL] at hQ
          exact hQ mi1 hP (fun _ _ => rfl) (fun _ _ => rfl)
        · replace g3 := (not_congr (le_n (a := x.2.1) (b := cc n z + rc n z) rfl rfl (by omega) (by omega))).mp g3
          refine wi_aload_n rfl rfl ?_
          refine wi_iload_n rfl rfl ?_
          refine wi_putI rfl (kd_13 ..) ?_
          refine wi_aload_n rfl rfl ?_
          refine wi_iload_n rfl rfl ?_
          refine wi_putI rfl (kd_13 ..) ?_
          refine wi_iconst (x := 0) rfl rfl ?_
          refine wi_istore_n (l' := [.ref 13, .int (Int32.ofNat (cc n z + rc n z)), .int (Int32.ofNat (B z)), .int (0 : Int32)]) rfl (Nat.le_of_ble_eq_true rfl) rfl rfl ?_
          have hL : lfP n cov rol B z (some x) = some (B z, cc n z + rc n z, z) := by
              exact lf_upd hc hr (by omega)
          refine wg_l hn n 0 _ (by omega) h5 (fun mi2 k1 k2 k3 => ?_)
          refine hQ mi2 ?_ (fun j hj => congrFun (k1 15 (by decide)) j) (fun j hj => (k1 (19 + j) (by omega)).trans ((u2_ne (by omega)).trans (u2_ne (by omega))))
          rw [hL]
          refine ⟨fun a a1 a2 a3 a4 => ?_, fun j j1 j2 => ?_, ?_, ?_, fun y hy => ?_⟩
          · rw [k1 a a3, u2_ne a1, u2_ne a1]
            exact hP.1 a a1 a2 a3 a4
          · rw [k1 13 (by decide), u2_off j2, u2_off j1]
            exact hP.2.1 j j1 j2
          · rw [k1 13 (by decide), u2_off (by decide), u2_same]
            rfl
          · rw [k1 13 (by decide), u2_same]
            rfl
          · cases hy
            refine ⟨fun j hj => ?_, hB2, by have := cc_le n z; show cc n z + rc n z ≤ 12; omega⟩
            rw [k2 j (by omega) hj]
            exact hT j hj
theorem tf_0 {k m z : Nat} {s : PS} {mi1 : Nat → Nat → Int32} {v6 v7 : Value} (ih : ∀ (z : Nat) (s : PS) (mi1 : Nat → Nat → Int32) (Q : Option Value → am_M → Prop), mi1 13 5 = Int32.ofNat n → PI mi0 n s mi1 → (∀ j, j < k + 1 → mi1 15 j = Int32.ofNat (dg (k + 1) z j)) → sx (mi1 (19 + (k + 1))) = wc w0 rn sn (k + 1) z → cc (k + 1) z ≤ cov → rc (k + 1) z ≤ rol →
    (∀ mi2, PI mi0 n (trP (lfP n cov rol (fun z => bN (wc w0 rn sn n z))) m z s) mi2 → (∀ j, j < k + 1 → mi2 15 j = mi1 15 j) → (∀ j, j ≤ k + 1 → mi2 (19 + j) = mi1 (19 + j)) → Q none (am_shT, mrL b, mi2, ml)) → am_wp X (d + m + 3) 22 0 [.ref 13, .int (Int32.ofNat (k + 1)), .int (Int32.ofNat (cov - cc (k + 1) z)), .int (Int32.ofNat (rol - rc (k + 1) z)), .int (Int32.ofNat (cc (k + 1) z + rc (k + 1) z)), .retAddr 0, .retAddr 0, .retAddr 0] [] (am_shT, mrL b, mi1, ml) Q)
    (hkm : k + (m + 1) = n) (hn : n ≤ 6) (hcv : cov ≤ 6) (hrl : rol ≤ 6) (hrn : mi1 17 k = rn k) (hsn : mi1 18 k = sn k) (h5 : mi1 13 5 = Int32.ofNat n) (hP : PI mi0 n s mi1) (hT : ∀ j, j < k → mi1 15 j = Int32.ofNat (dg k z j)) (hW : sx (mi1 (19 + k)) = wc w0 rn sn k z) (hc : cc k z ≤ cov) (hr : rc k z ≤ rol)
    (hQ : ∀ mi2, PI mi0 n (trP (lfP n cov rol (fun z => bN (wc w0 rn sn n z))) m (4 * z + 0) s) mi2 → (∀ j, j < k → mi2 15 j = mi1 15 j) → (∀ j, j ≤ k → mi2 (19 + j) = mi1 (19 + j)) → ∀ v6 v7 : Value, am_wp X (d + (m + 1) + 3) 22 13 [.ref 13, .int (Int32.ofNat (k)), .int (Int32.ofNat (cov - cc k z)), .int (Int32.ofNat (rol - rc k z)), .int (Int32.ofNat (cc k z + rc k z)), .int (1 : Int32), v6, v7] [] (am_shT, mrL b, mi2, ml) Q) :
    am_wp X (d + (m + 1) + 3) 22 13 [.ref 13, .int (Int32.ofNat (k)), .int (Int32.ofNat (cov - cc k z)), .int (Int32.ofNat (rol - rc k z)), .int (Int32.ofNat (cc k z + rc k z)), .int (0 : Int32), v6, v7] [] (am_shT, mrL b, mi1, ml) Q := by
  have hcl := cc_le k z
  refine wi_iload rfl rfl ?_
  refine wi_iconst (x := 3) rfl rfl ?_
  refine wi_icmp_gt rfl (fun h9 => absurd h9 (by decide)) (fun _ => ?_)
  refine wi_iload rfl rfl ?_
  refine wi_iconst (x := 1) rfl rfl ?_
  refine wi_iand rfl ?_
  rw [show (((0 : Int32) &&& (1 : Int32)) : Int32) = (0 : Int32) from by decide]
  refine wi_istore (l' := [.ref 13, .int (Int32.ofNat (k)), .int (Int32.ofNat (cov - cc k z)), .int (Int32.ofNat (rol - rc k z)), .int (Int32.ofNat (cc k z + rc k z)), .int (0 : Int32), .int (0 : Int32), v7]) rfl (Nat.le_of_ble_eq_true rfl) rfl rfl ?_
  refine wi_iload rfl rfl ?_
  refine wi_iconst (x := 2) rfl rfl ?_
  refine wi_iand rfl ?_
  rw [show (((0 : Int32) &&& (2 : Int32)) : Int32) = (0 : Int32) from by decide]
  refine wi_iconst (x := 2) rfl rfl ?_
  refine wi_idiv rfl (by decide) ?_
  rw [show ((0 : Int32) / (2 : Int32)) = (0 : Int32) from by decide]
  refine wi_istore (l' := [.ref 13, .int (Int32.ofNat (k)), .int (Int32.ofNat (cov - cc k z)), .int (Int32.ofNat (rol - rc k z)), .int (Int32.ofNat (cc k z + rc k z)), .int (0 : Int32), .int (0 : Int32), .int (0 : Int32)]) rfl (Nat.le_of_ble_eq_true rfl) rfl rfl ?_
  refine wi_iload rfl rfl ?_
  refine wi_iload_n rfl rfl ?_
  refine wi_icmp_gt rfl (fun h9 => absurd trivial (by exfalso; have h8 := (lt_n (a := cov - cc k z) (b := 0) rfl (rfl : (0 : Int32) = Int32.ofNat 0) (by omega) (by omega)).mp h9; omega)) (fun _ => ?_)
  refine wi_iload rfl rfl ?_
  refine wi_iload_n rfl rfl ?_
  refine wi_icmp_gt rfl (fun h9 => absurd trivial (by exfalso; have h8 := (lt_n (a := rol - rc k z) (b := 0) rfl (rfl : (0 : Int32) = Int32.ofNat 0) (by omega) (by omega)).mp h9; omega)) (fun _ => ?_)
  refine wi_aload_n rfl rfl ?_
  refine wi_getR rfl (kd_13 ..) (rd_13_1 _) ?_
  refine wi_iload_n rfl rfl ?_
  refine wi_iload rfl rfl ?_
  refine wn_iastore (q := k) rfl (ln_15 ..) rfl (by omega) (by decide) ?_
  refine wi_aload_n rfl rfl ?_
  refine wi_getR rfl (kd_13 ..) (rd_13_0 _) ?_
  refine wi_iload_n rfl rfl ?_
  refine wi_iconst (x := 1) rfl rfl ?_
  refine wn_iadd (z := (Int32.ofNat (k + 1))) rfl (add_n (a := k) (b := 1) rfl (rfl : (1 : Int32) = Int32.ofNat 1)) ?_
  refine wn_aaload (q := k + 1) rfl (Or.inl (ln_14 ..)) rfl (by omega) (by decide) (ra_14 _ _ (by omega)) ?_
  refine wi_aload_n rfl rfl ?_
  refine wi_getR rfl (kd_13 ..) (rd_13_0 _) ?_
  refine wi_iload_n rfl rfl ?_
  refine wn_aaload (q := k) rfl (Or.inl (ln_14 ..)) rfl (by omega) (by decide) (ra_14 _ _ (by omega)) ?_
  refine wi_callV1 rfl (by decide) (by decide) rfl (kr_14 (by omega) ..) rfl rfl rfl (c_copyFrom (kr_14 (by omega) ..) (kr_14 (by omega) ..) (by omega) (gen_wp (fun mi2 e2 => ?_)))
  refine wi_aload_n rfl rfl ?_
  refine wi_getR rfl (kd_13 ..) (rd_13_0 _) ?_
  refine wi_iload_n rfl rfl ?_
  refine wi_iconst (x := 1) rfl rfl ?_
  refine wn_iadd (z := (Int32.ofNat (k + 1))) rfl (add_n (a := k) (b := 1) rfl (rfl : (1 : Int32) = Int32.ofNat 1)) ?_
  refine wn_aaload (q := k + 1) rfl (Or.inl (ln_14 ..)) rfl (by omega) (by decide) (ra_14 _ _ (by omega)) ?_
  refine wi_aload_n rfl rfl ?_
  refine wi_getR rfl (kd_13 ..) (rd_13_3 _) ?_
  refine wi_iload_n rfl rfl ?_
  refine wn_iaload (q := k) (v := rn k) rfl (ln_17 ..) rfl (by omega) (by decide) (by decide) (by decide) (by rw [e2, upT_ne (by omega), u2_ne (by decide)]; exact hrn) ?_
  refine wi_aload_n rfl rfl ?_
  refine wi_getR rfl (kd_13 ..) (rd_13_4 _) ?_
  refine wi_iload_n rfl rfl ?_
  refine wn_iaload (q := k) (v := sn k) rfl (ln_18 ..) rfl (by omega) (by decide) (by decide) (by decide) (by rw [e2, upT_ne (by omega), u2_ne (by decide)]; exact hsn) ?_
  refine wi_iload rfl rfl ?_
  refine wi_iconst (x := 0) rfl rfl ?_
  refine wi_callV4 rfl (by decide) (by decide) rfl (kr_14 (by omega) ..) rfl rfl rfl (c_passDay (kr_14 (by omega) ..) (gen_wp (fun mi3 e3 => ?_)))
  obtain ⟨hF1, hF2, hF3⟩ := pl_mem (A := 19 + (k + 1)) (B := 19 + k) (c := 0) (r := rn k) (u := sn k) (by omega) (by omega) (by omega) e2 e3
  have q1 := cc_s (k := k) (z := z) (i := 0) (by decide)
  have g5 : mi3 13 5 = Int32.ofNat n := by rw [hF1 13 (by decide) (by omega)]; exact h5
  have gP : PI mi0 n s mi3 := PI_fr hP (fun a a1 a2 => hF1 a a1 (by omega))
  have gT : ∀ j, j < k + 1 → mi3 15 j = Int32.ofNat (dg (k + 1) (4 * z + 0) j) := fun j hj => by
    rw [hF2 j]
    by_cases hjk : j = k
    · rw [if_pos hjk, hjk, dg_l (by decide)]
      rfl
    · rw [if_neg hjk, dg_s (by decide) (by omega)]
      exact hT j (by omega)
  have gW : sx (mi3 (19 + (k + 1))) = wc w0 rn sn (k + 1) (4 * z + 0) := by
    rw [hF3, wc_s (by decide), hW]
    rfl
  have gI := fun Q9 => ih (4 * z + 0) s mi3 Q9 g5 gP gT gW (by omega) (by omega)
  simp only [q1.1, q1.2, show 0 % 2 = 0 from rfl, show 0 / 2 = 0 from rfl] at gI
  rw [show cov - (cc k z + 0) = cov - cc k z - 0 by omega, show rol - (rc k z + 0) = rol - rc k z - 0 by omega, show cc k z + 0 + (rc k z + 0) = cc k z + rc k z + 0 + 0 by omega] at gI
  refine wi_aload_n rfl rfl ?_
  refine wi_iload_n rfl rfl ?_
  refine wi_iconst (x := 1) rfl rfl ?_
  refine wn_iadd (z := (Int32.ofNat (k + 1))) rfl (add_n (a := k) (b := 1) rfl (rfl : (1 : Int32) = Int32.ofNat 1)) ?_
  refine wi_iload_n rfl rfl ?_
  refine wi_iload rfl rfl ?_
  refine wn_isub (z := (Int32.ofNat (cov - cc k z - 0))) rfl (sub_n (a := cov - cc k z) (b := 0) rfl (rfl : (0 : Int32) = Int32.ofNat 0) (by omega)) ?_
  refine wi_iload_n rfl rfl ?_
  refine wi_iload rfl rfl ?_
  refine wn_isub (z := (Int32.ofNat (rol - rc k z - 0))) rfl (sub_n (a := rol - rc k z) (b := 0) rfl (rfl : (0 : Int32) = Int32.ofNat 0) (by omega)) ?_
  refine wi_iload rfl rfl ?_
  refine wi_iload rfl rfl ?_
  refine wn_iadd (z := (Int32.ofNat (cc k z + rc k z + 0))) rfl (add_n (a := cc k z + rc k z) (b := 0) rfl (rfl : (0 : Int32) = Int32.ofNat 0)) ?_
  refine wi_iload rfl rfl ?_
  refine wn_iadd (z := (Int32.ofNat (cc k z + rc k z + 0 + 0))) rfl (add_n (a := cc k z + rc k z + 0) (b := 0) rfl (rfl : (0 : Int32) = Int32.ofNat 0)) ?_
  refine wi_callV4 rfl (by decide) (by decide) rfl (kd_13 ..) rfl rfl rfl (gI _ (fun mi4 k1 k2 k3 => ?_))
  refine wi_iinc (z := (1 : Int32)) rfl rfl rfl (by decide) rfl ?_
  refine wi_goto rfl ?_
  refine hQ mi4 k1 (fun j hj => ?_) (fun j hj => ?_) _ _
  · rw [k2 j (by omega), hF2 j, if_neg (by omega)]
  · rw [k3 j (by omega)]
    exact hF1 _ (by omega) (by omega)
theorem tf_1 {k m z : Nat} {s : PS} {mi1 : Nat → Nat → Int32} {v6 v7 : Value} (ih : ∀ (z : Nat) (s : PS) (mi1 : Nat → Nat → Int32) (Q : Option Value → am_M → Prop), mi1 13 5 = Int32.ofNat n → PI mi0 n s mi1 → (∀ j, j < k + 1 → mi1 15 j = Int32.ofNat (dg (k + 1) z j)) → sx (mi1 (19 + (k + 1))) = wc w0 rn sn (k + 1) z → cc (k + 1) z ≤ cov → rc (k + 1) z ≤ rol →
    (∀ mi2, PI mi0 n (trP (lfP n cov rol (fun z => bN (wc w0 rn sn n z))) m z s) mi2 → (∀ j, j < k + 1 → mi2 15 j = mi1 15 j) → (∀ j, j ≤ k + 1 → mi2 (19 + j) = mi1 (19 + j)) → Q none (am_shT, mrL b, mi2, ml)) → am_wp X (d + m + 3) 22 0 [.ref 13, .int (Int32.ofNat (k + 1)), .int (Int32.ofNat (cov - cc (k + 1) z)), .int (Int32.ofNat (rol - rc (k + 1) z)), .int (Int32.ofNat (cc (k + 1) z + rc (k + 1) z)), .retAddr 0, .retAddr 0, .retAddr 0] [] (am_shT, mrL b, mi1, ml) Q)
    (hkm : k + (m + 1) = n) (hn : n ≤ 6) (hcv : cov ≤ 6) (hrl : rol ≤ 6) (hrn : mi1 17 k = rn k) (hsn : mi1 18 k = sn k) (h5 : mi1 13 5 = Int32.ofNat n) (hP : PI mi0 n s mi1) (hT : ∀ j, j < k → mi1 15 j = Int32.ofNat (dg k z j)) (hW : sx (mi1 (19 + k)) = wc w0 rn sn k z) (hc : cc k z ≤ cov) (hr : rc k z ≤ rol)
    (hQ : ∀ mi2, PI mi0 n (trP (lfP n cov rol (fun z => bN (wc w0 rn sn n z))) m (4 * z + 1) s) mi2 → (∀ j, j < k → mi2 15 j = mi1 15 j) → (∀ j, j ≤ k → mi2 (19 + j) = mi1 (19 + j)) → ∀ v6 v7 : Value, am_wp X (d + (m + 1) + 3) 22 13 [.ref 13, .int (Int32.ofNat (k)), .int (Int32.ofNat (cov - cc k z)), .int (Int32.ofNat (rol - rc k z)), .int (Int32.ofNat (cc k z + rc k z)), .int (2 : Int32), v6, v7] [] (am_shT, mrL b, mi2, ml) Q) :
    am_wp X (d + (m + 1) + 3) 22 13 [.ref 13, .int (Int32.ofNat (k)), .int (Int32.ofNat (cov - cc k z)), .int (Int32.ofNat (rol - rc k z)), .int (Int32.ofNat (cc k z + rc k z)), .int (1 : Int32), v6, v7] [] (am_shT, mrL b, mi1, ml) Q := by
  have hcl := cc_le k z
  refine wi_iload rfl rfl ?_
  refine wi_iconst (x := 3) rfl rfl ?_
  refine wi_icmp_gt rfl (fun h9 => absurd h9 (by decide)) (fun _ => ?_)
  refine wi_iload rfl rfl ?_
  refine wi_iconst (x := 1) rfl rfl ?_
  refine wi_iand rfl ?_
  rw [show (((1 : Int32) &&& (1 : Int32)) : Int32) = (1 : Int32) from by decide]
  refine wi_istore (l' := [.ref 13, .int (Int32.ofNat (k)), .int (Int32.ofNat (cov - cc k z)), .int (Int32.ofNat (rol - rc k z)), .int (Int32.ofNat (cc k z + rc k z)), .int (1 : Int32), .int (1 : Int32), v7]) rfl (Nat.le_of_ble_eq_true rfl) rfl rfl ?_
  refine wi_iload rfl rfl ?_
  refine wi_iconst (x := 2) rfl rfl ?_
  refine wi_iand rfl ?_
  rw [show (((1 : Int32) &&& (2 : Int32)) : Int32) = (0 : Int32) from by decide]
  refine wi_iconst (x := 2) rfl rfl ?_
  refine wi_idiv rfl (by decide) ?_
  rw [show ((0 : Int32) / (2 : Int32)) = (0 : Int32) from by decide]
  refine wi_istore (l' := [.ref 13, .int (Int32.ofNat (k)), .int (Int32.ofNat (cov - cc k z)), .int (Int32.ofNat (rol - rc k z)), .int (Int32.ofNat (cc k z + rc k z)), .int (1 : Int32), .int (1 : Int32), .int (0 : Int32)]) rfl (Nat.le_of_ble_eq_true rfl) rfl rfl ?_
  refine wi_iload rfl rfl ?_
  refine wi_iload_n rfl rfl ?_
  refine wi_icmp_gt rfl (fun g1 => ?_) (fun g1 => ?_)
  · replace g1 := (lt_n (a := cov - cc k z) (b := 1) rfl (rfl : (1 : Int32) = Int32.ofNat 1) (by omega) (by omega)).mp g1
    refine wi_iinc (z := (2 : Int32)) rfl rfl rfl (by decide) rfl ?_
    refine wi_goto rfl ?_
    refine hQ mi1 ?_ (fun _ _ => rfl) (fun _ _ => rfl) _ _
    rw [tr_skip m (k + 1) (4 * z + 1) s (by omega) (by rw [(cc_s (k := k) (z := z) (i := 1) (by decide)).1, (cc_s (k := k) (z := z) (i := 1) (by decide)).2]; omega)]
    exact hP
  · replace g1 := (not_congr (lt_n (a := cov - cc k z) (b := 1) rfl (rfl : (1 : Int32) = Int32.ofNat 1) (by omega) (by omega))).mp g1
    refine wi_iload rfl rfl ?_
    refine wi_iload_n rfl rfl ?_
    refine wi_icmp_gt rfl (fun h9 => absurd trivial (by exfalso; have h8 := (lt_n (a := rol - rc k z) (b := 0) rfl (rfl : (0 : Int32) = Int32.ofNat 0) (by omega) (by omega)).mp h9; omega)) (fun _ => ?_)
    refine wi_aload_n rfl rfl ?_
    refine wi_getR rfl (kd_13 ..) (rd_13_1 _) ?_
    refine wi_iload_n rfl rfl ?_
    refine wi_iload rfl rfl ?_
    refine wn_iastore (q := k) rfl (ln_15 ..) rfl (by omega) (by decide) ?_
    refine wi_aload_n rfl rfl ?_
    refine wi_getR rfl (kd_13 ..) (rd_13_0 _) ?_
    refine wi_iload_n rfl rfl ?_
    refine wi_iconst (x := 1) rfl rfl ?_
    refine wn_iadd (z := (Int32.ofNat (k + 1))) rfl (add_n (a := k) (b := 1) rfl (rfl : (1 : Int32) = Int32.ofNat 1)) ?_
    refine wn_aaload (q := k + 1) rfl (Or.inl (ln_14 ..)) rfl (by omega) (by decide) (ra_14 _ _ (by omega)) ?_
    refine wi_aload_n rfl rfl ?_
    refine wi_getR rfl (kd_13 ..) (rd_13_0 _) ?_
    refine wi_iload_n rfl rfl ?_
    refine wn_aaload (q := k) rfl (Or.inl (ln_14 ..)) rfl (by omega) (by decide) (ra_14 _ _ (by omega)) ?_
    refine wi_callV1 rfl (by decide) (by decide) rfl (kr_14 (by omega) ..) rfl rfl rfl (c_copyFrom (kr_14 (by omega) ..) (kr_14 (by omega) ..) (by omega) (gen_wp (fun mi2 e2 => ?_)))
    refine wi_aload_n rfl rfl ?_
    refine wi_getR rfl (kd_13 ..) (rd_13_0 _) ?_
    refine wi_iload_n rfl rfl ?_
    refine wi_iconst (x := 1) rfl rfl ?_
    refine wn_iadd (z := (Int32.ofNat (k + 1))) rfl (add_n (a := k) (b := 1) rfl (rfl : (1 : Int32) = Int32.ofNat 1)) ?_
    refine wn_aaload (q := k + 1) rfl (Or.inl (ln_14 ..)) rfl (by omega) (by decide) (ra_14 _ _ (by omega)) ?_
    refine wi_aload_n rfl rfl ?_
    refine wi_getR rfl (kd_13 ..) (rd_13_3 _) ?_
    refine wi_iload_n rfl rfl ?_
    refine wn_iaload (q := k) (v := rn k) rfl (ln_17 ..) rfl (by omega) (by decide) (by decide) (by decide) (by rw [e2, upT_ne (by omega), u2_ne (by decide)]; exact hrn) ?_
    refine wi_aload_n rfl rfl ?_
    refine wi_getR rfl (kd_13 ..) (rd_13_4 _) ?_
    refine wi_iload_n rfl rfl ?_
    refine wn_iaload (q := k) (v := sn k) rfl (ln_18 ..) rfl (by omega) (by decide) (by decide) (by decide) (by rw [e2, upT_ne (by omega), u2_ne (by decide)]; exact hsn) ?_
    refine wi_iload rfl rfl ?_
    refine wi_iconst (x := 0) rfl rfl ?_
    refine wi_callV4 rfl (by decide) (by decide) rfl (kr_14 (by omega) ..) rfl rfl rfl (c_passDay (kr_14 (by omega) ..) (gen_wp (fun mi3 e3 => ?_)))
    obtain ⟨hF1, hF2, hF3⟩ := pl_mem (A := 19 + (k + 1)) (B := 19 + k) (c := 1) (r := rn k) (u := sn k) (by omega) (by omega) (by omega) e2 e3
    have q1 := cc_s (k := k) (z := z) (i := 1) (by decide)
    have g5 : mi3 13 5 = Int32.ofNat n := by rw [hF1 13 (by decide) (by omega)]; exact h5
    have gP : PI mi0 n s mi3 := PI_fr hP (fun a a1 a2 => hF1 a a1 (by omega))
    have gT : ∀ j, j < k + 1 → mi3 15 j = Int32.ofNat (dg (k + 1) (4 * z + 1) j) := fun j hj => by
      rw [hF2 j]
      by_cases hjk : j = k
      · rw [if_pos hjk, hjk, dg_l (by decide)]
        rfl
      · rw [if_neg hjk, dg_s (by decide) (by omega)]
        exact hT j (by omega)
    have gW : sx (mi3 (19 + (k + 1))) = wc w0 rn sn (k + 1) (4 * z + 1) := by
      rw [hF3, wc_s (by decide), hW]
      rfl
    have gI := fun Q9 => ih (4 * z + 1) s mi3 Q9 g5 gP gT gW (by omega) (by omega)
    simp only [q1.1, q1.2, show 1 % 2 = 1 from rfl, show 1 / 2 = 0 from rfl] at gI
    rw [show cov - (cc k z + 1) = cov - cc k z - 1 by omega, show rol - (rc k z + 0) = rol - rc k z - 0 by omega, show cc k z + 1 + (rc k z + 0) = cc k z + rc k z + 1 + 0 by omega] at gI
    refine wi_aload_n rfl rfl ?_
    refine wi_iload_n rfl rfl ?_
    refine wi_iconst (x := 1) rfl rfl ?_
    refine wn_iadd (z := (Int32.ofNat (k + 1))) rfl (add_n (a := k) (b := 1) rfl (rfl : (1 : Int32) = Int32.ofNat 1)) ?_
    refine wi_iload_n rfl rfl ?_
    refine wi_iload rfl rfl ?_
    refine wn_isub (z := (Int32.ofNat (cov - cc k z - 1))) rfl (sub_n (a := cov - cc k z) (b := 1) rfl (rfl : (1 : Int32) = Int32.ofNat 1) (by omega)) ?_
    refine wi_iload_n rfl rfl ?_
    refine wi_iload rfl rfl ?_
    refine wn_isub (z := (Int32.ofNat (rol - rc k z - 0))) rfl (sub_n (a := rol - rc k z) (b := 0) rfl (rfl : (0 : Int32) = Int32.ofNat 0) (by omega)) ?_
    refine wi_iload rfl rfl ?_
    refine wi_iload rfl rfl ?_
    refine wn_iadd (z := (Int32.ofNat (cc k z + rc k z + 1))) rfl (add_n (a := cc k z + rc k z) (b := 1) rfl (rfl : (1 : Int32) = Int32.ofNat 1)) ?_
    refine wi_iload rfl rfl ?_
    refine wn_iadd (z := (Int32.ofNat (cc k z + rc k z + 1 + 0))) rfl (add_n (a := cc k z + rc k z + 1) (b := 0) rfl (rfl : (0 : Int32) = Int32.ofNat 0)) ?_
    refine wi_callV4 rfl (by decide) (by decide) rfl (kd_13 ..) rfl rfl rfl (gI _ (fun mi4 k1 k2 k3 => ?_))
    refine wi_iinc (z := (2 : Int32)) rfl rfl rfl (by decide) rfl ?_
    refine wi_goto rfl ?_
    refine hQ mi4 k1 (fun j hj => ?_) (fun j hj => ?_) _ _
    · rw [k2 j (by omega), hF2 j, if_neg (by omega)]
    · rw [k3 j (by omega)]
      exact hF1 _ (by omega) (by omega)
theorem tf_2 {k m z : Nat} {s : PS} {mi1 : Nat → Nat → Int32} {v6 v7 : Value} (ih : ∀ (z : Nat) (s : PS) (mi1 : Nat → Nat → Int32) (Q : Option Value → am_M → Prop), mi1 13 5 = Int32.ofNat n → PI mi0 n s mi1 → (∀ j, j < k + 1 → mi1 15 j = Int32.ofNat (dg (k + 1) z j)) → sx (mi1 (19 + (k + 1))) = wc w0 rn sn (k + 1) z → cc (k + 1) z ≤ cov → rc (k + 1) z ≤ rol →
    (∀ mi2, PI mi0 n (trP (lfP n cov rol (fun z => bN (wc w0 rn sn n z))) m z s) mi2 → (∀ j, j < k + 1 → mi2 15 j = mi1 15 j) → (∀ j, j ≤ k + 1 → mi2 (19 + j) = mi1 (19 + j)) → Q none (am_shT, mrL b, mi2, ml)) → am_wp X (d + m + 3) 22 0 [.ref 13, .int (Int32.ofNat (k + 1)), .int (Int32.ofNat (cov - cc (k + 1) z)), .int (Int32.ofNat (rol - rc (k + 1) z)), .int (Int32.ofNat (cc (k + 1) z + rc (k + 1) z)), .retAddr 0, .retAddr 0, .retAddr 0] [] (am_shT, mrL b, mi1, ml) Q)
    (hkm : k + (m + 1) = n) (hn : n ≤ 6) (hcv : cov ≤ 6) (hrl : rol ≤ 6) (hrn : mi1 17 k = rn k) (hsn : mi1 18 k = sn k) (h5 : mi1 13 5 = Int32.ofNat n) (hP : PI mi0 n s mi1) (hT : ∀ j, j < k → mi1 15 j = Int32.ofNat (dg k z j)) (hW : sx (mi1 (19 + k)) = wc w0 rn sn k z) (hc : cc k z ≤ cov) (hr : rc k z ≤ rol)
    (hQ : ∀ mi2, PI mi0 n (trP (lfP n cov rol (fun z => bN (wc w0 rn sn n z))) m (4 * z + 2) s) mi2 → (∀ j, j < k → mi2 15 j = mi1 15 j) → (∀ j, j ≤ k → mi2 (19 + j) = mi1 (19 + j)) → ∀ v6 v7 : Value, am_wp X (d + (m + 1) + 3) 22 13 [.ref 13, .int (Int32.ofNat (k)), .int (Int32.ofNat (cov - cc k z)), .int (Int32.ofNat (rol - rc k z)), .int (Int32.ofNat (cc k z + rc k z)), .int (3 : Int32), v6, v7] [] (am_shT, mrL b, mi2, ml) Q) :
    am_wp X (d + (m + 1) + 3) 22 13 [.ref 13, .int (Int32.ofNat (k)), .int (Int32.ofNat (cov - cc k z)), .int (Int32.ofNat (rol - rc k z)), .int (Int32.ofNat (cc k z + rc k z)), .int (2 : Int32), v6, v7] [] (am_shT, mrL b, mi1, ml) Q := by
  have hcl := cc_le k z
  refine wi_iload rfl rfl ?_
  refine wi_iconst (x := 3) rfl rfl ?_
  refine wi_icmp_gt rfl (fun h9 => absurd h9 (by decide)) (fun _ => ?_)
  refine wi_iload rfl rfl ?_
  refine wi_iconst (x := 1) rfl rfl ?_
  refine wi_iand rfl ?_
  rw [show (((2 : Int32) &&& (1 : Int32)) : Int32) = (0 : Int32) from by decide]
  refine wi_istore (l' := [.ref 13, .int (Int32.ofNat (k)), .int (Int32.ofNat (cov - cc k z)), .int (Int32.ofNat (rol - rc k z)), .int (Int32.ofNat (cc k z + rc k z)), .int (2 : Int32), .int (0 : Int32), v7]) rfl (Nat.le_of_ble_eq_true rfl) rfl rfl ?_
  refine wi_iload rfl rfl ?_
  refine wi_iconst (x := 2) rfl rfl ?_
  refine wi_iand rfl ?_
  rw [show (((2 : Int32) &&& (2 : Int32)) : Int32) = (2 : Int32) from by decide]
  refine wi_iconst (x := 2) rfl rfl ?_
  refine wi_idiv rfl (by decide) ?_
  rw [show ((2 : Int32) / (2 : Int32)) = (1 : Int32) from by decide]
  refine wi_istore (l' := [.ref 13, .int (Int32.ofNat (k)), .int (Int32.ofNat (cov - cc k z)), .int (Int32.ofNat (rol - rc k z)), .int (Int32.ofNat (cc k z + rc k z)), .int (2 : Int32), .int (0 : Int32), .int (1 : Int32)]) rfl (Nat.le_of_ble_eq_true rfl) rfl rfl ?_
  refine wi_iload rfl rfl ?_
  refine wi_iload_n rfl rfl ?_
  refine wi_icmp_gt rfl (fun h9 => absurd trivial (by exfalso; have h8 := (lt_n (a := cov - cc k z) (b := 0) rfl (rfl : (0 : Int32) = Int32.ofNat 0) (by omega) (by omega)).mp h9; omega)) (fun _ => ?_)
  refine wi_iload rfl rfl ?_
  refine wi_iload_n rfl rfl ?_
  refine wi_icmp_gt rfl (fun g1 => ?_) (fun g1 => ?_)
  · replace g1 := (lt_n (a := rol - rc k z) (b := 1) rfl (rfl : (1 : Int32) = Int32.ofNat 1) (by omega) (by omega)).mp g1
    refine wi_iinc (z := (3 : Int32)) rfl rfl rfl (by decide) rfl ?_
    refine wi_goto rfl ?_
    refine hQ mi1 ?_ (fun _ _ => rfl) (fun _ _ => rfl) _ _
    rw [tr_skip m (k + 1) (4 * z + 2) s (by omega) (by rw [(cc_s (k := k) (z := z) (i := 2) (by decide)).1, (cc_s (k := k) (z := z) (i := 2) (by decide)).2]; omega)]
    exact hP
  · replace g1 := (not_congr (lt_n (a := rol - rc k z) (b := 1) rfl (rfl : (1 : Int32) = Int32.ofNat 1) (by omega) (by omega))).mp g1
    refine wi_aload_n rfl rfl ?_
    refine wi_getR rfl (kd_13 ..) (rd_13_1 _) ?_
    refine wi_iload_n rfl rfl ?_
    refine wi_iload rfl rfl ?_
    refine wn_iastore (q := k) rfl (ln_15 ..) rfl (by omega) (by decide) ?_
    refine wi_aload_n rfl rfl ?_
    refine wi_getR rfl (kd_13 ..) (rd_13_0 _) ?_
    refine wi_iload_n rfl rfl ?_
    refine wi_iconst (x := 1) rfl rfl ?_
    refine wn_iadd (z := (Int32.ofNat (k + 1))) rfl (add_n (a := k) (b := 1) rfl (rfl : (1 : Int32) = Int32.ofNat 1)) ?_
    refine wn_aaload (q := k + 1) rfl (Or.inl (ln_14 ..)) rfl (by omega) (by decide) (ra_14 _ _ (by omega)) ?_
    refine wi_aload_n rfl rfl ?_
    refine wi_getR rfl (kd_13 ..) (rd_13_0 _) ?_
    refine wi_iload_n rfl rfl ?_
    refine wn_aaload (q := k) rfl (Or.inl (ln_14 ..)) rfl (by omega) (by decide) (ra_14 _ _ (by omega)) ?_
    refine wi_callV1 rfl (by decide) (by decide) rfl (kr_14 (by omega) ..) rfl rfl rfl (c_copyFrom (kr_14 (by omega) ..) (kr_14 (by omega) ..) (by omega) (gen_wp (fun mi2 e2 => ?_)))
    refine wi_aload_n rfl rfl ?_
    refine wi_getR rfl (kd_13 ..) (rd_13_0 _) ?_
    refine wi_iload_n rfl rfl ?_
    refine wi_iconst (x := 1) rfl rfl ?_
    refine wn_iadd (z := (Int32.ofNat (k + 1))) rfl (add_n (a := k) (b := 1) rfl (rfl : (1 : Int32) = Int32.ofNat 1)) ?_
    refine wn_aaload (q := k + 1) rfl (Or.inl (ln_14 ..)) rfl (by omega) (by decide) (ra_14 _ _ (by omega)) ?_
    refine wi_aload_n rfl rfl ?_
    refine wi_getR rfl (kd_13 ..) (rd_13_3 _) ?_
    refine wi_iload_n rfl rfl ?_
    refine wn_iaload (q := k) (v := rn k) rfl (ln_17 ..) rfl (by omega) (by decide) (by decide) (by decide) (by rw [e2, upT_ne (by omega), u2_ne (by decide)]; exact hrn) ?_
    refine wi_aload_n rfl rfl ?_
    refine wi_getR rfl (kd_13 ..) (rd_13_4 _) ?_
    refine wi_iload_n rfl rfl ?_
    refine wn_iaload (q := k) (v := sn k) rfl (ln_18 ..) rfl (by omega) (by decide) (by decide) (by decide) (by rw [e2, upT_ne (by omega), u2_ne (by decide)]; exact hsn) ?_
    refine wi_iload rfl rfl ?_
    refine wi_iconst (x := 0) rfl rfl ?_
    refine wi_callV4 rfl (by decide) (by decide) rfl (kr_14 (by omega) ..) rfl rfl rfl (c_passDay (kr_14 (by omega) ..) (gen_wp (fun mi3 e3 => ?_)))
    obtain ⟨hF1, hF2, hF3⟩ := pl_mem (A := 19 + (k + 1)) (B := 19 + k) (c := 2) (r := rn k) (u := sn k) (by omega) (by omega) (by omega) e2 e3
    have q1 := cc_s (k := k) (z := z) (i := 2) (by decide)
    have g5 : mi3 13 5 = Int32.ofNat n := by rw [hF1 13 (by decide) (by omega)]; exact h5
    have gP : PI mi0 n s mi3 := PI_fr hP (fun a a1 a2 => hF1 a a1 (by omega))
    have gT : ∀ j, j < k + 1 → mi3 15 j = Int32.ofNat (dg (k + 1) (4 * z + 2) j) := fun j hj => by
      rw [hF2 j]
      by_cases hjk : j = k
      · rw [if_pos hjk, hjk, dg_l (by decide)]
        rfl
      · rw [if_neg hjk, dg_s (by decide) (by omega)]
        exact hT j (by omega)
    have gW : sx (mi3 (19 + (k + 1))) = wc w0 rn sn (k + 1) (4 * z + 2) := by
      rw [hF3, wc_s (by decide), hW]
      rfl
    have gI := fun Q9 => ih (4 * z + 2) s mi3 Q9 g5 gP gT gW (by omega) (by omega)
    simp only [q1.1, q1.2, show 2 % 2 = 0 from rfl, show 2 / 2 = 1 from rfl] at gI
    rw [show cov - (cc k z + 0) = cov - cc k z - 0 by omega, show rol - (rc k z + 1) = rol - rc k z - 1 by omega, show cc k z + 0 + (rc k z + 1) = cc k z + rc k z + 0 + 1 by omega] at gI
    refine wi_aload_n rfl rfl ?_
    refine wi_iload_n rfl rfl ?_
    refine wi_iconst (x := 1) rfl rfl ?_
    refine wn_iadd (z := (Int32.ofNat (k + 1))) rfl (add_n (a := k) (b := 1) rfl (rfl : (1 : Int32) = Int32.ofNat 1)) ?_
    refine wi_iload_n rfl rfl ?_
    refine wi_iload rfl rfl ?_
    refine wn_isub (z := (Int32.ofNat (cov - cc k z - 0))) rfl (sub_n (a := cov - cc k z) (b := 0) rfl (rfl : (0 : Int32) = Int32.ofNat 0) (by omega)) ?_
    refine wi_iload_n rfl rfl ?_
    refine wi_iload rfl rfl ?_
    refine wn_isub (z := (Int32.ofNat (rol - rc k z - 1))) rfl (sub_n (a := rol - rc k z) (b := 1) rfl (rfl : (1 : Int32) = Int32.ofNat 1) (by omega)) ?_
    refine wi_iload rfl rfl ?_
    refine wi_iload rfl rfl ?_
    refine wn_iadd (z := (Int32.ofNat (cc k z + rc k z + 0))) rfl (add_n (a := cc k z + rc k z) (b := 0) rfl (rfl : (0 : Int32) = Int32.ofNat 0)) ?_
    refine wi_iload rfl rfl ?_
    refine wn_iadd (z := (Int32.ofNat (cc k z + rc k z + 0 + 1))) rfl (add_n (a := cc k z + rc k z + 0) (b := 1) rfl (rfl : (1 : Int32) = Int32.ofNat 1)) ?_
    refine wi_callV4 rfl (by decide) (by decide) rfl (kd_13 ..) rfl rfl rfl (gI _ (fun mi4 k1 k2 k3 => ?_))
    refine wi_iinc (z := (3 : Int32)) rfl rfl rfl (by decide) rfl ?_
    refine wi_goto rfl ?_
    refine hQ mi4 k1 (fun j hj => ?_) (fun j hj => ?_) _ _
    · rw [k2 j (by omega), hF2 j, if_neg (by omega)]
    · rw [k3 j (by omega)]
      exact hF1 _ (by omega) (by omega)
theorem tf_3 {k m z : Nat} {s : PS} {mi1 : Nat → Nat → Int32} {v6 v7 : Value} (ih : ∀ (z : Nat) (s : PS) (mi1 : Nat → Nat → Int32) (Q : Option Value → am_M → Prop), mi1 13 5 = Int32.ofNat n → PI mi0 n s mi1 → (∀ j, j < k + 1 → mi1 15 j = Int32.ofNat (dg (k + 1) z j)) → sx (mi1 (19 + (k + 1))) = wc w0 rn sn (k + 1) z → cc (k + 1) z ≤ cov → rc (k + 1) z ≤ rol →
    (∀ mi2, PI mi0 n (trP (lfP n cov rol (fun z => bN (wc w0 rn sn n z))) m z s) mi2 → (∀ j, j < k + 1 → mi2 15 j = mi1 15 j) → (∀ j, j ≤ k + 1 → mi2 (19 + j) = mi1 (19 + j)) → Q none (am_shT, mrL b, mi2, ml)) → am_wp X (d + m + 3) 22 0 [.ref 13, .int (Int32.ofNat (k + 1)), .int (Int32.ofNat (cov - cc (k + 1) z)), .int (Int32.ofNat (rol - rc (k + 1) z)), .int (Int32.ofNat (cc (k + 1) z + rc (k + 1) z)), .retAddr 0, .retAddr 0, .retAddr 0] [] (am_shT, mrL b, mi1, ml) Q)
    (hkm : k + (m + 1) = n) (hn : n ≤ 6) (hcv : cov ≤ 6) (hrl : rol ≤ 6) (hrn : mi1 17 k = rn k) (hsn : mi1 18 k = sn k) (h5 : mi1 13 5 = Int32.ofNat n) (hP : PI mi0 n s mi1) (hT : ∀ j, j < k → mi1 15 j = Int32.ofNat (dg k z j)) (hW : sx (mi1 (19 + k)) = wc w0 rn sn k z) (hc : cc k z ≤ cov) (hr : rc k z ≤ rol)
    (hQ : ∀ mi2, PI mi0 n (trP (lfP n cov rol (fun z => bN (wc w0 rn sn n z))) m (4 * z + 3) s) mi2 → (∀ j, j < k → mi2 15 j = mi1 15 j) → (∀ j, j ≤ k → mi2 (19 + j) = mi1 (19 + j)) → ∀ v6 v7 : Value, am_wp X (d + (m + 1) + 3) 22 13 [.ref 13, .int (Int32.ofNat (k)), .int (Int32.ofNat (cov - cc k z)), .int (Int32.ofNat (rol - rc k z)), .int (Int32.ofNat (cc k z + rc k z)), .int (4 : Int32), v6, v7] [] (am_shT, mrL b, mi2, ml) Q) :
    am_wp X (d + (m + 1) + 3) 22 13 [.ref 13, .int (Int32.ofNat (k)), .int (Int32.ofNat (cov - cc k z)), .int (Int32.ofNat (rol - rc k z)), .int (Int32.ofNat (cc k z + rc k z)), .int (3 : Int32), v6, v7] [] (am_shT, mrL b, mi1, ml) Q := by
  have hcl := cc_le k z
  refine wi_iload rfl rfl ?_
  refine wi_iconst (x := 3) rfl rfl ?_
  refine wi_icmp_gt rfl (fun h9 => absurd h9 (by decide)) (fun _ => ?_)
  refine wi_iload rfl rfl ?_
  refine wi_iconst (x := 1) rfl rfl ?_
  refine wi_iand rfl ?_
  rw [show (((3 : Int32) &&& (1 : Int32)) : Int32) = (1 : Int32) from by decide]
  refine wi_istore (l' := [.ref 13, .int (Int32.ofNat (k)), .int (Int32.ofNat (cov - cc k z)), .int (Int32.ofNat (rol - rc k z)), .int (Int32.ofNat (cc k z + rc k z)), .int (3 : Int32), .int (1 : Int32), v7]) rfl (Nat.le_of_ble_eq_true rfl) rfl rfl ?_
  refine wi_iload rfl rfl ?_
  refine wi_iconst (x := 2) rfl rfl ?_
  refine wi_iand rfl ?_
  rw [show (((3 : Int32) &&& (2 : Int32)) : Int32) = (2 : Int32) from by decide]
  refine wi_iconst (x := 2) rfl rfl ?_
  refine wi_idiv rfl (by decide) ?_
  rw [show ((2 : Int32) / (2 : Int32)) = (1 : Int32) from by decide]
  refine wi_istore (l' := [.ref 13, .int (Int32.ofNat (k)), .int (Int32.ofNat (cov - cc k z)), .int (Int32.ofNat (rol - rc k z)), .int (Int32.ofNat (cc k z + rc k z)), .int (3 : Int32), .int (1 : Int32), .int (1 : Int32)]) rfl (Nat.le_of_ble_eq_true rfl) rfl rfl ?_
  refine wi_iload rfl rfl ?_
  refine wi_iload_n rfl rfl ?_
  refine wi_icmp_gt rfl (fun g1 => ?_) (fun g1 => ?_)
  · replace g1 := (lt_n (a := cov - cc k z) (b := 1) rfl (rfl : (1 : Int32) = Int32.ofNat 1) (by omega) (by omega)).mp g1
    refine wi_iinc (z := (4 : Int32)) rfl rfl rfl (by decide) rfl ?_
    refine wi_goto rfl ?_
    refine hQ mi1 ?_ (fun _ _ => rfl) (fun _ _ => rfl) _ _
    rw [tr_skip m (k + 1) (4 * z + 3) s (by omega) (by rw [(cc_s (k := k) (z := z) (i := 3) (by decide)).1, (cc_s (k := k) (z := z) (i := 3) (by decide)).2]; omega)]
    exact hP
  · replace g1 := (not_congr (lt_n (a := cov - cc k z) (b := 1) rfl (rfl : (1 : Int32) = Int32.ofNat 1) (by omega) (by omega))).mp g1
    refine wi_iload rfl rfl ?_
    refine wi_iload_n rfl rfl ?_
    refine wi_icmp_gt rfl (fun g2 => ?_) (fun g2 => ?_)
    · replace g2 := (lt_n (a := rol - rc k z) (b := 1) rfl (rfl : (1 : Int32) = Int32.ofNat 1) (by omega) (by omega)).mp g2
      refine wi_iinc (z := (4 : Int32)) rfl rfl rfl (by decide) rfl ?_
      refine wi_goto rfl ?_
      refine hQ mi1 ?_ (fun _ _ => rfl) (fun _ _ => rfl) _ _
      rw [tr_skip m (k + 1) (4 * z + 3) s (by omega) (by rw [(cc_s (k := k) (z := z) (i := 3) (by decide)).1, (cc_s (k := k) (z := z) (i := 3) (by decide)).2]; omega)]
      exact hP
    · replace g2 := (not_congr (lt_n (a := rol - rc k z) (b := 1) rfl (rfl : (1 : Int32) = Int32.ofNat 1) (by omega) (by omega))).mp g2
      refine wi_aload_n rfl rfl ?_
      refine wi_getR rfl (kd_13 ..) (rd_13_1 _) ?_
      refine wi_iload_n rfl rfl ?_
      refine wi_iload rfl rfl ?_
      refine wn_iastore (q := k) rfl (ln_15 ..) rfl (by omega) (by decide) ?_
      refine wi_aload_n rfl rfl ?_
      refine wi_getR rfl (kd_13 ..) (rd_13_0 _) ?_
      refine wi_iload_n rfl rfl ?_
      refine wi_iconst (x := 1) rfl rfl ?_
      refine wn_iadd (z := (Int32.ofNat (k + 1))) rfl (add_n (a := k) (b := 1) rfl (rfl : (1 : Int32) = Int32.ofNat 1)) ?_
      refine wn_aaload (q := k + 1) rfl (Or.inl (ln_14 ..)) rfl (by omega) (by decide) (ra_14 _ _ (by omega)) ?_
      refine wi_aload_n rfl rfl ?_
      refine wi_getR rfl (kd_13 ..) (rd_13_0 _) ?_
      refine wi_iload_n rfl rfl ?_
      refine wn_aaload (q := k) rfl (Or.inl (ln_14 ..)) rfl (by omega) (by decide) (ra_14 _ _ (by omega)) ?_
      refine wi_callV1 rfl (by decide) (by decide) rfl (kr_14 (by omega) ..) rfl rfl rfl (c_copyFrom (kr_14 (by omega) ..) (kr_14 (by omega) ..) (by omega) (gen_wp (fun mi2 e2 => ?_)))
      refine wi_aload_n rfl rfl ?_
      refine wi_getR rfl (kd_13 ..) (rd_13_0 _) ?_
      refine wi_iload_n rfl rfl ?_
      refine wi_iconst (x := 1) rfl rfl ?_
      refine wn_iadd (z := (Int32.ofNat (k + 1))) rfl (add_n (a := k) (b := 1) rfl (rfl : (1 : Int32) = Int32.ofNat 1)) ?_
      refine wn_aaload (q := k + 1) rfl (Or.inl (ln_14 ..)) rfl (by omega) (by decide) (ra_14 _ _ (by omega)) ?_
      refine wi_aload_n rfl rfl ?_
      refine wi_getR rfl (kd_13 ..) (rd_13_3 _) ?_
      refine wi_iload_n rfl rfl ?_
      refine wn_iaload (q := k) (v := rn k) rfl (ln_17 ..) rfl (by omega) (by decide) (by decide) (by decide) (by rw [e2, upT_ne (by omega), u2_ne (by decide)]; exact hrn) ?_
      refine wi_aload_n rfl rfl ?_
      refine wi_getR rfl (kd_13 ..) (rd_13_4 _) ?_
      refine wi_iload_n rfl rfl ?_
      refine wn_iaload (q := k) (v := sn k) rfl (ln_18 ..) rfl (by omega) (by decide) (by decide) (by decide) (by rw [e2, upT_ne (by omega), u2_ne (by decide)]; exact hsn) ?_
      refine wi_iload rfl rfl ?_
      refine wi_iconst (x := 0) rfl rfl ?_
      refine wi_callV4 rfl (by decide) (by decide) rfl (kr_14 (by omega) ..) rfl rfl rfl (c_passDay (kr_14 (by omega) ..) (gen_wp (fun mi3 e3 => ?_)))
      obtain ⟨hF1, hF2, hF3⟩ := pl_mem (A := 19 + (k + 1)) (B := 19 + k) (c := 3) (r := rn k) (u := sn k) (by omega) (by omega) (by omega) e2 e3
      have q1 := cc_s (k := k) (z := z) (i := 3) (by decide)
      have g5 : mi3 13 5 = Int32.ofNat n := by rw [hF1 13 (by decide) (by omega)]; exact h5
      have gP : PI mi0 n s mi3 := PI_fr hP (fun a a1 a2 => hF1 a a1 (by omega))
      have gT : ∀ j, j < k + 1 → mi3 15 j = Int32.ofNat (dg (k + 1) (4 * z + 3) j) := fun j hj => by
        rw [hF2 j]
        by_cases hjk : j = k
        · rw [if_pos hjk, hjk, dg_l (by decide)]
          rfl
        · rw [if_neg hjk, dg_s (by decide) (by omega)]
          exact hT j (by omega)
      have gW : sx (mi3 (19 + (k + 1))) = wc w0 rn sn (k + 1) (4 * z + 3) := by
        rw [hF3, wc_s (by decide), hW]
        rfl
      have gI := fun Q9 => ih (4 * z + 3) s mi3 Q9 g5 gP gT gW (by omega) (by omega)
      simp only [q1.1, q1.2, show 3 % 2 = 1 from rfl, show 3 / 2 = 1 from rfl] at gI
      rw [show cov - (cc k z + 1) = cov - cc k z - 1 by omega, show rol - (rc k z + 1) = rol - rc k z - 1 by omega, show cc k z + 1 + (rc k z + 1) = cc k z + rc k z + 1 + 1 by omega] at gI
      refine wi_aload_n rfl rfl ?_
      refine wi_iload_n rfl rfl ?_
      refine wi_iconst (x := 1) rfl rfl ?_
      refine wn_iadd (z := (Int32.ofNat (k + 1))) rfl (add_n (a := k) (b := 1) rfl (rfl : (1 : Int32) = Int32.ofNat 1)) ?_
      refine wi_iload_n rfl rfl ?_
      refine wi_iload rfl rfl ?_
      refine wn_isub (z := (Int32.ofNat (cov - cc k z - 1))) rfl (sub_n (a := cov - cc k z) (b := 1) rfl (rfl : (1 : Int32) = Int32.ofNat 1) (by omega)) ?_
      refine wi_iload_n rfl rfl ?_
      refine wi_iload rfl rfl ?_
      refine wn_isub (z := (Int32.ofNat (rol - rc k z - 1))) rfl (sub_n (a := rol - rc k z) (b := 1) rfl (rfl : (1 : Int32) = Int32.ofNat 1) (by omega)) ?_
      refine wi_iload rfl rfl ?_
      refine wi_iload rfl rfl ?_
      refine wn_iadd (z := (Int32.ofNat (cc k z + rc k z + 1))) rfl (add_n (a := cc k z + rc k z) (b := 1) rfl (rfl : (1 : Int32) = Int32.ofNat 1)) ?_
      refine wi_iload rfl rfl ?_
      refine wn_iadd (z := (Int32.ofNat (cc k z + rc k z + 1 + 1))) rfl (add_n (a := cc k z + rc k z + 1) (b := 1) rfl (rfl : (1 : Int32) = Int32.ofNat 1)) ?_
      refine wi_callV4 rfl (by decide) (by decide) rfl (kd_13 ..) rfl rfl rfl (gI _ (fun mi4 k1 k2 k3 => ?_))
      refine wi_iinc (z := (4 : Int32)) rfl rfl rfl (by decide) rfl ?_
      refine wi_goto rfl ?_
      refine hQ mi4 k1 (fun j hj => ?_) (fun j hj => ?_) _ _
      · rw [k2 j (by omega), hF2 j, if_neg (by omega)]
      · rw [k3 j (by omega)]
        exact hF1 _ (by omega) (by omega)
theorem c_try (hn : n ≤ 6) (hcv : cov ≤ 6) (hrl : rol ≤ 6) (hrn : ∀ k, k < n → mi0 17 k = rn k) (hsn : ∀ k, k < n → mi0 18 k = sn k) (h05 : mi0 13 5 = Int32.ofNat n) : ∀ (m k z : Nat) (s : PS) (mi1 : Nat → Nat → Int32) (Q : Option Value → am_M → Prop), k + m = n → mi1 13 5 = Int32.ofNat n → PI mi0 n s mi1 → (∀ j, j < k → mi1 15 j = Int32.ofNat (dg k z j)) → sx (mi1 (19 + k)) = wc w0 rn sn k z → cc k z ≤ cov → rc k z ≤ rol →
    (∀ mi2, PI mi0 n (trP (lfP n cov rol (fun z => bN (wc w0 rn sn n z))) m z s) mi2 → (∀ j, j < k → mi2 15 j = mi1 15 j) → (∀ j, j ≤ k → mi2 (19 + j) = mi1 (19 + j)) → Q none (am_shT, mrL b, mi2, ml)) → am_wp X (d + m + 3) 22 0 [.ref 13, .int (Int32.ofNat (k)), .int (Int32.ofNat (cov - cc k z)), .int (Int32.ofNat (rol - rc k z)), .int (Int32.ofNat (cc k z + rc k z)), .retAddr 0, .retAddr 0, .retAddr 0] [] (am_shT, mrL b, mi1, ml) Q := by
  intro m
  induction m with
  | zero =>
    intro k z s mi1 Q hk h5 hP hT hW hc hr hQ
    obtain rfl : k = n := by omega
    have hB9 : bncF (mi1 (19 + k) 0) (mi1 (19 + k) 3) (mi1 (19 + k) 4) (mi1 (19 + k) 5) = Int32.ofNat (bN (wc w0 rn sn k z)) := by
      rw [← (bN_eq _).1, ← hW]
      rfl
    have hcl := cc_le k z
    refine wi_iload_n rfl rfl ?_
    refine wi_aload_n rfl rfl ?_
    refine wi_getIv (v := (Int32.ofNat (k))) rfl (kd_13 ..) h5 ?_
    refine wi_icmp_ge rfl (fun _ => ?_) (fun h9 => absurd trivial (by exfalso; have h8 := (not_congr (le_n (a := k) (b := k) rfl rfl (by omega) (by omega))).mp h9; omega))
    refine wi_aload_n rfl rfl ?_
    refine wi_iload rfl rfl ?_
    refine wi_callV1 rfl (by decide) (by decide) rfl (kd_13 ..) rfl rfl rfl (c_weigh (mi0 := mi0) (cov := cov) (rol := rol) (B := fun z => bN (wc w0 rn sn k z)) (z := z) (s := s) hn h5 hP hT hB9 (bN_eq _).2 hc hr (fun mi2 k1 k2 k3 => ?_))
    refine wi_ret rfl ?_
    exact hQ mi2 k1 k2 k3
  | succ m ih =>
    intro k z s mi1 Q hk h5 hP hT hW hc hr hQ
    have hrn1 : mi1 17 k = rn k := by rw [hP.1 17 (by decide) (by decide) (by decide) (by decide)]; exact hrn k (by omega)
    have hsn1 : mi1 18 k = sn k := by rw [hP.1 18 (by decide) (by decide) (by decide) (by decide)]; exact hsn k (by omega)
    refine wi_iload_n rfl rfl ?_
    refine wi_aload_n rfl rfl ?_
    refine wi_getIv (v := (Int32.ofNat (n))) rfl (kd_13 ..) h5 ?_
    refine wi_icmp_ge rfl (fun h9 => absurd trivial (by exfalso; have h8 := (le_n (a := n) (b := k) rfl rfl (by omega) (by omega)).mp h9; omega)) (fun _ => ?_)
    refine wi_iload_n rfl rfl ?_
    refine wi_bipush (x := 6) rfl rfl ?_
    refine wi_icmp_lt rfl (fun _ => ?_) (fun h9 => absurd trivial (by exfalso; have h8 := (not_congr (lt_n (a := k) (b := 6) rfl (rfl : (6 : Int32) = Int32.ofNat 6) (by omega) (by omega))).mp h9; omega))
    refine wi_iconst (x := 0) rfl rfl ?_
    refine wi_istore (l' := [.ref 13, .int (Int32.ofNat (k)), .int (Int32.ofNat (cov - cc k z)), .int (Int32.ofNat (rol - rc k z)), .int (Int32.ofNat (cc k z + rc k z)), .int (0 : Int32), .retAddr 0, .retAddr 0]) rfl (Nat.le_of_ble_eq_true rfl) rfl rfl ?_
    refine tf_0 (z := z) (fun z s mi1 Q h1 h2 h3 h4 h5 h6 h7 => ih (k + 1) z s mi1 Q (by omega) h1 h2 h3 h4 h5 h6 h7) (by omega) hn hcv hrl hrn1 hsn1 h5 hP hT hW hc hr (fun mi2 p1 q1 r1 v6 v7 => ?_)
    have hT1 : ∀ j, j < k → mi2 15 j = Int32.ofNat (dg k z j) := fun j hj => (q1 j hj).trans (hT j hj)
    have hW1 : sx (mi2 (19 + k)) = wc w0 rn sn k z := by rw [r1 k (Nat.le_refl _)]; exact hW
    have hrn2 : mi2 17 k = rn k := by rw [p1.1 17 (by decide) (by decide) (by decide) (by decide)]; exact hrn k (by omega)
    have hsn2 : mi2 18 k = sn k := by rw [p1.1 18 (by decide) (by decide) (by decide) (by decide)]; exact hsn k (by omega)
    have h51 : mi2 13 5 = Int32.ofNat n := by rw [p1.2.1 5 (by decide) (by decide)]; exact h05
    refine tf_1 (z := z) (fun z s mi1 Q h1 h2 h3 h4 h5 h6 h7 => ih (k + 1) z s mi1 Q (by omega) h1 h2 h3 h4 h5 h6 h7) (by omega) hn hcv hrl hrn2 hsn2 h51 p1 hT1 hW1 hc hr (fun mi3 p2 q2 r2 v6 v7 => ?_)
    have hT2 : ∀ j, j < k → mi3 15 j = Int32.ofNat (dg k z j) := fun j hj => (q2 j hj).trans (hT1 j hj)
    have hW2 : sx (mi3 (19 + k)) = wc w0 rn sn k z := by rw [r2 k (Nat.le_refl _)]; exact hW1
    have hrn3 : mi3 17 k = rn k := by rw [p2.1 17 (by decide) (by decide) (by decide) (by decide)]; exact hrn k (by omega)
    have hsn3 : mi3 18 k = sn k := by rw [p2.1 18 (by decide) (by decide) (by decide) (by decide)]; exact hsn k (by omega)
    have h52 : mi3 13 5 = Int32.ofNat n := by rw [p2.2.1 5 (by decide) (by decide)]; exact h05
    refine tf_2 (z := z) (fun z s mi1 Q h1 h2 h3 h4 h5 h6 h7 => ih (k + 1) z s mi1 Q (by omega) h1 h2 h3 h4 h5 h6 h7) (by omega) hn hcv hrl hrn3 hsn3 h52 p2 hT2 hW2 hc hr (fun mi4 p3 q3 r3 v6 v7 => ?_)
    have hT3 : ∀ j, j < k → mi4 15 j = Int32.ofNat (dg k z j) := fun j hj => (q3 j hj).trans (hT2 j hj)
    have hW3 : sx (mi4 (19 + k)) = wc w0 rn sn k z := by rw [r3 k (Nat.le_refl _)]; exact hW2
    have hrn4 : mi4 17 k = rn k := by rw [p3.1 17 (by decide) (by decide) (by decide) (by decide)]; exact hrn k (by omega)
    have hsn4 : mi4 18 k = sn k := by rw [p3.1 18 (by decide) (by decide) (by decide) (by decide)]; exact hsn k (by omega)
    have h53 : mi4 13 5 = Int32.ofNat n := by rw [p3.2.1 5 (by decide) (by decide)]; exact h05
    refine tf_3 (z := z) (fun z s mi1 Q h1 h2 h3 h4 h5 h6 h7 => ih (k + 1) z s mi1 Q (by omega) h1 h2 h3 h4 h5 h6 h7) (by omega) hn hcv hrl hrn4 hsn4 h53 p3 hT3 hW3 hc hr (fun mi5 p4 q4 r4 v6 v7 => ?_)
    have hT4 : ∀ j, j < k → mi5 15 j = Int32.ofNat (dg k z j) := fun j hj => (q4 j hj).trans (hT3 j hj)
    have hW4 : sx (mi5 (19 + k)) = wc w0 rn sn k z := by rw [r4 k (Nat.le_refl _)]; exact hW3
    have hrn5 : mi5 17 k = rn k := by rw [p4.1 17 (by decide) (by decide) (by decide) (by decide)]; exact hrn k (by omega)
    have hsn5 : mi5 18 k = sn k := by rw [p4.1 18 (by decide) (by decide) (by decide) (by decide)]; exact hsn k (by omega)
    have h54 : mi5 13 5 = Int32.ofNat n := by rw [p4.2.1 5 (by decide) (by decide)]; exact h05
    refine wi_iload rfl rfl ?_
    refine wi_iconst (x := 3) rfl rfl ?_
    refine wi_icmp_gt rfl (fun _ => ?_) (fun h9 => absurd (by decide) h9)
    refine wi_ret rfl ?_
    refine hQ mi5 p4 (fun j hj => ?_) (fun j hj => ?_)
    · rw [q4 j hj, q3 j hj, q2 j hj, q1 j hj]
    · rw [r4 j hj, r3 j hj, r2 j hj, r1 j hj]
theorem bw_l {s t : Nat} (hn : n ≤ 6) (hs : s < 8) (ht : t + n ≤ 999) : ∀ r i (mi1 : Nat → Nat → Int32), i + r = n → mi1 13 5 = Int32.ofNat n → (∀ mi2 : Nat → Nat → Int32, (∀ a, a ≠ 17 → a ≠ 18 → mi2 a = mi1 a) → (∀ j, i ≤ j → j < n → mi2 17 j = mi1 4 (t + j) ∧ mi2 18 j = mi1 5 (t + j)) → (∀ j, j < i → mi2 17 j = mi1 17 j ∧ mi2 18 j = mi1 18 j) → Q none (am_shT, mrL b, mi2, ml)) → am_wp X (d + 3) 19 13 [.ref 13, .ref ((126 + s)), .ref 3, .int (Int32.ofNat (t)), .int (Int32.ofNat (n)), .int (Int32.ofNat (i))] [] (am_shT, mrL b, mi1, ml) Q := by
  intro r
  induction r with
  | zero =>
    intro i mi1 hi h5 hQ
    refine wi_iload rfl rfl ?_
    refine wi_aload_n rfl rfl ?_
    refine wi_getIv (v := (Int32.ofNat (n))) rfl (kd_13 ..) h5 ?_
    refine wi_icmp_ge rfl (fun _ => ?_) (fun h9 => absurd trivial (by exfalso; have h8 := (not_congr (le_n (a := n) (b := i) rfl rfl (by omega) (by omega))).mp h9; omega))
    refine wi_ret rfl ?_
    exact hQ mi1 (fun _ _ _ => rfl) (fun j h1 h2 => absurd h1 (by omega)) (fun _ _ => ⟨rfl, rfl⟩)
  | succ r ih =>
    intro i mi1 hi h5 hQ
    refine wi_iload rfl rfl ?_
    refine wi_aload_n rfl rfl ?_
    refine wi_getIv (v := (Int32.ofNat (n))) rfl (kd_13 ..) h5 ?_
    refine wi_icmp_ge rfl (fun h9 => absurd trivial (by exfalso; have h8 := (le_n (a := n) (b := i) rfl rfl (by omega) (by omega)).mp h9; omega)) (fun _ => ?_)
    refine wi_aload_n rfl rfl ?_
    refine wi_getR rfl (kd_13 ..) (rd_13_3 _) ?_
    refine wi_iload rfl rfl ?_
    refine wi_aload_n rfl rfl ?_
    refine wi_iload_n rfl rfl ?_
    refine wi_iload rfl rfl ?_
    refine wn_iadd (z := (Int32.ofNat (t + i))) rfl (add_n (a := t) (b := i) rfl rfl) ?_
    refine wi_callV1 rfl (by decide) (by decide) rfl (kd_3 ..) rfl rfl rfl (c_rain3 (by omega) ?_)
    refine wn_iastore (q := i) rfl (ln_17 ..) rfl (by omega) (by decide) ?_
    refine wi_aload_n rfl rfl ?_
    refine wi_getR rfl (kd_13 ..) (rd_13_4 _) ?_
    refine wi_iload rfl rfl ?_
    refine wi_aload_n rfl rfl ?_
    refine wi_iload_n rfl rfl ?_
    refine wi_iload rfl rfl ?_
    refine wn_iadd (z := (Int32.ofNat (t + i))) rfl (add_n (a := t) (b := i) rfl rfl) ?_
    refine wi_callV1 rfl (by decide) (by decide) rfl (kd_3 ..) rfl rfl rfl (c_sun3 (by omega) ?_)
    refine wn_iastore (q := i) rfl (ln_18 ..) rfl (by omega) (by decide) ?_
    refine wi_iinc (z := (Int32.ofNat (i + 1))) rfl rfl rfl (add_n (a := i) (b := 1) rfl rfl) rfl ?_
    refine wi_goto rfl ?_
    refine ih (i + 1) (u2 (u2 mi1 17 i (mi1 4 (t + i))) 18 i (mi1 5 (t + i))) (by omega) h5 (fun mi2 h1 h2 h3 => hQ mi2 (fun a a1 a2 => (h1 a a1 a2).trans ((u2_ne a2).trans (u2_ne a1))) (fun j k1 k2 => ?_) (fun j k1 => ?_))
    · rcases Nat.lt_or_ge i j with k3 | k3
      · exact h2 j (by omega) k2
      · rw [show j = i by omega, (h3 i (by omega)).1, (h3 i (by omega)).2, u2_same, u2_ne (by decide), u2_same]
        exact ⟨rfl, rfl⟩
    · exact ⟨((h3 j (by omega)).1.trans (congrFun (u2_ne (by decide)) j)).trans (u2_off (by omega)), ((h3 j (by omega)).2.trans (u2_off (by omega))).trans (congrFun (u2_ne (by decide)) j)⟩
theorem c_cutZ {n t v : Int32} {M : am_M} (hz : cutF n t = v) (hQ : Q (some (.int v)) M) : am_wp X d 140 0 [.int n, .int t] [] M Q := c_cut (by rw [hz]; exact hQ)
theorem c_beginW {s t : Nat} {mi1 : Nat → Nat → Int32} (hn : n ≤ 6) (hs : s < 8) (ht : t + n ≤ 999) (hQ : ∀ mi2 : Nat → Nat → Int32, (∀ a, a ≠ 13 → a ≠ 17 → a ≠ 18 → a ≠ 19 → mi2 a = mi1 a) → (∀ j, j ≠ 5 → mi2 13 j = mi1 13 j) → mi2 13 5 = Int32.ofNat n → (∀ j, j < n → mi2 17 j = mi1 4 (t + j) ∧ mi2 18 j = mi1 5 (t + j)) → sx (mi2 19) = sx (mi1 (126 + s)) → Q none (am_shT, mrL b, mi2, ml)) : am_wp X (d + 3) 19 0 [.ref 13, .ref ((126 + s)), .ref 3, .int (Int32.ofNat (t)), .int (Int32.ofNat (n)), .retAddr 0] [] (am_shT, mrL b, mi1, ml) Q := by
  refine wi_aload_n rfl rfl ?_
  refine wi_getR rfl (kd_13 ..) (rd_13_0 _) ?_
  refine wi_iconst (x := 0) rfl rfl ?_
  refine wn_aaload (q := 0) rfl (Or.inl (ln_14 ..)) (rfl : (0 : Int32) = Int32.ofNat 0) (by decide) (by decide) (ra_14 _ 0 (by decide)) ?_
  refine wi_aload_n rfl rfl ?_
  refine wi_callV1 rfl (by decide) (by decide) rfl (kd_19 ..) rfl rfl rfl (c_copyFrom (kd_19 ..) (kr_1 (by omega) ..) (by omega) ?_)
  refine wi_aload_n rfl rfl ?_
  refine wi_iload rfl rfl ?_
  refine wi_bipush (x := 6) rfl rfl ?_
  refine wi_callS2 rfl (by decide) (by decide) rfl rfl rfl (c_cutZ (v := Int32.ofNat n) (by rw [show cutF (Int32.ofNat n) 6 = Int32.ofNat (min n 6) from cut_nat (t := 6) (by omega) (by decide), Nat.min_eq_left hn]) ?_)
  refine wi_putI rfl (kd_13 ..) ?_
  refine wi_iconst (x := 0) rfl rfl ?_
  refine wi_istore (l' := [.ref 13, .ref ((126 + s)), .ref 3, .int (Int32.ofNat (t)), .int (Int32.ofNat (n)), .int (0 : Int32)]) rfl (Nat.le_of_ble_eq_true rfl) rfl rfl ?_
  refine bw_l hn hs ht n 0 _ (by omega) rfl (fun mi2 k1 k2 k3 => ?_)
  refine hQ mi2 (fun a a1 a2 a3 a4 => ?_) (fun j hj => ?_) ?_ (fun j hj => ?_) ?_
  · rw [k1 a a2 a3, u2_ne a1, upT_ne a4]
  · rw [k1 13 (by decide) (by decide), u2_off hj]
    exact congrFun (upT_ne (by decide)) j
  · rw [k1 13 (by decide) (by decide), u2_same]
  · rw [(k2 j (by omega) hj).1, (k2 j (by omega) hj).2]
    exact ⟨rfl, rfl⟩
  · rw [k1 19 (by decide) (by decide), u2_ne (by decide)]
    unfold sx
    simp only [upT_rd]
    rfl
theorem c_best (hn : n ≤ 6) (hcv : cov ≤ 6) (hrl : rol ≤ 6) (hrn : ∀ k, k < n → mi0 17 k = rn k) (hsn : ∀ k, k < n → mi0 18 k = sn k) (h05 : mi0 13 5 = Int32.ofNat n) (h19 : sx (mi0 19) = w0) (hQ : ∀ mi2, PI mi0 n (trP (lfP n cov rol (fun z => bN (wc w0 rn sn n z))) n 0 none) mi2 → Q (some (.int (mo (trP (lfP n cov rol (fun z => bN (wc w0 rn sn n z))) n 0 none)))) (am_shT, mrL b, mi2, ml)) : am_wp X (d + n + 4) 20 0 [.ref 13, .int (Int32.ofNat cov), .int (Int32.ofNat rol)] [] (am_shT, mrL b, mi0, ml) Q := by
  refine wi_aload_n rfl rfl ?_
  refine wi_iconst (x := (-1)) rfl rfl ?_
  refine wi_putI rfl (kd_13 ..) ?_
  refine wi_aload_n rfl rfl ?_
  refine wi_iconst (x := 0) rfl rfl ?_
  refine wi_putI rfl (kd_13 ..) ?_
  refine wi_aload_n rfl rfl ?_
  refine wi_iconst (x := 0) rfl rfl ?_
  refine wi_iload_n rfl rfl ?_
  refine wi_iload_n rfl rfl ?_
  refine wi_iconst (x := 0) rfl rfl ?_
  refine wi_callV4 rfl (by decide) (by decide) rfl (kd_13 ..) rfl rfl rfl (c_try (d := d) (mi0 := mi0) (w0 := w0) (rn := rn) (sn := sn) hn hcv hrl hrn hsn h05 n 0 0 none _ _ (by omega) h05 ⟨fun a a1 _ _ _ => (u2_ne a1).trans (u2_ne a1), fun j j1 j2 => (u2_off j2).trans (u2_off j1), (u2_off (by decide)).trans u2_same, u2_same, fun x hx => by cases hx⟩ (fun j hj => absurd hj (by omega)) h19 (Nat.zero_le _) (Nat.zero_le _) (fun mi2 k1 k2 k3 => ?_))
  refine wi_aload_n rfl rfl ?_
  refine wi_getIv (v := mo (trP (lfP n cov rol (fun z => bN (wc w0 rn sn n z))) n 0 none)) rfl (kd_13 ..) k1.2.2.1 ?_
  refine wi_iret rfl (Or.inl rfl) ?_
  exact hQ mi2 k1
def MI (mi0 : Nat → Nat → Int32) (n : Nat) (s : PS) (mi1 : Nat → Nat → Int32) : Prop :=
  (∀ a, a ≠ 142 → a ≠ 146 → a ≠ 147 → mi1 a = mi0 a) ∧ (∀ x, s = some x → (∀ j, j < n → mi1 147 j = Int32.ofNat (dg n x.2.2 j)) ∧ x.1 < 2147483648 ∧ x.2.1 ≤ 12)
theorem u2_up6 {mi : Nat → Nat → Int32} {a k p : Nat} {v : Int32} {w : six} (h : a ≠ p) : u2 (up6 mi p w) a k v = up6 (u2 mi a k v) p w := by
  funext q i
  unfold u2 up6 upT
  by_cases hq : q = a
  · have hp : ¬ q = p := by omega
    simp only [if_pos hq, if_neg hp]
  · simp only [if_neg hq]
theorem pw_le {n : Nat} (h : n ≤ 6) : 4 ^ n ≤ 4096 := Nat.le_trans (Nat.pow_le_pow_right (by decide) h) (by decide)
theorem dv_s {n z k : Nat} (h : k < n) : z / 4 ^ (n - (k + 1)) / 4 = z / 4 ^ (n - k) ∧ z / 4 ^ (n - (k + 1)) % 4 = dg n z k := by
  refine ⟨?_, ?_⟩
  · have e : n - k = (n - (k + 1)) + 1 := by omega
    rw [e, Nat.pow_succ, Nat.div_div_eq_div_mul]
  · unfold dg
    rw [show n - 1 - k = n - (k + 1) by omega]
theorem cc_d {n z k : Nat} (h : k < n) : cc (k + 1) (z / 4 ^ (n - (k + 1))) = cc k (z / 4 ^ (n - k)) + dg n z k % 2 ∧ rc (k + 1) (z / 4 ^ (n - (k + 1))) = rc k (z / 4 ^ (n - k)) + dg n z k / 2 := by
  show cc k (z / 4 ^ (n - (k + 1)) / 4) + z / 4 ^ (n - (k + 1)) % 4 % 2 = _ ∧ rc k (z / 4 ^ (n - (k + 1)) / 4) + z / 4 ^ (n - (k + 1)) % 4 / 2 = _
  rw [(dv_s h).1, (dv_s h).2]
  exact ⟨rfl, rfl⟩
theorem wc_d {n z k : Nat} (h : k < n) : wc w0 rn sn (k + 1) (z / 4 ^ (n - (k + 1))) = dayF (wc w0 rn sn k (z / 4 ^ (n - k))).1 (wc w0 rn sn k (z / 4 ^ (n - k))).2.1 (wc w0 rn sn k (z / 4 ^ (n - k))).2.2.1 (wc w0 rn sn k (z / 4 ^ (n - k))).2.2.2.1 (wc w0 rn sn k (z / 4 ^ (n - k))).2.2.2.2.1 (wc w0 rn sn k (z / 4 ^ (n - k))).2.2.2.2.2 (rn k) (sn k) (Int32.ofNat (dg n z k)) 0 := by
  show dayF (wc w0 rn sn k (z / 4 ^ (n - (k + 1)) / 4)).1 (wc w0 rn sn k (z / 4 ^ (n - (k + 1)) / 4)).2.1 (wc w0 rn sn k (z / 4 ^ (n - (k + 1)) / 4)).2.2.1 (wc w0 rn sn k (z / 4 ^ (n - (k + 1)) / 4)).2.2.2.1 (wc w0 rn sn k (z / 4 ^ (n - (k + 1)) / 4)).2.2.2.2.1 (wc w0 rn sn k (z / 4 ^ (n - (k + 1)) / 4)).2.2.2.2.2 (rn k) (sn k) (Int32.ofNat (z / 4 ^ (n - (k + 1)) % 4)) 0 = _
  rw [(dv_s h).1, (dv_s h).2]
theorem wc_B (h : wB w0) : ∀ k z, wB (wc w0 rn sn k z) := by
  intro k
  induction k with
  | zero => intro z; exact h
  | succ k ih => intro z; exact day_rB (ih (z / 4)).2.2.2.1
theorem mp_in {s9 t z : Nat} {x5 x6 : Int32} {v11 : Value} (hn : n ≤ 6) (hs : s9 < 8) (ht : t + n ≤ 999) (hcv : cov ≤ 6) (hrl : rol ≤ 6) (hz : z < 4 ^ n) (hwb : wB w0) (hrB : ∀ k, k < n → rB (rn k) 0 100) {mi1 : Nat → Nat → Int32} (ht5' : mi1 134 5 = Int32.ofNat t) (hrs : ∀ k, k < n → mi1 138 (t + k) = rn k ∧ mi1 139 (t + k) = sn k) (hQ : ∀ mk : Nat → Nat → Int32, (∀ a, a ≠ 146 → mk a = mi1 a) → (∀ j, j < n → mk 146 j = Int32.ofNat (dg n z j)) → am_wp X (d + 4) 167 123 [.ref 134, .int (Int32.ofNat (s9)), .int (Int32.ofNat (n)), .int (Int32.ofNat (cov)), .int (Int32.ofNat (rol)), .int x5, .int x6, .int (Int32.ofNat (z)), .int (Int32.ofNat (cc n z)), .int (Int32.ofNat (rc n z)), .int (Int32.ofNat (n)), v11] [] (am_shT, mrL b, up6 mk 142 (wc w0 rn sn n z), ml) Q) : ∀ r k (mk : Nat → Nat → Int32), k + r = n → (∀ a, a ≠ 146 → mk a = mi1 a) → (∀ j, j < k → mk 146 j = Int32.ofNat (dg n z j)) → am_wp X (d + 4) 167 64 [.ref 134, .int (Int32.ofNat (s9)), .int (Int32.ofNat (n)), .int (Int32.ofNat (cov)), .int (Int32.ofNat (rol)), .int x5, .int x6, .int (Int32.ofNat (z)), .int (Int32.ofNat (cc (k) (z / 4 ^ (n - (k))))), .int (Int32.ofNat (rc (k) (z / 4 ^ (n - (k))))), .int (Int32.ofNat (k)), v11] [] (am_shT, mrL b, up6 mk 142 (wc w0 rn sn (k) (z / 4 ^ (n - (k)))), ml) Q := by
  have hpw := pw_le hn
  intro r
  induction r with
  | zero =>
    intro k mk hk hmk hT
    have ht5 : mk 134 5 = Int32.ofNat t := by rw [hmk 134 (by decide)]; exact ht5'
    refine wi_iload rfl rfl ?_
    refine wi_iload_n rfl rfl ?_
    refine wi_icmp_ge rfl (fun _ => ?_) (fun h9 => absurd trivial (by exfalso; have h8 := (not_congr (le_n (a := n) (b := k) rfl rfl (by omega) (by omega))).mp h9; omega))
    obtain rfl : k = n := by omega
    rw [Nat.sub_self, Nat.pow_zero, Nat.div_one]
    exact hQ mk hmk hT
  | succ r ih =>
    intro k mk hk hmk hT
    have ht5 : mk 134 5 = Int32.ofNat t := by rw [hmk 134 (by decide)]; exact ht5'
    have hrk : mk 138 (t + k) = rn k := by rw [hmk 138 (by decide)]; exact (hrs k (by omega)).1
    have hsk : mk 139 (t + k) = sn k := by rw [hmk 139 (by decide)]; exact (hrs k (by omega)).2
    have hdg := dg_le (k := n) (z := z) (j := k)
    have hcl := cc_le k (z / 4 ^ (n - k))
    refine wi_iload rfl rfl ?_
    refine wi_iload_n rfl rfl ?_
    refine wi_icmp_ge rfl (fun h9 => absurd trivial (by exfalso; have h8 := (le_n (a := n) (b := k) rfl rfl (by omega) (by omega)).mp h9; omega)) (fun _ => ?_)
    refine wi_aload_n rfl rfl ?_
    refine wi_getR rfl (kd_134 ..) (rd_134_18 _) ?_
    refine wi_iload rfl rfl ?_
    refine wi_iload rfl rfl ?_
    refine wi_iconst (x := 2) rfl rfl ?_
    refine wi_iload_n rfl rfl ?_
    refine wi_iconst (x := 1) rfl rfl ?_
    refine wn_isub (z := (Int32.ofNat (n - 1))) rfl (sub_n (a := n) (b := 1) rfl (rfl : (1 : Int32) = Int32.ofNat 1) (by omega)) ?_
    refine wi_iload rfl rfl ?_
    refine wn_isub (z := (Int32.ofNat (n - 1 - k))) rfl (sub_n (a := n - 1) (b := k) rfl rfl (by omega)) ?_
    refine wn_imul (z := (Int32.ofNat (2 * (n - 1 - k)))) rfl (mul_n (a := 2) (b := n - 1 - k) (rfl : (2 : Int32) = Int32.ofNat 2) rfl) ?_
    refine wi_ishr rfl ?_
    refine wi_iconst (x := 3) rfl rfl ?_
    refine wi_iand rfl ?_
    rw [show ((Int32.ofNat z >>> (Int32.ofNat (2 * (n - 1 - k)) &&& 31)) &&& 3 : Int32) = Int32.ofNat (dg n z k) from shr_dg (by omega) (by omega)]
    refine wn_iastore (q := k) rfl (ln_146 ..) rfl (by omega) (by decide) ?_
    refine wp_mem (u2_up6 (by decide)) ?_
    refine wi_iload rfl rfl ?_
    refine wi_aload_n rfl rfl ?_
    refine wi_getR rfl (kd_134 ..) (rd_134_18 _) ?_
    refine wi_iload rfl rfl ?_
    refine wn_iaload (q := k) (v := (Int32.ofNat (dg n z k))) rfl (ln_146 ..) rfl (by omega) (by decide) (by decide) (by decide) (by rw [up6_ne (by decide)]; exact u2_same) ?_
    refine wi_iconst (x := 1) rfl rfl ?_
    refine wi_iand rfl ?_
    rw [show (Int32.ofNat (dg n z k) &&& 1 : Int32) = Int32.ofNat (dg n z k % 2) from and1_n (by omega)]
    refine wn_iadd (z := (Int32.ofNat (cc (k) (z / 4 ^ (n - (k))) + dg n z k % 2))) rfl (add_n (a := cc (k) (z / 4 ^ (n - (k)))) (b := dg n z k % 2) rfl rfl) ?_
    refine wi_istore (l' := [.ref 134, .int (Int32.ofNat (s9)), .int (Int32.ofNat (n)), .int (Int32.ofNat (cov)), .int (Int32.ofNat (rol)), .int x5, .int x6, .int (Int32.ofNat (z)), .int (Int32.ofNat (cc (k) (z / 4 ^ (n - (k))) + dg n z k % 2)), .int (Int32.ofNat (rc (k) (z / 4 ^ (n - (k))))), .int (Int32.ofNat (k)), v11]) rfl (Nat.le_of_ble_eq_true rfl) rfl rfl ?_
    refine wi_iload rfl rfl ?_
    refine wi_aload_n rfl rfl ?_
    refine wi_getR rfl (kd_134 ..) (rd_134_18 _) ?_
    refine wi_iload rfl rfl ?_
    refine wn_iaload (q := k) (v := (Int32.ofNat (dg n z k))) rfl (ln_146 ..) rfl (by omega) (by decide) (by decide) (by decide) (by rw [up6_ne (by decide)]; exact u2_same) ?_
    refine wi_iconst (x := 1) rfl rfl ?_
    refine wi_ishr rfl ?_
    rw [show (Int32.ofNat (dg n z k) >>> ((1 : Int32) &&& 31) : Int32) = Int32.ofNat (dg n z k / 2) from shr1_n (by omega)]
    refine wn_iadd (z := (Int32.ofNat (rc (k) (z / 4 ^ (n - (k))) + dg n z k / 2))) rfl (add_n (a := rc (k) (z / 4 ^ (n - (k)))) (b := dg n z k / 2) rfl rfl) ?_
    refine wi_istore (l' := [.ref 134, .int (Int32.ofNat (s9)), .int (Int32.ofNat (n)), .int (Int32.ofNat (cov)), .int (Int32.ofNat (rol)), .int x5, .int x6, .int (Int32.ofNat (z)), .int (Int32.ofNat (cc (k) (z / 4 ^ (n - (k))) + dg n z k % 2)), .int (Int32.ofNat (rc (k) (z / 4 ^ (n - (k))) + dg n z k / 2)), .int (Int32.ofNat (k)), v11]) rfl (Nat.le_of_ble_eq_true rfl) rfl rfl ?_
    refine wi_aload_n rfl rfl ?_
    refine wi_aload_n rfl rfl ?_
    refine wi_getR rfl (kd_134 ..) (rd_134_9 _) ?_
    refine wi_aload_n rfl rfl ?_
    refine wi_getIv (v := (Int32.ofNat (t))) rfl (kd_134 ..) ht5 ?_
    refine wi_iload rfl rfl ?_
    refine wn_iadd (z := (Int32.ofNat (t + k))) rfl (add_n (a := t) (b := k) rfl rfl) ?_
    refine wn_iaload (q := t + k) (v := (rn k)) rfl (ln_138 ..) rfl (by omega) (by decide) (by decide) (by decide) hrk ?_
    refine wi_aload_n rfl rfl ?_
    refine wi_getR rfl (kd_134 ..) (rd_134_10 _) ?_
    refine wi_aload_n rfl rfl ?_
    refine wi_getIv (v := (Int32.ofNat (t))) rfl (kd_134 ..) ht5 ?_
    refine wi_iload rfl rfl ?_
    refine wn_iadd (z := (Int32.ofNat (t + k))) rfl (add_n (a := t) (b := k) rfl rfl) ?_
    refine wn_iaload (q := t + k) (v := (sn k)) rfl (ln_139 ..) rfl (by omega) (by decide) (by decide) (by decide) hsk ?_
    refine wi_aload_n rfl rfl ?_
    refine wi_getR rfl (kd_134 ..) (rd_134_18 _) ?_
    refine wi_iload rfl rfl ?_
    refine wn_iaload (q := k) (v := (Int32.ofNat (dg n z k))) rfl (ln_146 ..) rfl (by omega) (by decide) (by decide) (by decide) (by rw [up6_ne (by decide)]; exact u2_same) ?_
    refine wi_iconst (x := 0) rfl rfl ?_
    refine wi_callV4 rfl (by decide) (by decide) rfl (kd_134 ..) rfl rfl rfl (c_steps ?_)
    refine wi_iinc (z := (Int32.ofNat (k + 1))) rfl rfl rfl (add_n (a := k) (b := 1) rfl rfl) rfl ?_
    refine wi_goto rfl ?_
    have e8 := cc_d (z := z) (show k < n by omega)
    have e9 : up6 (u2 mk 146 k (Int32.ofNat (dg n z k))) 142 (mdayF (wc w0 rn sn (k) (z / 4 ^ (n - (k)))).1 (wc w0 rn sn (k) (z / 4 ^ (n - (k)))).2.1 (wc w0 rn sn (k) (z / 4 ^ (n - (k)))).2.2.1 (wc w0 rn sn (k) (z / 4 ^ (n - (k)))).2.2.2.1 (wc w0 rn sn (k) (z / 4 ^ (n - (k)))).2.2.2.2.1 (wc w0 rn sn (k) (z / 4 ^ (n - (k)))).2.2.2.2.2 (rn k) (sn k) (Int32.ofNat (dg n z k)) 0) = up6 (u2 mk 146 k (Int32.ofNat (dg n z k))) 142 (wc w0 rn sn (k + 1) (z / 4 ^ (n - (k + 1)))) := by
      rw [wc_d (by omega), day_eq (wc_B hwb _ _).1 (hrB k (by omega)) (rB_of (hi := 31) (by omega) (by decide))]
    refine wp_mem e9 ?_
    have h9 := ih (k + 1) (u2 mk 146 k (Int32.ofNat (dg n z k))) (by omega) (fun a ha => (u2_ne ha).trans (hmk a ha)) (fun j hj => by
      by_cases hjk : j = k
      · rw [hjk, u2_same]
      · rw [u2_off hjk]
        exact hT j (by omega))
    rw [e8.1, e8.2] at h9
    exact h9
theorem mp_cp {s9 z : Nat} {x5 x6 x8 x9 x10 : Int32} (hn : n ≤ 6) : ∀ r i (mi1 : Nat → Nat → Int32), i + r = n → (∀ mi2 : Nat → Nat → Int32, (∀ a, a ≠ 147 → mi2 a = mi1 a) → (∀ j, i ≤ j → j < n → mi2 147 j = mi1 146 j) → (∀ j, j < i → mi2 147 j = mi1 147 j) → am_wp X (d + 4) 167 165 [.ref 134, .int (Int32.ofNat (s9)), .int (Int32.ofNat (n)), .int (Int32.ofNat (cov)), .int (Int32.ofNat (rol)), .int x5, .int x6, .int (Int32.ofNat (z)), .int x8, .int x9, .int x10, .int (Int32.ofNat (n))] [] (am_shT, mrL b, mi2, ml) Q) → am_wp X (d + 4) 167 152 [.ref 134, .int (Int32.ofNat (s9)), .int (Int32.ofNat (n)), .int (Int32.ofNat (cov)), .int (Int32.ofNat (rol)), .int x5, .int x6, .int (Int32.ofNat (z)), .int x8, .int x9, .int x10, .int (Int32.ofNat (i))] [] (am_shT, mrL b, mi1, ml) Q := by
  intro r
  induction r with
  | zero =>
    intro i mi1 hi hQ
    refine wi_iload rfl rfl ?_
    refine wi_iload_n rfl rfl ?_
    refine wi_icmp_ge rfl (fun _ => ?_) (fun h9 => absurd trivial (by exfalso; have h8 := (not_congr (le_n (a := n) (b := i) rfl rfl (by omega) (by omega))).mp h9; omega))
    obtain rfl : i = n := by omega
    exact hQ mi1 (fun _ _ => rfl) (fun j h1 h2 => absurd h1 (by omega)) (fun _ _ => rfl)
  | succ r ih =>
    intro i mi1 hi hQ
    refine wi_iload rfl rfl ?_
    refine wi_iload_n rfl rfl ?_
    refine wi_icmp_ge rfl (fun h9 => absurd trivial (by exfalso; have h8 := (le_n (a := n) (b := i) rfl rfl (by omega) (by omega)).mp h9; omega)) (fun _ => ?_)
    refine wi_aload_n rfl rfl ?_
    refine wi_getR rfl (kd_134 ..) (rd_134_19 _) ?_
    refine wi_iload rfl rfl ?_
    refine wi_aload_n rfl rfl ?_
    refine wi_getR rfl (kd_134 ..) (rd_134_18 _) ?_
    refine wi_iload rfl rfl ?_
    refine wn_iaload (q := i) (v := (mi1 146 i)) rfl (ln_146 ..) rfl (by omega) (by decide) (by decide) (by decide) rfl ?_
    refine wn_iastore (q := i) rfl (ln_147 ..) rfl (by omega) (by decide) ?_
    refine wi_iinc (z := (Int32.ofNat (i + 1))) rfl rfl rfl (add_n (a := i) (b := 1) rfl rfl) rfl ?_
    refine wi_goto rfl ?_
    refine ih (i + 1) (u2 mi1 147 i (mi1 146 i)) (by omega) (fun mi2 h1 h2 h3 => hQ mi2 (fun a ha => (h1 a ha).trans (u2_ne ha)) (fun j k1 k2 => ?_) (fun j k1 => ?_))
    · rcases Nat.lt_or_ge i j with k3 | k3
      · exact (h2 j (by omega) k2).trans (congrFun (u2_ne (by decide)) j)
      · rw [show j = i by omega, h3 i (by omega), u2_same]
    · rw [h3 j (by omega), u2_off (by omega)]
theorem mp_out {s9 t : Nat} (hn : n ≤ 6) (hs : s9 < 8) (ht : t + n ≤ 999) (hcv : cov ≤ 6) (hrl : rol ≤ 6) (hwb : wB w0) (hrB : ∀ k, k < n → rB (rn k) 0 100) (ht5 : mi0 134 5 = Int32.ofNat t) (hrs : ∀ k, k < n → mi0 138 (t + k) = rn k ∧ mi0 139 (t + k) = sn k)
    (hbg : ∀ mm : Nat → Nat → Int32, mm 135 = mi0 135 → upT mm 142 (mm 135 (6 * s9 + 0)) (mm 135 (6 * s9 + 1)) (mm 135 (6 * s9 + 2)) (mm 135 (6 * s9 + 3)) (mm 135 (6 * s9 + 4)) (mm 135 (6 * s9 + 5)) = up6 mm 142 w0) : ∀ r z (s : PS) (mi1 : Nat → Nat → Int32) (v8 v9 v10 v11 : Value), z + r = 4 ^ n → MI mi0 n s mi1 → (∀ mi2, MI mi0 n (fcP (lfP n cov rol (fun z => bN (wc w0 rn sn n z))) r z s) mi2 → ∀ v8 v9 v10 v11 : Value, am_wp X (d + 4) 167 167 [.ref 134, .int (Int32.ofNat (s9)), .int (Int32.ofNat (n)), .int (Int32.ofNat (cov)), .int (Int32.ofNat (rol)), .int (mo (fcP (lfP n cov rol (fun z => bN (wc w0 rn sn n z))) r z s)), .int (fo (fcP (lfP n cov rol (fun z => bN (wc w0 rn sn n z))) r z s)), .int (Int32.ofNat (4 ^ n)), v8, v9, v10, v11] [] (am_shT, mrL b, mi2, ml) Q) → am_wp X (d + 4) 167 48 [.ref 134, .int (Int32.ofNat (s9)), .int (Int32.ofNat (n)), .int (Int32.ofNat (cov)), .int (Int32.ofNat (rol)), .int (mo s), .int (fo s), .int (Int32.ofNat (z)), v8, v9, v10, v11] [] (am_shT, mrL b, mi1, ml) Q := by
  have hpw := pw_le hn
  intro r
  induction r with
  | zero =>
    intro z s mi1 v8 v9 v10 v11 hz hM hQ
    refine wi_iload rfl rfl ?_
    refine wi_iconst (x := 1) rfl rfl ?_
    refine wi_iconst (x := 2) rfl rfl ?_
    refine wi_iload_n rfl rfl ?_
    refine wn_imul (z := (Int32.ofNat (2 * n))) rfl (mul_n (a := 2) (b := n) (rfl : (2 : Int32) = Int32.ofNat 2) rfl) ?_
    refine wi_ishl rfl ?_
    rw [show ((1 : Int32) <<< (Int32.ofNat (2 * n) &&& 31)) = Int32.ofNat (4 ^ n) from shl1 hn]
    refine wi_icmp_ge rfl (fun _ => ?_) (fun h9 => absurd trivial (by exfalso; have h8 := (not_congr (le_n (a := 4 ^ n) (b := z) rfl rfl (by omega) (by omega))).mp h9; omega))
    obtain rfl : z = 4 ^ n := by omega
    exact hQ mi1 hM v8 v9 v10 v11
  | succ r ih =>
    intro z s mi1 v8 v9 v10 v11 hz hM hQ
    have hcl := cc_le n z
    have hb9 := (bN_eq (wc w0 rn sn n z)).2
    rcases s with _ | x
    · show am_wp X (d + 4) 167 48 [.ref 134, .int (Int32.ofNat (s9)), .int (Int32.ofNat (n)), .int (Int32.ofNat (cov)), .int (Int32.ofNat (rol)), .int (-1 : Int32), .int (0 : Int32), .int (Int32.ofNat (z)), v8, v9, v10, v11] [] (am_shT, mrL b, mi1, ml) Q
      refine wi_iload rfl rfl ?_
      refine wi_iconst (x := 1) rfl rfl ?_
      refine wi_iconst (x := 2) rfl rfl ?_
      refine wi_iload_n rfl rfl ?_
      refine wn_imul (z := (Int32.ofNat (2 * n))) rfl (mul_n (a := 2) (b := n) (rfl : (2 : Int32) = Int32.ofNat 2) rfl) ?_
      refine wi_ishl rfl ?_
      rw [show ((1 : Int32) <<< (Int32.ofNat (2 * n) &&& 31)) = Int32.ofNat (4 ^ n) from shl1 hn]
      refine wi_icmp_ge rfl (fun h9 => absurd trivial (by exfalso; have h8 := (le_n (a := 4 ^ n) (b := z) rfl rfl (by omega) (by omega)).mp h9; omega)) (fun _ => ?_)
      refine wi_iconst (x := 0) rfl rfl ?_
      refine wi_istore (l' := [.ref 134, .int (Int32.ofNat (s9)), .int (Int32.ofNat (n)), .int (Int32.ofNat (cov)), .int (Int32.ofNat (rol)), .int (-1 : Int32), .int (0 : Int32), .int (Int32.ofNat (z)), .int (0 : Int32), v9, v10, v11]) rfl (Nat.le_of_ble_eq_true rfl) rfl rfl ?_
      refine wi_iconst (x := 0) rfl rfl ?_
      refine wi_istore (l' := [.ref 134, .int (Int32.ofNat (s9)), .int (Int32.ofNat (n)), .int (Int32.ofNat (cov)), .int (Int32.ofNat (rol)), .int (-1 : Int32), .int (0 : Int32), .int (Int32.ofNat (z)), .int (0 : Int32), .int (0 : Int32), v10, v11]) rfl (Nat.le_of_ble_eq_true rfl) rfl rfl ?_
      refine wi_aload_n rfl rfl ?_
      refine wi_iload_n rfl rfl ?_
      refine wi_callV1 rfl (by decide) (by decide) rfl (kd_134 ..) rfl rfl rfl (c_begin hs ?_)
      refine wi_iconst (x := 0) rfl rfl ?_
      refine wi_istore (l' := [.ref 134, .int (Int32.ofNat (s9)), .int (Int32.ofNat (n)), .int (Int32.ofNat (cov)), .int (Int32.ofNat (rol)), .int (-1 : Int32), .int (0 : Int32), .int (Int32.ofNat (z)), .int (0 : Int32), .int (0 : Int32), .int (0 : Int32), v11]) rfl (Nat.le_of_ble_eq_true rfl) rfl rfl ?_
      refine wp_mem (mi2 := up6 mi1 142 (wc w0 rn sn 0 (z / 4 ^ (n - 0)))) (hbg mi1 (hM.1 135 (by decide) (by decide) (by decide))) ?_
      refine mp_in (mi1 := mi1) (w0 := w0) (rn := rn) (sn := sn) hn hs ht hcv hrl (by omega) hwb hrB (by rw [hM.1 134 (by decide) (by decide) (by decide)]; exact ht5) (fun k hk => by rw [hM.1 138 (by decide) (by decide) (by decide), hM.1 139 (by decide) (by decide) (by decide)]; exact hrs k hk) (fun mk hmk hT => ?_) n 0 mi1 (by omega) (fun _ _ => rfl) (fun j hj => absurd hj (by omega))
      refine wi_aload_n rfl rfl ?_
      refine wi_callV0 rfl (by decide) (by decide) rfl (kd_134 ..) rfl rfl rfl (c_mbounceZ (bN_eq (wc w0 rn sn n z)).1 ?_)
      refine wi_istore (l' := [.ref 134, .int (Int32.ofNat (s9)), .int (Int32.ofNat (n)), .int (Int32.ofNat (cov)), .int (Int32.ofNat (rol)), .int (-1 : Int32), .int (0 : Int32), .int (Int32.ofNat (z)), .int (Int32.ofNat (cc n z)), .int (Int32.ofNat (rc n z)), .int (Int32.ofNat (bN (wc w0 rn sn n z))), v11]) rfl (Nat.le_of_ble_eq_true rfl) rfl rfl ?_
      refine wi_iload rfl rfl ?_
      refine wi_iload_n rfl rfl ?_
      refine wi_icmp_gt rfl (fun g1 => ?_) (fun g1 => ?_)
      · replace g1 := (lt_n (a := cov) (b := cc n z) rfl rfl (by omega) (by omega)).mp g1
        refine wi_iinc (z := (Int32.ofNat (z + 1))) rfl rfl rfl (add_n (a := z) (b := 1) rfl rfl) rfl ?_
        refine wi_goto rfl ?_
        have hL : (lfP n cov rol (fun z => bN (wc w0 rn sn n z))) z none = none := lf_out (by omega)
        have hM2 : MI mi0 n none (up6 mk 142 (wc w0 rn sn n z)) := by
          refine ⟨fun a a1 a2 a3 => ?_, fun y hy => ?_⟩
          · rw [up6_ne a1, hmk a a2]
            exact hM.1 a a1 a2 a3
          · rw [up6_ne (by decide), hmk 147 (by decide)]
            exact hM.2 y hy
        rw [← hL] at hM2
        have h9 := fun v8 v9 v10 v11 => ih (z + 1) ((lfP n cov rol (fun z => bN (wc w0 rn sn n z))) z none) _ v8 v9 v10 v11 (by omega) hM2 hQ
        rw [hL] at h9
        exact h9 _ _ _ _
      · replace g1 := (not_congr (lt_n (a := cov) (b := cc n z) rfl rfl (by omega) (by omega))).mp g1
        refine wi_iload rfl rfl ?_
        refine wi_iload rfl rfl ?_
        refine wi_icmp_gt rfl (fun g2 => ?_) (fun g2 => ?_)
        · replace g2 := (lt_n (a := rol) (b := rc n z) rfl rfl (by omega) (by omega)).mp g2
          refine wi_iinc (z := (Int32.ofNat (z + 1))) rfl rfl rfl (add_n (a := z) (b := 1) rfl rfl) rfl ?_
          refine wi_goto rfl ?_
          have hL : (lfP n cov rol (fun z => bN (wc w0 rn sn n z))) z none = none := lf_out (by omega)
          have hM2 : MI mi0 n none (up6 mk 142 (wc w0 rn sn n z)) := by
            refine ⟨fun a a1 a2 a3 => ?_, fun y hy => ?_⟩
            · rw [up6_ne a1, hmk a a2]
              exact hM.1 a a1 a2 a3
            · rw [up6_ne (by decide), hmk 147 (by decide)]
              exact hM.2 y hy
          rw [← hL] at hM2
          have h9 := fun v8 v9 v10 v11 => ih (z + 1) ((lfP n cov rol (fun z => bN (wc w0 rn sn n z))) z none) _ v8 v9 v10 v11 (by omega) hM2 hQ
          rw [hL] at h9
          exact h9 _ _ _ _
        · replace g2 := (not_congr (lt_n (a := rol) (b := rc n z) rfl rfl (by omega) (by omega))).mp g2
          refine wi_iload rfl rfl ?_
          refine wi_iload rfl rfl ?_
          refine wi_icmp_lt rfl (fun h9 => absurd h9 (fun h8 => absurd (Int32.lt_trans h8 (gtm1 hb9)) (fun h7 => Int32.lt_irrefl h7))) (fun _ => ?_)
          refine wi_iload rfl rfl ?_
          refine wi_iload rfl rfl ?_
          refine wi_icmp_ne rfl (fun _ => ?_) (fun h9 => absurd (nm2 hb9) h9)
          refine wi_iload rfl rfl ?_
          refine wi_istore (l' := [.ref 134, .int (Int32.ofNat (s9)), .int (Int32.ofNat (n)), .int (Int32.ofNat (cov)), .int (Int32.ofNat (rol)), .int (Int32.ofNat (bN (wc w0 rn sn n z))), .int (0 : Int32), .int (Int32.ofNat (z)), .int (Int32.ofNat (cc n z)), .int (Int32.ofNat (rc n z)), .int (Int32.ofNat (bN (wc w0 rn sn n z))), v11]) rfl (Nat.le_of_ble_eq_true rfl) rfl rfl ?_
          refine wi_iload rfl rfl ?_
          refine wi_iload rfl rfl ?_
          refine wn_iadd (z := (Int32.ofNat (cc n z + rc n z))) rfl (add_n (a := cc n z) (b := rc n z) rfl rfl) ?_
          refine wi_istore (l' := [.ref 134, .int (Int32.ofNat (s9)), .int (Int32.ofNat (n)), .int (Int32.ofNat (cov)), .int (Int32.ofNat (rol)), .int (Int32.ofNat (bN (wc w0 rn sn n z))), .int (Int32.ofNat (cc n z + rc n z)), .int (Int32.ofNat (z)), .int (Int32.ofNat (cc n z)), .int (Int32.ofNat (rc n z)), .int (Int32.ofNat (bN (wc w0 rn sn n z))), v11]) rfl (Nat.le_of_ble_eq_true rfl) rfl rfl ?_
          refine wi_iconst (x := 0) rfl rfl ?_
          refine wi_istore (l' := [.ref 134, .int (Int32.ofNat (s9)), .int (Int32.ofNat (n)), .int (Int32.ofNat (cov)), .int (Int32.ofNat (rol)), .int (Int32.ofNat (bN (wc w0 rn sn n z))), .int (Int32.ofNat (cc n z + rc n z)), .int (Int32.ofNat (z)), .int (Int32.ofNat (cc n z)), .int (Int32.ofNat (rc n z)), .int (Int32.ofNat (bN (wc w0 rn sn n z))), .int (0 : Int32)]) rfl (Nat.le_of_ble_eq_true rfl) rfl rfl ?_
          have hL : (lfP n cov rol (fun z => bN (wc w0 rn sn n z))) z none = some (bN (wc w0 rn sn n z), cc n z + rc n z, z) := lf_none (by omega) (by omega)
          refine mp_cp hn n 0 _ (by omega) (fun mi2 k1 k2 k3 => ?_)
          have hM2 : MI mi0 n (some (bN (wc w0 rn sn n z), cc n z + rc n z, z)) mi2 := by
            refine ⟨fun a a1 a2 a3 => ?_, fun y hy => ?_⟩
            · rw [k1 a a3, upT_ne a1, hmk a a2]
              exact hM.1 a a1 a2 a3
            · cases hy
              refine ⟨fun j hj => ?_, hb9, by have := cc_le n z; show cc n z + rc n z ≤ 12; omega⟩
              rw [k2 j (by omega) hj, upT_ne (by decide)]
              exact hT j hj
          rw [← hL] at hM2
          refine wi_iinc (z := (Int32.ofNat (z + 1))) rfl rfl rfl (add_n (a := z) (b := 1) rfl rfl) rfl ?_
          refine wi_goto rfl ?_
          have h9 := fun v8 v9 v10 v11 => ih (z + 1) ((lfP n cov rol (fun z => bN (wc w0 rn sn n z))) z none) mi2 v8 v9 v10 v11 (by omega) hM2 hQ
          rw [hL] at h9
          exact h9 _ _ _ _
    · have hx := (hM.2 x rfl).2
      show am_wp X (d + 4) 167 48 [.ref 134, .int (Int32.ofNat (s9)), .int (Int32.ofNat (n)), .int (Int32.ofNat (cov)), .int (Int32.ofNat (rol)), .int (Int32.ofNat (x.1)), .int (Int32.ofNat (x.2.1)), .int (Int32.ofNat (z)), v8, v9, v10, v11] [] (am_shT, mrL b, mi1, ml) Q
      refine wi_iload rfl rfl ?_
      refine wi_iconst (x := 1) rfl rfl ?_
      refine wi_iconst (x := 2) rfl rfl ?_
      refine wi_iload_n rfl rfl ?_
      refine wn_imul (z := (Int32.ofNat (2 * n))) rfl (mul_n (a := 2) (b := n) (rfl : (2 : Int32) = Int32.ofNat 2) rfl) ?_
      refine wi_ishl rfl ?_
      rw [show ((1 : Int32) <<< (Int32.ofNat (2 * n) &&& 31)) = Int32.ofNat (4 ^ n) from shl1 hn]
      refine wi_icmp_ge rfl (fun h9 => absurd trivial (by exfalso; have h8 := (le_n (a := 4 ^ n) (b := z) rfl rfl (by omega) (by omega)).mp h9; omega)) (fun _ => ?_)
      refine wi_iconst (x := 0) rfl rfl ?_
      refine wi_istore (l' := [.ref 134, .int (Int32.ofNat (s9)), .int (Int32.ofNat (n)), .int (Int32.ofNat (cov)), .int (Int32.ofNat (rol)), .int (Int32.ofNat (x.1)), .int (Int32.ofNat (x.2.1)), .int (Int32.ofNat (z)), .int (0 : Int32), v9, v10, v11]) rfl (Nat.le_of_ble_eq_true rfl) rfl rfl ?_
      refine wi_iconst (x := 0) rfl rfl ?_
      refine wi_istore (l' := [.ref 134, .int (Int32.ofNat (s9)), .int (Int32.ofNat (n)), .int (Int32.ofNat (cov)), .int (Int32.ofNat (rol)), .int (Int32.ofNat (x.1)), .int (Int32.ofNat (x.2.1)), .int (Int32.ofNat (z)), .int (0 : Int32), .int (0 : Int32), v10, v11]) rfl (Nat.le_of_ble_eq_true rfl) rfl rfl ?_
      refine wi_aload_n rfl rfl ?_
      refine wi_iload_n rfl rfl ?_
      refine wi_callV1 rfl (by decide) (by decide) rfl (kd_134 ..) rfl rfl rfl (c_begin hs ?_)
      refine wi_iconst (x := 0) rfl rfl ?_
      refine wi_istore (l' := [.ref 134, .int (Int32.ofNat (s9)), .int (Int32.ofNat (n)), .int (Int32.ofNat (cov)), .int (Int32.ofNat (rol)), .int (Int32.ofNat (x.1)), .int (Int32.ofNat (x.2.1)), .int (Int32.ofNat (z)), .int (0 : Int32), .int (0 : Int32), .int (0 : Int32), v11]) rfl (Nat.le_of_ble_eq_true rfl) rfl rfl ?_
      refine wp_mem (mi2 := up6 mi1 142 (wc w0 rn sn 0 (z / 4 ^ (n - 0)))) (hbg mi1 (hM.1 135 (by decide) (by decide) (by decide))) ?_
      refine mp_in (mi1 := mi1) (w0 := w0) (rn := rn) (sn := sn) hn hs ht hcv hrl (by omega) hwb hrB (by rw [hM.1 134 (by decide) (by decide) (by decide)]; exact ht5) (fun k hk => by rw [hM.1 138 (by decide) (by decide) (by decide), hM.1 139 (by decide) (by decide) (by decide)]; exact hrs k hk) (fun mk hmk hT => ?_) n 0 mi1 (by omega) (fun _ _ => rfl) (fun j hj => absurd hj (by omega))
      refine wi_aload_n rfl rfl ?_
      refine wi_callV0 rfl (by decide) (by decide) rfl (kd_134 ..) rfl rfl rfl (c_mbounceZ (bN_eq (wc w0 rn sn n z)).1 ?_)
      refine wi_istore (l' := [.ref 134, .int (Int32.ofNat (s9)), .int (Int32.ofNat (n)), .int (Int32.ofNat (cov)), .int (Int32.ofNat (rol)), .int (Int32.ofNat (x.1)), .int (Int32.ofNat (x.2.1)), .int (Int32.ofNat (z)), .int (Int32.ofNat (cc n z)), .int (Int32.ofNat (rc n z)), .int (Int32.ofNat (bN (wc w0 rn sn n z))), v11]) rfl (Nat.le_of_ble_eq_true rfl) rfl rfl ?_
      refine wi_iload rfl rfl ?_
      refine wi_iload_n rfl rfl ?_
      refine wi_icmp_gt rfl (fun g1 => ?_) (fun g1 => ?_)
      · replace g1 := (lt_n (a := cov) (b := cc n z) rfl rfl (by omega) (by omega)).mp g1
        refine wi_iinc (z := (Int32.ofNat (z + 1))) rfl rfl rfl (add_n (a := z) (b := 1) rfl rfl) rfl ?_
        refine wi_goto rfl ?_
        have hL : (lfP n cov rol (fun z => bN (wc w0 rn sn n z))) z (some x) = (some x) := lf_out (by omega)
        have hM2 : MI mi0 n (some x) (up6 mk 142 (wc w0 rn sn n z)) := by
          refine ⟨fun a a1 a2 a3 => ?_, fun y hy => ?_⟩
          · rw [up6_ne a1, hmk a a2]
            exact hM.1 a a1 a2 a3
          · rw [up6_ne (by decide), hmk 147 (by decide)]
            exact hM.2 y hy
        rw [← hL] at hM2
        have h9 := fun v8 v9 v10 v11 => ih (z + 1) ((lfP n cov rol (fun z => bN (wc w0 rn sn n z))) z (some x)) _ v8 v9 v10 v11 (by omega) hM2 hQ
        rw [hL] at h9
        exact h9 _ _ _ _
      · replace g1 := (not_congr (lt_n (a := cov) (b := cc n z) rfl rfl (by omega) (by omega))).mp g1
        refine wi_iload rfl rfl ?_
        refine wi_iload rfl rfl ?_
        refine wi_icmp_gt rfl (fun g2 => ?_) (fun g2 => ?_)
        · replace g2 := (lt_n (a := rol) (b := rc n z) rfl rfl (by omega) (by omega)).mp g2
          refine wi_iinc (z := (Int32.ofNat (z + 1))) rfl rfl rfl (add_n (a := z) (b := 1) rfl rfl) rfl ?_
          refine wi_goto rfl ?_
          have hL : (lfP n cov rol (fun z => bN (wc w0 rn sn n z))) z (some x) = (some x) := lf_out (by omega)
          have hM2 : MI mi0 n (some x) (up6 mk 142 (wc w0 rn sn n z)) := by
            refine ⟨fun a a1 a2 a3 => ?_, fun y hy => ?_⟩
            · rw [up6_ne a1, hmk a a2]
              exact hM.1 a a1 a2 a3
            · rw [up6_ne (by decide), hmk 147 (by decide)]
              exact hM.2 y hy
          rw [← hL] at hM2
          have h9 := fun v8 v9 v10 v11 => ih (z + 1) ((lfP n cov rol (fun z => bN (wc w0 rn sn n z))) z (some x)) _ v8 v9 v10 v11 (by omega) hM2 hQ
          rw [hL] at h9
          exact h9 _ _ _ _
        · replace g2 := (not_congr (lt_n (a := rol) (b := rc n z) rfl rfl (by omega) (by omega))).mp g2
          refine wi_iload rfl rfl ?_
          refine wi_iload rfl rfl ?_
          refine wi_icmp_lt rfl (fun g3 => ?_) (fun g3 => ?_)
          · replace g3 := (lt_n (a := bN (wc w0 rn sn n z)) (b := x.1) rfl rfl (by omega) (by omega)).mp g3
            refine wi_iinc (z := (Int32.ofNat (z + 1))) rfl rfl rfl (add_n (a := z) (b := 1) rfl rfl) rfl ?_
            refine wi_goto rfl ?_
            have hL : (lfP n cov rol (fun z => bN (wc w0 rn sn n z))) z (some x) = (some x) := lf_no (by omega) (by omega) (by show ¬ (x.1 < bN (wc w0 rn sn n z) ∨ (bN (wc w0 rn sn n z) = x.1 ∧ cc n z + rc n z < x.2.1)); omega)
            have hM2 : MI mi0 n (some x) (up6 mk 142 (wc w0 rn sn n z)) := by
              refine ⟨fun a a1 a2 a3 => ?_, fun y hy => ?_⟩
              · rw [up6_ne a1, hmk a a2]
                exact hM.1 a a1 a2 a3
              · rw [up6_ne (by decide), hmk 147 (by decide)]
                exact hM.2 y hy
            rw [← hL] at hM2
            have h9 := fun v8 v9 v10 v11 => ih (z + 1) ((lfP n cov rol (fun z => bN (wc w0 rn sn n z))) z (some x)) _ v8 v9 v10 v11 (by omega) hM2 hQ
            rw [hL] at h9
            exact h9 _ _ _ _
          · replace g3 := (not_congr (lt_n (a := bN (wc w0 rn sn n z)) (b := x.1) rfl rfl (by omega) (by omega))).mp g3
            refine wi_iload rfl rfl ?_
            refine wi_iload rfl rfl ?_
            refine wi_icmp_ne rfl (fun g4 => ?_) (fun g4 => ?_)
            · replace g4 := (ne_n (a := bN (wc w0 rn sn n z)) (b := x.1) rfl rfl (by omega) (by omega)).mp g4
              refine wi_iload rfl rfl ?_
              refine wi_istore (l' := [.ref 134, .int (Int32.ofNat (s9)), .int (Int32.ofNat (n)), .int (Int32.ofNat (cov)), .int (Int32.ofNat (rol)), .int (Int32.ofNat (bN (wc w0 rn sn n z))), .int (Int32.ofNat (x.2.1)), .int (Int32.ofNat (z)), .int (Int32.ofNat (cc n z)), .int (Int32.ofNat (rc n z)), .int (Int32.ofNat (bN (wc w0 rn sn n z))), v11]) rfl (Nat.le_of_ble_eq_true rfl) rfl rfl ?_
              refine wi_iload rfl rfl ?_
              refine wi_iload rfl rfl ?_
              refine wn_iadd (z := (Int32.ofNat (cc n z + rc n z))) rfl (add_n (a := cc n z) (b := rc n z) rfl rfl) ?_
              refine wi_istore (l' := [.ref 134, .int (Int32.ofNat (s9)), .int (Int32.ofNat (n)), .int (Int32.ofNat (cov)), .int (Int32.ofNat (rol)), .int (Int32.ofNat (bN (wc w0 rn sn n z))), .int (Int32.ofNat (cc n z + rc n z)), .int (Int32.ofNat (z)), .int (Int32.ofNat (cc n z)), .int (Int32.ofNat (rc n z)), .int (Int32.ofNat (bN (wc w0 rn sn n z))), v11]) rfl (Nat.le_of_ble_eq_true rfl) rfl rfl ?_
              refine wi_iconst (x := 0) rfl rfl ?_
              refine wi_istore (l' := [.ref 134, .int (Int32.ofNat (s9)), .int (Int32.ofNat (n)), .int (Int32.ofNat (cov)), .int (Int32.ofNat (rol)), .int (Int32.ofNat (bN (wc w0 rn sn n z))), .int (Int32.ofNat (cc n z + rc n z)), .int (Int32.ofNat (z)), .int (Int32.ofNat (cc n z)), .int (Int32.ofNat (rc n z)), .int (Int32.ofNat (bN (wc w0 rn sn n z))), .int (0 : Int32)]) rfl (Nat.le_of_ble_eq_true rfl) rfl rfl ?_
              have hL : (lfP n cov rol (fun z => bN (wc w0 rn sn n z))) z (some x) = some (bN (wc w0 rn sn n z), cc n z + rc n z, z) := lf_upd (by omega) (by omega) (by show x.1 < bN (wc w0 rn sn n z) ∨ (bN (wc w0 rn sn n z) = x.1 ∧ cc n z + rc n z < x.2.1); omega)
              refine mp_cp hn n 0 _ (by omega) (fun mi2 k1 k2 k3 => ?_)
              have hM2 : MI mi0 n (some (bN (wc w0 rn sn n z), cc n z + rc n z, z)) mi2 := by
                refine ⟨fun a a1 a2 a3 => ?_, fun y hy => ?_⟩
                · rw [k1 a a3, upT_ne a1, hmk a a2]
                  exact hM.1 a a1 a2 a3
                · cases hy
                  refine ⟨fun j hj => ?_, hb9, by have := cc_le n z; show cc n z + rc n z ≤ 12; omega⟩
                  rw [k2 j (by omega) hj, upT_ne (by decide)]
                  exact hT j hj
              rw [← hL] at hM2
              refine wi_iinc (z := (Int32.ofNat (z + 1))) rfl rfl rfl (add_n (a := z) (b := 1) rfl rfl) rfl ?_
              refine wi_goto rfl ?_
              have h9 := fun v8 v9 v10 v11 => ih (z + 1) ((lfP n cov rol (fun z => bN (wc w0 rn sn n z))) z (some x)) mi2 v8 v9 v10 v11 (by omega) hM2 hQ
              rw [hL] at h9
              exact h9 _ _ _ _
            · replace g4 := (not_congr (ne_n (a := bN (wc w0 rn sn n z)) (b := x.1) rfl rfl (by omega) (by omega))).mp g4
              refine wi_iload rfl rfl ?_
              refine wi_iload rfl rfl ?_
              refine wn_iadd (z := (Int32.ofNat (cc n z + rc n z))) rfl (add_n (a := cc n z) (b := rc n z) rfl rfl) ?_
              refine wi_iload rfl rfl ?_
              refine wi_icmp_lt rfl (fun g5 => ?_) (fun g5 => ?_)
              · replace g5 := (lt_n (a := cc n z + rc n z) (b := x.2.1) rfl rfl (by omega) (by omega)).mp g5
                refine wi_iload rfl rfl ?_
                refine wi_istore (l' := [.ref 134, .int (Int32.ofNat (s9)), .int (Int32.ofNat (n)), .int (Int32.ofNat (cov)), .int (Int32.ofNat (rol)), .int (Int32.ofNat (bN (wc w0 rn sn n z))), .int (Int32.ofNat (x.2.1)), .int (Int32.ofNat (z)), .int (Int32.ofNat (cc n z)), .int (Int32.ofNat (rc n z)), .int (Int32.ofNat (bN (wc w0 rn sn n z))), v11]) rfl (Nat.le_of_ble_eq_true rfl) rfl rfl ?_
                refine wi_iload rfl rfl ?_
                refine wi_iload rfl rfl ?_
                refine wn_iadd (z := (Int32.ofNat (cc n z + rc n z))) rfl (add_n (a := cc n z) (b := rc n z) rfl rfl) ?_
                refine wi_istore (l' := [.ref 134, .int (Int32.ofNat (s9)), .int (Int32.ofNat (n)), .int (Int32.ofNat (cov)), .int (Int32.ofNat (rol)), .int (Int32.ofNat (bN (wc w0 rn sn n z))), .int (Int32.ofNat (cc n z + rc n z)), .int (Int32.ofNat (z)), .int (Int32.ofNat (cc n z)), .int (Int32.ofNat (rc n z)), .int (Int32.ofNat (bN (wc w0 rn sn n z))), v11]) rfl (Nat.le_of_ble_eq_true rfl) rfl rfl ?_
                refine wi_iconst (x := 0) rfl rfl ?_
                refine wi_istore (l' := [.ref 134, .int (Int32.ofNat (s9)), .int (Int32.ofNat (n)), .int (Int32.ofNat (cov)), .int (Int32.ofNat (rol)), .int (Int32.ofNat (bN (wc w0 rn sn n z))), .int (Int32.ofNat (cc n z + rc n z)), .int (Int32.ofNat (z)), .int (Int32.ofNat (cc n z)), .int (Int32.ofNat (rc n z)), .int (Int32.ofNat (bN (wc w0 rn sn n z))), .int (0 : Int32)]) rfl (Nat.le_of_ble_eq_true rfl) rfl rfl ?_
                have hL : (lfP n cov rol (fun z => bN (wc w0 rn sn n z))) z (some x) = some (bN (wc w0 rn sn n z), cc n z + rc n z, z) := lf_upd (by omega) (by omega) (by show x.1 < bN (wc w0 rn sn n z) ∨ (bN (wc w0 rn sn n z) = x.1 ∧ cc n z + rc n z < x.2.1); omega)
                refine mp_cp hn n 0 _ (by omega) (fun mi2 k1 k2 k3 => ?_)
                have hM2 : MI mi0 n (some (bN (wc w0 rn sn n z), cc n z + rc n z, z)) mi2 := by
                  refine ⟨fun a a1 a2 a3 => ?_, fun y hy => ?_⟩
                  · rw [k1 a a3, upT_ne a1, hmk a a2]
                    exact hM.1 a a1 a2 a3
                  · cases hy
                    refine ⟨fun j hj => ?_, hb9, by have := cc_le n z; show cc n z + rc n z ≤ 12; omega⟩
                    rw [k2 j (by omega) hj, upT_ne (by decide)]
                    exact hT j hj
                rw [← hL] at hM2
                refine wi_iinc (z := (Int32.ofNat (z + 1))) rfl rfl rfl (add_n (a := z) (b := 1) rfl rfl) rfl ?_
                refine wi_goto rfl ?_
                have h9 := fun v8 v9 v10 v11 => ih (z + 1) ((lfP n cov rol (fun z => bN (wc w0 rn sn n z))) z (some x)) mi2 v8 v9 v10 v11 (by omega) hM2 hQ
                rw [hL] at h9
                exact h9 _ _ _ _
              · replace g5 := (not_congr (lt_n (a := cc n z + rc n z) (b := x.2.1) rfl rfl (by omega) (by omega))).mp g5
                refine wi_goto rfl ?_
                refine wi_iinc (z := (Int32.ofNat (z + 1))) rfl rfl rfl (add_n (a := z) (b := 1) rfl rfl) rfl ?_
                refine wi_goto rfl ?_
                have hL : (lfP n cov rol (fun z => bN (wc w0 rn sn n z))) z (some x) = (some x) := lf_no (by omega) (by omega) (by show ¬ (x.1 < bN (wc w0 rn sn n z) ∨ (bN (wc w0 rn sn n z) = x.1 ∧ cc n z + rc n z < x.2.1)); omega)
                have hM2 : MI mi0 n (some x) (up6 mk 142 (wc w0 rn sn n z)) := by
                  refine ⟨fun a a1 a2 a3 => ?_, fun y hy => ?_⟩
                  · rw [up6_ne a1, hmk a a2]
                    exact hM.1 a a1 a2 a3
                  · rw [up6_ne (by decide), hmk 147 (by decide)]
                    exact hM.2 y hy
                rw [← hL] at hM2
                have h9 := fun v8 v9 v10 v11 => ih (z + 1) ((lfP n cov rol (fun z => bN (wc w0 rn sn n z))) z (some x)) _ v8 v9 v10 v11 (by omega) hM2 hQ
                rw [hL] at h9
                exact h9 _ _ _ _
end PL
theorem RP_fr {mi mi2 : Nat → Nat → Int32} {ml : Nat → Nat → Int64} {b : Bool} {n t : Nat} (ho : ∀ a, (a < 13 ∨ 26 ≤ a) ∧ a ≠ 142 ∧ a ≠ 146 ∧ a ≠ 147 → mi2 a = mi a) (h : RR mi ml b n t) : mi2 0 12 = mi2 134 0 ∧ (mi2 0 13 = Int32.ofNat n ∧ mi2 134 4 = Int32.ofNat n ∧ n ≤ 8) ∧ (mi2 0 14 = Int32.ofNat t ∧ mi2 134 5 = Int32.ofNat t ∧ t ≤ 999) ∧ rTurf n (r8 (mi2 126) (mi2 127) (mi2 128) (mi2 129) (mi2 130) (mi2 131) (mi2 132) (mi2 133)) (mi2 135) (mi2 136) (mi2 137) ∧ rWea (mi2 4) (mi2 5) (mi2 138) (mi2 139) ∧ rWea (mi2 7) (mi2 8) (mi2 140) (mi2 141) ∧ rMeas n (mi2 9 3) (mi2 134 14) (mi2 10) (mi2 11) (mi2 12) (mi2 143) (mi2 144) (mi2 145) ∧ rTape (mi2 26 1) (mi2 134 35) (mi2 27) (mi2 157) ∧ rBk mi2 b ∧ (mi2 28 11 = mi2 134 37 ∧ mi2 28 12 = mi2 134 38) ∧ rSea (mi2 60 3) (mi2 134 21) (mi2 61) (mi2 62) (mi2 148) (mi2 149) (r8 (mi2 64) (mi2 65) (mi2 66) (mi2 67) (mi2 68) (mi2 69) (mi2 70) (mi2 71)) (mi2 150) (mi2 60 4) (mi2 134 22) (mi2 60 5) (mi2 134 23) (mi2 60 10) (ml 60 9) ∧ rMk (ml 75 4) (ml 75 5) (r8 (mi2 77) (mi2 78) (mi2 79) (mi2 80) (mi2 81) (mi2 82) (mi2 83) (mi2 84)) (r8 (mi2 86) (mi2 87) (mi2 88) (mi2 89) (mi2 90) (mi2 91) (mi2 92) (mi2 93)) (ml 94) (ml 95) (mi2 134 30) (mi2 154) (mi2 155) (mi2 156) ∧ (ml 96 0 = ml 134 2 ∧ ml 96 1 = ml 134 3) := by
  obtain ⟨hst, hn, ht, hT, hF, hC, hM, -, hTp, hB, hFa, hS, hMk, hfr⟩ := h
  unfold rBk at hB ⊢
  simp only [ho 0 (by omega), ho 4 (by omega), ho 5 (by omega), ho 7 (by omega), ho 8 (by omega), ho 9 (by omega), ho 10 (by omega), ho 11 (by omega), ho 12 (by omega), ho 26 (by omega), ho 27 (by omega), ho 28 (by omega), ho 31 (by omega), ho 32 (by omega), ho 34 (by omega), ho 35 (by omega), ho 36 (by omega), ho 37 (by omega), ho 38 (by omega), ho 39 (by omega), ho 40 (by omega), ho 41 (by omega), ho 43 (by omega), ho 44 (by omega), ho 45 (by omega), ho 46 (by omega), ho 47 (by omega), ho 48 (by omega), ho 49 (by omega), ho 50 (by omega), ho 52 (by omega), ho 53 (by omega), ho 54 (by omega), ho 55 (by omega), ho 56 (by omega), ho 57 (by omega), ho 58 (by omega), ho 59 (by omega), ho 60 (by omega), ho 61 (by omega), ho 62 (by omega), ho 64 (by omega), ho 65 (by omega), ho 66 (by omega), ho 67 (by omega), ho 68 (by omega), ho 69 (by omega), ho 70 (by omega), ho 71 (by omega), ho 77 (by omega), ho 78 (by omega), ho 79 (by omega), ho 80 (by omega), ho 81 (by omega), ho 82 (by omega), ho 83 (by omega), ho 84 (by omega), ho 86 (by omega), ho 87 (by omega), ho 88 (by omega), ho 89 (by omega), ho 90 (by omega), ho 91 (by omega), ho 92 (by omega), ho 93 (by omega), ho 97 (by omega), ho 98 (by omega), ho 100 (by omega), ho 101 (by omega), ho 102 (by omega), ho 103 (by omega), ho 104 (by omega), ho 105 (by omega), ho 106 (by omega), ho 107 (by omega), ho 109 (by omega), ho 110 (by omega), ho 111 (by omega), ho 112 (by omega), ho 113 (by omega), ho 114 (by omega), ho 115 (by omega), ho 116 (by omega), ho 118 (by omega), ho 119 (by omega), ho 120 (by omega), ho 121 (by omega), ho 122 (by omega), ho 123 (by omega), ho 124 (by omega), ho 125 (by omega), ho 126 (by omega), ho 127 (by omega), ho 128 (by omega), ho 129 (by omega), ho 130 (by omega), ho 131 (by omega), ho 132 (by omega), ho 133 (by omega), ho 134 (by omega), ho 135 (by omega), ho 136 (by omega), ho 137 (by omega), ho 138 (by omega), ho 139 (by omega), ho 140 (by omega), ho 141 (by omega), ho 143 (by omega), ho 144 (by omega), ho 145 (by omega), ho 148 (by omega), ho 149 (by omega), ho 150 (by omega), ho 154 (by omega), ho 155 (by omega), ho 156 (by omega), ho 157 (by omega), ho 158 (by omega), ho 159 (by omega), ho 160 (by omega), ho 161 (by omega)]
  exact ⟨hst, hn, ht, hT, hF, hC, hM, hTp, hB, hFa, hS, hMk, hfr⟩
theorem wp_dep {X : Nat × (Nat → Int32)} {d1 d2 mid j : Nat} {ls st : List Value} {M : am_M} {Q : Option Value → am_M → Prop} (e : d1 = d2) (h : am_wp X d1 mid j ls st M Q) : am_wp X d2 mid j ls st M Q := e ▸ h
theorem lf_keep {n cov rol z : Nat} {B : Nat → Nat} {x : Nat × Nat × Nat} : ∃ y, lfP n cov rol B z (some x) = some y := by
  by_cases h : cc n z ≤ cov ∧ rc n z ≤ rol
  · by_cases h2 : x.1 < B z ∨ (B z = x.1 ∧ cc n z + rc n z < x.2.1)
    · exact ⟨_, lf_upd h.1 h.2 h2⟩
    · exact ⟨_, lf_no h.1 h.2 h2⟩
  · exact ⟨_, lf_out h⟩
theorem fc_keep {n cov rol : Nat} {B : Nat → Nat} : ∀ (c lo : Nat) (x : Nat × Nat × Nat), ∃ y, fcP (lfP n cov rol B) c lo (some x) = some y := by
  intro c
  induction c with
  | zero => intro lo x; exact ⟨x, rfl⟩
  | succ c ih =>
    intro lo x
    obtain ⟨y, hy⟩ := lf_keep (n := n) (cov := cov) (rol := rol) (B := B) (z := lo) (x := x)
    show ∃ y, fcP (lfP n cov rol B) c (lo + 1) (lfP n cov rol B lo (some x)) = some y
    rw [hy]
    exact ih (lo + 1) y
theorem cc_0 : ∀ k, cc k 0 = 0 ∧ rc k 0 = 0 := by
  intro k
  induction k with
  | zero => exact ⟨rfl, rfl⟩
  | succ k ih =>
    show cc k (0 / 4) + 0 % 4 % 2 = 0 ∧ rc k (0 / 4) + 0 % 4 / 2 = 0
    rw [Nat.zero_div]
    exact ⟨ih.1, ih.2⟩
theorem fc_some {n cov rol : Nat} {B : Nat → Nat} (h : n ≤ 6) : ∃ x, fcP (lfP n cov rol B) (4 ^ n) 0 none = some x := by
  obtain ⟨c, hc⟩ : ∃ c, 4 ^ n = c + 1 := ⟨4 ^ n - 1, by have := Nat.pow_pos (n := n) (show 0 < 4 by decide); omega⟩
  rw [hc]
  show ∃ x, fcP (lfP n cov rol B) c (0 + 1) (lfP n cov rol B 0 none) = some x
  rw [lf_none (by rw [(cc_0 n).1]; exact Nat.zero_le _) (by rw [(cc_0 n).2]; exact Nat.zero_le _)]
  exact fc_keep _ _ _
set_option maxHeartbeats 4000000 in
theorem a_plan {X : Nat × (Nat → Int32)} {s9 n9 c9 r9 : Int32} : arm X 116 167 [.ref 0, .int s9, .int n9, .int c9, .int r9, .retAddr 0] [.ref 134, .int s9, .int n9, .int c9, .int r9, .retAddr 0, .retAddr 0, .retAddr 0, .retAddr 0, .retAddr 0, .retAddr 0, .retAddr 0] := by
  intro mi ml b hR Q hK
  obtain ⟨n, t, hst, ⟨hn0, hn4, hn⟩, ⟨ht0, ht5, ht⟩, hT, hF, hC, hM, hP, hTp, hB, hFa, hS, hMk, hfr⟩ := hR
  rcases st_cases s9 (n := n) (by omega) with e_s9 | ⟨s, h_s, rfl⟩
  · refine wi_aload_n rfl rfl ?_
    refine wi_iload_n rfl rfl ?_
    refine wi_callV1 rfl (by decide) (by decide) rfl (kd_0 ..) rfl rfl rfl (c_has hn0 e_s9 ?_)
    refine wi_if_ne rfl (fun h9 => absurd h9 (by decide)) (fun _ => ?_)
    refine wi_aload_n rfl rfl ?_
    refine wi_iconst (x := 1) rfl rfl ?_
    refine wi_callV1 rfl (by decide) (by decide) rfl (kd_0 ..) rfl rfl rfl ?_
    refine wi_aload_n rfl rfl ?_
    refine wi_iload_n rfl rfl ?_
    refine wi_putI rfl (kd_0 ..) ?_
    refine wi_iconst (x := (-1)) rfl rfl ?_
    refine wi_iret rfl (Or.inl rfl) ?_
    refine wi_iret rfl (Or.inl rfl) ?_
    refine hK _ _ _ _ (fun Q2 h2 => ?_)
    refine wi_aload_n rfl rfl ?_
    refine wi_iconst (x := 0) rfl rfl ?_
    refine wi_putI rfl (kd_134 ..) ?_
    refine wi_aload_n rfl rfl ?_
    refine wi_iconst (x := 0) rfl rfl ?_
    refine wi_putI rfl (kd_134 ..) ?_
    refine wi_aload_n rfl rfl ?_
    refine wi_iload_n rfl rfl ?_
    refine wi_callV1 rfl (by decide) (by decide) rfl (kd_134 ..) rfl rfl rfl (c_isS hn4 e_s9 ?_)
    refine wi_if_ne rfl (fun h9 => absurd h9 (by decide)) (fun _ => ?_)
    refine wi_aload_n rfl rfl ?_
    refine wi_iconst (x := 1) rfl rfl ?_
    refine wi_callV1 rfl (by decide) (by decide) rfl (kd_134 ..) rfl rfl rfl ?_
    refine wi_aload_n rfl rfl ?_
    refine wi_iload_n rfl rfl ?_
    refine wi_putI rfl (kd_134 ..) ?_
    refine wi_iconst (x := (-1)) rfl rfl ?_
    refine wi_iret rfl (Or.inl rfl) ?_
    refine wi_iret rfl (Or.inl rfl) ?_
    refine h2 _ _ _ ?_
    exact ⟨n, t, rfl, ⟨hn0, hn4, hn⟩, ⟨ht0, ht5, ht⟩, hT, hF, hC, hM, hP, hTp, hB, hFa, hS, hMk, hfr⟩
  · rcases wn_cases n9 1 6 (by decide) (by decide) with e_n9 | ⟨p, l_p, h_p, rfl⟩
    · rcases wn_zero.mp e_n9 with z_n9 | z_n9
      · rcases wn_cases c9 0 6 (by decide) (by decide) with e_c9 | ⟨cv, l_c, h_c, rfl⟩
        · refine wi_aload_n rfl rfl ?_
          refine wi_iload_n rfl rfl ?_
          refine wi_callV1 rfl (by decide) (by decide) rfl (kd_0 ..) rfl rfl rfl (c_has hn0 (st_in (by omega) (by omega)) ?_)
          refine wi_if_ne rfl (fun _ => ?_) (fun h9 => absurd (by decide) h9)
          refine wi_iload_n rfl rfl ?_
          refine wi_iconst (x := 0) rfl rfl ?_
          refine wi_bipush (x := 6) rfl rfl ?_
          refine wi_callS3 rfl (by decide) (by decide) rfl rfl rfl (c_wiV e_c9 ?_)
          refine wi_if_eq rfl (fun _ => ?_) (fun h9 => absurd (by decide) h9)
          refine wi_iconst (x := 0) rfl rfl ?_
          refine wi_istore (l' := [.ref 0, .int (Int32.ofNat (s)), .int n9, .int c9, .int r9, .int (0 : Int32)]) rfl (Nat.le_of_ble_eq_true rfl) rfl rfl ?_
          refine wi_iload_n rfl rfl ?_
          refine wi_iconst (x := 1) rfl rfl ?_
          refine wi_bipush (x := 6) rfl rfl ?_
          refine wi_callS3 rfl (by decide) (by decide) rfl rfl rfl (c_wiV e_n9 ?_)
          refine wi_if_eq rfl (fun _ => ?_) (fun h9 => absurd (by decide) h9)
          refine wi_aload_n rfl rfl ?_
          refine wi_iconst (x := 2) rfl rfl ?_
          refine wi_callV1 rfl (by decide) (by decide) rfl (kd_0 ..) rfl rfl rfl ?_
          refine wi_aload_n rfl rfl ?_
          refine wi_iload_n rfl rfl ?_
          refine wi_putI rfl (kd_0 ..) ?_
          refine wi_iconst (x := (-1)) rfl rfl ?_
          refine wi_iret rfl (Or.inl rfl) ?_
          refine wi_iret rfl (Or.inl rfl) ?_
          refine hK _ _ _ _ (fun Q2 h2 => ?_)
          refine wi_aload_n rfl rfl ?_
          refine wi_iconst (x := 0) rfl rfl ?_
          refine wi_putI rfl (kd_134 ..) ?_
          refine wi_aload_n rfl rfl ?_
          refine wi_iconst (x := 0) rfl rfl ?_
          refine wi_putI rfl (kd_134 ..) ?_
          refine wi_aload_n rfl rfl ?_
          refine wi_iload_n rfl rfl ?_
          refine wi_callV1 rfl (by decide) (by decide) rfl (kd_134 ..) rfl rfl rfl (c_isS hn4 (st_in (by omega) (by omega)) ?_)
          refine wi_if_ne rfl (fun _ => ?_) (fun h9 => absurd (by decide) h9)
          refine wi_iload_n rfl rfl ?_
          refine wi_iconst (x := 1) rfl rfl ?_
          refine wi_icmp_lt rfl (fun _ => ?_) (fun h9 => absurd z_n9 h9)
          refine wi_aload_n rfl rfl ?_
          refine wi_iconst (x := 2) rfl rfl ?_
          refine wi_callV1 rfl (by decide) (by decide) rfl (kd_134 ..) rfl rfl rfl ?_
          refine wi_aload_n rfl rfl ?_
          refine wi_iload_n rfl rfl ?_
          refine wi_putI rfl (kd_134 ..) ?_
          refine wi_iconst (x := (-1)) rfl rfl ?_
          refine wi_iret rfl (Or.inl rfl) ?_
          refine wi_iret rfl (Or.inl rfl) ?_
          refine h2 _ _ _ ?_
          exact ⟨n, t, rfl, ⟨hn0, hn4, hn⟩, ⟨ht0, ht5, ht⟩, hT, hF, hC, hM, hP, hTp, hB, hFa, hS, hMk, hfr⟩
        · rcases wn_cases r9 0 6 (by decide) (by decide) with e_r9 | ⟨rl, l_r, h_r, rfl⟩
          · refine wi_aload_n rfl rfl ?_
            refine wi_iload_n rfl rfl ?_
            refine wi_callV1 rfl (by decide) (by decide) rfl (kd_0 ..) rfl rfl rfl (c_has hn0 (st_in (by omega) (by omega)) ?_)
            refine wi_if_ne rfl (fun _ => ?_) (fun h9 => absurd (by decide) h9)
            refine wi_iload_n rfl rfl ?_
            refine wi_iconst (x := 0) rfl rfl ?_
            refine wi_bipush (x := 6) rfl rfl ?_
            refine wi_callS3 rfl (by decide) (by decide) rfl rfl rfl (c_wiV (wn_in (lo := 0) (hi := 6) (by omega) (by omega) (by decide)) ?_)
            refine wi_if_eq rfl (fun h9 => absurd h9 (by decide)) (fun _ => ?_)
            refine wi_iload rfl rfl ?_
            refine wi_iconst (x := 0) rfl rfl ?_
            refine wi_bipush (x := 6) rfl rfl ?_
            refine wi_callS3 rfl (by decide) (by decide) rfl rfl rfl (c_wiV e_r9 ?_)
            refine wi_if_eq rfl (fun _ => ?_) (fun h9 => absurd (by decide) h9)
            refine wi_iconst (x := 0) rfl rfl ?_
            refine wi_istore (l' := [.ref 0, .int (Int32.ofNat (s)), .int n9, .int (Int32.ofNat (cv)), .int r9, .int (0 : Int32)]) rfl (Nat.le_of_ble_eq_true rfl) rfl rfl ?_
            refine wi_iload_n rfl rfl ?_
            refine wi_iconst (x := 1) rfl rfl ?_
            refine wi_bipush (x := 6) rfl rfl ?_
            refine wi_callS3 rfl (by decide) (by decide) rfl rfl rfl (c_wiV e_n9 ?_)
            refine wi_if_eq rfl (fun _ => ?_) (fun h9 => absurd (by decide) h9)
            refine wi_aload_n rfl rfl ?_
            refine wi_iconst (x := 2) rfl rfl ?_
            refine wi_callV1 rfl (by decide) (by decide) rfl (kd_0 ..) rfl rfl rfl ?_
            refine wi_aload_n rfl rfl ?_
            refine wi_iload_n rfl rfl ?_
            refine wi_putI rfl (kd_0 ..) ?_
            refine wi_iconst (x := (-1)) rfl rfl ?_
            refine wi_iret rfl (Or.inl rfl) ?_
            refine wi_iret rfl (Or.inl rfl) ?_
            refine hK _ _ _ _ (fun Q2 h2 => ?_)
            refine wi_aload_n rfl rfl ?_
            refine wi_iconst (x := 0) rfl rfl ?_
            refine wi_putI rfl (kd_134 ..) ?_
            refine wi_aload_n rfl rfl ?_
            refine wi_iconst (x := 0) rfl rfl ?_
            refine wi_putI rfl (kd_134 ..) ?_
            refine wi_aload_n rfl rfl ?_
            refine wi_iload_n rfl rfl ?_
            refine wi_callV1 rfl (by decide) (by decide) rfl (kd_134 ..) rfl rfl rfl (c_isS hn4 (st_in (by omega) (by omega)) ?_)
            refine wi_if_ne rfl (fun _ => ?_) (fun h9 => absurd (by decide) h9)
            refine wi_iload_n rfl rfl ?_
            refine wi_iconst (x := 1) rfl rfl ?_
            refine wi_icmp_lt rfl (fun _ => ?_) (fun h9 => absurd z_n9 h9)
            refine wi_aload_n rfl rfl ?_
            refine wi_iconst (x := 2) rfl rfl ?_
            refine wi_callV1 rfl (by decide) (by decide) rfl (kd_134 ..) rfl rfl rfl ?_
            refine wi_aload_n rfl rfl ?_
            refine wi_iload_n rfl rfl ?_
            refine wi_putI rfl (kd_134 ..) ?_
            refine wi_iconst (x := (-1)) rfl rfl ?_
            refine wi_iret rfl (Or.inl rfl) ?_
            refine wi_iret rfl (Or.inl rfl) ?_
            refine h2 _ _ _ ?_
            exact ⟨n, t, rfl, ⟨hn0, hn4, hn⟩, ⟨ht0, ht5, ht⟩, hT, hF, hC, hM, hP, hTp, hB, hFa, hS, hMk, hfr⟩
          · refine wi_aload_n rfl rfl ?_
            refine wi_iload_n rfl rfl ?_
            refine wi_callV1 rfl (by decide) (by decide) rfl (kd_0 ..) rfl rfl rfl (c_has hn0 (st_in (by omega) (by omega)) ?_)
            refine wi_if_ne rfl (fun _ => ?_) (fun h9 => absurd (by decide) h9)
            refine wi_iload_n rfl rfl ?_
            refine wi_iconst (x := 0) rfl rfl ?_
            refine wi_bipush (x := 6) rfl rfl ?_
            refine wi_callS3 rfl (by decide) (by decide) rfl rfl rfl (c_wiV (wn_in (lo := 0) (hi := 6) (by omega) (by omega) (by decide)) ?_)
            refine wi_if_eq rfl (fun h9 => absurd h9 (by decide)) (fun _ => ?_)
            refine wi_iload rfl rfl ?_
            refine wi_iconst (x := 0) rfl rfl ?_
            refine wi_bipush (x := 6) rfl rfl ?_
            refine wi_callS3 rfl (by decide) (by decide) rfl rfl rfl (c_wiV (wn_in (lo := 0) (hi := 6) (by omega) (by omega) (by decide)) ?_)
            refine wi_if_eq rfl (fun h9 => absurd h9 (by decide)) (fun _ => ?_)
            refine wi_iconst (x := 1) rfl rfl ?_
            refine wi_goto rfl ?_
            refine wi_istore (l' := [.ref 0, .int (Int32.ofNat (s)), .int n9, .int (Int32.ofNat (cv)), .int (Int32.ofNat (rl)), .int (1 : Int32)]) rfl (Nat.le_of_ble_eq_true rfl) rfl rfl ?_
            refine wi_iload_n rfl rfl ?_
            refine wi_iconst (x := 1) rfl rfl ?_
            refine wi_bipush (x := 6) rfl rfl ?_
            refine wi_callS3 rfl (by decide) (by decide) rfl rfl rfl (c_wiV e_n9 ?_)
            refine wi_if_eq rfl (fun _ => ?_) (fun h9 => absurd (by decide) h9)
            refine wi_aload_n rfl rfl ?_
            refine wi_iconst (x := 2) rfl rfl ?_
            refine wi_callV1 rfl (by decide) (by decide) rfl (kd_0 ..) rfl rfl rfl ?_
            refine wi_aload_n rfl rfl ?_
            refine wi_iload_n rfl rfl ?_
            refine wi_putI rfl (kd_0 ..) ?_
            refine wi_iconst (x := (-1)) rfl rfl ?_
            refine wi_iret rfl (Or.inl rfl) ?_
            refine wi_iret rfl (Or.inl rfl) ?_
            refine hK _ _ _ _ (fun Q2 h2 => ?_)
            refine wi_aload_n rfl rfl ?_
            refine wi_iconst (x := 0) rfl rfl ?_
            refine wi_putI rfl (kd_134 ..) ?_
            refine wi_aload_n rfl rfl ?_
            refine wi_iconst (x := 0) rfl rfl ?_
            refine wi_putI rfl (kd_134 ..) ?_
            refine wi_aload_n rfl rfl ?_
            refine wi_iload_n rfl rfl ?_
            refine wi_callV1 rfl (by decide) (by decide) rfl (kd_134 ..) rfl rfl rfl (c_isS hn4 (st_in (by omega) (by omega)) ?_)
            refine wi_if_ne rfl (fun _ => ?_) (fun h9 => absurd (by decide) h9)
            refine wi_iload_n rfl rfl ?_
            refine wi_iconst (x := 1) rfl rfl ?_
            refine wi_icmp_lt rfl (fun _ => ?_) (fun h9 => absurd z_n9 h9)
            refine wi_aload_n rfl rfl ?_
            refine wi_iconst (x := 2) rfl rfl ?_
            refine wi_callV1 rfl (by decide) (by decide) rfl (kd_134 ..) rfl rfl rfl ?_
            refine wi_aload_n rfl rfl ?_
            refine wi_iload_n rfl rfl ?_
            refine wi_putI rfl (kd_134 ..) ?_
            refine wi_iconst (x := (-1)) rfl rfl ?_
            refine wi_iret rfl (Or.inl rfl) ?_
            refine wi_iret rfl (Or.inl rfl) ?_
            refine h2 _ _ _ ?_
            exact ⟨n, t, rfl, ⟨hn0, hn4, hn⟩, ⟨ht0, ht5, ht⟩, hT, hF, hC, hM, hP, hTp, hB, hFa, hS, hMk, hfr⟩
      · rcases wn_cases c9 0 6 (by decide) (by decide) with e_c9 | ⟨cv, l_c, h_c, rfl⟩
        · refine wi_aload_n rfl rfl ?_
          refine wi_iload_n rfl rfl ?_
          refine wi_callV1 rfl (by decide) (by decide) rfl (kd_0 ..) rfl rfl rfl (c_has hn0 (st_in (by omega) (by omega)) ?_)
          refine wi_if_ne rfl (fun _ => ?_) (fun h9 => absurd (by decide) h9)
          refine wi_iload_n rfl rfl ?_
          refine wi_iconst (x := 0) rfl rfl ?_
          refine wi_bipush (x := 6) rfl rfl ?_
          refine wi_callS3 rfl (by decide) (by decide) rfl rfl rfl (c_wiV e_c9 ?_)
          refine wi_if_eq rfl (fun _ => ?_) (fun h9 => absurd (by decide) h9)
          refine wi_iconst (x := 0) rfl rfl ?_
          refine wi_istore (l' := [.ref 0, .int (Int32.ofNat (s)), .int n9, .int c9, .int r9, .int (0 : Int32)]) rfl (Nat.le_of_ble_eq_true rfl) rfl rfl ?_
          refine wi_iload_n rfl rfl ?_
          refine wi_iconst (x := 1) rfl rfl ?_
          refine wi_bipush (x := 6) rfl rfl ?_
          refine wi_callS3 rfl (by decide) (by decide) rfl rfl rfl (c_wiV e_n9 ?_)
          refine wi_if_eq rfl (fun _ => ?_) (fun h9 => absurd (by decide) h9)
          refine wi_aload_n rfl rfl ?_
          refine wi_iconst (x := 2) rfl rfl ?_
          refine wi_callV1 rfl (by decide) (by decide) rfl (kd_0 ..) rfl rfl rfl ?_
          refine wi_aload_n rfl rfl ?_
          refine wi_iload_n rfl rfl ?_
          refine wi_putI rfl (kd_0 ..) ?_
          refine wi_iconst (x := (-1)) rfl rfl ?_
          refine wi_iret rfl (Or.inl rfl) ?_
          refine wi_iret rfl (Or.inl rfl) ?_
          refine hK _ _ _ _ (fun Q2 h2 => ?_)
          refine wi_aload_n rfl rfl ?_
          refine wi_iconst (x := 0) rfl rfl ?_
          refine wi_putI rfl (kd_134 ..) ?_
          refine wi_aload_n rfl rfl ?_
          refine wi_iconst (x := 0) rfl rfl ?_
          refine wi_putI rfl (kd_134 ..) ?_
          refine wi_aload_n rfl rfl ?_
          refine wi_iload_n rfl rfl ?_
          refine wi_callV1 rfl (by decide) (by decide) rfl (kd_134 ..) rfl rfl rfl (c_isS hn4 (st_in (by omega) (by omega)) ?_)
          refine wi_if_ne rfl (fun _ => ?_) (fun h9 => absurd (by decide) h9)
          refine wi_iload_n rfl rfl ?_
          refine wi_iconst (x := 1) rfl rfl ?_
          refine wi_icmp_lt rfl (fun h9 => absurd (Int32.lt_trans z_n9 h9) (by decide)) (fun _ => ?_)
          refine wi_iload_n rfl rfl ?_
          refine wi_bipush (x := 6) rfl rfl ?_
          refine wi_icmp_gt rfl (fun _ => ?_) (fun h9 => absurd z_n9 h9)
          refine wi_aload_n rfl rfl ?_
          refine wi_iconst (x := 2) rfl rfl ?_
          refine wi_callV1 rfl (by decide) (by decide) rfl (kd_134 ..) rfl rfl rfl ?_
          refine wi_aload_n rfl rfl ?_
          refine wi_iload_n rfl rfl ?_
          refine wi_putI rfl (kd_134 ..) ?_
          refine wi_iconst (x := (-1)) rfl rfl ?_
          refine wi_iret rfl (Or.inl rfl) ?_
          refine wi_iret rfl (Or.inl rfl) ?_
          refine h2 _ _ _ ?_
          exact ⟨n, t, rfl, ⟨hn0, hn4, hn⟩, ⟨ht0, ht5, ht⟩, hT, hF, hC, hM, hP, hTp, hB, hFa, hS, hMk, hfr⟩
        · rcases wn_cases r9 0 6 (by decide) (by decide) with e_r9 | ⟨rl, l_r, h_r, rfl⟩
          · refine wi_aload_n rfl rfl ?_
            refine wi_iload_n rfl rfl ?_
            refine wi_callV1 rfl (by decide) (by decide) rfl (kd_0 ..) rfl rfl rfl (c_has hn0 (st_in (by omega) (by omega)) ?_)
            refine wi_if_ne rfl (fun _ => ?_) (fun h9 => absurd (by decide) h9)
            refine wi_iload_n rfl rfl ?_
            refine wi_iconst (x := 0) rfl rfl ?_
            refine wi_bipush (x := 6) rfl rfl ?_
            refine wi_callS3 rfl (by decide) (by decide) rfl rfl rfl (c_wiV (wn_in (lo := 0) (hi := 6) (by omega) (by omega) (by decide)) ?_)
            refine wi_if_eq rfl (fun h9 => absurd h9 (by decide)) (fun _ => ?_)
            refine wi_iload rfl rfl ?_
            refine wi_iconst (x := 0) rfl rfl ?_
            refine wi_bipush (x := 6) rfl rfl ?_
            refine wi_callS3 rfl (by decide) (by decide) rfl rfl rfl (c_wiV e_r9 ?_)
            refine wi_if_eq rfl (fun _ => ?_) (fun h9 => absurd (by decide) h9)
            refine wi_iconst (x := 0) rfl rfl ?_
            refine wi_istore (l' := [.ref 0, .int (Int32.ofNat (s)), .int n9, .int (Int32.ofNat (cv)), .int r9, .int (0 : Int32)]) rfl (Nat.le_of_ble_eq_true rfl) rfl rfl ?_
            refine wi_iload_n rfl rfl ?_
            refine wi_iconst (x := 1) rfl rfl ?_
            refine wi_bipush (x := 6) rfl rfl ?_
            refine wi_callS3 rfl (by decide) (by decide) rfl rfl rfl (c_wiV e_n9 ?_)
            refine wi_if_eq rfl (fun _ => ?_) (fun h9 => absurd (by decide) h9)
            refine wi_aload_n rfl rfl ?_
            refine wi_iconst (x := 2) rfl rfl ?_
            refine wi_callV1 rfl (by decide) (by decide) rfl (kd_0 ..) rfl rfl rfl ?_
            refine wi_aload_n rfl rfl ?_
            refine wi_iload_n rfl rfl ?_
            refine wi_putI rfl (kd_0 ..) ?_
            refine wi_iconst (x := (-1)) rfl rfl ?_
            refine wi_iret rfl (Or.inl rfl) ?_
            refine wi_iret rfl (Or.inl rfl) ?_
            refine hK _ _ _ _ (fun Q2 h2 => ?_)
            refine wi_aload_n rfl rfl ?_
            refine wi_iconst (x := 0) rfl rfl ?_
            refine wi_putI rfl (kd_134 ..) ?_
            refine wi_aload_n rfl rfl ?_
            refine wi_iconst (x := 0) rfl rfl ?_
            refine wi_putI rfl (kd_134 ..) ?_
            refine wi_aload_n rfl rfl ?_
            refine wi_iload_n rfl rfl ?_
            refine wi_callV1 rfl (by decide) (by decide) rfl (kd_134 ..) rfl rfl rfl (c_isS hn4 (st_in (by omega) (by omega)) ?_)
            refine wi_if_ne rfl (fun _ => ?_) (fun h9 => absurd (by decide) h9)
            refine wi_iload_n rfl rfl ?_
            refine wi_iconst (x := 1) rfl rfl ?_
            refine wi_icmp_lt rfl (fun h9 => absurd (Int32.lt_trans z_n9 h9) (by decide)) (fun _ => ?_)
            refine wi_iload_n rfl rfl ?_
            refine wi_bipush (x := 6) rfl rfl ?_
            refine wi_icmp_gt rfl (fun _ => ?_) (fun h9 => absurd z_n9 h9)
            refine wi_aload_n rfl rfl ?_
            refine wi_iconst (x := 2) rfl rfl ?_
            refine wi_callV1 rfl (by decide) (by decide) rfl (kd_134 ..) rfl rfl rfl ?_
            refine wi_aload_n rfl rfl ?_
            refine wi_iload_n rfl rfl ?_
            refine wi_putI rfl (kd_134 ..) ?_
            refine wi_iconst (x := (-1)) rfl rfl ?_
            refine wi_iret rfl (Or.inl rfl) ?_
            refine wi_iret rfl (Or.inl rfl) ?_
            refine h2 _ _ _ ?_
            exact ⟨n, t, rfl, ⟨hn0, hn4, hn⟩, ⟨ht0, ht5, ht⟩, hT, hF, hC, hM, hP, hTp, hB, hFa, hS, hMk, hfr⟩
          · refine wi_aload_n rfl rfl ?_
            refine wi_iload_n rfl rfl ?_
            refine wi_callV1 rfl (by decide) (by decide) rfl (kd_0 ..) rfl rfl rfl (c_has hn0 (st_in (by omega) (by omega)) ?_)
            refine wi_if_ne rfl (fun _ => ?_) (fun h9 => absurd (by decide) h9)
            refine wi_iload_n rfl rfl ?_
            refine wi_iconst (x := 0) rfl rfl ?_
            refine wi_bipush (x := 6) rfl rfl ?_
            refine wi_callS3 rfl (by decide) (by decide) rfl rfl rfl (c_wiV (wn_in (lo := 0) (hi := 6) (by omega) (by omega) (by decide)) ?_)
            refine wi_if_eq rfl (fun h9 => absurd h9 (by decide)) (fun _ => ?_)
            refine wi_iload rfl rfl ?_
            refine wi_iconst (x := 0) rfl rfl ?_
            refine wi_bipush (x := 6) rfl rfl ?_
            refine wi_callS3 rfl (by decide) (by decide) rfl rfl rfl (c_wiV (wn_in (lo := 0) (hi := 6) (by omega) (by omega) (by decide)) ?_)
            refine wi_if_eq rfl (fun h9 => absurd h9 (by decide)) (fun _ => ?_)
            refine wi_iconst (x := 1) rfl rfl ?_
            refine wi_goto rfl ?_
            refine wi_istore (l' := [.ref 0, .int (Int32.ofNat (s)), .int n9, .int (Int32.ofNat (cv)), .int (Int32.ofNat (rl)), .int (1 : Int32)]) rfl (Nat.le_of_ble_eq_true rfl) rfl rfl ?_
            refine wi_iload_n rfl rfl ?_
            refine wi_iconst (x := 1) rfl rfl ?_
            refine wi_bipush (x := 6) rfl rfl ?_
            refine wi_callS3 rfl (by decide) (by decide) rfl rfl rfl (c_wiV e_n9 ?_)
            refine wi_if_eq rfl (fun _ => ?_) (fun h9 => absurd (by decide) h9)
            refine wi_aload_n rfl rfl ?_
            refine wi_iconst (x := 2) rfl rfl ?_
            refine wi_callV1 rfl (by decide) (by decide) rfl (kd_0 ..) rfl rfl rfl ?_
            refine wi_aload_n rfl rfl ?_
            refine wi_iload_n rfl rfl ?_
            refine wi_putI rfl (kd_0 ..) ?_
            refine wi_iconst (x := (-1)) rfl rfl ?_
            refine wi_iret rfl (Or.inl rfl) ?_
            refine wi_iret rfl (Or.inl rfl) ?_
            refine hK _ _ _ _ (fun Q2 h2 => ?_)
            refine wi_aload_n rfl rfl ?_
            refine wi_iconst (x := 0) rfl rfl ?_
            refine wi_putI rfl (kd_134 ..) ?_
            refine wi_aload_n rfl rfl ?_
            refine wi_iconst (x := 0) rfl rfl ?_
            refine wi_putI rfl (kd_134 ..) ?_
            refine wi_aload_n rfl rfl ?_
            refine wi_iload_n rfl rfl ?_
            refine wi_callV1 rfl (by decide) (by decide) rfl (kd_134 ..) rfl rfl rfl (c_isS hn4 (st_in (by omega) (by omega)) ?_)
            refine wi_if_ne rfl (fun _ => ?_) (fun h9 => absurd (by decide) h9)
            refine wi_iload_n rfl rfl ?_
            refine wi_iconst (x := 1) rfl rfl ?_
            refine wi_icmp_lt rfl (fun h9 => absurd (Int32.lt_trans z_n9 h9) (by decide)) (fun _ => ?_)
            refine wi_iload_n rfl rfl ?_
            refine wi_bipush (x := 6) rfl rfl ?_
            refine wi_icmp_gt rfl (fun _ => ?_) (fun h9 => absurd z_n9 h9)
            refine wi_aload_n rfl rfl ?_
            refine wi_iconst (x := 2) rfl rfl ?_
            refine wi_callV1 rfl (by decide) (by decide) rfl (kd_134 ..) rfl rfl rfl ?_
            refine wi_aload_n rfl rfl ?_
            refine wi_iload_n rfl rfl ?_
            refine wi_putI rfl (kd_134 ..) ?_
            refine wi_iconst (x := (-1)) rfl rfl ?_
            refine wi_iret rfl (Or.inl rfl) ?_
            refine wi_iret rfl (Or.inl rfl) ?_
            refine h2 _ _ _ ?_
            exact ⟨n, t, rfl, ⟨hn0, hn4, hn⟩, ⟨ht0, ht5, ht⟩, hT, hF, hC, hM, hP, hTp, hB, hFa, hS, hMk, hfr⟩
    · rcases wn_cases c9 0 6 (by decide) (by decide) with e_c9 | ⟨cv, l_c, h_c, rfl⟩
      · refine wi_aload_n rfl rfl ?_
        refine wi_iload_n rfl rfl ?_
        refine wi_callV1 rfl (by decide) (by decide) rfl (kd_0 ..) rfl rfl rfl (c_has hn0 (st_in (by omega) (by omega)) ?_)
        refine wi_if_ne rfl (fun _ => ?_) (fun h9 => absurd (by decide) h9)
        refine wi_iload_n rfl rfl ?_
        refine wi_iconst (x := 0) rfl rfl ?_
        refine wi_bipush (x := 6) rfl rfl ?_
        refine wi_callS3 rfl (by decide) (by decide) rfl rfl rfl (c_wiV e_c9 ?_)
        refine wi_if_eq rfl (fun _ => ?_) (fun h9 => absurd (by decide) h9)
        refine wi_iconst (x := 0) rfl rfl ?_
        refine wi_istore (l' := [.ref 0, .int (Int32.ofNat (s)), .int (Int32.ofNat (p)), .int c9, .int r9, .int (0 : Int32)]) rfl (Nat.le_of_ble_eq_true rfl) rfl rfl ?_
        refine wi_iload_n rfl rfl ?_
        refine wi_iconst (x := 1) rfl rfl ?_
        refine wi_bipush (x := 6) rfl rfl ?_
        refine wi_callS3 rfl (by decide) (by decide) rfl rfl rfl (c_wiV (wn_in (lo := 1) (hi := 6) (by omega) (by omega) (by decide)) ?_)
        refine wi_if_eq rfl (fun h9 => absurd h9 (by decide)) (fun _ => ?_)
        refine wi_iload rfl rfl ?_
        refine wi_if_ne rfl (fun h9 => absurd h9 (by decide)) (fun _ => ?_)
        refine wi_aload_n rfl rfl ?_
        refine wi_iconst (x := 2) rfl rfl ?_
        refine wi_callV1 rfl (by decide) (by decide) rfl (kd_0 ..) rfl rfl rfl ?_
        refine wi_aload_n rfl rfl ?_
        refine wi_iload_n rfl rfl ?_
        refine wi_putI rfl (kd_0 ..) ?_
        refine wi_iconst (x := (-1)) rfl rfl ?_
        refine wi_iret rfl (Or.inl rfl) ?_
        refine wi_iret rfl (Or.inl rfl) ?_
        refine hK _ _ _ _ (fun Q2 h2 => ?_)
        refine wi_aload_n rfl rfl ?_
        refine wi_iconst (x := 0) rfl rfl ?_
        refine wi_putI rfl (kd_134 ..) ?_
        refine wi_aload_n rfl rfl ?_
        refine wi_iconst (x := 0) rfl rfl ?_
        refine wi_putI rfl (kd_134 ..) ?_
        refine wi_aload_n rfl rfl ?_
        refine wi_iload_n rfl rfl ?_
        refine wi_callV1 rfl (by decide) (by decide) rfl (kd_134 ..) rfl rfl rfl (c_isS hn4 (st_in (by omega) (by omega)) ?_)
        refine wi_if_ne rfl (fun _ => ?_) (fun h9 => absurd (by decide) h9)
        refine wi_iload_n rfl rfl ?_
        refine wi_iconst (x := 1) rfl rfl ?_
        refine wi_icmp_lt rfl (fun h9 => absurd trivial (by exfalso; have h8 := (lt_n (a := p) (b := 1) rfl (rfl : (1 : Int32) = Int32.ofNat 1) (by omega) (by omega)).mp h9; omega)) (fun _ => ?_)
        refine wi_iload_n rfl rfl ?_
        refine wi_bipush (x := 6) rfl rfl ?_
        refine wi_icmp_gt rfl (fun h9 => absurd trivial (by exfalso; have h8 := (lt_n (a := 6) (b := p) (rfl : (6 : Int32) = Int32.ofNat 6) rfl (by omega) (by omega)).mp h9; omega)) (fun _ => ?_)
        refine wi_iload_n rfl rfl ?_
        refine wi_bipush (x := 6) rfl rfl ?_
        refine wi_callS2 rfl (by decide) (by decide) rfl rfl rfl (c_isIn e_c9 ?_)
        refine wi_if_eq rfl (fun _ => ?_) (fun h9 => absurd (by decide) h9)
        refine wi_aload_n rfl rfl ?_
        refine wi_iconst (x := 2) rfl rfl ?_
        refine wi_callV1 rfl (by decide) (by decide) rfl (kd_134 ..) rfl rfl rfl ?_
        refine wi_aload_n rfl rfl ?_
        refine wi_iload_n rfl rfl ?_
        refine wi_putI rfl (kd_134 ..) ?_
        refine wi_iconst (x := (-1)) rfl rfl ?_
        refine wi_iret rfl (Or.inl rfl) ?_
        refine wi_iret rfl (Or.inl rfl) ?_
        refine h2 _ _ _ ?_
        exact ⟨n, t, rfl, ⟨hn0, hn4, hn⟩, ⟨ht0, ht5, ht⟩, hT, hF, hC, hM, hP, hTp, hB, hFa, hS, hMk, hfr⟩
      · rcases wn_cases r9 0 6 (by decide) (by decide) with e_r9 | ⟨rl, l_r, h_r, rfl⟩
        · refine wi_aload_n rfl rfl ?_
          refine wi_iload_n rfl rfl ?_
          refine wi_callV1 rfl (by decide) (by decide) rfl (kd_0 ..) rfl rfl rfl (c_has hn0 (st_in (by omega) (by omega)) ?_)
          refine wi_if_ne rfl (fun _ => ?_) (fun h9 => absurd (by decide) h9)
          refine wi_iload_n rfl rfl ?_
          refine wi_iconst (x := 0) rfl rfl ?_
          refine wi_bipush (x := 6) rfl rfl ?_
          refine wi_callS3 rfl (by decide) (by decide) rfl rfl rfl (c_wiV (wn_in (lo := 0) (hi := 6) (by omega) (by omega) (by decide)) ?_)
          refine wi_if_eq rfl (fun h9 => absurd h9 (by decide)) (fun _ => ?_)
          refine wi_iload rfl rfl ?_
          refine wi_iconst (x := 0) rfl rfl ?_
          refine wi_bipush (x := 6) rfl rfl ?_
          refine wi_callS3 rfl (by decide) (by decide) rfl rfl rfl (c_wiV e_r9 ?_)
          refine wi_if_eq rfl (fun _ => ?_) (fun h9 => absurd (by decide) h9)
          refine wi_iconst (x := 0) rfl rfl ?_
          refine wi_istore (l' := [.ref 0, .int (Int32.ofNat (s)), .int (Int32.ofNat (p)), .int (Int32.ofNat (cv)), .int r9, .int (0 : Int32)]) rfl (Nat.le_of_ble_eq_true rfl) rfl rfl ?_
          refine wi_iload_n rfl rfl ?_
          refine wi_iconst (x := 1) rfl rfl ?_
          refine wi_bipush (x := 6) rfl rfl ?_
          refine wi_callS3 rfl (by decide) (by decide) rfl rfl rfl (c_wiV (wn_in (lo := 1) (hi := 6) (by omega) (by omega) (by decide)) ?_)
          refine wi_if_eq rfl (fun h9 => absurd h9 (by decide)) (fun _ => ?_)
          refine wi_iload rfl rfl ?_
          refine wi_if_ne rfl (fun h9 => absurd h9 (by decide)) (fun _ => ?_)
          refine wi_aload_n rfl rfl ?_
          refine wi_iconst (x := 2) rfl rfl ?_
          refine wi_callV1 rfl (by decide) (by decide) rfl (kd_0 ..) rfl rfl rfl ?_
          refine wi_aload_n rfl rfl ?_
          refine wi_iload_n rfl rfl ?_
          refine wi_putI rfl (kd_0 ..) ?_
          refine wi_iconst (x := (-1)) rfl rfl ?_
          refine wi_iret rfl (Or.inl rfl) ?_
          refine wi_iret rfl (Or.inl rfl) ?_
          refine hK _ _ _ _ (fun Q2 h2 => ?_)
          refine wi_aload_n rfl rfl ?_
          refine wi_iconst (x := 0) rfl rfl ?_
          refine wi_putI rfl (kd_134 ..) ?_
          refine wi_aload_n rfl rfl ?_
          refine wi_iconst (x := 0) rfl rfl ?_
          refine wi_putI rfl (kd_134 ..) ?_
          refine wi_aload_n rfl rfl ?_
          refine wi_iload_n rfl rfl ?_
          refine wi_callV1 rfl (by decide) (by decide) rfl (kd_134 ..) rfl rfl rfl (c_isS hn4 (st_in (by omega) (by omega)) ?_)
          refine wi_if_ne rfl (fun _ => ?_) (fun h9 => absurd (by decide) h9)
          refine wi_iload_n rfl rfl ?_
          refine wi_iconst (x := 1) rfl rfl ?_
          refine wi_icmp_lt rfl (fun h9 => absurd trivial (by exfalso; have h8 := (lt_n (a := p) (b := 1) rfl (rfl : (1 : Int32) = Int32.ofNat 1) (by omega) (by omega)).mp h9; omega)) (fun _ => ?_)
          refine wi_iload_n rfl rfl ?_
          refine wi_bipush (x := 6) rfl rfl ?_
          refine wi_icmp_gt rfl (fun h9 => absurd trivial (by exfalso; have h8 := (lt_n (a := 6) (b := p) (rfl : (6 : Int32) = Int32.ofNat 6) rfl (by omega) (by omega)).mp h9; omega)) (fun _ => ?_)
          refine wi_iload_n rfl rfl ?_
          refine wi_bipush (x := 6) rfl rfl ?_
          refine wi_callS2 rfl (by decide) (by decide) rfl rfl rfl (c_isIn (wn_in (lo := 0) (hi := 6) (by omega) (by omega) (by decide)) ?_)
          refine wi_if_eq rfl (fun h9 => absurd h9 (by decide)) (fun _ => ?_)
          refine wi_iload rfl rfl ?_
          refine wi_bipush (x := 6) rfl rfl ?_
          refine wi_callS2 rfl (by decide) (by decide) rfl rfl rfl (c_isIn e_r9 ?_)
          refine wi_if_ne rfl (fun h9 => absurd h9 (by decide)) (fun _ => ?_)
          refine wi_aload_n rfl rfl ?_
          refine wi_iconst (x := 2) rfl rfl ?_
          refine wi_callV1 rfl (by decide) (by decide) rfl (kd_134 ..) rfl rfl rfl ?_
          refine wi_aload_n rfl rfl ?_
          refine wi_iload_n rfl rfl ?_
          refine wi_putI rfl (kd_134 ..) ?_
          refine wi_iconst (x := (-1)) rfl rfl ?_
          refine wi_iret rfl (Or.inl rfl) ?_
          refine wi_iret rfl (Or.inl rfl) ?_
          refine h2 _ _ _ ?_
          exact ⟨n, t, rfl, ⟨hn0, hn4, hn⟩, ⟨ht0, ht5, ht⟩, hT, hF, hC, hM, hP, hTp, hB, hFa, hS, hMk, hfr⟩
        · by_cases h999 : t + p ≤ 999
          · have hTs := rTurf_at hT (q := s) (by omega) hn
            obtain ⟨⟨a0, a1, a2, a3, a4, a5, a6, a7⟩, hTb⟩ := hTs
            obtain ⟨w0, hw⟩ : ∃ w, w = sx (mi (126 + s)) := ⟨_, rfl⟩
            have hwb : wB w0 := by
              rw [hw]
              exact ⟨hTb.1, hTb.2.1, hTb.2.2.1, hTb.2.2.2.1, hTb.2.2.2.2.1, hTb.2.2.2.2.2.1⟩
            have hw3 : ∀ m9 mm : Nat → Nat → Int32, m9 135 = mi 135 → mm 135 = m9 135 → upT mm 142 (mm 135 (6 * s + 0)) (mm 135 (6 * s + 1)) (mm 135 (6 * s + 2)) (mm 135 (6 * s + 3)) (mm 135 (6 * s + 4)) (mm 135 (6 * s + 5)) = up6 mm 142 w0 := fun m9 mm e8 e9 => by
              rw [e9, e8, hw, ← a0, ← a1, ← a2, ← a3, ← a4, ← a5]
              rfl
            obtain ⟨S9, eS9⟩ : ∃ S9 : PS, S9 = trP (lfP p cv rl (fun z => bN (wc w0 (fun k => mi 4 (t + k)) (fun k => mi 5 (t + k)) p z))) p 0 none := ⟨_, rfl⟩
            have eS8 : S9 = fcP (lfP p cv rl (fun z => bN (wc w0 (fun k => mi 4 (t + k)) (fun k => mi 5 (t + k)) p z))) (4 ^ p) 0 none := by rw [eS9, tr_fc, Nat.zero_mul]
            refine wi_aload_n rfl rfl ?_
            refine wi_iload_n rfl rfl ?_
            refine wi_callV1 rfl (by decide) (by decide) rfl (kd_0 ..) rfl rfl rfl (c_has hn0 (st_in (by omega) (by omega)) ?_)
            refine wi_if_ne rfl (fun _ => ?_) (fun h9 => absurd (by decide) h9)
            refine wi_iload_n rfl rfl ?_
            refine wi_iconst (x := 0) rfl rfl ?_
            refine wi_bipush (x := 6) rfl rfl ?_
            refine wi_callS3 rfl (by decide) (by decide) rfl rfl rfl (c_wiV (wn_in (lo := 0) (hi := 6) (by omega) (by omega) (by decide)) ?_)
            refine wi_if_eq rfl (fun h9 => absurd h9 (by decide)) (fun _ => ?_)
            refine wi_iload rfl rfl ?_
            refine wi_iconst (x := 0) rfl rfl ?_
            refine wi_bipush (x := 6) rfl rfl ?_
            refine wi_callS3 rfl (by decide) (by decide) rfl rfl rfl (c_wiV (wn_in (lo := 0) (hi := 6) (by omega) (by omega) (by decide)) ?_)
            refine wi_if_eq rfl (fun h9 => absurd h9 (by decide)) (fun _ => ?_)
            refine wi_iconst (x := 1) rfl rfl ?_
            refine wi_goto rfl ?_
            refine wi_istore (l' := [.ref 0, .int (Int32.ofNat (s)), .int (Int32.ofNat (p)), .int (Int32.ofNat (cv)), .int (Int32.ofNat (rl)), .int (1 : Int32)]) rfl (Nat.le_of_ble_eq_true rfl) rfl rfl ?_
            refine wi_iload_n rfl rfl ?_
            refine wi_iconst (x := 1) rfl rfl ?_
            refine wi_bipush (x := 6) rfl rfl ?_
            refine wi_callS3 rfl (by decide) (by decide) rfl rfl rfl (c_wiV (wn_in (lo := 1) (hi := 6) (by omega) (by omega) (by decide)) ?_)
            refine wi_if_eq rfl (fun h9 => absurd h9 (by decide)) (fun _ => ?_)
            refine wi_iload rfl rfl ?_
            refine wi_if_ne rfl (fun _ => ?_) (fun h9 => absurd (by decide) h9)
            refine wi_aload_n rfl rfl ?_
            refine wi_getIv (v := (Int32.ofNat (t))) rfl (kd_0 ..) ht0 ?_
            refine wi_iload_n rfl rfl ?_
            refine wn_iadd (z := (Int32.ofNat (t + p))) rfl (add_n (a := t) (b := p) rfl rfl) ?_
            refine wi_sipush (x := 999) rfl rfl ?_
            refine wi_icmp_le rfl (fun _ => ?_) (fun h9 => absurd trivial (by exfalso; have h8 := (not_congr (le_n (a := t + p) (b := 999) rfl (rfl : (999 : Int32) = Int32.ofNat 999) (by omega) (by omega))).mp h9; omega))
            refine wi_aload_n rfl rfl ?_
            refine wi_getR rfl (kd_0 ..) (rd_0_5 _) ?_
            refine wi_aload_n rfl rfl ?_
            refine wi_getR rfl (kd_0 ..) (rd_0_0 _) ?_
            refine wi_iload_n rfl rfl ?_
            refine wn_aaload (q := s) rfl (Or.inl (ln_1 ..)) rfl (by omega) (by decide) (ra_1 _ _ (by omega)) ?_
            refine wi_aload_n rfl rfl ?_
            refine wi_getR rfl (kd_0 ..) (rd_0_2 _) ?_
            refine wi_aload_n rfl rfl ?_
            refine wi_getIv (v := (Int32.ofNat (t))) rfl (kd_0 ..) ht0 ?_
            refine wi_iload_n rfl rfl ?_
            refine wi_callV4 rfl (by decide) (by decide) rfl (kd_13 ..) rfl rfl rfl (c_beginW (mi1 := mi) h_p (by omega) h999 (fun mi1 k1 k2 k3 k4 k5 => ?_))
            refine wi_aload_n rfl rfl ?_
            refine wi_aload_n rfl rfl ?_
            refine wi_getR rfl (kd_0 ..) (rd_0_5 _) ?_
            refine wi_iload_n rfl rfl ?_
            refine wi_iload rfl rfl ?_
            refine wi_callV2 rfl (by decide) (by decide) rfl (kd_13 ..) rfl rfl rfl (wp_dep (show 24 - p + p + 4 = 28 by omega) (c_best (d := 24 - p) (mi0 := mi1) (w0 := w0) (rn := (fun k => mi 4 (t + k))) (sn := (fun k => mi 5 (t + k))) h_p h_c h_r (fun k hk => (k4 k hk).1) (fun k hk => (k4 k hk).2) k3 (k5.trans hw.symm) (fun mi2 hP2 => ?_)))
            refine wi_callV1 rfl (by decide) (by decide) rfl (kd_0 ..) rfl rfl rfl ?_
            refine wi_aload_n rfl rfl ?_
            refine wi_iconst (x := 0) rfl rfl ?_
            refine wi_putI rfl (kd_0 ..) ?_
            refine wi_iload_n rfl rfl ?_
            refine wi_iret rfl (Or.inl rfl) ?_
            refine wi_iret rfl (Or.inl rfl) ?_
            have ho : ∀ a, (a < 13 ∨ 26 ≤ a) → mi2 a = mi a := fun a ha => (hP2.1 a (by omega) (by omega) (by omega) (by omega)).trans (k1 a (by omega) (by omega) (by omega) (by omega))
            have hz0 : RR (u2 (u2 (u2 mi 0 12 0) 134 1 0) 134 0 0) ml b n t := ⟨rfl, ⟨hn0, hn4, hn⟩, ⟨ht0, ht5, ht⟩, hT, hF, hC, hM, hP, hTp, hB, hFa, hS, hMk, hfr⟩
            have hn4 : mi2 134 4 = Int32.ofNat n := by rw [ho 134 (by decide)]; exact hn4
            have ht5 : mi2 134 5 = Int32.ofNat t := by rw [ho 134 (by decide)]; exact ht5
            have h13 : mi2 13 5 = Int32.ofNat p := by rw [hP2.2.1 5 (by decide) (by decide)]; exact k3
            rw [← eS9] at hP2 ⊢
            obtain ⟨x9, ex9⟩ : ∃ x9, S9 = some x9 := by
              rw [eS8]
              exact fc_some h_p
            have hbx := (hP2.2.2.2.2 x9 ex9).1
            have hrs : ∀ k, k < p → mi2 138 (t + k) = mi 4 (t + k) ∧ mi2 139 (t + k) = mi 5 (t + k) := fun k hk => by
              rw [ho 138 (by decide), ho 139 (by decide)]
              exact ⟨(hF (t + k) (by omega)).1.symm, (hF (t + k) (by omega)).2.1.symm⟩
            refine hK _ _ _ _ (fun Q2 h2 => ?_)
            refine wi_aload_n rfl rfl ?_
            refine wi_iconst (x := 0) rfl rfl ?_
            refine wi_putI rfl (kd_134 ..) ?_
            refine wi_aload_n rfl rfl ?_
            refine wi_iconst (x := 0) rfl rfl ?_
            refine wi_putI rfl (kd_134 ..) ?_
            refine wi_aload_n rfl rfl ?_
            refine wi_iload_n rfl rfl ?_
            refine wi_callV1 rfl (by decide) (by decide) rfl (kd_134 ..) rfl rfl rfl (c_isS hn4 (st_in (by omega) (by omega)) ?_)
            refine wi_if_ne rfl (fun _ => ?_) (fun h9 => absurd (by decide) h9)
            refine wi_iload_n rfl rfl ?_
            refine wi_iconst (x := 1) rfl rfl ?_
            refine wi_icmp_lt rfl (fun h9 => absurd trivial (by exfalso; have h8 := (lt_n (a := p) (b := 1) rfl (rfl : (1 : Int32) = Int32.ofNat 1) (by omega) (by omega)).mp h9; omega)) (fun _ => ?_)
            refine wi_iload_n rfl rfl ?_
            refine wi_bipush (x := 6) rfl rfl ?_
            refine wi_icmp_gt rfl (fun h9 => absurd trivial (by exfalso; have h8 := (lt_n (a := 6) (b := p) (rfl : (6 : Int32) = Int32.ofNat 6) rfl (by omega) (by omega)).mp h9; omega)) (fun _ => ?_)
            refine wi_iload_n rfl rfl ?_
            refine wi_bipush (x := 6) rfl rfl ?_
            refine wi_callS2 rfl (by decide) (by decide) rfl rfl rfl (c_isIn (wn_in (lo := 0) (hi := 6) (by omega) (by omega) (by decide)) ?_)
            refine wi_if_eq rfl (fun h9 => absurd h9 (by decide)) (fun _ => ?_)
            refine wi_iload rfl rfl ?_
            refine wi_bipush (x := 6) rfl rfl ?_
            refine wi_callS2 rfl (by decide) (by decide) rfl rfl rfl (c_isIn (wn_in (lo := 0) (hi := 6) (by omega) (by omega) (by decide)) ?_)
            refine wi_if_ne rfl (fun _ => ?_) (fun h9 => absurd (by decide) h9)
            refine wi_aload_n rfl rfl ?_
            refine wi_getIv (v := (Int32.ofNat (t))) rfl (kd_134 ..) ht5 ?_
            refine wi_iload_n rfl rfl ?_
            refine wn_iadd (z := (Int32.ofNat (t + p))) rfl (add_n (a := t) (b := p) rfl rfl) ?_
            refine wi_sipush (x := 999) rfl rfl ?_
            refine wi_icmp_le rfl (fun _ => ?_) (fun h9 => absurd trivial (by exfalso; have h8 := (not_congr (le_n (a := t + p) (b := 999) rfl (rfl : (999 : Int32) = Int32.ofNat 999) (by omega) (by omega))).mp h9; omega))
            refine wi_iconst (x := (-1)) rfl rfl ?_
            refine wi_istore (l' := [.ref 134, .int (Int32.ofNat (s)), .int (Int32.ofNat (p)), .int (Int32.ofNat (cv)), .int (Int32.ofNat (rl)), .int (-1 : Int32), .retAddr 0, .retAddr 0, .retAddr 0, .retAddr 0, .retAddr 0, .retAddr 0]) rfl (Nat.le_of_ble_eq_true rfl) rfl rfl ?_
            refine wi_iconst (x := 0) rfl rfl ?_
            refine wi_istore (l' := [.ref 134, .int (Int32.ofNat (s)), .int (Int32.ofNat (p)), .int (Int32.ofNat (cv)), .int (Int32.ofNat (rl)), .int (-1 : Int32), .int (0 : Int32), .retAddr 0, .retAddr 0, .retAddr 0, .retAddr 0, .retAddr 0]) rfl (Nat.le_of_ble_eq_true rfl) rfl rfl ?_
            refine wi_iconst (x := 0) rfl rfl ?_
            refine wi_istore (l' := [.ref 134, .int (Int32.ofNat (s)), .int (Int32.ofNat (p)), .int (Int32.ofNat (cv)), .int (Int32.ofNat (rl)), .int (-1 : Int32), .int (0 : Int32), .int (0 : Int32), .retAddr 0, .retAddr 0, .retAddr 0, .retAddr 0]) rfl (Nat.le_of_ble_eq_true rfl) rfl rfl ?_
            refine mp_out (mi0 := (u2 (u2 (u2 mi2 0 12 (0 : Int32)) 134 1 (0 : Int32)) 134 0 (0 : Int32))) (w0 := w0) (rn := (fun k => mi 4 (t + k))) (sn := (fun k => mi 5 (t + k))) (s9 := s) (t := t) h_p (by omega) h999 h_c h_r hwb (fun k hk => (hF (t + k) (by omega)).2.2.1) ht5 hrs (fun mm e9 => hw3 (u2 (u2 (u2 mi2 0 12 (0 : Int32)) 134 1 (0 : Int32)) 134 0 (0 : Int32)) mm (ho 135 (by decide)) e9) (4 ^ p) 0 none (u2 (u2 (u2 mi2 0 12 (0 : Int32)) 134 1 (0 : Int32)) 134 0 (0 : Int32)) _ _ _ _ (Nat.zero_add _) ⟨fun _ _ _ _ => rfl, fun x hx => by cases hx⟩ (fun mi3 hM3 v8 v9 v10 v11 => ?_)
            rw [← eS8] at hM3 ⊢
            refine wi_aload_n rfl rfl ?_
            refine wi_iload_n rfl rfl ?_
            refine wi_putI rfl (kd_134 ..) ?_
            refine wi_iload rfl rfl ?_
            refine wi_iret rfl (Or.inl rfl) ?_
            refine h2 _ _ _ ?_
            obtain ⟨kst, ⟨kn0, kn4, -⟩, ⟨kt0, kt5, -⟩, kT, kF, kC, kM, kTp, kB, kFa, kS, kMk, kfr⟩ := RP_fr (mi2 := mi3) (fun a ha => (hM3.1 a (by omega) (by omega) (by omega)).trans (u2_congr (u2_congr (u2_congr (ho a (by omega)))))) hz0
            have h16 : ∀ k, k < p → mi3 16 k = Int32.ofNat (dg p x9.2.2 k) := fun k hk => by
              rw [hM3.1 16 (by decide) (by decide) (by decide)]
              exact hbx k hk
            have h147 := (hM3.2 x9 ex9).1
            have h135 : mi3 13 5 = Int32.ofNat p := by
              rw [hM3.1 13 (by decide) (by decide) (by decide)]
              exact h13
            exact ⟨n, t, kst, ⟨kn0, kn4, hn⟩, ⟨kt0, kt5, ht⟩, kT, kF, kC, kM, ⟨p, h135, rfl, h_p, fun k hk => ⟨(h16 k hk).trans (h147 k hk).symm, by
              show rB (mi3 16 k) 0 3
              rw [h16 k hk]
              exact rB_of (hi := 3) dg_le (by decide)⟩⟩, kTp, kB, kFa, kS, kMk, kfr⟩
          · refine wi_aload_n rfl rfl ?_
            refine wi_iload_n rfl rfl ?_
            refine wi_callV1 rfl (by decide) (by decide) rfl (kd_0 ..) rfl rfl rfl (c_has hn0 (st_in (by omega) (by omega)) ?_)
            refine wi_if_ne rfl (fun _ => ?_) (fun h9 => absurd (by decide) h9)
            refine wi_iload_n rfl rfl ?_
            refine wi_iconst (x := 0) rfl rfl ?_
            refine wi_bipush (x := 6) rfl rfl ?_
            refine wi_callS3 rfl (by decide) (by decide) rfl rfl rfl (c_wiV (wn_in (lo := 0) (hi := 6) (by omega) (by omega) (by decide)) ?_)
            refine wi_if_eq rfl (fun h9 => absurd h9 (by decide)) (fun _ => ?_)
            refine wi_iload rfl rfl ?_
            refine wi_iconst (x := 0) rfl rfl ?_
            refine wi_bipush (x := 6) rfl rfl ?_
            refine wi_callS3 rfl (by decide) (by decide) rfl rfl rfl (c_wiV (wn_in (lo := 0) (hi := 6) (by omega) (by omega) (by decide)) ?_)
            refine wi_if_eq rfl (fun h9 => absurd h9 (by decide)) (fun _ => ?_)
            refine wi_iconst (x := 1) rfl rfl ?_
            refine wi_goto rfl ?_
            refine wi_istore (l' := [.ref 0, .int (Int32.ofNat (s)), .int (Int32.ofNat (p)), .int (Int32.ofNat (cv)), .int (Int32.ofNat (rl)), .int (1 : Int32)]) rfl (Nat.le_of_ble_eq_true rfl) rfl rfl ?_
            refine wi_iload_n rfl rfl ?_
            refine wi_iconst (x := 1) rfl rfl ?_
            refine wi_bipush (x := 6) rfl rfl ?_
            refine wi_callS3 rfl (by decide) (by decide) rfl rfl rfl (c_wiV (wn_in (lo := 1) (hi := 6) (by omega) (by omega) (by decide)) ?_)
            refine wi_if_eq rfl (fun h9 => absurd h9 (by decide)) (fun _ => ?_)
            refine wi_iload rfl rfl ?_
            refine wi_if_ne rfl (fun _ => ?_) (fun h9 => absurd (by decide) h9)
            refine wi_aload_n rfl rfl ?_
            refine wi_getIv (v := (Int32.ofNat (t))) rfl (kd_0 ..) ht0 ?_
            refine wi_iload_n rfl rfl ?_
            refine wn_iadd (z := (Int32.ofNat (t + p))) rfl (add_n (a := t) (b := p) rfl rfl) ?_
            refine wi_sipush (x := 999) rfl rfl ?_
            refine wi_icmp_le rfl (fun h9 => absurd trivial (by exfalso; have h8 := (le_n (a := t + p) (b := 999) rfl (rfl : (999 : Int32) = Int32.ofNat 999) (by omega) (by omega)).mp h9; omega)) (fun _ => ?_)
            refine wi_aload_n rfl rfl ?_
            refine wi_bipush (x := 6) rfl rfl ?_
            refine wi_callV1 rfl (by decide) (by decide) rfl (kd_0 ..) rfl rfl rfl ?_
            refine wi_aload_n rfl rfl ?_
            refine wi_iload_n rfl rfl ?_
            refine wi_putI rfl (kd_0 ..) ?_
            refine wi_iconst (x := (-1)) rfl rfl ?_
            refine wi_iret rfl (Or.inl rfl) ?_
            refine wi_iret rfl (Or.inl rfl) ?_
            refine hK _ _ _ _ (fun Q2 h2 => ?_)
            refine wi_aload_n rfl rfl ?_
            refine wi_iconst (x := 0) rfl rfl ?_
            refine wi_putI rfl (kd_134 ..) ?_
            refine wi_aload_n rfl rfl ?_
            refine wi_iconst (x := 0) rfl rfl ?_
            refine wi_putI rfl (kd_134 ..) ?_
            refine wi_aload_n rfl rfl ?_
            refine wi_iload_n rfl rfl ?_
            refine wi_callV1 rfl (by decide) (by decide) rfl (kd_134 ..) rfl rfl rfl (c_isS hn4 (st_in (by omega) (by omega)) ?_)
            refine wi_if_ne rfl (fun _ => ?_) (fun h9 => absurd (by decide) h9)
            refine wi_iload_n rfl rfl ?_
            refine wi_iconst (x := 1) rfl rfl ?_
            refine wi_icmp_lt rfl (fun h9 => absurd trivial (by exfalso; have h8 := (lt_n (a := p) (b := 1) rfl (rfl : (1 : Int32) = Int32.ofNat 1) (by omega) (by omega)).mp h9; omega)) (fun _ => ?_)
            refine wi_iload_n rfl rfl ?_
            refine wi_bipush (x := 6) rfl rfl ?_
            refine wi_icmp_gt rfl (fun h9 => absurd trivial (by exfalso; have h8 := (lt_n (a := 6) (b := p) (rfl : (6 : Int32) = Int32.ofNat 6) rfl (by omega) (by omega)).mp h9; omega)) (fun _ => ?_)
            refine wi_iload_n rfl rfl ?_
            refine wi_bipush (x := 6) rfl rfl ?_
            refine wi_callS2 rfl (by decide) (by decide) rfl rfl rfl (c_isIn (wn_in (lo := 0) (hi := 6) (by omega) (by omega) (by decide)) ?_)
            refine wi_if_eq rfl (fun h9 => absurd h9 (by decide)) (fun _ => ?_)
            refine wi_iload rfl rfl ?_
            refine wi_bipush (x := 6) rfl rfl ?_
            refine wi_callS2 rfl (by decide) (by decide) rfl rfl rfl (c_isIn (wn_in (lo := 0) (hi := 6) (by omega) (by omega) (by decide)) ?_)
            refine wi_if_ne rfl (fun _ => ?_) (fun h9 => absurd (by decide) h9)
            refine wi_aload_n rfl rfl ?_
            refine wi_getIv (v := (Int32.ofNat (t))) rfl (kd_134 ..) ht5 ?_
            refine wi_iload_n rfl rfl ?_
            refine wn_iadd (z := (Int32.ofNat (t + p))) rfl (add_n (a := t) (b := p) rfl rfl) ?_
            refine wi_sipush (x := 999) rfl rfl ?_
            refine wi_icmp_le rfl (fun h9 => absurd trivial (by exfalso; have h8 := (le_n (a := t + p) (b := 999) rfl (rfl : (999 : Int32) = Int32.ofNat 999) (by omega) (by omega)).mp h9; omega)) (fun _ => ?_)
            refine wi_aload_n rfl rfl ?_
            refine wi_bipush (x := 6) rfl rfl ?_
            refine wi_callV1 rfl (by decide) (by decide) rfl (kd_134 ..) rfl rfl rfl ?_
            refine wi_aload_n rfl rfl ?_
            refine wi_iload_n rfl rfl ?_
            refine wi_putI rfl (kd_134 ..) ?_
            refine wi_iconst (x := (-1)) rfl rfl ?_
            refine wi_iret rfl (Or.inl rfl) ?_
            refine wi_iret rfl (Or.inl rfl) ?_
            refine h2 _ _ _ ?_
            exact ⟨n, t, rfl, ⟨hn0, hn4, hn⟩, ⟨ht0, ht5, ht⟩, hT, hF, hC, hM, hP, hTp, hB, hFa, hS, hMk, hfr⟩
