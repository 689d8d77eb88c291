/-! ===== step ===== -/
def nrow (r : Nat → Int32) (R U : Int32) : Nat → Int32 := fun k => if k = 7 then 0 else if k = 6 then 0 else if k = 0 then (dayF (r 0) (r 1) (r 2) (r 3) (r 4) (r 5) R U (r 6) (r 7)).1 else if k = 1 then (dayF (r 0) (r 1) (r 2) (r 3) (r 4) (r 5) R U (r 6) (r 7)).2.1 else if k = 2 then (dayF (r 0) (r 1) (r 2) (r 3) (r 4) (r 5) R U (r 6) (r 7)).2.2.1 else if k = 3 then (dayF (r 0) (r 1) (r 2) (r 3) (r 4) (r 5) R U (r 6) (r 7)).2.2.2.1 else if k = 4 then (dayF (r 0) (r 1) (r 2) (r 3) (r 4) (r 5) R U (r 6) (r 7)).2.2.2.2.1 else if k = 5 then (dayF (r 0) (r 1) (r 2) (r 3) (r 4) (r 5) R U (r 6) (r 7)).2.2.2.2.2 else r k
def mD (mi : Nat → Nat → Int32) (t z : Nat) : six := mdayF (mi 135 (6 * z + 0)) (mi 135 (6 * z + 1)) (mi 135 (6 * z + 2)) (mi 135 (6 * z + 3)) (mi 135 (6 * z + 4)) (mi 135 (6 * z + 5)) (mi 140 t) (mi 141 t) (mi 136 z) (mi 137 z)
def mG (mi mi' : Nat → Nat → Int32) (t z : Nat) : Prop := mi' 135 (6 * z + 0) = (mD mi t z).1 ∧ mi' 135 (6 * z + 1) = (mD mi t z).2.1 ∧ mi' 135 (6 * z + 2) = (mD mi t z).2.2.1 ∧ mi' 135 (6 * z + 3) = (mD mi t z).2.2.2.1 ∧ mi' 135 (6 * z + 4) = (mD mi t z).2.2.2.2.1 ∧ mi' 135 (6 * z + 5) = (mD mi t z).2.2.2.2.2 ∧ mi' 136 z = 0 ∧ mi' 137 z = 0
theorem u2_congr {α : Type} {f g : Nat → Nat → α} {p k a : Nat} {v : α} (h : f a = g a) : u2 f p k v a = u2 g p k v a := by
  funext i
  simp only [u2, h]
section SP
variable {X : Nat × (Nat → Int32)} {d : Nat} {Q : Option Value → am_M → Prop} {ml : Nat → Nat → Int64} {b : Bool} {n t : Nat}
theorem c_rain3 {z : Nat} {mi : Nat → Nat → Int32} (hz : z ≤ 999) (hQ : Q (some (.int (mi 4 z))) (am_shT, mrL b, mi, ml)) : am_wp X (d + 2) 102 0 [.ref 3, .int (Int32.ofNat z)] [] (am_shT, mrL b, mi, ml) Q := by
  refine wi_iload_n rfl rfl ?_
  refine wi_callS1 rfl (by decide) (by decide) rfl rfl rfl (c_xday (wn_in (lo := 0) (hi := 999) (by omega) (by omega) (by decide)) ?_)
  refine wi_if_eq rfl (fun h9 => absurd h9 (by decide)) (fun _ => ?_)
  refine wi_aload_n rfl rfl ?_
  refine wi_getR rfl (kd_3 ..) (rd_3_0 _) ?_
  refine wi_iload_n rfl rfl ?_
  refine wn_iaload (q := z) (v := (mi 4 z)) rfl (ln_4 ..) rfl (by omega) (by decide) (by decide) (by decide) rfl ?_
  refine wi_goto rfl ?_
  refine wi_iret rfl (Or.inl rfl) ?_
  exact hQ
theorem c_rain6 {z : Nat} {mi : Nat → Nat → Int32} (hz : z ≤ 999) (hQ : Q (some (.int (mi 7 z))) (am_shT, mrL b, mi, ml)) : am_wp X (d + 2) 102 0 [.ref 6, .int (Int32.ofNat z)] [] (am_shT, mrL b, mi, ml) Q := by
  refine wi_iload_n rfl rfl ?_
  refine wi_callS1 rfl (by decide) (by decide) rfl rfl rfl (c_xday (wn_in (lo := 0) (hi := 999) (by omega) (by omega) (by decide)) ?_)
  refine wi_if_eq rfl (fun h9 => absurd h9 (by decide)) (fun _ => ?_)
  refine wi_aload_n rfl rfl ?_
  refine wi_getR rfl (kd_6 ..) (rd_6_0 _) ?_
  refine wi_iload_n rfl rfl ?_
  refine wn_iaload (q := z) (v := (mi 7 z)) rfl (ln_7 ..) rfl (by omega) (by decide) (by decide) (by decide) rfl ?_
  refine wi_goto rfl ?_
  refine wi_iret rfl (Or.inl rfl) ?_
  exact hQ
theorem c_sun3 {z : Nat} {mi : Nat → Nat → Int32} (hz : z ≤ 999) (hQ : Q (some (.int (mi 5 z))) (am_shT, mrL b, mi, ml)) : am_wp X (d + 2) 103 0 [.ref 3, .int (Int32.ofNat z)] [] (am_shT, mrL b, mi, ml) Q := by
  refine wi_iload_n rfl rfl ?_
  refine wi_callS1 rfl (by decide) (by decide) rfl rfl rfl (c_xday (wn_in (lo := 0) (hi := 999) (by omega) (by omega) (by decide)) ?_)
  refine wi_if_eq rfl (fun h9 => absurd h9 (by decide)) (fun _ => ?_)
  refine wi_aload_n rfl rfl ?_
  refine wi_getR rfl (kd_3 ..) (rd_3_1 _) ?_
  refine wi_iload_n rfl rfl ?_
  refine wn_iaload (q := z) (v := (mi 5 z)) rfl (ln_5 ..) rfl (by omega) (by decide) (by decide) (by decide) rfl ?_
  refine wi_goto rfl ?_
  refine wi_iret rfl (Or.inl rfl) ?_
  exact hQ
theorem c_sun6 {z : Nat} {mi : Nat → Nat → Int32} (hz : z ≤ 999) (hQ : Q (some (.int (mi 8 z))) (am_shT, mrL b, mi, ml)) : am_wp X (d + 2) 103 0 [.ref 6, .int (Int32.ofNat z)] [] (am_shT, mrL b, mi, ml) Q := by
  refine wi_iload_n rfl rfl ?_
  refine wi_callS1 rfl (by decide) (by decide) rfl rfl rfl (c_xday (wn_in (lo := 0) (hi := 999) (by omega) (by omega) (by decide)) ?_)
  refine wi_if_eq rfl (fun h9 => absurd h9 (by decide)) (fun _ => ?_)
  refine wi_aload_n rfl rfl ?_
  refine wi_getR rfl (kd_6 ..) (rd_6_1 _) ?_
  refine wi_iload_n rfl rfl ?_
  refine wn_iaload (q := z) (v := (mi 8 z)) rfl (ln_8 ..) rfl (by omega) (by decide) (by decide) (by decide) rfl ?_
  refine wi_goto rfl ?_
  refine wi_iret rfl (Or.inl rfl) ?_
  exact hQ
theorem xs_loop (hn : n ≤ 8) (ht : t ≤ 999) : ∀ (r i : Nat) (mi : Nat → Nat → Int32), i + r = n → mi 0 13 = Int32.ofNat n → mi 0 14 = Int32.ofNat t → (∀ mi', (∀ a, a < 126 ∨ 134 ≤ a → mi' a = mi a) → (∀ s, i ≤ s → s < n → mi' (126 + s) = nrow (mi (126 + s)) (mi 7 t) (mi 8 t)) → (∀ s, s < i ∨ n ≤ s → mi' (126 + s) = mi (126 + s)) → am_wp X (d + 4) 112 31 [.ref 0, .int (Int32.ofNat n)] [] (am_shT, mrL b, mi', ml) Q) → am_wp X (d + 4) 112 10 [.ref 0, .int (Int32.ofNat i)] [] (am_shT, mrL b, mi, ml) Q := by
  intro r
  induction r with
  | zero =>
    intro i mi hi h13 h14 hQ
    refine wi_iload_n rfl rfl ?_
    refine wi_aload_n rfl rfl ?_
    refine wi_getIv (v := (Int32.ofNat (n))) rfl (kd_0 ..) h13 ?_
    refine wi_icmp_ge rfl (fun _ => ?_) (fun h9 => absurd trivial (by exfalso; have h8 := (not_congr (le_n (a := n) (b := i) rfl rfl (by omega) (by omega))).mp h9; omega))
    obtain rfl : i = n := by omega
    exact hQ mi (fun _ _ => rfl) (fun s h1 h2 => absurd h2 (by omega)) (fun _ _ => rfl)
  | succ r ih =>
    intro i mi hi h13 h14 hQ
    refine wi_iload_n rfl rfl ?_
    refine wi_aload_n rfl rfl ?_
    refine wi_getIv (v := (Int32.ofNat (n))) rfl (kd_0 ..) h13 ?_
    refine wi_icmp_ge rfl (fun h9 => absurd trivial (by exfalso; have h8 := (le_n (a := n) (b := i) rfl rfl (by omega) (by omega)).mp h9; omega)) (fun _ => ?_)
    refine wi_aload_n rfl rfl ?_
    refine wi_getR rfl (kd_0 ..) (rd_0_0 _) ?_
    refine wi_iload_n rfl rfl ?_
    refine wn_aaload (q := i) rfl (Or.inl (ln_1 ..)) rfl (by omega) (by decide) (ra_1 _ _ (by omega)) ?_
    refine wi_aload_n rfl rfl ?_
    refine wi_getR rfl (kd_0 ..) (rd_0_3 _) ?_
    refine wi_aload_n rfl rfl ?_
    refine wi_getIv (v := (Int32.ofNat (t))) rfl (kd_0 ..) h14 ?_
    refine wi_callV1 rfl (by decide) (by decide) rfl (kd_6 ..) rfl rfl rfl (c_rain6 (by omega) ?_)
    refine wi_aload_n rfl rfl ?_
    refine wi_getR rfl (kd_0 ..) (rd_0_3 _) ?_
    refine wi_aload_n rfl rfl ?_
    refine wi_getIv (v := (Int32.ofNat (t))) rfl (kd_0 ..) h14 ?_
    refine wi_callV1 rfl (by decide) (by decide) rfl (kd_6 ..) rfl rfl rfl (c_sun6 (by omega) ?_)
    refine wi_callV2 rfl (by decide) (by decide) rfl (kr_1 (by omega) ..) rfl rfl rfl (c_endDay (kr_1 (by omega) ..) (gen_wp (fun mi1 e1 => ?_)))
    refine wi_iinc (z := (Int32.ofNat (i + 1))) rfl rfl rfl (add_n (a := i) (b := 1) rfl rfl) rfl ?_
    refine wi_goto rfl ?_
    have ho : ∀ a, a ≠ 126 + i → mi1 a = mi a := fun a ha => by rw [e1, u2_ne ha, u2_ne ha, upT_ne ha]
    have hrow : mi1 (126 + i) = nrow (mi (126 + i)) (mi 7 t) (mi 8 t) := by
      funext k
      rw [e1, u2_rd, u2_rd, upT_rd]
      rfl
    refine ih (i + 1) mi1 (by omega) (by rw [ho 0 (by omega)]; exact h13) (by rw [ho 0 (by omega)]; exact h14) (fun mi' f1 f2 f3 => hQ mi' ?_ ?_ ?_)
    · intro a ha
      rw [f1 a ha, ho a (by omega)]
    · intro s h1 h2
      by_cases hs : s = i
      · subst hs
        rw [f3 s (by omega), hrow]
      · rw [f2 s (by omega) h2, ho _ (by omega), ho 7 (by omega), ho 8 (by omega)]
    · intro s h1
      rw [f3 s (by omega), ho _ (by omega)]
theorem xs_tail {mi : Nat → Nat → Int32} (h14 : mi 0 14 = Int32.ofNat t) (hQ : Q (some (.int (Int32.ofNat (t + 1)))) (am_shT, mrL b, u2 (u2 mi 0 14 (Int32.ofNat (t + 1))) 0 12 0, ml)) : am_wp X (d + 4) 112 31 [.ref 0, .int (Int32.ofNat n)] [] (am_shT, mrL b, mi, ml) Q := by
  refine wi_aload_n rfl rfl ?_
  refine wi_dup rfl rfl ?_
  refine wi_getIv (v := (Int32.ofNat (t))) rfl (kd_0 ..) h14 ?_
  refine wi_iconst (x := 1) rfl rfl ?_
  refine wn_iadd (z := (Int32.ofNat (t + 1))) rfl (add_n (a := t) (b := 1) rfl (rfl : (1 : Int32) = Int32.ofNat 1)) ?_
  refine wi_putI rfl (kd_0 ..) ?_
  refine wi_aload_n rfl rfl ?_
  refine wi_aload_n rfl rfl ?_
  refine wi_getIv (v := (Int32.ofNat (t + 1))) rfl (kd_0 ..) rfl ?_
  refine wi_callV1 rfl (by decide) (by decide) rfl (kd_0 ..) rfl rfl rfl ?_
  refine wi_aload_n rfl rfl ?_
  refine wi_iconst (x := 0) rfl rfl ?_
  refine wi_putI rfl (kd_0 ..) ?_
  refine wi_iload_n rfl rfl ?_
  refine wi_iret rfl (Or.inl rfl) ?_
  refine wi_iret rfl (Or.inl rfl) ?_
  exact hQ
theorem c_xstep {mi : Nat → Nat → Int32} (hn : n ≤ 8) (ht : t < 999) (h13 : mi 0 13 = Int32.ofNat n) (h14 : mi 0 14 = Int32.ofNat t) (hQ : ∀ mi', (∀ a, a < 126 ∨ 134 ≤ a → mi' a = mi a) → (∀ s, s < n → mi' (126 + s) = nrow (mi (126 + s)) (mi 7 t) (mi 8 t)) → (∀ s, n ≤ s → mi' (126 + s) = mi (126 + s)) → Q (some (.int (Int32.ofNat (t + 1)))) (am_shT, mrL b, u2 (u2 mi' 0 14 (Int32.ofNat (t + 1))) 0 12 0, ml)) : am_wp X (d + 4) 112 0 [.ref 0, .retAddr 0] [] (am_shT, mrL b, mi, ml) Q := by
  refine wi_aload_n rfl rfl ?_
  refine wi_getIv (v := (Int32.ofNat (t))) rfl (kd_0 ..) h14 ?_
  refine wi_sipush (x := 999) rfl rfl ?_
  refine wi_icmp_lt rfl (fun _ => ?_) (fun h9 => absurd trivial (by exfalso; have h8 := (not_congr (lt_n (a := t) (b := 999) rfl (rfl : (999 : Int32) = Int32.ofNat 999) (by omega) (by omega))).mp h9; omega))
  refine wi_iconst (x := 0) rfl rfl ?_
  refine wi_istore_n rfl (Nat.le_of_ble_eq_true rfl) rfl rfl ?_
  exact xs_loop hn (by omega) n 0 mi (by omega) h13 h14 (fun mi' f1 f2 f3 => xs_tail (by rw [f1 0 (by omega)]; exact h14) (hQ mi' f1 (fun s hs => f2 s (Nat.zero_le _) hs) (fun s hs => f3 s (Or.inr hs))))
theorem ms_loop (hn : n ≤ 8) (ht : t ≤ 999) : ∀ (r s : Nat) (mi : Nat → Nat → Int32) (v2 : Value), s + r = n → mi 134 4 = Int32.ofNat n → mi 134 5 = Int32.ofNat t → (∀ mi', (∀ a, a ≠ 135 → a ≠ 136 → a ≠ 137 → a ≠ 142 → mi' a = mi a) → (∀ k, k < 6 * s → mi' 135 k = mi 135 k) → (∀ z, z < s → mi' 136 z = mi 136 z ∧ mi' 137 z = mi 137 z) → (∀ z, s ≤ z → z < n → mG mi mi' t z) → ∀ v2 : Value, am_wp X (d + 4) 159 74 [.ref 134, .int (Int32.ofNat n), v2] [] (am_shT, mrL b, mi', ml) Q) → am_wp X (d + 4) 159 16 [.ref 134, .int (Int32.ofNat s), v2] [] (am_shT, mrL b, mi, ml) Q := by
  intro r
  induction r with
  | zero =>
    intro s mi v2 hi h4 h5 hQ
    refine wi_iload_n rfl rfl ?_
    refine wi_aload_n rfl rfl ?_
    refine wi_getIv (v := (Int32.ofNat (n))) rfl (kd_134 ..) h4 ?_
    refine wi_icmp_ge rfl (fun _ => ?_) (fun h9 => absurd trivial (by exfalso; have h8 := (not_congr (le_n (a := n) (b := s) rfl rfl (by omega) (by omega))).mp h9; omega))
    obtain rfl : s = n := by omega
    exact hQ mi (fun _ _ _ _ _ => rfl) (fun _ _ => rfl) (fun _ _ => ⟨rfl, rfl⟩) (fun z h1 h2 => absurd h2 (by omega)) v2
  | succ r ih =>
    intro s mi v2 hi h4 h5 hQ
    refine wi_iload_n rfl rfl ?_
    refine wi_aload_n rfl rfl ?_
    refine wi_getIv (v := (Int32.ofNat (n))) rfl (kd_134 ..) h4 ?_
    refine wi_icmp_ge rfl (fun h9 => absurd trivial (by exfalso; have h8 := (le_n (a := n) (b := s) rfl rfl (by omega) (by omega)).mp h9; omega)) (fun _ => ?_)
    refine wi_aload_n rfl rfl ?_
    refine wi_iload_n rfl rfl ?_
    refine wi_callV1 rfl (by decide) (by decide) rfl (kd_134 ..) rfl rfl rfl (c_begin (by omega) ?_)
    refine wi_aload_n rfl rfl ?_
    refine wi_aload_n rfl rfl ?_
    refine wi_getR rfl (kd_134 ..) (rd_134_11 _) ?_
    refine wi_aload_n rfl rfl ?_
    refine wi_getIv (v := (Int32.ofNat (t))) rfl (kd_134 ..) h5 ?_
    refine wn_iaload (q := t) (v := (mi 140 t)) rfl (ln_140 ..) rfl (by omega) (by decide) (by decide) (by decide) rfl ?_
    refine wi_aload_n rfl rfl ?_
    refine wi_getR rfl (kd_134 ..) (rd_134_12 _) ?_
    refine wi_aload_n rfl rfl ?_
    refine wi_getIv (v := (Int32.ofNat (t))) rfl (kd_134 ..) h5 ?_
    refine wn_iaload (q := t) (v := (mi 141 t)) rfl (ln_141 ..) rfl (by omega) (by decide) (by decide) (by decide) rfl ?_
    refine wi_aload_n rfl rfl ?_
    refine wi_getR rfl (kd_134 ..) (rd_134_7 _) ?_
    refine wi_iload_n rfl rfl ?_
    refine wn_iaload (q := s) (v := (mi 136 s)) rfl (ln_136 ..) rfl (by omega) (by decide) (by decide) (by decide) rfl ?_
    refine wi_aload_n rfl rfl ?_
    refine wi_getR rfl (kd_134 ..) (rd_134_8 _) ?_
    refine wi_iload_n rfl rfl ?_
    refine wn_iaload (q := s) (v := (mi 137 s)) rfl (ln_137 ..) rfl (by omega) (by decide) (by decide) (by decide) rfl ?_
    refine wi_callV4 rfl (by decide) (by decide) rfl (kd_134 ..) rfl rfl rfl (c_steps ?_)
    refine wi_iconst (x := 0) rfl rfl ?_
    refine wi_istore_n rfl (Nat.le_of_ble_eq_true rfl) rfl rfl ?_
    refine wi_iload_n rfl rfl ?_
    refine wi_bipush (x := 6) rfl rfl ?_
    refine wi_icmp_ge rfl (fun h9 => absurd h9 (by decide)) (fun _ => ?_)
    refine wi_aload_n rfl rfl ?_
    refine wi_getR rfl (kd_134 ..) (rd_134_6 _) ?_
    refine wi_bipush (x := 6) rfl rfl ?_
    refine wi_iload_n rfl rfl ?_
    refine wn_imul (z := (Int32.ofNat (6 * s))) rfl (mul_n (a := 6) (b := s) (rfl : (6 : Int32) = Int32.ofNat 6) rfl) ?_
    refine wi_iload_n rfl rfl ?_
    refine wn_iadd (z := (Int32.ofNat (6 * s + 0))) rfl (add_n (a := 6 * s) (b := 0) rfl (rfl : (0 : Int32) = Int32.ofNat 0)) ?_
    refine wi_aload_n rfl rfl ?_
    refine wi_getR rfl (kd_134 ..) (rd_134_13 _) ?_
    refine wi_iload_n rfl rfl ?_
    refine wn_iaload (q := 0) (v := (mD mi t s).1) rfl (ln_142 ..) (rfl : (0 : Int32) = Int32.ofNat 0) (by decide) (by decide) (by decide) (by decide) rfl ?_
    refine wn_iastore (q := 6 * s + 0) rfl (ln_135 ..) rfl (by omega) (by decide) ?_
    refine wi_iinc (z := (1 : Int32)) rfl rfl rfl (by decide) rfl ?_
    refine wi_goto rfl ?_
    refine wi_iload_n rfl rfl ?_
    refine wi_bipush (x := 6) rfl rfl ?_
    refine wi_icmp_ge rfl (fun h9 => absurd h9 (by decide)) (fun _ => ?_)
    refine wi_aload_n rfl rfl ?_
    refine wi_getR rfl (kd_134 ..) (rd_134_6 _) ?_
    refine wi_bipush (x := 6) rfl rfl ?_
    refine wi_iload_n rfl rfl ?_
    refine wn_imul (z := (Int32.ofNat (6 * s))) rfl (mul_n (a := 6) (b := s) (rfl : (6 : Int32) = Int32.ofNat 6) rfl) ?_
    refine wi_iload_n rfl rfl ?_
    refine wn_iadd (z := (Int32.ofNat (6 * s + 1))) rfl (add_n (a := 6 * s) (b := 1) rfl (rfl : (1 : Int32) = Int32.ofNat 1)) ?_
    refine wi_aload_n rfl rfl ?_
    refine wi_getR rfl (kd_134 ..) (rd_134_13 _) ?_
    refine wi_iload_n rfl rfl ?_
    refine wn_iaload (q := 1) (v := (mD mi t s).2.1) rfl (ln_142 ..) (rfl : (1 : Int32) = Int32.ofNat 1) (by decide) (by decide) (by decide) (by decide) rfl ?_
    refine wn_iastore (q := 6 * s + 1) rfl (ln_135 ..) rfl (by omega) (by decide) ?_
    refine wi_iinc (z := (2 : Int32)) rfl rfl rfl (by decide) rfl ?_
    refine wi_goto rfl ?_
    refine wi_iload_n rfl rfl ?_
    refine wi_bipush (x := 6) rfl rfl ?_
    refine wi_icmp_ge rfl (fun h9 => absurd h9 (by decide)) (fun _ => ?_)
    refine wi_aload_n rfl rfl ?_
    refine wi_getR rfl (kd_134 ..) (rd_134_6 _) ?_
    refine wi_bipush (x := 6) rfl rfl ?_
    refine wi_iload_n rfl rfl ?_
    refine wn_imul (z := (Int32.ofNat (6 * s))) rfl (mul_n (a := 6) (b := s) (rfl : (6 : Int32) = Int32.ofNat 6) rfl) ?_
    refine wi_iload_n rfl rfl ?_
    refine wn_iadd (z := (Int32.ofNat (6 * s + 2))) rfl (add_n (a := 6 * s) (b := 2) rfl (rfl : (2 : Int32) = Int32.ofNat 2)) ?_
    refine wi_aload_n rfl rfl ?_
    refine wi_getR rfl (kd_134 ..) (rd_134_13 _) ?_
    refine wi_iload_n rfl rfl ?_
    refine wn_iaload (q := 2) (v := (mD mi t s).2.2.1) rfl (ln_142 ..) (rfl : (2 : Int32) = Int32.ofNat 2) (by decide) (by decide) (by decide) (by decide) rfl ?_
    refine wn_iastore (q := 6 * s + 2) rfl (ln_135 ..) rfl (by omega) (by decide) ?_
    refine wi_iinc (z := (3 : Int32)) rfl rfl rfl (by decide) rfl ?_
    refine wi_goto rfl ?_
    refine wi_iload_n rfl rfl ?_
    refine wi_bipush (x := 6) rfl rfl ?_
    refine wi_icmp_ge rfl (fun h9 => absurd h9 (by decide)) (fun _ => ?_)
    refine wi_aload_n rfl rfl ?_
    refine wi_getR rfl (kd_134 ..) (rd_134_6 _) ?_
    refine wi_bipush (x := 6) rfl rfl ?_
    refine wi_iload_n rfl rfl ?_
    refine wn_imul (z := (Int32.ofNat (6 * s))) rfl (mul_n (a := 6) (b := s) (rfl : (6 : Int32) = Int32.ofNat 6) rfl) ?_
    refine wi_iload_n rfl rfl ?_
    refine wn_iadd (z := (Int32.ofNat (6 * s + 3))) rfl (add_n (a := 6 * s) (b := 3) rfl (rfl : (3 : Int32) = Int32.ofNat 3)) ?_
    refine wi_aload_n rfl rfl ?_
    refine wi_getR rfl (kd_134 ..) (rd_134_13 _) ?_
    refine wi_iload_n rfl rfl ?_
    refine wn_iaload (q := 3) (v := (mD mi t s).2.2.2.1) rfl (ln_142 ..) (rfl : (3 : Int32) = Int32.ofNat 3) (by decide) (by decide) (by decide) (by decide) rfl ?_
    refine wn_iastore (q := 6 * s + 3) rfl (ln_135 ..) rfl (by omega) (by decide) ?_
    refine wi_iinc (z := (4 : Int32)) rfl rfl rfl (by decide) rfl ?_
    refine wi_goto rfl ?_
    refine wi_iload_n rfl rfl ?_
    refine wi_bipush (x := 6) rfl rfl ?_
    refine wi_icmp_ge rfl (fun h9 => absurd h9 (by decide)) (fun _ => ?_)
    refine wi_aload_n rfl rfl ?_
    refine wi_getR rfl (kd_134 ..) (rd_134_6 _) ?_
    refine wi_bipush (x := 6) rfl rfl ?_
    refine wi_iload_n rfl rfl ?_
    refine wn_imul (z := (Int32.ofNat (6 * s))) rfl (mul_n (a := 6) (b := s) (rfl : (6 : Int32) = Int32.ofNat 6) rfl) ?_
    refine wi_iload_n rfl rfl ?_
    refine wn_iadd (z := (Int32.ofNat (6 * s + 4))) rfl (add_n (a := 6 * s) (b := 4) rfl (rfl : (4 : Int32) = Int32.ofNat 4)) ?_
    refine wi_aload_n rfl rfl ?_
    refine wi_getR rfl (kd_134 ..) (rd_134_13 _) ?_
    refine wi_iload_n rfl rfl ?_
    refine wn_iaload (q := 4) (v := (mD mi t s).2.2.2.2.1) rfl (ln_142 ..) (rfl : (4 : Int32) = Int32.ofNat 4) (by decide) (by decide) (by decide) (by decide) rfl ?_
    refine wn_iastore (q := 6 * s + 4) rfl (ln_135 ..) rfl (by omega) (by decide) ?_
    refine wi_iinc (z := (5 : Int32)) rfl rfl rfl (by decide) rfl ?_
    refine wi_goto rfl ?_
    refine wi_iload_n rfl rfl ?_
    refine wi_bipush (x := 6) rfl rfl ?_
    refine wi_icmp_ge rfl (fun h9 => absurd h9 (by decide)) (fun _ => ?_)
    refine wi_aload_n rfl rfl ?_
    refine wi_getR rfl (kd_134 ..) (rd_134_6 _) ?_
    refine wi_bipush (x := 6) rfl rfl ?_
    refine wi_iload_n rfl rfl ?_
    refine wn_imul (z := (Int32.ofNat (6 * s))) rfl (mul_n (a := 6) (b := s) (rfl : (6 : Int32) = Int32.ofNat 6) rfl) ?_
    refine wi_iload_n rfl rfl ?_
    refine wn_iadd (z := (Int32.ofNat (6 * s + 5))) rfl (add_n (a := 6 * s) (b := 5) rfl (rfl : (5 : Int32) = Int32.ofNat 5)) ?_
    refine wi_aload_n rfl rfl ?_
    refine wi_getR rfl (kd_134 ..) (rd_134_13 _) ?_
    refine wi_iload_n rfl rfl ?_
    refine wn_iaload (q := 5) (v := (mD mi t s).2.2.2.2.2) rfl (ln_142 ..) (rfl : (5 : Int32) = Int32.ofNat 5) (by decide) (by decide) (by decide) (by decide) rfl ?_
    refine wn_iastore (q := 6 * s + 5) rfl (ln_135 ..) rfl (by omega) (by decide) ?_
    refine wi_iinc (z := (6 : Int32)) rfl rfl rfl (by decide) rfl ?_
    refine wi_goto rfl ?_
    refine wi_iload_n rfl rfl ?_
    refine wi_bipush (x := 6) rfl rfl ?_
    refine wi_icmp_ge rfl (fun _ => ?_) (fun h9 => absurd (by decide) h9)
    refine wi_aload_n rfl rfl ?_
    refine wi_getR rfl (kd_134 ..) (rd_134_7 _) ?_
    refine wi_iload_n rfl rfl ?_
    refine wi_iconst (x := 0) rfl rfl ?_
    refine wn_iastore (q := s) rfl (ln_136 ..) rfl (by omega) (by decide) ?_
    refine wi_aload_n rfl rfl ?_
    refine wi_getR rfl (kd_134 ..) (rd_134_8 _) ?_
    refine wi_iload_n rfl rfl ?_
    refine wi_iconst (x := 0) rfl rfl ?_
    refine wn_iastore (q := s) rfl (ln_137 ..) rfl (by omega) (by decide) ?_
    refine wi_iinc (z := (Int32.ofNat (s + 1))) rfl rfl rfl (add_n (a := s) (b := 1) rfl rfl) rfl ?_
    refine wi_goto rfl ?_
    refine gen_wp (fun mi1 e1 => ?_)
    have r135 : mi1 135 = S6 (mi 135) (6 * s) (mD mi t s).1 (mD mi t s).2.1 (mD mi t s).2.2.1 (mD mi t s).2.2.2.1 (mD mi t s).2.2.2.2.1 (mD mi t s).2.2.2.2.2 := by rw [e1]; rfl
    have r136 : mi1 136 = fun k => if k = s then 0 else mi 136 k := by rw [e1]; rfl
    have r137 : mi1 137 = fun k => if k = s then 0 else mi 137 k := by rw [e1]; rfl
    have ho : ∀ a, a ≠ 135 → a ≠ 136 → a ≠ 137 → a ≠ 142 → mi1 a = mi a := fun a h1 h2 h3 h4 => by rw [e1, u2_ne h3, u2_ne h2, u2_ne h1, u2_ne h1, u2_ne h1, u2_ne h1, u2_ne h1, u2_ne h1]; exact upT_ne h4
    refine ih (s + 1) mi1 _ (by omega) (by rw [ho 134 (by decide) (by decide) (by decide) (by decide)]; exact h4) (by rw [ho 134 (by decide) (by decide) (by decide) (by decide)]; exact h5) (fun mi' f1 f2 f3 f4 v9 => hQ mi' ?_ ?_ ?_ ?_ v9)
    · intro a h1 h2 h3 h4
      rw [f1 a h1 h2 h3 h4, ho a h1 h2 h3 h4]
    · intro k hk
      rw [f2 k (by omega), r135, S6_ne (by omega)]
    · intro z hz
      obtain ⟨g1, g2⟩ := f3 z (by omega)
      rw [g1, g2, r136, r137]
      exact ⟨if_neg (by omega), if_neg (by omega)⟩
    · intro z h1 h2
      by_cases hz : z = s
      · subst hz
        obtain ⟨g1, g2⟩ := f3 z (by omega)
        obtain ⟨c0, c1, c2, c3, c4, c5⟩ := S6_at (S := mi 135) (z := 6 * z) (a0 := (mD mi t z).1) (a1 := (mD mi t z).2.1) (a2 := (mD mi t z).2.2.1) (a3 := (mD mi t z).2.2.2.1) (a4 := (mD mi t z).2.2.2.2.1) (a5 := (mD mi t z).2.2.2.2.2)
        rw [← r135] at c0 c1 c2 c3 c4 c5
        refine ⟨?_, ?_, ?_, ?_, ?_, ?_, ?_, ?_⟩
        · rw [f2 _ (by omega)]; exact c0
        · rw [f2 _ (by omega)]; exact c1
        · rw [f2 _ (by omega)]; exact c2
        · rw [f2 _ (by omega)]; exact c3
        · rw [f2 _ (by omega)]; exact c4
        · rw [f2 _ (by omega)]; exact c5
        · rw [g1, r136]; exact if_pos rfl
        · rw [g2, r137]; exact if_pos rfl
      · have g := f4 z (by omega) h2
        have hD : mD mi1 t z = mD mi t z := by
          unfold mD
          rw [r135, r136, r137, ho 140 (by decide) (by decide) (by decide) (by decide), ho 141 (by decide) (by decide) (by decide) (by decide), S6_ne (by omega), S6_ne (by omega), S6_ne (by omega), S6_ne (by omega), S6_ne (by omega), S6_ne (by omega)]
          simp only [if_neg hz]
        unfold mG at g ⊢
        rw [hD] at g
        exact g
theorem ms_tail {mi : Nat → Nat → Int32} {v2 : Value} (h5 : mi 134 5 = Int32.ofNat t) (hQ : Q (some (.int (Int32.ofNat (t + 1)))) (am_shT, mrL b, u2 mi 134 5 (Int32.ofNat (t + 1)), ml)) : am_wp X (d + 4) 159 74 [.ref 134, .int (Int32.ofNat n), v2] [] (am_shT, mrL b, mi, ml) Q := by
  refine wi_aload_n rfl rfl ?_
  refine wi_dup rfl rfl ?_
  refine wi_getIv (v := (Int32.ofNat (t))) rfl (kd_134 ..) h5 ?_
  refine wi_iconst (x := 1) rfl rfl ?_
  refine wn_iadd (z := (Int32.ofNat (t + 1))) rfl (add_n (a := t) (b := 1) rfl (rfl : (1 : Int32) = Int32.ofNat 1)) ?_
  refine wi_putI rfl (kd_134 ..) ?_
  refine wi_aload_n rfl rfl ?_
  refine wi_getIv (v := (Int32.ofNat (t + 1))) rfl (kd_134 ..) rfl ?_
  refine wi_iret rfl (Or.inl rfl) ?_
  exact hQ
theorem c_mstep {mi : Nat → Nat → Int32} (hn : n ≤ 8) (ht : t < 999) (h4 : mi 134 4 = Int32.ofNat n) (h5 : mi 134 5 = Int32.ofNat t) (hQ : ∀ mi', (∀ a, a ≠ 135 → a ≠ 136 → a ≠ 137 → a ≠ 142 → mi' a = (u2 (u2 mi 134 1 0) 134 0 0) a) → (∀ z, z < n → mG (u2 (u2 mi 134 1 0) 134 0 0) mi' t z) → Q (some (.int (Int32.ofNat (t + 1)))) (am_shT, mrL b, u2 mi' 134 5 (Int32.ofNat (t + 1)), ml)) : am_wp X (d + 4) 159 0 [.ref 134, .retAddr 0, .retAddr 0] [] (am_shT, mrL b, mi, ml) Q := by
  refine wi_aload_n rfl rfl ?_
  refine wi_iconst (x := 0) rfl rfl ?_
  refine wi_putI rfl (kd_134 ..) ?_
  refine wi_aload_n rfl rfl ?_
  refine wi_iconst (x := 0) rfl rfl ?_
  refine wi_putI rfl (kd_134 ..) ?_
  refine wi_aload_n rfl rfl ?_
  refine wi_getIv (v := (Int32.ofNat (t))) rfl (kd_134 ..) h5 ?_
  refine wi_sipush (x := 999) rfl rfl ?_
  refine wi_icmp_ne rfl (fun _ => ?_) (fun h9 => absurd trivial (by exfalso; have h8 := (not_congr (ne_n (a := t) (b := 999) rfl (rfl : (999 : Int32) = Int32.ofNat 999) (by omega) (by omega))).mp h9; omega))
  refine wi_iconst (x := 0) rfl rfl ?_
  refine wi_istore_n rfl (Nat.le_of_ble_eq_true rfl) rfl rfl ?_
  exact ms_loop hn (by omega) n 0 (u2 (u2 mi 134 1 0) 134 0 0) _ (by omega) h4 h5 (fun mi' f1 f2 f3 f4 v2 => ms_tail (by rw [f1 134 (by decide) (by decide) (by decide) (by decide)]; exact h5) (hQ mi' f1 (fun z hz => f4 z (Nat.zero_le _) hz)))
end SP
theorem a_step {X : Nat × (Nat → Int32)} : arm X 112 159 [.ref 0, .retAddr 0] [.ref 134, .retAddr 0, .retAddr 0] := by
  intro mi ml b hR Q hK
  obtain ⟨n, t, hst, ⟨hn0, hn4, hn⟩, ⟨ht0, ht5, ht⟩, hT, hF, hC, hM, hP, hTp, hB, hFa, hS, hMk, hfr⟩ := hR
  by_cases hlt : t < 999
  · refine c_xstep hn hlt hn0 ht0 (fun mi1 f1 f2 f3 => hK _ _ _ _ (fun Q2 h2 => ?_))
    have hO := RO_fr (mi2 := mi1) (fun a ha => f1 a (by
      by_cases h9 : a < 126 ∨ 134 ≤ a
      · exact h9
      · obtain ⟨q, rfl⟩ : ∃ q, a = 126 + q := ⟨a - 126, by omega⟩
        rw [scr_t (by omega)] at ha
        cases ha)) (RR_to ⟨hst, ⟨hn0, hn4, hn⟩, ⟨ht0, ht5, ht⟩, hT, hF, hC, hM, hP, hTp, hB, hFa, hS, hMk, hfr⟩)
    obtain ⟨kst, ⟨kn0, kn4, -⟩, ⟨kt0, kt5, -⟩, kF, kC, kM, kP, kTp, kB, kFa, kS, kMk, kfr⟩ := hO
    refine c_mstep hn hlt (mi := u2 (u2 mi1 0 14 (Int32.ofNat (t + 1))) 0 12 0) kn4 kt5 (fun mi2 g1 g2 => ?_)
    refine h2 _ _ _ ⟨n, t + 1, RR_of ?_ ?_⟩
    · refine RO_fr (mi := u2 (u2 (u2 (u2 (u2 mi1 0 14 (Int32.ofNat (t + 1))) 0 12 0) 134 1 0) 134 0 0) 134 5 (Int32.ofNat (t + 1))) (fun a ha => u2_congr (g1 a (fun e => by rw [e] at ha; cases ha) (fun e => by rw [e] at ha; cases ha) (fun e => by rw [e] at ha; cases ha) (fun e => by rw [e] at ha; cases ha))) ?_
      exact ⟨rfl, ⟨kn0, kn4, hn⟩, ⟨rfl, rfl, by omega⟩, kF, kC, kM, kP, kTp, kB, kFa, kS, kMk, kfr⟩
    · intro s hs
      have e8 : r8 (u2 mi2 134 5 (Int32.ofNat (t + 1)) 126) (u2 mi2 134 5 (Int32.ofNat (t + 1)) 127) (u2 mi2 134 5 (Int32.ofNat (t + 1)) 128) (u2 mi2 134 5 (Int32.ofNat (t + 1)) 129) (u2 mi2 134 5 (Int32.ofNat (t + 1)) 130) (u2 mi2 134 5 (Int32.ofNat (t + 1)) 131) (u2 mi2 134 5 (Int32.ofNat (t + 1)) 132) (u2 mi2 134 5 (Int32.ofNat (t + 1)) 133) s = mi1 (126 + s) := by
        refine (r8_eq (mi := u2 mi2 134 5 (Int32.ofNat (t + 1))) (p := 126) hs).trans ?_
        rw [u2_ne (by omega), g1 _ (by omega) (by omega) (by omega) (by omega), u2_ne (by omega), u2_ne (by omega), u2_ne (by omega), u2_ne (by omega)]
      rw [e8]
      have hTs := hT s hs
      have e9 : r8 (mi 126) (mi 127) (mi 128) (mi 129) (mi 130) (mi 131) (mi 132) (mi 133) s = mi (126 + s) := r8_eq (mi := mi) (p := 126) hs
      rw [e9] at hTs
      refine ⟨fun h1 => ?_, fun h1 => by rw [f3 s h1]; exact hTs.2 h1⟩
      rw [f2 s h1]
      obtain ⟨⟨a0, a1, a2, a3, a4, a5, a6, a7⟩, c0, c1, c2, c3, c4, c5, c6, c7⟩ := hTs.1 h1
      obtain ⟨w1, w2, w3, w4⟩ := hC t (by omega)
      have hd : dayF (mi (126 + s) 0) (mi (126 + s) 1) (mi (126 + s) 2) (mi (126 + s) 3) (mi (126 + s) 4) (mi (126 + s) 5) (mi 7 t) (mi 8 t) (mi (126 + s) 6) (mi (126 + s) 7) = mD mi1 t s := by
        rw [day_eq c0 w3 c6, a0, a1, a2, a3, a4, a5, a6, a7, w1, w2, ← f1 135 (by omega), ← f1 136 (by omega), ← f1 137 (by omega), ← f1 140 (by omega), ← f1 141 (by omega)]
        rfl
      obtain ⟨z0, z1, z2, z3, z4, z5, z6, z7⟩ := g2 s h1
      have hb := day_rB (f := mi (126 + s) 0) (s := mi (126 + s) 1) (t := mi (126 + s) 2) (h := mi (126 + s) 4) (w := mi (126 + s) 5) (r := mi 7 t) (u := mi 8 t) (wk := mi (126 + s) 6) (bl := mi (126 + s) 7) c3
      unfold nrow
      rw [hd] at hb ⊢
      obtain ⟨b0, b1, b2, b3, b4, b5⟩ := hb
      refine ⟨⟨z0.symm, z1.symm, z2.symm, z3.symm, z4.symm, z5.symm, z6.symm, z7.symm⟩, b0, b1, b2, b3, b4, b5, (show rB (0 : Int32) 0 31 from ⟨by decide, by decide⟩), (show rB (0 : Int32) 0 1000 from ⟨by decide, by decide⟩)⟩
  · have hteq : t = 999 := by omega
    refine wi_aload_n rfl rfl ?_
    refine wi_getIv (v := (Int32.ofNat (t))) rfl (kd_0 ..) ht0 ?_
    refine wi_sipush (x := 999) rfl rfl ?_
    refine wi_icmp_lt rfl (fun h9 => absurd trivial (by exfalso; have h8 := (lt_n (a := t) (b := 999) rfl (rfl : (999 : Int32) = Int32.ofNat 999) (by omega) (by omega)).mp h9; omega)) (fun _ => ?_)
    refine wi_aload_n rfl rfl ?_
    refine wi_bipush (x := 6) rfl rfl ?_
    refine wi_callV1 rfl (by decide) (by decide) rfl (kd_0 ..) rfl rfl rfl ?_
    refine wi_aload_n rfl rfl ?_
    refine wi_iload_n rfl rfl ?_
    refine wi_putI rfl (kd_0 ..) ?_
    refine wi_iconst (x := (-1)) rfl rfl ?_
    refine wi_iret rfl (Or.inl rfl) ?_
    refine wi_iret rfl (Or.inl rfl) ?_
    refine hK _ _ _ _ (fun Q2 h2 => ?_)
    refine wi_aload_n rfl rfl ?_
    refine wi_iconst (x := 0) rfl rfl ?_
    refine wi_putI rfl (kd_134 ..) ?_
    refine wi_aload_n rfl rfl ?_
    refine wi_iconst (x := 0) rfl rfl ?_
    refine wi_putI rfl (kd_134 ..) ?_
    refine wi_aload_n rfl rfl ?_
    refine wi_getIv (v := (Int32.ofNat (t))) rfl (kd_134 ..) ht5 ?_
    refine wi_sipush (x := 999) rfl rfl ?_
    refine wi_icmp_ne rfl (fun h9 => absurd trivial (by exfalso; have h8 := (ne_n (a := t) (b := 999) rfl (rfl : (999 : Int32) = Int32.ofNat 999) (by omega) (by omega)).mp h9; omega)) (fun _ => ?_)
    refine wi_aload_n rfl rfl ?_
    refine wi_bipush (x := 6) rfl rfl ?_
    refine wi_callV1 rfl (by decide) (by decide) rfl (kd_134 ..) rfl rfl rfl ?_
    refine wi_aload_n rfl rfl ?_
    refine wi_iload_n rfl rfl ?_
    refine wi_putI rfl (kd_134 ..) ?_
    refine wi_iconst (x := (-1)) rfl rfl ?_
    refine wi_iret rfl (Or.inl rfl) ?_
    refine wi_iret rfl (Or.inl rfl) ?_
    refine h2 _ _ _ ?_
    exact ⟨n, t, rfl, ⟨hn0, hn4, hn⟩, ⟨ht0, ht5, ht⟩, hT, hF, hC, hM, hP, hTp, hB, hFa, hS, hMk, hfr⟩
