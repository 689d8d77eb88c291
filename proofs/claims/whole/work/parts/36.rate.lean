/-! ===== rate, when ===== -/
def hold (v sg th : Int32) : Bool := if sg = 60 then !decide (th ≤ v) else if sg = 62 then !decide (v ≤ th) else decide (v = th)
def bI (b : Bool) : Int32 := if b = true then 1 else 0
def allB (f : Nat → Bool) : Nat → Bool
  | 0 => true
  | i + 1 => allB f i && f i
def frI (R : Nat → Bool) : Nat → Nat → Int32
  | 0, _ => -1
  | k + 1, r => if R r = true then Int32.ofNat r else frI R k (r + 1)
theorem allB_f {f : Nat → Bool} {i t : Nat} (h : f i = false) (hi : i < t) : allB f t = false := by
  induction t with
  | zero => omega
  | succ t ih =>
    show (allB f t && f t) = false
    rcases Nat.lt_or_ge i t with h1 | h1
    · rw [ih h1]; rfl
    · rw [show t = i by omega, h, Bool.and_false]
theorem allB_congr {f g : Nat → Bool} {t : Nat} (h : ∀ k, k < t → f k = g k) : allB f t = allB g t := by
  induction t with
  | zero => rfl
  | succ t ih =>
    show (allB f t && f t) = (allB g t && g t)
    rw [ih (fun k hk => h k (by omega)), h t (by omega)]
theorem frI_congr {R R' : Nat → Bool} {q : Nat} (h : ∀ r, r < q → R r = R' r) : ∀ k r, r + k ≤ q → frI R k r = frI R' k r := by
  intro k
  induction k with
  | zero => intro r hr; rfl
  | succ k ih =>
    intro r hr
    show (if R r = true then _ else _) = (if R' r = true then _ else _)
    rw [h r (by omega), ih (r + 1) (by omega)]
theorem frI_cases {R : Nat → Bool} : ∀ k r, frI R k r = -1 ∨ ∃ z, z < r + k ∧ frI R k r = Int32.ofNat z := by
  intro k
  induction k with
  | zero => intro r; exact Or.inl rfl
  | succ k ih =>
    intro r
    show (if R r = true then _ else _) = -1 ∨ ∃ z, z < _ ∧ (if R r = true then _ else _) = Int32.ofNat z
    by_cases h : R r = true
    · rw [if_pos h]
      exact Or.inr ⟨r, by omega, rfl⟩
    · rw [if_neg h]
      rcases ih (r + 1) with h1 | ⟨z, h1, h2⟩
      · exact Or.inl h1
      · exact Or.inr ⟨z, by omega, h2⟩
theorem bI_nz {x : Bool} (h : ¬ bI x = 0) : x = true := by
  cases x
  · exact absurd rfl h
  · rfl
theorem bI_z {x : Bool} (h : bI x = 0) : x = false := by
  cases x
  · rfl
  · exact absurd h (by decide)
def valN (w : six) (rain : Int32) (a : Nat) : Int32 := if a = 0 then w.1 else if a = 1 then w.2.1 else if a = 2 then w.2.2.1 else if a = 3 then w.2.2.2.1 else if a = 4 then w.2.2.2.2.1 else if a = 5 then w.2.2.2.2.2 else if a = 6 then bncF w.1 w.2.2.2.1 w.2.2.2.2.1 w.2.2.2.2.2 else rain
def sx (r : Nat → Int32) : six := (r 0, r 1, r 2, r 3, r 4, r 5)
def tst (w : six) (rain : Int32) (A S N : Nat → Int32) (k : Nat) : Bool := hold (valN w rain (clN A k)) (S k) (N k)
theorem valF_N {r : Nat → Int32} {rain : Int32} {a : Nat} (h : a < 7) : valF r (Int32.ofNat a) = valN (sx r) rain a := by
  rcases a with _ | _ | _ | _ | _ | _ | _ | a
  all_goals first | rfl | omega
theorem now_N {mi : Nat → Nat → Int32} {w : six} {rain : Int32} {a : Nat} (h : a < 6) : up6 mi 142 w 142 a = valN w rain a := by
  rcases a with _ | _ | _ | _ | _ | _ | a
  all_goals first | rfl | omega
theorem upT_upT {mi : Nat → Nat → Int32} {a : Nat} {f s t g h w f' s' t' g' h' w' : Int32} : upT (upT mi a f s t g h w) a f' s' t' g' h' w' = upT mi a f' s' t' g' h' w' := by
  funext q k
  unfold upT
  by_cases hq : q = a
  · simp only [if_pos hq]
    repeat' split
    all_goals rfl
  · simp only [if_neg hq]
theorem wp_mem {X : Nat × (Nat → Int32)} {d mid j : Nat} {ls st : List Value} {sh : List (Nat × Nat)} {mr : List (List (Option Nat))} {mi1 mi2 : Nat → Nat → Int32} {ml : Nat → Nat → Int64} {Q : Option Value → am_M → Prop} (e : mi1 = mi2) (h : am_wp X d mid j ls st (sh, mr, mi2, ml) Q) : am_wp X d mid j ls st (sh, mr, mi1, ml) Q := e ▸ h
section RT
variable {X : Nat × (Nat → Int32)} {d : Nat} {Q : Option Value → am_M → Prop} {mi : Nat → Nat → Int32} {ml : Nat → Nat → Int64} {b : Bool} {M : am_M}
theorem c_holds {v sg th : Int32} (hQ : Q (some (.int (bI (hold v sg th)))) M) : am_wp X d 33 0 [.int v, .int sg, .int th] [] M Q := by
  refine wi_iload_n rfl rfl ?_
  refine wi_bipush (x := 60) rfl rfl ?_
  refine wi_icmp_ne rfl (fun g1 => ?_) (fun g1 => ?_)
  · skip
    refine wi_iload_n rfl rfl ?_
    refine wi_bipush (x := 62) rfl rfl ?_
    refine wi_icmp_ne rfl (fun g2 => ?_) (fun g2 => ?_)
    · skip
      refine wi_iload_n rfl rfl ?_
      refine wi_iload_n rfl rfl ?_
      refine wi_icmp_ne rfl (fun g3 => ?_) (fun g3 => ?_)
      · skip
        refine wi_iconst (x := 0) rfl rfl ?_
        refine wi_iret rfl (by decide) ?_
        have e9 : hold v sg th = false := by simp [hold, g1, g2, g3]
        rw [e9] at hQ
        exact hQ
      · replace g3 := Classical.not_not.mp g3
        refine wi_iconst (x := 1) rfl rfl ?_
        refine wi_goto rfl ?_
        refine wi_iret rfl (by decide) ?_
        have e9 : hold v sg th = true := by simp [hold, g1, g2, g3]
        rw [e9] at hQ
        exact hQ
    · replace g2 := Classical.not_not.mp g2
      refine wi_iload_n rfl rfl ?_
      refine wi_iload_n rfl rfl ?_
      refine wi_icmp_le rfl (fun g4 => ?_) (fun g4 => ?_)
      · skip
        refine wi_iconst (x := 0) rfl rfl ?_
        refine wi_goto rfl ?_
        refine wi_iret rfl (by decide) ?_
        have e9 : hold v sg th = false := by simp [hold, g1, g2, g4]
        rw [e9] at hQ
        exact hQ
      · skip
        refine wi_iconst (x := 1) rfl rfl ?_
        refine wi_goto rfl ?_
        refine wi_iret rfl (by decide) ?_
        have e9 : hold v sg th = true := by simp [hold, g1, g2, g4]
        rw [e9] at hQ
        exact hQ
  · replace g1 := Classical.not_not.mp g1
    refine wi_iload_n rfl rfl ?_
    refine wi_iload_n rfl rfl ?_
    refine wi_icmp_ge rfl (fun g5 => ?_) (fun g5 => ?_)
    · skip
      refine wi_iconst (x := 0) rfl rfl ?_
      refine wi_iret rfl (by decide) ?_
      have e9 : hold v sg th = false := by simp [hold, g1, g5]
      rw [e9] at hQ
      exact hQ
    · skip
      refine wi_iconst (x := 1) rfl rfl ?_
      refine wi_goto rfl ?_
      refine wi_iret rfl (by decide) ?_
      have e9 : hold v sg th = true := by simp [hold, g1, g5]
      rw [e9] at hQ
      exact hQ
theorem ah_31 {p r t : Nat} {rain : Int32} (hp : am_kd (am_shT, mrL b, mi, ml) p = 8) (hr : r < 8) (ht : mi 32 r = Int32.ofNat t) (ht6 : t ≤ 6) (hA : ∀ k, k < t → mi (34 + r) k = Int32.ofNat (clN (mi (34 + r)) k) ∧ clN (mi (34 + r)) k ≤ 7) (hQ : Q (some (.int (bI (allB (tst (sx (mi p)) rain (mi (34 + r)) (mi (43 + r)) (mi (52 + r))) t)))) (am_shT, mrL b, mi, ml)) : ∀ k i (v5 v6 : Value), i + k = t → allB (tst (sx (mi p)) rain (mi (34 + r)) (mi (43 + r)) (mi (52 + r))) i = true → am_wp X (d + 2) 32 2 [.ref 31, .int (Int32.ofNat (r)), .ref p, .int rain, .int (Int32.ofNat (i)), v5, v6] [] (am_shT, mrL b, mi, ml) Q := by
  intro k
  induction k with
  | zero =>
    intro i v5 v6 hi hpre
    refine wi_iload rfl rfl ?_
    refine wi_aload_n rfl rfl ?_
    refine wi_getR rfl (kd_31 ..) (rd_31_0 _) ?_
    refine wi_iload_n rfl rfl ?_
    refine wn_iaload (q := r) (v := (Int32.ofNat (t))) rfl (ln_32 ..) rfl (by omega) (by decide) (by decide) (by decide) ht ?_
    refine wi_icmp_ge rfl (fun _ => ?_) (fun h9 => absurd trivial (by exfalso; have h8 := (not_congr (le_n (a := t) (b := i) rfl rfl (by omega) (by omega))).mp h9; omega))
    refine wi_iconst (x := 1) rfl rfl ?_
    refine wi_iret rfl (by decide) ?_
    obtain rfl : i = t := by omega
    rw [hpre] at hQ
    exact hQ
  | succ k ih =>
    intro i v5 v6 hi hpre
    have hb := (hA i (by omega)).2
    refine wi_iload rfl rfl ?_
    refine wi_aload_n rfl rfl ?_
    refine wi_getR rfl (kd_31 ..) (rd_31_0 _) ?_
    refine wi_iload_n rfl rfl ?_
    refine wn_iaload (q := r) (v := (Int32.ofNat (t))) rfl (ln_32 ..) rfl (by omega) (by decide) (by decide) (by decide) ht ?_
    refine wi_icmp_ge rfl (fun h9 => absurd trivial (by exfalso; have h8 := (le_n (a := t) (b := i) rfl rfl (by omega) (by omega)).mp h9; omega)) (fun _ => ?_)
    refine wi_aload_n rfl rfl ?_
    refine wi_getR rfl (kd_31 ..) (rd_31_1 _) ?_
    refine wi_iload_n rfl rfl ?_
    refine wn_aaload (q := r) rfl (Or.inr (ln_33 ..)) rfl (by omega) (by decide) (ra_33 _ _ (by omega)) ?_
    refine wi_iload rfl rfl ?_
    refine wn_iaload (q := i) (v := (Int32.ofNat (clN (mi (34 + r)) i))) rfl (lr_33 (by omega) ..) rfl (by omega) (by decide) (by omega) (by omega) (hA i (by omega)).1 ?_
    refine wi_istore rfl (Nat.le_of_ble_eq_true rfl) rfl rfl ?_
    refine wi_iload rfl rfl ?_
    refine wi_bipush (x := 7) rfl rfl ?_
    refine wi_icmp_ne rfl (fun g1 => ?_) (fun g1 => ?_)
    · replace g1 := (ne_n (a := clN (mi (34 + r)) i) (b := 7) rfl (rfl : (7 : Int32) = Int32.ofNat 7) (by omega) (by omega)).mp g1
      refine wi_aload_n rfl rfl ?_
      refine wi_iload rfl rfl ?_
      refine wi_callV1 rfl (by decide) (by decide) rfl hp rfl rfl rfl (c_valueOf hp ?_)
      refine wi_istore rfl (Nat.le_of_ble_eq_true rfl) rfl rfl ?_
      refine wi_iload rfl rfl ?_
      refine wi_aload_n rfl rfl ?_
      refine wi_getR rfl (kd_31 ..) (rd_31_2 _) ?_
      refine wi_iload_n rfl rfl ?_
      refine wn_aaload (q := r) rfl (Or.inr (ln_42 ..)) rfl (by omega) (by decide) (ra_42 _ _ (by omega)) ?_
      refine wi_iload rfl rfl ?_
      refine wn_iaload (q := i) (v := (mi (43 + r) i)) rfl (lr_42 (by omega) ..) rfl (by omega) (by decide) (by omega) (by omega) rfl ?_
      refine wi_aload_n rfl rfl ?_
      refine wi_getR rfl (kd_31 ..) (rd_31_3 _) ?_
      refine wi_iload_n rfl rfl ?_
      refine wn_aaload (q := r) rfl (Or.inr (ln_51 ..)) rfl (by omega) (by decide) (ra_51 _ _ (by omega)) ?_
      refine wi_iload rfl rfl ?_
      refine wn_iaload (q := i) (v := (mi (52 + r) i)) rfl (lr_51 (by omega) ..) rfl (by omega) (by decide) (by omega) (by omega) rfl ?_
      refine wi_callS3 rfl (by decide) (by decide) rfl rfl rfl (c_holds ?_)
      refine wi_if_ne rfl (fun g2 => ?_) (fun g2 => ?_)
      · skip
        refine wi_iinc (z := (Int32.ofNat (i + 1))) rfl rfl rfl (add_n (a := i) (b := 1) rfl rfl) rfl ?_
        refine wi_goto rfl ?_
        have e7 : valN (sx (mi p)) rain (clN (mi (34 + r)) i) = valF (mi p) (Int32.ofNat (clN (mi (34 + r)) i)) := (valF_N (by omega)).symm
        have e8 : (tst (sx (mi p)) rain (mi (34 + r)) (mi (43 + r)) (mi (52 + r))) i = true := by
          unfold tst
          rw [e7]
          exact bI_nz g2
        refine ih (i + 1) _ _ (by omega) ?_
        show (allB (tst (sx (mi p)) rain (mi (34 + r)) (mi (43 + r)) (mi (52 + r))) i && (tst (sx (mi p)) rain (mi (34 + r)) (mi (43 + r)) (mi (52 + r))) i) = true
        rw [hpre, e8]
        rfl
      · replace g2 := Classical.not_not.mp g2
        refine wi_iconst (x := 0) rfl rfl ?_
        refine wi_iret rfl (by decide) ?_
        have e7 : valN (sx (mi p)) rain (clN (mi (34 + r)) i) = valF (mi p) (Int32.ofNat (clN (mi (34 + r)) i)) := (valF_N (by omega)).symm
        have e8 : (tst (sx (mi p)) rain (mi (34 + r)) (mi (43 + r)) (mi (52 + r))) i = false := by
          unfold tst
          rw [e7]
          exact bI_z g2
        rw [allB_f e8 (by omega)] at hQ
        exact hQ
    · replace g1 := (not_congr (ne_n (a := clN (mi (34 + r)) i) (b := 7) rfl (rfl : (7 : Int32) = Int32.ofNat 7) (by omega) (by omega))).mp g1
      refine wi_iload_n rfl rfl ?_
      refine wi_goto rfl ?_
      refine wi_istore rfl (Nat.le_of_ble_eq_true rfl) rfl rfl ?_
      refine wi_iload rfl rfl ?_
      refine wi_aload_n rfl rfl ?_
      refine wi_getR rfl (kd_31 ..) (rd_31_2 _) ?_
      refine wi_iload_n rfl rfl ?_
      refine wn_aaload (q := r) rfl (Or.inr (ln_42 ..)) rfl (by omega) (by decide) (ra_42 _ _ (by omega)) ?_
      refine wi_iload rfl rfl ?_
      refine wn_iaload (q := i) (v := (mi (43 + r) i)) rfl (lr_42 (by omega) ..) rfl (by omega) (by decide) (by omega) (by omega) rfl ?_
      refine wi_aload_n rfl rfl ?_
      refine wi_getR rfl (kd_31 ..) (rd_31_3 _) ?_
      refine wi_iload_n rfl rfl ?_
      refine wn_aaload (q := r) rfl (Or.inr (ln_51 ..)) rfl (by omega) (by decide) (ra_51 _ _ (by omega)) ?_
      refine wi_iload rfl rfl ?_
      refine wn_iaload (q := i) (v := (mi (52 + r) i)) rfl (lr_51 (by omega) ..) rfl (by omega) (by decide) (by omega) (by omega) rfl ?_
      refine wi_callS3 rfl (by decide) (by decide) rfl rfl rfl (c_holds ?_)
      refine wi_if_ne rfl (fun g3 => ?_) (fun g3 => ?_)
      · skip
        refine wi_iinc (z := (Int32.ofNat (i + 1))) rfl rfl rfl (add_n (a := i) (b := 1) rfl rfl) rfl ?_
        refine wi_goto rfl ?_
        have e7 : valN (sx (mi p)) rain (clN (mi (34 + r)) i) = rain := by rw [show clN (mi (34 + r)) i = 7 by omega]; rfl
        have e8 : (tst (sx (mi p)) rain (mi (34 + r)) (mi (43 + r)) (mi (52 + r))) i = true := by
          unfold tst
          rw [e7]
          exact bI_nz g3
        refine ih (i + 1) _ _ (by omega) ?_
        show (allB (tst (sx (mi p)) rain (mi (34 + r)) (mi (43 + r)) (mi (52 + r))) i && (tst (sx (mi p)) rain (mi (34 + r)) (mi (43 + r)) (mi (52 + r))) i) = true
        rw [hpre, e8]
        rfl
      · replace g3 := Classical.not_not.mp g3
        refine wi_iconst (x := 0) rfl rfl ?_
        refine wi_iret rfl (by decide) ?_
        have e7 : valN (sx (mi p)) rain (clN (mi (34 + r)) i) = rain := by rw [show clN (mi (34 + r)) i = 7 by omega]; rfl
        have e8 : (tst (sx (mi p)) rain (mi (34 + r)) (mi (43 + r)) (mi (52 + r))) i = false := by
          unfold tst
          rw [e7]
          exact bI_z g3
        rw [allB_f e8 (by omega)] at hQ
        exact hQ
theorem c_ah_31 {p r t : Nat} {rain : Int32} (hp : am_kd (am_shT, mrL b, mi, ml) p = 8) (hr : r < 8) (ht : mi 32 r = Int32.ofNat t) (ht6 : t ≤ 6) (hA : ∀ k, k < t → mi (34 + r) k = Int32.ofNat (clN (mi (34 + r)) k) ∧ clN (mi (34 + r)) k ≤ 7) {z : Int32} (hz : bI (allB (tst (sx (mi p)) rain (mi (34 + r)) (mi (43 + r)) (mi (52 + r))) t) = z) (hQ : Q (some (.int z)) (am_shT, mrL b, mi, ml)) : am_wp X (d + 2) 32 0 [.ref 31, .int (Int32.ofNat (r)), .ref p, .int rain, .retAddr 0, .retAddr 0, .retAddr 0] [] (am_shT, mrL b, mi, ml) Q := by
  refine wi_iconst (x := 0) rfl rfl ?_
  refine wi_istore rfl (Nat.le_of_ble_eq_true rfl) rfl rfl ?_
  exact ah_31 hp hr ht ht6 hA (by rw [hz]; exact hQ) t 0 _ _ (by omega) rfl
def RX_31 (mi : Nat → Nat → Int32) (w : six) (rain : Int32) (r : Nat) : Bool := allB (tst w rain (mi (34 + r)) (mi (43 + r)) (mi (52 + r))) (clN (mi 32) r)
theorem c_mbounceZ {f s t g h w z : Int32} (hz : bncF f g h w = z) (hQ : Q (some (.int z)) (am_shT, mrL b, upT mi 142 f s t g h w, ml)) : am_wp X d 151 0 [.ref 134, .retAddr 0] [] (am_shT, mrL b, upT mi 142 f s t g h w, ml) Q := c_mbounce (by rw [hz]; exact hQ)
theorem rf_31 {p q : Nat} {rain : Int32} (hp : am_kd (am_shT, mrL b, mi, ml) p = 8) (hc : mi 31 4 = Int32.ofNat q) (hq : q ≤ 8) (hbk : ∀ r, r < q → ∃ t : Nat, t ≤ 6 ∧ mi 32 r = Int32.ofNat t ∧ ∀ k, k < t → mi (34 + r) k = Int32.ofNat (clN (mi (34 + r)) k) ∧ clN (mi (34 + r)) k ≤ 7) : ∀ k r, r + k = q → Q (some (.int (frI (RX_31 mi (sx (mi p)) rain) k r))) (am_shT, mrL b, mi, ml) → am_wp X (d + 3) 31 2 [.ref 31, .ref p, .int rain, .int (Int32.ofNat (r))] [] (am_shT, mrL b, mi, ml) Q := by
  intro k
  induction k with
  | zero =>
    intro r hr hQ
    refine wi_iload_n rfl rfl ?_
    refine wi_aload_n rfl rfl ?_
    refine wi_getIv (v := (Int32.ofNat (q))) rfl (kd_31 ..) hc ?_
    refine wi_icmp_ge rfl (fun _ => ?_) (fun h9 => absurd trivial (by exfalso; have h8 := (not_congr (le_n (a := q) (b := r) rfl rfl (by omega) (by omega))).mp h9; omega))
    refine wi_iconst (x := (-1)) rfl rfl ?_
    refine wi_iret rfl (Or.inl rfl) ?_
    exact hQ
  | succ k ih =>
    intro r hr hQ
    obtain ⟨t, ht6, ht1, hA⟩ := hbk r (by omega)
    have hcl : clN (mi 32) r = t := by unfold clN; exact cl_n ht1 (by omega)
    by_cases hR : RX_31 mi (sx (mi p)) rain r = true
    · have he : bI (allB (tst (sx (mi p)) rain (mi (34 + r)) (mi (43 + r)) (mi (52 + r))) t) = 1 := by
        have h8 := hR
        unfold RX_31 at h8
        rw [hcl] at h8
        rw [h8]
        rfl
      refine wi_iload_n rfl rfl ?_
      refine wi_aload_n rfl rfl ?_
      refine wi_getIv (v := (Int32.ofNat (q))) rfl (kd_31 ..) hc ?_
      refine wi_icmp_ge rfl (fun h9 => absurd trivial (by exfalso; have h8 := (le_n (a := q) (b := r) rfl rfl (by omega) (by omega)).mp h9; omega)) (fun _ => ?_)
      refine wi_aload_n rfl rfl ?_
      refine wi_iload_n rfl rfl ?_
      refine wi_aload_n rfl rfl ?_
      refine wi_iload_n rfl rfl ?_
      refine wi_callV3 rfl (by decide) (by decide) rfl (kd_31 ..) rfl rfl rfl (c_ah_31 hp (by omega) ht1 ht6 hA he ?_)
      refine wi_if_eq rfl (fun h9 => absurd h9 (by decide)) (fun _ => ?_)
      refine wi_iload_n rfl rfl ?_
      refine wi_iret rfl (Or.inl rfl) ?_
      rw [frI, if_pos hR] at hQ
      exact hQ
    · have he : bI (allB (tst (sx (mi p)) rain (mi (34 + r)) (mi (43 + r)) (mi (52 + r))) t) = 0 := by
        have h8 := Bool.eq_false_iff.mpr hR
        unfold RX_31 at h8
        rw [hcl] at h8
        rw [h8]
        rfl
      refine wi_iload_n rfl rfl ?_
      refine wi_aload_n rfl rfl ?_
      refine wi_getIv (v := (Int32.ofNat (q))) rfl (kd_31 ..) hc ?_
      refine wi_icmp_ge rfl (fun h9 => absurd trivial (by exfalso; have h8 := (le_n (a := q) (b := r) rfl rfl (by omega) (by omega)).mp h9; omega)) (fun _ => ?_)
      refine wi_aload_n rfl rfl ?_
      refine wi_iload_n rfl rfl ?_
      refine wi_aload_n rfl rfl ?_
      refine wi_iload_n rfl rfl ?_
      refine wi_callV3 rfl (by decide) (by decide) rfl (kd_31 ..) rfl rfl rfl (c_ah_31 hp (by omega) ht1 ht6 hA he ?_)
      refine wi_if_eq rfl (fun _ => ?_) (fun h9 => absurd (by decide) h9)
      refine wi_iinc (z := (Int32.ofNat (r + 1))) rfl rfl rfl (add_n (a := r) (b := 1) rfl rfl) rfl ?_
      refine wi_goto rfl ?_
      rw [frI, if_neg hR] at hQ
      exact ih (r + 1) (by omega) hQ
theorem c_rf_31 {p q : Nat} {rain : Int32} (hp : am_kd (am_shT, mrL b, mi, ml) p = 8) (hc : mi 31 4 = Int32.ofNat q) (hq : q ≤ 8) (hbk : ∀ r, r < q → ∃ t : Nat, t ≤ 6 ∧ mi 32 r = Int32.ofNat t ∧ ∀ k, k < t → mi (34 + r) k = Int32.ofNat (clN (mi (34 + r)) k) ∧ clN (mi (34 + r)) k ≤ 7) (hQ : Q (some (.int (frI (RX_31 mi (sx (mi p)) rain) q 0))) (am_shT, mrL b, mi, ml)) : am_wp X (d + 3) 31 0 [.ref 31, .ref p, .int rain, .retAddr 0] [] (am_shT, mrL b, mi, ml) Q := by
  refine wi_iconst (x := 0) rfl rfl ?_
  refine wi_istore_n rfl (Nat.le_of_ble_eq_true rfl) rfl rfl ?_
  exact rf_31 hp hc hq hbk q 0 (by omega) hQ
theorem ah_97 {p r t : Nat} {rain : Int32} (hp : am_kd (am_shT, mrL b, mi, ml) p = 8) (hr : r < 8) (ht : mi 98 r = Int32.ofNat t) (ht6 : t ≤ 6) (hA : ∀ k, k < t → mi (100 + r) k = Int32.ofNat (clN (mi (100 + r)) k) ∧ clN (mi (100 + r)) k ≤ 7) (hQ : Q (some (.int (bI (allB (tst (sx (mi p)) rain (mi (100 + r)) (mi (109 + r)) (mi (118 + r))) t)))) (am_shT, mrL b, mi, ml)) : ∀ k i (v5 v6 : Value), i + k = t → allB (tst (sx (mi p)) rain (mi (100 + r)) (mi (109 + r)) (mi (118 + r))) i = true → am_wp X (d + 2) 32 2 [.ref 97, .int (Int32.ofNat (r)), .ref p, .int rain, .int (Int32.ofNat (i)), v5, v6] [] (am_shT, mrL b, mi, ml) Q := by
  intro k
  induction k with
  | zero =>
    intro i v5 v6 hi hpre
    refine wi_iload rfl rfl ?_
    refine wi_aload_n rfl rfl ?_
    refine wi_getR rfl (kd_97 ..) (rd_97_0 _) ?_
    refine wi_iload_n rfl rfl ?_
    refine wn_iaload (q := r) (v := (Int32.ofNat (t))) rfl (ln_98 ..) rfl (by omega) (by decide) (by decide) (by decide) ht ?_
    refine wi_icmp_ge rfl (fun _ => ?_) (fun h9 => absurd trivial (by exfalso; have h8 := (not_congr (le_n (a := t) (b := i) rfl rfl (by omega) (by omega))).mp h9; omega))
    refine wi_iconst (x := 1) rfl rfl ?_
    refine wi_iret rfl (by decide) ?_
    obtain rfl : i = t := by omega
    rw [hpre] at hQ
    exact hQ
  | succ k ih =>
    intro i v5 v6 hi hpre
    have hb := (hA i (by omega)).2
    refine wi_iload rfl rfl ?_
    refine wi_aload_n rfl rfl ?_
    refine wi_getR rfl (kd_97 ..) (rd_97_0 _) ?_
    refine wi_iload_n rfl rfl ?_
    refine wn_iaload (q := r) (v := (Int32.ofNat (t))) rfl (ln_98 ..) rfl (by omega) (by decide) (by decide) (by decide) ht ?_
    refine wi_icmp_ge rfl (fun h9 => absurd trivial (by exfalso; have h8 := (le_n (a := t) (b := i) rfl rfl (by omega) (by omega)).mp h9; omega)) (fun _ => ?_)
    refine wi_aload_n rfl rfl ?_
    refine wi_getR rfl (kd_97 ..) (rd_97_1 _) ?_
    refine wi_iload_n rfl rfl ?_
    refine wn_aaload (q := r) rfl (Or.inr (ln_99 ..)) rfl (by omega) (by decide) (ra_99 _ _ (by omega)) ?_
    refine wi_iload rfl rfl ?_
    refine wn_iaload (q := i) (v := (Int32.ofNat (clN (mi (100 + r)) i))) rfl (lr_99 (by omega) ..) rfl (by omega) (by decide) (by omega) (by omega) (hA i (by omega)).1 ?_
    refine wi_istore rfl (Nat.le_of_ble_eq_true rfl) rfl rfl ?_
    refine wi_iload rfl rfl ?_
    refine wi_bipush (x := 7) rfl rfl ?_
    refine wi_icmp_ne rfl (fun g1 => ?_) (fun g1 => ?_)
    · replace g1 := (ne_n (a := clN (mi (100 + r)) i) (b := 7) rfl (rfl : (7 : Int32) = Int32.ofNat 7) (by omega) (by omega)).mp g1
      refine wi_aload_n rfl rfl ?_
      refine wi_iload rfl rfl ?_
      refine wi_callV1 rfl (by decide) (by decide) rfl hp rfl rfl rfl (c_valueOf hp ?_)
      refine wi_istore rfl (Nat.le_of_ble_eq_true rfl) rfl rfl ?_
      refine wi_iload rfl rfl ?_
      refine wi_aload_n rfl rfl ?_
      refine wi_getR rfl (kd_97 ..) (rd_97_2 _) ?_
      refine wi_iload_n rfl rfl ?_
      refine wn_aaload (q := r) rfl (Or.inr (ln_108 ..)) rfl (by omega) (by decide) (ra_108 _ _ (by omega)) ?_
      refine wi_iload rfl rfl ?_
      refine wn_iaload (q := i) (v := (mi (109 + r) i)) rfl (lr_108 (by omega) ..) rfl (by omega) (by decide) (by omega) (by omega) rfl ?_
      refine wi_aload_n rfl rfl ?_
      refine wi_getR rfl (kd_97 ..) (rd_97_3 _) ?_
      refine wi_iload_n rfl rfl ?_
      refine wn_aaload (q := r) rfl (Or.inr (ln_117 ..)) rfl (by omega) (by decide) (ra_117 _ _ (by omega)) ?_
      refine wi_iload rfl rfl ?_
      refine wn_iaload (q := i) (v := (mi (118 + r) i)) rfl (lr_117 (by omega) ..) rfl (by omega) (by decide) (by omega) (by omega) rfl ?_
      refine wi_callS3 rfl (by decide) (by decide) rfl rfl rfl (c_holds ?_)
      refine wi_if_ne rfl (fun g2 => ?_) (fun g2 => ?_)
      · skip
        refine wi_iinc (z := (Int32.ofNat (i + 1))) rfl rfl rfl (add_n (a := i) (b := 1) rfl rfl) rfl ?_
        refine wi_goto rfl ?_
        have e7 : valN (sx (mi p)) rain (clN (mi (100 + r)) i) = valF (mi p) (Int32.ofNat (clN (mi (100 + r)) i)) := (valF_N (by omega)).symm
        have e8 : (tst (sx (mi p)) rain (mi (100 + r)) (mi (109 + r)) (mi (118 + r))) i = true := by
          unfold tst
          rw [e7]
          exact bI_nz g2
        refine ih (i + 1) _ _ (by omega) ?_
        show (allB (tst (sx (mi p)) rain (mi (100 + r)) (mi (109 + r)) (mi (118 + r))) i && (tst (sx (mi p)) rain (mi (100 + r)) (mi (109 + r)) (mi (118 + r))) i) = true
        rw [hpre, e8]
        rfl
      · replace g2 := Classical.not_not.mp g2
        refine wi_iconst (x := 0) rfl rfl ?_
        refine wi_iret rfl (by decide) ?_
        have e7 : valN (sx (mi p)) rain (clN (mi (100 + r)) i) = valF (mi p) (Int32.ofNat (clN (mi (100 + r)) i)) := (valF_N (by omega)).symm
        have e8 : (tst (sx (mi p)) rain (mi (100 + r)) (mi (109 + r)) (mi (118 + r))) i = false := by
          unfold tst
          rw [e7]
          exact bI_z g2
        rw [allB_f e8 (by omega)] at hQ
        exact hQ
    · replace g1 := (not_congr (ne_n (a := clN (mi (100 + r)) i) (b := 7) rfl (rfl : (7 : Int32) = Int32.ofNat 7) (by omega) (by omega))).mp g1
      refine wi_iload_n rfl rfl ?_
      refine wi_goto rfl ?_
      refine wi_istore rfl (Nat.le_of_ble_eq_true rfl) rfl rfl ?_
      refine wi_iload rfl rfl ?_
      refine wi_aload_n rfl rfl ?_
      refine wi_getR rfl (kd_97 ..) (rd_97_2 _) ?_
      refine wi_iload_n rfl rfl ?_
      refine wn_aaload (q := r) rfl (Or.inr (ln_108 ..)) rfl (by omega) (by decide) (ra_108 _ _ (by omega)) ?_
      refine wi_iload rfl rfl ?_
      refine wn_iaload (q := i) (v := (mi (109 + r) i)) rfl (lr_108 (by omega) ..) rfl (by omega) (by decide) (by omega) (by omega) rfl ?_
      refine wi_aload_n rfl rfl ?_
      refine wi_getR rfl (kd_97 ..) (rd_97_3 _) ?_
      refine wi_iload_n rfl rfl ?_
      refine wn_aaload (q := r) rfl (Or.inr (ln_117 ..)) rfl (by omega) (by decide) (ra_117 _ _ (by omega)) ?_
      refine wi_iload rfl rfl ?_
      refine wn_iaload (q := i) (v := (mi (118 + r) i)) rfl (lr_117 (by omega) ..) rfl (by omega) (by decide) (by omega) (by omega) rfl ?_
      refine wi_callS3 rfl (by decide) (by decide) rfl rfl rfl (c_holds ?_)
      refine wi_if_ne rfl (fun g3 => ?_) (fun g3 => ?_)
      · skip
        refine wi_iinc (z := (Int32.ofNat (i + 1))) rfl rfl rfl (add_n (a := i) (b := 1) rfl rfl) rfl ?_
        refine wi_goto rfl ?_
        have e7 : valN (sx (mi p)) rain (clN (mi (100 + r)) i) = rain := by rw [show clN (mi (100 + r)) i = 7 by omega]; rfl
        have e8 : (tst (sx (mi p)) rain (mi (100 + r)) (mi (109 + r)) (mi (118 + r))) i = true := by
          unfold tst
          rw [e7]
          exact bI_nz g3
        refine ih (i + 1) _ _ (by omega) ?_
        show (allB (tst (sx (mi p)) rain (mi (100 + r)) (mi (109 + r)) (mi (118 + r))) i && (tst (sx (mi p)) rain (mi (100 + r)) (mi (109 + r)) (mi (118 + r))) i) = true
        rw [hpre, e8]
        rfl
      · replace g3 := Classical.not_not.mp g3
        refine wi_iconst (x := 0) rfl rfl ?_
        refine wi_iret rfl (by decide) ?_
        have e7 : valN (sx (mi p)) rain (clN (mi (100 + r)) i) = rain := by rw [show clN (mi (100 + r)) i = 7 by omega]; rfl
        have e8 : (tst (sx (mi p)) rain (mi (100 + r)) (mi (109 + r)) (mi (118 + r))) i = false := by
          unfold tst
          rw [e7]
          exact bI_z g3
        rw [allB_f e8 (by omega)] at hQ
        exact hQ
theorem c_ah_97 {p r t : Nat} {rain : Int32} (hp : am_kd (am_shT, mrL b, mi, ml) p = 8) (hr : r < 8) (ht : mi 98 r = Int32.ofNat t) (ht6 : t ≤ 6) (hA : ∀ k, k < t → mi (100 + r) k = Int32.ofNat (clN (mi (100 + r)) k) ∧ clN (mi (100 + r)) k ≤ 7) {z : Int32} (hz : bI (allB (tst (sx (mi p)) rain (mi (100 + r)) (mi (109 + r)) (mi (118 + r))) t) = z) (hQ : Q (some (.int z)) (am_shT, mrL b, mi, ml)) : am_wp X (d + 2) 32 0 [.ref 97, .int (Int32.ofNat (r)), .ref p, .int rain, .retAddr 0, .retAddr 0, .retAddr 0] [] (am_shT, mrL b, mi, ml) Q := by
  refine wi_iconst (x := 0) rfl rfl ?_
  refine wi_istore rfl (Nat.le_of_ble_eq_true rfl) rfl rfl ?_
  exact ah_97 hp hr ht ht6 hA (by rw [hz]; exact hQ) t 0 _ _ (by omega) rfl
def RX_97 (mi : Nat → Nat → Int32) (w : six) (rain : Int32) (r : Nat) : Bool := allB (tst w rain (mi (100 + r)) (mi (109 + r)) (mi (118 + r))) (clN (mi 98) r)
theorem rf_97 {p q : Nat} {rain : Int32} (hp : am_kd (am_shT, mrL b, mi, ml) p = 8) (hc : mi 97 4 = Int32.ofNat q) (hq : q ≤ 8) (hbk : ∀ r, r < q → ∃ t : Nat, t ≤ 6 ∧ mi 98 r = Int32.ofNat t ∧ ∀ k, k < t → mi (100 + r) k = Int32.ofNat (clN (mi (100 + r)) k) ∧ clN (mi (100 + r)) k ≤ 7) : ∀ k r, r + k = q → Q (some (.int (frI (RX_97 mi (sx (mi p)) rain) k r))) (am_shT, mrL b, mi, ml) → am_wp X (d + 3) 31 2 [.ref 97, .ref p, .int rain, .int (Int32.ofNat (r))] [] (am_shT, mrL b, mi, ml) Q := by
  intro k
  induction k with
  | zero =>
    intro r hr hQ
    refine wi_iload_n rfl rfl ?_
    refine wi_aload_n rfl rfl ?_
    refine wi_getIv (v := (Int32.ofNat (q))) rfl (kd_97 ..) hc ?_
    refine wi_icmp_ge rfl (fun _ => ?_) (fun h9 => absurd trivial (by exfalso; have h8 := (not_congr (le_n (a := q) (b := r) rfl rfl (by omega) (by omega))).mp h9; omega))
    refine wi_iconst (x := (-1)) rfl rfl ?_
    refine wi_iret rfl (Or.inl rfl) ?_
    exact hQ
  | succ k ih =>
    intro r hr hQ
    obtain ⟨t, ht6, ht1, hA⟩ := hbk r (by omega)
    have hcl : clN (mi 98) r = t := by unfold clN; exact cl_n ht1 (by omega)
    by_cases hR : RX_97 mi (sx (mi p)) rain r = true
    · have he : bI (allB (tst (sx (mi p)) rain (mi (100 + r)) (mi (109 + r)) (mi (118 + r))) t) = 1 := by
        have h8 := hR
        unfold RX_97 at h8
        rw [hcl] at h8
        rw [h8]
        rfl
      refine wi_iload_n rfl rfl ?_
      refine wi_aload_n rfl rfl ?_
      refine wi_getIv (v := (Int32.ofNat (q))) rfl (kd_97 ..) hc ?_
      refine wi_icmp_ge rfl (fun h9 => absurd trivial (by exfalso; have h8 := (le_n (a := q) (b := r) rfl rfl (by omega) (by omega)).mp h9; omega)) (fun _ => ?_)
      refine wi_aload_n rfl rfl ?_
      refine wi_iload_n rfl rfl ?_
      refine wi_aload_n rfl rfl ?_
      refine wi_iload_n rfl rfl ?_
      refine wi_callV3 rfl (by decide) (by decide) rfl (kd_97 ..) rfl rfl rfl (c_ah_97 hp (by omega) ht1 ht6 hA he ?_)
      refine wi_if_eq rfl (fun h9 => absurd h9 (by decide)) (fun _ => ?_)
      refine wi_iload_n rfl rfl ?_
      refine wi_iret rfl (Or.inl rfl) ?_
      rw [frI, if_pos hR] at hQ
      exact hQ
    · have he : bI (allB (tst (sx (mi p)) rain (mi (100 + r)) (mi (109 + r)) (mi (118 + r))) t) = 0 := by
        have h8 := Bool.eq_false_iff.mpr hR
        unfold RX_97 at h8
        rw [hcl] at h8
        rw [h8]
        rfl
      refine wi_iload_n rfl rfl ?_
      refine wi_aload_n rfl rfl ?_
      refine wi_getIv (v := (Int32.ofNat (q))) rfl (kd_97 ..) hc ?_
      refine wi_icmp_ge rfl (fun h9 => absurd trivial (by exfalso; have h8 := (le_n (a := q) (b := r) rfl rfl (by omega) (by omega)).mp h9; omega)) (fun _ => ?_)
      refine wi_aload_n rfl rfl ?_
      refine wi_iload_n rfl rfl ?_
      refine wi_aload_n rfl rfl ?_
      refine wi_iload_n rfl rfl ?_
      refine wi_callV3 rfl (by decide) (by decide) rfl (kd_97 ..) rfl rfl rfl (c_ah_97 hp (by omega) ht1 ht6 hA he ?_)
      refine wi_if_eq rfl (fun _ => ?_) (fun h9 => absurd (by decide) h9)
      refine wi_iinc (z := (Int32.ofNat (r + 1))) rfl rfl rfl (add_n (a := r) (b := 1) rfl rfl) rfl ?_
      refine wi_goto rfl ?_
      rw [frI, if_neg hR] at hQ
      exact ih (r + 1) (by omega) hQ
theorem c_rf_97 {p q : Nat} {rain : Int32} (hp : am_kd (am_shT, mrL b, mi, ml) p = 8) (hc : mi 97 4 = Int32.ofNat q) (hq : q ≤ 8) (hbk : ∀ r, r < q → ∃ t : Nat, t ≤ 6 ∧ mi 98 r = Int32.ofNat t ∧ ∀ k, k < t → mi (100 + r) k = Int32.ofNat (clN (mi (100 + r)) k) ∧ clN (mi (100 + r)) k ≤ 7) (hQ : Q (some (.int (frI (RX_97 mi (sx (mi p)) rain) q 0))) (am_shT, mrL b, mi, ml)) : am_wp X (d + 3) 31 0 [.ref 97, .ref p, .int rain, .retAddr 0] [] (am_shT, mrL b, mi, ml) Q := by
  refine wi_iconst (x := 0) rfl rfl ?_
  refine wi_istore_n rfl (Nat.le_of_ble_eq_true rfl) rfl rfl ?_
  exact rf_97 hp hc hq hbk q 0 (by omega) hQ
/-- the rule book in force, as the class has it -/
def bkC (mi : Nat → Nat → Int32) (b : Bool) (q : Nat) : Prop := match b with
  | true => mi 31 4 = Int32.ofNat q ∧ ∀ r, r < q → ∃ t : Nat, t ≤ 6 ∧ mi 32 r = Int32.ofNat t ∧ ∀ k, k < t → mi (34 + r) k = Int32.ofNat (clN (mi (34 + r)) k) ∧ clN (mi (34 + r)) k ≤ 7
  | false => mi 97 4 = Int32.ofNat q ∧ ∀ r, r < q → ∃ t : Nat, t ≤ 6 ∧ mi 98 r = Int32.ofNat t ∧ ∀ k, k < t → mi (100 + r) k = Int32.ofNat (clN (mi (100 + r)) k) ∧ clN (mi (100 + r)) k ≤ 7
def RXb (mi : Nat → Nat → Int32) (b : Bool) : six → Int32 → Nat → Bool := match b with
  | true => RX_31 mi
  | false => RX_97 mi
def RM (mi : Nat → Nat → Int32) (w : six) (rain : Int32) (r : Nat) : Bool := allB (tst w rain (fun k => mi 159 (6 * r + k)) (fun k => mi 160 (6 * r + k)) (fun k => mi 161 (6 * r + k))) (clN (mi 158) r)
theorem c_ruleFor {p q : Nat} {rain z : Int32} (hp : am_kd (am_shT, mrL b, mi, ml) p = 8) (hq : q ≤ 8) (hbk : bkC mi b q) (hz : frI (RXb mi b (sx (mi p)) rain) q 0 = z) (hQ : Q (some (.int z)) (am_shT, mrL b, mi, ml)) : am_wp X (d + 3) 31 0 [.ref (bkR b), .ref p, .int rain, .retAddr 0] [] (am_shT, mrL b, mi, ml) Q := by
  subst hz
  cases b
  · exact c_rf_97 hp hbk.1 hq hbk.2 hQ
  · exact c_rf_31 hp hbk.1 hq hbk.2 hQ
theorem c_ruleCount {q : Nat} (hbk : bkC mi b q) (hQ : Q (some (.int (Int32.ofNat q))) (am_shT, mrL b, mi, ml)) : am_wp X d 26 0 [.ref (bkR b)] [] (am_shT, mrL b, mi, ml) Q := by
  cases b
  · refine wi_aload_n rfl rfl ?_
    refine wi_getIv (v := Int32.ofNat q) rfl (kd_97 ..) hbk.1 ?_
    refine wi_iret rfl (Or.inl rfl) ?_
    exact hQ
  · refine wi_aload_n rfl rfl ?_
    refine wi_getIv (v := Int32.ofNat q) rfl (kd_31 ..) hbk.1 ?_
    refine wi_iret rfl (Or.inl rfl) ?_
    exact hQ
/-- the related books ask the same -/
theorem bk_eq {mi : Nat → Nat → Int32} {b : Bool} (h : rBk mi b) : ∃ q : Nat, q ≤ 8 ∧ mi 134 47 = Int32.ofNat q ∧ bkC mi b q ∧ (∀ w rain r, r < q → RXb mi b w rain r = RM mi w rain r) ∧ (∀ r, r < q → ∃ t : Nat, t ≤ 6 ∧ mi 158 r = Int32.ofNat t ∧ ∀ k, k < t → mi 159 (6 * r + k) = Int32.ofNat (clN (mi 159) (6 * r + k)) ∧ clN (mi 159) (6 * r + k) ≤ 7) := by
  cases b
  · obtain ⟨q, h1, h2, h3, h4⟩ := h
    have e8 : ∀ (z r : Nat), r < 8 → r8 (mi z) (mi (z + 1)) (mi (z + 2)) (mi (z + 3)) (mi (z + 4)) (mi (z + 5)) (mi (z + 6)) (mi (z + 7)) r = mi (z + r) := fun z r hr => r8_eq hr
    refine ⟨q, h3, h2, ⟨h1, fun r hr => ?_⟩, fun w rain r hr => ?_, fun r hr => ?_⟩
    · obtain ⟨t, h5, h6, h7, h8⟩ := h4 r hr
      refine ⟨t, h5, h6, fun k hk => ?_⟩
      have h9 := (h8 k hk).2.2.2
      rw [e8 100 r (by omega)] at h9
      exact clN_of (hi := 7) h9
    · obtain ⟨t, h5, h6, h7, h8⟩ := h4 r hr
      have c1 : clN (mi 98) r = t := by unfold clN; exact cl_n h6 (by omega)
      have c2 : clN (mi 158) r = t := by unfold clN; exact cl_n h7 (by omega)
      show RX_97 mi w rain r = RM mi w rain r
      unfold RX_97 RM
      rw [c1, c2]
      refine allB_congr (fun k hk => ?_)
      obtain ⟨k1, k2, k3, -⟩ := h8 k hk
      rw [e8 100 r (by omega)] at k1
      rw [e8 109 r (by omega)] at k2
      rw [e8 118 r (by omega)] at k3
      unfold tst clN
      rw [k1, k2, k3]
    · obtain ⟨t, h5, h6, h7, h8⟩ := h4 r hr
      refine ⟨t, h5, h7, fun k hk => ?_⟩
      have h9 := (h8 k hk).2.2.2
      rw [(h8 k hk).1] at h9
      exact clN_of (hi := 7) h9
  · obtain ⟨q, h1, h2, h3, h4⟩ := h
    have e8 : ∀ (z r : Nat), r < 8 → r8 (mi z) (mi (z + 1)) (mi (z + 2)) (mi (z + 3)) (mi (z + 4)) (mi (z + 5)) (mi (z + 6)) (mi (z + 7)) r = mi (z + r) := fun z r hr => r8_eq hr
    refine ⟨q, h3, h2, ⟨h1, fun r hr => ?_⟩, fun w rain r hr => ?_, fun r hr => ?_⟩
    · obtain ⟨t, h5, h6, h7, h8⟩ := h4 r hr
      refine ⟨t, h5, h6, fun k hk => ?_⟩
      have h9 := (h8 k hk).2.2.2
      rw [e8 34 r (by omega)] at h9
      exact clN_of (hi := 7) h9
    · obtain ⟨t, h5, h6, h7, h8⟩ := h4 r hr
      have c1 : clN (mi 32) r = t := by unfold clN; exact cl_n h6 (by omega)
      have c2 : clN (mi 158) r = t := by unfold clN; exact cl_n h7 (by omega)
      show RX_31 mi w rain r = RM mi w rain r
      unfold RX_31 RM
      rw [c1, c2]
      refine allB_congr (fun k hk => ?_)
      obtain ⟨k1, k2, k3, -⟩ := h8 k hk
      rw [e8 34 r (by omega)] at k1
      rw [e8 43 r (by omega)] at k2
      rw [e8 52 r (by omega)] at k3
      unfold tst clN
      rw [k1, k2, k3]
    · obtain ⟨t, h5, h6, h7, h8⟩ := h4 r hr
      refine ⟨t, h5, h7, fun k hk => ?_⟩
      have h9 := (h8 k hk).2.2.2
      rw [(h8 k hk).1] at h9
      exact clN_of (hi := 7) h9
theorem mr_in {w : six} {r t dy : Nat} {rain : Int32} (hr : r < 8) (hdy : dy ≤ 999) (hrain : mi 138 dy = rain) (ht : mi 158 r = Int32.ofNat t) (ht6 : t ≤ 6) (hA : ∀ k, k < t → mi 159 (6 * r + k) = Int32.ofNat (clN (mi 159) (6 * r + k)) ∧ clN (mi 159) (6 * r + k) ≤ 7) (hQ : ∀ v5 : Value, am_wp X (d + 1) 185 90 [.ref 134, .int (Int32.ofNat (dy)), .int (Int32.ofNat (r)), .int (bI (allB (tst w rain (fun k => mi 159 (6 * r + k)) (fun k => mi 160 (6 * r + k)) (fun k => mi 161 (6 * r + k))) t)), .int (Int32.ofNat (6 * r + t)), v5] [] (am_shT, mrL b, up6 mi 142 w, ml) Q) : ∀ k i (a9 : Bool) (v5 : Value), i + k = t → allB (tst w rain (fun k => mi 159 (6 * r + k)) (fun k => mi 160 (6 * r + k)) (fun k => mi 161 (6 * r + k))) i = a9 → am_wp X (d + 1) 185 12 [.ref 134, .int (Int32.ofNat (dy)), .int (Int32.ofNat (r)), .int (bI a9), .int (Int32.ofNat (6 * r + i)), v5] [] (am_shT, mrL b, up6 mi 142 w, ml) Q := by
  intro k
  induction k with
  | zero =>
    intro i a9 v5 hi ha
    refine wi_iload rfl rfl ?_
    refine wi_bipush (x := 6) rfl rfl ?_
    refine wi_iload_n rfl rfl ?_
    refine wn_imul (z := (Int32.ofNat (6 * r))) rfl (mul_n (a := 6) (b := r) (rfl : (6 : Int32) = Int32.ofNat 6) rfl) ?_
    refine wi_aload_n rfl rfl ?_
    refine wi_getR rfl (kd_134 ..) (rd_134_49 _) ?_
    refine wi_iload_n rfl rfl ?_
    refine wn_iaload (q := r) (v := (Int32.ofNat (t))) rfl (ln_158 ..) rfl (by omega) (by decide) (by decide) (by decide) ht ?_
    refine wn_iadd (z := (Int32.ofNat (6 * r + t))) rfl (add_n (a := 6 * r) (b := t) rfl rfl) ?_
    refine wi_icmp_ge rfl (fun _ => ?_) (fun h9 => absurd trivial (by exfalso; have h8 := (not_congr (le_n (a := 6 * r + t) (b := 6 * r + i) rfl rfl (by omega) (by omega))).mp h9; omega))
    obtain rfl : i = t := by omega
    rw [ha] at hQ
    exact hQ _
  | succ k ih =>
    intro i a9 v5 hi ha
    have hb := (hA i (by omega)).2
    have e7 : ¬ (clN (mi 159) (6 * r + i) < 6) ∧ (clN (mi 159) (6 * r + i) = 6) → bncF w.1 w.2.2.2.1 w.2.2.2.2.1 w.2.2.2.2.2 = valN w rain (clN (mi 159) (6 * r + i)) := fun h9 => by rw [h9.2]; rfl
    have e6 : ¬ (clN (mi 159) (6 * r + i) < 6) ∧ ¬ (clN (mi 159) (6 * r + i) = 6) → up6 mi 142 w 138 dy = valN w rain (clN (mi 159) (6 * r + i)) := fun h9 => by
      rw [show clN (mi 159) (6 * r + i) = 7 by omega]
      exact hrain
    cases a9
    · show am_wp X (d + 1) 185 12 [.ref 134, .int (Int32.ofNat (dy)), .int (Int32.ofNat (r)), .int (0 : Int32), .int (Int32.ofNat (6 * r + i)), v5] [] (am_shT, mrL b, up6 mi 142 w, ml) Q
      refine wi_iload rfl rfl ?_
      refine wi_bipush (x := 6) rfl rfl ?_
      refine wi_iload_n rfl rfl ?_
      refine wn_imul (z := (Int32.ofNat (6 * r))) rfl (mul_n (a := 6) (b := r) (rfl : (6 : Int32) = Int32.ofNat 6) rfl) ?_
      refine wi_aload_n rfl rfl ?_
      refine wi_getR rfl (kd_134 ..) (rd_134_49 _) ?_
      refine wi_iload_n rfl rfl ?_
      refine wn_iaload (q := r) (v := (Int32.ofNat (t))) rfl (ln_158 ..) rfl (by omega) (by decide) (by decide) (by decide) ht ?_
      refine wn_iadd (z := (Int32.ofNat (6 * r + t))) rfl (add_n (a := 6 * r) (b := t) rfl rfl) ?_
      refine wi_icmp_ge rfl (fun h9 => absurd trivial (by exfalso; have h8 := (le_n (a := 6 * r + t) (b := 6 * r + i) rfl rfl (by omega) (by omega)).mp h9; omega)) (fun _ => ?_)
      refine wi_aload_n rfl rfl ?_
      refine wi_getR rfl (kd_134 ..) (rd_134_50 _) ?_
      refine wi_iload rfl rfl ?_
      refine wn_iaload (q := 6 * r + i) (v := (Int32.ofNat (clN (mi 159) (6 * r + i)))) rfl (ln_159 ..) rfl (by omega) (by decide) (by decide) (by decide) (hA i (by omega)).1 ?_
      refine wi_bipush (x := 6) rfl rfl ?_
      refine wi_icmp_ge rfl (fun g1 => ?_) (fun g1 => ?_)
      · replace g1 := (le_n (a := 6) (b := clN (mi 159) (6 * r + i)) (rfl : (6 : Int32) = Int32.ofNat 6) rfl (by omega) (by omega)).mp g1
        refine wi_aload_n rfl rfl ?_
        refine wi_getR rfl (kd_134 ..) (rd_134_50 _) ?_
        refine wi_iload rfl rfl ?_
        refine wn_iaload (q := 6 * r + i) (v := (Int32.ofNat (clN (mi 159) (6 * r + i)))) rfl (ln_159 ..) rfl (by omega) (by decide) (by decide) (by decide) (hA i (by omega)).1 ?_
        refine wi_bipush (x := 6) rfl rfl ?_
        refine wi_icmp_ne rfl (fun g2 => ?_) (fun g2 => ?_)
        · replace g2 := (ne_n (a := clN (mi 159) (6 * r + i)) (b := 6) rfl (rfl : (6 : Int32) = Int32.ofNat 6) (by omega) (by omega)).mp g2
          refine wi_aload_n rfl rfl ?_
          refine wi_getR rfl (kd_134 ..) (rd_134_9 _) ?_
          refine wi_iload_n rfl rfl ?_
          refine wn_iaload (q := dy) (v := (valN w rain (clN (mi 159) (6 * r + i)))) rfl (ln_138 ..) rfl (by omega) (by decide) (by decide) (by decide) (e6 (by omega)) ?_
          refine wi_istore rfl (Nat.le_of_ble_eq_true rfl) rfl rfl ?_
          refine wi_iload_n rfl rfl ?_
          refine wi_if_eq rfl (fun _ => ?_) (fun h9 => absurd (by decide) h9)
          refine wi_iconst (x := 0) rfl rfl ?_
          refine wi_istore_n rfl (Nat.le_of_ble_eq_true rfl) rfl rfl ?_
          refine wi_iinc (z := (Int32.ofNat (6 * r + i + 1))) rfl rfl rfl (add_n (a := 6 * r + i) (b := 1) rfl rfl) rfl ?_
          refine wi_goto rfl ?_
          refine ih (i + 1) false _ (by omega) ?_
          show (allB (tst w rain (fun k => mi 159 (6 * r + k)) (fun k => mi 160 (6 * r + k)) (fun k => mi 161 (6 * r + k))) i && (tst w rain (fun k => mi 159 (6 * r + k)) (fun k => mi 160 (6 * r + k)) (fun k => mi 161 (6 * r + k))) i) = false
          rw [ha]
          rfl
        · replace g2 := (not_congr (ne_n (a := clN (mi 159) (6 * r + i)) (b := 6) rfl (rfl : (6 : Int32) = Int32.ofNat 6) (by omega) (by omega))).mp g2
          refine wi_aload_n rfl rfl ?_
          refine wi_callV0 rfl (by decide) (by decide) rfl (kd_134 ..) rfl rfl rfl (c_mbounceZ (e7 (by omega)) ?_)
          refine wi_goto rfl ?_
          refine wi_istore rfl (Nat.le_of_ble_eq_true rfl) rfl rfl ?_
          refine wi_iload_n rfl rfl ?_
          refine wi_if_eq rfl (fun _ => ?_) (fun h9 => absurd (by decide) h9)
          refine wi_iconst (x := 0) rfl rfl ?_
          refine wi_istore_n rfl (Nat.le_of_ble_eq_true rfl) rfl rfl ?_
          refine wi_iinc (z := (Int32.ofNat (6 * r + i + 1))) rfl rfl rfl (add_n (a := 6 * r + i) (b := 1) rfl rfl) rfl ?_
          refine wi_goto rfl ?_
          refine ih (i + 1) false _ (by omega) ?_
          show (allB (tst w rain (fun k => mi 159 (6 * r + k)) (fun k => mi 160 (6 * r + k)) (fun k => mi 161 (6 * r + k))) i && (tst w rain (fun k => mi 159 (6 * r + k)) (fun k => mi 160 (6 * r + k)) (fun k => mi 161 (6 * r + k))) i) = false
          rw [ha]
          rfl
      · replace g1 := (not_congr (le_n (a := 6) (b := clN (mi 159) (6 * r + i)) (rfl : (6 : Int32) = Int32.ofNat 6) rfl (by omega) (by omega))).mp g1
        refine wi_aload_n rfl rfl ?_
        refine wi_getR rfl (kd_134 ..) (rd_134_13 _) ?_
        refine wi_aload_n rfl rfl ?_
        refine wi_getR rfl (kd_134 ..) (rd_134_50 _) ?_
        refine wi_iload rfl rfl ?_
        refine wn_iaload (q := 6 * r + i) (v := (Int32.ofNat (clN (mi 159) (6 * r + i)))) rfl (ln_159 ..) rfl (by omega) (by decide) (by decide) (by decide) (hA i (by omega)).1 ?_
        refine wn_iaload (q := clN (mi 159) (6 * r + i)) (v := (valN w rain (clN (mi 159) (6 * r + i)))) rfl (ln_142 ..) rfl (by omega) (by decide) (by decide) (by decide) (now_N (by omega)) ?_
        refine wi_goto rfl ?_
        refine wi_istore rfl (Nat.le_of_ble_eq_true rfl) rfl rfl ?_
        refine wi_iload_n rfl rfl ?_
        refine wi_if_eq rfl (fun _ => ?_) (fun h9 => absurd (by decide) h9)
        refine wi_iconst (x := 0) rfl rfl ?_
        refine wi_istore_n rfl (Nat.le_of_ble_eq_true rfl) rfl rfl ?_
        refine wi_iinc (z := (Int32.ofNat (6 * r + i + 1))) rfl rfl rfl (add_n (a := 6 * r + i) (b := 1) rfl rfl) rfl ?_
        refine wi_goto rfl ?_
        refine ih (i + 1) false _ (by omega) ?_
        show (allB (tst w rain (fun k => mi 159 (6 * r + k)) (fun k => mi 160 (6 * r + k)) (fun k => mi 161 (6 * r + k))) i && (tst w rain (fun k => mi 159 (6 * r + k)) (fun k => mi 160 (6 * r + k)) (fun k => mi 161 (6 * r + k))) i) = false
        rw [ha]
        rfl
    · show am_wp X (d + 1) 185 12 [.ref 134, .int (Int32.ofNat (dy)), .int (Int32.ofNat (r)), .int (1 : Int32), .int (Int32.ofNat (6 * r + i)), v5] [] (am_shT, mrL b, up6 mi 142 w, ml) Q
      refine wi_iload rfl rfl ?_
      refine wi_bipush (x := 6) rfl rfl ?_
      refine wi_iload_n rfl rfl ?_
      refine wn_imul (z := (Int32.ofNat (6 * r))) rfl (mul_n (a := 6) (b := r) (rfl : (6 : Int32) = Int32.ofNat 6) rfl) ?_
      refine wi_aload_n rfl rfl ?_
      refine wi_getR rfl (kd_134 ..) (rd_134_49 _) ?_
      refine wi_iload_n rfl rfl ?_
      refine wn_iaload (q := r) (v := (Int32.ofNat (t))) rfl (ln_158 ..) rfl (by omega) (by decide) (by decide) (by decide) ht ?_
      refine wn_iadd (z := (Int32.ofNat (6 * r + t))) rfl (add_n (a := 6 * r) (b := t) rfl rfl) ?_
      refine wi_icmp_ge rfl (fun h9 => absurd trivial (by exfalso; have h8 := (le_n (a := 6 * r + t) (b := 6 * r + i) rfl rfl (by omega) (by omega)).mp h9; omega)) (fun _ => ?_)
      refine wi_aload_n rfl rfl ?_
      refine wi_getR rfl (kd_134 ..) (rd_134_50 _) ?_
      refine wi_iload rfl rfl ?_
      refine wn_iaload (q := 6 * r + i) (v := (Int32.ofNat (clN (mi 159) (6 * r + i)))) rfl (ln_159 ..) rfl (by omega) (by decide) (by decide) (by decide) (hA i (by omega)).1 ?_
      refine wi_bipush (x := 6) rfl rfl ?_
      refine wi_icmp_ge rfl (fun g1 => ?_) (fun g1 => ?_)
      · replace g1 := (le_n (a := 6) (b := clN (mi 159) (6 * r + i)) (rfl : (6 : Int32) = Int32.ofNat 6) rfl (by omega) (by omega)).mp g1
        refine wi_aload_n rfl rfl ?_
        refine wi_getR rfl (kd_134 ..) (rd_134_50 _) ?_
        refine wi_iload rfl rfl ?_
        refine wn_iaload (q := 6 * r + i) (v := (Int32.ofNat (clN (mi 159) (6 * r + i)))) rfl (ln_159 ..) rfl (by omega) (by decide) (by decide) (by decide) (hA i (by omega)).1 ?_
        refine wi_bipush (x := 6) rfl rfl ?_
        refine wi_icmp_ne rfl (fun g2 => ?_) (fun g2 => ?_)
        · replace g2 := (ne_n (a := clN (mi 159) (6 * r + i)) (b := 6) rfl (rfl : (6 : Int32) = Int32.ofNat 6) (by omega) (by omega)).mp g2
          refine wi_aload_n rfl rfl ?_
          refine wi_getR rfl (kd_134 ..) (rd_134_9 _) ?_
          refine wi_iload_n rfl rfl ?_
          refine wn_iaload (q := dy) (v := (valN w rain (clN (mi 159) (6 * r + i)))) rfl (ln_138 ..) rfl (by omega) (by decide) (by decide) (by decide) (e6 (by omega)) ?_
          refine wi_istore rfl (Nat.le_of_ble_eq_true rfl) rfl rfl ?_
          refine wi_iload_n rfl rfl ?_
          refine wi_if_eq rfl (fun h9 => absurd h9 (by decide)) (fun _ => ?_)
          refine wi_aload_n rfl rfl ?_
          refine wi_getR rfl (kd_134 ..) (rd_134_51 _) ?_
          refine wi_iload rfl rfl ?_
          refine wn_iaload (q := 6 * r + i) (v := (mi 160 (6 * r + i))) rfl (ln_160 ..) rfl (by omega) (by decide) (by decide) (by decide) rfl ?_
          refine wi_bipush (x := 60) rfl rfl ?_
          refine wi_icmp_ne rfl (fun g3 => ?_) (fun g3 => ?_)
          · skip
            refine wi_aload_n rfl rfl ?_
            refine wi_getR rfl (kd_134 ..) (rd_134_51 _) ?_
            refine wi_iload rfl rfl ?_
            refine wn_iaload (q := 6 * r + i) (v := (mi 160 (6 * r + i))) rfl (ln_160 ..) rfl (by omega) (by decide) (by decide) (by decide) rfl ?_
            refine wi_bipush (x := 62) rfl rfl ?_
            refine wi_icmp_ne rfl (fun g4 => ?_) (fun g4 => ?_)
            · skip
              refine wi_iload rfl rfl ?_
              refine wi_aload_n rfl rfl ?_
              refine wi_getR rfl (kd_134 ..) (rd_134_52 _) ?_
              refine wi_iload rfl rfl ?_
              refine wn_iaload (q := 6 * r + i) (v := (mi 161 (6 * r + i))) rfl (ln_161 ..) rfl (by omega) (by decide) (by decide) (by decide) rfl ?_
              refine wi_icmp_ne rfl (fun g5 => ?_) (fun g5 => ?_)
              · skip
                refine wi_iconst (x := 0) rfl rfl ?_
                refine wi_istore_n rfl (Nat.le_of_ble_eq_true rfl) rfl rfl ?_
                refine wi_iinc (z := (Int32.ofNat (6 * r + i + 1))) rfl rfl rfl (add_n (a := 6 * r + i) (b := 1) rfl rfl) rfl ?_
                refine wi_goto rfl ?_
                refine ih (i + 1) false _ (by omega) ?_
                show (allB (tst w rain (fun k => mi 159 (6 * r + k)) (fun k => mi 160 (6 * r + k)) (fun k => mi 161 (6 * r + k))) i && (tst w rain (fun k => mi 159 (6 * r + k)) (fun k => mi 160 (6 * r + k)) (fun k => mi 161 (6 * r + k))) i) = false
                rw [ha]
                show hold (valN w rain (clN (mi 159) (6 * r + i))) (mi 160 (6 * r + i)) (mi 161 (6 * r + i)) = false
                simp [hold, g3, g4, g5]
              · replace g5 := Classical.not_not.mp g5
                refine wi_iconst (x := 1) rfl rfl ?_
                refine wi_goto rfl ?_
                refine wi_istore_n rfl (Nat.le_of_ble_eq_true rfl) rfl rfl ?_
                refine wi_iinc (z := (Int32.ofNat (6 * r + i + 1))) rfl rfl rfl (add_n (a := 6 * r + i) (b := 1) rfl rfl) rfl ?_
                refine wi_goto rfl ?_
                refine ih (i + 1) true _ (by omega) ?_
                show (allB (tst w rain (fun k => mi 159 (6 * r + k)) (fun k => mi 160 (6 * r + k)) (fun k => mi 161 (6 * r + k))) i && (tst w rain (fun k => mi 159 (6 * r + k)) (fun k => mi 160 (6 * r + k)) (fun k => mi 161 (6 * r + k))) i) = true
                rw [ha]
                show hold (valN w rain (clN (mi 159) (6 * r + i))) (mi 160 (6 * r + i)) (mi 161 (6 * r + i)) = true
                simp [hold, g3, g4, g5]
            · replace g4 := Classical.not_not.mp g4
              refine wi_iload rfl rfl ?_
              refine wi_aload_n rfl rfl ?_
              refine wi_getR rfl (kd_134 ..) (rd_134_52 _) ?_
              refine wi_iload rfl rfl ?_
              refine wn_iaload (q := 6 * r + i) (v := (mi 161 (6 * r + i))) rfl (ln_161 ..) rfl (by omega) (by decide) (by decide) (by decide) rfl ?_
              refine wi_icmp_le rfl (fun g6 => ?_) (fun g6 => ?_)
              · skip
                refine wi_iconst (x := 0) rfl rfl ?_
                refine wi_istore_n rfl (Nat.le_of_ble_eq_true rfl) rfl rfl ?_
                refine wi_iinc (z := (Int32.ofNat (6 * r + i + 1))) rfl rfl rfl (add_n (a := 6 * r + i) (b := 1) rfl rfl) rfl ?_
                refine wi_goto rfl ?_
                refine ih (i + 1) false _ (by omega) ?_
                show (allB (tst w rain (fun k => mi 159 (6 * r + k)) (fun k => mi 160 (6 * r + k)) (fun k => mi 161 (6 * r + k))) i && (tst w rain (fun k => mi 159 (6 * r + k)) (fun k => mi 160 (6 * r + k)) (fun k => mi 161 (6 * r + k))) i) = false
                rw [ha]
                show hold (valN w rain (clN (mi 159) (6 * r + i))) (mi 160 (6 * r + i)) (mi 161 (6 * r + i)) = false
                simp [hold, g3, g4, g6]
              · skip
                refine wi_goto rfl ?_
                refine wi_iconst (x := 1) rfl rfl ?_
                refine wi_goto rfl ?_
                refine wi_istore_n rfl (Nat.le_of_ble_eq_true rfl) rfl rfl ?_
                refine wi_iinc (z := (Int32.ofNat (6 * r + i + 1))) rfl rfl rfl (add_n (a := 6 * r + i) (b := 1) rfl rfl) rfl ?_
                refine wi_goto rfl ?_
                refine ih (i + 1) true _ (by omega) ?_
                show (allB (tst w rain (fun k => mi 159 (6 * r + k)) (fun k => mi 160 (6 * r + k)) (fun k => mi 161 (6 * r + k))) i && (tst w rain (fun k => mi 159 (6 * r + k)) (fun k => mi 160 (6 * r + k)) (fun k => mi 161 (6 * r + k))) i) = true
                rw [ha]
                show hold (valN w rain (clN (mi 159) (6 * r + i))) (mi 160 (6 * r + i)) (mi 161 (6 * r + i)) = true
                simp [hold, g3, g4, g6]
          · replace g3 := Classical.not_not.mp g3
            refine wi_iload rfl rfl ?_
            refine wi_aload_n rfl rfl ?_
            refine wi_getR rfl (kd_134 ..) (rd_134_52 _) ?_
            refine wi_iload rfl rfl ?_
            refine wn_iaload (q := 6 * r + i) (v := (mi 161 (6 * r + i))) rfl (ln_161 ..) rfl (by omega) (by decide) (by decide) (by decide) rfl ?_
            refine wi_icmp_ge rfl (fun g7 => ?_) (fun g7 => ?_)
            · skip
              refine wi_iconst (x := 0) rfl rfl ?_
              refine wi_istore_n rfl (Nat.le_of_ble_eq_true rfl) rfl rfl ?_
              refine wi_iinc (z := (Int32.ofNat (6 * r + i + 1))) rfl rfl rfl (add_n (a := 6 * r + i) (b := 1) rfl rfl) rfl ?_
              refine wi_goto rfl ?_
              refine ih (i + 1) false _ (by omega) ?_
              show (allB (tst w rain (fun k => mi 159 (6 * r + k)) (fun k => mi 160 (6 * r + k)) (fun k => mi 161 (6 * r + k))) i && (tst w rain (fun k => mi 159 (6 * r + k)) (fun k => mi 160 (6 * r + k)) (fun k => mi 161 (6 * r + k))) i) = false
              rw [ha]
              show hold (valN w rain (clN (mi 159) (6 * r + i))) (mi 160 (6 * r + i)) (mi 161 (6 * r + i)) = false
              simp [hold, g3, g7]
            · skip
              refine wi_goto rfl ?_
              refine wi_iconst (x := 1) rfl rfl ?_
              refine wi_goto rfl ?_
              refine wi_istore_n rfl (Nat.le_of_ble_eq_true rfl) rfl rfl ?_
              refine wi_iinc (z := (Int32.ofNat (6 * r + i + 1))) rfl rfl rfl (add_n (a := 6 * r + i) (b := 1) rfl rfl) rfl ?_
              refine wi_goto rfl ?_
              refine ih (i + 1) true _ (by omega) ?_
              show (allB (tst w rain (fun k => mi 159 (6 * r + k)) (fun k => mi 160 (6 * r + k)) (fun k => mi 161 (6 * r + k))) i && (tst w rain (fun k => mi 159 (6 * r + k)) (fun k => mi 160 (6 * r + k)) (fun k => mi 161 (6 * r + k))) i) = true
              rw [ha]
              show hold (valN w rain (clN (mi 159) (6 * r + i))) (mi 160 (6 * r + i)) (mi 161 (6 * r + i)) = true
              simp [hold, g3, g7]
        · replace g2 := (not_congr (ne_n (a := clN (mi 159) (6 * r + i)) (b := 6) rfl (rfl : (6 : Int32) = Int32.ofNat 6) (by omega) (by omega))).mp g2
          refine wi_aload_n rfl rfl ?_
          refine wi_callV0 rfl (by decide) (by decide) rfl (kd_134 ..) rfl rfl rfl (c_mbounceZ (e7 (by omega)) ?_)
          refine wi_goto rfl ?_
          refine wi_istore rfl (Nat.le_of_ble_eq_true rfl) rfl rfl ?_
          refine wi_iload_n rfl rfl ?_
          refine wi_if_eq rfl (fun h9 => absurd h9 (by decide)) (fun _ => ?_)
          refine wi_aload_n rfl rfl ?_
          refine wi_getR rfl (kd_134 ..) (rd_134_51 _) ?_
          refine wi_iload rfl rfl ?_
          refine wn_iaload (q := 6 * r + i) (v := (mi 160 (6 * r + i))) rfl (ln_160 ..) rfl (by omega) (by decide) (by decide) (by decide) rfl ?_
          refine wi_bipush (x := 60) rfl rfl ?_
          refine wi_icmp_ne rfl (fun g8 => ?_) (fun g8 => ?_)
          · skip
            refine wi_aload_n rfl rfl ?_
            refine wi_getR rfl (kd_134 ..) (rd_134_51 _) ?_
            refine wi_iload rfl rfl ?_
            refine wn_iaload (q := 6 * r + i) (v := (mi 160 (6 * r + i))) rfl (ln_160 ..) rfl (by omega) (by decide) (by decide) (by decide) rfl ?_
            refine wi_bipush (x := 62) rfl rfl ?_
            refine wi_icmp_ne rfl (fun g9 => ?_) (fun g9 => ?_)
            · skip
              refine wi_iload rfl rfl ?_
              refine wi_aload_n rfl rfl ?_
              refine wi_getR rfl (kd_134 ..) (rd_134_52 _) ?_
              refine wi_iload rfl rfl ?_
              refine wn_iaload (q := 6 * r + i) (v := (mi 161 (6 * r + i))) rfl (ln_161 ..) rfl (by omega) (by decide) (by decide) (by decide) rfl ?_
              refine wi_icmp_ne rfl (fun g10 => ?_) (fun g10 => ?_)
              · skip
                refine wi_iconst (x := 0) rfl rfl ?_
                refine wi_istore_n rfl (Nat.le_of_ble_eq_true rfl) rfl rfl ?_
                refine wi_iinc (z := (Int32.ofNat (6 * r + i + 1))) rfl rfl rfl (add_n (a := 6 * r + i) (b := 1) rfl rfl) rfl ?_
                refine wi_goto rfl ?_
                refine ih (i + 1) false _ (by omega) ?_
                show (allB (tst w rain (fun k => mi 159 (6 * r + k)) (fun k => mi 160 (6 * r + k)) (fun k => mi 161 (6 * r + k))) i && (tst w rain (fun k => mi 159 (6 * r + k)) (fun k => mi 160 (6 * r + k)) (fun k => mi 161 (6 * r + k))) i) = false
                rw [ha]
                show hold (valN w rain (clN (mi 159) (6 * r + i))) (mi 160 (6 * r + i)) (mi 161 (6 * r + i)) = false
                simp [hold, g8, g9, g10]
              · replace g10 := Classical.not_not.mp g10
                refine wi_iconst (x := 1) rfl rfl ?_
                refine wi_goto rfl ?_
                refine wi_istore_n rfl (Nat.le_of_ble_eq_true rfl) rfl rfl ?_
                refine wi_iinc (z := (Int32.ofNat (6 * r + i + 1))) rfl rfl rfl (add_n (a := 6 * r + i) (b := 1) rfl rfl) rfl ?_
                refine wi_goto rfl ?_
                refine ih (i + 1) true _ (by omega) ?_
                show (allB (tst w rain (fun k => mi 159 (6 * r + k)) (fun k => mi 160 (6 * r + k)) (fun k => mi 161 (6 * r + k))) i && (tst w rain (fun k => mi 159 (6 * r + k)) (fun k => mi 160 (6 * r + k)) (fun k => mi 161 (6 * r + k))) i) = true
                rw [ha]
                show hold (valN w rain (clN (mi 159) (6 * r + i))) (mi 160 (6 * r + i)) (mi 161 (6 * r + i)) = true
                simp [hold, g8, g9, g10]
            · replace g9 := Classical.not_not.mp g9
              refine wi_iload rfl rfl ?_
              refine wi_aload_n rfl rfl ?_
              refine wi_getR rfl (kd_134 ..) (rd_134_52 _) ?_
              refine wi_iload rfl rfl ?_
              refine wn_iaload (q := 6 * r + i) (v := (mi 161 (6 * r + i))) rfl (ln_161 ..) rfl (by omega) (by decide) (by decide) (by decide) rfl ?_
              refine wi_icmp_le rfl (fun g11 => ?_) (fun g11 => ?_)
              · skip
                refine wi_iconst (x := 0) rfl rfl ?_
                refine wi_istore_n rfl (Nat.le_of_ble_eq_true rfl) rfl rfl ?_
                refine wi_iinc (z := (Int32.ofNat (6 * r + i + 1))) rfl rfl rfl (add_n (a := 6 * r + i) (b := 1) rfl rfl) rfl ?_
                refine wi_goto rfl ?_
                refine ih (i + 1) false _ (by omega) ?_
                show (allB (tst w rain (fun k => mi 159 (6 * r + k)) (fun k => mi 160 (6 * r + k)) (fun k => mi 161 (6 * r + k))) i && (tst w rain (fun k => mi 159 (6 * r + k)) (fun k => mi 160 (6 * r + k)) (fun k => mi 161 (6 * r + k))) i) = false
                rw [ha]
                show hold (valN w rain (clN (mi 159) (6 * r + i))) (mi 160 (6 * r + i)) (mi 161 (6 * r + i)) = false
                simp [hold, g8, g9, g11]
              · skip
                refine wi_goto rfl ?_
                refine wi_iconst (x := 1) rfl rfl ?_
                refine wi_goto rfl ?_
                refine wi_istore_n rfl (Nat.le_of_ble_eq_true rfl) rfl rfl ?_
                refine wi_iinc (z := (Int32.ofNat (6 * r + i + 1))) rfl rfl rfl (add_n (a := 6 * r + i) (b := 1) rfl rfl) rfl ?_
                refine wi_goto rfl ?_
                refine ih (i + 1) true _ (by omega) ?_
                show (allB (tst w rain (fun k => mi 159 (6 * r + k)) (fun k => mi 160 (6 * r + k)) (fun k => mi 161 (6 * r + k))) i && (tst w rain (fun k => mi 159 (6 * r + k)) (fun k => mi 160 (6 * r + k)) (fun k => mi 161 (6 * r + k))) i) = true
                rw [ha]
                show hold (valN w rain (clN (mi 159) (6 * r + i))) (mi 160 (6 * r + i)) (mi 161 (6 * r + i)) = true
                simp [hold, g8, g9, g11]
          · replace g8 := Classical.not_not.mp g8
            refine wi_iload rfl rfl ?_
            refine wi_aload_n rfl rfl ?_
            refine wi_getR rfl (kd_134 ..) (rd_134_52 _) ?_
            refine wi_iload rfl rfl ?_
            refine wn_iaload (q := 6 * r + i) (v := (mi 161 (6 * r + i))) rfl (ln_161 ..) rfl (by omega) (by decide) (by decide) (by decide) rfl ?_
            refine wi_icmp_ge rfl (fun g12 => ?_) (fun g12 => ?_)
            · skip
              refine wi_iconst (x := 0) rfl rfl ?_
              refine wi_istore_n rfl (Nat.le_of_ble_eq_true rfl) rfl rfl ?_
              refine wi_iinc (z := (Int32.ofNat (6 * r + i + 1))) rfl rfl rfl (add_n (a := 6 * r + i) (b := 1) rfl rfl) rfl ?_
              refine wi_goto rfl ?_
              refine ih (i + 1) false _ (by omega) ?_
              show (allB (tst w rain (fun k => mi 159 (6 * r + k)) (fun k => mi 160 (6 * r + k)) (fun k => mi 161 (6 * r + k))) i && (tst w rain (fun k => mi 159 (6 * r + k)) (fun k => mi 160 (6 * r + k)) (fun k => mi 161 (6 * r + k))) i) = false
              rw [ha]
              show hold (valN w rain (clN (mi 159) (6 * r + i))) (mi 160 (6 * r + i)) (mi 161 (6 * r + i)) = false
              simp [hold, g8, g12]
            · skip
              refine wi_goto rfl ?_
              refine wi_iconst (x := 1) rfl rfl ?_
              refine wi_goto rfl ?_
              refine wi_istore_n rfl (Nat.le_of_ble_eq_true rfl) rfl rfl ?_
              refine wi_iinc (z := (Int32.ofNat (6 * r + i + 1))) rfl rfl rfl (add_n (a := 6 * r + i) (b := 1) rfl rfl) rfl ?_
              refine wi_goto rfl ?_
              refine ih (i + 1) true _ (by omega) ?_
              show (allB (tst w rain (fun k => mi 159 (6 * r + k)) (fun k => mi 160 (6 * r + k)) (fun k => mi 161 (6 * r + k))) i && (tst w rain (fun k => mi 159 (6 * r + k)) (fun k => mi 160 (6 * r + k)) (fun k => mi 161 (6 * r + k))) i) = true
              rw [ha]
              show hold (valN w rain (clN (mi 159) (6 * r + i))) (mi 160 (6 * r + i)) (mi 161 (6 * r + i)) = true
              simp [hold, g8, g12]
      · replace g1 := (not_congr (le_n (a := 6) (b := clN (mi 159) (6 * r + i)) (rfl : (6 : Int32) = Int32.ofNat 6) rfl (by omega) (by omega))).mp g1
        refine wi_aload_n rfl rfl ?_
        refine wi_getR rfl (kd_134 ..) (rd_134_13 _) ?_
        refine wi_aload_n rfl rfl ?_
        refine wi_getR rfl (kd_134 ..) (rd_134_50 _) ?_
        refine wi_iload rfl rfl ?_
        refine wn_iaload (q := 6 * r + i) (v := (Int32.ofNat (clN (mi 159) (6 * r + i)))) rfl (ln_159 ..) rfl (by omega) (by decide) (by decide) (by decide) (hA i (by omega)).1 ?_
        refine wn_iaload (q := clN (mi 159) (6 * r + i)) (v := (valN w rain (clN (mi 159) (6 * r + i)))) rfl (ln_142 ..) rfl (by omega) (by decide) (by decide) (by decide) (now_N (by omega)) ?_
        refine wi_goto rfl ?_
        refine wi_istore rfl (Nat.le_of_ble_eq_true rfl) rfl rfl ?_
        refine wi_iload_n rfl rfl ?_
        refine wi_if_eq rfl (fun h9 => absurd h9 (by decide)) (fun _ => ?_)
        refine wi_aload_n rfl rfl ?_
        refine wi_getR rfl (kd_134 ..) (rd_134_51 _) ?_
        refine wi_iload rfl rfl ?_
        refine wn_iaload (q := 6 * r + i) (v := (mi 160 (6 * r + i))) rfl (ln_160 ..) rfl (by omega) (by decide) (by decide) (by decide) rfl ?_
        refine wi_bipush (x := 60) rfl rfl ?_
        refine wi_icmp_ne rfl (fun g13 => ?_) (fun g13 => ?_)
        · skip
          refine wi_aload_n rfl rfl ?_
          refine wi_getR rfl (kd_134 ..) (rd_134_51 _) ?_
          refine wi_iload rfl rfl ?_
          refine wn_iaload (q := 6 * r + i) (v := (mi 160 (6 * r + i))) rfl (ln_160 ..) rfl (by omega) (by decide) (by decide) (by decide) rfl ?_
          refine wi_bipush (x := 62) rfl rfl ?_
          refine wi_icmp_ne rfl (fun g14 => ?_) (fun g14 => ?_)
          · skip
            refine wi_iload rfl rfl ?_
            refine wi_aload_n rfl rfl ?_
            refine wi_getR rfl (kd_134 ..) (rd_134_52 _) ?_
            refine wi_iload rfl rfl ?_
            refine wn_iaload (q := 6 * r + i) (v := (mi 161 (6 * r + i))) rfl (ln_161 ..) rfl (by omega) (by decide) (by decide) (by decide) rfl ?_
            refine wi_icmp_ne rfl (fun g15 => ?_) (fun g15 => ?_)
            · skip
              refine wi_iconst (x := 0) rfl rfl ?_
              refine wi_istore_n rfl (Nat.le_of_ble_eq_true rfl) rfl rfl ?_
              refine wi_iinc (z := (Int32.ofNat (6 * r + i + 1))) rfl rfl rfl (add_n (a := 6 * r + i) (b := 1) rfl rfl) rfl ?_
              refine wi_goto rfl ?_
              refine ih (i + 1) false _ (by omega) ?_
              show (allB (tst w rain (fun k => mi 159 (6 * r + k)) (fun k => mi 160 (6 * r + k)) (fun k => mi 161 (6 * r + k))) i && (tst w rain (fun k => mi 159 (6 * r + k)) (fun k => mi 160 (6 * r + k)) (fun k => mi 161 (6 * r + k))) i) = false
              rw [ha]
              show hold (valN w rain (clN (mi 159) (6 * r + i))) (mi 160 (6 * r + i)) (mi 161 (6 * r + i)) = false
              simp [hold, g13, g14, g15]
            · replace g15 := Classical.not_not.mp g15
              refine wi_iconst (x := 1) rfl rfl ?_
              refine wi_goto rfl ?_
              refine wi_istore_n rfl (Nat.le_of_ble_eq_true rfl) rfl rfl ?_
              refine wi_iinc (z := (Int32.ofNat (6 * r + i + 1))) rfl rfl rfl (add_n (a := 6 * r + i) (b := 1) rfl rfl) rfl ?_
              refine wi_goto rfl ?_
              refine ih (i + 1) true _ (by omega) ?_
              show (allB (tst w rain (fun k => mi 159 (6 * r + k)) (fun k => mi 160 (6 * r + k)) (fun k => mi 161 (6 * r + k))) i && (tst w rain (fun k => mi 159 (6 * r + k)) (fun k => mi 160 (6 * r + k)) (fun k => mi 161 (6 * r + k))) i) = true
              rw [ha]
              show hold (valN w rain (clN (mi 159) (6 * r + i))) (mi 160 (6 * r + i)) (mi 161 (6 * r + i)) = true
              simp [hold, g13, g14, g15]
          · replace g14 := Classical.not_not.mp g14
            refine wi_iload rfl rfl ?_
            refine wi_aload_n rfl rfl ?_
            refine wi_getR rfl (kd_134 ..) (rd_134_52 _) ?_
            refine wi_iload rfl rfl ?_
            refine wn_iaload (q := 6 * r + i) (v := (mi 161 (6 * r + i))) rfl (ln_161 ..) rfl (by omega) (by decide) (by decide) (by decide) rfl ?_
            refine wi_icmp_le rfl (fun g16 => ?_) (fun g16 => ?_)
            · skip
              refine wi_iconst (x := 0) rfl rfl ?_
              refine wi_istore_n rfl (Nat.le_of_ble_eq_true rfl) rfl rfl ?_
              refine wi_iinc (z := (Int32.ofNat (6 * r + i + 1))) rfl rfl rfl (add_n (a := 6 * r + i) (b := 1) rfl rfl) rfl ?_
              refine wi_goto rfl ?_
              refine ih (i + 1) false _ (by omega) ?_
              show (allB (tst w rain (fun k => mi 159 (6 * r + k)) (fun k => mi 160 (6 * r + k)) (fun k => mi 161 (6 * r + k))) i && (tst w rain (fun k => mi 159 (6 * r + k)) (fun k => mi 160 (6 * r + k)) (fun k => mi 161 (6 * r + k))) i) = false
              rw [ha]
              show hold (valN w rain (clN (mi 159) (6 * r + i))) (mi 160 (6 * r + i)) (mi 161 (6 * r + i)) = false
              simp [hold, g13, g14, g16]
            · skip
              refine wi_goto rfl ?_
              refine wi_iconst (x := 1) rfl rfl ?_
              refine wi_goto rfl ?_
              refine wi_istore_n rfl (Nat.le_of_ble_eq_true rfl) rfl rfl ?_
              refine wi_iinc (z := (Int32.ofNat (6 * r + i + 1))) rfl rfl rfl (add_n (a := 6 * r + i) (b := 1) rfl rfl) rfl ?_
              refine wi_goto rfl ?_
              refine ih (i + 1) true _ (by omega) ?_
              show (allB (tst w rain (fun k => mi 159 (6 * r + k)) (fun k => mi 160 (6 * r + k)) (fun k => mi 161 (6 * r + k))) i && (tst w rain (fun k => mi 159 (6 * r + k)) (fun k => mi 160 (6 * r + k)) (fun k => mi 161 (6 * r + k))) i) = true
              rw [ha]
              show hold (valN w rain (clN (mi 159) (6 * r + i))) (mi 160 (6 * r + i)) (mi 161 (6 * r + i)) = true
              simp [hold, g13, g14, g16]
        · replace g13 := Classical.not_not.mp g13
          refine wi_iload rfl rfl ?_
          refine wi_aload_n rfl rfl ?_
          refine wi_getR rfl (kd_134 ..) (rd_134_52 _) ?_
          refine wi_iload rfl rfl ?_
          refine wn_iaload (q := 6 * r + i) (v := (mi 161 (6 * r + i))) rfl (ln_161 ..) rfl (by omega) (by decide) (by decide) (by decide) rfl ?_
          refine wi_icmp_ge rfl (fun g17 => ?_) (fun g17 => ?_)
          · skip
            refine wi_iconst (x := 0) rfl rfl ?_
            refine wi_istore_n rfl (Nat.le_of_ble_eq_true rfl) rfl rfl ?_
            refine wi_iinc (z := (Int32.ofNat (6 * r + i + 1))) rfl rfl rfl (add_n (a := 6 * r + i) (b := 1) rfl rfl) rfl ?_
            refine wi_goto rfl ?_
            refine ih (i + 1) false _ (by omega) ?_
            show (allB (tst w rain (fun k => mi 159 (6 * r + k)) (fun k => mi 160 (6 * r + k)) (fun k => mi 161 (6 * r + k))) i && (tst w rain (fun k => mi 159 (6 * r + k)) (fun k => mi 160 (6 * r + k)) (fun k => mi 161 (6 * r + k))) i) = false
            rw [ha]
            show hold (valN w rain (clN (mi 159) (6 * r + i))) (mi 160 (6 * r + i)) (mi 161 (6 * r + i)) = false
            simp [hold, g13, g17]
          · skip
            refine wi_goto rfl ?_
            refine wi_iconst (x := 1) rfl rfl ?_
            refine wi_goto rfl ?_
            refine wi_istore_n rfl (Nat.le_of_ble_eq_true rfl) rfl rfl ?_
            refine wi_iinc (z := (Int32.ofNat (6 * r + i + 1))) rfl rfl rfl (add_n (a := 6 * r + i) (b := 1) rfl rfl) rfl ?_
            refine wi_goto rfl ?_
            refine ih (i + 1) true _ (by omega) ?_
            show (allB (tst w rain (fun k => mi 159 (6 * r + k)) (fun k => mi 160 (6 * r + k)) (fun k => mi 161 (6 * r + k))) i && (tst w rain (fun k => mi 159 (6 * r + k)) (fun k => mi 160 (6 * r + k)) (fun k => mi 161 (6 * r + k))) i) = true
            rw [ha]
            show hold (valN w rain (clN (mi 159) (6 * r + i))) (mi 160 (6 * r + i)) (mi 161 (6 * r + i)) = true
            simp [hold, g13, g17]
theorem mr_out {w : six} {q dy : Nat} {rain : Int32} (hdy : dy ≤ 999) (hrain : mi 138 dy = rain) (h47 : mi 134 47 = Int32.ofNat q) (hq : q ≤ 8) (hbk : ∀ r, r < q → ∃ t : Nat, t ≤ 6 ∧ mi 158 r = Int32.ofNat t ∧ ∀ k, k < t → mi 159 (6 * r + k) = Int32.ofNat (clN (mi 159) (6 * r + k)) ∧ clN (mi 159) (6 * r + k) ≤ 7) : ∀ k r (v3 v4 v5 : Value), r + k = q → Q (some (.int (frI (RM mi w rain) k r))) (am_shT, mrL b, up6 mi 142 w, ml) → am_wp X (d + 1) 185 2 [.ref 134, .int (Int32.ofNat (dy)), .int (Int32.ofNat (r)), v3, v4, v5] [] (am_shT, mrL b, up6 mi 142 w, ml) Q := by
  intro k
  induction k with
  | zero =>
    intro r v3 v4 v5 hr hQ
    refine wi_iload_n rfl rfl ?_
    refine wi_aload_n rfl rfl ?_
    refine wi_getIv (v := (Int32.ofNat (q))) rfl (kd_134 ..) h47 ?_
    refine wi_icmp_ge rfl (fun _ => ?_) (fun h9 => absurd trivial (by exfalso; have h8 := (not_congr (le_n (a := q) (b := r) rfl rfl (by omega) (by omega))).mp h9; omega))
    refine wi_iconst (x := (-1)) rfl rfl ?_
    refine wi_iret rfl (Or.inl rfl) ?_
    exact hQ
  | succ k ih =>
    intro r v3 v4 v5 hr hQ
    obtain ⟨t, ht6, ht1, hA⟩ := hbk r (by omega)
    have hcl : clN (mi 158) r = t := by unfold clN; exact cl_n ht1 (by omega)
    by_cases hR : RM mi w rain r = true
    · have he : bI (allB (tst w rain (fun k => mi 159 (6 * r + k)) (fun k => mi 160 (6 * r + k)) (fun k => mi 161 (6 * r + k))) t) = 1 := by
        have h8 := hR
        unfold RM at h8
        rw [hcl] at h8
        rw [h8]
        rfl
      refine wi_iload_n rfl rfl ?_
      refine wi_aload_n rfl rfl ?_
      refine wi_getIv (v := (Int32.ofNat (q))) rfl (kd_134 ..) h47 ?_
      refine wi_icmp_ge rfl (fun h9 => absurd trivial (by exfalso; have h8 := (le_n (a := q) (b := r) rfl rfl (by omega) (by omega)).mp h9; omega)) (fun _ => ?_)
      refine wi_iconst (x := 1) rfl rfl ?_
      refine wi_istore_n rfl (Nat.le_of_ble_eq_true rfl) rfl rfl ?_
      refine wi_bipush (x := 6) rfl rfl ?_
      refine wi_iload_n rfl rfl ?_
      refine wn_imul (z := (Int32.ofNat (6 * r))) rfl (mul_n (a := 6) (b := r) (rfl : (6 : Int32) = Int32.ofNat 6) rfl) ?_
      refine wi_istore rfl (Nat.le_of_ble_eq_true rfl) rfl rfl ?_
      refine mr_in (mi := mi) (w := w) (by omega) hdy hrain ht1 ht6 hA (fun v9 => ?_) t 0 true _ (by omega) rfl
      rw [he]
      refine wi_iload_n rfl rfl ?_
      refine wi_if_eq rfl (fun h9 => absurd h9 (by decide)) (fun _ => ?_)
      refine wi_iload_n rfl rfl ?_
      refine wi_iret rfl (Or.inl rfl) ?_
      rw [frI, if_pos hR] at hQ
      exact hQ
    · have he : bI (allB (tst w rain (fun k => mi 159 (6 * r + k)) (fun k => mi 160 (6 * r + k)) (fun k => mi 161 (6 * r + k))) t) = 0 := by
        have h8 := Bool.eq_false_iff.mpr hR
        unfold RM at h8
        rw [hcl] at h8
        rw [h8]
        rfl
      refine wi_iload_n rfl rfl ?_
      refine wi_aload_n rfl rfl ?_
      refine wi_getIv (v := (Int32.ofNat (q))) rfl (kd_134 ..) h47 ?_
      refine wi_icmp_ge rfl (fun h9 => absurd trivial (by exfalso; have h8 := (le_n (a := q) (b := r) rfl rfl (by omega) (by omega)).mp h9; omega)) (fun _ => ?_)
      refine wi_iconst (x := 1) rfl rfl ?_
      refine wi_istore_n rfl (Nat.le_of_ble_eq_true rfl) rfl rfl ?_
      refine wi_bipush (x := 6) rfl rfl ?_
      refine wi_iload_n rfl rfl ?_
      refine wn_imul (z := (Int32.ofNat (6 * r))) rfl (mul_n (a := 6) (b := r) (rfl : (6 : Int32) = Int32.ofNat 6) rfl) ?_
      refine wi_istore rfl (Nat.le_of_ble_eq_true rfl) rfl rfl ?_
      refine mr_in (mi := mi) (w := w) (by omega) hdy hrain ht1 ht6 hA (fun v9 => ?_) t 0 true _ (by omega) rfl
      rw [he]
      refine wi_iload_n rfl rfl ?_
      refine wi_if_eq rfl (fun _ => ?_) (fun h9 => absurd (by decide) h9)
      refine wi_iinc (z := (Int32.ofNat (r + 1))) rfl rfl rfl (add_n (a := r) (b := 1) rfl rfl) rfl ?_
      refine wi_goto rfl ?_
      rw [frI, if_neg hR] at hQ
      exact ih (r + 1) _ _ _ (by omega) hQ
theorem c_rated0 {w : six} {q dy : Nat} {rain : Int32} (hdy : dy ≤ 999) (hrain : mi 138 dy = rain) (h47 : mi 134 47 = Int32.ofNat q) (hq : q ≤ 8) (hbk : ∀ r, r < q → ∃ t : Nat, t ≤ 6 ∧ mi 158 r = Int32.ofNat t ∧ ∀ k, k < t → mi 159 (6 * r + k) = Int32.ofNat (clN (mi 159) (6 * r + k)) ∧ clN (mi 159) (6 * r + k) ≤ 7) (hQ : Q (some (.int (frI (RM mi w rain) q 0))) (am_shT, mrL b, up6 mi 142 w, ml)) : am_wp X (d + 1) 185 0 [.ref 134, .int (Int32.ofNat (dy)), .retAddr 0, .retAddr 0, .retAddr 0, .retAddr 0] [] (am_shT, mrL b, up6 mi 142 w, ml) Q := by
  refine wi_iconst (x := 0) rfl rfl ?_
  refine wi_istore_n rfl (Nat.le_of_ble_eq_true rfl) rfl rfl ?_
  exact mr_out hdy hrain h47 hq hbk q 0 _ _ _ (by omega) hQ
theorem c_rated {w : six} {q dy : Nat} {rain : Int32} (hdy : dy ≤ 999) (hrain : mi 138 dy = rain) (h47 : mi 134 47 = Int32.ofNat q) (hq : q ≤ 8) (hbk : ∀ r, r < q → ∃ t : Nat, t ≤ 6 ∧ mi 158 r = Int32.ofNat t ∧ ∀ k, k < t → mi 159 (6 * r + k) = Int32.ofNat (clN (mi 159) (6 * r + k)) ∧ clN (mi 159) (6 * r + k) ≤ 7) {z : Int32} (hz : frI (RM mi w rain) q 0 = z) (hQ : Q (some (.int z)) (am_shT, mrL b, up6 mi 142 w, ml)) : am_wp X (d + 1) 185 0 [.ref 134, .int (Int32.ofNat (dy)), .retAddr 0, .retAddr 0, .retAddr 0, .retAddr 0] [] (am_shT, mrL b, up6 mi 142 w, ml) Q := c_rated0 hdy hrain h47 hq hbk (by rw [hz]; exact hQ)
end RT
theorem a_rate {X : Nat × (Nat → Int32)} {s9 : Int32} : arm X 121 186 [.ref 0, .int s9, .retAddr 0] [.ref 134, .int s9, .retAddr 0] := by
  intro mi ml b hR Q hK
  obtain ⟨n, t, hst, ⟨hn0, hn4, hn⟩, ⟨ht0, ht5, ht⟩, hT, hF, hC, hM, hP, hTp, hB, hFa, hS, hMk, hfr⟩ := hR
  rcases st_cases s9 (n := n) (by omega) with e_s9 | ⟨s, h_s, rfl⟩
  · refine wi_aload_n rfl rfl ?_
    refine wi_iload_n rfl rfl ?_
    refine wi_callV1 rfl (by decide) (by decide) rfl (kd_0 ..) rfl rfl rfl (c_has hn0 e_s9 ?_)
    refine wi_if_ne rfl (fun h9 => absurd h9 (by decide)) (fun _ => ?_)
    refine wi_aload_n rfl rfl ?_
    refine wi_iconst (x := 1) rfl rfl ?_
    refine wi_callV1 rfl (by decide) (by decide) rfl (kd_0 ..) rfl rfl rfl ?_
    refine wi_aload_n rfl rfl ?_
    refine wi_iload_n rfl rfl ?_
    refine wi_putI rfl (kd_0 ..) ?_
    refine wi_iconst (x := (-1)) rfl rfl ?_
    refine wi_iret rfl (Or.inl rfl) ?_
    refine wi_iret rfl (Or.inl rfl) ?_
    refine hK _ _ _ _ (fun Q2 h2 => ?_)
    refine wi_aload_n rfl rfl ?_
    refine wi_iconst (x := 0) rfl rfl ?_
    refine wi_putI rfl (kd_134 ..) ?_
    refine wi_aload_n rfl rfl ?_
    refine wi_iconst (x := 0) rfl rfl ?_
    refine wi_putI rfl (kd_134 ..) ?_
    refine wi_aload_n rfl rfl ?_
    refine wi_iload_n rfl rfl ?_
    refine wi_callV1 rfl (by decide) (by decide) rfl (kd_134 ..) rfl rfl rfl (c_isS hn4 e_s9 ?_)
    refine wi_if_ne rfl (fun h9 => absurd h9 (by decide)) (fun _ => ?_)
    refine wi_aload_n rfl rfl ?_
    refine wi_iconst (x := 1) rfl rfl ?_
    refine wi_callV1 rfl (by decide) (by decide) rfl (kd_134 ..) rfl rfl rfl ?_
    refine wi_aload_n rfl rfl ?_
    refine wi_iload_n rfl rfl ?_
    refine wi_putI rfl (kd_134 ..) ?_
    refine wi_iconst (x := (-1)) rfl rfl ?_
    refine wi_iret rfl (Or.inl rfl) ?_
    refine wi_iret rfl (Or.inl rfl) ?_
    refine h2 _ _ _ ?_
    exact ⟨n, t, rfl, ⟨hn0, hn4, hn⟩, ⟨ht0, ht5, ht⟩, hT, hF, hC, hM, hP, hTp, hB, hFa, hS, hMk, hfr⟩
  · skip
    obtain ⟨q, hq, h47, hbk, hRe, hbm⟩ := bk_eq hB
    have hTs := rTurf_at hT (q := s) (by omega) hn
    obtain ⟨⟨a0, a1, a2, a3, a4, a5, a6, a7⟩, hTb⟩ := hTs
    obtain ⟨w, hw⟩ : ∃ w, w = sx (mi (126 + s)) := ⟨_, rfl⟩
    have hw2 : upT mi 142 (mi 135 (6 * s + 0)) (mi 135 (6 * s + 1)) (mi 135 (6 * s + 2)) (mi 135 (6 * s + 3)) (mi 135 (6 * s + 4)) (mi 135 (6 * s + 5)) = up6 mi 142 w := by
      rw [hw, ← a0, ← a1, ← a2, ← a3, ← a4, ← a5]
      rfl
    have hrn := (hF t (by omega)).1
    have hw3 : ∀ mm : Nat → Nat → Int32, mm 135 = mi 135 → upT mm 142 (mm 135 (6 * s + 0)) (mm 135 (6 * s + 1)) (mm 135 (6 * s + 2)) (mm 135 (6 * s + 3)) (mm 135 (6 * s + 4)) (mm 135 (6 * s + 5)) = up6 mm 142 w := fun mm e9 => by
      rw [e9, hw, ← a0, ← a1, ← a2, ← a3, ← a4, ← a5]
      rfl
    have hzz := frI_congr (fun r hr => hRe w (mi 4 t) r hr) q 0 (by omega)
    rcases frI_cases (R := RXb mi b w (mi 4 t)) q 0 with hz | ⟨z, hz1, hz⟩
    · refine wi_aload_n rfl rfl ?_
      refine wi_iload_n rfl rfl ?_
      refine wi_callV1 rfl (by decide) (by decide) rfl (kd_0 ..) rfl rfl rfl (c_has hn0 (st_in (by omega) (by omega)) ?_)
      refine wi_if_ne rfl (fun _ => ?_) (fun h9 => absurd (by decide) h9)
      refine wi_aload_n rfl rfl ?_
      refine wi_getR rfl (kd_0 ..) (rd_0_11 _) ?_
      refine wi_aload_n rfl rfl ?_
      refine wi_getR rfl (kd_0 ..) (rd_0_0 _) ?_
      refine wi_iload_n rfl rfl ?_
      refine wn_aaload (q := s) rfl (Or.inl (ln_1 ..)) rfl (by omega) (by decide) (ra_1 _ _ (by omega)) ?_
      refine wi_aload_n rfl rfl ?_
      refine wi_getR rfl (kd_0 ..) (rd_0_2 _) ?_
      refine wi_aload_n rfl rfl ?_
      refine wi_getIv (v := (Int32.ofNat (t))) rfl (kd_0 ..) ht0 ?_
      refine wi_callV1 rfl (by decide) (by decide) rfl (kd_3 ..) rfl rfl rfl (c_rain3 (by omega) ?_)
      refine wi_callV2 rfl (by decide) (by decide) rfl (kd_bkR ..) rfl rfl rfl (c_ruleFor (z := (-1)) (kr_1 (by omega) ..) hq hbk (by rw [← hw]; exact hz) ?_)
      refine wi_istore_n rfl (Nat.le_of_ble_eq_true rfl) rfl rfl ?_
      refine wi_iload_n rfl rfl ?_
      refine wi_iconst (x := (-1)) rfl rfl ?_
      refine wi_icmp_ne rfl (fun h9 => absurd h9 (by decide)) (fun _ => ?_)
      refine wi_aload_n rfl rfl ?_
      refine wi_iconst (x := 5) rfl rfl ?_
      refine wi_callV1 rfl (by decide) (by decide) rfl (kd_0 ..) rfl rfl rfl ?_
      refine wi_aload_n rfl rfl ?_
      refine wi_iload_n rfl rfl ?_
      refine wi_putI rfl (kd_0 ..) ?_
      refine wi_iconst (x := (-1)) rfl rfl ?_
      refine wi_iret rfl (Or.inl rfl) ?_
      refine wi_goto rfl ?_
      refine wi_iret rfl (Or.inl rfl) ?_
      refine hK _ _ _ _ (fun Q2 h2 => ?_)
      refine wi_aload_n rfl rfl ?_
      refine wi_iconst (x := 0) rfl rfl ?_
      refine wi_putI rfl (kd_134 ..) ?_
      refine wi_aload_n rfl rfl ?_
      refine wi_iconst (x := 0) rfl rfl ?_
      refine wi_putI rfl (kd_134 ..) ?_
      refine wi_aload_n rfl rfl ?_
      refine wi_iload_n rfl rfl ?_
      refine wi_callV1 rfl (by decide) (by decide) rfl (kd_134 ..) rfl rfl rfl (c_isS hn4 (st_in (by omega) (by omega)) ?_)
      refine wi_if_ne rfl (fun _ => ?_) (fun h9 => absurd (by decide) h9)
      refine wi_aload_n rfl rfl ?_
      refine wi_iload_n rfl rfl ?_
      refine wi_callV1 rfl (by decide) (by decide) rfl (kd_134 ..) rfl rfl rfl (c_begin (by omega) ?_)
      refine wp_mem (mi2 := up6 (u2 (u2 (u2 mi 0 12 (5 : Int32)) 134 1 (0 : Int32)) 134 0 (0 : Int32)) 142 w) (hw3 (u2 (u2 (u2 mi 0 12 (5 : Int32)) 134 1 (0 : Int32)) 134 0 (0 : Int32)) rfl) ?_
      refine wi_aload_n rfl rfl ?_
      refine wi_aload_n rfl rfl ?_
      refine wi_getIv (v := (Int32.ofNat (t))) rfl (kd_134 ..) ht5 ?_
      refine wi_callV1 rfl (by decide) (by decide) rfl (kd_134 ..) rfl rfl rfl (c_rated (w := w) (mi := (u2 (u2 (u2 mi 0 12 (5 : Int32)) 134 1 (0 : Int32)) 134 0 (0 : Int32))) (rain := mi 4 t) (z := (-1)) (by omega) hrn.symm h47 hq hbm (by rw [hzz] at hz; exact hz) ?_)
      refine wi_istore_n rfl (Nat.le_of_ble_eq_true rfl) rfl rfl ?_
      refine wi_iload_n rfl rfl ?_
      refine wi_if_ge rfl (fun h9 => absurd h9 (by decide)) (fun _ => ?_)
      refine wi_aload_n rfl rfl ?_
      refine wi_iconst (x := 5) rfl rfl ?_
      refine wi_callV1 rfl (by decide) (by decide) rfl (kd_134 ..) rfl rfl rfl ?_
      refine wi_aload_n rfl rfl ?_
      refine wi_iload_n rfl rfl ?_
      refine wi_putI rfl (kd_134 ..) ?_
      refine wi_iconst (x := (-1)) rfl rfl ?_
      refine wi_iret rfl (Or.inl rfl) ?_
      refine wi_goto rfl ?_
      refine wi_iret rfl (Or.inl rfl) ?_
      refine h2 _ _ _ ?_
      exact ⟨n, t, rfl, ⟨hn0, hn4, hn⟩, ⟨ht0, ht5, ht⟩, hT, hF, hC, hM, hP, hTp, hB, hFa, hS, hMk, hfr⟩
    · refine wi_aload_n rfl rfl ?_
      refine wi_iload_n rfl rfl ?_
      refine wi_callV1 rfl (by decide) (by decide) rfl (kd_0 ..) rfl rfl rfl (c_has hn0 (st_in (by omega) (by omega)) ?_)
      refine wi_if_ne rfl (fun _ => ?_) (fun h9 => absurd (by decide) h9)
      refine wi_aload_n rfl rfl ?_
      refine wi_getR rfl (kd_0 ..) (rd_0_11 _) ?_
      refine wi_aload_n rfl rfl ?_
      refine wi_getR rfl (kd_0 ..) (rd_0_0 _) ?_
      refine wi_iload_n rfl rfl ?_
      refine wn_aaload (q := s) rfl (Or.inl (ln_1 ..)) rfl (by omega) (by decide) (ra_1 _ _ (by omega)) ?_
      refine wi_aload_n rfl rfl ?_
      refine wi_getR rfl (kd_0 ..) (rd_0_2 _) ?_
      refine wi_aload_n rfl rfl ?_
      refine wi_getIv (v := (Int32.ofNat (t))) rfl (kd_0 ..) ht0 ?_
      refine wi_callV1 rfl (by decide) (by decide) rfl (kd_3 ..) rfl rfl rfl (c_rain3 (by omega) ?_)
      refine wi_callV2 rfl (by decide) (by decide) rfl (kd_bkR ..) rfl rfl rfl (c_ruleFor (z := (Int32.ofNat z)) (kr_1 (by omega) ..) hq hbk (by rw [← hw]; exact hz) ?_)
      refine wi_istore_n rfl (Nat.le_of_ble_eq_true rfl) rfl rfl ?_
      refine wi_iload_n rfl rfl ?_
      refine wi_iconst (x := (-1)) rfl rfl ?_
      refine wi_icmp_ne rfl (fun _ => ?_) (fun h9 => absurd (nm1 (by omega)) h9)
      refine wi_aload_n rfl rfl ?_
      refine wi_iload_n rfl rfl ?_
      refine wi_callV1 rfl (by decide) (by decide) rfl (kd_0 ..) rfl rfl rfl ?_
      refine wi_aload_n rfl rfl ?_
      refine wi_iconst (x := 0) rfl rfl ?_
      refine wi_putI rfl (kd_0 ..) ?_
      refine wi_iload_n rfl rfl ?_
      refine wi_iret rfl (Or.inl rfl) ?_
      refine wi_iret rfl (Or.inl rfl) ?_
      refine hK _ _ _ _ (fun Q2 h2 => ?_)
      refine wi_aload_n rfl rfl ?_
      refine wi_iconst (x := 0) rfl rfl ?_
      refine wi_putI rfl (kd_134 ..) ?_
      refine wi_aload_n rfl rfl ?_
      refine wi_iconst (x := 0) rfl rfl ?_
      refine wi_putI rfl (kd_134 ..) ?_
      refine wi_aload_n rfl rfl ?_
      refine wi_iload_n rfl rfl ?_
      refine wi_callV1 rfl (by decide) (by decide) rfl (kd_134 ..) rfl rfl rfl (c_isS hn4 (st_in (by omega) (by omega)) ?_)
      refine wi_if_ne rfl (fun _ => ?_) (fun h9 => absurd (by decide) h9)
      refine wi_aload_n rfl rfl ?_
      refine wi_iload_n rfl rfl ?_
      refine wi_callV1 rfl (by decide) (by decide) rfl (kd_134 ..) rfl rfl rfl (c_begin (by omega) ?_)
      refine wp_mem (mi2 := up6 (u2 (u2 (u2 mi 0 12 (0 : Int32)) 134 1 (0 : Int32)) 134 0 (0 : Int32)) 142 w) (hw3 (u2 (u2 (u2 mi 0 12 (0 : Int32)) 134 1 (0 : Int32)) 134 0 (0 : Int32)) rfl) ?_
      refine wi_aload_n rfl rfl ?_
      refine wi_aload_n rfl rfl ?_
      refine wi_getIv (v := (Int32.ofNat (t))) rfl (kd_134 ..) ht5 ?_
      refine wi_callV1 rfl (by decide) (by decide) rfl (kd_134 ..) rfl rfl rfl (c_rated (w := w) (mi := (u2 (u2 (u2 mi 0 12 (0 : Int32)) 134 1 (0 : Int32)) 134 0 (0 : Int32))) (rain := mi 4 t) (z := (Int32.ofNat z)) (by omega) hrn.symm h47 hq hbm (by rw [hzz] at hz; exact hz) ?_)
      refine wi_istore_n rfl (Nat.le_of_ble_eq_true rfl) rfl rfl ?_
      refine wi_iload_n rfl rfl ?_
      refine wi_if_ge rfl (fun _ => ?_) (fun h9 => absurd trivial (by exfalso; have h8 := (not_congr (le_n (a := 0) (b := z) (rfl : (0 : Int32) = Int32.ofNat 0) rfl (by omega) (by omega))).mp h9; omega))
      refine wi_iload_n rfl rfl ?_
      refine wi_iret rfl (Or.inl rfl) ?_
      refine h2 _ _ _ ?_
      exact ⟨n, t, rfl, ⟨hn0, hn4, hn⟩, ⟨ht0, ht5, ht⟩, hT, hF, hC, hM, hP, hTp, hB, hFa, hS, hMk, hfr⟩
