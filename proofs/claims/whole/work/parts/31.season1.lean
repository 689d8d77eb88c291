/-! ===== match, worth ===== -/
section S1
variable {X : Nat × (Nat → Int32)} {d : Nat} {Q : Option Value → am_M → Prop} {mi : Nat → Nat → Int32} {ml : Nat → Nat → Int64} {b : Bool} {q : Nat}
theorem c_hasM {s nn v : Int32} (hn : mi 60 3 = nn) (h9 : stF s nn = v) (hQ : Q (some (.int v)) (am_shT, mrL b, mi, ml)) : am_wp X d 63 0 [.ref 60, .int s] [] (am_shT, mrL b, mi, ml) Q := by
  refine wi_iload_n rfl rfl ?_
  refine wi_if_lt rfl (fun g1 => ?_) (fun g1 => ?_)
  · skip
    refine wi_iconst (x := 0) rfl rfl ?_
    refine wi_iret rfl (by decide) ?_
    subst h9
    simpa [-Int32.not_le, -Int32.not_lt, stF, g1] using hQ
  · skip
    refine wi_iload_n rfl rfl ?_
    refine wi_aload_n rfl rfl ?_
    refine wi_getIv (v := nn) rfl (kd_60 ..) hn ?_
    refine wi_icmp_ge rfl (fun g2 => ?_) (fun g2 => ?_)
    · skip
      refine wi_iconst (x := 0) rfl rfl ?_
      refine wi_iret rfl (by decide) ?_
      subst h9
      simpa [-Int32.not_le, -Int32.not_lt, stF, g1, g2] using hQ
    · skip
      refine wi_iconst (x := 1) rfl rfl ?_
      refine wi_goto rfl ?_
      refine wi_iret rfl (by decide) ?_
      subst h9
      simpa [-Int32.not_le, -Int32.not_lt, stF, g1, g2] using hQ
theorem c_isM {s nn v : Int32} (hn : mi 134 21 = nn) (h9 : stF s nn = v) (hQ : Q (some (.int v)) (am_shT, mrL b, mi, ml)) : am_wp X d 188 0 [.ref 134, .int s] [] (am_shT, mrL b, mi, ml) Q := by
  refine wi_iload_n rfl rfl ?_
  refine wi_if_lt rfl (fun g1 => ?_) (fun g1 => ?_)
  · skip
    refine wi_iconst (x := 0) rfl rfl ?_
    refine wi_iret rfl (by decide) ?_
    subst h9
    simpa [-Int32.not_le, -Int32.not_lt, stF, g1] using hQ
  · skip
    refine wi_iload_n rfl rfl ?_
    refine wi_aload_n rfl rfl ?_
    refine wi_getIv (v := nn) rfl (kd_134 ..) hn ?_
    refine wi_icmp_ge rfl (fun g2 => ?_) (fun g2 => ?_)
    · skip
      refine wi_iconst (x := 0) rfl rfl ?_
      refine wi_iret rfl (by decide) ?_
      subst h9
      simpa [-Int32.not_le, -Int32.not_lt, stF, g1, g2] using hQ
    · skip
      refine wi_iconst (x := 1) rfl rfl ?_
      refine wi_goto rfl ?_
      refine wi_iret rfl (by decide) ?_
      subst h9
      simpa [-Int32.not_le, -Int32.not_lt, stF, g1, g2] using hQ
theorem tk_no {dy : Int32} (h3 : mi 60 3 = Int32.ofNat q) (hq : q ≤ 8) (hQ : Q (some (.int 0)) (am_shT, mrL b, mi, ml)) : ∀ r i, i + r = q → (∀ k, i ≤ k → k < q → ¬ mi 61 k = dy) → am_wp X d 65 2 [.ref 60, .int dy, .int (Int32.ofNat i)] [] (am_shT, mrL b, mi, ml) Q := by
  intro r
  induction r with
  | zero =>
    intro i hi hy
    refine wi_iload_n rfl rfl ?_
    refine wi_aload_n rfl rfl ?_
    refine wi_getIv (v := (Int32.ofNat (q))) rfl (kd_60 ..) h3 ?_
    refine wi_icmp_ge rfl (fun _ => ?_) (fun h9 => absurd trivial (by exfalso; have h8 := (not_congr (le_n (a := q) (b := i) rfl rfl (by omega) (by omega))).mp h9; omega))
    refine wi_iconst (x := 0) rfl rfl ?_
    refine wi_iret rfl (by decide) ?_
    exact hQ
  | succ r ih =>
    intro i hi hy
    refine wi_iload_n rfl rfl ?_
    refine wi_aload_n rfl rfl ?_
    refine wi_getIv (v := (Int32.ofNat (q))) rfl (kd_60 ..) h3 ?_
    refine wi_icmp_ge rfl (fun h9 => absurd trivial (by exfalso; have h8 := (le_n (a := q) (b := i) rfl rfl (by omega) (by omega)).mp h9; omega)) (fun _ => ?_)
    refine wi_aload_n rfl rfl ?_
    refine wi_getR rfl (kd_60 ..) (rd_60_0 _) ?_
    refine wi_iload_n rfl rfl ?_
    refine wn_iaload (q := i) (v := (mi 61 i)) rfl (ln_61 ..) rfl (by omega) (by decide) (by decide) (by decide) rfl ?_
    refine wi_iload_n rfl rfl ?_
    refine wi_icmp_ne rfl (fun _ => ?_) (fun h9 => h9 (hy i (Nat.le_refl _) (by omega)) |>.elim)
    refine wi_iinc (z := (Int32.ofNat (i + 1))) rfl rfl rfl (add_n (a := i) (b := 1) rfl rfl) rfl ?_
    refine wi_goto rfl ?_
    exact ih (i + 1) (by omega) (fun k h1 h2 => hy k (by omega) h2)
theorem c_tk_no {dy : Int32} (h3 : mi 60 3 = Int32.ofNat q) (hq : q ≤ 8) (hy : (∀ k, 0 ≤ k → k < q → ¬ mi 61 k = dy)) (hQ : Q (some (.int 0)) (am_shT, mrL b, mi, ml)) : am_wp X d 65 0 [.ref 60, .int dy, .retAddr 0] [] (am_shT, mrL b, mi, ml) Q := by
  refine wi_iconst (x := 0) rfl rfl ?_
  refine wi_istore_n rfl (Nat.le_of_ble_eq_true rfl) rfl rfl ?_
  exact tk_no h3 hq hQ q 0 (by omega) hy
theorem tk_yes {dy : Int32} (h3 : mi 60 3 = Int32.ofNat q) (hq : q ≤ 8) (hQ : Q (some (.int 1)) (am_shT, mrL b, mi, ml)) : ∀ r i, i + r = q → (∃ k, i ≤ k ∧ k < q ∧ mi 61 k = dy) → am_wp X d 65 2 [.ref 60, .int dy, .int (Int32.ofNat i)] [] (am_shT, mrL b, mi, ml) Q := by
  intro r
  induction r with
  | zero =>
    intro i hi hy
    obtain ⟨k, h1, h2, -⟩ := hy
    omega
  | succ r ih =>
    intro i hi hy
    refine wi_iload_n rfl rfl ?_
    refine wi_aload_n rfl rfl ?_
    refine wi_getIv (v := (Int32.ofNat (q))) rfl (kd_60 ..) h3 ?_
    refine wi_icmp_ge rfl (fun h9 => absurd trivial (by exfalso; have h8 := (le_n (a := q) (b := i) rfl rfl (by omega) (by omega)).mp h9; omega)) (fun _ => ?_)
    refine wi_aload_n rfl rfl ?_
    refine wi_getR rfl (kd_60 ..) (rd_60_0 _) ?_
    refine wi_iload_n rfl rfl ?_
    refine wn_iaload (q := i) (v := (mi 61 i)) rfl (ln_61 ..) rfl (by omega) (by decide) (by decide) (by decide) rfl ?_
    refine wi_iload_n rfl rfl ?_
    refine wi_icmp_ne rfl (fun g1 => ?_) (fun g1 => ?_)
    · skip
      refine wi_iinc (z := (Int32.ofNat (i + 1))) rfl rfl rfl (add_n (a := i) (b := 1) rfl rfl) rfl ?_
      refine wi_goto rfl ?_
      refine ih (i + 1) (by omega) ?_
      obtain ⟨k, h1, h2, h3⟩ := hy
      refine ⟨k, ?_, h2, h3⟩
      rcases Nat.lt_or_ge i k with h4 | h4
      · exact h4
      · exact absurd h3 (by rw [show k = i by omega]; exact g1)
    · replace g1 := Classical.not_not.mp g1
      refine wi_iconst (x := 1) rfl rfl ?_
      refine wi_iret rfl (by decide) ?_
      exact hQ
theorem c_tk_yes {dy : Int32} (h3 : mi 60 3 = Int32.ofNat q) (hq : q ≤ 8) (hy : (∃ k, 0 ≤ k ∧ k < q ∧ mi 61 k = dy)) (hQ : Q (some (.int 1)) (am_shT, mrL b, mi, ml)) : am_wp X d 65 0 [.ref 60, .int dy, .retAddr 0] [] (am_shT, mrL b, mi, ml) Q := by
  refine wi_iconst (x := 0) rfl rfl ?_
  refine wi_istore_n rfl (Nat.le_of_ble_eq_true rfl) rfl rfl ?_
  exact tk_yes h3 hq hQ q 0 (by omega) hy
theorem mm_no {dy rk : Int32} (h3 : mi 134 21 = Int32.ofNat q) (hq : q ≤ 8) (hQ : am_wp X (d + 1) 189 43 [.ref 134, .int dy, .int rk, .int (Int32.ofNat q)] [] (am_shT, mrL b, mi, ml) Q) : ∀ r i, i + r = q → (∀ k, i ≤ k → k < q → ¬ mi 148 k = dy) → am_wp X (d + 1) 189 27 [.ref 134, .int dy, .int rk, .int (Int32.ofNat i)] [] (am_shT, mrL b, mi, ml) Q := by
  intro r
  induction r with
  | zero =>
    intro i hi hy
    refine wi_iload_n rfl rfl ?_
    refine wi_aload_n rfl rfl ?_
    refine wi_getIv (v := (Int32.ofNat (q))) rfl (kd_134 ..) h3 ?_
    refine wi_icmp_ge rfl (fun _ => ?_) (fun h9 => absurd trivial (by exfalso; have h8 := (not_congr (le_n (a := q) (b := i) rfl rfl (by omega) (by omega))).mp h9; omega))
    obtain rfl : i = q := by omega
    exact hQ
  | succ r ih =>
    intro i hi hy
    refine wi_iload_n rfl rfl ?_
    refine wi_aload_n rfl rfl ?_
    refine wi_getIv (v := (Int32.ofNat (q))) rfl (kd_134 ..) h3 ?_
    refine wi_icmp_ge rfl (fun h9 => absurd trivial (by exfalso; have h8 := (le_n (a := q) (b := i) rfl rfl (by omega) (by omega)).mp h9; omega)) (fun _ => ?_)
    refine wi_aload_n rfl rfl ?_
    refine wi_getR rfl (kd_134 ..) (rd_134_24 _) ?_
    refine wi_iload_n rfl rfl ?_
    refine wn_iaload (q := i) (v := (mi 148 i)) rfl (ln_148 ..) rfl (by omega) (by decide) (by decide) (by decide) rfl ?_
    refine wi_iload_n rfl rfl ?_
    refine wi_icmp_ne rfl (fun _ => ?_) (fun h9 => h9 (hy i (Nat.le_refl _) (by omega)) |>.elim)
    refine wi_iinc (z := (Int32.ofNat (i + 1))) rfl rfl rfl (add_n (a := i) (b := 1) rfl rfl) rfl ?_
    refine wi_goto rfl ?_
    exact ih (i + 1) (by omega) (fun k h1 h2 => hy k (by omega) h2)
theorem mm_yes {dy rk : Int32} (h3 : mi 134 21 = Int32.ofNat q) (hq : q ≤ 8) (hQ : Q (some (.int (-1))) (am_shT, mrL b, u2 mi 134 0 7, ml)) : ∀ r i, i + r = q → (∃ k, i ≤ k ∧ k < q ∧ mi 148 k = dy) → am_wp X (d + 1) 189 27 [.ref 134, .int dy, .int rk, .int (Int32.ofNat i)] [] (am_shT, mrL b, mi, ml) Q := by
  intro r
  induction r with
  | zero =>
    intro i hi hy
    obtain ⟨k, h1, h2, -⟩ := hy
    omega
  | succ r ih =>
    intro i hi hy
    refine wi_iload_n rfl rfl ?_
    refine wi_aload_n rfl rfl ?_
    refine wi_getIv (v := (Int32.ofNat (q))) rfl (kd_134 ..) h3 ?_
    refine wi_icmp_ge rfl (fun h9 => absurd trivial (by exfalso; have h8 := (le_n (a := q) (b := i) rfl rfl (by omega) (by omega)).mp h9; omega)) (fun _ => ?_)
    refine wi_aload_n rfl rfl ?_
    refine wi_getR rfl (kd_134 ..) (rd_134_24 _) ?_
    refine wi_iload_n rfl rfl ?_
    refine wn_iaload (q := i) (v := (mi 148 i)) rfl (ln_148 ..) rfl (by omega) (by decide) (by decide) (by decide) rfl ?_
    refine wi_iload_n rfl rfl ?_
    refine wi_icmp_ne rfl (fun g1 => ?_) (fun g1 => ?_)
    · skip
      refine wi_iinc (z := (Int32.ofNat (i + 1))) rfl rfl rfl (add_n (a := i) (b := 1) rfl rfl) rfl ?_
      refine wi_goto rfl ?_
      refine ih (i + 1) (by omega) ?_
      obtain ⟨k, h1, h2, h4⟩ := hy
      refine ⟨k, ?_, h2, h4⟩
      rcases Nat.lt_or_ge i k with h5 | h5
      · exact h5
      · exact absurd h4 (by rw [show k = i by omega]; exact g1)
    · replace g1 := Classical.not_not.mp g1
      refine wi_aload_n rfl rfl ?_
      refine wi_bipush (x := 7) rfl rfl ?_
      refine wi_callV1 rfl (by decide) (by decide) rfl (kd_134 ..) rfl rfl rfl ?_
      refine wi_aload_n rfl rfl ?_
      refine wi_iload_n rfl rfl ?_
      refine wi_putI rfl (kd_134 ..) ?_
      refine wi_iconst (x := (-1)) rfl rfl ?_
      refine wi_iret rfl (Or.inl rfl) ?_
      refine wi_iret rfl (Or.inl rfl) ?_
      exact hQ
end S1
def W8 (w : Nat → Int32) (z : Nat) : Nat → Int32 := fun k => if k = z + 7 then 50 else if k = z + 6 then 50 else if k = z + 5 then 50 else if k = z + 4 then 50 else if k = z + 3 then 50 else if k = z + 2 then 50 else if k = z + 1 then 50 else if k = z + 0 then 50 else w k
theorem W8_eq {w : Nat → Int32} {z k : Nat} : W8 w z k = if z ≤ k ∧ k < z + 8 then 50 else w k := by
  unfold W8
  by_cases h : z ≤ k ∧ k < z + 8
  · rw [if_pos h]
    obtain ⟨j, rfl⟩ : ∃ j, k = z + j := ⟨k - z, by omega⟩
    have hj : j < 8 := by omega
    rcases j with _ | _ | _ | _ | _ | _ | _ | _ | j
    all_goals first | omega | simp
  · rw [if_neg h, if_neg (by omega), if_neg (by omega), if_neg (by omega), if_neg (by omega), if_neg (by omega), if_neg (by omega), if_neg (by omega), if_neg (by omega)]
theorem rSea_match {q : Nat} {D K D' K' : Nat → Int32} {w : Nat → Nat → Int32} {w' : Nat → Int32} {re re' sp sp' : Int32} {bv : Int64} (hq : q < 8) (h4 : ∀ k, k < q → D k = D' k ∧ K k = K' k ∧ rB (D k) 0 999 ∧ rB (K k) 0 9) (h5 : ∀ i j, i < q → j < q → D i = D j → i = j)
    (h6 : ∀ m, m < 8 → ∀ s, s < 8 → rB (w m s) 0 100 ∧ (m < q → w m s = w' (8 * m + s)) ∧ (q ≤ m → w m s = 50)) (h7 : re = re') (h8 : sp = sp') (h9 : rB re 0 60) (h10 : rB sp 0 100) {dd x : Nat} (hd : dd ≤ 999) (hx : x ≤ 9) (hno : ∀ k, 0 ≤ k → k < q → ¬ D k = Int32.ofNat dd) :
    rSea (Int32.ofNat (q + 1)) (Int32.ofNat (q + 1)) (fun i => if i = q then Int32.ofNat dd else D i) (fun i => if i = q then Int32.ofNat x else K i) (fun i => if i = q then Int32.ofNat dd else D' i) (fun i => if i = q then Int32.ofNat x else K' i) w (W8 w' (8 * q)) re re' sp sp' (-1) bv := by
  refine ⟨q + 1, rfl, rfl, by omega, fun k hk => ?_, fun i j hi hj he => ?_, fun m hm s hs => ?_, h7, h8, h9, h10, Or.inl rfl⟩
  · by_cases e : k = q
    · simp only [if_pos e]
      exact ⟨trivial, trivial, rB_of (hi := 999) hd (by decide), rB_of (hi := 9) hx (by decide)⟩
    · simp only [if_neg e]
      exact h4 k (by omega)
  · by_cases e1 : i = q
    · by_cases e2 : j = q
      · omega
      · simp only [if_pos e1, if_neg e2] at he
        exact absurd he.symm (hno j (Nat.zero_le _) (by omega))
    · by_cases e2 : j = q
      · simp only [if_pos e2, if_neg e1] at he
        exact absurd he (hno i (Nat.zero_le _) (by omega))
      · simp only [if_neg e1, if_neg e2] at he
        exact h5 i j (by omega) (by omega) he
  · obtain ⟨g1, g2, g3⟩ := h6 m hm s hs
    refine ⟨g1, fun hmq => ?_, fun hmq => g3 (by omega)⟩
    rw [W8_eq]
    by_cases e : m = q
    · subst e
      rw [if_pos (by omega)]
      exact g3 (Nat.le_refl _)
    · rw [if_neg (by omega)]
      exact g2 (by omega)
theorem rSea_worth {q : Nat} {c c' : Int32} {D K D' K' : Nat → Int32} {w w2 : Nat → Nat → Int32} {w' : Nat → Int32} {re re' sp sp' : Int32} {bv : Int64} (h1 : c = Int32.ofNat q) (h2 : c' = Int32.ofNat q) (hq : q ≤ 8) (h4 : ∀ k, k < q → D k = D' k ∧ K k = K' k ∧ rB (D k) 0 999 ∧ rB (K k) 0 9) (h5 : ∀ i j, i < q → j < q → D i = D j → i = j)
    (h6 : ∀ m, m < 8 → ∀ s, s < 8 → rB (w m s) 0 100 ∧ (m < q → w m s = w' (8 * m + s)) ∧ (q ≤ m → w m s = 50)) (h7 : re = re') (h8 : sp = sp') (h9 : rB re 0 60) (h10 : rB sp 0 100) {m s v : Nat} (hm : m < q) (hs : s < 8) (hv : v ≤ 100) (hw : ∀ m', m' < 8 → w2 m' = if m' = m then (fun i => if i = s then Int32.ofNat v else w m i) else w m') :
    rSea c c' D K D' K' w2 (fun k => if k = 8 * m + s then Int32.ofNat v else w' k) re re' sp sp' (-1) bv := by
  refine ⟨q, h1, h2, hq, h4, h5, fun m' hm' s' hs' => ?_, h7, h8, h9, h10, Or.inl rfl⟩
  obtain ⟨g1, g2, g3⟩ := h6 m' hm' s' hs'
  rw [hw m' hm']
  by_cases e : m' = m
  · subst e
    rw [if_pos rfl]
    by_cases e2 : s' = s
    · subst e2
      simp only [if_pos]
      exact ⟨rB_of (hi := 100) hv (by decide), fun _ => trivial, fun h => by omega⟩
    · simp only [if_neg e2]
      rw [if_neg (by omega)]
      exact ⟨g1, g2, g3⟩
  · rw [if_neg e]
    exact ⟨g1, fun h => (g2 h).trans (if_neg (by omega)).symm, g3⟩
theorem RS_fr {mi mi2 : Nat → Nat → Int32} {ml : Nat → Nat → Int64} {b : Bool} {n t : Nat} (ho : ∀ a, a < 64 ∨ 72 ≤ a → mi2 a = mi a) (h : RR mi ml b n t) : mi2 0 12 = mi2 134 0 ∧ (mi2 0 13 = Int32.ofNat n ∧ mi2 134 4 = Int32.ofNat n ∧ n ≤ 8) ∧ (mi2 0 14 = Int32.ofNat t ∧ mi2 134 5 = Int32.ofNat t ∧ t ≤ 999) ∧ rTurf n (r8 (mi2 126) (mi2 127) (mi2 128) (mi2 129) (mi2 130) (mi2 131) (mi2 132) (mi2 133)) (mi2 135) (mi2 136) (mi2 137) ∧ rWea (mi2 4) (mi2 5) (mi2 138) (mi2 139) ∧ rWea (mi2 7) (mi2 8) (mi2 140) (mi2 141) ∧ rMeas n (mi2 9 3) (mi2 134 14) (mi2 10) (mi2 11) (mi2 12) (mi2 143) (mi2 144) (mi2 145) ∧ rPlan (mi2 13 5) (mi2 134 20) (mi2 16) (mi2 147) ∧ rTape (mi2 26 1) (mi2 134 35) (mi2 27) (mi2 157) ∧ rBk mi2 b ∧ (mi2 28 11 = mi2 134 37 ∧ mi2 28 12 = mi2 134 38) ∧ rMk (ml 75 4) (ml 75 5) (r8 (mi2 77) (mi2 78) (mi2 79) (mi2 80) (mi2 81) (mi2 82) (mi2 83) (mi2 84)) (r8 (mi2 86) (mi2 87) (mi2 88) (mi2 89) (mi2 90) (mi2 91) (mi2 92) (mi2 93)) (ml 94) (ml 95) (mi2 134 30) (mi2 154) (mi2 155) (mi2 156) ∧ (ml 96 0 = ml 134 2 ∧ ml 96 1 = ml 134 3) := by
  obtain ⟨hst, hn, ht, hT, hF, hC, hM, hP, hTp, hB, hFa, -, hMk, hfr⟩ := h
  unfold rBk at hB ⊢
  simp only [ho 0 (by omega), ho 4 (by omega), ho 5 (by omega), ho 7 (by omega), ho 8 (by omega), ho 9 (by omega), ho 10 (by omega), ho 11 (by omega), ho 12 (by omega), ho 13 (by omega), ho 16 (by omega), ho 26 (by omega), ho 27 (by omega), ho 28 (by omega), ho 31 (by omega), ho 32 (by omega), ho 34 (by omega), ho 35 (by omega), ho 36 (by omega), ho 37 (by omega), ho 38 (by omega), ho 39 (by omega), ho 40 (by omega), ho 41 (by omega), ho 43 (by omega), ho 44 (by omega), ho 45 (by omega), ho 46 (by omega), ho 47 (by omega), ho 48 (by omega), ho 49 (by omega), ho 50 (by omega), ho 52 (by omega), ho 53 (by omega), ho 54 (by omega), ho 55 (by omega), ho 56 (by omega), ho 57 (by omega), ho 58 (by omega), ho 59 (by omega), ho 77 (by omega), ho 78 (by omega), ho 79 (by omega), ho 80 (by omega), ho 81 (by omega), ho 82 (by omega), ho 83 (by omega), ho 84 (by omega), ho 86 (by omega), ho 87 (by omega), ho 88 (by omega), ho 89 (by omega), ho 90 (by omega), ho 91 (by omega), ho 92 (by omega), ho 93 (by omega), ho 97 (by omega), ho 98 (by omega), ho 100 (by omega), ho 101 (by omega), ho 102 (by omega), ho 103 (by omega), ho 104 (by omega), ho 105 (by omega), ho 106 (by omega), ho 107 (by omega), ho 109 (by omega), ho 110 (by omega), ho 111 (by omega), ho 112 (by omega), ho 113 (by omega), ho 114 (by omega), ho 115 (by omega), ho 116 (by omega), ho 118 (by omega), ho 119 (by omega), ho 120 (by omega), ho 121 (by omega), ho 122 (by omega), ho 123 (by omega), ho 124 (by omega), ho 125 (by omega), ho 126 (by omega), ho 127 (by omega), ho 128 (by omega), ho 129 (by omega), ho 130 (by omega), ho 131 (by omega), ho 132 (by omega), ho 133 (by omega), ho 134 (by omega), ho 135 (by omega), ho 136 (by omega), ho 137 (by omega), ho 138 (by omega), ho 139 (by omega), ho 140 (by omega), ho 141 (by omega), ho 143 (by omega), ho 144 (by omega), ho 145 (by omega), ho 147 (by omega), ho 154 (by omega), ho 155 (by omega), ho 156 (by omega), ho 157 (by omega), ho 158 (by omega), ho 159 (by omega), ho 160 (by omega), ho 161 (by omega)]
  exact ⟨hst, hn, ht, hT, hF, hC, hM, hP, hTp, hB, hFa, hMk, hfr⟩
theorem a_worth {X : Nat × (Nat → Int32)} {m s v : Int32} : arm X 124 190 [.ref 0, .int m, .int s, .int v] [.ref 134, .int m, .int s, .int v] := by
  intro mi ml b hR Q hK
  obtain ⟨n, t, hst, ⟨hn0, hn4, hn⟩, ⟨ht0, ht5, ht⟩, hT, hF, hC, hM, hP, hTp, hB, hFa, hS, hMk, hfr⟩ := hR
  obtain ⟨c, hc3, hc21, hc, hD, hDi, hW, hre, hsp, hre1, hsp1, hbf⟩ := hS
  rcases st_cases m (n := c) (by omega) with e_m | ⟨p, h_p, rfl⟩
  · refine wi_aload_n rfl rfl ?_
    refine wi_getR rfl (kd_0 ..) (rd_0_8 _) ?_
    refine wi_iload_n rfl rfl ?_
    refine wi_callV1 rfl (by decide) (by decide) rfl (kd_60 ..) rfl rfl rfl (c_hasM hc3 e_m ?_)
    refine wi_if_eq rfl (fun _ => ?_) (fun h9 => absurd (by decide) h9)
    refine wi_aload_n rfl rfl ?_
    refine wi_iconst (x := 1) rfl rfl ?_
    refine wi_callV1 rfl (by decide) (by decide) rfl (kd_0 ..) rfl rfl rfl ?_
    refine wi_aload_n rfl rfl ?_
    refine wi_iload_n rfl rfl ?_
    refine wi_putI rfl (kd_0 ..) ?_
    refine wi_iconst (x := 0) rfl rfl ?_
    refine wi_iret rfl (by decide) ?_
    refine wi_iret rfl (by decide) ?_
    refine hK _ _ _ _ (fun Q2 h2 => ?_)
    refine wi_aload_n rfl rfl ?_
    refine wi_iconst (x := 0) rfl rfl ?_
    refine wi_putI rfl (kd_134 ..) ?_
    refine wi_aload_n rfl rfl ?_
    refine wi_iconst (x := 0) rfl rfl ?_
    refine wi_putI rfl (kd_134 ..) ?_
    refine wi_aload_n rfl rfl ?_
    refine wi_iload_n rfl rfl ?_
    refine wi_callV1 rfl (by decide) (by decide) rfl (kd_134 ..) rfl rfl rfl (c_isM hc21 e_m ?_)
    refine wi_if_eq rfl (fun _ => ?_) (fun h9 => absurd (by decide) h9)
    refine wi_aload_n rfl rfl ?_
    refine wi_iconst (x := 1) rfl rfl ?_
    refine wi_callV1 rfl (by decide) (by decide) rfl (kd_134 ..) rfl rfl rfl ?_
    refine wi_aload_n rfl rfl ?_
    refine wi_iload_n rfl rfl ?_
    refine wi_putI rfl (kd_134 ..) ?_
    refine wi_iconst (x := 0) rfl rfl ?_
    refine wi_iret rfl (by decide) ?_
    refine wi_iret rfl (by decide) ?_
    refine h2 _ _ _ ?_
    exact ⟨n, t, rfl, ⟨hn0, hn4, hn⟩, ⟨ht0, ht5, ht⟩, hT, hF, hC, hM, hP, hTp, hB, hFa, ⟨c, hc3, hc21, hc, hD, hDi, hW, hre, hsp, hre1, hsp1, hbf⟩, hMk, hfr⟩
  · rcases st_cases s (n := n) (by omega) with e_s | ⟨q, h_q, rfl⟩
    · refine wi_aload_n rfl rfl ?_
      refine wi_getR rfl (kd_0 ..) (rd_0_8 _) ?_
      refine wi_iload_n rfl rfl ?_
      refine wi_callV1 rfl (by decide) (by decide) rfl (kd_60 ..) rfl rfl rfl (c_hasM hc3 (st_in (n := c) (by omega) (by omega)) ?_)
      refine wi_if_eq rfl (fun h9 => absurd h9 (by decide)) (fun _ => ?_)
      refine wi_aload_n rfl rfl ?_
      refine wi_iload_n rfl rfl ?_
      refine wi_callV1 rfl (by decide) (by decide) rfl (kd_0 ..) rfl rfl rfl (c_has hn0 e_s ?_)
      refine wi_if_ne rfl (fun h9 => absurd h9 (by decide)) (fun _ => ?_)
      refine wi_aload_n rfl rfl ?_
      refine wi_iconst (x := 1) rfl rfl ?_
      refine wi_callV1 rfl (by decide) (by decide) rfl (kd_0 ..) rfl rfl rfl ?_
      refine wi_aload_n rfl rfl ?_
      refine wi_iload_n rfl rfl ?_
      refine wi_putI rfl (kd_0 ..) ?_
      refine wi_iconst (x := 0) rfl rfl ?_
      refine wi_iret rfl (by decide) ?_
      refine wi_iret rfl (by decide) ?_
      refine hK _ _ _ _ (fun Q2 h2 => ?_)
      refine wi_aload_n rfl rfl ?_
      refine wi_iconst (x := 0) rfl rfl ?_
      refine wi_putI rfl (kd_134 ..) ?_
      refine wi_aload_n rfl rfl ?_
      refine wi_iconst (x := 0) rfl rfl ?_
      refine wi_putI rfl (kd_134 ..) ?_
      refine wi_aload_n rfl rfl ?_
      refine wi_iload_n rfl rfl ?_
      refine wi_callV1 rfl (by decide) (by decide) rfl (kd_134 ..) rfl rfl rfl (c_isM hc21 (st_in (n := c) (by omega) (by omega)) ?_)
      refine wi_if_eq rfl (fun h9 => absurd h9 (by decide)) (fun _ => ?_)
      refine wi_aload_n rfl rfl ?_
      refine wi_iload_n rfl rfl ?_
      refine wi_callV1 rfl (by decide) (by decide) rfl (kd_134 ..) rfl rfl rfl (c_isS hn4 e_s ?_)
      refine wi_if_ne rfl (fun h9 => absurd h9 (by decide)) (fun _ => ?_)
      refine wi_aload_n rfl rfl ?_
      refine wi_iconst (x := 1) rfl rfl ?_
      refine wi_callV1 rfl (by decide) (by decide) rfl (kd_134 ..) rfl rfl rfl ?_
      refine wi_aload_n rfl rfl ?_
      refine wi_iload_n rfl rfl ?_
      refine wi_putI rfl (kd_134 ..) ?_
      refine wi_iconst (x := 0) rfl rfl ?_
      refine wi_iret rfl (by decide) ?_
      refine wi_iret rfl (by decide) ?_
      refine h2 _ _ _ ?_
      exact ⟨n, t, rfl, ⟨hn0, hn4, hn⟩, ⟨ht0, ht5, ht⟩, hT, hF, hC, hM, hP, hTp, hB, hFa, ⟨c, hc3, hc21, hc, hD, hDi, hW, hre, hsp, hre1, hsp1, hbf⟩, hMk, hfr⟩
    · rcases wn_cases v 0 100 (by decide) (by decide) with e_v | ⟨x, l_x, h_x, rfl⟩
      · refine wi_aload_n rfl rfl ?_
        refine wi_getR rfl (kd_0 ..) (rd_0_8 _) ?_
        refine wi_iload_n rfl rfl ?_
        refine wi_callV1 rfl (by decide) (by decide) rfl (kd_60 ..) rfl rfl rfl (c_hasM hc3 (st_in (n := c) (by omega) (by omega)) ?_)
        refine wi_if_eq rfl (fun h9 => absurd h9 (by decide)) (fun _ => ?_)
        refine wi_aload_n rfl rfl ?_
        refine wi_iload_n rfl rfl ?_
        refine wi_callV1 rfl (by decide) (by decide) rfl (kd_0 ..) rfl rfl rfl (c_has hn0 (st_in (by omega) (by omega)) ?_)
        refine wi_if_ne rfl (fun _ => ?_) (fun h9 => absurd (by decide) h9)
        refine wi_iload_n rfl rfl ?_
        refine wi_iconst (x := 0) rfl rfl ?_
        refine wi_bipush (x := 100) rfl rfl ?_
        refine wi_callS3 rfl (by decide) (by decide) rfl rfl rfl (c_wiV e_v ?_)
        refine wi_if_ne rfl (fun h9 => absurd h9 (by decide)) (fun _ => ?_)
        refine wi_aload_n rfl rfl ?_
        refine wi_iconst (x := 2) rfl rfl ?_
        refine wi_callV1 rfl (by decide) (by decide) rfl (kd_0 ..) rfl rfl rfl ?_
        refine wi_aload_n rfl rfl ?_
        refine wi_iload_n rfl rfl ?_
        refine wi_putI rfl (kd_0 ..) ?_
        refine wi_iconst (x := 0) rfl rfl ?_
        refine wi_iret rfl (by decide) ?_
        refine wi_iret rfl (by decide) ?_
        refine hK _ _ _ _ (fun Q2 h2 => ?_)
        refine wi_aload_n rfl rfl ?_
        refine wi_iconst (x := 0) rfl rfl ?_
        refine wi_putI rfl (kd_134 ..) ?_
        refine wi_aload_n rfl rfl ?_
        refine wi_iconst (x := 0) rfl rfl ?_
        refine wi_putI rfl (kd_134 ..) ?_
        refine wi_aload_n rfl rfl ?_
        refine wi_iload_n rfl rfl ?_
        refine wi_callV1 rfl (by decide) (by decide) rfl (kd_134 ..) rfl rfl rfl (c_isM hc21 (st_in (n := c) (by omega) (by omega)) ?_)
        refine wi_if_eq rfl (fun h9 => absurd h9 (by decide)) (fun _ => ?_)
        refine wi_aload_n rfl rfl ?_
        refine wi_iload_n rfl rfl ?_
        refine wi_callV1 rfl (by decide) (by decide) rfl (kd_134 ..) rfl rfl rfl (c_isS hn4 (st_in (by omega) (by omega)) ?_)
        refine wi_if_ne rfl (fun _ => ?_) (fun h9 => absurd (by decide) h9)
        refine wi_iload_n rfl rfl ?_
        refine wi_bipush (x := 100) rfl rfl ?_
        refine wi_callS2 rfl (by decide) (by decide) rfl rfl rfl (c_isIn e_v ?_)
        refine wi_if_ne rfl (fun h9 => absurd h9 (by decide)) (fun _ => ?_)
        refine wi_aload_n rfl rfl ?_
        refine wi_iconst (x := 2) rfl rfl ?_
        refine wi_callV1 rfl (by decide) (by decide) rfl (kd_134 ..) rfl rfl rfl ?_
        refine wi_aload_n rfl rfl ?_
        refine wi_iload_n rfl rfl ?_
        refine wi_putI rfl (kd_134 ..) ?_
        refine wi_iconst (x := 0) rfl rfl ?_
        refine wi_iret rfl (by decide) ?_
        refine wi_iret rfl (by decide) ?_
        refine h2 _ _ _ ?_
        exact ⟨n, t, rfl, ⟨hn0, hn4, hn⟩, ⟨ht0, ht5, ht⟩, hT, hF, hC, hM, hP, hTp, hB, hFa, ⟨c, hc3, hc21, hc, hD, hDi, hW, hre, hsp, hre1, hsp1, hbf⟩, hMk, hfr⟩
      · refine wi_aload_n rfl rfl ?_
        refine wi_getR rfl (kd_0 ..) (rd_0_8 _) ?_
        refine wi_iload_n rfl rfl ?_
        refine wi_callV1 rfl (by decide) (by decide) rfl (kd_60 ..) rfl rfl rfl (c_hasM hc3 (st_in (n := c) (by omega) (by omega)) ?_)
        refine wi_if_eq rfl (fun h9 => absurd h9 (by decide)) (fun _ => ?_)
        refine wi_aload_n rfl rfl ?_
        refine wi_iload_n rfl rfl ?_
        refine wi_callV1 rfl (by decide) (by decide) rfl (kd_0 ..) rfl rfl rfl (c_has hn0 (st_in (by omega) (by omega)) ?_)
        refine wi_if_ne rfl (fun _ => ?_) (fun h9 => absurd (by decide) h9)
        refine wi_iload_n rfl rfl ?_
        refine wi_iconst (x := 0) rfl rfl ?_
        refine wi_bipush (x := 100) rfl rfl ?_
        refine wi_callS3 rfl (by decide) (by decide) rfl rfl rfl (c_wiV (wn_in (lo := 0) (hi := 100) (by omega) (by omega) (by decide)) ?_)
        refine wi_if_ne rfl (fun _ => ?_) (fun h9 => absurd (by decide) h9)
        refine wi_aload_n rfl rfl ?_
        refine wi_getR rfl (kd_0 ..) (rd_0_8 _) ?_
        refine wi_iload_n rfl rfl ?_
        refine wi_iload_n rfl rfl ?_
        refine wi_iload_n rfl rfl ?_
        refine wi_callV3 rfl (by decide) (by decide) rfl (kd_60 ..) rfl rfl rfl ?_
        refine wi_aload_n rfl rfl ?_
        refine wi_iload_n rfl rfl ?_
        refine wi_callV1 rfl (by decide) (by decide) rfl (kd_60 ..) rfl rfl rfl (c_hasM hc3 (st_in (n := c) (by omega) (by omega)) ?_)
        refine wi_if_eq rfl (fun h9 => absurd h9 (by decide)) (fun _ => ?_)
        refine wi_iload_n rfl rfl ?_
        refine wi_iconst (x := 0) rfl rfl ?_
        refine wi_bipush (x := 7) rfl rfl ?_
        refine wi_callS3 rfl (by decide) (by decide) rfl rfl rfl (c_wiV (wn_in (lo := 0) (hi := 7) (by omega) (by omega) (by decide)) ?_)
        refine wi_if_eq rfl (fun h9 => absurd h9 (by decide)) (fun _ => ?_)
        refine wi_aload_n rfl rfl ?_
        refine wi_getR rfl (kd_60 ..) (rd_60_2 _) ?_
        refine wi_iload_n rfl rfl ?_
        refine wn_aaload (q := p) rfl (Or.inr (ln_63 ..)) rfl (by omega) (by decide) (ra_63 _ _ (by omega)) ?_
        refine wi_iload_n rfl rfl ?_
        refine wi_iload_n rfl rfl ?_
        refine wn_iastore (q := q) rfl (lr_63 (by omega) ..) rfl (by omega) (by decide) ?_
        refine gen_wp (fun mi1 e1 => ?_)
        refine wi_aload_n rfl rfl ?_
        refine wi_callV0 rfl (by decide) (by decide) rfl (kd_60 ..) rfl rfl rfl ?_
        refine wi_aload_n rfl rfl ?_
        refine wi_iconst (x := (-1)) rfl rfl ?_
        refine wi_putI rfl (kd_60 ..) ?_
        refine wi_ret rfl ?_
        refine wi_ret rfl ?_
        refine wi_aload_n rfl rfl ?_
        refine wi_callV0 rfl (by decide) (by decide) rfl (kd_0 ..) rfl rfl rfl ?_
        refine wi_aload_n rfl rfl ?_
        refine wi_iconst (x := 0) rfl rfl ?_
        refine wi_putI rfl (kd_0 ..) ?_
        refine wi_iconst (x := 1) rfl rfl ?_
        refine wi_iret rfl (by decide) ?_
        refine wi_iret rfl (by decide) ?_
        have ho : ∀ a, a ≠ 64 + p → mi1 a = mi a := fun a ha => by rw [e1]; exact u2_ne ha
        obtain ⟨kst, ⟨kn0, kn4, -⟩, ⟨kt0, kt5, -⟩, kT, kF, kC, kM, kP, kTp, kB, kFa, kMk, kfr⟩ := RS_fr (mi2 := mi1) (fun a ha => ho a (by omega)) ⟨hst, ⟨hn0, hn4, hn⟩, ⟨ht0, ht5, ht⟩, hT, hF, hC, hM, hP, hTp, hB, hFa, ⟨c, hc3, hc21, hc, hD, hDi, hW, hre, hsp, hre1, hsp1, hbf⟩, hMk, hfr⟩
        have hc21 : mi1 134 21 = Int32.ofNat c := by rw [ho 134 (by omega)]; exact hc21
        have hc3 : mi1 60 3 = Int32.ofNat c := by rw [ho 60 (by omega)]; exact hc3
        have hn4 := kn4
        have hnew : rSea (mi1 60 3) (mi1 134 21) (mi1 61) (mi1 62) (mi1 148) (mi1 149) (r8 (mi1 64) (mi1 65) (mi1 66) (mi1 67) (mi1 68) (mi1 69) (mi1 70) (mi1 71)) (fun k => if k = 8 * p + q then Int32.ofNat x else mi1 150 k) (mi1 60 4) (mi1 134 22) (mi1 60 5) (mi1 134 23) (-1) (ml 60 9) := by
          rw [hc3, hc21, ho 61 (by omega), ho 62 (by omega), ho 148 (by omega), ho 149 (by omega), ho 150 (by omega), ho 60 (by omega), ho 134 (by omega)]
          refine rSea_worth (q := c) (m := p) (s := q) (v := x) rfl rfl hc hD hDi hW hre hsp hre1 hsp1 h_p (by omega) h_x (fun z hz => ?_)
          refine (r8_eq (mi := mi1) (p := 64) hz).trans ?_
          have e8 : ∀ y, y < 8 → r8 (mi 64) (mi 65) (mi 66) (mi 67) (mi 68) (mi 69) (mi 70) (mi 71) y = mi (64 + y) := fun y hy => r8_eq (mi := mi) (p := 64) hy
          by_cases e : z = p
          · subst e
            rw [if_pos rfl, e8 z hz, e1, u2_at]
          · rw [if_neg e, e8 z hz]
            exact ho _ (by omega)
        refine hK _ _ _ _ (fun Q2 h2 => ?_)
        refine wi_aload_n rfl rfl ?_
        refine wi_iconst (x := 0) rfl rfl ?_
        refine wi_putI rfl (kd_134 ..) ?_
        refine wi_aload_n rfl rfl ?_
        refine wi_iconst (x := 0) rfl rfl ?_
        refine wi_putI rfl (kd_134 ..) ?_
        refine wi_aload_n rfl rfl ?_
        refine wi_iload_n rfl rfl ?_
        refine wi_callV1 rfl (by decide) (by decide) rfl (kd_134 ..) rfl rfl rfl (c_isM hc21 (st_in (n := c) (by omega) (by omega)) ?_)
        refine wi_if_eq rfl (fun h9 => absurd h9 (by decide)) (fun _ => ?_)
        refine wi_aload_n rfl rfl ?_
        refine wi_iload_n rfl rfl ?_
        refine wi_callV1 rfl (by decide) (by decide) rfl (kd_134 ..) rfl rfl rfl (c_isS hn4 (st_in (by omega) (by omega)) ?_)
        refine wi_if_ne rfl (fun _ => ?_) (fun h9 => absurd (by decide) h9)
        refine wi_iload_n rfl rfl ?_
        refine wi_bipush (x := 100) rfl rfl ?_
        refine wi_callS2 rfl (by decide) (by decide) rfl rfl rfl (c_isIn (wn_in (lo := 0) (hi := 100) (by omega) (by omega) (by decide)) ?_)
        refine wi_if_ne rfl (fun _ => ?_) (fun h9 => absurd (by decide) h9)
        refine wi_aload_n rfl rfl ?_
        refine wi_getR rfl (kd_134 ..) (rd_134_26 _) ?_
        refine wi_bipush (x := 8) rfl rfl ?_
        refine wi_iload_n rfl rfl ?_
        refine wn_imul (z := (Int32.ofNat (8 * p))) rfl (mul_n (a := 8) (b := p) (rfl : (8 : Int32) = Int32.ofNat 8) rfl) ?_
        refine wi_iload_n rfl rfl ?_
        refine wn_iadd (z := (Int32.ofNat (8 * p + q))) rfl (add_n (a := 8 * p) (b := q) rfl rfl) ?_
        refine wi_iload_n rfl rfl ?_
        refine wn_iastore (q := 8 * p + q) rfl (ln_150 ..) rfl (by omega) (by decide) ?_
        refine wi_iconst (x := 1) rfl rfl ?_
        refine wi_iret rfl (by decide) ?_
        refine h2 _ _ _ ?_
        exact ⟨n, t, rfl, ⟨kn0, kn4, hn⟩, ⟨kt0, kt5, ht⟩, kT, kF, kC, kM, kP, kTp, kB, kFa, hnew, kMk, kfr⟩
theorem a_match {X : Nat × (Nat → Int32)} {dy rk : Int32} : arm X 123 189 [.ref 0, .int dy, .int rk] [.ref 134, .int dy, .int rk, .retAddr 0] := by
  intro mi ml b hR Q hK
  obtain ⟨n, t, hst, ⟨hn0, hn4, hn⟩, ⟨ht0, ht5, ht⟩, hT, hF, hC, hM, hP, hTp, hB, hFa, hS, hMk, hfr⟩ := hR
  obtain ⟨c, hc3, hc21, hc, hD, hDi, hW, hre, hsp, hre1, hsp1, hbf⟩ := hS
  rcases wn_cases dy 0 999 (by decide) (by decide) with e_dy | ⟨dd, l_dd, h_dd, rfl⟩
  · refine wi_iload_n rfl rfl ?_
    refine wi_callS1 rfl (by decide) (by decide) rfl rfl rfl (c_xday e_dy ?_)
    refine wi_if_eq rfl (fun _ => ?_) (fun h9 => absurd (by decide) h9)
    refine wi_aload_n rfl rfl ?_
    refine wi_iconst (x := 2) rfl rfl ?_
    refine wi_callV1 rfl (by decide) (by decide) rfl (kd_0 ..) rfl rfl rfl ?_
    refine wi_aload_n rfl rfl ?_
    refine wi_iload_n rfl rfl ?_
    refine wi_putI rfl (kd_0 ..) ?_
    refine wi_iconst (x := (-1)) rfl rfl ?_
    refine wi_iret rfl (Or.inl rfl) ?_
    refine wi_iret rfl (Or.inl rfl) ?_
    refine hK _ _ _ _ (fun Q2 h2 => ?_)
    refine wi_aload_n rfl rfl ?_
    refine wi_iconst (x := 0) rfl rfl ?_
    refine wi_putI rfl (kd_134 ..) ?_
    refine wi_aload_n rfl rfl ?_
    refine wi_iconst (x := 0) rfl rfl ?_
    refine wi_putI rfl (kd_134 ..) ?_
    refine wi_iload_n rfl rfl ?_
    refine wi_callS1 rfl (by decide) (by decide) rfl rfl rfl (c_mday e_dy ?_)
    refine wi_if_eq rfl (fun _ => ?_) (fun h9 => absurd (by decide) h9)
    refine wi_aload_n rfl rfl ?_
    refine wi_iconst (x := 2) rfl rfl ?_
    refine wi_callV1 rfl (by decide) (by decide) rfl (kd_134 ..) rfl rfl rfl ?_
    refine wi_aload_n rfl rfl ?_
    refine wi_iload_n rfl rfl ?_
    refine wi_putI rfl (kd_134 ..) ?_
    refine wi_iconst (x := (-1)) rfl rfl ?_
    refine wi_iret rfl (Or.inl rfl) ?_
    refine wi_iret rfl (Or.inl rfl) ?_
    refine h2 _ _ _ ?_
    exact ⟨n, t, rfl, ⟨hn0, hn4, hn⟩, ⟨ht0, ht5, ht⟩, hT, hF, hC, hM, hP, hTp, hB, hFa, ⟨c, hc3, hc21, hc, hD, hDi, hW, hre, hsp, hre1, hsp1, hbf⟩, hMk, hfr⟩
  · rcases wn_cases rk 0 9 (by decide) (by decide) with e_rk | ⟨x, l_x, h_x, rfl⟩
    · refine wi_iload_n rfl rfl ?_
      refine wi_callS1 rfl (by decide) (by decide) rfl rfl rfl (c_xday (wn_in (lo := 0) (hi := 999) (by omega) (by omega) (by decide)) ?_)
      refine wi_if_eq rfl (fun h9 => absurd h9 (by decide)) (fun _ => ?_)
      refine wi_iload_n rfl rfl ?_
      refine wi_iconst (x := 0) rfl rfl ?_
      refine wi_bipush (x := 9) rfl rfl ?_
      refine wi_callS3 rfl (by decide) (by decide) rfl rfl rfl (c_wiV e_rk ?_)
      refine wi_if_ne rfl (fun h9 => absurd h9 (by decide)) (fun _ => ?_)
      refine wi_aload_n rfl rfl ?_
      refine wi_iconst (x := 2) rfl rfl ?_
      refine wi_callV1 rfl (by decide) (by decide) rfl (kd_0 ..) rfl rfl rfl ?_
      refine wi_aload_n rfl rfl ?_
      refine wi_iload_n rfl rfl ?_
      refine wi_putI rfl (kd_0 ..) ?_
      refine wi_iconst (x := (-1)) rfl rfl ?_
      refine wi_iret rfl (Or.inl rfl) ?_
      refine wi_iret rfl (Or.inl rfl) ?_
      refine hK _ _ _ _ (fun Q2 h2 => ?_)
      refine wi_aload_n rfl rfl ?_
      refine wi_iconst (x := 0) rfl rfl ?_
      refine wi_putI rfl (kd_134 ..) ?_
      refine wi_aload_n rfl rfl ?_
      refine wi_iconst (x := 0) rfl rfl ?_
      refine wi_putI rfl (kd_134 ..) ?_
      refine wi_iload_n rfl rfl ?_
      refine wi_callS1 rfl (by decide) (by decide) rfl rfl rfl (c_mday (wn_in (lo := 0) (hi := 999) (by omega) (by omega) (by decide)) ?_)
      refine wi_if_eq rfl (fun h9 => absurd h9 (by decide)) (fun _ => ?_)
      refine wi_iload_n rfl rfl ?_
      refine wi_bipush (x := 9) rfl rfl ?_
      refine wi_callS2 rfl (by decide) (by decide) rfl rfl rfl (c_isIn e_rk ?_)
      refine wi_if_ne rfl (fun h9 => absurd h9 (by decide)) (fun _ => ?_)
      refine wi_aload_n rfl rfl ?_
      refine wi_iconst (x := 2) rfl rfl ?_
      refine wi_callV1 rfl (by decide) (by decide) rfl (kd_134 ..) rfl rfl rfl ?_
      refine wi_aload_n rfl rfl ?_
      refine wi_iload_n rfl rfl ?_
      refine wi_putI rfl (kd_134 ..) ?_
      refine wi_iconst (x := (-1)) rfl rfl ?_
      refine wi_iret rfl (Or.inl rfl) ?_
      refine wi_iret rfl (Or.inl rfl) ?_
      refine h2 _ _ _ ?_
      exact ⟨n, t, rfl, ⟨hn0, hn4, hn⟩, ⟨ht0, ht5, ht⟩, hT, hF, hC, hM, hP, hTp, hB, hFa, ⟨c, hc3, hc21, hc, hD, hDi, hW, hre, hsp, hre1, hsp1, hbf⟩, hMk, hfr⟩
    · by_cases hful : c < 8
      · by_cases htk : ∃ k, 0 ≤ k ∧ k < c ∧ mi 61 k = Int32.ofNat dd
        · have htk2 : ∃ k, 0 ≤ k ∧ k < c ∧ mi 148 k = Int32.ofNat dd := by
            obtain ⟨k, h1, h2, h3⟩ := htk
            exact ⟨k, h1, h2, by rw [← (hD k h2).1]; exact h3⟩
          refine wi_iload_n rfl rfl ?_
          refine wi_callS1 rfl (by decide) (by decide) rfl rfl rfl (c_xday (wn_in (lo := 0) (hi := 999) (by omega) (by omega) (by decide)) ?_)
          refine wi_if_eq rfl (fun h9 => absurd h9 (by decide)) (fun _ => ?_)
          refine wi_iload_n rfl rfl ?_
          refine wi_iconst (x := 0) rfl rfl ?_
          refine wi_bipush (x := 9) rfl rfl ?_
          refine wi_callS3 rfl (by decide) (by decide) rfl rfl rfl (c_wiV (wn_in (lo := 0) (hi := 9) (by omega) (by omega) (by decide)) ?_)
          refine wi_if_ne rfl (fun _ => ?_) (fun h9 => absurd (by decide) h9)
          refine wi_aload_n rfl rfl ?_
          refine wi_getR rfl (kd_0 ..) (rd_0_8 _) ?_
          refine wi_callV0 rfl (by decide) (by decide) rfl (kd_60 ..) rfl rfl rfl ?_
          refine wi_aload_n rfl rfl ?_
          refine wi_getIv (v := (Int32.ofNat (c))) rfl (kd_60 ..) hc3 ?_
          refine wi_bipush (x := 8) rfl rfl ?_
          refine wi_icmp_lt rfl (fun _ => ?_) (fun h9 => absurd trivial (by exfalso; have h8 := (not_congr (lt_n (a := c) (b := 8) rfl (rfl : (8 : Int32) = Int32.ofNat 8) (by omega) (by omega))).mp h9; omega))
          refine wi_iconst (x := 0) rfl rfl ?_
          refine wi_iret rfl (by decide) ?_
          refine wi_if_eq rfl (fun _ => ?_) (fun h9 => absurd (by decide) h9)
          refine wi_aload_n rfl rfl ?_
          refine wi_getR rfl (kd_0 ..) (rd_0_8 _) ?_
          refine wi_iload_n rfl rfl ?_
          refine wi_callV1 rfl (by decide) (by decide) rfl (kd_60 ..) rfl rfl rfl (c_tk_yes (q := c) hc3 hc htk ?_)
          refine wi_if_eq rfl (fun h9 => absurd h9 (by decide)) (fun _ => ?_)
          refine wi_aload_n rfl rfl ?_
          refine wi_bipush (x := 7) rfl rfl ?_
          refine wi_callV1 rfl (by decide) (by decide) rfl (kd_0 ..) rfl rfl rfl ?_
          refine wi_aload_n rfl rfl ?_
          refine wi_iload_n rfl rfl ?_
          refine wi_putI rfl (kd_0 ..) ?_
          refine wi_iconst (x := (-1)) rfl rfl ?_
          refine wi_iret rfl (Or.inl rfl) ?_
          refine wi_iret rfl (Or.inl rfl) ?_
          refine hK _ _ _ _ (fun Q2 h2 => ?_)
          refine wi_aload_n rfl rfl ?_
          refine wi_iconst (x := 0) rfl rfl ?_
          refine wi_putI rfl (kd_134 ..) ?_
          refine wi_aload_n rfl rfl ?_
          refine wi_iconst (x := 0) rfl rfl ?_
          refine wi_putI rfl (kd_134 ..) ?_
          refine wi_iload_n rfl rfl ?_
          refine wi_callS1 rfl (by decide) (by decide) rfl rfl rfl (c_mday (wn_in (lo := 0) (hi := 999) (by omega) (by omega) (by decide)) ?_)
          refine wi_if_eq rfl (fun h9 => absurd h9 (by decide)) (fun _ => ?_)
          refine wi_iload_n rfl rfl ?_
          refine wi_bipush (x := 9) rfl rfl ?_
          refine wi_callS2 rfl (by decide) (by decide) rfl rfl rfl (c_isIn (wn_in (lo := 0) (hi := 9) (by omega) (by omega) (by decide)) ?_)
          refine wi_if_ne rfl (fun _ => ?_) (fun h9 => absurd (by decide) h9)
          refine wi_aload_n rfl rfl ?_
          refine wi_getIv (v := (Int32.ofNat (c))) rfl (kd_134 ..) hc21 ?_
          refine wi_bipush (x := 8) rfl rfl ?_
          refine wi_icmp_ne rfl (fun _ => ?_) (fun h9 => absurd trivial (by exfalso; have h8 := (not_congr (ne_n (a := c) (b := 8) rfl (rfl : (8 : Int32) = Int32.ofNat 8) (by omega) (by omega))).mp h9; omega))
          refine wi_iconst (x := 0) rfl rfl ?_
          refine wi_istore_n rfl (Nat.le_of_ble_eq_true rfl) rfl rfl ?_
          refine mm_yes (mi := (u2 (u2 (u2 mi 0 12 (7 : Int32)) 134 1 (0 : Int32)) 134 0 (0 : Int32))) (q := c) hc21 hc ?_ c 0 (by omega) htk2
          refine h2 _ _ _ ?_
          exact ⟨n, t, rfl, ⟨hn0, hn4, hn⟩, ⟨ht0, ht5, ht⟩, hT, hF, hC, hM, hP, hTp, hB, hFa, ⟨c, hc3, hc21, hc, hD, hDi, hW, hre, hsp, hre1, hsp1, hbf⟩, hMk, hfr⟩
        · have hno : ∀ k, 0 ≤ k → k < c → ¬ mi 61 k = Int32.ofNat dd := fun k h1 h2 h3 => htk ⟨k, h1, h2, h3⟩
          have hno2 : ∀ k, 0 ≤ k → k < c → ¬ mi 148 k = Int32.ofNat dd := fun k h1 h2 h3 => hno k h1 h2 (by rw [(hD k h2).1]; exact h3)
          refine wi_iload_n rfl rfl ?_
          refine wi_callS1 rfl (by decide) (by decide) rfl rfl rfl (c_xday (wn_in (lo := 0) (hi := 999) (by omega) (by omega) (by decide)) ?_)
          refine wi_if_eq rfl (fun h9 => absurd h9 (by decide)) (fun _ => ?_)
          refine wi_iload_n rfl rfl ?_
          refine wi_iconst (x := 0) rfl rfl ?_
          refine wi_bipush (x := 9) rfl rfl ?_
          refine wi_callS3 rfl (by decide) (by decide) rfl rfl rfl (c_wiV (wn_in (lo := 0) (hi := 9) (by omega) (by omega) (by decide)) ?_)
          refine wi_if_ne rfl (fun _ => ?_) (fun h9 => absurd (by decide) h9)
          refine wi_aload_n rfl rfl ?_
          refine wi_getR rfl (kd_0 ..) (rd_0_8 _) ?_
          refine wi_callV0 rfl (by decide) (by decide) rfl (kd_60 ..) rfl rfl rfl ?_
          refine wi_aload_n rfl rfl ?_
          refine wi_getIv (v := (Int32.ofNat (c))) rfl (kd_60 ..) hc3 ?_
          refine wi_bipush (x := 8) rfl rfl ?_
          refine wi_icmp_lt rfl (fun _ => ?_) (fun h9 => absurd trivial (by exfalso; have h8 := (not_congr (lt_n (a := c) (b := 8) rfl (rfl : (8 : Int32) = Int32.ofNat 8) (by omega) (by omega))).mp h9; omega))
          refine wi_iconst (x := 0) rfl rfl ?_
          refine wi_iret rfl (by decide) ?_
          refine wi_if_eq rfl (fun _ => ?_) (fun h9 => absurd (by decide) h9)
          refine wi_aload_n rfl rfl ?_
          refine wi_getR rfl (kd_0 ..) (rd_0_8 _) ?_
          refine wi_iload_n rfl rfl ?_
          refine wi_callV1 rfl (by decide) (by decide) rfl (kd_60 ..) rfl rfl rfl (c_tk_no (q := c) hc3 hc hno ?_)
          refine wi_if_eq rfl (fun _ => ?_) (fun h9 => absurd (by decide) h9)
          refine wi_aload_n rfl rfl ?_
          refine wi_aload_n rfl rfl ?_
          refine wi_getR rfl (kd_0 ..) (rd_0_8 _) ?_
          refine wi_iload_n rfl rfl ?_
          refine wi_iload_n rfl rfl ?_
          refine wi_callV2 rfl (by decide) (by decide) rfl (kd_60 ..) rfl rfl rfl ?_
          refine wi_aload_n rfl rfl ?_
          refine wi_callV0 rfl (by decide) (by decide) rfl (kd_60 ..) rfl rfl rfl ?_
          refine wi_aload_n rfl rfl ?_
          refine wi_getIv (v := (Int32.ofNat (c))) rfl (kd_60 ..) hc3 ?_
          refine wi_bipush (x := 8) rfl rfl ?_
          refine wi_icmp_lt rfl (fun _ => ?_) (fun h9 => absurd trivial (by exfalso; have h8 := (not_congr (lt_n (a := c) (b := 8) rfl (rfl : (8 : Int32) = Int32.ofNat 8) (by omega) (by omega))).mp h9; omega))
          refine wi_iconst (x := 0) rfl rfl ?_
          refine wi_iret rfl (by decide) ?_
          refine wi_if_eq rfl (fun _ => ?_) (fun h9 => absurd (by decide) h9)
          refine wi_aload_n rfl rfl ?_
          refine wi_getR rfl (kd_60 ..) (rd_60_0 _) ?_
          refine wi_aload_n rfl rfl ?_
          refine wi_getIv (v := (Int32.ofNat (c))) rfl (kd_60 ..) hc3 ?_
          refine wi_iload_n rfl rfl ?_
          refine wn_iastore (q := c) rfl (ln_61 ..) rfl (by omega) (by decide) ?_
          refine wi_aload_n rfl rfl ?_
          refine wi_getR rfl (kd_60 ..) (rd_60_1 _) ?_
          refine wi_aload_n rfl rfl ?_
          refine wi_getIv (v := (Int32.ofNat (c))) rfl (kd_60 ..) hc3 ?_
          refine wi_iload_n rfl rfl ?_
          refine wn_iastore (q := c) rfl (ln_62 ..) rfl (by omega) (by decide) ?_
          refine wi_aload_n rfl rfl ?_
          refine wi_dup rfl rfl ?_
          refine wi_getIv (v := (Int32.ofNat (c))) rfl (kd_60 ..) hc3 ?_
          refine wi_iconst (x := 1) rfl rfl ?_
          refine wn_iadd (z := (Int32.ofNat (c + 1))) rfl (add_n (a := c) (b := 1) rfl (rfl : (1 : Int32) = Int32.ofNat 1)) ?_
          refine wi_putI rfl (kd_60 ..) ?_
          refine wi_aload_n rfl rfl ?_
          refine wi_callV0 rfl (by decide) (by decide) rfl (kd_60 ..) rfl rfl rfl ?_
          refine wi_aload_n rfl rfl ?_
          refine wi_iconst (x := (-1)) rfl rfl ?_
          refine wi_putI rfl (kd_60 ..) ?_
          refine wi_ret rfl ?_
          refine wi_aload_n rfl rfl ?_
          refine wi_getIv (v := (Int32.ofNat (c + 1))) rfl (kd_60 ..) rfl ?_
          refine wi_iconst (x := 1) rfl rfl ?_
          refine wn_isub (z := (Int32.ofNat (c + 1 - 1))) rfl (sub_n (a := c + 1) (b := 1) rfl (rfl : (1 : Int32) = Int32.ofNat 1) (by omega)) ?_
          refine wi_iret rfl (Or.inl rfl) ?_
          refine wi_callV1 rfl (by decide) (by decide) rfl (kd_0 ..) rfl rfl rfl ?_
          refine wi_aload_n rfl rfl ?_
          refine wi_iconst (x := 0) rfl rfl ?_
          refine wi_putI rfl (kd_0 ..) ?_
          refine wi_iload_n rfl rfl ?_
          refine wi_iret rfl (Or.inl rfl) ?_
          refine wi_iret rfl (Or.inl rfl) ?_
          refine hK _ _ _ _ (fun Q2 h2 => ?_)
          refine wi_aload_n rfl rfl ?_
          refine wi_iconst (x := 0) rfl rfl ?_
          refine wi_putI rfl (kd_134 ..) ?_
          refine wi_aload_n rfl rfl ?_
          refine wi_iconst (x := 0) rfl rfl ?_
          refine wi_putI rfl (kd_134 ..) ?_
          refine wi_iload_n rfl rfl ?_
          refine wi_callS1 rfl (by decide) (by decide) rfl rfl rfl (c_mday (wn_in (lo := 0) (hi := 999) (by omega) (by omega) (by decide)) ?_)
          refine wi_if_eq rfl (fun h9 => absurd h9 (by decide)) (fun _ => ?_)
          refine wi_iload_n rfl rfl ?_
          refine wi_bipush (x := 9) rfl rfl ?_
          refine wi_callS2 rfl (by decide) (by decide) rfl rfl rfl (c_isIn (wn_in (lo := 0) (hi := 9) (by omega) (by omega) (by decide)) ?_)
          refine wi_if_ne rfl (fun _ => ?_) (fun h9 => absurd (by decide) h9)
          refine wi_aload_n rfl rfl ?_
          refine wi_getIv (v := (Int32.ofNat (c))) rfl (kd_134 ..) hc21 ?_
          refine wi_bipush (x := 8) rfl rfl ?_
          refine wi_icmp_ne rfl (fun _ => ?_) (fun h9 => absurd trivial (by exfalso; have h8 := (not_congr (ne_n (a := c) (b := 8) rfl (rfl : (8 : Int32) = Int32.ofNat 8) (by omega) (by omega))).mp h9; omega))
          refine wi_iconst (x := 0) rfl rfl ?_
          refine wi_istore_n rfl (Nat.le_of_ble_eq_true rfl) rfl rfl ?_
          refine mm_no (mi := (u2 (u2 (u2 (u2 (u2 (u2 (u2 mi 61 c ((Int32.ofNat (dd)))) 62 c ((Int32.ofNat (x)))) 60 3 ((Int32.ofNat (c + 1)))) 60 10 (-1 : Int32)) 0 12 (0 : Int32)) 134 1 (0 : Int32)) 134 0 (0 : Int32))) (q := c) hc21 hc ?_ c 0 (by omega) hno2
          refine wi_aload_n rfl rfl ?_
          refine wi_getR rfl (kd_134 ..) (rd_134_24 _) ?_
          refine wi_aload_n rfl rfl ?_
          refine wi_getIv (v := (Int32.ofNat (c))) rfl (kd_134 ..) hc21 ?_
          refine wi_iload_n rfl rfl ?_
          refine wn_iastore (q := c) rfl (ln_148 ..) rfl (by omega) (by decide) ?_
          refine wi_aload_n rfl rfl ?_
          refine wi_getR rfl (kd_134 ..) (rd_134_25 _) ?_
          refine wi_aload_n rfl rfl ?_
          refine wi_getIv (v := (Int32.ofNat (c))) rfl (kd_134 ..) hc21 ?_
          refine wi_iload_n rfl rfl ?_
          refine wn_iastore (q := c) rfl (ln_149 ..) rfl (by omega) (by decide) ?_
          refine wi_iconst (x := 0) rfl rfl ?_
          refine wi_istore_n rfl (Nat.le_of_ble_eq_true rfl) rfl rfl ?_
          refine wi_iload_n rfl rfl ?_
          refine wi_bipush (x := 8) rfl rfl ?_
          refine wi_icmp_ge rfl (fun h9 => absurd h9 (by decide)) (fun _ => ?_)
          refine wi_aload_n rfl rfl ?_
          refine wi_getR rfl (kd_134 ..) (rd_134_26 _) ?_
          refine wi_bipush (x := 8) rfl rfl ?_
          refine wi_aload_n rfl rfl ?_
          refine wi_getIv (v := (Int32.ofNat (c))) rfl (kd_134 ..) hc21 ?_
          refine wn_imul (z := (Int32.ofNat (8 * c))) rfl (mul_n (a := 8) (b := c) (rfl : (8 : Int32) = Int32.ofNat 8) rfl) ?_
          refine wi_iload_n rfl rfl ?_
          refine wn_iadd (z := (Int32.ofNat (8 * c + 0))) rfl (add_n (a := 8 * c) (b := 0) rfl (rfl : (0 : Int32) = Int32.ofNat 0)) ?_
          refine wi_bipush (x := 50) rfl rfl ?_
          refine wn_iastore (q := 8 * c + 0) rfl (ln_150 ..) rfl (by omega) (by decide) ?_
          refine wi_iinc (z := (1 : Int32)) rfl rfl rfl (by decide) rfl ?_
          refine wi_goto rfl ?_
          refine wi_iload_n rfl rfl ?_
          refine wi_bipush (x := 8) rfl rfl ?_
          refine wi_icmp_ge rfl (fun h9 => absurd h9 (by decide)) (fun _ => ?_)
          refine wi_aload_n rfl rfl ?_
          refine wi_getR rfl (kd_134 ..) (rd_134_26 _) ?_
          refine wi_bipush (x := 8) rfl rfl ?_
          refine wi_aload_n rfl rfl ?_
          refine wi_getIv (v := (Int32.ofNat (c))) rfl (kd_134 ..) hc21 ?_
          refine wn_imul (z := (Int32.ofNat (8 * c))) rfl (mul_n (a := 8) (b := c) (rfl : (8 : Int32) = Int32.ofNat 8) rfl) ?_
          refine wi_iload_n rfl rfl ?_
          refine wn_iadd (z := (Int32.ofNat (8 * c + 1))) rfl (add_n (a := 8 * c) (b := 1) rfl (rfl : (1 : Int32) = Int32.ofNat 1)) ?_
          refine wi_bipush (x := 50) rfl rfl ?_
          refine wn_iastore (q := 8 * c + 1) rfl (ln_150 ..) rfl (by omega) (by decide) ?_
          refine wi_iinc (z := (2 : Int32)) rfl rfl rfl (by decide) rfl ?_
          refine wi_goto rfl ?_
          refine wi_iload_n rfl rfl ?_
          refine wi_bipush (x := 8) rfl rfl ?_
          refine wi_icmp_ge rfl (fun h9 => absurd h9 (by decide)) (fun _ => ?_)
          refine wi_aload_n rfl rfl ?_
          refine wi_getR rfl (kd_134 ..) (rd_134_26 _) ?_
          refine wi_bipush (x := 8) rfl rfl ?_
          refine wi_aload_n rfl rfl ?_
          refine wi_getIv (v := (Int32.ofNat (c))) rfl (kd_134 ..) hc21 ?_
          refine wn_imul (z := (Int32.ofNat (8 * c))) rfl (mul_n (a := 8) (b := c) (rfl : (8 : Int32) = Int32.ofNat 8) rfl) ?_
          refine wi_iload_n rfl rfl ?_
          refine wn_iadd (z := (Int32.ofNat (8 * c + 2))) rfl (add_n (a := 8 * c) (b := 2) rfl (rfl : (2 : Int32) = Int32.ofNat 2)) ?_
          refine wi_bipush (x := 50) rfl rfl ?_
          refine wn_iastore (q := 8 * c + 2) rfl (ln_150 ..) rfl (by omega) (by decide) ?_
          refine wi_iinc (z := (3 : Int32)) rfl rfl rfl (by decide) rfl ?_
          refine wi_goto rfl ?_
          refine wi_iload_n rfl rfl ?_
          refine wi_bipush (x := 8) rfl rfl ?_
          refine wi_icmp_ge rfl (fun h9 => absurd h9 (by decide)) (fun _ => ?_)
          refine wi_aload_n rfl rfl ?_
          refine wi_getR rfl (kd_134 ..) (rd_134_26 _) ?_
          refine wi_bipush (x := 8) rfl rfl ?_
          refine wi_aload_n rfl rfl ?_
          refine wi_getIv (v := (Int32.ofNat (c))) rfl (kd_134 ..) hc21 ?_
          refine wn_imul (z := (Int32.ofNat (8 * c))) rfl (mul_n (a := 8) (b := c) (rfl : (8 : Int32) = Int32.ofNat 8) rfl) ?_
          refine wi_iload_n rfl rfl ?_
          refine wn_iadd (z := (Int32.ofNat (8 * c + 3))) rfl (add_n (a := 8 * c) (b := 3) rfl (rfl : (3 : Int32) = Int32.ofNat 3)) ?_
          refine wi_bipush (x := 50) rfl rfl ?_
          refine wn_iastore (q := 8 * c + 3) rfl (ln_150 ..) rfl (by omega) (by decide) ?_
          refine wi_iinc (z := (4 : Int32)) rfl rfl rfl (by decide) rfl ?_
          refine wi_goto rfl ?_
          refine wi_iload_n rfl rfl ?_
          refine wi_bipush (x := 8) rfl rfl ?_
          refine wi_icmp_ge rfl (fun h9 => absurd h9 (by decide)) (fun _ => ?_)
          refine wi_aload_n rfl rfl ?_
          refine wi_getR rfl (kd_134 ..) (rd_134_26 _) ?_
          refine wi_bipush (x := 8) rfl rfl ?_
          refine wi_aload_n rfl rfl ?_
          refine wi_getIv (v := (Int32.ofNat (c))) rfl (kd_134 ..) hc21 ?_
          refine wn_imul (z := (Int32.ofNat (8 * c))) rfl (mul_n (a := 8) (b := c) (rfl : (8 : Int32) = Int32.ofNat 8) rfl) ?_
          refine wi_iload_n rfl rfl ?_
          refine wn_iadd (z := (Int32.ofNat (8 * c + 4))) rfl (add_n (a := 8 * c) (b := 4) rfl (rfl : (4 : Int32) = Int32.ofNat 4)) ?_
          refine wi_bipush (x := 50) rfl rfl ?_
          refine wn_iastore (q := 8 * c + 4) rfl (ln_150 ..) rfl (by omega) (by decide) ?_
          refine wi_iinc (z := (5 : Int32)) rfl rfl rfl (by decide) rfl ?_
          refine wi_goto rfl ?_
          refine wi_iload_n rfl rfl ?_
          refine wi_bipush (x := 8) rfl rfl ?_
          refine wi_icmp_ge rfl (fun h9 => absurd h9 (by decide)) (fun _ => ?_)
          refine wi_aload_n rfl rfl ?_
          refine wi_getR rfl (kd_134 ..) (rd_134_26 _) ?_
          refine wi_bipush (x := 8) rfl rfl ?_
          refine wi_aload_n rfl rfl ?_
          refine wi_getIv (v := (Int32.ofNat (c))) rfl (kd_134 ..) hc21 ?_
          refine wn_imul (z := (Int32.ofNat (8 * c))) rfl (mul_n (a := 8) (b := c) (rfl : (8 : Int32) = Int32.ofNat 8) rfl) ?_
          refine wi_iload_n rfl rfl ?_
          refine wn_iadd (z := (Int32.ofNat (8 * c + 5))) rfl (add_n (a := 8 * c) (b := 5) rfl (rfl : (5 : Int32) = Int32.ofNat 5)) ?_
          refine wi_bipush (x := 50) rfl rfl ?_
          refine wn_iastore (q := 8 * c + 5) rfl (ln_150 ..) rfl (by omega) (by decide) ?_
          refine wi_iinc (z := (6 : Int32)) rfl rfl rfl (by decide) rfl ?_
          refine wi_goto rfl ?_
          refine wi_iload_n rfl rfl ?_
          refine wi_bipush (x := 8) rfl rfl ?_
          refine wi_icmp_ge rfl (fun h9 => absurd h9 (by decide)) (fun _ => ?_)
          refine wi_aload_n rfl rfl ?_
          refine wi_getR rfl (kd_134 ..) (rd_134_26 _) ?_
          refine wi_bipush (x := 8) rfl rfl ?_
          refine wi_aload_n rfl rfl ?_
          refine wi_getIv (v := (Int32.ofNat (c))) rfl (kd_134 ..) hc21 ?_
          refine wn_imul (z := (Int32.ofNat (8 * c))) rfl (mul_n (a := 8) (b := c) (rfl : (8 : Int32) = Int32.ofNat 8) rfl) ?_
          refine wi_iload_n rfl rfl ?_
          refine wn_iadd (z := (Int32.ofNat (8 * c + 6))) rfl (add_n (a := 8 * c) (b := 6) rfl (rfl : (6 : Int32) = Int32.ofNat 6)) ?_
          refine wi_bipush (x := 50) rfl rfl ?_
          refine wn_iastore (q := 8 * c + 6) rfl (ln_150 ..) rfl (by omega) (by decide) ?_
          refine wi_iinc (z := (7 : Int32)) rfl rfl rfl (by decide) rfl ?_
          refine wi_goto rfl ?_
          refine wi_iload_n rfl rfl ?_
          refine wi_bipush (x := 8) rfl rfl ?_
          refine wi_icmp_ge rfl (fun h9 => absurd h9 (by decide)) (fun _ => ?_)
          refine wi_aload_n rfl rfl ?_
          refine wi_getR rfl (kd_134 ..) (rd_134_26 _) ?_
          refine wi_bipush (x := 8) rfl rfl ?_
          refine wi_aload_n rfl rfl ?_
          refine wi_getIv (v := (Int32.ofNat (c))) rfl (kd_134 ..) hc21 ?_
          refine wn_imul (z := (Int32.ofNat (8 * c))) rfl (mul_n (a := 8) (b := c) (rfl : (8 : Int32) = Int32.ofNat 8) rfl) ?_
          refine wi_iload_n rfl rfl ?_
          refine wn_iadd (z := (Int32.ofNat (8 * c + 7))) rfl (add_n (a := 8 * c) (b := 7) rfl (rfl : (7 : Int32) = Int32.ofNat 7)) ?_
          refine wi_bipush (x := 50) rfl rfl ?_
          refine wn_iastore (q := 8 * c + 7) rfl (ln_150 ..) rfl (by omega) (by decide) ?_
          refine wi_iinc (z := (8 : Int32)) rfl rfl rfl (by decide) rfl ?_
          refine wi_goto rfl ?_
          refine wi_iload_n rfl rfl ?_
          refine wi_bipush (x := 8) rfl rfl ?_
          refine wi_icmp_ge rfl (fun _ => ?_) (fun h9 => absurd (by decide) h9)
          refine wi_aload_n rfl rfl ?_
          refine wi_dup rfl rfl ?_
          refine wi_getIv (v := (Int32.ofNat (c))) rfl (kd_134 ..) hc21 ?_
          refine wi_iconst (x := 1) rfl rfl ?_
          refine wn_iadd (z := (Int32.ofNat (c + 1))) rfl (add_n (a := c) (b := 1) rfl (rfl : (1 : Int32) = Int32.ofNat 1)) ?_
          refine wi_putI rfl (kd_134 ..) ?_
          refine wi_aload_n rfl rfl ?_
          refine wi_getIv (v := (Int32.ofNat (c + 1))) rfl (kd_134 ..) rfl ?_
          refine wi_iconst (x := 1) rfl rfl ?_
          refine wn_isub (z := (Int32.ofNat (c + 1 - 1))) rfl (sub_n (a := c + 1) (b := 1) rfl (rfl : (1 : Int32) = Int32.ofNat 1) (by omega)) ?_
          refine wi_iret rfl (Or.inl rfl) ?_
          refine h2 _ _ _ ?_
          exact ⟨n, t, rfl, ⟨hn0, hn4, hn⟩, ⟨ht0, ht5, ht⟩, hT, hF, hC, hM, hP, hTp, hB, hFa, rSea_match hful hD hDi hW hre hsp hre1 hsp1 h_dd h_x hno, hMk, hfr⟩
      · refine wi_iload_n rfl rfl ?_
        refine wi_callS1 rfl (by decide) (by decide) rfl rfl rfl (c_xday (wn_in (lo := 0) (hi := 999) (by omega) (by omega) (by decide)) ?_)
        refine wi_if_eq rfl (fun h9 => absurd h9 (by decide)) (fun _ => ?_)
        refine wi_iload_n rfl rfl ?_
        refine wi_iconst (x := 0) rfl rfl ?_
        refine wi_bipush (x := 9) rfl rfl ?_
        refine wi_callS3 rfl (by decide) (by decide) rfl rfl rfl (c_wiV (wn_in (lo := 0) (hi := 9) (by omega) (by omega) (by decide)) ?_)
        refine wi_if_ne rfl (fun _ => ?_) (fun h9 => absurd (by decide) h9)
        refine wi_aload_n rfl rfl ?_
        refine wi_getR rfl (kd_0 ..) (rd_0_8 _) ?_
        refine wi_callV0 rfl (by decide) (by decide) rfl (kd_60 ..) rfl rfl rfl ?_
        refine wi_aload_n rfl rfl ?_
        refine wi_getIv (v := (Int32.ofNat (c))) rfl (kd_60 ..) hc3 ?_
        refine wi_bipush (x := 8) rfl rfl ?_
        refine wi_icmp_lt rfl (fun h9 => absurd trivial (by exfalso; have h8 := (lt_n (a := c) (b := 8) rfl (rfl : (8 : Int32) = Int32.ofNat 8) (by omega) (by omega)).mp h9; omega)) (fun _ => ?_)
        refine wi_iconst (x := 1) rfl rfl ?_
        refine wi_goto rfl ?_
        refine wi_iret rfl (by decide) ?_
        refine wi_if_eq rfl (fun h9 => absurd h9 (by decide)) (fun _ => ?_)
        refine wi_aload_n rfl rfl ?_
        refine wi_iconst (x := 3) rfl rfl ?_
        refine wi_callV1 rfl (by decide) (by decide) rfl (kd_0 ..) rfl rfl rfl ?_
        refine wi_aload_n rfl rfl ?_
        refine wi_iload_n rfl rfl ?_
        refine wi_putI rfl (kd_0 ..) ?_
        refine wi_iconst (x := (-1)) rfl rfl ?_
        refine wi_iret rfl (Or.inl rfl) ?_
        refine wi_iret rfl (Or.inl rfl) ?_
        refine hK _ _ _ _ (fun Q2 h2 => ?_)
        refine wi_aload_n rfl rfl ?_
        refine wi_iconst (x := 0) rfl rfl ?_
        refine wi_putI rfl (kd_134 ..) ?_
        refine wi_aload_n rfl rfl ?_
        refine wi_iconst (x := 0) rfl rfl ?_
        refine wi_putI rfl (kd_134 ..) ?_
        refine wi_iload_n rfl rfl ?_
        refine wi_callS1 rfl (by decide) (by decide) rfl rfl rfl (c_mday (wn_in (lo := 0) (hi := 999) (by omega) (by omega) (by decide)) ?_)
        refine wi_if_eq rfl (fun h9 => absurd h9 (by decide)) (fun _ => ?_)
        refine wi_iload_n rfl rfl ?_
        refine wi_bipush (x := 9) rfl rfl ?_
        refine wi_callS2 rfl (by decide) (by decide) rfl rfl rfl (c_isIn (wn_in (lo := 0) (hi := 9) (by omega) (by omega) (by decide)) ?_)
        refine wi_if_ne rfl (fun _ => ?_) (fun h9 => absurd (by decide) h9)
        refine wi_aload_n rfl rfl ?_
        refine wi_getIv (v := (Int32.ofNat (c))) rfl (kd_134 ..) hc21 ?_
        refine wi_bipush (x := 8) rfl rfl ?_
        refine wi_icmp_ne rfl (fun h9 => absurd trivial (by exfalso; have h8 := (ne_n (a := c) (b := 8) rfl (rfl : (8 : Int32) = Int32.ofNat 8) (by omega) (by omega)).mp h9; omega)) (fun _ => ?_)
        refine wi_aload_n rfl rfl ?_
        refine wi_iconst (x := 3) rfl rfl ?_
        refine wi_callV1 rfl (by decide) (by decide) rfl (kd_134 ..) rfl rfl rfl ?_
        refine wi_aload_n rfl rfl ?_
        refine wi_iload_n rfl rfl ?_
        refine wi_putI rfl (kd_134 ..) ?_
        refine wi_iconst (x := (-1)) rfl rfl ?_
        refine wi_iret rfl (Or.inl rfl) ?_
        refine wi_iret rfl (Or.inl rfl) ?_
        refine h2 _ _ _ ?_
        exact ⟨n, t, rfl, ⟨hn0, hn4, hn⟩, ⟨ht0, ht5, ht⟩, hT, hF, hC, hM, hP, hTp, hB, hFa, ⟨c, hc3, hc21, hc, hD, hDi, hW, hre, hsp, hre1, hsp1, hbf⟩, hMk, hfr⟩
