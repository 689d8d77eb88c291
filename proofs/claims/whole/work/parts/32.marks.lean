/-! ===== mark, part ===== -/
theorem cntN_congr {p p' : Nat → Bool} {n : Nat} (h : ∀ k, k < n → p k = p' k) : cntN p n = cntN p' n := by
  induction n with
  | zero => rfl
  | succ n ih =>
    show cntN p n + _ = cntN p' n + _
    rw [ih (fun k hk => h k (by omega)), h n (by omega)]
theorem sumN_congr {p p' : Nat → Bool} {f f' : Nat → Nat} {n : Nat} (h : ∀ k, k < n → p k = p' k) (hf : ∀ k, k < n → f k = f' k) : sumN p f n = sumN p' f' n := by
  induction n with
  | zero => rfl
  | succ n ih =>
    show sumN p f n + _ = sumN p' f' n + _
    rw [ih (fun k hk => h k (by omega)) (fun k hk => hf k (by omega)), h n (by omega), hf n (by omega)]
theorem cntN_le {p : Nat → Bool} {n : Nat} : cntN p n ≤ n := by
  induction n with
  | zero => exact Nat.le_refl _
  | succ n ih =>
    show cntN p n + _ ≤ _
    split <;> omega
theorem sumN_le {p : Nat → Bool} {f : Nat → Nat} {n z : Nat} (h : ∀ k, k < n → f k ≤ z) : sumN p f n ≤ z * n := by
  induction n with
  | zero => exact Nat.zero_le _
  | succ n ih =>
    have h1 := ih (fun k hk => h k (by omega))
    have h2 := h n (by omega)
    show sumN p f n + _ ≤ _
    rw [Nat.mul_succ]
    split <;> omega
theorem clN_upd {f : Nat → Int32} {q z k : Nat} (hz : z < 2147483648) : clN (fun i => if i = q then Int32.ofNat z else f i) k = if k = q then z else clN f k := by
  unfold clN
  by_cases h : k = q
  · simp only [if_pos h]
    exact cl_n rfl hz
  · simp only [if_neg h]
theorem clN_of {f : Nat → Int32} {k hi : Nat} (h : rB (f k) 0 hi) : f k = Int32.ofNat (clN f k) ∧ clN f k ≤ hi := by
  obtain ⟨q, e, hq⟩ := nat_of h.1
  have h2 := h.2
  have h3 := (f k).toInt_lt
  unfold clN
  rw [cl_n e (by omega)]
  exact ⟨e, by omega⟩
theorem rMk_add {q : Nat} {C S C2 S2 : Nat → Nat → Int32} {RC RS : Nat → Int64} {of by' va : Nat → Int32} (hq : q < 100) (h1 : ∀ k, k < q → rB (of k) 0 7 ∧ rB (by' k) 0 2 ∧ rB (va k) 0 10)
    (h2 : ∀ m, m < 8 → ∀ r, r < 3 → C m r = Int32.ofNat (cntN (fun k => clN of k == m && clN by' k == r) q) ∧ S m r = Int32.ofNat (sumN (fun k => clN of k == m && clN by' k == r) (clN va) q))
    (h3 : ∀ r, r < 3 → RC r = Int64.ofNat (cntN (fun k => clN by' k == r) q) ∧ RS r = Int64.ofNat (sumN (fun k => clN by' k == r) (clN va) q)) {m r v : Nat} (hm : m < 8) (hr : r < 3) (hv : v ≤ 10)
    (hC : ∀ z, z < 8 → C2 z = if z = m then (fun i => if i = r then Int32.ofNat (cntN (fun k => clN of k == m && clN by' k == r) q + 1) else C m i) else C z)
    (hS : ∀ z, z < 8 → S2 z = if z = m then (fun i => if i = r then Int32.ofNat (sumN (fun k => clN of k == m && clN by' k == r) (clN va) q + v) else S m i) else S z) :
    rMk (Int64.ofNat (q + 1)) (Int64.ofNat (sumN (fun _ => true) (clN va) q + v)) C2 S2 (fun i => if i = r then Int64.ofNat (cntN (fun k => clN by' k == r) q + 1) else RC i) (fun i => if i = r then Int64.ofNat (sumN (fun k => clN by' k == r) (clN va) q + v) else RS i) (Int32.ofNat (q + 1)) (fun i => if i = q then Int32.ofNat m else of i) (fun i => if i = q then Int32.ofNat r else by' i) (fun i => if i = q then Int32.ofNat v else va i) := by
  have eo : clN (fun i => if i = q then Int32.ofNat m else of i) = fun k => if k = q then m else clN of k := funext (fun k => clN_upd (by omega))
  have eb : clN (fun i => if i = q then Int32.ofNat r else by' i) = fun k => if k = q then r else clN by' k := funext (fun k => clN_upd (by omega))
  have ev : clN (fun i => if i = q then Int32.ofNat v else va i) = fun k => if k = q then v else clN va k := funext (fun k => clN_upd (by omega))
  have c1 : ∀ z y, cntN (fun k => (if k = q then m else clN of k) == z && (if k = q then r else clN by' k) == y) (q + 1) = cntN (fun k => clN of k == z && clN by' k == y) q + if m = z ∧ r = y then 1 else 0 := by
    intro z y
    show cntN _ q + _ = _
    rw [cntN_congr (p' := fun k => clN of k == z && clN by' k == y) (fun k hk => by simp only [if_neg (show k ≠ q by omega)])]
    congr 1
    simp
  have s1 : ∀ z y, sumN (fun k => (if k = q then m else clN of k) == z && (if k = q then r else clN by' k) == y) (fun k => if k = q then v else clN va k) (q + 1) = sumN (fun k => clN of k == z && clN by' k == y) (clN va) q + if m = z ∧ r = y then v else 0 := by
    intro z y
    show sumN _ _ q + _ = _
    rw [sumN_congr (p' := fun k => clN of k == z && clN by' k == y) (f' := clN va) (fun k hk => by simp only [if_neg (show k ≠ q by omega)]) (fun k hk => by simp only [if_neg (show k ≠ q by omega)])]
    congr 1
    simp
  have c2 : ∀ y, cntN (fun k => (if k = q then r else clN by' k) == y) (q + 1) = cntN (fun k => clN by' k == y) q + if r = y then 1 else 0 := by
    intro y
    show cntN _ q + _ = _
    rw [cntN_congr (p' := fun k => clN by' k == y) (fun k hk => by simp only [if_neg (show k ≠ q by omega)])]
    congr 1
    simp
  have s2 : ∀ y, sumN (fun k => (if k = q then r else clN by' k) == y) (fun k => if k = q then v else clN va k) (q + 1) = sumN (fun k => clN by' k == y) (clN va) q + if r = y then v else 0 := by
    intro y
    show sumN _ _ q + _ = _
    rw [sumN_congr (p' := fun k => clN by' k == y) (f' := clN va) (fun k hk => by simp only [if_neg (show k ≠ q by omega)]) (fun k hk => by simp only [if_neg (show k ≠ q by omega)])]
    congr 1
    simp
  have s3 : sumN (fun _ => true) (fun k => if k = q then v else clN va k) (q + 1) = sumN (fun _ => true) (clN va) q + v := by
    show sumN _ _ q + _ = _
    rw [sumN_congr (p' := fun _ => true) (f' := clN va) (fun k hk => rfl) (fun k hk => by simp only [if_neg (show k ≠ q by omega)])]
    simp
  refine ⟨q + 1, by omega, rfl, fun k hk => ?_, fun z hz y hy => ?_, fun y hy => ?_, rfl, ?_⟩
  · by_cases e : k = q
    · simp only [if_pos e]
      exact ⟨rB_of (hi := 7) (by omega) (by decide), rB_of (hi := 2) (by omega) (by decide), rB_of (hi := 10) hv (by decide)⟩
    · simp only [if_neg e]
      exact h1 k (by omega)
  · rw [eo, eb, ev, c1, s1, hC z hz, hS z hz]
    obtain ⟨g1, g2⟩ := h2 z hz y hy
    by_cases e : z = m
    · subst e
      simp only [if_true]
      by_cases e2 : y = r
      · subst e2
        simp
      · simp only [if_neg e2]
        rw [if_neg (fun h => e2 h.2.symm), if_neg (fun h => e2 h.2.symm)]
        exact ⟨g1, g2⟩
    · simp only [if_neg e]
      rw [if_neg (fun h => e h.1.symm), if_neg (fun h => e h.1.symm)]
      exact ⟨g1, g2⟩
  · rw [eb, ev, c2, s2]
    obtain ⟨g1, g2⟩ := h3 y hy
    by_cases e2 : y = r
    · subst e2
      simp
    · simp only [if_neg e2]
      rw [if_neg (fun h => e2 h.symm), if_neg (fun h => e2 h.symm)]
      exact ⟨g1, g2⟩
  · rw [ev, s3]
theorem RM_fr {mi mi2 : Nat → Nat → Int32} {ml : Nat → Nat → Int64} {b : Bool} {n t : Nat} (ho : ∀ a, a < 77 ∨ 94 ≤ a → mi2 a = mi a) (h : RR mi ml b n t) : mi2 0 12 = mi2 134 0 ∧ (mi2 0 13 = Int32.ofNat n ∧ mi2 134 4 = Int32.ofNat n ∧ n ≤ 8) ∧ (mi2 0 14 = Int32.ofNat t ∧ mi2 134 5 = Int32.ofNat t ∧ t ≤ 999) ∧ rTurf n (r8 (mi2 126) (mi2 127) (mi2 128) (mi2 129) (mi2 130) (mi2 131) (mi2 132) (mi2 133)) (mi2 135) (mi2 136) (mi2 137) ∧ rWea (mi2 4) (mi2 5) (mi2 138) (mi2 139) ∧ rWea (mi2 7) (mi2 8) (mi2 140) (mi2 141) ∧ rMeas n (mi2 9 3) (mi2 134 14) (mi2 10) (mi2 11) (mi2 12) (mi2 143) (mi2 144) (mi2 145) ∧ rPlan (mi2 13 5) (mi2 134 20) (mi2 16) (mi2 147) ∧ rTape (mi2 26 1) (mi2 134 35) (mi2 27) (mi2 157) ∧ rBk mi2 b ∧ (mi2 28 11 = mi2 134 37 ∧ mi2 28 12 = mi2 134 38) ∧ rSea (mi2 60 3) (mi2 134 21) (mi2 61) (mi2 62) (mi2 148) (mi2 149) (r8 (mi2 64) (mi2 65) (mi2 66) (mi2 67) (mi2 68) (mi2 69) (mi2 70) (mi2 71)) (mi2 150) (mi2 60 4) (mi2 134 22) (mi2 60 5) (mi2 134 23) (mi2 60 10) (ml 60 9) ∧ (ml 96 0 = ml 134 2 ∧ ml 96 1 = ml 134 3) := by
  obtain ⟨hst, hn, ht, hT, hF, hC, hM, hP, hTp, hB, hFa, hS, -, hfr⟩ := h
  unfold rBk at hB ⊢
  simp only [ho 0 (by omega), ho 4 (by omega), ho 5 (by omega), ho 7 (by omega), ho 8 (by omega), ho 9 (by omega), ho 10 (by omega), ho 11 (by omega), ho 12 (by omega), ho 13 (by omega), ho 16 (by omega), ho 26 (by omega), ho 27 (by omega), ho 28 (by omega), ho 31 (by omega), ho 32 (by omega), ho 34 (by omega), ho 35 (by omega), ho 36 (by omega), ho 37 (by omega), ho 38 (by omega), ho 39 (by omega), ho 40 (by omega), ho 41 (by omega), ho 43 (by omega), ho 44 (by omega), ho 45 (by omega), ho 46 (by omega), ho 47 (by omega), ho 48 (by omega), ho 49 (by omega), ho 50 (by omega), ho 52 (by omega), ho 53 (by omega), ho 54 (by omega), ho 55 (by omega), ho 56 (by omega), ho 57 (by omega), ho 58 (by omega), ho 59 (by omega), ho 60 (by omega), ho 61 (by omega), ho 62 (by omega), ho 64 (by omega), ho 65 (by omega), ho 66 (by omega), ho 67 (by omega), ho 68 (by omega), ho 69 (by omega), ho 70 (by omega), ho 71 (by omega), ho 97 (by omega), ho 98 (by omega), ho 100 (by omega), ho 101 (by omega), ho 102 (by omega), ho 103 (by omega), ho 104 (by omega), ho 105 (by omega), ho 106 (by omega), ho 107 (by omega), ho 109 (by omega), ho 110 (by omega), ho 111 (by omega), ho 112 (by omega), ho 113 (by omega), ho 114 (by omega), ho 115 (by omega), ho 116 (by omega), ho 118 (by omega), ho 119 (by omega), ho 120 (by omega), ho 121 (by omega), ho 122 (by omega), ho 123 (by omega), ho 124 (by omega), ho 125 (by omega), ho 126 (by omega), ho 127 (by omega), ho 128 (by omega), ho 129 (by omega), ho 130 (by omega), ho 131 (by omega), ho 132 (by omega), ho 133 (by omega), ho 134 (by omega), ho 135 (by omega), ho 136 (by omega), ho 137 (by omega), ho 138 (by omega), ho 139 (by omega), ho 140 (by omega), ho 141 (by omega), ho 143 (by omega), ho 144 (by omega), ho 145 (by omega), ho 147 (by omega), ho 148 (by omega), ho 149 (by omega), ho 150 (by omega), ho 157 (by omega), ho 158 (by omega), ho 159 (by omega), ho 160 (by omega), ho 161 (by omega)]
  exact ⟨hst, hn, ht, hT, hF, hC, hM, hP, hTp, hB, hFa, hS, hfr⟩
theorem a_mark {X : Nat × (Nat → Int32)} {m r v : Int32} : arm X 128 197 [.ref 0, .int m, .int r, .int v] [.ref 134, .int m, .int r, .int v] := by
  intro mi ml b hR Q hK
  obtain ⟨n, t, hst, ⟨hn0, hn4, hn⟩, ⟨ht0, ht5, ht⟩, hT, hF, hC, hM, hP, hTp, hB, hFa, hS, hMk, hfr⟩ := hR
  obtain ⟨c, hc3, hc21, hc, hD, hDi, hW, hre, hsp, hre1, hsp1, hbf⟩ := hS
  obtain ⟨g, hg, hg30, hB1, hB2, hB3, hac, has⟩ := hMk
  rcases st_cases m (n := c) (by omega) with e_m | ⟨p, h_p, rfl⟩
  · refine wi_aload_n rfl rfl ?_
    refine wi_getR rfl (kd_0 ..) (rd_0_8 _) ?_
    refine wi_iload_n rfl rfl ?_
    refine wi_callV1 rfl (by decide) (by decide) rfl (kd_60 ..) rfl rfl rfl (c_hasM hc3 e_m ?_)
    refine wi_if_ne rfl (fun h9 => absurd h9 (by decide)) (fun _ => ?_)
    refine wi_aload_n rfl rfl ?_
    refine wi_iconst (x := 1) rfl rfl ?_
    refine wi_callV1 rfl (by decide) (by decide) rfl (kd_0 ..) rfl rfl rfl ?_
    refine wi_aload_n rfl rfl ?_
    refine wi_iload_n rfl rfl ?_
    refine wi_putI rfl (kd_0 ..) ?_
    refine wi_iconst (x := 0) rfl rfl ?_
    refine wi_iret rfl (by decide) ?_
    refine wi_iret rfl (by decide) ?_
    refine hK _ _ _ _ (fun Q2 h2 => ?_)
    refine wi_aload_n rfl rfl ?_
    refine wi_iconst (x := 0) rfl rfl ?_
    refine wi_putI rfl (kd_134 ..) ?_
    refine wi_aload_n rfl rfl ?_
    refine wi_iconst (x := 0) rfl rfl ?_
    refine wi_putI rfl (kd_134 ..) ?_
    refine wi_aload_n rfl rfl ?_
    refine wi_iload_n rfl rfl ?_
    refine wi_callV1 rfl (by decide) (by decide) rfl (kd_134 ..) rfl rfl rfl (c_isM hc21 e_m ?_)
    refine wi_if_ne rfl (fun h9 => absurd h9 (by decide)) (fun _ => ?_)
    refine wi_aload_n rfl rfl ?_
    refine wi_iconst (x := 1) rfl rfl ?_
    refine wi_callV1 rfl (by decide) (by decide) rfl (kd_134 ..) rfl rfl rfl ?_
    refine wi_aload_n rfl rfl ?_
    refine wi_iload_n rfl rfl ?_
    refine wi_putI rfl (kd_134 ..) ?_
    refine wi_iconst (x := 0) rfl rfl ?_
    refine wi_iret rfl (by decide) ?_
    refine wi_iret rfl (by decide) ?_
    refine h2 _ _ _ ?_
    exact ⟨n, t, rfl, ⟨hn0, hn4, hn⟩, ⟨ht0, ht5, ht⟩, hT, hF, hC, hM, hP, hTp, hB, hFa, ⟨c, hc3, hc21, hc, hD, hDi, hW, hre, hsp, hre1, hsp1, hbf⟩, ⟨g, hg, hg30, hB1, hB2, hB3, hac, has⟩, hfr⟩
  · rcases wn_cases r 0 2 (by decide) (by decide) with e_r | ⟨y, l_y, h_y, rfl⟩
    · rcases wn_zero.mp e_r with z_r | z_r
      · refine wi_aload_n rfl rfl ?_
        refine wi_getR rfl (kd_0 ..) (rd_0_8 _) ?_
        refine wi_iload_n rfl rfl ?_
        refine wi_callV1 rfl (by decide) (by decide) rfl (kd_60 ..) rfl rfl rfl (c_hasM hc3 (st_in (n := c) (by omega) (by omega)) ?_)
        refine wi_if_ne rfl (fun _ => ?_) (fun h9 => absurd (by decide) h9)
        refine wi_iload_n rfl rfl ?_
        refine wi_iconst (x := 0) rfl rfl ?_
        refine wi_iconst (x := 2) rfl rfl ?_
        refine wi_callS3 rfl (by decide) (by decide) rfl rfl rfl (c_wiV e_r ?_)
        refine wi_if_eq rfl (fun _ => ?_) (fun h9 => absurd (by decide) h9)
        refine wi_aload_n rfl rfl ?_
        refine wi_iconst (x := 2) rfl rfl ?_
        refine wi_callV1 rfl (by decide) (by decide) rfl (kd_0 ..) rfl rfl rfl ?_
        refine wi_aload_n rfl rfl ?_
        refine wi_iload_n rfl rfl ?_
        refine wi_putI rfl (kd_0 ..) ?_
        refine wi_iconst (x := 0) rfl rfl ?_
        refine wi_iret rfl (by decide) ?_
        refine wi_iret rfl (by decide) ?_
        refine hK _ _ _ _ (fun Q2 h2 => ?_)
        refine wi_aload_n rfl rfl ?_
        refine wi_iconst (x := 0) rfl rfl ?_
        refine wi_putI rfl (kd_134 ..) ?_
        refine wi_aload_n rfl rfl ?_
        refine wi_iconst (x := 0) rfl rfl ?_
        refine wi_putI rfl (kd_134 ..) ?_
        refine wi_aload_n rfl rfl ?_
        refine wi_iload_n rfl rfl ?_
        refine wi_callV1 rfl (by decide) (by decide) rfl (kd_134 ..) rfl rfl rfl (c_isM hc21 (st_in (n := c) (by omega) (by omega)) ?_)
        refine wi_if_ne rfl (fun _ => ?_) (fun h9 => absurd (by decide) h9)
        refine wi_iload_n rfl rfl ?_
        refine wi_if_lt rfl (fun _ => ?_) (fun h9 => absurd z_r h9)
        refine wi_aload_n rfl rfl ?_
        refine wi_iconst (x := 2) rfl rfl ?_
        refine wi_callV1 rfl (by decide) (by decide) rfl (kd_134 ..) rfl rfl rfl ?_
        refine wi_aload_n rfl rfl ?_
        refine wi_iload_n rfl rfl ?_
        refine wi_putI rfl (kd_134 ..) ?_
        refine wi_iconst (x := 0) rfl rfl ?_
        refine wi_iret rfl (by decide) ?_
        refine wi_iret rfl (by decide) ?_
        refine h2 _ _ _ ?_
        exact ⟨n, t, rfl, ⟨hn0, hn4, hn⟩, ⟨ht0, ht5, ht⟩, hT, hF, hC, hM, hP, hTp, hB, hFa, ⟨c, hc3, hc21, hc, hD, hDi, hW, hre, hsp, hre1, hsp1, hbf⟩, ⟨g, hg, hg30, hB1, hB2, hB3, hac, has⟩, hfr⟩
      · refine wi_aload_n rfl rfl ?_
        refine wi_getR rfl (kd_0 ..) (rd_0_8 _) ?_
        refine wi_iload_n rfl rfl ?_
        refine wi_callV1 rfl (by decide) (by decide) rfl (kd_60 ..) rfl rfl rfl (c_hasM hc3 (st_in (n := c) (by omega) (by omega)) ?_)
        refine wi_if_ne rfl (fun _ => ?_) (fun h9 => absurd (by decide) h9)
        refine wi_iload_n rfl rfl ?_
        refine wi_iconst (x := 0) rfl rfl ?_
        refine wi_iconst (x := 2) rfl rfl ?_
        refine wi_callS3 rfl (by decide) (by decide) rfl rfl rfl (c_wiV e_r ?_)
        refine wi_if_eq rfl (fun _ => ?_) (fun h9 => absurd (by decide) h9)
        refine wi_aload_n rfl rfl ?_
        refine wi_iconst (x := 2) rfl rfl ?_
        refine wi_callV1 rfl (by decide) (by decide) rfl (kd_0 ..) rfl rfl rfl ?_
        refine wi_aload_n rfl rfl ?_
        refine wi_iload_n rfl rfl ?_
        refine wi_putI rfl (kd_0 ..) ?_
        refine wi_iconst (x := 0) rfl rfl ?_
        refine wi_iret rfl (by decide) ?_
        refine wi_iret rfl (by decide) ?_
        refine hK _ _ _ _ (fun Q2 h2 => ?_)
        refine wi_aload_n rfl rfl ?_
        refine wi_iconst (x := 0) rfl rfl ?_
        refine wi_putI rfl (kd_134 ..) ?_
        refine wi_aload_n rfl rfl ?_
        refine wi_iconst (x := 0) rfl rfl ?_
        refine wi_putI rfl (kd_134 ..) ?_
        refine wi_aload_n rfl rfl ?_
        refine wi_iload_n rfl rfl ?_
        refine wi_callV1 rfl (by decide) (by decide) rfl (kd_134 ..) rfl rfl rfl (c_isM hc21 (st_in (n := c) (by omega) (by omega)) ?_)
        refine wi_if_ne rfl (fun _ => ?_) (fun h9 => absurd (by decide) h9)
        refine wi_iload_n rfl rfl ?_
        refine wi_if_lt rfl (fun h9 => absurd (Int32.lt_trans z_r h9) (by decide)) (fun _ => ?_)
        refine wi_iload_n rfl rfl ?_
        refine wi_iconst (x := 2) rfl rfl ?_
        refine wi_icmp_gt rfl (fun _ => ?_) (fun h9 => absurd z_r h9)
        refine wi_aload_n rfl rfl ?_
        refine wi_iconst (x := 2) rfl rfl ?_
        refine wi_callV1 rfl (by decide) (by decide) rfl (kd_134 ..) rfl rfl rfl ?_
        refine wi_aload_n rfl rfl ?_
        refine wi_iload_n rfl rfl ?_
        refine wi_putI rfl (kd_134 ..) ?_
        refine wi_iconst (x := 0) rfl rfl ?_
        refine wi_iret rfl (by decide) ?_
        refine wi_iret rfl (by decide) ?_
        refine h2 _ _ _ ?_
        exact ⟨n, t, rfl, ⟨hn0, hn4, hn⟩, ⟨ht0, ht5, ht⟩, hT, hF, hC, hM, hP, hTp, hB, hFa, ⟨c, hc3, hc21, hc, hD, hDi, hW, hre, hsp, hre1, hsp1, hbf⟩, ⟨g, hg, hg30, hB1, hB2, hB3, hac, has⟩, hfr⟩
    · rcases wn_cases v 0 10 (by decide) (by decide) with e_v | ⟨x, l_x, h_x, rfl⟩
      · refine wi_aload_n rfl rfl ?_
        refine wi_getR rfl (kd_0 ..) (rd_0_8 _) ?_
        refine wi_iload_n rfl rfl ?_
        refine wi_callV1 rfl (by decide) (by decide) rfl (kd_60 ..) rfl rfl rfl (c_hasM hc3 (st_in (n := c) (by omega) (by omega)) ?_)
        refine wi_if_ne rfl (fun _ => ?_) (fun h9 => absurd (by decide) h9)
        refine wi_iload_n rfl rfl ?_
        refine wi_iconst (x := 0) rfl rfl ?_
        refine wi_iconst (x := 2) rfl rfl ?_
        refine wi_callS3 rfl (by decide) (by decide) rfl rfl rfl (c_wiV (wn_in (lo := 0) (hi := 2) (by omega) (by omega) (by decide)) ?_)
        refine wi_if_eq rfl (fun h9 => absurd h9 (by decide)) (fun _ => ?_)
        refine wi_iload_n rfl rfl ?_
        refine wi_iconst (x := 0) rfl rfl ?_
        refine wi_bipush (x := 10) rfl rfl ?_
        refine wi_callS3 rfl (by decide) (by decide) rfl rfl rfl (c_wiV e_v ?_)
        refine wi_if_ne rfl (fun h9 => absurd h9 (by decide)) (fun _ => ?_)
        refine wi_aload_n rfl rfl ?_
        refine wi_iconst (x := 2) rfl rfl ?_
        refine wi_callV1 rfl (by decide) (by decide) rfl (kd_0 ..) rfl rfl rfl ?_
        refine wi_aload_n rfl rfl ?_
        refine wi_iload_n rfl rfl ?_
        refine wi_putI rfl (kd_0 ..) ?_
        refine wi_iconst (x := 0) rfl rfl ?_
        refine wi_iret rfl (by decide) ?_
        refine wi_iret rfl (by decide) ?_
        refine hK _ _ _ _ (fun Q2 h2 => ?_)
        refine wi_aload_n rfl rfl ?_
        refine wi_iconst (x := 0) rfl rfl ?_
        refine wi_putI rfl (kd_134 ..) ?_
        refine wi_aload_n rfl rfl ?_
        refine wi_iconst (x := 0) rfl rfl ?_
        refine wi_putI rfl (kd_134 ..) ?_
        refine wi_aload_n rfl rfl ?_
        refine wi_iload_n rfl rfl ?_
        refine wi_callV1 rfl (by decide) (by decide) rfl (kd_134 ..) rfl rfl rfl (c_isM hc21 (st_in (n := c) (by omega) (by omega)) ?_)
        refine wi_if_ne rfl (fun _ => ?_) (fun h9 => absurd (by decide) h9)
        refine wi_iload_n rfl rfl ?_
        refine wi_if_lt rfl (fun h9 => absurd trivial (by exfalso; have h8 := (lt_n (a := y) (b := 0) rfl (rfl : (0 : Int32) = Int32.ofNat 0) (by omega) (by omega)).mp h9; omega)) (fun _ => ?_)
        refine wi_iload_n rfl rfl ?_
        refine wi_iconst (x := 2) rfl rfl ?_
        refine wi_icmp_gt rfl (fun h9 => absurd trivial (by exfalso; have h8 := (lt_n (a := 2) (b := y) (rfl : (2 : Int32) = Int32.ofNat 2) rfl (by omega) (by omega)).mp h9; omega)) (fun _ => ?_)
        refine wi_iload_n rfl rfl ?_
        refine wi_bipush (x := 10) rfl rfl ?_
        refine wi_callS2 rfl (by decide) (by decide) rfl rfl rfl (c_isIn e_v ?_)
        refine wi_if_ne rfl (fun h9 => absurd h9 (by decide)) (fun _ => ?_)
        refine wi_aload_n rfl rfl ?_
        refine wi_iconst (x := 2) rfl rfl ?_
        refine wi_callV1 rfl (by decide) (by decide) rfl (kd_134 ..) rfl rfl rfl ?_
        refine wi_aload_n rfl rfl ?_
        refine wi_iload_n rfl rfl ?_
        refine wi_putI rfl (kd_134 ..) ?_
        refine wi_iconst (x := 0) rfl rfl ?_
        refine wi_iret rfl (by decide) ?_
        refine wi_iret rfl (by decide) ?_
        refine h2 _ _ _ ?_
        exact ⟨n, t, rfl, ⟨hn0, hn4, hn⟩, ⟨ht0, ht5, ht⟩, hT, hF, hC, hM, hP, hTp, hB, hFa, ⟨c, hc3, hc21, hc, hD, hDi, hW, hre, hsp, hre1, hsp1, hbf⟩, ⟨g, hg, hg30, hB1, hB2, hB3, hac, has⟩, hfr⟩
      · by_cases hful : g < 100
        · have hCS := hB2 p (by omega) y (by omega)
          have hRC := hB3 y (by omega)
          have eC : ∀ z, z < 8 → r8 (mi 77) (mi 78) (mi 79) (mi 80) (mi 81) (mi 82) (mi 83) (mi 84) z = mi (77 + z) := fun z hz => r8_eq (mi := mi) (p := 77) hz
          have eS : ∀ z, z < 8 → r8 (mi 86) (mi 87) (mi 88) (mi 89) (mi 90) (mi 91) (mi 92) (mi 93) z = mi (86 + z) := fun z hz => r8_eq (mi := mi) (p := 86) hz
          rw [eC p (by omega), eS p (by omega)] at hCS
          obtain ⟨ca, eca⟩ : ∃ z, z = cntN (fun k => clN (mi 154) k == p && clN (mi 155) k == y) g := ⟨_, rfl⟩
          obtain ⟨sa, esa⟩ : ∃ z, z = sumN (fun k => clN (mi 154) k == p && clN (mi 155) k == y) (clN (mi 156)) g := ⟨_, rfl⟩
          obtain ⟨rc, erc⟩ : ∃ z, z = cntN (fun k => clN (mi 155) k == y) g := ⟨_, rfl⟩
          obtain ⟨rs, ers⟩ : ∃ z, z = sumN (fun k => clN (mi 155) k == y) (clN (mi 156)) g := ⟨_, rfl⟩
          obtain ⟨s0, es0⟩ : ∃ z, z = sumN (fun _ => true) (clN (mi 156)) g := ⟨_, rfl⟩
          rw [← eca, ← esa] at hCS
          rw [← erc, ← ers] at hRC
          rw [← es0] at has
          refine wi_aload_n rfl rfl ?_
          refine wi_getR rfl (kd_0 ..) (rd_0_8 _) ?_
          refine wi_iload_n rfl rfl ?_
          refine wi_callV1 rfl (by decide) (by decide) rfl (kd_60 ..) rfl rfl rfl (c_hasM hc3 (st_in (n := c) (by omega) (by omega)) ?_)
          refine wi_if_ne rfl (fun _ => ?_) (fun h9 => absurd (by decide) h9)
          refine wi_iload_n rfl rfl ?_
          refine wi_iconst (x := 0) rfl rfl ?_
          refine wi_iconst (x := 2) rfl rfl ?_
          refine wi_callS3 rfl (by decide) (by decide) rfl rfl rfl (c_wiV (wn_in (lo := 0) (hi := 2) (by omega) (by omega) (by decide)) ?_)
          refine wi_if_eq rfl (fun h9 => absurd h9 (by decide)) (fun _ => ?_)
          refine wi_iload_n rfl rfl ?_
          refine wi_iconst (x := 0) rfl rfl ?_
          refine wi_bipush (x := 10) rfl rfl ?_
          refine wi_callS3 rfl (by decide) (by decide) rfl rfl rfl (c_wiV (wn_in (lo := 0) (hi := 10) (by omega) (by omega) (by decide)) ?_)
          refine wi_if_ne rfl (fun _ => ?_) (fun h9 => absurd (by decide) h9)
          refine wi_aload_n rfl rfl ?_
          refine wi_getR rfl (kd_0 ..) (rd_0_9 _) ?_
          refine wi_callV0 rfl (by decide) (by decide) rfl (kd_75 ..) rfl rfl rfl ?_
          refine wi_aload_n rfl rfl ?_
          refine wi_getLv (lv := (Int64.ofNat (g))) rfl (kd_75 ..) hac ?_
          refine wi_ldc2_w (lx := 100) rfl rfl ?_
          refine wi_lcmp rfl ?_
          refine wi_if_lt rfl (fun _ => ?_) (fun h9 => absurd trivial (by exfalso; have h8 := (not_congr (lc_lt (a := g) (b := 100) rfl (rfl : (100 : Int64) = Int64.ofNat 100) (by omega) (by omega))).mp h9; omega))
          refine wi_iconst (x := 0) rfl rfl ?_
          refine wi_iret rfl (by decide) ?_
          refine wi_if_eq rfl (fun _ => ?_) (fun h9 => absurd (by decide) h9)
          refine wi_aload_n rfl rfl ?_
          refine wi_getR rfl (kd_0 ..) (rd_0_9 _) ?_
          refine wi_iload_n rfl rfl ?_
          refine wi_iload_n rfl rfl ?_
          refine wi_iload_n rfl rfl ?_
          refine wi_callV3 rfl (by decide) (by decide) rfl (kd_75 ..) rfl rfl rfl ?_
          refine wi_iload_n rfl rfl ?_
          refine wi_iconst (x := 0) rfl rfl ?_
          refine wi_bipush (x := 7) rfl rfl ?_
          refine wi_callS3 rfl (by decide) (by decide) rfl rfl rfl (c_wiV (wn_in (lo := 0) (hi := 7) (by omega) (by omega) (by decide)) ?_)
          refine wi_if_eq rfl (fun h9 => absurd h9 (by decide)) (fun _ => ?_)
          refine wi_iload_n rfl rfl ?_
          refine wi_iconst (x := 0) rfl rfl ?_
          refine wi_iconst (x := 2) rfl rfl ?_
          refine wi_callS3 rfl (by decide) (by decide) rfl rfl rfl (c_wiV (wn_in (lo := 0) (hi := 2) (by omega) (by omega) (by decide)) ?_)
          refine wi_if_eq rfl (fun h9 => absurd h9 (by decide)) (fun _ => ?_)
          refine wi_aload_n rfl rfl ?_
          refine wi_getR rfl (kd_75 ..) (rd_75_0 _) ?_
          refine wi_iload_n rfl rfl ?_
          refine wn_aaload (q := p) rfl (Or.inr (ln_76 ..)) rfl (by omega) (by decide) (ra_76 _ _ (by omega)) ?_
          refine wi_iload_n rfl rfl ?_
          refine wi_dup2 rfl ⟨rfl, rfl⟩ ?_
          refine wn_iaload (q := y) (v := (Int32.ofNat (ca))) rfl (lr_76 (by omega) ..) rfl (by omega) (by decide) (by omega) (by omega) hCS.1 ?_
          refine wi_iconst (x := 1) rfl rfl ?_
          refine wn_iadd (z := (Int32.ofNat (ca + 1))) rfl (add_n (a := ca) (b := 1) rfl (rfl : (1 : Int32) = Int32.ofNat 1)) ?_
          refine wn_iastore (q := y) rfl (lr_76 (by omega) ..) rfl (by omega) (by decide) ?_
          refine gen_wp (fun mi1 e1 => ?_)
          refine wi_aload_n rfl rfl ?_
          refine wi_getR rfl (kd_75 ..) (rd_75_1 _) ?_
          refine wi_iload_n rfl rfl ?_
          refine wn_aaload (q := p) rfl (Or.inr (ln_85 ..)) rfl (by omega) (by decide) (ra_85 _ _ (by omega)) ?_
          refine wi_iload_n rfl rfl ?_
          refine wi_dup2 rfl ⟨rfl, rfl⟩ ?_
          refine wn_iaload (q := y) (v := (Int32.ofNat (sa))) rfl (lr_85 (by omega) ..) rfl (by omega) (by decide) (by omega) (by omega) (by rw [e1, u2_ne (by omega)]; exact hCS.2) ?_
          refine wi_iload_n rfl rfl ?_
          refine wn_iadd (z := (Int32.ofNat (sa + x))) rfl (add_n (a := sa) (b := x) rfl rfl) ?_
          refine wn_iastore (q := y) rfl (lr_85 (by omega) ..) rfl (by omega) (by decide) ?_
          refine gen_wp (fun mi2 e2 => ?_)
          refine wi_aload_n rfl rfl ?_
          refine wi_getR rfl (kd_75 ..) (rd_75_2 _) ?_
          refine wi_iload_n rfl rfl ?_
          refine wi_dup2 rfl ⟨rfl, rfl⟩ ?_
          refine wn_laload (q := y) (lv := (Int64.ofNat (rc))) rfl (ln_94 ..) rfl (by omega) (by decide) hRC.1 ?_
          refine wi_lconst (lx := 1) rfl rfl ?_
          refine wn_ladd (lz := (Int64.ofNat (rc + 1))) rfl (add_l (a := rc) (b := 1) rfl (rfl : (1 : Int64) = Int64.ofNat 1)) ?_
          refine wn_lastore (q := y) rfl (ln_94 ..) rfl (by omega) (by decide) ?_
          refine wi_aload_n rfl rfl ?_
          refine wi_getR rfl (kd_75 ..) (rd_75_3 _) ?_
          refine wi_iload_n rfl rfl ?_
          refine wi_dup2 rfl ⟨rfl, rfl⟩ ?_
          refine wn_laload (q := y) (lv := (Int64.ofNat (rs))) rfl (ln_95 ..) rfl (by omega) (by decide) hRC.2 ?_
          refine wi_iload_n rfl rfl ?_
          refine wn_i2l (lz := (Int64.ofNat (x))) rfl (i2l_n (a := x) rfl (by omega)) ?_
          refine wn_ladd (lz := (Int64.ofNat (rs + x))) rfl (add_l (a := rs) (b := x) rfl rfl) ?_
          refine wn_lastore (q := y) rfl (ln_95 ..) rfl (by omega) (by decide) ?_
          refine wi_aload_n rfl rfl ?_
          refine wi_dup rfl rfl ?_
          refine wi_getLv (lv := (Int64.ofNat (g))) rfl (kd_75 ..) hac ?_
          refine wi_lconst (lx := 1) rfl rfl ?_
          refine wn_ladd (lz := (Int64.ofNat (g + 1))) rfl (add_l (a := g) (b := 1) rfl (rfl : (1 : Int64) = Int64.ofNat 1)) ?_
          refine wi_putL rfl (kd_75 ..) ?_
          refine wi_aload_n rfl rfl ?_
          refine wi_dup rfl rfl ?_
          refine wi_getLv (lv := (Int64.ofNat (s0))) rfl (kd_75 ..) has ?_
          refine wi_iload_n rfl rfl ?_
          refine wn_i2l (lz := (Int64.ofNat (x))) rfl (i2l_n (a := x) rfl (by omega)) ?_
          refine wn_ladd (lz := (Int64.ofNat (s0 + x))) rfl (add_l (a := s0) (b := x) rfl rfl) ?_
          refine wi_putL rfl (kd_75 ..) ?_
          refine wi_ret rfl ?_
          refine wi_aload_n rfl rfl ?_
          refine wi_callV0 rfl (by decide) (by decide) rfl (kd_0 ..) rfl rfl rfl ?_
          refine wi_aload_n rfl rfl ?_
          refine wi_iconst (x := 0) rfl rfl ?_
          refine wi_putI rfl (kd_0 ..) ?_
          refine wi_iconst (x := 1) rfl rfl ?_
          refine wi_iret rfl (by decide) ?_
          refine wi_iret rfl (by decide) ?_
          have ho : ∀ a, a < 77 ∨ 94 ≤ a → mi2 a = mi a := fun a ha => by rw [e2, u2_ne (by omega), e1, u2_ne (by omega)]
          obtain ⟨kst, ⟨kn0, kn4, -⟩, ⟨kt0, kt5, -⟩, kT, kF, kC, kM, kP, kTp, kB, kFa, kS, kfr⟩ := RM_fr (mi2 := mi2) ho ⟨hst, ⟨hn0, hn4, hn⟩, ⟨ht0, ht5, ht⟩, hT, hF, hC, hM, hP, hTp, hB, hFa, ⟨c, hc3, hc21, hc, hD, hDi, hW, hre, hsp, hre1, hsp1, hbf⟩, ⟨g, hg, hg30, hB1, hB2, hB3, hac, by rw [← es0]; exact has⟩, hfr⟩
          have hc21 : mi2 134 21 = Int32.ofNat c := by rw [ho 134 (by omega)]; exact hc21
          have hg30 : mi2 134 30 = Int32.ofNat g := by rw [ho 134 (by omega)]; exact hg30
          have hnew : rMk (Int64.ofNat (g + 1)) (Int64.ofNat (s0 + x)) (r8 (mi2 77) (mi2 78) (mi2 79) (mi2 80) (mi2 81) (mi2 82) (mi2 83) (mi2 84)) (r8 (mi2 86) (mi2 87) (mi2 88) (mi2 89) (mi2 90) (mi2 91) (mi2 92) (mi2 93)) (fun i => if i = y then Int64.ofNat (rc + 1) else ml 94 i) (fun i => if i = y then Int64.ofNat (rs + x) else ml 95 i) (Int32.ofNat (g + 1)) (fun i => if i = g then Int32.ofNat p else mi2 154 i) (fun i => if i = g then Int32.ofNat y else mi2 155 i) (fun i => if i = g then Int32.ofNat x else mi2 156 i) := by
            rw [ho 154 (by omega), ho 155 (by omega), ho 156 (by omega), es0, erc, ers]
            refine rMk_add (m := p) (r := y) (v := x) hful hB1 hB2 hB3 (by omega) (by omega) h_x (fun z hz => ?_) (fun z hz => ?_)
            · refine (r8_eq (mi := mi2) (p := 77) hz).trans ?_
              rw [eC z hz, eC p (by omega), ← eca]
              by_cases e : z = p
              · subst e
                rw [if_pos rfl, e2, u2_ne (by omega), e1, u2_at]
              · rw [if_neg e, e2, u2_ne (by omega), e1, u2_ne (by omega)]
            · refine (r8_eq (mi := mi2) (p := 86) hz).trans ?_
              rw [eS z hz, eS p (by omega), ← esa]
              by_cases e : z = p
              · subst e
                rw [if_pos rfl, e2, u2_at, e1, u2_ne (by omega)]
              · rw [if_neg e, e2, u2_ne (by omega), e1, u2_ne (by omega)]
          refine hK _ _ _ _ (fun Q2 h2 => ?_)
          refine wi_aload_n rfl rfl ?_
          refine wi_iconst (x := 0) rfl rfl ?_
          refine wi_putI rfl (kd_134 ..) ?_
          refine wi_aload_n rfl rfl ?_
          refine wi_iconst (x := 0) rfl rfl ?_
          refine wi_putI rfl (kd_134 ..) ?_
          refine wi_aload_n rfl rfl ?_
          refine wi_iload_n rfl rfl ?_
          refine wi_callV1 rfl (by decide) (by decide) rfl (kd_134 ..) rfl rfl rfl (c_isM hc21 (st_in (n := c) (by omega) (by omega)) ?_)
          refine wi_if_ne rfl (fun _ => ?_) (fun h9 => absurd (by decide) h9)
          refine wi_iload_n rfl rfl ?_
          refine wi_if_lt rfl (fun h9 => absurd trivial (by exfalso; have h8 := (lt_n (a := y) (b := 0) rfl (rfl : (0 : Int32) = Int32.ofNat 0) (by omega) (by omega)).mp h9; omega)) (fun _ => ?_)
          refine wi_iload_n rfl rfl ?_
          refine wi_iconst (x := 2) rfl rfl ?_
          refine wi_icmp_gt rfl (fun h9 => absurd trivial (by exfalso; have h8 := (lt_n (a := 2) (b := y) (rfl : (2 : Int32) = Int32.ofNat 2) rfl (by omega) (by omega)).mp h9; omega)) (fun _ => ?_)
          refine wi_iload_n rfl rfl ?_
          refine wi_bipush (x := 10) rfl rfl ?_
          refine wi_callS2 rfl (by decide) (by decide) rfl rfl rfl (c_isIn (wn_in (lo := 0) (hi := 10) (by omega) (by omega) (by decide)) ?_)
          refine wi_if_ne rfl (fun _ => ?_) (fun h9 => absurd (by decide) h9)
          refine wi_aload_n rfl rfl ?_
          refine wi_getIv (v := (Int32.ofNat (g))) rfl (kd_134 ..) hg30 ?_
          refine wi_bipush (x := 100) rfl rfl ?_
          refine wi_icmp_ne rfl (fun _ => ?_) (fun h9 => absurd trivial (by exfalso; have h8 := (not_congr (ne_n (a := g) (b := 100) rfl (rfl : (100 : Int32) = Int32.ofNat 100) (by omega) (by omega))).mp h9; omega))
          refine wi_aload_n rfl rfl ?_
          refine wi_getR rfl (kd_134 ..) (rd_134_31 _) ?_
          refine wi_aload_n rfl rfl ?_
          refine wi_getIv (v := (Int32.ofNat (g))) rfl (kd_134 ..) hg30 ?_
          refine wi_iload_n rfl rfl ?_
          refine wn_iastore (q := g) rfl (ln_154 ..) rfl (by omega) (by decide) ?_
          refine wi_aload_n rfl rfl ?_
          refine wi_getR rfl (kd_134 ..) (rd_134_32 _) ?_
          refine wi_aload_n rfl rfl ?_
          refine wi_getIv (v := (Int32.ofNat (g))) rfl (kd_134 ..) hg30 ?_
          refine wi_iload_n rfl rfl ?_
          refine wn_iastore (q := g) rfl (ln_155 ..) rfl (by omega) (by decide) ?_
          refine wi_aload_n rfl rfl ?_
          refine wi_getR rfl (kd_134 ..) (rd_134_33 _) ?_
          refine wi_aload_n rfl rfl ?_
          refine wi_getIv (v := (Int32.ofNat (g))) rfl (kd_134 ..) hg30 ?_
          refine wi_iload_n rfl rfl ?_
          refine wn_iastore (q := g) rfl (ln_156 ..) rfl (by omega) (by decide) ?_
          refine wi_aload_n rfl rfl ?_
          refine wi_dup rfl rfl ?_
          refine wi_getIv (v := (Int32.ofNat (g))) rfl (kd_134 ..) hg30 ?_
          refine wi_iconst (x := 1) rfl rfl ?_
          refine wn_iadd (z := (Int32.ofNat (g + 1))) rfl (add_n (a := g) (b := 1) rfl (rfl : (1 : Int32) = Int32.ofNat 1)) ?_
          refine wi_putI rfl (kd_134 ..) ?_
          refine wi_iconst (x := 1) rfl rfl ?_
          refine wi_iret rfl (by decide) ?_
          refine h2 _ _ _ ?_
          exact ⟨n, t, rfl, ⟨kn0, kn4, hn⟩, ⟨kt0, kt5, ht⟩, kT, kF, kC, kM, kP, kTp, kB, kFa, kS, hnew, kfr⟩
        · refine wi_aload_n rfl rfl ?_
          refine wi_getR rfl (kd_0 ..) (rd_0_8 _) ?_
          refine wi_iload_n rfl rfl ?_
          refine wi_callV1 rfl (by decide) (by decide) rfl (kd_60 ..) rfl rfl rfl (c_hasM hc3 (st_in (n := c) (by omega) (by omega)) ?_)
          refine wi_if_ne rfl (fun _ => ?_) (fun h9 => absurd (by decide) h9)
          refine wi_iload_n rfl rfl ?_
          refine wi_iconst (x := 0) rfl rfl ?_
          refine wi_iconst (x := 2) rfl rfl ?_
          refine wi_callS3 rfl (by decide) (by decide) rfl rfl rfl (c_wiV (wn_in (lo := 0) (hi := 2) (by omega) (by omega) (by decide)) ?_)
          refine wi_if_eq rfl (fun h9 => absurd h9 (by decide)) (fun _ => ?_)
          refine wi_iload_n rfl rfl ?_
          refine wi_iconst (x := 0) rfl rfl ?_
          refine wi_bipush (x := 10) rfl rfl ?_
          refine wi_callS3 rfl (by decide) (by decide) rfl rfl rfl (c_wiV (wn_in (lo := 0) (hi := 10) (by omega) (by omega) (by decide)) ?_)
          refine wi_if_ne rfl (fun _ => ?_) (fun h9 => absurd (by decide) h9)
          refine wi_aload_n rfl rfl ?_
          refine wi_getR rfl (kd_0 ..) (rd_0_9 _) ?_
          refine wi_callV0 rfl (by decide) (by decide) rfl (kd_75 ..) rfl rfl rfl ?_
          refine wi_aload_n rfl rfl ?_
          refine wi_getLv (lv := (Int64.ofNat (g))) rfl (kd_75 ..) hac ?_
          refine wi_ldc2_w (lx := 100) rfl rfl ?_
          refine wi_lcmp rfl ?_
          refine wi_if_lt rfl (fun h9 => absurd trivial (by exfalso; have h8 := (lc_lt (a := g) (b := 100) rfl (rfl : (100 : Int64) = Int64.ofNat 100) (by omega) (by omega)).mp h9; omega)) (fun _ => ?_)
          refine wi_iconst (x := 1) rfl rfl ?_
          refine wi_goto rfl ?_
          refine wi_iret rfl (by decide) ?_
          refine wi_if_eq rfl (fun h9 => absurd h9 (by decide)) (fun _ => ?_)
          refine wi_aload_n rfl rfl ?_
          refine wi_iconst (x := 3) rfl rfl ?_
          refine wi_callV1 rfl (by decide) (by decide) rfl (kd_0 ..) rfl rfl rfl ?_
          refine wi_aload_n rfl rfl ?_
          refine wi_iload_n rfl rfl ?_
          refine wi_putI rfl (kd_0 ..) ?_
          refine wi_iconst (x := 0) rfl rfl ?_
          refine wi_iret rfl (by decide) ?_
          refine wi_iret rfl (by decide) ?_
          refine hK _ _ _ _ (fun Q2 h2 => ?_)
          refine wi_aload_n rfl rfl ?_
          refine wi_iconst (x := 0) rfl rfl ?_
          refine wi_putI rfl (kd_134 ..) ?_
          refine wi_aload_n rfl rfl ?_
          refine wi_iconst (x := 0) rfl rfl ?_
          refine wi_putI rfl (kd_134 ..) ?_
          refine wi_aload_n rfl rfl ?_
          refine wi_iload_n rfl rfl ?_
          refine wi_callV1 rfl (by decide) (by decide) rfl (kd_134 ..) rfl rfl rfl (c_isM hc21 (st_in (n := c) (by omega) (by omega)) ?_)
          refine wi_if_ne rfl (fun _ => ?_) (fun h9 => absurd (by decide) h9)
          refine wi_iload_n rfl rfl ?_
          refine wi_if_lt rfl (fun h9 => absurd trivial (by exfalso; have h8 := (lt_n (a := y) (b := 0) rfl (rfl : (0 : Int32) = Int32.ofNat 0) (by omega) (by omega)).mp h9; omega)) (fun _ => ?_)
          refine wi_iload_n rfl rfl ?_
          refine wi_iconst (x := 2) rfl rfl ?_
          refine wi_icmp_gt rfl (fun h9 => absurd trivial (by exfalso; have h8 := (lt_n (a := 2) (b := y) (rfl : (2 : Int32) = Int32.ofNat 2) rfl (by omega) (by omega)).mp h9; omega)) (fun _ => ?_)
          refine wi_iload_n rfl rfl ?_
          refine wi_bipush (x := 10) rfl rfl ?_
          refine wi_callS2 rfl (by decide) (by decide) rfl rfl rfl (c_isIn (wn_in (lo := 0) (hi := 10) (by omega) (by omega) (by decide)) ?_)
          refine wi_if_ne rfl (fun _ => ?_) (fun h9 => absurd (by decide) h9)
          refine wi_aload_n rfl rfl ?_
          refine wi_getIv (v := (Int32.ofNat (g))) rfl (kd_134 ..) hg30 ?_
          refine wi_bipush (x := 100) rfl rfl ?_
          refine wi_icmp_ne rfl (fun h9 => absurd trivial (by exfalso; have h8 := (ne_n (a := g) (b := 100) rfl (rfl : (100 : Int32) = Int32.ofNat 100) (by omega) (by omega)).mp h9; omega)) (fun _ => ?_)
          refine wi_aload_n rfl rfl ?_
          refine wi_iconst (x := 3) rfl rfl ?_
          refine wi_callV1 rfl (by decide) (by decide) rfl (kd_134 ..) rfl rfl rfl ?_
          refine wi_aload_n rfl rfl ?_
          refine wi_iload_n rfl rfl ?_
          refine wi_putI rfl (kd_134 ..) ?_
          refine wi_iconst (x := 0) rfl rfl ?_
          refine wi_iret rfl (by decide) ?_
          refine wi_iret rfl (by decide) ?_
          refine h2 _ _ _ ?_
          exact ⟨n, t, rfl, ⟨hn0, hn4, hn⟩, ⟨ht0, ht5, ht⟩, hT, hF, hC, hM, hP, hTp, hB, hFa, ⟨c, hc3, hc21, hc, hD, hDi, hW, hre, hsp, hre1, hsp1, hbf⟩, ⟨g, hg, hg30, hB1, hB2, hB3, hac, has⟩, hfr⟩
section MB
variable {X : Nat × (Nat → Int32)} {d : Nat} {Q : Option Value → am_M → Prop} {mi : Nat → Nat → Int32} {ml : Nat → Nat → Int64} {b : Bool} {g : Nat}
theorem lp_many {y : Nat} (hy : y < 3) (h30 : mi 134 30 = Int32.ofNat g) (hg : g ≤ 100) (hby : ∀ k, k < g → mi 155 k = Int32.ofNat (clN (mi 155) k) ∧ clN (mi 155) k ≤ 2) (hva : ∀ k, k < g → mi 156 k = Int32.ofNat (clN (mi 156) k) ∧ clN (mi 156) k ≤ 10) (hQ : Q (some (.int (Int32.ofNat (cntN (fun k => clN (mi 155) k == y) (g))))) (am_shT, mrL b, mi, ml)) : ∀ k i, i + k = g → am_wp X d 198 4 [.ref 134, .int (Int32.ofNat y), .int (Int32.ofNat (cntN (fun k => clN (mi 155) k == y) (i))), .int (Int32.ofNat i)] [] (am_shT, mrL b, mi, ml) Q := by
  intro k
  induction k with
  | zero =>
    intro i hi
    refine wi_iload_n rfl rfl ?_
    refine wi_aload_n rfl rfl ?_
    refine wi_getIv (v := (Int32.ofNat (g))) rfl (kd_134 ..) h30 ?_
    refine wi_icmp_ge rfl (fun _ => ?_) (fun h9 => absurd trivial (by exfalso; have h8 := (not_congr (le_n (a := g) (b := i) rfl rfl (by omega) (by omega))).mp h9; omega))
    refine wi_iload_n rfl rfl ?_
    refine wi_iret rfl (Or.inl rfl) ?_
    obtain rfl : i = g := by omega
    exact hQ
  | succ k ih =>
    intro i hi
    have hb1 := (hby i (by omega)).2
    have hb3 : cntN (fun k => clN (mi 155) k == y) (i) ≤ 1000 := Nat.le_trans cntN_le (by omega)
    refine wi_iload_n rfl rfl ?_
    refine wi_aload_n rfl rfl ?_
    refine wi_getIv (v := (Int32.ofNat (g))) rfl (kd_134 ..) h30 ?_
    refine wi_icmp_ge rfl (fun h9 => absurd trivial (by exfalso; have h8 := (le_n (a := g) (b := i) rfl rfl (by omega) (by omega)).mp h9; omega)) (fun _ => ?_)
    refine wi_iload_n rfl rfl ?_
    refine wi_iload_n rfl rfl ?_
    refine wi_iconst (x := 3) rfl rfl ?_
    refine wi_icmp_eq rfl (fun h9 => absurd trivial (by exfalso; have h8 := (eq_n (a := y) (b := 3) rfl (rfl : (3 : Int32) = Int32.ofNat 3) (by omega) (by omega)).mp h9; omega)) (fun _ => ?_)
    refine wi_aload_n rfl rfl ?_
    refine wi_getR rfl (kd_134 ..) (rd_134_32 _) ?_
    refine wi_iload_n rfl rfl ?_
    refine wn_iaload (q := i) (v := (Int32.ofNat (clN (mi 155) i))) rfl (ln_155 ..) rfl (by omega) (by decide) (by decide) (by decide) (hby i (by omega)).1 ?_
    refine wi_iload_n rfl rfl ?_
    refine wi_icmp_ne rfl (fun g1 => ?_) (fun g1 => ?_)
    · replace g1 := (ne_n (a := clN (mi 155) i) (b := y) rfl rfl (by omega) (by omega)).mp g1
      refine wi_iconst (x := 0) rfl rfl ?_
      refine wn_iadd (z := (Int32.ofNat (cntN (fun k => clN (mi 155) k == y) (i) + 0))) rfl (add_n (a := cntN (fun k => clN (mi 155) k == y) (i)) (b := 0) rfl (rfl : (0 : Int32) = Int32.ofNat 0)) ?_
      refine wi_istore_n rfl (Nat.le_of_ble_eq_true rfl) rfl rfl ?_
      refine wi_iinc (z := (Int32.ofNat (i + 1))) rfl rfl rfl (add_n (a := i) (b := 1) rfl rfl) rfl ?_
      refine wi_goto rfl ?_
      have e9 : cntN (fun k => clN (mi 155) k == y) (i + 1) = cntN (fun k => clN (mi 155) k == y) (i) + 0 := by
        show cntN (fun k => clN (mi 155) k == y) (i) + _ = _
        simp [g1]
      rw [← e9]
      exact ih (i + 1) (by omega)
    · replace g1 := (not_congr (ne_n (a := clN (mi 155) i) (b := y) rfl rfl (by omega) (by omega))).mp g1
      refine wi_iconst (x := 1) rfl rfl ?_
      refine wi_goto rfl ?_
      refine wn_iadd (z := (Int32.ofNat (cntN (fun k => clN (mi 155) k == y) (i) + 1))) rfl (add_n (a := cntN (fun k => clN (mi 155) k == y) (i)) (b := 1) rfl (rfl : (1 : Int32) = Int32.ofNat 1)) ?_
      refine wi_istore_n rfl (Nat.le_of_ble_eq_true rfl) rfl rfl ?_
      refine wi_iinc (z := (Int32.ofNat (i + 1))) rfl rfl rfl (add_n (a := i) (b := 1) rfl rfl) rfl ?_
      refine wi_goto rfl ?_
      have e9 : cntN (fun k => clN (mi 155) k == y) (i + 1) = cntN (fun k => clN (mi 155) k == y) (i) + 1 := by
        show cntN (fun k => clN (mi 155) k == y) (i) + _ = _
        simp [g1]
      rw [← e9]
      exact ih (i + 1) (by omega)
theorem c_manyBy {y : Nat} (hy : y < 3) {z : Nat} (h30 : mi 134 30 = Int32.ofNat g) (hg : g ≤ 100) (hby : ∀ k, k < g → mi 155 k = Int32.ofNat (clN (mi 155) k) ∧ clN (mi 155) k ≤ 2) (hva : ∀ k, k < g → mi 156 k = Int32.ofNat (clN (mi 156) k) ∧ clN (mi 156) k ≤ 10) (hv : cntN (fun k => clN (mi 155) k == y) (g) = z) (hQ : Q (some (.int (Int32.ofNat z))) (am_shT, mrL b, mi, ml)) : am_wp X d 198 0 [.ref 134, .int (Int32.ofNat y), .retAddr 0, .retAddr 0] [] (am_shT, mrL b, mi, ml) Q := by
  refine wi_iconst (x := 0) rfl rfl ?_
  refine wi_istore_n rfl (Nat.le_of_ble_eq_true rfl) rfl rfl ?_
  refine wi_iconst (x := 0) rfl rfl ?_
  refine wi_istore_n rfl (Nat.le_of_ble_eq_true rfl) rfl rfl ?_
  subst hv
  exact lp_many hy h30 hg hby hva hQ g 0 (by omega)
theorem lp_many3 (h30 : mi 134 30 = Int32.ofNat g) (hg : g ≤ 100) (hby : ∀ k, k < g → mi 155 k = Int32.ofNat (clN (mi 155) k) ∧ clN (mi 155) k ≤ 2) (hva : ∀ k, k < g → mi 156 k = Int32.ofNat (clN (mi 156) k) ∧ clN (mi 156) k ≤ 10) (hQ : Q (some (.int (Int32.ofNat (cntN (fun _ => true) (g))))) (am_shT, mrL b, mi, ml)) : ∀ k i, i + k = g → am_wp X d 198 4 [.ref 134, .int 3, .int (Int32.ofNat (cntN (fun _ => true) (i))), .int (Int32.ofNat i)] [] (am_shT, mrL b, mi, ml) Q := by
  intro k
  induction k with
  | zero =>
    intro i hi
    refine wi_iload_n rfl rfl ?_
    refine wi_aload_n rfl rfl ?_
    refine wi_getIv (v := (Int32.ofNat (g))) rfl (kd_134 ..) h30 ?_
    refine wi_icmp_ge rfl (fun _ => ?_) (fun h9 => absurd trivial (by exfalso; have h8 := (not_congr (le_n (a := g) (b := i) rfl rfl (by omega) (by omega))).mp h9; omega))
    refine wi_iload_n rfl rfl ?_
    refine wi_iret rfl (Or.inl rfl) ?_
    obtain rfl : i = g := by omega
    exact hQ
  | succ k ih =>
    intro i hi
    have hb1 := (hby i (by omega)).2
    have hb3 : cntN (fun _ => true) (i) ≤ 1000 := Nat.le_trans cntN_le (by omega)
    refine wi_iload_n rfl rfl ?_
    refine wi_aload_n rfl rfl ?_
    refine wi_getIv (v := (Int32.ofNat (g))) rfl (kd_134 ..) h30 ?_
    refine wi_icmp_ge rfl (fun h9 => absurd trivial (by exfalso; have h8 := (le_n (a := g) (b := i) rfl rfl (by omega) (by omega)).mp h9; omega)) (fun _ => ?_)
    refine wi_iload_n rfl rfl ?_
    refine wi_iload_n rfl rfl ?_
    refine wi_iconst (x := 3) rfl rfl ?_
    refine wi_icmp_eq rfl (fun _ => ?_) (fun h9 => absurd (by decide) h9)
    refine wi_iconst (x := 1) rfl rfl ?_
    refine wi_goto rfl ?_
    refine wn_iadd (z := (Int32.ofNat (cntN (fun _ => true) (i) + 1))) rfl (add_n (a := cntN (fun _ => true) (i)) (b := 1) rfl (rfl : (1 : Int32) = Int32.ofNat 1)) ?_
    refine wi_istore_n rfl (Nat.le_of_ble_eq_true rfl) rfl rfl ?_
    refine wi_iinc (z := (Int32.ofNat (i + 1))) rfl rfl rfl (add_n (a := i) (b := 1) rfl rfl) rfl ?_
    refine wi_goto rfl ?_
    have e9 : cntN (fun _ => true) (i + 1) = cntN (fun _ => true) (i) + 1 := rfl
    rw [← e9]
    exact ih (i + 1) (by omega)
theorem c_manyBy3  {z : Nat} (h30 : mi 134 30 = Int32.ofNat g) (hg : g ≤ 100) (hby : ∀ k, k < g → mi 155 k = Int32.ofNat (clN (mi 155) k) ∧ clN (mi 155) k ≤ 2) (hva : ∀ k, k < g → mi 156 k = Int32.ofNat (clN (mi 156) k) ∧ clN (mi 156) k ≤ 10) (hv : cntN (fun _ => true) (g) = z) (hQ : Q (some (.int (Int32.ofNat z))) (am_shT, mrL b, mi, ml)) : am_wp X d 198 0 [.ref 134, .int 3, .retAddr 0, .retAddr 0] [] (am_shT, mrL b, mi, ml) Q := by
  refine wi_iconst (x := 0) rfl rfl ?_
  refine wi_istore_n rfl (Nat.le_of_ble_eq_true rfl) rfl rfl ?_
  refine wi_iconst (x := 0) rfl rfl ?_
  refine wi_istore_n rfl (Nat.le_of_ble_eq_true rfl) rfl rfl ?_
  subst hv
  exact lp_many3 h30 hg hby hva hQ g 0 (by omega)
theorem lp_sum {y : Nat} (hy : y < 3) (h30 : mi 134 30 = Int32.ofNat g) (hg : g ≤ 100) (hby : ∀ k, k < g → mi 155 k = Int32.ofNat (clN (mi 155) k) ∧ clN (mi 155) k ≤ 2) (hva : ∀ k, k < g → mi 156 k = Int32.ofNat (clN (mi 156) k) ∧ clN (mi 156) k ≤ 10) (hQ : Q (some (.int (Int32.ofNat (sumN (fun k => clN (mi 155) k == y) (clN (mi 156)) (g))))) (am_shT, mrL b, mi, ml)) : ∀ k i, i + k = g → am_wp X d 199 4 [.ref 134, .int (Int32.ofNat y), .int (Int32.ofNat (sumN (fun k => clN (mi 155) k == y) (clN (mi 156)) (i))), .int (Int32.ofNat i)] [] (am_shT, mrL b, mi, ml) Q := by
  intro k
  induction k with
  | zero =>
    intro i hi
    refine wi_iload_n rfl rfl ?_
    refine wi_aload_n rfl rfl ?_
    refine wi_getIv (v := (Int32.ofNat (g))) rfl (kd_134 ..) h30 ?_
    refine wi_icmp_ge rfl (fun _ => ?_) (fun h9 => absurd trivial (by exfalso; have h8 := (not_congr (le_n (a := g) (b := i) rfl rfl (by omega) (by omega))).mp h9; omega))
    refine wi_iload_n rfl rfl ?_
    refine wi_iret rfl (Or.inl rfl) ?_
    obtain rfl : i = g := by omega
    exact hQ
  | succ k ih =>
    intro i hi
    have hb1 := (hby i (by omega)).2
    have hb2 := (hva i (by omega)).2
    have hb3 : sumN (fun k => clN (mi 155) k == y) (clN (mi 156)) (i) ≤ 1000 := Nat.le_trans (sumN_le (z := 10) (fun k hk => (hva k (by omega)).2)) (by omega)
    refine wi_iload_n rfl rfl ?_
    refine wi_aload_n rfl rfl ?_
    refine wi_getIv (v := (Int32.ofNat (g))) rfl (kd_134 ..) h30 ?_
    refine wi_icmp_ge rfl (fun h9 => absurd trivial (by exfalso; have h8 := (le_n (a := g) (b := i) rfl rfl (by omega) (by omega)).mp h9; omega)) (fun _ => ?_)
    refine wi_iload_n rfl rfl ?_
    refine wi_iload_n rfl rfl ?_
    refine wi_iconst (x := 3) rfl rfl ?_
    refine wi_icmp_eq rfl (fun h9 => absurd trivial (by exfalso; have h8 := (eq_n (a := y) (b := 3) rfl (rfl : (3 : Int32) = Int32.ofNat 3) (by omega) (by omega)).mp h9; omega)) (fun _ => ?_)
    refine wi_aload_n rfl rfl ?_
    refine wi_getR rfl (kd_134 ..) (rd_134_32 _) ?_
    refine wi_iload_n rfl rfl ?_
    refine wn_iaload (q := i) (v := (Int32.ofNat (clN (mi 155) i))) rfl (ln_155 ..) rfl (by omega) (by decide) (by decide) (by decide) (hby i (by omega)).1 ?_
    refine wi_iload_n rfl rfl ?_
    refine wi_icmp_ne rfl (fun g1 => ?_) (fun g1 => ?_)
    · replace g1 := (ne_n (a := clN (mi 155) i) (b := y) rfl rfl (by omega) (by omega)).mp g1
      refine wi_iconst (x := 0) rfl rfl ?_
      refine wn_iadd (z := (Int32.ofNat (sumN (fun k => clN (mi 155) k == y) (clN (mi 156)) (i) + 0))) rfl (add_n (a := sumN (fun k => clN (mi 155) k == y) (clN (mi 156)) (i)) (b := 0) rfl (rfl : (0 : Int32) = Int32.ofNat 0)) ?_
      refine wi_istore_n rfl (Nat.le_of_ble_eq_true rfl) rfl rfl ?_
      refine wi_iinc (z := (Int32.ofNat (i + 1))) rfl rfl rfl (add_n (a := i) (b := 1) rfl rfl) rfl ?_
      refine wi_goto rfl ?_
      have e9 : sumN (fun k => clN (mi 155) k == y) (clN (mi 156)) (i + 1) = sumN (fun k => clN (mi 155) k == y) (clN (mi 156)) (i) + 0 := by
        show sumN (fun k => clN (mi 155) k == y) (clN (mi 156)) (i) + _ = _
        simp [g1]
      rw [← e9]
      exact ih (i + 1) (by omega)
    · replace g1 := (not_congr (ne_n (a := clN (mi 155) i) (b := y) rfl rfl (by omega) (by omega))).mp g1
      refine wi_aload_n rfl rfl ?_
      refine wi_getR rfl (kd_134 ..) (rd_134_33 _) ?_
      refine wi_iload_n rfl rfl ?_
      refine wn_iaload (q := i) (v := (Int32.ofNat (clN (mi 156) i))) rfl (ln_156 ..) rfl (by omega) (by decide) (by decide) (by decide) (hva i (by omega)).1 ?_
      refine wi_goto rfl ?_
      refine wn_iadd (z := (Int32.ofNat (sumN (fun k => clN (mi 155) k == y) (clN (mi 156)) (i) + clN (mi 156) i))) rfl (add_n (a := sumN (fun k => clN (mi 155) k == y) (clN (mi 156)) (i)) (b := clN (mi 156) i) rfl rfl) ?_
      refine wi_istore_n rfl (Nat.le_of_ble_eq_true rfl) rfl rfl ?_
      refine wi_iinc (z := (Int32.ofNat (i + 1))) rfl rfl rfl (add_n (a := i) (b := 1) rfl rfl) rfl ?_
      refine wi_goto rfl ?_
      have e9 : sumN (fun k => clN (mi 155) k == y) (clN (mi 156)) (i + 1) = sumN (fun k => clN (mi 155) k == y) (clN (mi 156)) (i) + clN (mi 156) i := by
        show sumN (fun k => clN (mi 155) k == y) (clN (mi 156)) (i) + _ = _
        simp [g1]
      rw [← e9]
      exact ih (i + 1) (by omega)
theorem c_sumBy {y : Nat} (hy : y < 3) {z : Nat} (h30 : mi 134 30 = Int32.ofNat g) (hg : g ≤ 100) (hby : ∀ k, k < g → mi 155 k = Int32.ofNat (clN (mi 155) k) ∧ clN (mi 155) k ≤ 2) (hva : ∀ k, k < g → mi 156 k = Int32.ofNat (clN (mi 156) k) ∧ clN (mi 156) k ≤ 10) (hv : sumN (fun k => clN (mi 155) k == y) (clN (mi 156)) (g) = z) (hQ : Q (some (.int (Int32.ofNat z))) (am_shT, mrL b, mi, ml)) : am_wp X d 199 0 [.ref 134, .int (Int32.ofNat y), .retAddr 0, .retAddr 0] [] (am_shT, mrL b, mi, ml) Q := by
  refine wi_iconst (x := 0) rfl rfl ?_
  refine wi_istore_n rfl (Nat.le_of_ble_eq_true rfl) rfl rfl ?_
  refine wi_iconst (x := 0) rfl rfl ?_
  refine wi_istore_n rfl (Nat.le_of_ble_eq_true rfl) rfl rfl ?_
  subst hv
  exact lp_sum hy h30 hg hby hva hQ g 0 (by omega)
theorem lp_sum3 (h30 : mi 134 30 = Int32.ofNat g) (hg : g ≤ 100) (hby : ∀ k, k < g → mi 155 k = Int32.ofNat (clN (mi 155) k) ∧ clN (mi 155) k ≤ 2) (hva : ∀ k, k < g → mi 156 k = Int32.ofNat (clN (mi 156) k) ∧ clN (mi 156) k ≤ 10) (hQ : Q (some (.int (Int32.ofNat (sumN (fun _ => true) (clN (mi 156)) (g))))) (am_shT, mrL b, mi, ml)) : ∀ k i, i + k = g → am_wp X d 199 4 [.ref 134, .int 3, .int (Int32.ofNat (sumN (fun _ => true) (clN (mi 156)) (i))), .int (Int32.ofNat i)] [] (am_shT, mrL b, mi, ml) Q := by
  intro k
  induction k with
  | zero =>
    intro i hi
    refine wi_iload_n rfl rfl ?_
    refine wi_aload_n rfl rfl ?_
    refine wi_getIv (v := (Int32.ofNat (g))) rfl (kd_134 ..) h30 ?_
    refine wi_icmp_ge rfl (fun _ => ?_) (fun h9 => absurd trivial (by exfalso; have h8 := (not_congr (le_n (a := g) (b := i) rfl rfl (by omega) (by omega))).mp h9; omega))
    refine wi_iload_n rfl rfl ?_
    refine wi_iret rfl (Or.inl rfl) ?_
    obtain rfl : i = g := by omega
    exact hQ
  | succ k ih =>
    intro i hi
    have hb1 := (hby i (by omega)).2
    have hb2 := (hva i (by omega)).2
    have hb3 : sumN (fun _ => true) (clN (mi 156)) (i) ≤ 1000 := Nat.le_trans (sumN_le (z := 10) (fun k hk => (hva k (by omega)).2)) (by omega)
    refine wi_iload_n rfl rfl ?_
    refine wi_aload_n rfl rfl ?_
    refine wi_getIv (v := (Int32.ofNat (g))) rfl (kd_134 ..) h30 ?_
    refine wi_icmp_ge rfl (fun h9 => absurd trivial (by exfalso; have h8 := (le_n (a := g) (b := i) rfl rfl (by omega) (by omega)).mp h9; omega)) (fun _ => ?_)
    refine wi_iload_n rfl rfl ?_
    refine wi_iload_n rfl rfl ?_
    refine wi_iconst (x := 3) rfl rfl ?_
    refine wi_icmp_eq rfl (fun _ => ?_) (fun h9 => absurd (by decide) h9)
    refine wi_aload_n rfl rfl ?_
    refine wi_getR rfl (kd_134 ..) (rd_134_33 _) ?_
    refine wi_iload_n rfl rfl ?_
    refine wn_iaload (q := i) (v := (Int32.ofNat (clN (mi 156) i))) rfl (ln_156 ..) rfl (by omega) (by decide) (by decide) (by decide) (hva i (by omega)).1 ?_
    refine wi_goto rfl ?_
    refine wn_iadd (z := (Int32.ofNat (sumN (fun _ => true) (clN (mi 156)) (i) + clN (mi 156) i))) rfl (add_n (a := sumN (fun _ => true) (clN (mi 156)) (i)) (b := clN (mi 156) i) rfl rfl) ?_
    refine wi_istore_n rfl (Nat.le_of_ble_eq_true rfl) rfl rfl ?_
    refine wi_iinc (z := (Int32.ofNat (i + 1))) rfl rfl rfl (add_n (a := i) (b := 1) rfl rfl) rfl ?_
    refine wi_goto rfl ?_
    have e9 : sumN (fun _ => true) (clN (mi 156)) (i + 1) = sumN (fun _ => true) (clN (mi 156)) (i) + clN (mi 156) i := rfl
    rw [← e9]
    exact ih (i + 1) (by omega)
theorem c_sumBy3  {z : Nat} (h30 : mi 134 30 = Int32.ofNat g) (hg : g ≤ 100) (hby : ∀ k, k < g → mi 155 k = Int32.ofNat (clN (mi 155) k) ∧ clN (mi 155) k ≤ 2) (hva : ∀ k, k < g → mi 156 k = Int32.ofNat (clN (mi 156) k) ∧ clN (mi 156) k ≤ 10) (hv : sumN (fun _ => true) (clN (mi 156)) (g) = z) (hQ : Q (some (.int (Int32.ofNat z))) (am_shT, mrL b, mi, ml)) : am_wp X d 199 0 [.ref 134, .int 3, .retAddr 0, .retAddr 0] [] (am_shT, mrL b, mi, ml) Q := by
  refine wi_iconst (x := 0) rfl rfl ?_
  refine wi_istore_n rfl (Nat.le_of_ble_eq_true rfl) rfl rfl ?_
  refine wi_iconst (x := 0) rfl rfl ?_
  refine wi_istore_n rfl (Nat.le_of_ble_eq_true rfl) rfl rfl ?_
  subst hv
  exact lp_sum3 h30 hg hby hva hQ g 0 (by omega)
end MB
