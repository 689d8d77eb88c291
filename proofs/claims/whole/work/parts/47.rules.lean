/-! ===== rules ===== -/
theorem RU_fr {mi mf : Nat → Nat → Int32} {ml ml2 : Nat → Nat → Int64} {b : Bool} {n t : Nat} (ho : ∀ a, a ≠ 0 → a ≠ 26 → a ≠ 28 → a ≠ 29 → a ≠ 30 → a ≠ 134 → (a < 31 ∨ (60 ≤ a ∧ a < 97) ∨ 126 ≤ a) → (a < 158 ∨ 165 < a) → mf a = mi a) (h13 : mf 0 13 = mi 0 13) (h14 : mf 0 14 = mi 0 14) (h134 : ∀ j, 1 < j → j < 35 → mf 134 j = mi 134 j) (hl : ∀ a, a ≠ 134 → a ≠ 166 → ml2 a = ml a) (hl2 : ∀ j, j ≠ 46 → ml2 134 j = ml 134 j) (h : RR mi ml b n t) : (mf 0 13 = Int32.ofNat n ∧ mf 134 4 = Int32.ofNat n ∧ n ≤ 8) ∧ (mf 0 14 = Int32.ofNat t ∧ mf 134 5 = Int32.ofNat t ∧ t ≤ 999) ∧ rTurf n (r8 (mf 126) (mf 127) (mf 128) (mf 129) (mf 130) (mf 131) (mf 132) (mf 133)) (mf 135) (mf 136) (mf 137) ∧ rWea (mf 4) (mf 5) (mf 138) (mf 139) ∧ rWea (mf 7) (mf 8) (mf 140) (mf 141) ∧ rMeas n (mf 9 3) (mf 134 14) (mf 10) (mf 11) (mf 12) (mf 143) (mf 144) (mf 145) ∧ rPlan (mf 13 5) (mf 134 20) (mf 16) (mf 147) ∧ rSea (mf 60 3) (mf 134 21) (mf 61) (mf 62) (mf 148) (mf 149) (r8 (mf 64) (mf 65) (mf 66) (mf 67) (mf 68) (mf 69) (mf 70) (mf 71)) (mf 150) (mf 60 4) (mf 134 22) (mf 60 5) (mf 134 23) (mf 60 10) (ml2 60 9) ∧ rMk (ml2 75 4) (ml2 75 5) (r8 (mf 77) (mf 78) (mf 79) (mf 80) (mf 81) (mf 82) (mf 83) (mf 84)) (r8 (mf 86) (mf 87) (mf 88) (mf 89) (mf 90) (mf 91) (mf 92) (mf 93)) (ml2 94) (ml2 95) (mf 134 30) (mf 154) (mf 155) (mf 156) ∧ (ml2 96 0 = ml2 134 2 ∧ ml2 96 1 = ml2 134 3) := by
  obtain ⟨-, hn, ht, hT, hF, hC, hM, hP, -, -, -, hS, hMk, hfr⟩ := h
  simp only [h13, h14, h134 4 (by decide) (by decide), h134 5 (by decide) (by decide), h134 14 (by decide) (by decide), h134 20 (by decide) (by decide), h134 21 (by decide) (by decide), h134 22 (by decide) (by decide), h134 23 (by decide) (by decide), h134 30 (by decide) (by decide), ho 4 (by decide) (by decide) (by decide) (by decide) (by decide) (by decide) (by decide) (by decide), ho 5 (by decide) (by decide) (by decide) (by decide) (by decide) (by decide) (by decide) (by decide), ho 7 (by decide) (by decide) (by decide) (by decide) (by decide) (by decide) (by decide) (by decide), ho 8 (by decide) (by decide) (by decide) (by decide) (by decide) (by decide) (by decide) (by decide), ho 9 (by decide) (by decide) (by decide) (by decide) (by decide) (by decide) (by decide) (by decide), ho 10 (by decide) (by decide) (by decide) (by decide) (by decide) (by decide) (by decide) (by decide), ho 11 (by decide) (by decide) (by decide) (by decide) (by decide) (by decide) (by decide) (by decide), ho 12 (by decide) (by decide) (by decide) (by decide) (by decide) (by decide) (by decide) (by decide), ho 13 (by decide) (by decide) (by decide) (by decide) (by decide) (by decide) (by decide) (by decide), ho 16 (by decide) (by decide) (by decide) (by decide) (by decide) (by decide) (by decide) (by decide), ho 60 (by decide) (by decide) (by decide) (by decide) (by decide) (by decide) (by decide) (by decide), ho 61 (by decide) (by decide) (by decide) (by decide) (by decide) (by decide) (by decide) (by decide), ho 62 (by decide) (by decide) (by decide) (by decide) (by decide) (by decide) (by decide) (by decide), ho 64 (by decide) (by decide) (by decide) (by decide) (by decide) (by decide) (by decide) (by decide), ho 65 (by decide) (by decide) (by decide) (by decide) (by decide) (by decide) (by decide) (by decide), ho 66 (by decide) (by decide) (by decide) (by decide) (by decide) (by decide) (by decide) (by decide), ho 67 (by decide) (by decide) (by decide) (by decide) (by decide) (by decide) (by decide) (by decide), ho 68 (by decide) (by decide) (by decide) (by decide) (by decide) (by decide) (by decide) (by decide), ho 69 (by decide) (by decide) (by decide) (by decide) (by decide) (by decide) (by decide) (by decide), ho 70 (by decide) (by decide) (by decide) (by decide) (by decide) (by decide) (by decide) (by decide), ho 71 (by decide) (by decide) (by decide) (by decide) (by decide) (by decide) (by decide) (by decide), ho 77 (by decide) (by decide) (by decide) (by decide) (by decide) (by decide) (by decide) (by decide), ho 78 (by decide) (by decide) (by decide) (by decide) (by decide) (by decide) (by decide) (by decide), ho 79 (by decide) (by decide) (by decide) (by decide) (by decide) (by decide) (by decide) (by decide), ho 80 (by decide) (by decide) (by decide) (by decide) (by decide) (by decide) (by decide) (by decide), ho 81 (by decide) (by decide) (by decide) (by decide) (by decide) (by decide) (by decide) (by decide), ho 82 (by decide) (by decide) (by decide) (by decide) (by decide) (by decide) (by decide) (by decide), ho 83 (by decide) (by decide) (by decide) (by decide) (by decide) (by decide) (by decide) (by decide), ho 84 (by decide) (by decide) (by decide) (by decide) (by decide) (by decide) (by decide) (by decide), ho 86 (by decide) (by decide) (by decide) (by decide) (by decide) (by decide) (by decide) (by decide), ho 87 (by decide) (by decide) (by decide) (by decide) (by decide) (by decide) (by decide) (by decide), ho 88 (by decide) (by decide) (by decide) (by decide) (by decide) (by decide) (by decide) (by decide), ho 89 (by decide) (by decide) (by decide) (by decide) (by decide) (by decide) (by decide) (by decide), ho 90 (by decide) (by decide) (by decide) (by decide) (by decide) (by decide) (by decide) (by decide), ho 91 (by decide) (by decide) (by decide) (by decide) (by decide) (by decide) (by decide) (by decide), ho 92 (by decide) (by decide) (by decide) (by decide) (by decide) (by decide) (by decide) (by decide), ho 93 (by decide) (by decide) (by decide) (by decide) (by decide) (by decide) (by decide) (by decide), ho 126 (by decide) (by decide) (by decide) (by decide) (by decide) (by decide) (by decide) (by decide), ho 127 (by decide) (by decide) (by decide) (by decide) (by decide) (by decide) (by decide) (by decide), ho 128 (by decide) (by decide) (by decide) (by decide) (by decide) (by decide) (by decide) (by decide), ho 129 (by decide) (by decide) (by decide) (by decide) (by decide) (by decide) (by decide) (by decide), ho 130 (by decide) (by decide) (by decide) (by decide) (by decide) (by decide) (by decide) (by decide), ho 131 (by decide) (by decide) (by decide) (by decide) (by decide) (by decide) (by decide) (by decide), ho 132 (by decide) (by decide) (by decide) (by decide) (by decide) (by decide) (by decide) (by decide), ho 133 (by decide) (by decide) (by decide) (by decide) (by decide) (by decide) (by decide) (by decide), ho 135 (by decide) (by decide) (by decide) (by decide) (by decide) (by decide) (by decide) (by decide), ho 136 (by decide) (by decide) (by decide) (by decide) (by decide) (by decide) (by decide) (by decide), ho 137 (by decide) (by decide) (by decide) (by decide) (by decide) (by decide) (by decide) (by decide), ho 138 (by decide) (by decide) (by decide) (by decide) (by decide) (by decide) (by decide) (by decide), ho 139 (by decide) (by decide) (by decide) (by decide) (by decide) (by decide) (by decide) (by decide), ho 140 (by decide) (by decide) (by decide) (by decide) (by decide) (by decide) (by decide) (by decide), ho 141 (by decide) (by decide) (by decide) (by decide) (by decide) (by decide) (by decide) (by decide), ho 143 (by decide) (by decide) (by decide) (by decide) (by decide) (by decide) (by decide) (by decide), ho 144 (by decide) (by decide) (by decide) (by decide) (by decide) (by decide) (by decide) (by decide), ho 145 (by decide) (by decide) (by decide) (by decide) (by decide) (by decide) (by decide) (by decide), ho 147 (by decide) (by decide) (by decide) (by decide) (by decide) (by decide) (by decide) (by decide), ho 148 (by decide) (by decide) (by decide) (by decide) (by decide) (by decide) (by decide) (by decide), ho 149 (by decide) (by decide) (by decide) (by decide) (by decide) (by decide) (by decide) (by decide), ho 150 (by decide) (by decide) (by decide) (by decide) (by decide) (by decide) (by decide) (by decide), ho 154 (by decide) (by decide) (by decide) (by decide) (by decide) (by decide) (by decide) (by decide), ho 155 (by decide) (by decide) (by decide) (by decide) (by decide) (by decide) (by decide) (by decide), ho 156 (by decide) (by decide) (by decide) (by decide) (by decide) (by decide) (by decide) (by decide), hl 60 (by decide) (by decide), hl 75 (by decide) (by decide), hl 94 (by decide) (by decide), hl 95 (by decide) (by decide), hl 96 (by decide) (by decide), hl2 2 (by decide), hl2 3 (by decide)]
  exact ⟨hn, ht, hT, hF, hC, hM, hP, hS, hMk, hfr⟩
theorem bkfr_true {mi mf : Nat → Nat → Int32} (ho : ∀ a, 31 ≤ a → a < 60 → mf a = mi a) (h1 : ∀ a, 158 ≤ a → a ≤ 161 → mf a = mi a) (h47 : mf 134 47 = mi 134 47) (h : rBk mi true) : rBk mf true := by
  unfold rBk at h ⊢
  simp only [h47, ho 31 (by decide) (by decide), ho 32 (by decide) (by decide), ho 34 (by decide) (by decide), ho 35 (by decide) (by decide), ho 36 (by decide) (by decide), ho 37 (by decide) (by decide), ho 38 (by decide) (by decide), ho 39 (by decide) (by decide), ho 40 (by decide) (by decide), ho 41 (by decide) (by decide), ho 43 (by decide) (by decide), ho 44 (by decide) (by decide), ho 45 (by decide) (by decide), ho 46 (by decide) (by decide), ho 47 (by decide) (by decide), ho 48 (by decide) (by decide), ho 49 (by decide) (by decide), ho 50 (by decide) (by decide), ho 52 (by decide) (by decide), ho 53 (by decide) (by decide), ho 54 (by decide) (by decide), ho 55 (by decide) (by decide), ho 56 (by decide) (by decide), ho 57 (by decide) (by decide), ho 58 (by decide) (by decide), ho 59 (by decide) (by decide), h1 158 (by decide) (by decide), h1 159 (by decide) (by decide), h1 160 (by decide) (by decide), h1 161 (by decide) (by decide)]
  exact h
theorem bknew_true {T : Nat → Nat} {N : Nat} {mf : Nat → Nat → Int32} {E : rgS} (hin : inS T N E) (hx : bkX 31 E mf) (h47 : mf 134 47 = Int32.ofNat E.r) (hm : ∀ i, i < E.r → mf 158 i = Int32.ofNat (E.tc i) ∧ ∀ k, k < E.tc i → mf 159 (6 * i + k) = Int32.ofNat (E.fa i k) ∧ mf 160 (6 * i + k) = Int32.ofNat (E.fs i k) ∧ mf 161 (6 * i + k) = Int32.ofNat (E.fn i k)) : rBk mf true := by
  have e8 : ∀ (z r : Nat), r < 8 → r8 (mf z) (mf (z + 1)) (mf (z + 2)) (mf (z + 3)) (mf (z + 4)) (mf (z + 5)) (mf (z + 6)) (mf (z + 7)) r = mf (z + r) := fun z r hr => r8_eq hr
  have hr8 := hin.2.1
  refine ⟨E.r, hx.1, h47, hr8, fun r hr => ?_⟩
  obtain ⟨q1, q2⟩ := hx.2 r hr
  obtain ⟨q3, q4⟩ := hm r hr
  have q5 := hin.2.2.2.2.2.2 r hr
  refine ⟨E.tc r, q5.1, q1, q3, fun k hk => ?_⟩
  rw [e8 34 r (by omega), e8 43 r (by omega), e8 52 r (by omega)]
  obtain ⟨z1, z2, z3⟩ := q2 k hk
  obtain ⟨z4, z5, z6⟩ := q4 k hk
  refine ⟨z1.trans z4.symm, z2.trans z5.symm, z3.trans z6.symm, ?_⟩
  have z7 : mf (34 + r) k = Int32.ofNat (E.fa r k) := z1
  rw [z7]
  exact rB_of (hi := 7) (q5.2.2.2.2 k hk) (by decide)
theorem bkfr_false {mi mf : Nat → Nat → Int32} (ho : ∀ a, 97 ≤ a → a < 126 → mf a = mi a) (h1 : ∀ a, 158 ≤ a → a ≤ 161 → mf a = mi a) (h47 : mf 134 47 = mi 134 47) (h : rBk mi false) : rBk mf false := by
  unfold rBk at h ⊢
  simp only [h47, ho 97 (by decide) (by decide), ho 98 (by decide) (by decide), ho 100 (by decide) (by decide), ho 101 (by decide) (by decide), ho 102 (by decide) (by decide), ho 103 (by decide) (by decide), ho 104 (by decide) (by decide), ho 105 (by decide) (by decide), ho 106 (by decide) (by decide), ho 107 (by decide) (by decide), ho 109 (by decide) (by decide), ho 110 (by decide) (by decide), ho 111 (by decide) (by decide), ho 112 (by decide) (by decide), ho 113 (by decide) (by decide), ho 114 (by decide) (by decide), ho 115 (by decide) (by decide), ho 116 (by decide) (by decide), ho 118 (by decide) (by decide), ho 119 (by decide) (by decide), ho 120 (by decide) (by decide), ho 121 (by decide) (by decide), ho 122 (by decide) (by decide), ho 123 (by decide) (by decide), ho 124 (by decide) (by decide), ho 125 (by decide) (by decide), h1 158 (by decide) (by decide), h1 159 (by decide) (by decide), h1 160 (by decide) (by decide), h1 161 (by decide) (by decide)]
  exact h
theorem bknew_false {T : Nat → Nat} {N : Nat} {mf : Nat → Nat → Int32} {E : rgS} (hin : inS T N E) (hx : bkX 97 E mf) (h47 : mf 134 47 = Int32.ofNat E.r) (hm : ∀ i, i < E.r → mf 158 i = Int32.ofNat (E.tc i) ∧ ∀ k, k < E.tc i → mf 159 (6 * i + k) = Int32.ofNat (E.fa i k) ∧ mf 160 (6 * i + k) = Int32.ofNat (E.fs i k) ∧ mf 161 (6 * i + k) = Int32.ofNat (E.fn i k)) : rBk mf false := by
  have e8 : ∀ (z r : Nat), r < 8 → r8 (mf z) (mf (z + 1)) (mf (z + 2)) (mf (z + 3)) (mf (z + 4)) (mf (z + 5)) (mf (z + 6)) (mf (z + 7)) r = mf (z + r) := fun z r hr => r8_eq hr
  have hr8 := hin.2.1
  refine ⟨E.r, hx.1, h47, hr8, fun r hr => ?_⟩
  obtain ⟨q1, q2⟩ := hx.2 r hr
  obtain ⟨q3, q4⟩ := hm r hr
  have q5 := hin.2.2.2.2.2.2 r hr
  refine ⟨E.tc r, q5.1, q1, q3, fun k hk => ?_⟩
  rw [e8 100 r (by omega), e8 109 r (by omega), e8 118 r (by omega)]
  obtain ⟨z1, z2, z3⟩ := q2 k hk
  obtain ⟨z4, z5, z6⟩ := q4 k hk
  refine ⟨z1.trans z4.symm, z2.trans z5.symm, z3.trans z6.symm, ?_⟩
  have z7 : mf (100 + r) k = Int32.ofNat (E.fa r k) := z1
  rw [z7]
  exact rB_of (hi := 7) (q5.2.2.2.2 k hk) (by decide)
theorem tk_p {T : Nat → Nat} {S S' : rgS} {s e kd : Nat} (h : tkS T S s e kd = .inr S') : S'.p = e := by
  unfold tkS at h
  split at h
  · cases h
  split at h
  · unfold tk0 at h
    split at h
    · cases h
    split at h
    · cases h
    split at h
    · cases h
    · cases h; rfl
  split at h
  · unfold tk1 at h
    split at h
    · cases h; rfl
    · cases h
  split at h
  · unfold tk2 at h
    split at h
    · cases h
    · split at h
      · cases h
      · cases h; rfl
  split at h
  · unfold tk3 at h
    split at h
    · cases h; rfl
    · cases h
  split at h
  · unfold tk4 at h
    split at h
    · cases h; rfl
    · cases h
  · unfold tk5 at h
    split at h
    · cases h; rfl
    split at h
    · cases h; rfl
    · cases h
theorem zero_le (c : Nat) (h : c < 2147483648) : (0 : Int32) ≤ Int32.ofNat c := by
  rw [Int32.le_iff_toInt_le, i32_toInt h]
  exact Int.natCast_nonneg _
theorem run_p {T : Nat → Nat} {N : Nat} {S E : rgS} {fk fp : Nat} (h : runS T N S fk fp E) (hp : S.p ≤ N) : fp ≤ N := by
  refine h (fun S _ fp _ => S.p ≤ N → fp ≤ N) ⟨fun S h1 h2 _ => Nat.zero_le _, fun S h1 h2 _ => Nat.le_refl _, fun S k h1 h2 _ => by omega, fun S S' E k q h1 h2 ih _ => ?_⟩ hp
  refine ih ?_
  have hb := en_b (T := T) h1
  have : S'.p = enT T N (rn T N isB S.p) := tk_p h2
  omega
set_option maxHeartbeats 4000000 in
theorem a_rules {X : Nat × (Nat → Int32)} {n9 : Int32} : arm X 119 183 [.ref 0, .int n9, .retAddr 0] [.ref 134, .int n9, .retAddr 0, .retAddr 0] := by
  intro mi ml b hR Q hK
  obtain ⟨n, t, hst, ⟨hn0, hn4, hn⟩, ⟨ht0, ht5, ht⟩, hTT, hF, hC, hM, hP, hTp, hB, hFa, hS, hMk, hfr⟩ := hR
  obtain ⟨cnt, hq26, hq35, hcnt, hby⟩ := hTp
  rcases wn_cases n9 0 cnt (by decide) (by omega) with e_n | ⟨N9, l_n, h_n, rfl⟩
  · rcases wn_zero.mp e_n with z_n | z_n
    · refine wi_iload_n rfl rfl ?_
      refine wi_iconst (x := 0) rfl rfl ?_
      refine wi_aload_n rfl rfl ?_
      refine wi_getR rfl (kd_0 ..) (rd_0_6 _) ?_
      refine wi_callV0 rfl (by decide) (by decide) rfl (kd_26 ..) rfl rfl rfl ?_
      refine wi_aload_n rfl rfl ?_
      refine wi_getIv (v := (Int32.ofNat (cnt))) rfl (kd_26 ..) hq26 ?_
      refine wi_iret rfl (Or.inl rfl) ?_
      refine wi_callS3 rfl (by decide) (by decide) rfl rfl rfl (c_wiV e_n ?_)
      refine wi_if_ne rfl (fun h9 => absurd h9 (by decide)) (fun _ => ?_)
      refine wi_aload_n rfl rfl ?_
      refine wi_iconst (x := 2) rfl rfl ?_
      refine wi_callV1 rfl (by decide) (by decide) rfl (kd_0 ..) rfl rfl rfl ?_
      refine wi_aload_n rfl rfl ?_
      refine wi_iload_n rfl rfl ?_
      refine wi_putI rfl (kd_0 ..) ?_
      refine wi_iconst (x := (-1)) rfl rfl ?_
      refine wi_iret rfl (Or.inl rfl) ?_
      refine wi_iret rfl (Or.inl rfl) ?_
      refine hK _ _ _ _ (fun Q2 h2 => ?_)
      refine wi_aload_n rfl rfl ?_
      refine wi_iconst (x := 0) rfl rfl ?_
      refine wi_putI rfl (kd_134 ..) ?_
      refine wi_aload_n rfl rfl ?_
      refine wi_iconst (x := 0) rfl rfl ?_
      refine wi_putI rfl (kd_134 ..) ?_
      refine wi_iload_n rfl rfl ?_
      refine wi_if_lt rfl (fun _ => ?_) (fun h9 => absurd z_n h9)
      refine wi_aload_n rfl rfl ?_
      refine wi_iconst (x := 2) rfl rfl ?_
      refine wi_callV1 rfl (by decide) (by decide) rfl (kd_134 ..) rfl rfl rfl ?_
      refine wi_aload_n rfl rfl ?_
      refine wi_iload_n rfl rfl ?_
      refine wi_putI rfl (kd_134 ..) ?_
      refine wi_iconst (x := (-1)) rfl rfl ?_
      refine wi_iret rfl (Or.inl rfl) ?_
      refine wi_iret rfl (Or.inl rfl) ?_
      refine h2 _ _ _ ?_
      exact ⟨n, t, rfl, ⟨hn0, hn4, hn⟩, ⟨ht0, ht5, ht⟩, hTT, hF, hC, hM, hP, ⟨cnt, hq26, hq35, hcnt, hby⟩, hB, hFa, hS, hMk, hfr⟩
    · refine wi_iload_n rfl rfl ?_
      refine wi_iconst (x := 0) rfl rfl ?_
      refine wi_aload_n rfl rfl ?_
      refine wi_getR rfl (kd_0 ..) (rd_0_6 _) ?_
      refine wi_callV0 rfl (by decide) (by decide) rfl (kd_26 ..) rfl rfl rfl ?_
      refine wi_aload_n rfl rfl ?_
      refine wi_getIv (v := (Int32.ofNat (cnt))) rfl (kd_26 ..) hq26 ?_
      refine wi_iret rfl (Or.inl rfl) ?_
      refine wi_callS3 rfl (by decide) (by decide) rfl rfl rfl (c_wiV e_n ?_)
      refine wi_if_ne rfl (fun h9 => absurd h9 (by decide)) (fun _ => ?_)
      refine wi_aload_n rfl rfl ?_
      refine wi_iconst (x := 2) rfl rfl ?_
      refine wi_callV1 rfl (by decide) (by decide) rfl (kd_0 ..) rfl rfl rfl ?_
      refine wi_aload_n rfl rfl ?_
      refine wi_iload_n rfl rfl ?_
      refine wi_putI rfl (kd_0 ..) ?_
      refine wi_iconst (x := (-1)) rfl rfl ?_
      refine wi_iret rfl (Or.inl rfl) ?_
      refine wi_iret rfl (Or.inl rfl) ?_
      refine hK _ _ _ _ (fun Q2 h2 => ?_)
      refine wi_aload_n rfl rfl ?_
      refine wi_iconst (x := 0) rfl rfl ?_
      refine wi_putI rfl (kd_134 ..) ?_
      refine wi_aload_n rfl rfl ?_
      refine wi_iconst (x := 0) rfl rfl ?_
      refine wi_putI rfl (kd_134 ..) ?_
      refine wi_iload_n rfl rfl ?_
      refine wi_if_lt rfl (fun h9 => absurd (Int32.lt_trans h9 (Int32.lt_of_le_of_lt (zero_le cnt (by omega)) z_n)) (fun h7 => Int32.lt_irrefl h7)) (fun _ => ?_)
      refine wi_iload_n rfl rfl ?_
      refine wi_aload_n rfl rfl ?_
      refine wi_getIv (v := (Int32.ofNat (cnt))) rfl (kd_134 ..) hq35 ?_
      refine wi_icmp_le rfl (fun h9 => absurd z_n (Int32.not_lt.mpr h9)) (fun _ => ?_)
      refine wi_aload_n rfl rfl ?_
      refine wi_iconst (x := 2) rfl rfl ?_
      refine wi_callV1 rfl (by decide) (by decide) rfl (kd_134 ..) rfl rfl rfl ?_
      refine wi_aload_n rfl rfl ?_
      refine wi_iload_n rfl rfl ?_
      refine wi_putI rfl (kd_134 ..) ?_
      refine wi_iconst (x := (-1)) rfl rfl ?_
      refine wi_iret rfl (Or.inl rfl) ?_
      refine wi_iret rfl (Or.inl rfl) ?_
      refine h2 _ _ _ ?_
      exact ⟨n, t, rfl, ⟨hn0, hn4, hn⟩, ⟨ht0, ht5, ht⟩, hTT, hF, hC, hM, hP, ⟨cnt, hq26, hq35, hcnt, hby⟩, hB, hFa, hS, hMk, hfr⟩
  · obtain ⟨T, hTd⟩ : ∃ T : Nat → Nat, T = fun k => clN (mi 27) k % 256 := ⟨_, rfl⟩
    have hT : ∀ k, T k < 256 := fun k => by rw [hTd]; exact Nat.mod_lt _ (by decide)
    have h27 : ∀ k, k < cnt → mi 27 k = Int32.ofNat (T k) := fun k hk => by
      obtain ⟨x, hx, he⟩ := pk_andE (mi 157 k) (m := 255) 8 (by decide)
      have he2 : mi 27 k = Int32.ofNat x := (hby k hk).trans he
      have hx2 : x < 256 := hx
      have e1 : clN (mi 27) k = x := by unfold clN; exact cl_n he2 (by omega)
      rw [hTd, he2]
      show Int32.ofNat x = Int32.ofNat (clN (mi 27) k % 256)
      rw [e1, Nat.mod_eq_of_lt hx2]
    have h157 : ∀ k, k < N9 → mi 157 k &&& 255 = Int32.ofNat (T k) := fun k hk => (hby k (by omega)).symm.trans (h27 k (by omega))
    cases b
    · have hRR : RR mi ml false n t := ⟨hst, ⟨hn0, hn4, hn⟩, ⟨ht0, ht5, ht⟩, hTT, hF, hC, hM, hP, ⟨cnt, hq26, hq35, hcnt, hby⟩, hB, hFa, hS, hMk, hfr⟩
      refine wi_iload_n rfl rfl ?_
      refine wi_iconst (x := 0) rfl rfl ?_
      refine wi_aload_n rfl rfl ?_
      refine wi_getR rfl (kd_0 ..) (rd_0_6 _) ?_
      refine wi_callV0 rfl (by decide) (by decide) rfl (kd_26 ..) rfl rfl rfl ?_
      refine wi_aload_n rfl rfl ?_
      refine wi_getIv (v := (Int32.ofNat (cnt))) rfl (kd_26 ..) hq26 ?_
      refine wi_iret rfl (Or.inl rfl) ?_
      refine wi_callS3 rfl (by decide) (by decide) rfl rfl rfl (c_wiV (wn_in (lo := 0) (hi := cnt) (by omega) (by omega) (by omega)) ?_)
      refine wi_if_ne rfl (fun _ => ?_) (fun h9 => absurd (by decide) h9)
      refine wi_aload_n rfl rfl ?_
      refine wi_getR rfl (kd_0 ..) (rd_0_7 _) ?_
      refine wi_iload_n rfl rfl ?_
      refine wi_callV1 rfl (by decide) (by decide) rfl (kd_28 ..) rfl rfl rfl (c_readAll_false (T := T) (N := N9) hcnt h_n hT hq26 h27 (fun fk fp E mi2 r1 r2 r3 => ?_))
      refine wi_istore_n (l' := [.ref 0, .int (Int32.ofNat (N9)), .int (bI (decide (fk = 0)))]) rfl (Nat.le_of_ble_eq_true rfl) rfl rfl ?_
      refine wi_aload_n rfl rfl ?_
      refine wi_getR rfl (kd_0 ..) (rd_0_6 _) ?_
      refine wi_callV0 rfl (by decide) (by decide) rfl (kd_26 ..) rfl rfl rfl ?_
      refine wi_aload_n rfl rfl ?_
      refine wi_iconst (x := 0) rfl rfl ?_
      refine wi_putI rfl (kd_26 ..) ?_
      refine wi_ret rfl ?_
      refine wi_iload_n rfl rfl ?_
      refine wi_if_ne rfl (fun g1 => ?_) (fun g1 => ?_)
      · skip
        refine wi_aload_n rfl rfl ?_
        refine wi_aload_n rfl rfl ?_
        refine wi_getR rfl (kd_0 ..) (rd_0_7 _) ?_
        refine wi_aload_n rfl rfl ?_
        refine wi_getR rfl (kd_0 ..) (rd_0_11 false) ?_
        refine wi_callV1 rfl (by decide) (by decide) rfl (kd_28 ..) rfl rfl rfl ?_
        refine wi_aload_n rfl rfl ?_
        refine wi_getR rfl (kd_28 ..) (rd_28_3 false) ?_
        refine wi_astore_n (l' := [.ref 28, .ref 97, .ref 31]) rfl (Nat.le_of_ble_eq_true rfl) rfl rfl ?_
        refine wi_aload_n rfl rfl ?_
        refine wi_aload_n rfl rfl ?_
        refine wi_putR rfl ⟨kd_28 .., by decide, by decide⟩ rfl ?_
        refine wi_aload_n rfl rfl ?_
        refine wi_aret rfl ?_
        refine wi_putR (mr' := mrL true) rfl ⟨kd_0 .., by decide, by decide⟩ rfl ?_
        refine wi_aload_n rfl rfl ?_
        refine wi_aload_n rfl rfl ?_
        refine wi_getR rfl (kd_0 ..) (rd_0_11 true) ?_
        refine wi_callV0 rfl (by decide) (by decide) rfl (kd_31 ..) rfl rfl rfl ?_
        refine wi_aload_n rfl rfl ?_
        refine wi_getIv (v := Int32.ofNat E.r) rfl (kd_31 ..) ((r3.2.2.2.2 (of_decide_eq_true (bI_nz g1))).1) ?_
        refine wi_iret rfl (Or.inl rfl) ?_
        refine wi_callV1 rfl (by decide) (by decide) rfl (kd_0 ..) rfl rfl rfl ?_
        refine wi_aload_n rfl rfl ?_
        refine wi_iconst (x := 0) rfl rfl ?_
        refine wi_putI rfl (kd_0 ..) ?_
        refine wi_iload_n rfl rfl ?_
        refine wi_iret rfl (Or.inl rfl) ?_
        refine wi_iret rfl (Or.inl rfl) ?_
        have hfk0 : fk = 0 := of_decide_eq_true (bI_nz g1)
        have hfkb := run_k r1
        have hfpb := run_p r1 (Nat.zero_le _)
        have k157 : ∀ k, k < N9 → mi2 157 k &&& 255 = Int32.ofNat (T k) := by rw [r3.1 157 (by decide) (by decide)]; exact h157
        have hn4 : mi2 134 4 = Int32.ofNat n := by rw [r3.1 134 (by decide) (by decide)]; exact hn4
        have hq35 : mi2 134 35 = Int32.ofNat cnt := by rw [r3.1 134 (by decide) (by decide)]; exact hq35
        refine hK _ _ _ _ (fun Q2 h2 => ?_)
        refine wi_aload_n rfl rfl ?_
        refine wi_iconst (x := 0) rfl rfl ?_
        refine wi_putI rfl (kd_134 ..) ?_
        refine wi_aload_n rfl rfl ?_
        refine wi_iconst (x := 0) rfl rfl ?_
        refine wi_putI rfl (kd_134 ..) ?_
        refine wi_iload_n rfl rfl ?_
        refine wi_if_lt rfl (fun h9 => absurd trivial (by exfalso; have h8 := (lt_n (a := N9) (b := 0) rfl (rfl : (0 : Int32) = Int32.ofNat 0) (by omega) (by omega)).mp h9; omega)) (fun _ => ?_)
        refine wi_iload_n rfl rfl ?_
        refine wi_aload_n rfl rfl ?_
        refine wi_getIv (v := (Int32.ofNat (cnt))) rfl (kd_134 ..) hq35 ?_
        refine wi_icmp_le rfl (fun _ => ?_) (fun h9 => absurd trivial (by exfalso; have h8 := (not_congr (le_n (a := N9) (b := cnt) rfl rfl (by omega) (by omega))).mp h9; omega))
        refine wi_aload_n rfl rfl ?_
        refine wi_iload_n rfl rfl ?_
        refine wi_putI rfl (kd_134 ..) ?_
        refine wi_aload_n rfl rfl ?_
        refine wi_iconst (x := 0) rfl rfl ?_
        refine wi_putI rfl (kd_134 ..) ?_
        refine wi_aload_n rfl rfl ?_
        refine wi_iconst (x := 0) rfl rfl ?_
        refine wi_putI rfl (kd_134 ..) ?_
        refine wi_aload_n rfl rfl ?_
        refine wi_iconst (x := 0) rfl rfl ?_
        refine wi_putI rfl (kd_134 ..) ?_
        refine wi_aload_n rfl rfl ?_
        refine wi_iconst (x := 0) rfl rfl ?_
        refine wi_putI rfl (kd_134 ..) ?_
        refine wi_aload_n rfl rfl ?_
        refine wi_callV0 rfl (by decide) (by decide) rfl (kd_134 ..) rfl rfl rfl (c_mnext (T := T) (N := N9) (p := 0) (by omega) hT rfl k157 rfl (Nat.zero_le _) (fun mi3 ml3 n1 n2 n3 n4 n5 => ?_))
        refine ru_loop (mi0 := (u2 (u2 (u2 (u2 (u2 (u2 (u2 (u2 (u2 mi2 26 1 (0 : Int32)) 0 12 (0 : Int32)) 134 1 (0 : Int32)) 134 0 (0 : Int32)) 134 36 ((Int32.ofNat (N9)))) 134 35 (0 : Int32)) 134 43 (0 : Int32)) 134 39 (0 : Int32)) 134 48 (0 : Int32))) (ml0 := ml) (E := E) (fk := fk) (fp := fp) (by omega) hT rfl k157 (N9 + 1) S0 mi3 ml3 (by show N9 - 0 < N9 + 1; omega) S0_in rfl (MS_nx (mi := (u2 (u2 (u2 (u2 (u2 (u2 (u2 (u2 (u2 mi2 26 1 (0 : Int32)) 0 12 (0 : Int32)) 134 1 (0 : Int32)) 134 0 (0 : Int32)) 134 36 ((Int32.ofNat (N9)))) 134 35 (0 : Int32)) 134 43 (0 : Int32)) 134 39 (0 : Int32)) 134 48 (0 : Int32))) (ml := ml) (S := S0) (nr := 0) ⟨⟨fun _ _ _ => rfl, fun _ _ => rfl, fun _ _ _ => rfl, fun _ _ => rfl⟩, rfl, rfl, fun i hi => absurd hi (Nat.not_lt_zero _)⟩ n1 n2 n3 n4) n5 r1 (fun mi4 ml4 y1 y2 => ?_)
        obtain ⟨hM4, hinE⟩ := y2 hfk0
        refine wi_aload_n rfl rfl ?_
        refine wi_aload_n rfl rfl ?_
        refine wi_getIv (v := 0) rfl (kd_134 ..) hM4.2.1 ?_
        refine wi_putI rfl (kd_134 ..) ?_
        refine wi_aload_n rfl rfl ?_
        refine wi_aload_n rfl rfl ?_
        refine wi_getIv (v := 0) rfl (kd_134 ..) hM4.2.1 ?_
        refine wi_if_ne rfl (fun h9 => absurd h9 (by decide)) (fun _ => ?_)
        refine wi_iconst (x := (-1)) rfl rfl ?_
        refine wi_goto rfl ?_
        refine wi_putI rfl (kd_134 ..) ?_
        refine wi_aload_n rfl rfl ?_
        refine wi_getIv (v := 0) rfl (kd_134 ..) hM4.2.1 ?_
        refine wi_if_le rfl (fun _ => ?_) (fun h9 => absurd (by decide) h9)
        refine wi_aload_n rfl rfl ?_
        refine wi_aload_n rfl rfl ?_
        refine wi_getIv (v := Int32.ofNat E.r) rfl (kd_134 ..) hM4.2.2.1 ?_
        refine wi_putI rfl (kd_134 ..) ?_
        refine wi_iconst (x := 0) rfl rfl ?_
        refine wi_istore_n (l' := [.ref 134, .int (Int32.ofNat (N9)), .int (0 : Int32), .retAddr 0]) rfl (Nat.le_of_ble_eq_true rfl) rfl rfl ?_
        refine cp_out (tc := E.tc) hinE.2.1 (fun i hi => (hinE.2.2.2.2.2.2 i hi).1) E.r 0 _ _ (by omega) rfl (fun i hi => (hM4.2.2.2 i hi).1) (fun mi5 c1 c2 c3 => ?_)
        refine h2 _ _ _ ?_
        have hoX : ∀ a, (a < 28 ∨ 31 ≤ a) → (a < 31 ∨ 31 + 29 ≤ a) → mi2 a = mi a := r3.1
        obtain ⟨⟨F1, F2, F3, F4⟩, F5, F6, F7⟩ := hM4
        have hm : ∀ a, a ≠ 134 → (a < 158 ∨ 165 < a) → mi5 a = (u2 (u2 (u2 (u2 (u2 (u2 (u2 (u2 (u2 mi2 26 1 0) 0 12 0) 134 1 0) 134 0 0) 134 36 (Int32.ofNat (N9))) 134 35 0) 134 43 0) 134 39 0) 134 48 0) a := fun a a1 a2 => (c1 a (by omega) (by omega) (by omega) (by omega)).trans ((u2_ne a1).trans ((u2_ne a1).trans ((u2_ne a1).trans (F1 a a1 (by omega)))))
        have hm2 : ∀ a, a ≠ 0 → a ≠ 26 → a ≠ 134 → (a < 158 ∨ 165 < a) → mi5 a = mi2 a := fun a a1 a2 a3 a6 => (hm a a3 a6).trans ((u2_ne a3).trans ((u2_ne a3).trans ((u2_ne a3).trans ((u2_ne a3).trans ((u2_ne a3).trans ((u2_ne a3).trans ((u2_ne a3).trans ((u2_ne a1).trans (u2_ne a2)))))))))
        have m134 : mi5 134 = (u2 (u2 (u2 mi4 134 37 0) 134 38 (-1)) 134 47 (Int32.ofNat E.r)) 134 := c1 134 (by decide) (by decide) (by decide) (by decide)
        have hj : ∀ j, 1 < j → j < 35 → mi5 134 j = mi 134 j := fun j j1 j2 => by
          rw [m134, u2_off (by omega), u2_off (by omega), u2_off (by omega), F2 j (by omega), u2_off (by omega), u2_off (by omega), u2_off (by omega), u2_off (by omega), u2_off (by omega), u2_off (by omega), u2_off (by omega), u2_ne (by decide), u2_ne (by decide), hoX 134 (by decide) (by decide)]
        have h0 : ∀ j, j ≠ 12 → mi5 0 j = mi 0 j := fun j j1 => by
          rw [hm 0 (by decide) (by decide), u2_ne (by decide), u2_ne (by decide), u2_ne (by decide), u2_ne (by decide), u2_ne (by decide), u2_ne (by decide), u2_ne (by decide), u2_off j1, u2_ne (by decide), hoX 0 (by decide) (by decide)]
        obtain ⟨kn, kt, kT, kF, kC, kM, kP, kS, kMk, kfr⟩ := RU_fr (mf := mi5) (ml2 := ml4) (fun a a1 a2 a3 a4 a5 a6 a7 a8 => (hm2 a a1 a2 a6 (by omega)).trans (hoX a (by omega) (by omega))) (h0 13 (by decide)) (h0 14 (by decide)) hj F3 F4 hRR
        have k12 : mi5 0 12 = mi5 134 0 := by
          rw [m134, u2_off (by decide), u2_off (by decide), u2_off (by decide), F2 0 (by decide), hm 0 (by decide) (by decide)]; rfl
        have k26 : mi5 26 1 = Int32.ofNat 0 := by rw [hm 26 (by decide) (by decide)]; rfl
        have k35 : mi5 134 35 = Int32.ofNat 0 := by
          rw [m134, u2_off (by decide), u2_off (by decide), u2_off (by decide), F2 35 (by decide)]; rfl
        have k47 : mi5 134 47 = Int32.ofNat E.r := by rw [m134]; exact u2_same
        have k28 : mi5 28 = mi2 28 := hm2 28 (by decide) (by decide) (by decide) (by decide)
        have kX : bkX 31 E mi5 := by
          have h9 := r3.2.2.2.2 hfk0
          refine ⟨by rw [hm2 31 (by decide) (by decide) (by decide) (by decide)]; exact h9.1, fun i hi => ?_⟩
          have hi8 := hinE.2.1
          rw [hm2 (31 + 1) (by decide) (by decide) (by decide) (by decide), hm2 (31 + 3 + i) (by omega) (by omega) (by omega) (by omega), hm2 (31 + 12 + i) (by omega) (by omega) (by omega) (by omega), hm2 (31 + 21 + i) (by omega) (by omega) (by omega) (by omega)]
          exact h9.2 i hi
        have kB : rBk mi5 true := bknew_true hinE kX k47 (fun i hi => by
          obtain ⟨q1, q2⟩ := c2 i (Nat.zero_le _) hi
          obtain ⟨q3, q4, q5⟩ := F7 i hi
          refine ⟨q1.trans q3, fun k hk => ?_⟩
          obtain ⟨q6, q7, q8⟩ := q2 k hk
          obtain ⟨q9, q10, q11⟩ := q5 k hk
          exact ⟨q6.trans q9, q7.trans q10, q8.trans q11⟩)
        exact ⟨n, t, k12, kn, kt, kT, kF, kC, kM, kP, ⟨0, k26, k35, by decide, fun k hk => absurd hk (Nat.not_lt_zero _)⟩, kB, ⟨by rw [k28, m134]; exact r3.2.1.trans (by rw [hfk0]; rfl), by rw [k28, m134]; exact r3.2.2.1 hfk0⟩, kS, kMk, kfr⟩
      · replace g1 := Classical.not_not.mp g1
        refine wi_aload_n rfl rfl ?_
        refine wi_bipush (x := 8) rfl rfl ?_
        refine wi_callV1 rfl (by decide) (by decide) rfl (kd_0 ..) rfl rfl rfl ?_
        refine wi_aload_n rfl rfl ?_
        refine wi_iload_n rfl rfl ?_
        refine wi_putI rfl (kd_0 ..) ?_
        refine wi_iconst (x := (-1)) rfl rfl ?_
        refine wi_iret rfl (Or.inl rfl) ?_
        refine wi_iret rfl (Or.inl rfl) ?_
        have hfk0 : ¬ fk = 0 := of_decide_eq_false (bI_z g1)
        have hfkb := run_k r1
        have hfpb := run_p r1 (Nat.zero_le _)
        have k157 : ∀ k, k < N9 → mi2 157 k &&& 255 = Int32.ofNat (T k) := by rw [r3.1 157 (by decide) (by decide)]; exact h157
        have hn4 : mi2 134 4 = Int32.ofNat n := by rw [r3.1 134 (by decide) (by decide)]; exact hn4
        have hq35 : mi2 134 35 = Int32.ofNat cnt := by rw [r3.1 134 (by decide) (by decide)]; exact hq35
        refine hK _ _ _ _ (fun Q2 h2 => ?_)
        refine wi_aload_n rfl rfl ?_
        refine wi_iconst (x := 0) rfl rfl ?_
        refine wi_putI rfl (kd_134 ..) ?_
        refine wi_aload_n rfl rfl ?_
        refine wi_iconst (x := 0) rfl rfl ?_
        refine wi_putI rfl (kd_134 ..) ?_
        refine wi_iload_n rfl rfl ?_
        refine wi_if_lt rfl (fun h9 => absurd trivial (by exfalso; have h8 := (lt_n (a := N9) (b := 0) rfl (rfl : (0 : Int32) = Int32.ofNat 0) (by omega) (by omega)).mp h9; omega)) (fun _ => ?_)
        refine wi_iload_n rfl rfl ?_
        refine wi_aload_n rfl rfl ?_
        refine wi_getIv (v := (Int32.ofNat (cnt))) rfl (kd_134 ..) hq35 ?_
        refine wi_icmp_le rfl (fun _ => ?_) (fun h9 => absurd trivial (by exfalso; have h8 := (not_congr (le_n (a := N9) (b := cnt) rfl rfl (by omega) (by omega))).mp h9; omega))
        refine wi_aload_n rfl rfl ?_
        refine wi_iload_n rfl rfl ?_
        refine wi_putI rfl (kd_134 ..) ?_
        refine wi_aload_n rfl rfl ?_
        refine wi_iconst (x := 0) rfl rfl ?_
        refine wi_putI rfl (kd_134 ..) ?_
        refine wi_aload_n rfl rfl ?_
        refine wi_iconst (x := 0) rfl rfl ?_
        refine wi_putI rfl (kd_134 ..) ?_
        refine wi_aload_n rfl rfl ?_
        refine wi_iconst (x := 0) rfl rfl ?_
        refine wi_putI rfl (kd_134 ..) ?_
        refine wi_aload_n rfl rfl ?_
        refine wi_iconst (x := 0) rfl rfl ?_
        refine wi_putI rfl (kd_134 ..) ?_
        refine wi_aload_n rfl rfl ?_
        refine wi_callV0 rfl (by decide) (by decide) rfl (kd_134 ..) rfl rfl rfl (c_mnext (T := T) (N := N9) (p := 0) (by omega) hT rfl k157 rfl (Nat.zero_le _) (fun mi3 ml3 n1 n2 n3 n4 n5 => ?_))
        refine ru_loop (mi0 := (u2 (u2 (u2 (u2 (u2 (u2 (u2 (u2 (u2 mi2 26 1 (0 : Int32)) 0 12 (8 : Int32)) 134 1 (0 : Int32)) 134 0 (0 : Int32)) 134 36 ((Int32.ofNat (N9)))) 134 35 (0 : Int32)) 134 43 (0 : Int32)) 134 39 (0 : Int32)) 134 48 (0 : Int32))) (ml0 := ml) (E := E) (fk := fk) (fp := fp) (by omega) hT rfl k157 (N9 + 1) S0 mi3 ml3 (by show N9 - 0 < N9 + 1; omega) S0_in rfl (MS_nx (mi := (u2 (u2 (u2 (u2 (u2 (u2 (u2 (u2 (u2 mi2 26 1 (0 : Int32)) 0 12 (8 : Int32)) 134 1 (0 : Int32)) 134 0 (0 : Int32)) 134 36 ((Int32.ofNat (N9)))) 134 35 (0 : Int32)) 134 43 (0 : Int32)) 134 39 (0 : Int32)) 134 48 (0 : Int32))) (ml := ml) (S := S0) (nr := 0) ⟨⟨fun _ _ _ => rfl, fun _ _ => rfl, fun _ _ _ => rfl, fun _ _ => rfl⟩, rfl, rfl, fun i hi => absurd hi (Nat.not_lt_zero _)⟩ n1 n2 n3 n4) n5 r1 (fun mi4 ml4 y1 y2 => ?_)
        have hF4 := y1 hfk0
        refine wi_aload_n rfl rfl ?_
        refine wi_aload_n rfl rfl ?_
        refine wi_getIv (v := Int32.ofNat fk) rfl (kd_134 ..) hF4.2.1 ?_
        refine wi_putI rfl (kd_134 ..) ?_
        refine wi_aload_n rfl rfl ?_
        refine wi_aload_n rfl rfl ?_
        refine wi_getIv (v := Int32.ofNat fk) rfl (kd_134 ..) hF4.2.1 ?_
        refine wi_if_ne rfl (fun _ => ?_) (fun h9 => absurd trivial (by exfalso; have h8 := (not_congr (ne_n (a := fk) (b := 0) rfl (rfl : (0 : Int32) = Int32.ofNat 0) (by omega) (by omega))).mp h9; omega))
        refine wi_aload_n rfl rfl ?_
        refine wi_getIv (v := Int32.ofNat fp) rfl (kd_134 ..) hF4.2.2 ?_
        refine wi_putI rfl (kd_134 ..) ?_
        refine wi_aload_n rfl rfl ?_
        refine wi_getIv (v := Int32.ofNat fk) rfl (kd_134 ..) hF4.2.1 ?_
        refine wi_if_le rfl (fun h9 => absurd trivial (by exfalso; have h8 := (le_n (a := fk) (b := 0) rfl (rfl : (0 : Int32) = Int32.ofNat 0) (by omega) (by omega)).mp h9; omega)) (fun _ => ?_)
        refine wi_aload_n rfl rfl ?_
        refine wi_bipush (x := 8) rfl rfl ?_
        refine wi_callV1 rfl (by decide) (by decide) rfl (kd_134 ..) rfl rfl rfl ?_
        refine wi_aload_n rfl rfl ?_
        refine wi_iload_n rfl rfl ?_
        refine wi_putI rfl (kd_134 ..) ?_
        refine wi_iconst (x := (-1)) rfl rfl ?_
        refine wi_iret rfl (Or.inl rfl) ?_
        refine wi_iret rfl (Or.inl rfl) ?_
        refine h2 _ _ _ ?_
        have hoX : ∀ a, (a < 28 ∨ 31 ≤ a) → (a < 31 ∨ 31 + 29 ≤ a) → mi2 a = mi a := r3.1
        obtain ⟨⟨F1, F2, F3, F4⟩, F5, F6⟩ := hF4
        have hm : ∀ a, a ≠ 134 → (a < 162 ∨ 165 < a) → (u2 (u2 (u2 mi4 134 37 (Int32.ofNat fk)) 134 38 (Int32.ofNat fp)) 134 0 8) a = (u2 (u2 (u2 (u2 (u2 (u2 (u2 (u2 (u2 mi2 26 1 0) 0 12 8) 134 1 0) 134 0 0) 134 36 (Int32.ofNat (N9))) 134 35 0) 134 43 0) 134 39 0) 134 48 0) a := fun a a1 a2 => (u2_ne a1).trans ((u2_ne a1).trans ((u2_ne a1).trans (F1 a a1 a2)))
        have hm2 : ∀ a, a ≠ 0 → a ≠ 26 → a ≠ 134 → (a < 28 ∨ 31 ≤ a) → (a < 31 ∨ 31 + 29 ≤ a) → (a < 162 ∨ 165 < a) → (u2 (u2 (u2 mi4 134 37 (Int32.ofNat fk)) 134 38 (Int32.ofNat fp)) 134 0 8) a = mi a := fun a a1 a2 a3 a4 a5 a6 => (hm a a3 a6).trans ((u2_ne a3).trans ((u2_ne a3).trans ((u2_ne a3).trans ((u2_ne a3).trans ((u2_ne a3).trans ((u2_ne a3).trans ((u2_ne a3).trans ((u2_ne a1).trans ((u2_ne a2).trans (hoX a a4 a5))))))))))
        have hj : ∀ j, 1 < j → j < 35 → (u2 (u2 (u2 mi4 134 37 (Int32.ofNat fk)) 134 38 (Int32.ofNat fp)) 134 0 8) 134 j = mi 134 j := fun j j1 j2 => by
          rw [u2_off (by omega), u2_off (by omega), u2_off (by omega), F2 j (by omega), u2_off (by omega), u2_off (by omega), u2_off (by omega), u2_off (by omega), u2_off (by omega), u2_off (by omega), u2_off (by omega), u2_ne (by decide), u2_ne (by decide), hoX 134 (by decide) (by decide)]
        have h0 : ∀ j, j ≠ 12 → (u2 (u2 (u2 mi4 134 37 (Int32.ofNat fk)) 134 38 (Int32.ofNat fp)) 134 0 8) 0 j = mi 0 j := fun j j1 => by
          rw [hm 0 (by decide) (by decide), u2_ne (by decide), u2_ne (by decide), u2_ne (by decide), u2_ne (by decide), u2_ne (by decide), u2_ne (by decide), u2_ne (by decide), u2_off j1, u2_ne (by decide), hoX 0 (by decide) (by decide)]
        obtain ⟨kn, kt, kT, kF, kC, kM, kP, kS, kMk, kfr⟩ := RU_fr (mf := (u2 (u2 (u2 mi4 134 37 (Int32.ofNat fk)) 134 38 (Int32.ofNat fp)) 134 0 8)) (ml2 := ml4) (fun a a1 a2 a3 a4 a5 a6 a7 a8 => hm2 a a1 a2 a6 (by omega) (by omega) (by omega)) (h0 13 (by decide)) (h0 14 (by decide)) hj F3 F4 hRR
        have k12 : (u2 (u2 (u2 mi4 134 37 (Int32.ofNat fk)) 134 38 (Int32.ofNat fp)) 134 0 8) 0 12 = 8 := by rw [hm 0 (by decide) (by decide)]; rfl
        have k26 : (u2 (u2 (u2 mi4 134 37 (Int32.ofNat fk)) 134 38 (Int32.ofNat fp)) 134 0 8) 26 1 = Int32.ofNat 0 := by rw [hm 26 (by decide) (by decide)]; rfl
        have k35 : (u2 (u2 (u2 mi4 134 37 (Int32.ofNat fk)) 134 38 (Int32.ofNat fp)) 134 0 8) 134 35 = Int32.ofNat 0 := by
          rw [u2_off (by decide), u2_off (by decide), u2_off (by decide), F2 35 (by decide)]; rfl
        have k47 : (u2 (u2 (u2 mi4 134 37 (Int32.ofNat fk)) 134 38 (Int32.ofNat fp)) 134 0 8) 134 47 = mi 134 47 := by
          rw [u2_off (by decide), u2_off (by decide), u2_off (by decide), F2 47 (by decide)]
          exact congrFun (hoX 134 (by decide) (by decide)) 47
        have k28 : (u2 (u2 (u2 mi4 134 37 (Int32.ofNat fk)) 134 38 (Int32.ofNat fp)) 134 0 8) 28 = mi2 28 := hm 28 (by decide) (by decide)
        have kB : rBk (u2 (u2 (u2 mi4 134 37 (Int32.ofNat fk)) 134 38 (Int32.ofNat fp)) 134 0 8) false := bkfr_false (fun a a1 a2 => hm2 a (by omega) (by omega) (by omega) (by omega) (by omega) (by omega)) (fun a a1 a2 => hm2 a (by omega) (by omega) (by omega) (by omega) (by omega) (by omega)) k47 hB
        exact ⟨n, t, k12, kn, kt, kT, kF, kC, kM, kP, ⟨0, k26, k35, by decide, fun k hk => absurd hk (Nat.not_lt_zero _)⟩, kB, ⟨by rw [k28]; exact r3.2.1, by rw [k28]; exact r3.2.2.2.1 hfk0⟩, kS, kMk, kfr⟩
    · have hRR : RR mi ml true n t := ⟨hst, ⟨hn0, hn4, hn⟩, ⟨ht0, ht5, ht⟩, hTT, hF, hC, hM, hP, ⟨cnt, hq26, hq35, hcnt, hby⟩, hB, hFa, hS, hMk, hfr⟩
      refine wi_iload_n rfl rfl ?_
      refine wi_iconst (x := 0) rfl rfl ?_
      refine wi_aload_n rfl rfl ?_
      refine wi_getR rfl (kd_0 ..) (rd_0_6 _) ?_
      refine wi_callV0 rfl (by decide) (by decide) rfl (kd_26 ..) rfl rfl rfl ?_
      refine wi_aload_n rfl rfl ?_
      refine wi_getIv (v := (Int32.ofNat (cnt))) rfl (kd_26 ..) hq26 ?_
      refine wi_iret rfl (Or.inl rfl) ?_
      refine wi_callS3 rfl (by decide) (by decide) rfl rfl rfl (c_wiV (wn_in (lo := 0) (hi := cnt) (by omega) (by omega) (by omega)) ?_)
      refine wi_if_ne rfl (fun _ => ?_) (fun h9 => absurd (by decide) h9)
      refine wi_aload_n rfl rfl ?_
      refine wi_getR rfl (kd_0 ..) (rd_0_7 _) ?_
      refine wi_iload_n rfl rfl ?_
      refine wi_callV1 rfl (by decide) (by decide) rfl (kd_28 ..) rfl rfl rfl (c_readAll_true (T := T) (N := N9) hcnt h_n hT hq26 h27 (fun fk fp E mi2 r1 r2 r3 => ?_))
      refine wi_istore_n (l' := [.ref 0, .int (Int32.ofNat (N9)), .int (bI (decide (fk = 0)))]) rfl (Nat.le_of_ble_eq_true rfl) rfl rfl ?_
      refine wi_aload_n rfl rfl ?_
      refine wi_getR rfl (kd_0 ..) (rd_0_6 _) ?_
      refine wi_callV0 rfl (by decide) (by decide) rfl (kd_26 ..) rfl rfl rfl ?_
      refine wi_aload_n rfl rfl ?_
      refine wi_iconst (x := 0) rfl rfl ?_
      refine wi_putI rfl (kd_26 ..) ?_
      refine wi_ret rfl ?_
      refine wi_iload_n rfl rfl ?_
      refine wi_if_ne rfl (fun g1 => ?_) (fun g1 => ?_)
      · skip
        refine wi_aload_n rfl rfl ?_
        refine wi_aload_n rfl rfl ?_
        refine wi_getR rfl (kd_0 ..) (rd_0_7 _) ?_
        refine wi_aload_n rfl rfl ?_
        refine wi_getR rfl (kd_0 ..) (rd_0_11 true) ?_
        refine wi_callV1 rfl (by decide) (by decide) rfl (kd_28 ..) rfl rfl rfl ?_
        refine wi_aload_n rfl rfl ?_
        refine wi_getR rfl (kd_28 ..) (rd_28_3 true) ?_
        refine wi_astore_n (l' := [.ref 28, .ref 31, .ref 97]) rfl (Nat.le_of_ble_eq_true rfl) rfl rfl ?_
        refine wi_aload_n rfl rfl ?_
        refine wi_aload_n rfl rfl ?_
        refine wi_putR rfl ⟨kd_28 .., by decide, by decide⟩ rfl ?_
        refine wi_aload_n rfl rfl ?_
        refine wi_aret rfl ?_
        refine wi_putR (mr' := mrL false) rfl ⟨kd_0 .., by decide, by decide⟩ rfl ?_
        refine wi_aload_n rfl rfl ?_
        refine wi_aload_n rfl rfl ?_
        refine wi_getR rfl (kd_0 ..) (rd_0_11 false) ?_
        refine wi_callV0 rfl (by decide) (by decide) rfl (kd_97 ..) rfl rfl rfl ?_
        refine wi_aload_n rfl rfl ?_
        refine wi_getIv (v := Int32.ofNat E.r) rfl (kd_97 ..) ((r3.2.2.2.2 (of_decide_eq_true (bI_nz g1))).1) ?_
        refine wi_iret rfl (Or.inl rfl) ?_
        refine wi_callV1 rfl (by decide) (by decide) rfl (kd_0 ..) rfl rfl rfl ?_
        refine wi_aload_n rfl rfl ?_
        refine wi_iconst (x := 0) rfl rfl ?_
        refine wi_putI rfl (kd_0 ..) ?_
        refine wi_iload_n rfl rfl ?_
        refine wi_iret rfl (Or.inl rfl) ?_
        refine wi_iret rfl (Or.inl rfl) ?_
        have hfk0 : fk = 0 := of_decide_eq_true (bI_nz g1)
        have hfkb := run_k r1
        have hfpb := run_p r1 (Nat.zero_le _)
        have k157 : ∀ k, k < N9 → mi2 157 k &&& 255 = Int32.ofNat (T k) := by rw [r3.1 157 (by decide) (by decide)]; exact h157
        have hn4 : mi2 134 4 = Int32.ofNat n := by rw [r3.1 134 (by decide) (by decide)]; exact hn4
        have hq35 : mi2 134 35 = Int32.ofNat cnt := by rw [r3.1 134 (by decide) (by decide)]; exact hq35
        refine hK _ _ _ _ (fun Q2 h2 => ?_)
        refine wi_aload_n rfl rfl ?_
        refine wi_iconst (x := 0) rfl rfl ?_
        refine wi_putI rfl (kd_134 ..) ?_
        refine wi_aload_n rfl rfl ?_
        refine wi_iconst (x := 0) rfl rfl ?_
        refine wi_putI rfl (kd_134 ..) ?_
        refine wi_iload_n rfl rfl ?_
        refine wi_if_lt rfl (fun h9 => absurd trivial (by exfalso; have h8 := (lt_n (a := N9) (b := 0) rfl (rfl : (0 : Int32) = Int32.ofNat 0) (by omega) (by omega)).mp h9; omega)) (fun _ => ?_)
        refine wi_iload_n rfl rfl ?_
        refine wi_aload_n rfl rfl ?_
        refine wi_getIv (v := (Int32.ofNat (cnt))) rfl (kd_134 ..) hq35 ?_
        refine wi_icmp_le rfl (fun _ => ?_) (fun h9 => absurd trivial (by exfalso; have h8 := (not_congr (le_n (a := N9) (b := cnt) rfl rfl (by omega) (by omega))).mp h9; omega))
        refine wi_aload_n rfl rfl ?_
        refine wi_iload_n rfl rfl ?_
        refine wi_putI rfl (kd_134 ..) ?_
        refine wi_aload_n rfl rfl ?_
        refine wi_iconst (x := 0) rfl rfl ?_
        refine wi_putI rfl (kd_134 ..) ?_
        refine wi_aload_n rfl rfl ?_
        refine wi_iconst (x := 0) rfl rfl ?_
        refine wi_putI rfl (kd_134 ..) ?_
        refine wi_aload_n rfl rfl ?_
        refine wi_iconst (x := 0) rfl rfl ?_
        refine wi_putI rfl (kd_134 ..) ?_
        refine wi_aload_n rfl rfl ?_
        refine wi_iconst (x := 0) rfl rfl ?_
        refine wi_putI rfl (kd_134 ..) ?_
        refine wi_aload_n rfl rfl ?_
        refine wi_callV0 rfl (by decide) (by decide) rfl (kd_134 ..) rfl rfl rfl (c_mnext (T := T) (N := N9) (p := 0) (by omega) hT rfl k157 rfl (Nat.zero_le _) (fun mi3 ml3 n1 n2 n3 n4 n5 => ?_))
        refine ru_loop (mi0 := (u2 (u2 (u2 (u2 (u2 (u2 (u2 (u2 (u2 mi2 26 1 (0 : Int32)) 0 12 (0 : Int32)) 134 1 (0 : Int32)) 134 0 (0 : Int32)) 134 36 ((Int32.ofNat (N9)))) 134 35 (0 : Int32)) 134 43 (0 : Int32)) 134 39 (0 : Int32)) 134 48 (0 : Int32))) (ml0 := ml) (E := E) (fk := fk) (fp := fp) (by omega) hT rfl k157 (N9 + 1) S0 mi3 ml3 (by show N9 - 0 < N9 + 1; omega) S0_in rfl (MS_nx (mi := (u2 (u2 (u2 (u2 (u2 (u2 (u2 (u2 (u2 mi2 26 1 (0 : Int32)) 0 12 (0 : Int32)) 134 1 (0 : Int32)) 134 0 (0 : Int32)) 134 36 ((Int32.ofNat (N9)))) 134 35 (0 : Int32)) 134 43 (0 : Int32)) 134 39 (0 : Int32)) 134 48 (0 : Int32))) (ml := ml) (S := S0) (nr := 0) ⟨⟨fun _ _ _ => rfl, fun _ _ => rfl, fun _ _ _ => rfl, fun _ _ => rfl⟩, rfl, rfl, fun i hi => absurd hi (Nat.not_lt_zero _)⟩ n1 n2 n3 n4) n5 r1 (fun mi4 ml4 y1 y2 => ?_)
        obtain ⟨hM4, hinE⟩ := y2 hfk0
        refine wi_aload_n rfl rfl ?_
        refine wi_aload_n rfl rfl ?_
        refine wi_getIv (v := 0) rfl (kd_134 ..) hM4.2.1 ?_
        refine wi_putI rfl (kd_134 ..) ?_
        refine wi_aload_n rfl rfl ?_
        refine wi_aload_n rfl rfl ?_
        refine wi_getIv (v := 0) rfl (kd_134 ..) hM4.2.1 ?_
        refine wi_if_ne rfl (fun h9 => absurd h9 (by decide)) (fun _ => ?_)
        refine wi_iconst (x := (-1)) rfl rfl ?_
        refine wi_goto rfl ?_
        refine wi_putI rfl (kd_134 ..) ?_
        refine wi_aload_n rfl rfl ?_
        refine wi_getIv (v := 0) rfl (kd_134 ..) hM4.2.1 ?_
        refine wi_if_le rfl (fun _ => ?_) (fun h9 => absurd (by decide) h9)
        refine wi_aload_n rfl rfl ?_
        refine wi_aload_n rfl rfl ?_
        refine wi_getIv (v := Int32.ofNat E.r) rfl (kd_134 ..) hM4.2.2.1 ?_
        refine wi_putI rfl (kd_134 ..) ?_
        refine wi_iconst (x := 0) rfl rfl ?_
        refine wi_istore_n (l' := [.ref 134, .int (Int32.ofNat (N9)), .int (0 : Int32), .retAddr 0]) rfl (Nat.le_of_ble_eq_true rfl) rfl rfl ?_
        refine cp_out (tc := E.tc) hinE.2.1 (fun i hi => (hinE.2.2.2.2.2.2 i hi).1) E.r 0 _ _ (by omega) rfl (fun i hi => (hM4.2.2.2 i hi).1) (fun mi5 c1 c2 c3 => ?_)
        refine h2 _ _ _ ?_
        have hoX : ∀ a, (a < 28 ∨ 31 ≤ a) → (a < 97 ∨ 97 + 29 ≤ a) → mi2 a = mi a := r3.1
        obtain ⟨⟨F1, F2, F3, F4⟩, F5, F6, F7⟩ := hM4
        have hm : ∀ a, a ≠ 134 → (a < 158 ∨ 165 < a) → mi5 a = (u2 (u2 (u2 (u2 (u2 (u2 (u2 (u2 (u2 mi2 26 1 0) 0 12 0) 134 1 0) 134 0 0) 134 36 (Int32.ofNat (N9))) 134 35 0) 134 43 0) 134 39 0) 134 48 0) a := fun a a1 a2 => (c1 a (by omega) (by omega) (by omega) (by omega)).trans ((u2_ne a1).trans ((u2_ne a1).trans ((u2_ne a1).trans (F1 a a1 (by omega)))))
        have hm2 : ∀ a, a ≠ 0 → a ≠ 26 → a ≠ 134 → (a < 158 ∨ 165 < a) → mi5 a = mi2 a := fun a a1 a2 a3 a6 => (hm a a3 a6).trans ((u2_ne a3).trans ((u2_ne a3).trans ((u2_ne a3).trans ((u2_ne a3).trans ((u2_ne a3).trans ((u2_ne a3).trans ((u2_ne a3).trans ((u2_ne a1).trans (u2_ne a2)))))))))
        have m134 : mi5 134 = (u2 (u2 (u2 mi4 134 37 0) 134 38 (-1)) 134 47 (Int32.ofNat E.r)) 134 := c1 134 (by decide) (by decide) (by decide) (by decide)
        have hj : ∀ j, 1 < j → j < 35 → mi5 134 j = mi 134 j := fun j j1 j2 => by
          rw [m134, u2_off (by omega), u2_off (by omega), u2_off (by omega), F2 j (by omega), u2_off (by omega), u2_off (by omega), u2_off (by omega), u2_off (by omega), u2_off (by omega), u2_off (by omega), u2_off (by omega), u2_ne (by decide), u2_ne (by decide), hoX 134 (by decide) (by decide)]
        have h0 : ∀ j, j ≠ 12 → mi5 0 j = mi 0 j := fun j j1 => by
          rw [hm 0 (by decide) (by decide), u2_ne (by decide), u2_ne (by decide), u2_ne (by decide), u2_ne (by decide), u2_ne (by decide), u2_ne (by decide), u2_ne (by decide), u2_off j1, u2_ne (by decide), hoX 0 (by decide) (by decide)]
        obtain ⟨kn, kt, kT, kF, kC, kM, kP, kS, kMk, kfr⟩ := RU_fr (mf := mi5) (ml2 := ml4) (fun a a1 a2 a3 a4 a5 a6 a7 a8 => (hm2 a a1 a2 a6 (by omega)).trans (hoX a (by omega) (by omega))) (h0 13 (by decide)) (h0 14 (by decide)) hj F3 F4 hRR
        have k12 : mi5 0 12 = mi5 134 0 := by
          rw [m134, u2_off (by decide), u2_off (by decide), u2_off (by decide), F2 0 (by decide), hm 0 (by decide) (by decide)]; rfl
        have k26 : mi5 26 1 = Int32.ofNat 0 := by rw [hm 26 (by decide) (by decide)]; rfl
        have k35 : mi5 134 35 = Int32.ofNat 0 := by
          rw [m134, u2_off (by decide), u2_off (by decide), u2_off (by decide), F2 35 (by decide)]; rfl
        have k47 : mi5 134 47 = Int32.ofNat E.r := by rw [m134]; exact u2_same
        have k28 : mi5 28 = mi2 28 := hm2 28 (by decide) (by decide) (by decide) (by decide)
        have kX : bkX 97 E mi5 := by
          have h9 := r3.2.2.2.2 hfk0
          refine ⟨by rw [hm2 97 (by decide) (by decide) (by decide) (by decide)]; exact h9.1, fun i hi => ?_⟩
          have hi8 := hinE.2.1
          rw [hm2 (97 + 1) (by decide) (by decide) (by decide) (by decide), hm2 (97 + 3 + i) (by omega) (by omega) (by omega) (by omega), hm2 (97 + 12 + i) (by omega) (by omega) (by omega) (by omega), hm2 (97 + 21 + i) (by omega) (by omega) (by omega) (by omega)]
          exact h9.2 i hi
        have kB : rBk mi5 false := bknew_false hinE kX k47 (fun i hi => by
          obtain ⟨q1, q2⟩ := c2 i (Nat.zero_le _) hi
          obtain ⟨q3, q4, q5⟩ := F7 i hi
          refine ⟨q1.trans q3, fun k hk => ?_⟩
          obtain ⟨q6, q7, q8⟩ := q2 k hk
          obtain ⟨q9, q10, q11⟩ := q5 k hk
          exact ⟨q6.trans q9, q7.trans q10, q8.trans q11⟩)
        exact ⟨n, t, k12, kn, kt, kT, kF, kC, kM, kP, ⟨0, k26, k35, by decide, fun k hk => absurd hk (Nat.not_lt_zero _)⟩, kB, ⟨by rw [k28, m134]; exact r3.2.1.trans (by rw [hfk0]; rfl), by rw [k28, m134]; exact r3.2.2.1 hfk0⟩, kS, kMk, kfr⟩
      · replace g1 := Classical.not_not.mp g1
        refine wi_aload_n rfl rfl ?_
        refine wi_bipush (x := 8) rfl rfl ?_
        refine wi_callV1 rfl (by decide) (by decide) rfl (kd_0 ..) rfl rfl rfl ?_
        refine wi_aload_n rfl rfl ?_
        refine wi_iload_n rfl rfl ?_
        refine wi_putI rfl (kd_0 ..) ?_
        refine wi_iconst (x := (-1)) rfl rfl ?_
        refine wi_iret rfl (Or.inl rfl) ?_
        refine wi_iret rfl (Or.inl rfl) ?_
        have hfk0 : ¬ fk = 0 := of_decide_eq_false (bI_z g1)
        have hfkb := run_k r1
        have hfpb := run_p r1 (Nat.zero_le _)
        have k157 : ∀ k, k < N9 → mi2 157 k &&& 255 = Int32.ofNat (T k) := by rw [r3.1 157 (by decide) (by decide)]; exact h157
        have hn4 : mi2 134 4 = Int32.ofNat n := by rw [r3.1 134 (by decide) (by decide)]; exact hn4
        have hq35 : mi2 134 35 = Int32.ofNat cnt := by rw [r3.1 134 (by decide) (by decide)]; exact hq35
        refine hK _ _ _ _ (fun Q2 h2 => ?_)
        refine wi_aload_n rfl rfl ?_
        refine wi_iconst (x := 0) rfl rfl ?_
        refine wi_putI rfl (kd_134 ..) ?_
        refine wi_aload_n rfl rfl ?_
        refine wi_iconst (x := 0) rfl rfl ?_
        refine wi_putI rfl (kd_134 ..) ?_
        refine wi_iload_n rfl rfl ?_
        refine wi_if_lt rfl (fun h9 => absurd trivial (by exfalso; have h8 := (lt_n (a := N9) (b := 0) rfl (rfl : (0 : Int32) = Int32.ofNat 0) (by omega) (by omega)).mp h9; omega)) (fun _ => ?_)
        refine wi_iload_n rfl rfl ?_
        refine wi_aload_n rfl rfl ?_
        refine wi_getIv (v := (Int32.ofNat (cnt))) rfl (kd_134 ..) hq35 ?_
        refine wi_icmp_le rfl (fun _ => ?_) (fun h9 => absurd trivial (by exfalso; have h8 := (not_congr (le_n (a := N9) (b := cnt) rfl rfl (by omega) (by omega))).mp h9; omega))
        refine wi_aload_n rfl rfl ?_
        refine wi_iload_n rfl rfl ?_
        refine wi_putI rfl (kd_134 ..) ?_
        refine wi_aload_n rfl rfl ?_
        refine wi_iconst (x := 0) rfl rfl ?_
        refine wi_putI rfl (kd_134 ..) ?_
        refine wi_aload_n rfl rfl ?_
        refine wi_iconst (x := 0) rfl rfl ?_
        refine wi_putI rfl (kd_134 ..) ?_
        refine wi_aload_n rfl rfl ?_
        refine wi_iconst (x := 0) rfl rfl ?_
        refine wi_putI rfl (kd_134 ..) ?_
        refine wi_aload_n rfl rfl ?_
        refine wi_iconst (x := 0) rfl rfl ?_
        refine wi_putI rfl (kd_134 ..) ?_
        refine wi_aload_n rfl rfl ?_
        refine wi_callV0 rfl (by decide) (by decide) rfl (kd_134 ..) rfl rfl rfl (c_mnext (T := T) (N := N9) (p := 0) (by omega) hT rfl k157 rfl (Nat.zero_le _) (fun mi3 ml3 n1 n2 n3 n4 n5 => ?_))
        refine ru_loop (mi0 := (u2 (u2 (u2 (u2 (u2 (u2 (u2 (u2 (u2 mi2 26 1 (0 : Int32)) 0 12 (8 : Int32)) 134 1 (0 : Int32)) 134 0 (0 : Int32)) 134 36 ((Int32.ofNat (N9)))) 134 35 (0 : Int32)) 134 43 (0 : Int32)) 134 39 (0 : Int32)) 134 48 (0 : Int32))) (ml0 := ml) (E := E) (fk := fk) (fp := fp) (by omega) hT rfl k157 (N9 + 1) S0 mi3 ml3 (by show N9 - 0 < N9 + 1; omega) S0_in rfl (MS_nx (mi := (u2 (u2 (u2 (u2 (u2 (u2 (u2 (u2 (u2 mi2 26 1 (0 : Int32)) 0 12 (8 : Int32)) 134 1 (0 : Int32)) 134 0 (0 : Int32)) 134 36 ((Int32.ofNat (N9)))) 134 35 (0 : Int32)) 134 43 (0 : Int32)) 134 39 (0 : Int32)) 134 48 (0 : Int32))) (ml := ml) (S := S0) (nr := 0) ⟨⟨fun _ _ _ => rfl, fun _ _ => rfl, fun _ _ _ => rfl, fun _ _ => rfl⟩, rfl, rfl, fun i hi => absurd hi (Nat.not_lt_zero _)⟩ n1 n2 n3 n4) n5 r1 (fun mi4 ml4 y1 y2 => ?_)
        have hF4 := y1 hfk0
        refine wi_aload_n rfl rfl ?_
        refine wi_aload_n rfl rfl ?_
        refine wi_getIv (v := Int32.ofNat fk) rfl (kd_134 ..) hF4.2.1 ?_
        refine wi_putI rfl (kd_134 ..) ?_
        refine wi_aload_n rfl rfl ?_
        refine wi_aload_n rfl rfl ?_
        refine wi_getIv (v := Int32.ofNat fk) rfl (kd_134 ..) hF4.2.1 ?_
        refine wi_if_ne rfl (fun _ => ?_) (fun h9 => absurd trivial (by exfalso; have h8 := (not_congr (ne_n (a := fk) (b := 0) rfl (rfl : (0 : Int32) = Int32.ofNat 0) (by omega) (by omega))).mp h9; omega))
        refine wi_aload_n rfl rfl ?_
        refine wi_getIv (v := Int32.ofNat fp) rfl (kd_134 ..) hF4.2.2 ?_
        refine wi_putI rfl (kd_134 ..) ?_
        refine wi_aload_n rfl rfl ?_
        refine wi_getIv (v := Int32.ofNat fk) rfl (kd_134 ..) hF4.2.1 ?_
        refine wi_if_le rfl (fun h9 => absurd trivial (by exfalso; have h8 := (le_n (a := fk) (b := 0) rfl (rfl : (0 : Int32) = Int32.ofNat 0) (by omega) (by omega)).mp h9; omega)) (fun _ => ?_)
        refine wi_aload_n rfl rfl ?_
        refine wi_bipush (x := 8) rfl rfl ?_
        refine wi_callV1 rfl (by decide) (by decide) rfl (kd_134 ..) rfl rfl rfl ?_
        refine wi_aload_n rfl rfl ?_
        refine wi_iload_n rfl rfl ?_
        refine wi_putI rfl (kd_134 ..) ?_
        refine wi_iconst (x := (-1)) rfl rfl ?_
        refine wi_iret rfl (Or.inl rfl) ?_
        refine wi_iret rfl (Or.inl rfl) ?_
        refine h2 _ _ _ ?_
        have hoX : ∀ a, (a < 28 ∨ 31 ≤ a) → (a < 97 ∨ 97 + 29 ≤ a) → mi2 a = mi a := r3.1
        obtain ⟨⟨F1, F2, F3, F4⟩, F5, F6⟩ := hF4
        have hm : ∀ a, a ≠ 134 → (a < 162 ∨ 165 < a) → (u2 (u2 (u2 mi4 134 37 (Int32.ofNat fk)) 134 38 (Int32.ofNat fp)) 134 0 8) a = (u2 (u2 (u2 (u2 (u2 (u2 (u2 (u2 (u2 mi2 26 1 0) 0 12 8) 134 1 0) 134 0 0) 134 36 (Int32.ofNat (N9))) 134 35 0) 134 43 0) 134 39 0) 134 48 0) a := fun a a1 a2 => (u2_ne a1).trans ((u2_ne a1).trans ((u2_ne a1).trans (F1 a a1 a2)))
        have hm2 : ∀ a, a ≠ 0 → a ≠ 26 → a ≠ 134 → (a < 28 ∨ 31 ≤ a) → (a < 97 ∨ 97 + 29 ≤ a) → (a < 162 ∨ 165 < a) → (u2 (u2 (u2 mi4 134 37 (Int32.ofNat fk)) 134 38 (Int32.ofNat fp)) 134 0 8) a = mi a := fun a a1 a2 a3 a4 a5 a6 => (hm a a3 a6).trans ((u2_ne a3).trans ((u2_ne a3).trans ((u2_ne a3).trans ((u2_ne a3).trans ((u2_ne a3).trans ((u2_ne a3).trans ((u2_ne a3).trans ((u2_ne a1).trans ((u2_ne a2).trans (hoX a a4 a5))))))))))
        have hj : ∀ j, 1 < j → j < 35 → (u2 (u2 (u2 mi4 134 37 (Int32.ofNat fk)) 134 38 (Int32.ofNat fp)) 134 0 8) 134 j = mi 134 j := fun j j1 j2 => by
          rw [u2_off (by omega), u2_off (by omega), u2_off (by omega), F2 j (by omega), u2_off (by omega), u2_off (by omega), u2_off (by omega), u2_off (by omega), u2_off (by omega), u2_off (by omega), u2_off (by omega), u2_ne (by decide), u2_ne (by decide), hoX 134 (by decide) (by decide)]
        have h0 : ∀ j, j ≠ 12 → (u2 (u2 (u2 mi4 134 37 (Int32.ofNat fk)) 134 38 (Int32.ofNat fp)) 134 0 8) 0 j = mi 0 j := fun j j1 => by
          rw [hm 0 (by decide) (by decide), u2_ne (by decide), u2_ne (by decide), u2_ne (by decide), u2_ne (by decide), u2_ne (by decide), u2_ne (by decide), u2_ne (by decide), u2_off j1, u2_ne (by decide), hoX 0 (by decide) (by decide)]
        obtain ⟨kn, kt, kT, kF, kC, kM, kP, kS, kMk, kfr⟩ := RU_fr (mf := (u2 (u2 (u2 mi4 134 37 (Int32.ofNat fk)) 134 38 (Int32.ofNat fp)) 134 0 8)) (ml2 := ml4) (fun a a1 a2 a3 a4 a5 a6 a7 a8 => hm2 a a1 a2 a6 (by omega) (by omega) (by omega)) (h0 13 (by decide)) (h0 14 (by decide)) hj F3 F4 hRR
        have k12 : (u2 (u2 (u2 mi4 134 37 (Int32.ofNat fk)) 134 38 (Int32.ofNat fp)) 134 0 8) 0 12 = 8 := by rw [hm 0 (by decide) (by decide)]; rfl
        have k26 : (u2 (u2 (u2 mi4 134 37 (Int32.ofNat fk)) 134 38 (Int32.ofNat fp)) 134 0 8) 26 1 = Int32.ofNat 0 := by rw [hm 26 (by decide) (by decide)]; rfl
        have k35 : (u2 (u2 (u2 mi4 134 37 (Int32.ofNat fk)) 134 38 (Int32.ofNat fp)) 134 0 8) 134 35 = Int32.ofNat 0 := by
          rw [u2_off (by decide), u2_off (by decide), u2_off (by decide), F2 35 (by decide)]; rfl
        have k47 : (u2 (u2 (u2 mi4 134 37 (Int32.ofNat fk)) 134 38 (Int32.ofNat fp)) 134 0 8) 134 47 = mi 134 47 := by
          rw [u2_off (by decide), u2_off (by decide), u2_off (by decide), F2 47 (by decide)]
          exact congrFun (hoX 134 (by decide) (by decide)) 47
        have k28 : (u2 (u2 (u2 mi4 134 37 (Int32.ofNat fk)) 134 38 (Int32.ofNat fp)) 134 0 8) 28 = mi2 28 := hm 28 (by decide) (by decide)
        have kB : rBk (u2 (u2 (u2 mi4 134 37 (Int32.ofNat fk)) 134 38 (Int32.ofNat fp)) 134 0 8) true := bkfr_true (fun a a1 a2 => hm2 a (by omega) (by omega) (by omega) (by omega) (by omega) (by omega)) (fun a a1 a2 => hm2 a (by omega) (by omega) (by omega) (by omega) (by omega) (by omega)) k47 hB
        exact ⟨n, t, k12, kn, kt, kT, kF, kC, kM, kP, ⟨0, k26, k35, by decide, fun k hk => absurd hk (Nat.not_lt_zero _)⟩, kB, ⟨by rw [k28]; exact r3.2.1, by rw [k28]; exact r3.2.2.2.1 hfk0⟩, kS, kMk, kfr⟩
