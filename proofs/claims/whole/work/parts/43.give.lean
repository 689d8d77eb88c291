/-! ===== give, given ===== -/
theorem sumN_leP {P : Nat → Bool} {f : Nat → Nat} {n z : Nat} (h : ∀ k, k < n → P k = true → f k ≤ z) : sumN P f n ≤ z * n := by
  induction n with
  | zero => exact Nat.zero_le _
  | succ n ih =>
    have h1 := ih (fun k hk => h k (by omega))
    show sumN P f n + _ ≤ _
    rw [Nat.mul_succ]
    by_cases hb : P n = true
    · rw [if_pos hb]
      have := h n (by omega) hb
      omega
    · rw [if_neg hb]
      omega
theorem sB_congr {q u : Nat} {D K : Nat → Int32} {re sp : Int32} {w w' : Nat → Nat → Int32} (h : ∀ m, m < q → w m = w' m) : sBest q D K w re sp u = sBest q D K w' re sp u := by
  unfold sBest
  have e : sVal q w = sVal q w' := funext (fun f => by
    unfold sVal
    congr 1
    refine List.map_congr_left (fun m hm => ?_)
    rw [h m (List.mem_range.mp hm)])
  rw [e]
theorem fold_in {w : Nat → Nat → Int32} {q : Nat} : ∀ (L : List (List Nat)) (S : Option (Nat × List Nat)) (x : Nat × List Nat), L.foldl (updM w q) S = some x → S = some x ∨ (x.2 ∈ L ∧ x.1 = wtN w q x.2) := by
  intro L
  induction L with
  | nil => intro S x h; exact Or.inl h
  | cons e L ih =>
    intro S x h
    rcases ih _ x h with h1 | h1
    · rcases S with _ | y
      · have h2 : some (wtN w q e, e) = some x := h1
        cases h2
        exact Or.inr ⟨List.mem_cons_self, rfl⟩
      · by_cases hc : y.1 < wtN w q e
        · have h2 : updM w q (some y) e = some (wtN w q e, e) := if_pos hc
          rw [h2] at h1
          cases h1
          exact Or.inr ⟨List.mem_cons_self, rfl⟩
        · have h2 : updM w q (some y) e = some y := if_neg hc
          rw [h2] at h1
          exact Or.inl h1
    · exact Or.inr ⟨List.mem_cons_of_mem _ h1.1, h1.2⟩
theorem ex_all {w : Nat → Nat → Int32} {q u n : Nat} {fe : List Nat → Bool} {S : Option (Nat × List Nat)} : exM w q u fe n [] S = ((lists u n).filter fe).foldl (updM w q) S := by
  unfold exM
  have e : (lists u n).map (fun f => [] ++ f) = lists u n := (List.map_congr_left (fun f _ => List.nil_append f)).trans (List.map_id' _)
  rw [e]
theorem sOk_congr {D K D' K' : Nat → Int32} {re sp : Int32} {i j : Nat} (h1 : D i = D' i) (h2 : D j = D' j) (h3 : K i = K' i) (h4 : K j = K' j) : sOk D K re sp i j = sOk D' K' re sp i j := by
  unfold sOk
  rw [h1, h2]
  by_cases h : (D' i).toInt < (D' j).toInt
  · simp only [if_pos h]
    rw [h1, h2, h4]
  · simp only [if_neg h]
    rw [h1, h2, h3]
theorem u2_over {α : Type} {f : Nat → Nat → α} {a k : Nat} {v v' : α} : u2 (u2 f a k v) a k v' = u2 f a k v' := by
  funext p i
  unfold u2
  by_cases hp : p = a
  · simp only [if_pos hp]
    by_cases hi : i = k
    · simp only [if_pos hi]
    · simp only [if_neg hi]
  · simp only [if_neg hp]
theorem od_mul {l : List Nat} : ∀ j, j ≤ 8 → ∃ A, odN j l = 6 ^ (8 - j) * A := by
  intro j
  induction j with
  | zero => intro _; exact ⟨0, rfl⟩
  | succ j ih =>
    intro hj
    obtain ⟨A, hA⟩ := ih (by omega)
    refine ⟨6 * A + (5 - l.getD j 0), ?_⟩
    show odN j l + (5 - l.getD j 0) * sOrd j = _
    rw [hA, sO_pw (by omega), show 8 - j = (7 - j) + 1 by omega, show 8 - (j + 1) = 7 - j by omega, Nat.pow_succ, Nat.mul_add, Nat.mul_assoc, Nat.mul_comm (5 - l.getD j 0)]
theorem od_tail {l : List Nat} {m : Nat} : ∀ k, m + 1 + k ≤ 8 → ∃ r, odN (m + 1 + k) l = odN (m + 1) l + r ∧ r + 6 ^ (8 - (m + 1 + k)) ≤ 6 ^ (7 - m) := by
  intro k
  induction k with
  | zero =>
    intro h
    exact ⟨0, rfl, by rw [show 8 - (m + 1 + 0) = 7 - m by omega]; omega⟩
  | succ k ih =>
    intro h
    obtain ⟨r, h1, h2⟩ := ih (by omega)
    refine ⟨r + (5 - l.getD (m + 1 + k) 0) * sOrd (m + 1 + k), ?_, ?_⟩
    · show odN (m + 1 + k) l + (5 - l.getD (m + 1 + k) 0) * sOrd (m + 1 + k) = _
      rw [h1, Nat.add_assoc]
    · rw [sO_pw (by omega)]
      have h3 : (5 - l.getD (m + 1 + k) 0) * 6 ^ (7 - (m + 1 + k)) ≤ 5 * 6 ^ (7 - (m + 1 + k)) := Nat.mul_le_mul (by omega) (Nat.le_refl _)
      rw [show 8 - (m + 1 + k) = (7 - (m + 1 + k)) + 1 by omega, Nat.pow_succ] at h2
      rw [show 8 - (m + 1 + (k + 1)) = 7 - (m + 1 + k) by omega]
      omega
theorem digit {l : List Nat} {q m t : Nat} (hq : q ≤ 8) (hm : m < q) (hl : l.getD m 0 ≤ 5) : (t * 1679616 + odN q l) / sOrd m % 6 = 5 - l.getD m 0 := by
  obtain ⟨A, hA⟩ := od_mul (l := l) m (by omega)
  obtain ⟨r, h1, h2⟩ := od_tail (l := l) (m := m) (q - (m + 1)) (by omega)
  rw [show m + 1 + (q - (m + 1)) = q by omega] at h1 h2
  have hp : 0 < 6 ^ (8 - q) := Nat.pow_pos (by decide)
  have e1 : odN (m + 1) l = 6 ^ (8 - m) * A + (5 - l.getD m 0) * 6 ^ (7 - m) := by
    show odN m l + (5 - l.getD m 0) * sOrd m = _
    rw [hA, sO_pw (by omega)]
  have e2 : t * 1679616 + odN q l = 6 ^ (7 - m) * (6 * (t * 6 ^ m + A) + (5 - l.getD m 0)) + r := by
    rw [h1, e1, show 8 - m = (7 - m) + 1 by omega, Nat.pow_succ]
    have e3 : (1679616 : Nat) = 6 ^ (7 - m) * (6 * 6 ^ m) := by
      rw [← Nat.mul_assoc, Nat.mul_comm (6 ^ (7 - m)) 6, Nat.mul_assoc, ← Nat.pow_add, show 7 - m + m = 7 by omega]
    rw [e3]
    generalize 6 ^ (7 - m) = P
    generalize 6 ^ m = R
    generalize 5 - l.getD m 0 = E
    grind
  have hP : 0 < 6 ^ (7 - m) := Nat.pow_pos (by decide)
  rw [sO_pw (by omega), e2, Nat.mul_add_div hP, Nat.div_eq_of_lt (by omega), Nat.add_zero]
  omega
theorem l2i_n {a : Nat} (h : a < 2147483648) : (Int64.ofNat a).toInt32 = Int32.ofNat a := by
  rw [← Int32.toInt_inj, Int64.toInt_toInt32, l_toInt (by omega), i32_toInt h]
  exact Int.bmod_eq_of_le (by omega) (by omega)
theorem bv_none {x : Int64} {B : Int} (h : x.toInt = B) (hB : B = -1) : x = -1 := by
  rw [← Int64.toInt_inj, h, hB]
  rfl
theorem bv_some {x : Int64} {B : Int} {a : Nat} (h : x.toInt = B) (hB : B = (a : Int)) (ha : a < 9223372036854775808) : x = Int64.ofNat a := by
  rw [← Int64.toInt_inj, h, hB, l_toInt ha]
theorem c_find {X : Nat × (Nat → Int32)} {d : Nat} {Q : Option Value → am_M → Prop} {mi : Nat → Nat → Int32} {ml : Nat → Nat → Int64} {b : Bool} {q u : Nat} (h3 : mi 60 3 = Int32.ofNat q) (hq : q ≤ 8) (hD : ∀ k, k < q → rB (mi 61 k) 0 999 ∧ rB (mi 62 k) 0 9) (hre : rB (mi 60 4) 0 60) (hsp : rB (mi 60 5) 0 100) (hW : ∀ m, m < 8 → ∀ s, s < 8 → rB ((r8 (mi 64) (mi 65) (mi 66) (mi 67) (mi 68) (mi 69) (mi 70) (mi 71)) m s) 0 100) (hu : u ≤ 8) (hbf : mi 60 10 = -1 ∨ ∃ v : Nat, v ≤ 8 ∧ mi 60 10 = Int32.ofNat v ∧ (ml 60 9).toInt = sBest q (mi 61) (mi 62) (r8 (mi 64) (mi 65) (mi 66) (mi 67) (mi 68) (mi 69) (mi 70) (mi 71)) (mi 60 4) (mi 60 5) v)
    (hQ : ∀ mi2 ml2, (∀ a, a ≠ 72 → a ≠ 60 → mi2 a = mi a) → (∀ j, j ≠ 10 → mi2 60 j = mi 60 j) → mi2 60 10 = Int32.ofNat u → (∀ a, a ≠ 73 → a ≠ 74 → a ≠ 60 → ml2 a = ml a) → (ml2 60 9).toInt = sBest q (mi 61) (mi 62) (r8 (mi 64) (mi 65) (mi 66) (mi 67) (mi 68) (mi 69) (mi 70) (mi 71)) (mi 60 4) (mi 60 5) u → Q none (am_shT, mrL b, mi2, ml2)) : am_wp X (d + 3) 72 0 [.ref 60, .int (Int32.ofNat (u)), .retAddr 0, .retAddr 0, .retAddr 0] [] (am_shT, mrL b, mi, ml) Q := by
  obtain ⟨bf, hbf0⟩ : ∃ bf, mi 60 10 = bf := ⟨_, rfl⟩
  by_cases hc : bf = Int32.ofNat u
  · have hbv : (ml 60 9).toInt = sBest q (mi 61) (mi 62) (r8 (mi 64) (mi 65) (mi 66) (mi 67) (mi 68) (mi 69) (mi 70) (mi 71)) (mi 60 4) (mi 60 5) u := by
      rcases hbf with h | ⟨v, h1, h2, h3⟩
      · exact absurd (hc.symm.trans (hbf0.symm.trans h)) (nm1 (by omega))
      · have h4 : Int32.ofNat v = Int32.ofNat u := h2.symm.trans (hbf0.trans hc)
        have h5 := congrArg Int32.toInt h4
        rw [i32_toInt (by omega), i32_toInt (by omega)] at h5
        rw [show u = v by omega]
        exact h3
    refine wi_aload_n rfl rfl ?_
    refine wi_getIv (v := bf) rfl (kd_60 ..) hbf0 ?_
    refine wi_iload_n rfl rfl ?_
    refine wi_icmp_ne rfl (fun h9 => absurd hc h9) (fun _ => ?_)
    refine wi_ret rfl ?_
    exact hQ mi ml (fun _ _ _ => rfl) (fun _ _ => rfl) (hbf0.trans hc) (fun _ _ _ _ => rfl) hbv
  · have e8 : ∀ m, m < 8 → (r8 (mi 64) (mi 65) (mi 66) (mi 67) (mi 68) (mi 69) (mi 70) (mi 71)) m = mi (64 + m) := fun m hm => r8_eq (mi := mi) (p := 64) hm
    have hw : ∀ m, m < 8 → ∀ s, s < 8 → mi (64 + m) s = Int32.ofNat (clN (mi (64 + m)) s) ∧ clN (mi (64 + m)) s ≤ 100 := fun m hm s hs => clN_of (hi := 100) (by rw [← e8 m hm]; exact hW m hm s hs)
    obtain ⟨re, e4, l4⟩ := nat_of hre.1
    obtain ⟨sp, e5, l5⟩ := nat_of hsp.1
    have l4' := hre.2
    have l5' := hsp.2
    have hVb : ∀ s p x, s ≤ 6 → p < 2 ^ q → dpN (fitB q (mi 61) (mi 62) (mi 60 4) (mi 60 5)) (fun s p => gnN (fun m => mi (64 + m)) q s p) s p = some x → x < 1099511627776 := fun s p x hs hp hx => by
      obtain ⟨f, h1, h2⟩ := dp_at hq s p x hp hx
      have h4 : vsm (fun m => mi (64 + m)) q p f ≤ 169361280 * q := sumN_leP (fun k hk hb => vN_le (hw k (by omega) (f k) (by have := h1.1 k hk hb; omega)).2)
      omega
    refine c_findBest (re := re) (sp := sp) h3 hq (fun k hk => ⟨(clN_of (hi := 999) (hD k hk).1).1, (clN_of (hi := 999) (hD k hk).1).2, (clN_of (hi := 9) (hD k hk).2).1, (clN_of (hi := 9) (hD k hk).2).2⟩) e4 e5 (by omega) (by omega) hu hw hbf0 hc (fun s hs p => ?_) hVb (fun mi2 ml2 k1 k2 k3 k4 k5 k6 => ?_)
    · have h4 : gnN (fun m => mi (64 + m)) q s p ≤ 169361280 * q := gn_le (fun m hm => (hw m (by omega) s (by omega)).2)
      omega
    · refine hQ mi2 ml2 k1 k2 k3 k4 ?_
      rw [k6, sB_congr (w' := fun m => mi (64 + m)) (fun m hm => e8 m (by omega)), ← best_eq hq (fun m hm s hs => by
        show 0 ≤ (mi (64 + m) s).toInt
        rw [← e8 m hm]
        exact (hW m hm s hs).1)]
      rcases hd : dpN (fitB q (mi 61) (mi 62) (mi 60 4) (mi 60 5)) (fun s p => gnN (fun m => mi (64 + m)) q s p) (min u 6) (2 ^ q - 1) with _ | v
      · rfl
      · have h4 := hVb (min u 6) (2 ^ q - 1) v (by omega) (by have := pw8 (n := q) hq; omega) hd
        exact l_toInt (by omega)
theorem rSea_new {mi mf : Nat → Nat → Int32} {bv bv2 : Int64} {n c : Nat} (h : rSea (mi 60 3) (mi 134 21) (mi 61) (mi 62) (mi 148) (mi 149) (r8 (mi 64) (mi 65) (mi 66) (mi 67) (mi 68) (mi 69) (mi 70) (mi 71)) (mi 150) (mi 60 4) (mi 134 22) (mi 60 5) (mi 134 23) (mi 60 10) bv) (h3 : mi 60 3 = Int32.ofNat c) (hc : c ≤ 8) (hr : ∀ a, a ≠ 60 → a ≠ 72 → a ≠ 134 → a ≠ 0 → a ≠ 151 → a ≠ 152 → a ≠ 153 → mf a = mi a) (h60 : ∀ j, j ≠ 10 → mf 60 j = mi 60 j) (h1 : ∀ j, 1 < j → mf 134 j = mi 134 j) (hb : mf 60 10 = Int32.ofNat n) (hn : n ≤ 8) (hv : bv2.toInt = sBest c (mi 61) (mi 62) (r8 (mi 64) (mi 65) (mi 66) (mi 67) (mi 68) (mi 69) (mi 70) (mi 71)) (mi 60 4) (mi 60 5) n) : rSea (mf 60 3) (mf 134 21) (mf 61) (mf 62) (mf 148) (mf 149) (r8 (mf 64) (mf 65) (mf 66) (mf 67) (mf 68) (mf 69) (mf 70) (mf 71)) (mf 150) (mf 60 4) (mf 134 22) (mf 60 5) (mf 134 23) (mf 60 10) bv2 := by
  obtain ⟨q, g1, g2, g3, g4, g5, g6, g7, g8, g9, g10, -⟩ := h
  have hqc : q = c := by
    have e := congrArg Int32.toInt (g1.symm.trans h3)
    rw [i32_toInt (by omega), i32_toInt (by omega)] at e
    omega
  subst hqc
  rw [h60 3 (by decide), h60 4 (by decide), h60 5 (by decide), h1 21 (by decide), h1 22 (by decide), h1 23 (by decide), hb, hr 61 (by decide) (by decide) (by decide) (by decide) (by decide) (by decide) (by decide), hr 62 (by decide) (by decide) (by decide) (by decide) (by decide) (by decide) (by decide), hr 64 (by decide) (by decide) (by decide) (by decide) (by decide) (by decide) (by decide), hr 65 (by decide) (by decide) (by decide) (by decide) (by decide) (by decide) (by decide), hr 66 (by decide) (by decide) (by decide) (by decide) (by decide) (by decide) (by decide), hr 67 (by decide) (by decide) (by decide) (by decide) (by decide) (by decide) (by decide), hr 68 (by decide) (by decide) (by decide) (by decide) (by decide) (by decide) (by decide), hr 69 (by decide) (by decide) (by decide) (by decide) (by decide) (by decide) (by decide), hr 70 (by decide) (by decide) (by decide) (by decide) (by decide) (by decide) (by decide), hr 71 (by decide) (by decide) (by decide) (by decide) (by decide) (by decide) (by decide), hr 148 (by decide) (by decide) (by decide) (by decide) (by decide) (by decide) (by decide), hr 149 (by decide) (by decide) (by decide) (by decide) (by decide) (by decide) (by decide), hr 150 (by decide) (by decide) (by decide) (by decide) (by decide) (by decide) (by decide)]
  exact ⟨q, g1, g2, g3, g4, g5, g6, g7, g8, g9, g10, Or.inr ⟨n, hn, rfl, hv⟩⟩
theorem RG_fr {mi mi2 : Nat → Nat → Int32} {ml : Nat → Nat → Int64} {b : Bool} {n t : Nat} (ho : ∀ a, a ≠ 60 ∧ a ≠ 72 ∧ a ≠ 151 ∧ a ≠ 152 ∧ a ≠ 153 → mi2 a = mi a) (h : RR mi ml b n t) : mi2 0 12 = mi2 134 0 ∧ (mi2 0 13 = Int32.ofNat n ∧ mi2 134 4 = Int32.ofNat n ∧ n ≤ 8) ∧ (mi2 0 14 = Int32.ofNat t ∧ mi2 134 5 = Int32.ofNat t ∧ t ≤ 999) ∧ rTurf n (r8 (mi2 126) (mi2 127) (mi2 128) (mi2 129) (mi2 130) (mi2 131) (mi2 132) (mi2 133)) (mi2 135) (mi2 136) (mi2 137) ∧ rWea (mi2 4) (mi2 5) (mi2 138) (mi2 139) ∧ rWea (mi2 7) (mi2 8) (mi2 140) (mi2 141) ∧ rMeas n (mi2 9 3) (mi2 134 14) (mi2 10) (mi2 11) (mi2 12) (mi2 143) (mi2 144) (mi2 145) ∧ rPlan (mi2 13 5) (mi2 134 20) (mi2 16) (mi2 147) ∧ rTape (mi2 26 1) (mi2 134 35) (mi2 27) (mi2 157) ∧ rBk mi2 b ∧ (mi2 28 11 = mi2 134 37 ∧ mi2 28 12 = mi2 134 38) ∧ rMk (ml 75 4) (ml 75 5) (r8 (mi2 77) (mi2 78) (mi2 79) (mi2 80) (mi2 81) (mi2 82) (mi2 83) (mi2 84)) (r8 (mi2 86) (mi2 87) (mi2 88) (mi2 89) (mi2 90) (mi2 91) (mi2 92) (mi2 93)) (ml 94) (ml 95) (mi2 134 30) (mi2 154) (mi2 155) (mi2 156) ∧ (ml 96 0 = ml 134 2 ∧ ml 96 1 = ml 134 3) := by
  obtain ⟨hst, hn, ht, hT, hF, hC, hM, hP, hTp, hB, hFa, -, hMk, hfr⟩ := h
  unfold rBk at hB ⊢
  simp only [ho 0 (by omega), ho 4 (by omega), ho 5 (by omega), ho 7 (by omega), ho 8 (by omega), ho 9 (by omega), ho 10 (by omega), ho 11 (by omega), ho 12 (by omega), ho 13 (by omega), ho 16 (by omega), ho 26 (by omega), ho 27 (by omega), ho 28 (by omega), ho 31 (by omega), ho 32 (by omega), ho 34 (by omega), ho 35 (by omega), ho 36 (by omega), ho 37 (by omega), ho 38 (by omega), ho 39 (by omega), ho 40 (by omega), ho 41 (by omega), ho 43 (by omega), ho 44 (by omega), ho 45 (by omega), ho 46 (by omega), ho 47 (by omega), ho 48 (by omega), ho 49 (by omega), ho 50 (by omega), ho 52 (by omega), ho 53 (by omega), ho 54 (by omega), ho 55 (by omega), ho 56 (by omega), ho 57 (by omega), ho 58 (by omega), ho 59 (by omega), ho 77 (by omega), ho 78 (by omega), ho 79 (by omega), ho 80 (by omega), ho 81 (by omega), ho 82 (by omega), ho 83 (by omega), ho 84 (by omega), ho 86 (by omega), ho 87 (by omega), ho 88 (by omega), ho 89 (by omega), ho 90 (by omega), ho 91 (by omega), ho 92 (by omega), ho 93 (by omega), ho 97 (by omega), ho 98 (by omega), ho 100 (by omega), ho 101 (by omega), ho 102 (by omega), ho 103 (by omega), ho 104 (by omega), ho 105 (by omega), ho 106 (by omega), ho 107 (by omega), ho 109 (by omega), ho 110 (by omega), ho 111 (by omega), ho 112 (by omega), ho 113 (by omega), ho 114 (by omega), ho 115 (by omega), ho 116 (by omega), ho 118 (by omega), ho 119 (by omega), ho 120 (by omega), ho 121 (by omega), ho 122 (by omega), ho 123 (by omega), ho 124 (by omega), ho 125 (by omega), ho 126 (by omega), ho 127 (by omega), ho 128 (by omega), ho 129 (by omega), ho 130 (by omega), ho 131 (by omega), ho 132 (by omega), ho 133 (by omega), ho 134 (by omega), ho 135 (by omega), ho 136 (by omega), ho 137 (by omega), ho 138 (by omega), ho 139 (by omega), ho 140 (by omega), ho 141 (by omega), ho 143 (by omega), ho 144 (by omega), ho 145 (by omega), ho 147 (by omega), ho 154 (by omega), ho 155 (by omega), ho 156 (by omega), ho 157 (by omega), ho 158 (by omega), ho 159 (by omega), ho 160 (by omega), ho 161 (by omega)]
  exact ⟨hst, hn, ht, hT, hF, hC, hM, hP, hTp, hB, hFa, hMk, hfr⟩
theorem wp_v {X : Nat × (Nat → Int32)} {d mid j : Nat} {ls st : List Value} {M : am_M} {Q : Option Value → am_M → Prop} {x y : Int32} (e : x = y) (h : am_wp X d mid j ls ((some (Value.int y)).toList ++ st) M Q) : am_wp X d mid j ls ((some (Value.int x)).toList ++ st) M Q := e ▸ h
theorem dv_b {a o9 : Nat} (h : o9 < 1679616) : (a * 1679616 + o9) / 1679616 = a := by omega
theorem od_b {c : Nat} {l : List Nat} (hc : c ≤ 8) (hl : l.length = c) : odN c l < 1679616 := by
  have h4 := odL_lt l 0 (by omega)
  rw [← od_eq, hl] at h4
  exact h4
set_option maxHeartbeats 4000000 in
theorem a_give {X : Nat × (Nat → Int32)} : arm X 126 195 [.ref 0, .retAddr 0] [.ref 134, .retAddr 0] := by
  intro mi ml b hR Q hK
  obtain ⟨n, t, hst, ⟨hn0, hn4, hn⟩, ⟨ht0, ht5, ht⟩, hT, hF, hC, hM, hP, hTp, hB, hFa, hS, hMk, hfr⟩ := hR
  obtain ⟨c, hc3, hc21, hc, hD, hDi, hW, hre, hsp, hre1, hsp1, hbf⟩ := hS
  obtain ⟨S, eS⟩ : ∃ S, S = (exM (r8 (mi 64) (mi 65) (mi 66) (mi 67) (mi 68) (mi 69) (mi 70) (mi 71)) c (min 6 n) (sFeas c (mi 61) (mi 62) (mi 60 4) (mi 60 5)) c [] none) := ⟨_, rfl⟩
  have hWn : ∀ m, m < 8 → ∀ s, s < 8 → 0 ≤ ((r8 (mi 64) (mi 65) (mi 66) (mi 67) (mi 68) (mi 69) (mi 70) (mi 71)) m s).toInt := fun m hm s hs => (hW m hm s hs).1.1
  have hWc : ∀ m, m < 8 → ∀ s, s < 8 → (r8 (mi 64) (mi 65) (mi 66) (mi 67) (mi 68) (mi 69) (mi 70) (mi 71)) m s = Int32.ofNat ((r8 (mi 64) (mi 65) (mi 66) (mi 67) (mi 68) (mi 69) (mi 70) (mi 71)) m s).toNatClampNeg ∧ ((r8 (mi 64) (mi 65) (mi 66) (mi 67) (mi 68) (mi 69) (mi 70) (mi 71)) m s).toNatClampNeg ≤ 100 := fun m hm s hs => clN_of (f := (r8 (mi 64) (mi 65) (mi 66) (mi 67) (mi 68) (mi 69) (mi 70) (mi 71)) m) (k := s) (hi := 100) (hW m hm s hs).1
  have hSB : sBest c (mi 61) (mi 62) (r8 (mi 64) (mi 65) (mi 66) (mi 67) (mi 68) (mi 69) (mi 70) (mi 71)) (mi 60 4) (mi 60 5) n = svM c S := by
    rw [eS, ex_all, Nat.min_comm]
    exact (ref_eq hc hWn).symm
  have hxl : ∀ x, S = some x → x.2.length = c := fun x hx => by
    rw [eS, ex_all] at hx
    rcases fold_in _ _ _ hx with h7 | ⟨h7, h8⟩
    · cases h7
    · exact ((mem_lists _ _).mp (List.mem_filter.mp h7).1).1
  have hxS : ∀ x, S = some x → x.1 ≤ 800 ∧ ∀ m, m < c → x.2.getD m 0 < 6 := fun x hx => by
    rw [eS, ex_all] at hx
    rcases fold_in _ _ _ hx with h7 | ⟨h7, h8⟩
    · cases h7
    · obtain ⟨h9, h10⟩ := (mem_lists _ _).mp (List.mem_filter.mp h7).1
      have h11 : ∀ m, m < c → x.2.getD m 0 < min 6 n := fun m hm => getD_lt h10 (by omega)
      refine ⟨?_, fun m hm => by have := h11 m hm; omega⟩
      rw [h8]
      have := wtN_le (w := (r8 (mi 64) (mi 65) (mi 66) (mi 67) (mi 68) (mi 69) (mi 70) (mi 71))) (l := x.2) (u := min 6 n) (q := c) (m := c) (fun m hm s hs => (hWc m (by omega) s (by omega)).2) (Nat.le_refl _) h11
      omega
  rcases S with _ | x
  · skip
    refine wi_aload_n rfl rfl ?_
    refine wi_getR rfl (kd_0 ..) (rd_0_8 _) ?_
    refine wi_aload_n rfl rfl ?_
    refine wi_getIv (v := (Int32.ofNat (n))) rfl (kd_0 ..) hn0 ?_
    refine wi_callV1 rfl (by decide) (by decide) rfl (kd_60 ..) rfl rfl rfl ?_
    refine wi_aload_n rfl rfl ?_
    refine wi_iload_n rfl rfl ?_
    refine wi_callV1 rfl (by decide) (by decide) rfl (kd_60 ..) rfl rfl rfl (c_find hc3 hc (fun k hk => (hD k hk).2.2) hre1 hsp1 (fun m hm s hs => (hW m hm s hs).1) hn hbf (fun mi2 ml2 k1 k2 k3 k4 k5 => ?_))
    have hbv : ml2 60 9 = -1 := bv_none k5 hSB
    refine wi_aload_n rfl rfl ?_
    refine wi_getLv (lv := (-1 : Int64)) rfl (kd_60 ..) hbv ?_
    refine wi_ldc2_w (lx := (-1)) rfl rfl ?_
    refine wi_lcmp rfl ?_
    refine wi_if_ne rfl (fun h9 => absurd (by decide) h9) (fun _ => ?_)
    refine wi_iconst (x := (-1)) rfl rfl ?_
    refine wi_goto rfl ?_
    refine wi_iret rfl (Or.inl rfl) ?_
    refine wi_istore_n (l' := [.ref 0, .int (-1 : Int32)]) rfl (Nat.le_of_ble_eq_true rfl) rfl rfl ?_
    refine wi_iload_n rfl rfl ?_
    refine wi_iconst (x := (-1)) rfl rfl ?_
    refine wi_icmp_ne rfl (fun h9 => absurd h9 (by decide)) (fun _ => ?_)
    refine wi_aload_n rfl rfl ?_
    refine wi_bipush (x := 6) rfl rfl ?_
    refine wi_callV1 rfl (by decide) (by decide) rfl (kd_0 ..) rfl rfl rfl ?_
    refine wi_aload_n rfl rfl ?_
    refine wi_iload_n rfl rfl ?_
    refine wi_putI rfl (kd_0 ..) ?_
    refine wi_iconst (x := (-1)) rfl rfl ?_
    refine wi_iret rfl (Or.inl rfl) ?_
    refine wi_goto rfl ?_
    refine wi_iret rfl (Or.inl rfl) ?_
    have ho : ∀ a, a ≠ 72 → a ≠ 60 → mi2 a = mi a := k1
    obtain ⟨re, e4, l4⟩ := nat_of hre1.1
    obtain ⟨sp, e5, l5⟩ := nat_of hsp1.1
    have l4' := hre1.2
    have l5' := hsp1.2
    have g21 : mi2 134 21 = Int32.ofNat c := by rw [ho 134 (by decide) (by decide)]; exact hc21
    have g4 : mi2 134 4 = Int32.ofNat n := by rw [ho 134 (by decide) (by decide)]; exact hn4
    have gre : mi2 134 22 = Int32.ofNat re := by rw [ho 134 (by decide) (by decide), ← hre]; exact e4
    have gsp : mi2 134 23 = Int32.ofNat sp := by rw [ho 134 (by decide) (by decide), ← hsp]; exact e5
    have gW : ∀ m, m < c → ∀ s, s < 8 → mi2 150 (8 * m + s) = Int32.ofNat ((r8 (mi 64) (mi 65) (mi 66) (mi 67) (mi 68) (mi 69) (mi 70) (mi 71)) m s).toNatClampNeg ∧ ((r8 (mi 64) (mi 65) (mi 66) (mi 67) (mi 68) (mi 69) (mi 70) (mi 71)) m s).toNatClampNeg ≤ 100 := fun m hm s hs => by
      rw [ho 150 (by decide) (by decide), ← (hW m (by omega) s hs).2.1 hm]
      exact hWc m (by omega) s hs
    have gDK : ∀ k, k < c → mi2 148 k = Int32.ofNat (clN (mi2 148) k) ∧ clN (mi2 148) k ≤ 999 ∧ mi2 149 k = Int32.ofNat (clN (mi2 149) k) ∧ clN (mi2 149) k ≤ 9 := fun k hk => by
      rw [ho 148 (by decide) (by decide), ho 149 (by decide) (by decide)]
      obtain ⟨d1, d2, d3, d4⟩ := hD k hk
      rw [d1] at d3
      rw [d2] at d4
      exact ⟨(clN_of (hi := 999) d3).1, (clN_of (hi := 999) d3).2, (clN_of (hi := 9) d4).1, (clN_of (hi := 9) d4).2⟩
    have gok : ∀ i j, i < j → j < c → sOk (mi2 148) (mi2 149) (mi2 134 22) (mi2 134 23) i j = sOk (mi 61) (mi 62) (mi 60 4) (mi 60 5) i j := fun i j hi hj => by
      rw [ho 148 (by decide) (by decide), ho 149 (by decide) (by decide), ho 134 (by decide) (by decide), ← hre, ← hsp]
      exact sOk_congr (hD i (by omega)).1.symm (hD j hj).1.symm (hD i (by omega)).2.1.symm (hD j hj).2.1.symm
    refine hK _ _ _ _ (fun Q2 h2 => ?_)
    refine wi_aload_n rfl rfl ?_
    refine wi_iconst (x := 0) rfl rfl ?_
    refine wi_putI rfl (kd_134 ..) ?_
    refine wi_aload_n rfl rfl ?_
    refine wi_iconst (x := 0) rfl rfl ?_
    refine wi_putI rfl (kd_134 ..) ?_
    refine wi_aload_n rfl rfl ?_
    refine wi_callV0 rfl (by decide) (by decide) rfl (kd_134 ..) rfl rfl rfl (c_gives (mi0 := (u2 (u2 (u2 mi2 0 12 (6 : Int32)) 134 1 (0 : Int32)) 134 0 (0 : Int32))) (w := (r8 (mi 64) (mi 65) (mi 66) (mi 67) (mi 68) (mi 69) (mi 70) (mi 71))) (q := c) (us := min 6 n) (ok := (sOk (mi 61) (mi 62) (mi 60 4) (mi 60 5))) (fe := (sFeas c (mi 61) (mi 62) (mi 60 4) (mi 60 5))) (re := re) (sp := sp) (n := n) g21 hc (by omega) gW gDK gre gsp (by omega) (by omega) gok (fun e he => feas_iff.mp he) (fun e he => feas_iff.mpr he) g4 hn rfl (fun mi3 g1 g2 => wp_v (congrArg moM eS.symm) ?_))
    refine wi_istore_n (l' := [.ref 134, .int (-1 : Int32)]) rfl (Nat.le_of_ble_eq_true rfl) rfl rfl ?_
    refine wi_iload_n rfl rfl ?_
    refine wi_if_ge rfl (fun h9 => absurd h9 (by decide)) (fun _ => ?_)
    refine wi_aload_n rfl rfl ?_
    refine wi_bipush (x := 6) rfl rfl ?_
    refine wi_callV1 rfl (by decide) (by decide) rfl (kd_134 ..) rfl rfl rfl ?_
    refine wi_aload_n rfl rfl ?_
    refine wi_iload_n rfl rfl ?_
    refine wi_putI rfl (kd_134 ..) ?_
    refine wi_iconst (x := (-1)) rfl rfl ?_
    refine wi_iret rfl (Or.inl rfl) ?_
    refine wi_goto rfl ?_
    refine wi_iret rfl (Or.inl rfl) ?_
    refine h2 _ _ _ ?_
    have hm0 : ∀ a, a ≠ 60 ∧ a ≠ 72 ∧ a ≠ 151 ∧ a ≠ 152 ∧ a ≠ 153 → (u2 mi3 134 0 6) a = (u2 (u2 (u2 mi 0 12 6) 134 1 0) 134 0 6) a := fun a ha => (u2_congr (g1 a (by omega) (by omega) (by omega))).trans ((congrFun u2_over a).trans (u2_congr (u2_congr (u2_congr (ho a (by omega) (by omega))))))
    have h60 : (u2 mi3 134 0 6) 60 = mi2 60 := g1 60 (by decide) (by decide) (by decide)
    obtain ⟨kst, ⟨kn0, kn4, -⟩, ⟨kt0, kt5, -⟩, kT, kF, kC, kM, kP, kTp, kB, kFa, kMk, kfr⟩ := RG_fr (mi2 := (u2 mi3 134 0 6)) (ml := ml) (b := b) (n := n) (t := t) hm0 ⟨rfl, ⟨hn0, hn4, hn⟩, ⟨ht0, ht5, ht⟩, hT, hF, hC, hM, hP, hTp, hB, hFa, ⟨c, hc3, hc21, hc, hD, hDi, hW, hre, hsp, hre1, hsp1, hbf⟩, hMk, hfr⟩
    rw [← k4 75 (by decide) (by decide) (by decide), ← k4 94 (by decide) (by decide) (by decide), ← k4 95 (by decide) (by decide) (by decide)] at kMk
    rw [← k4 96 (by decide) (by decide) (by decide), ← k4 134 (by decide) (by decide) (by decide)] at kfr
    have hnew := rSea_new (mf := (u2 mi3 134 0 6)) (bv := ml 60 9) (bv2 := ml2 60 9) (n := n) (c := c) ⟨c, hc3, hc21, hc, hD, hDi, hW, hre, hsp, hre1, hsp1, hbf⟩ hc3 hc (fun a a1 a2 a3 a4 a5 a6 a7 => (hm0 a ⟨a1, a2, a5, a6, a7⟩).trans ((u2_ne a3).trans ((u2_ne a3).trans (u2_ne a4)))) (fun j hj => by rw [h60]; exact k2 j hj) (fun j hj => by rw [hm0 134 (by decide), u2_off (by omega), u2_off (by omega)]; rfl) (by rw [h60]; exact k3) hn k5
    exact ⟨n, t, kst, ⟨kn0, kn4, hn⟩, ⟨kt0, kt5, ht⟩, kT, kF, kC, kM, kP, kTp, kB, kFa, hnew, kMk, kfr⟩
  · have hxx := hxS x rfl
    have hod : odN c x.2 < 1679616 := od_b hc (hxl x rfl)
    refine wi_aload_n rfl rfl ?_
    refine wi_getR rfl (kd_0 ..) (rd_0_8 _) ?_
    refine wi_aload_n rfl rfl ?_
    refine wi_getIv (v := (Int32.ofNat (n))) rfl (kd_0 ..) hn0 ?_
    refine wi_callV1 rfl (by decide) (by decide) rfl (kd_60 ..) rfl rfl rfl ?_
    refine wi_aload_n rfl rfl ?_
    refine wi_iload_n rfl rfl ?_
    refine wi_callV1 rfl (by decide) (by decide) rfl (kd_60 ..) rfl rfl rfl (c_find hc3 hc (fun k hk => (hD k hk).2.2) hre1 hsp1 (fun m hm s hs => (hW m hm s hs).1) hn hbf (fun mi2 ml2 k1 k2 k3 k4 k5 => ?_))
    have hbv : ml2 60 9 = Int64.ofNat (x.1 * 1679616 + odN c x.2) := bv_some k5 hSB (by have := hod; omega)
    refine wi_aload_n rfl rfl ?_
    refine wi_getLv (lv := (Int64.ofNat (x.1 * 1679616 + odN c x.2))) rfl (kd_60 ..) hbv ?_
    refine wi_ldc2_w (lx := (-1)) rfl rfl ?_
    refine wi_lcmp rfl ?_
    refine wi_if_ne rfl (fun _ => ?_) (fun h9 => absurd (lgm1 (by have := hod; omega)) h9)
    refine wi_aload_n rfl rfl ?_
    refine wi_getLv (lv := (Int64.ofNat (x.1 * 1679616 + odN c x.2))) rfl (kd_60 ..) hbv ?_
    refine wi_ldc2_w (lx := 1679616) rfl rfl ?_
    refine wn_ldiv (lz := (Int64.ofNat ((x.1 * 1679616 + odN c x.2) / 1679616))) rfl (nz_l (b := 1679616) (rfl : (1679616 : Int64) = Int64.ofNat 1679616) (by omega) (by omega)) (div_l (a := x.1 * 1679616 + odN c x.2) (b := 1679616) rfl (rfl : (1679616 : Int64) = Int64.ofNat 1679616) (by omega) (by omega)) ?_
    refine wi_l2i rfl ?_
    rw [show (x.1 * 1679616 + odN c x.2) / 1679616 = x.1 from dv_b hod, l2i_n (by omega)]
    refine wi_iret rfl (Or.inl rfl) ?_
    refine wi_istore_n (l' := [.ref 0, .int (Int32.ofNat (x.1))]) rfl (Nat.le_of_ble_eq_true rfl) rfl rfl ?_
    refine wi_iload_n rfl rfl ?_
    refine wi_iconst (x := (-1)) rfl rfl ?_
    refine wi_icmp_ne rfl (fun _ => ?_) (fun h9 => absurd (nm1 (by omega)) h9)
    refine wi_aload_n rfl rfl ?_
    refine wi_iload_n rfl rfl ?_
    refine wi_callV1 rfl (by decide) (by decide) rfl (kd_0 ..) rfl rfl rfl ?_
    refine wi_aload_n rfl rfl ?_
    refine wi_iconst (x := 0) rfl rfl ?_
    refine wi_putI rfl (kd_0 ..) ?_
    refine wi_iload_n rfl rfl ?_
    refine wi_iret rfl (Or.inl rfl) ?_
    refine wi_iret rfl (Or.inl rfl) ?_
    have ho : ∀ a, a ≠ 72 → a ≠ 60 → mi2 a = mi a := k1
    obtain ⟨re, e4, l4⟩ := nat_of hre1.1
    obtain ⟨sp, e5, l5⟩ := nat_of hsp1.1
    have l4' := hre1.2
    have l5' := hsp1.2
    have g21 : mi2 134 21 = Int32.ofNat c := by rw [ho 134 (by decide) (by decide)]; exact hc21
    have g4 : mi2 134 4 = Int32.ofNat n := by rw [ho 134 (by decide) (by decide)]; exact hn4
    have gre : mi2 134 22 = Int32.ofNat re := by rw [ho 134 (by decide) (by decide), ← hre]; exact e4
    have gsp : mi2 134 23 = Int32.ofNat sp := by rw [ho 134 (by decide) (by decide), ← hsp]; exact e5
    have gW : ∀ m, m < c → ∀ s, s < 8 → mi2 150 (8 * m + s) = Int32.ofNat ((r8 (mi 64) (mi 65) (mi 66) (mi 67) (mi 68) (mi 69) (mi 70) (mi 71)) m s).toNatClampNeg ∧ ((r8 (mi 64) (mi 65) (mi 66) (mi 67) (mi 68) (mi 69) (mi 70) (mi 71)) m s).toNatClampNeg ≤ 100 := fun m hm s hs => by
      rw [ho 150 (by decide) (by decide), ← (hW m (by omega) s hs).2.1 hm]
      exact hWc m (by omega) s hs
    have gDK : ∀ k, k < c → mi2 148 k = Int32.ofNat (clN (mi2 148) k) ∧ clN (mi2 148) k ≤ 999 ∧ mi2 149 k = Int32.ofNat (clN (mi2 149) k) ∧ clN (mi2 149) k ≤ 9 := fun k hk => by
      rw [ho 148 (by decide) (by decide), ho 149 (by decide) (by decide)]
      obtain ⟨d1, d2, d3, d4⟩ := hD k hk
      rw [d1] at d3
      rw [d2] at d4
      exact ⟨(clN_of (hi := 999) d3).1, (clN_of (hi := 999) d3).2, (clN_of (hi := 9) d4).1, (clN_of (hi := 9) d4).2⟩
    have gok : ∀ i j, i < j → j < c → sOk (mi2 148) (mi2 149) (mi2 134 22) (mi2 134 23) i j = sOk (mi 61) (mi 62) (mi 60 4) (mi 60 5) i j := fun i j hi hj => by
      rw [ho 148 (by decide) (by decide), ho 149 (by decide) (by decide), ho 134 (by decide) (by decide), ← hre, ← hsp]
      exact sOk_congr (hD i (by omega)).1.symm (hD j hj).1.symm (hD i (by omega)).2.1.symm (hD j hj).2.1.symm
    refine hK _ _ _ _ (fun Q2 h2 => ?_)
    refine wi_aload_n rfl rfl ?_
    refine wi_iconst (x := 0) rfl rfl ?_
    refine wi_putI rfl (kd_134 ..) ?_
    refine wi_aload_n rfl rfl ?_
    refine wi_iconst (x := 0) rfl rfl ?_
    refine wi_putI rfl (kd_134 ..) ?_
    refine wi_aload_n rfl rfl ?_
    refine wi_callV0 rfl (by decide) (by decide) rfl (kd_134 ..) rfl rfl rfl (c_gives (mi0 := (u2 (u2 (u2 mi2 0 12 (0 : Int32)) 134 1 (0 : Int32)) 134 0 (0 : Int32))) (w := (r8 (mi 64) (mi 65) (mi 66) (mi 67) (mi 68) (mi 69) (mi 70) (mi 71))) (q := c) (us := min 6 n) (ok := (sOk (mi 61) (mi 62) (mi 60 4) (mi 60 5))) (fe := (sFeas c (mi 61) (mi 62) (mi 60 4) (mi 60 5))) (re := re) (sp := sp) (n := n) g21 hc (by omega) gW gDK gre gsp (by omega) (by omega) gok (fun e he => feas_iff.mp he) (fun e he => feas_iff.mpr he) g4 hn rfl (fun mi3 g1 g2 => wp_v (congrArg moM eS.symm) ?_))
    refine wi_istore_n (l' := [.ref 134, .int (Int32.ofNat (x.1))]) rfl (Nat.le_of_ble_eq_true rfl) rfl rfl ?_
    refine wi_iload_n rfl rfl ?_
    refine wi_if_ge rfl (fun _ => ?_) (fun h9 => absurd trivial (by exfalso; have h8 := (not_congr (le_n (a := 0) (b := x.1) (rfl : (0 : Int32) = Int32.ofNat 0) rfl (by omega) (by omega))).mp h9; omega))
    refine wi_iload_n rfl rfl ?_
    refine wi_iret rfl (Or.inl rfl) ?_
    refine h2 _ _ _ ?_
    have hm0 : ∀ a, a ≠ 60 ∧ a ≠ 72 ∧ a ≠ 151 ∧ a ≠ 152 ∧ a ≠ 153 → mi3 a = (u2 (u2 (u2 mi 0 12 0) 134 1 0) 134 0 0) a := fun a ha => (g1 a (by omega) (by omega) (by omega)).trans (u2_congr (u2_congr (u2_congr (ho a (by omega) (by omega)))))
    have h60 : mi3 60 = mi2 60 := g1 60 (by decide) (by decide) (by decide)
    obtain ⟨kst, ⟨kn0, kn4, -⟩, ⟨kt0, kt5, -⟩, kT, kF, kC, kM, kP, kTp, kB, kFa, kMk, kfr⟩ := RG_fr (mi2 := mi3) (ml := ml) (b := b) (n := n) (t := t) hm0 ⟨rfl, ⟨hn0, hn4, hn⟩, ⟨ht0, ht5, ht⟩, hT, hF, hC, hM, hP, hTp, hB, hFa, ⟨c, hc3, hc21, hc, hD, hDi, hW, hre, hsp, hre1, hsp1, hbf⟩, hMk, hfr⟩
    rw [← k4 75 (by decide) (by decide) (by decide), ← k4 94 (by decide) (by decide) (by decide), ← k4 95 (by decide) (by decide) (by decide)] at kMk
    rw [← k4 96 (by decide) (by decide) (by decide), ← k4 134 (by decide) (by decide) (by decide)] at kfr
    have hnew := rSea_new (mf := mi3) (bv := ml 60 9) (bv2 := ml2 60 9) (n := n) (c := c) ⟨c, hc3, hc21, hc, hD, hDi, hW, hre, hsp, hre1, hsp1, hbf⟩ hc3 hc (fun a a1 a2 a3 a4 a5 a6 a7 => (hm0 a ⟨a1, a2, a5, a6, a7⟩).trans ((u2_ne a3).trans ((u2_ne a3).trans (u2_ne a4)))) (fun j hj => by rw [h60]; exact k2 j hj) (fun j hj => by rw [hm0 134 (by decide), u2_off (by omega), u2_off (by omega)]; rfl) (by rw [h60]; exact k3) hn k5
    exact ⟨n, t, kst, ⟨kn0, kn4, hn⟩, ⟨kt0, kt5, ht⟩, kT, kF, kC, kM, kP, kTp, kB, kFa, hnew, kMk, kfr⟩
theorem ord_1 {m : Nat} (h : m < 8) : 1 ≤ sOrd m := (show ∀ m, m < 8 → 1 ≤ sOrd m from by decide) m h
set_option maxHeartbeats 4000000 in
theorem a_given {X : Nat × (Nat → Int32)} {m9 : Int32} : arm X 127 196 [.ref 0, .int m9, .retAddr 0] [.ref 134, .int m9] := by
  intro mi ml b hR Q hK
  obtain ⟨n, t, hst, ⟨hn0, hn4, hn⟩, ⟨ht0, ht5, ht⟩, hT, hF, hC, hM, hP, hTp, hB, hFa, hS, hMk, hfr⟩ := hR
  obtain ⟨c, hc3, hc21, hc, hD, hDi, hW, hre, hsp, hre1, hsp1, hbf⟩ := hS
  obtain ⟨S, eS⟩ : ∃ S, S = (exM (r8 (mi 64) (mi 65) (mi 66) (mi 67) (mi 68) (mi 69) (mi 70) (mi 71)) c (min 6 n) (sFeas c (mi 61) (mi 62) (mi 60 4) (mi 60 5)) c [] none) := ⟨_, rfl⟩
  have hWn : ∀ m, m < 8 → ∀ s, s < 8 → 0 ≤ ((r8 (mi 64) (mi 65) (mi 66) (mi 67) (mi 68) (mi 69) (mi 70) (mi 71)) m s).toInt := fun m hm s hs => (hW m hm s hs).1.1
  have hWc : ∀ m, m < 8 → ∀ s, s < 8 → (r8 (mi 64) (mi 65) (mi 66) (mi 67) (mi 68) (mi 69) (mi 70) (mi 71)) m s = Int32.ofNat ((r8 (mi 64) (mi 65) (mi 66) (mi 67) (mi 68) (mi 69) (mi 70) (mi 71)) m s).toNatClampNeg ∧ ((r8 (mi 64) (mi 65) (mi 66) (mi 67) (mi 68) (mi 69) (mi 70) (mi 71)) m s).toNatClampNeg ≤ 100 := fun m hm s hs => clN_of (f := (r8 (mi 64) (mi 65) (mi 66) (mi 67) (mi 68) (mi 69) (mi 70) (mi 71)) m) (k := s) (hi := 100) (hW m hm s hs).1
  have hSB : sBest c (mi 61) (mi 62) (r8 (mi 64) (mi 65) (mi 66) (mi 67) (mi 68) (mi 69) (mi 70) (mi 71)) (mi 60 4) (mi 60 5) n = svM c S := by
    rw [eS, ex_all, Nat.min_comm]
    exact (ref_eq hc hWn).symm
  have hxl : ∀ x, S = some x → x.2.length = c := fun x hx => by
    rw [eS, ex_all] at hx
    rcases fold_in _ _ _ hx with h7 | ⟨h7, h8⟩
    · cases h7
    · exact ((mem_lists _ _).mp (List.mem_filter.mp h7).1).1
  have hxS : ∀ x, S = some x → x.1 ≤ 800 ∧ ∀ m, m < c → x.2.getD m 0 < 6 := fun x hx => by
    rw [eS, ex_all] at hx
    rcases fold_in _ _ _ hx with h7 | ⟨h7, h8⟩
    · cases h7
    · obtain ⟨h9, h10⟩ := (mem_lists _ _).mp (List.mem_filter.mp h7).1
      have h11 : ∀ m, m < c → x.2.getD m 0 < min 6 n := fun m hm => getD_lt h10 (by omega)
      refine ⟨?_, fun m hm => by have := h11 m hm; omega⟩
      rw [h8]
      have := wtN_le (w := (r8 (mi 64) (mi 65) (mi 66) (mi 67) (mi 68) (mi 69) (mi 70) (mi 71))) (l := x.2) (u := min 6 n) (q := c) (m := c) (fun m hm s hs => (hWc m (by omega) s (by omega)).2) (Nat.le_refl _) h11
      omega
  rcases st_cases m9 (n := c) (by omega) with e_m9 | ⟨p, h_p, rfl⟩
  · refine wi_aload_n rfl rfl ?_
    refine wi_getR rfl (kd_0 ..) (rd_0_8 _) ?_
    refine wi_iload_n rfl rfl ?_
    refine wi_callV1 rfl (by decide) (by decide) rfl (kd_60 ..) rfl rfl rfl (c_hasM hc3 e_m9 ?_)
    refine wi_if_ne rfl (fun h9 => absurd h9 (by decide)) (fun _ => ?_)
    refine wi_aload_n rfl rfl ?_
    refine wi_iconst (x := 1) rfl rfl ?_
    refine wi_callV1 rfl (by decide) (by decide) rfl (kd_0 ..) rfl rfl rfl ?_
    refine wi_aload_n rfl rfl ?_
    refine wi_iload_n rfl rfl ?_
    refine wi_putI rfl (kd_0 ..) ?_
    refine wi_iconst (x := (-1)) rfl rfl ?_
    refine wi_iret rfl (Or.inl rfl) ?_
    refine wi_iret rfl (Or.inl rfl) ?_
    refine hK _ _ _ _ (fun Q2 h2 => ?_)
    refine wi_aload_n rfl rfl ?_
    refine wi_iconst (x := 0) rfl rfl ?_
    refine wi_putI rfl (kd_134 ..) ?_
    refine wi_aload_n rfl rfl ?_
    refine wi_iconst (x := 0) rfl rfl ?_
    refine wi_putI rfl (kd_134 ..) ?_
    refine wi_aload_n rfl rfl ?_
    refine wi_iload_n rfl rfl ?_
    refine wi_callV1 rfl (by decide) (by decide) rfl (kd_134 ..) rfl rfl rfl (c_isM hc21 e_m9 ?_)
    refine wi_if_ne rfl (fun h9 => absurd h9 (by decide)) (fun _ => ?_)
    refine wi_aload_n rfl rfl ?_
    refine wi_iconst (x := 1) rfl rfl ?_
    refine wi_callV1 rfl (by decide) (by decide) rfl (kd_134 ..) rfl rfl rfl ?_
    refine wi_aload_n rfl rfl ?_
    refine wi_iload_n rfl rfl ?_
    refine wi_putI rfl (kd_134 ..) ?_
    refine wi_iconst (x := (-1)) rfl rfl ?_
    refine wi_iret rfl (Or.inl rfl) ?_
    refine wi_iret rfl (Or.inl rfl) ?_
    refine h2 _ _ _ ?_
    exact ⟨n, t, rfl, ⟨hn0, hn4, hn⟩, ⟨ht0, ht5, ht⟩, hT, hF, hC, hM, hP, hTp, hB, hFa, ⟨c, hc3, hc21, hc, hD, hDi, hW, hre, hsp, hre1, hsp1, hbf⟩, hMk, hfr⟩
  · skip
    rcases S with _ | x
    · skip
      refine wi_aload_n rfl rfl ?_
      refine wi_getR rfl (kd_0 ..) (rd_0_8 _) ?_
      refine wi_iload_n rfl rfl ?_
      refine wi_callV1 rfl (by decide) (by decide) rfl (kd_60 ..) rfl rfl rfl (c_hasM hc3 (st_in (n := c) (by omega) (by omega)) ?_)
      refine wi_if_ne rfl (fun _ => ?_) (fun h9 => absurd (by decide) h9)
      refine wi_aload_n rfl rfl ?_
      refine wi_getR rfl (kd_0 ..) (rd_0_8 _) ?_
      refine wi_iload_n rfl rfl ?_
      refine wi_aload_n rfl rfl ?_
      refine wi_getIv (v := (Int32.ofNat (n))) rfl (kd_0 ..) hn0 ?_
      refine wi_callV2 rfl (by decide) (by decide) rfl (kd_60 ..) rfl rfl rfl ?_
      refine wi_aload_n rfl rfl ?_
      refine wi_iload_n rfl rfl ?_
      refine wi_callV1 rfl (by decide) (by decide) rfl (kd_60 ..) rfl rfl rfl (c_find hc3 hc (fun k hk => (hD k hk).2.2) hre1 hsp1 (fun m hm s hs => (hW m hm s hs).1) hn hbf (fun mi2 ml2 k1 k2 k3 k4 k5 => ?_))
      have hbv : ml2 60 9 = -1 := bv_none k5 hSB
      refine wi_aload_n rfl rfl ?_
      refine wi_getLv (lv := (-1 : Int64)) rfl (kd_60 ..) hbv ?_
      refine wi_ldc2_w (lx := (-1)) rfl rfl ?_
      refine wi_lcmp rfl ?_
      refine wi_if_eq rfl (fun _ => ?_) (fun h9 => absurd (by decide) h9)
      refine wi_iconst (x := (-1)) rfl rfl ?_
      refine wi_iret rfl (Or.inl rfl) ?_
      refine wi_istore_n (l' := [.ref 0, .int (Int32.ofNat (p)), .int (-1 : Int32)]) rfl (Nat.le_of_ble_eq_true rfl) rfl rfl ?_
      refine wi_iload_n rfl rfl ?_
      refine wi_iconst (x := (-1)) rfl rfl ?_
      refine wi_icmp_ne rfl (fun h9 => absurd h9 (by decide)) (fun _ => ?_)
      refine wi_aload_n rfl rfl ?_
      refine wi_bipush (x := 6) rfl rfl ?_
      refine wi_callV1 rfl (by decide) (by decide) rfl (kd_0 ..) rfl rfl rfl ?_
      refine wi_aload_n rfl rfl ?_
      refine wi_iload_n rfl rfl ?_
      refine wi_putI rfl (kd_0 ..) ?_
      refine wi_iconst (x := (-1)) rfl rfl ?_
      refine wi_iret rfl (Or.inl rfl) ?_
      refine wi_goto rfl ?_
      refine wi_iret rfl (Or.inl rfl) ?_
      have ho : ∀ a, a ≠ 72 → a ≠ 60 → mi2 a = mi a := k1
      obtain ⟨re, e4, l4⟩ := nat_of hre1.1
      obtain ⟨sp, e5, l5⟩ := nat_of hsp1.1
      have l4' := hre1.2
      have l5' := hsp1.2
      have g21 : mi2 134 21 = Int32.ofNat c := by rw [ho 134 (by decide) (by decide)]; exact hc21
      have g4 : mi2 134 4 = Int32.ofNat n := by rw [ho 134 (by decide) (by decide)]; exact hn4
      have gre : mi2 134 22 = Int32.ofNat re := by rw [ho 134 (by decide) (by decide), ← hre]; exact e4
      have gsp : mi2 134 23 = Int32.ofNat sp := by rw [ho 134 (by decide) (by decide), ← hsp]; exact e5
      have gW : ∀ m, m < c → ∀ s, s < 8 → mi2 150 (8 * m + s) = Int32.ofNat ((r8 (mi 64) (mi 65) (mi 66) (mi 67) (mi 68) (mi 69) (mi 70) (mi 71)) m s).toNatClampNeg ∧ ((r8 (mi 64) (mi 65) (mi 66) (mi 67) (mi 68) (mi 69) (mi 70) (mi 71)) m s).toNatClampNeg ≤ 100 := fun m hm s hs => by
        rw [ho 150 (by decide) (by decide), ← (hW m (by omega) s hs).2.1 hm]
        exact hWc m (by omega) s hs
      have gDK : ∀ k, k < c → mi2 148 k = Int32.ofNat (clN (mi2 148) k) ∧ clN (mi2 148) k ≤ 999 ∧ mi2 149 k = Int32.ofNat (clN (mi2 149) k) ∧ clN (mi2 149) k ≤ 9 := fun k hk => by
        rw [ho 148 (by decide) (by decide), ho 149 (by decide) (by decide)]
        obtain ⟨d1, d2, d3, d4⟩ := hD k hk
        rw [d1] at d3
        rw [d2] at d4
        exact ⟨(clN_of (hi := 999) d3).1, (clN_of (hi := 999) d3).2, (clN_of (hi := 9) d4).1, (clN_of (hi := 9) d4).2⟩
      have gok : ∀ i j, i < j → j < c → sOk (mi2 148) (mi2 149) (mi2 134 22) (mi2 134 23) i j = sOk (mi 61) (mi 62) (mi 60 4) (mi 60 5) i j := fun i j hi hj => by
        rw [ho 148 (by decide) (by decide), ho 149 (by decide) (by decide), ho 134 (by decide) (by decide), ← hre, ← hsp]
        exact sOk_congr (hD i (by omega)).1.symm (hD j hj).1.symm (hD i (by omega)).2.1.symm (hD j hj).2.1.symm
      refine hK _ _ _ _ (fun Q2 h2 => ?_)
      refine wi_aload_n rfl rfl ?_
      refine wi_iconst (x := 0) rfl rfl ?_
      refine wi_putI rfl (kd_134 ..) ?_
      refine wi_aload_n rfl rfl ?_
      refine wi_iconst (x := 0) rfl rfl ?_
      refine wi_putI rfl (kd_134 ..) ?_
      refine wi_aload_n rfl rfl ?_
      refine wi_iload_n rfl rfl ?_
      refine wi_callV1 rfl (by decide) (by decide) rfl (kd_134 ..) rfl rfl rfl (c_isM g21 (st_in (n := c) (by omega) (by omega)) ?_)
      refine wi_if_ne rfl (fun _ => ?_) (fun h9 => absurd (by decide) h9)
      refine wi_aload_n rfl rfl ?_
      refine wi_callV0 rfl (by decide) (by decide) rfl (kd_134 ..) rfl rfl rfl (c_gives (mi0 := (u2 (u2 (u2 mi2 0 12 (6 : Int32)) 134 1 (0 : Int32)) 134 0 (0 : Int32))) (w := (r8 (mi 64) (mi 65) (mi 66) (mi 67) (mi 68) (mi 69) (mi 70) (mi 71))) (q := c) (us := min 6 n) (ok := (sOk (mi 61) (mi 62) (mi 60 4) (mi 60 5))) (fe := (sFeas c (mi 61) (mi 62) (mi 60 4) (mi 60 5))) (re := re) (sp := sp) (n := n) g21 hc (by omega) gW gDK gre gsp (by omega) (by omega) gok (fun e he => feas_iff.mp he) (fun e he => feas_iff.mpr he) g4 hn rfl (fun mi3 g1 g2 => wp_v (congrArg moM eS.symm) ?_))
      refine wi_if_ge rfl (fun h9 => absurd h9 (by decide)) (fun _ => ?_)
      refine wi_aload_n rfl rfl ?_
      refine wi_bipush (x := 6) rfl rfl ?_
      refine wi_callV1 rfl (by decide) (by decide) rfl (kd_134 ..) rfl rfl rfl ?_
      refine wi_aload_n rfl rfl ?_
      refine wi_iload_n rfl rfl ?_
      refine wi_putI rfl (kd_134 ..) ?_
      refine wi_iconst (x := (-1)) rfl rfl ?_
      refine wi_iret rfl (Or.inl rfl) ?_
      refine wi_goto rfl ?_
      refine wi_iret rfl (Or.inl rfl) ?_
      refine h2 _ _ _ ?_
      have hm0 : ∀ a, a ≠ 60 ∧ a ≠ 72 ∧ a ≠ 151 ∧ a ≠ 152 ∧ a ≠ 153 → (u2 mi3 134 0 6) a = (u2 (u2 (u2 mi 0 12 6) 134 1 0) 134 0 6) a := fun a ha => (u2_congr (g1 a (by omega) (by omega) (by omega))).trans ((congrFun u2_over a).trans (u2_congr (u2_congr (u2_congr (ho a (by omega) (by omega))))))
      have h60 : (u2 mi3 134 0 6) 60 = mi2 60 := g1 60 (by decide) (by decide) (by decide)
      obtain ⟨kst, ⟨kn0, kn4, -⟩, ⟨kt0, kt5, -⟩, kT, kF, kC, kM, kP, kTp, kB, kFa, kMk, kfr⟩ := RG_fr (mi2 := (u2 mi3 134 0 6)) (ml := ml) (b := b) (n := n) (t := t) hm0 ⟨rfl, ⟨hn0, hn4, hn⟩, ⟨ht0, ht5, ht⟩, hT, hF, hC, hM, hP, hTp, hB, hFa, ⟨c, hc3, hc21, hc, hD, hDi, hW, hre, hsp, hre1, hsp1, hbf⟩, hMk, hfr⟩
      rw [← k4 75 (by decide) (by decide) (by decide), ← k4 94 (by decide) (by decide) (by decide), ← k4 95 (by decide) (by decide) (by decide)] at kMk
      rw [← k4 96 (by decide) (by decide) (by decide), ← k4 134 (by decide) (by decide) (by decide)] at kfr
      have hnew := rSea_new (mf := (u2 mi3 134 0 6)) (bv := ml 60 9) (bv2 := ml2 60 9) (n := n) (c := c) ⟨c, hc3, hc21, hc, hD, hDi, hW, hre, hsp, hre1, hsp1, hbf⟩ hc3 hc (fun a a1 a2 a3 a4 a5 a6 a7 => (hm0 a ⟨a1, a2, a5, a6, a7⟩).trans ((u2_ne a3).trans ((u2_ne a3).trans (u2_ne a4)))) (fun j hj => by rw [h60]; exact k2 j hj) (fun j hj => by rw [hm0 134 (by decide), u2_off (by omega), u2_off (by omega)]; rfl) (by rw [h60]; exact k3) hn k5
      exact ⟨n, t, kst, ⟨kn0, kn4, hn⟩, ⟨kt0, kt5, ht⟩, kT, kF, kC, kM, kP, kTp, kB, kFa, hnew, kMk, kfr⟩
    · have hxx := hxS x rfl
      have hod : odN c x.2 < 1679616 := od_b hc (hxl x rfl)
      have hxp := hxx.2 p h_p
      have hop : 1 ≤ sOrd p := ord_1 (by omega)
      have hol := sOrd_le (m := p)
      have hdl : (x.1 * 1679616 + odN c x.2) / (max 1 (sOrd p)) ≤ x.1 * 1679616 + odN c x.2 := Nat.div_le_self _ _
      refine wi_aload_n rfl rfl ?_
      refine wi_getR rfl (kd_0 ..) (rd_0_8 _) ?_
      refine wi_iload_n rfl rfl ?_
      refine wi_callV1 rfl (by decide) (by decide) rfl (kd_60 ..) rfl rfl rfl (c_hasM hc3 (st_in (n := c) (by omega) (by omega)) ?_)
      refine wi_if_ne rfl (fun _ => ?_) (fun h9 => absurd (by decide) h9)
      refine wi_aload_n rfl rfl ?_
      refine wi_getR rfl (kd_0 ..) (rd_0_8 _) ?_
      refine wi_iload_n rfl rfl ?_
      refine wi_aload_n rfl rfl ?_
      refine wi_getIv (v := (Int32.ofNat (n))) rfl (kd_0 ..) hn0 ?_
      refine wi_callV2 rfl (by decide) (by decide) rfl (kd_60 ..) rfl rfl rfl ?_
      refine wi_aload_n rfl rfl ?_
      refine wi_iload_n rfl rfl ?_
      refine wi_callV1 rfl (by decide) (by decide) rfl (kd_60 ..) rfl rfl rfl (c_find hc3 hc (fun k hk => (hD k hk).2.2) hre1 hsp1 (fun m hm s hs => (hW m hm s hs).1) hn hbf (fun mi2 ml2 k1 k2 k3 k4 k5 => ?_))
      have hbv : ml2 60 9 = Int64.ofNat (x.1 * 1679616 + odN c x.2) := bv_some k5 hSB (by have := hod; omega)
      refine wi_aload_n rfl rfl ?_
      refine wi_getLv (lv := (Int64.ofNat (x.1 * 1679616 + odN c x.2))) rfl (kd_60 ..) hbv ?_
      refine wi_ldc2_w (lx := (-1)) rfl rfl ?_
      refine wi_lcmp rfl ?_
      refine wi_if_eq rfl (fun h9 => absurd h9 (lgm1 (by have := hod; omega))) (fun _ => ?_)
      refine wi_aload_n rfl rfl ?_
      refine wi_iload_n rfl rfl ?_
      refine wi_callV1 rfl (by decide) (by decide) rfl (kd_60 ..) rfl rfl rfl (c_hasM (by rw [k2 3 (by decide)]; exact hc3) (st_in (n := c) (by omega) (by omega)) ?_)
      refine wi_if_ne rfl (fun _ => ?_) (fun h9 => absurd (by decide) h9)
      refine wi_iconst (x := 1) rfl rfl ?_
      refine wi_getstatic rfl ?_
      refine wi_iload_n rfl rfl ?_
      refine wn_ialoadO (q := p) rfl rfl (by omega) ?_
      rw [ord_n (by omega)]
      refine wn_max (z := (Int32.ofNat (max 1 (sOrd p)))) rfl rfl (max_n (a := 1) (b := sOrd p) (rfl : (1 : Int32) = Int32.ofNat 1) rfl (by omega) (by omega)) ?_
      refine wi_istore_n (l' := [.ref 60, .int (Int32.ofNat (p)), .int (Int32.ofNat (n)), .int (Int32.ofNat (max 1 (sOrd p)))]) rfl (Nat.le_of_ble_eq_true rfl) rfl rfl ?_
      refine wi_iconst (x := 5) rfl rfl ?_
      refine wi_aload_n rfl rfl ?_
      refine wi_getLv (lv := (Int64.ofNat (x.1 * 1679616 + odN c x.2))) rfl (kd_60 ..) hbv ?_
      refine wi_iload_n rfl rfl ?_
      refine wn_i2l (lz := (Int64.ofNat (max 1 (sOrd p)))) rfl (i2l_n (a := max 1 (sOrd p)) rfl (by omega)) ?_
      refine wn_ldiv (lz := (Int64.ofNat ((x.1 * 1679616 + odN c x.2) / (max 1 (sOrd p))))) rfl (nz_l (b := max 1 (sOrd p)) rfl (by omega) (by omega)) (div_l (a := x.1 * 1679616 + odN c x.2) (b := max 1 (sOrd p)) rfl rfl (by omega) (by omega)) ?_
      refine wi_ldc2_w (lx := 6) rfl rfl ?_
      refine wn_lrem (lz := (Int64.ofNat (((x.1 * 1679616 + odN c x.2) / (max 1 (sOrd p))) % 6))) rfl (nz_l (b := 6) (rfl : (6 : Int64) = Int64.ofNat 6) (by omega) (by omega)) (mod_l (a := (x.1 * 1679616 + odN c x.2) / (max 1 (sOrd p))) (b := 6) rfl (rfl : (6 : Int64) = Int64.ofNat 6) (by omega) (by omega)) ?_
      refine wi_l2i rfl ?_
      rw [show (x.1 * 1679616 + odN c x.2) / (max 1 (sOrd p)) % 6 = 5 - x.2.getD p 0 from by rw [Nat.max_eq_right hop]; exact digit hc h_p (by omega), l2i_n (by omega)]
      refine wn_isub (z := Int32.ofNat (x.2.getD p 0)) rfl (by rw [sub_n (a := 5) (b := 5 - x.2.getD p 0) (rfl : (5 : Int32) = Int32.ofNat 5) rfl (by omega)]; congr 1; omega) ?_
      refine wi_iret rfl (Or.inl rfl) ?_
      refine wi_istore_n (l' := [.ref 0, .int (Int32.ofNat (p)), .int (Int32.ofNat (x.2.getD p 0))]) rfl (Nat.le_of_ble_eq_true rfl) rfl rfl ?_
      refine wi_iload_n rfl rfl ?_
      refine wi_iconst (x := (-1)) rfl rfl ?_
      refine wi_icmp_ne rfl (fun _ => ?_) (fun h9 => absurd (nm1 (by omega)) h9)
      refine wi_aload_n rfl rfl ?_
      refine wi_iload_n rfl rfl ?_
      refine wi_callV1 rfl (by decide) (by decide) rfl (kd_0 ..) rfl rfl rfl ?_
      refine wi_aload_n rfl rfl ?_
      refine wi_iconst (x := 0) rfl rfl ?_
      refine wi_putI rfl (kd_0 ..) ?_
      refine wi_iload_n rfl rfl ?_
      refine wi_iret rfl (Or.inl rfl) ?_
      refine wi_iret rfl (Or.inl rfl) ?_
      have ho : ∀ a, a ≠ 72 → a ≠ 60 → mi2 a = mi a := k1
      obtain ⟨re, e4, l4⟩ := nat_of hre1.1
      obtain ⟨sp, e5, l5⟩ := nat_of hsp1.1
      have l4' := hre1.2
      have l5' := hsp1.2
      have g21 : mi2 134 21 = Int32.ofNat c := by rw [ho 134 (by decide) (by decide)]; exact hc21
      have g4 : mi2 134 4 = Int32.ofNat n := by rw [ho 134 (by decide) (by decide)]; exact hn4
      have gre : mi2 134 22 = Int32.ofNat re := by rw [ho 134 (by decide) (by decide), ← hre]; exact e4
      have gsp : mi2 134 23 = Int32.ofNat sp := by rw [ho 134 (by decide) (by decide), ← hsp]; exact e5
      have gW : ∀ m, m < c → ∀ s, s < 8 → mi2 150 (8 * m + s) = Int32.ofNat ((r8 (mi 64) (mi 65) (mi 66) (mi 67) (mi 68) (mi 69) (mi 70) (mi 71)) m s).toNatClampNeg ∧ ((r8 (mi 64) (mi 65) (mi 66) (mi 67) (mi 68) (mi 69) (mi 70) (mi 71)) m s).toNatClampNeg ≤ 100 := fun m hm s hs => by
        rw [ho 150 (by decide) (by decide), ← (hW m (by omega) s hs).2.1 hm]
        exact hWc m (by omega) s hs
      have gDK : ∀ k, k < c → mi2 148 k = Int32.ofNat (clN (mi2 148) k) ∧ clN (mi2 148) k ≤ 999 ∧ mi2 149 k = Int32.ofNat (clN (mi2 149) k) ∧ clN (mi2 149) k ≤ 9 := fun k hk => by
        rw [ho 148 (by decide) (by decide), ho 149 (by decide) (by decide)]
        obtain ⟨d1, d2, d3, d4⟩ := hD k hk
        rw [d1] at d3
        rw [d2] at d4
        exact ⟨(clN_of (hi := 999) d3).1, (clN_of (hi := 999) d3).2, (clN_of (hi := 9) d4).1, (clN_of (hi := 9) d4).2⟩
      have gok : ∀ i j, i < j → j < c → sOk (mi2 148) (mi2 149) (mi2 134 22) (mi2 134 23) i j = sOk (mi 61) (mi 62) (mi 60 4) (mi 60 5) i j := fun i j hi hj => by
        rw [ho 148 (by decide) (by decide), ho 149 (by decide) (by decide), ho 134 (by decide) (by decide), ← hre, ← hsp]
        exact sOk_congr (hD i (by omega)).1.symm (hD j hj).1.symm (hD i (by omega)).2.1.symm (hD j hj).2.1.symm
      refine hK _ _ _ _ (fun Q2 h2 => ?_)
      refine wi_aload_n rfl rfl ?_
      refine wi_iconst (x := 0) rfl rfl ?_
      refine wi_putI rfl (kd_134 ..) ?_
      refine wi_aload_n rfl rfl ?_
      refine wi_iconst (x := 0) rfl rfl ?_
      refine wi_putI rfl (kd_134 ..) ?_
      refine wi_aload_n rfl rfl ?_
      refine wi_iload_n rfl rfl ?_
      refine wi_callV1 rfl (by decide) (by decide) rfl (kd_134 ..) rfl rfl rfl (c_isM g21 (st_in (n := c) (by omega) (by omega)) ?_)
      refine wi_if_ne rfl (fun _ => ?_) (fun h9 => absurd (by decide) h9)
      refine wi_aload_n rfl rfl ?_
      refine wi_callV0 rfl (by decide) (by decide) rfl (kd_134 ..) rfl rfl rfl (c_gives (mi0 := (u2 (u2 (u2 mi2 0 12 (0 : Int32)) 134 1 (0 : Int32)) 134 0 (0 : Int32))) (w := (r8 (mi 64) (mi 65) (mi 66) (mi 67) (mi 68) (mi 69) (mi 70) (mi 71))) (q := c) (us := min 6 n) (ok := (sOk (mi 61) (mi 62) (mi 60 4) (mi 60 5))) (fe := (sFeas c (mi 61) (mi 62) (mi 60 4) (mi 60 5))) (re := re) (sp := sp) (n := n) g21 hc (by omega) gW gDK gre gsp (by omega) (by omega) gok (fun e he => feas_iff.mp he) (fun e he => feas_iff.mpr he) g4 hn rfl (fun mi3 g1 g2 => wp_v (congrArg moM eS.symm) ?_))
      refine wi_if_ge rfl (fun _ => ?_) (fun h9 => absurd trivial (by exfalso; have h8 := (not_congr (le_n (a := 0) (b := x.1) (rfl : (0 : Int32) = Int32.ofNat 0) rfl (by omega) (by omega))).mp h9; omega))
      refine wi_aload_n rfl rfl ?_
      refine wi_getR rfl (kd_134 ..) (rd_134_28 _) ?_
      refine wi_iload_n rfl rfl ?_
      refine wn_iaload (q := p) (v := (Int32.ofNat (x.2.getD p 0))) rfl (ln_152 ..) rfl (by omega) (by decide) (by decide) (by decide) ((g2 x eS.symm).1 p h_p) ?_
      refine wi_iret rfl (Or.inl rfl) ?_
      refine h2 _ _ _ ?_
      have hm0 : ∀ a, a ≠ 60 ∧ a ≠ 72 ∧ a ≠ 151 ∧ a ≠ 152 ∧ a ≠ 153 → mi3 a = (u2 (u2 (u2 mi 0 12 0) 134 1 0) 134 0 0) a := fun a ha => (g1 a (by omega) (by omega) (by omega)).trans (u2_congr (u2_congr (u2_congr (ho a (by omega) (by omega)))))
      have h60 : mi3 60 = mi2 60 := g1 60 (by decide) (by decide) (by decide)
      obtain ⟨kst, ⟨kn0, kn4, -⟩, ⟨kt0, kt5, -⟩, kT, kF, kC, kM, kP, kTp, kB, kFa, kMk, kfr⟩ := RG_fr (mi2 := mi3) (ml := ml) (b := b) (n := n) (t := t) hm0 ⟨rfl, ⟨hn0, hn4, hn⟩, ⟨ht0, ht5, ht⟩, hT, hF, hC, hM, hP, hTp, hB, hFa, ⟨c, hc3, hc21, hc, hD, hDi, hW, hre, hsp, hre1, hsp1, hbf⟩, hMk, hfr⟩
      rw [← k4 75 (by decide) (by decide) (by decide), ← k4 94 (by decide) (by decide) (by decide), ← k4 95 (by decide) (by decide) (by decide)] at kMk
      rw [← k4 96 (by decide) (by decide) (by decide), ← k4 134 (by decide) (by decide) (by decide)] at kfr
      have hnew := rSea_new (mf := mi3) (bv := ml 60 9) (bv2 := ml2 60 9) (n := n) (c := c) ⟨c, hc3, hc21, hc, hD, hDi, hW, hre, hsp, hre1, hsp1, hbf⟩ hc3 hc (fun a a1 a2 a3 a4 a5 a6 a7 => (hm0 a ⟨a1, a2, a5, a6, a7⟩).trans ((u2_ne a3).trans ((u2_ne a3).trans (u2_ne a4)))) (fun j hj => by rw [h60]; exact k2 j hj) (fun j hj => by rw [hm0 134 (by decide), u2_off (by omega), u2_off (by omega)]; rfl) (by rw [h60]; exact k3) hn k5
      exact ⟨n, t, kst, ⟨kn0, kn4, hn⟩, ⟨kt0, kt5, ht⟩, kT, kF, kC, kM, kP, kTp, kB, kFa, hnew, kMk, kfr⟩
