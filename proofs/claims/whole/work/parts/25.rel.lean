/-! ===== the relation of the two memories ===== -/
def r8 (f0 f1 f2 f3 f4 f5 f6 f7 : Nat → Int32) : Nat → Nat → Int32 := fun r => if r = 0 then f0 else if r = 1 then f1 else if r = 2 then f2 else if r = 3 then f3 else if r = 4 then f4 else if r = 5 then f5 else if r = 6 then f6 else f7
def tB (r : Nat → Int32) : Prop := rB (r 0) 0 100 ∧ rB (r 1) 0 100 ∧ rB (r 2) 0 100 ∧ rB (r 3) 0 60 ∧ rB (r 4) 0 100 ∧ rB (r 5) 0 100 ∧ rB (r 6) 0 31 ∧ rB (r 7) 0 1000
def tF (r : Nat → Int32) : Prop := r 0 = 40 ∧ r 1 = 40 ∧ r 2 = 40 ∧ r 3 = 12 ∧ r 4 = 30 ∧ r 5 = 0 ∧ r 6 = 0 ∧ r 7 = 0
/-- a strip of the class and the reference's -/
def tR (r : Nat → Int32) (S W B : Nat → Int32) (s : Nat) : Prop := r 0 = S (6 * s + 0) ∧ r 1 = S (6 * s + 1) ∧ r 2 = S (6 * s + 2) ∧ r 3 = S (6 * s + 3) ∧ r 4 = S (6 * s + 4) ∧ r 5 = S (6 * s + 5) ∧ r 6 = W s ∧ r 7 = B s
def rTurf (n : Nat) (T : Nat → Nat → Int32) (S W B : Nat → Int32) : Prop := ∀ s, s < 8 → (s < n → tR (T s) S W B s ∧ tB (T s)) ∧ (n ≤ s → tF (T s))
def rWea (r s r' s' : Nat → Int32) : Prop := ∀ k, k < 1000 → r k = r' k ∧ s k = s' k ∧ rB (r k) 0 100 ∧ rB (s k) 0 20
def rMeas (n : Nat) (c c' : Int32) (a d v a' d' v' : Nat → Int32) : Prop := ∃ q : Nat, c = Int32.ofNat q ∧ c' = Int32.ofNat q ∧ q ≤ 200 ∧ ∀ k, k < q → a k = a' k ∧ d k = d' k ∧ v k = v' k ∧ (∃ s : Nat, s < n ∧ a k = Int32.ofNat s) ∧ rB (d k) 0 999 ∧ rB (v k) 0 100
def rPlan (c c' : Int32) (p p' : Nat → Int32) : Prop := ∃ q : Nat, c = Int32.ofNat q ∧ c' = Int32.ofNat q ∧ q ≤ 6 ∧ ∀ k, k < q → p k = p' k ∧ rB (p k) 0 3
def rTape (c c' : Int32) (t t' : Nat → Int32) : Prop := ∃ q : Nat, c = Int32.ofNat q ∧ c' = Int32.ofNat q ∧ q ≤ 400 ∧ ∀ k, k < q → t k = t' k &&& 255
def rBook (c c' : Int32) (tc : Nat → Int32) (A S N : Nat → Nat → Int32) (tc' A' S' N' : Nat → Int32) : Prop := ∃ q : Nat, c = Int32.ofNat q ∧ c' = Int32.ofNat q ∧ q ≤ 8 ∧ ∀ r, r < q → ∃ t : Nat, t ≤ 6 ∧ tc r = Int32.ofNat t ∧ tc' r = Int32.ofNat t ∧ ∀ k, k < t → A r k = A' (6 * r + k) ∧ S r k = S' (6 * r + k) ∧ N r k = N' (6 * r + k) ∧ rB (A r k) 0 7
def rBk (mi : Nat → Nat → Int32) (b : Bool) : Prop := match b with
  | true => rBook (mi 31 4) (mi 134 47) (mi 32) (r8 (mi 34) (mi 35) (mi 36) (mi 37) (mi 38) (mi 39) (mi 40) (mi 41)) (r8 (mi 43) (mi 44) (mi 45) (mi 46) (mi 47) (mi 48) (mi 49) (mi 50)) (r8 (mi 52) (mi 53) (mi 54) (mi 55) (mi 56) (mi 57) (mi 58) (mi 59)) (mi 158) (mi 159) (mi 160) (mi 161)
  | false => rBook (mi 97 4) (mi 134 47) (mi 98) (r8 (mi 100) (mi 101) (mi 102) (mi 103) (mi 104) (mi 105) (mi 106) (mi 107)) (r8 (mi 109) (mi 110) (mi 111) (mi 112) (mi 113) (mi 114) (mi 115) (mi 116)) (r8 (mi 118) (mi 119) (mi 120) (mi 121) (mi 122) (mi 123) (mi 124) (mi 125)) (mi 158) (mi 159) (mi 160) (mi 161)
/-- all lists of n numbers below u, in their order -/
def lists (u : Nat) : Nat → List (List Nat)
  | 0 => [[]]
  | n + 1 => (List.range u).flatMap (fun s => (lists u n).map (fun f => s :: f))
/-- may two matches be on one strip -/
def sOk (D K : Nat → Int32) (re sp : Int32) (i j : Nat) : Bool :=
  let e := if (D i).toInt < (D j).toInt then i else j
  let l := if (D i).toInt < (D j).toInt then j else i
  decide (re.toInt ≤ (D l).toInt - (D e).toInt) && (decide ((K l).toInt ≠ 9) || decide (sp.toInt < (D l).toInt - (D e).toInt))
def sFeas (q : Nat) (D K : Nat → Int32) (re sp : Int32) (f : List Nat) : Bool := (List.range q).all (fun j => (List.range j).all (fun i => !(f.getD i 0 == f.getD j 0) || sOk D K re sp i j))
def sOrd (m : Nat) : Nat := ([279936, 46656, 7776, 1296, 216, 36, 6, 1] : List Nat).getD m 0
/-- what a giving is worth, the giving itself below -/
def sVal (q : Nat) (w : Nat → Nat → Int32) (f : List Nat) : Int := ((List.range q).map (fun m => (w m (f.getD m 0)).toInt * 1679616 + (5 - (f.getD m 0 : Int)) * (sOrd m : Int))).sum
def sBest (q : Nat) (D K : Nat → Int32) (w : Nat → Nat → Int32) (re sp : Int32) (u : Nat) : Int := ((lists (min u 6) q).filter (sFeas q D K re sp)).foldl (fun a f => max a (sVal q w f)) (-1)
def rSea (c c' : Int32) (D K D' K' : Nat → Int32) (w : Nat → Nat → Int32) (w' : Nat → Int32) (re re' sp sp' bf : Int32) (bv : Int64) : Prop := ∃ q : Nat, c = Int32.ofNat q ∧ c' = Int32.ofNat q ∧ q ≤ 8 ∧
  (∀ k, k < q → D k = D' k ∧ K k = K' k ∧ rB (D k) 0 999 ∧ rB (K k) 0 9) ∧ (∀ i j, i < q → j < q → D i = D j → i = j) ∧
  (∀ m, m < 8 → ∀ s, s < 8 → rB (w m s) 0 100 ∧ (m < q → w m s = w' (8 * m + s)) ∧ (q ≤ m → w m s = 50)) ∧
  re = re' ∧ sp = sp' ∧ rB re 0 60 ∧ rB sp 0 100 ∧ (bf = -1 ∨ ∃ u : Nat, u ≤ 8 ∧ bf = Int32.ofNat u ∧ bv.toInt = sBest q D K w re sp u)
def cntN (p : Nat → Bool) : Nat → Nat
  | 0 => 0
  | n + 1 => cntN p n + (if p n = true then 1 else 0)
def sumN (p : Nat → Bool) (f : Nat → Nat) : Nat → Nat
  | 0 => 0
  | n + 1 => sumN p f n + (if p n = true then f n else 0)
def clN (f : Nat → Int32) (k : Nat) : Nat := (f k).toNatClampNeg
def rMk (ac as : Int64) (C S : Nat → Nat → Int32) (RC RS : Nat → Int64) (c' : Int32) (of by' va : Nat → Int32) : Prop := ∃ q : Nat, q ≤ 100 ∧ c' = Int32.ofNat q ∧
  (∀ k, k < q → rB (of k) 0 7 ∧ rB (by' k) 0 2 ∧ rB (va k) 0 10) ∧
  (∀ m, m < 8 → ∀ r, r < 3 → C m r = Int32.ofNat (cntN (fun k => clN of k == m && clN by' k == r) q) ∧ S m r = Int32.ofNat (sumN (fun k => clN of k == m && clN by' k == r) (clN va) q)) ∧
  (∀ r, r < 3 → RC r = Int64.ofNat (cntN (fun k => clN by' k == r) q) ∧ RS r = Int64.ofNat (sumN (fun k => clN by' k == r) (clN va) q)) ∧
  ac = Int64.ofNat q ∧ as = Int64.ofNat (sumN (fun _ => true) (clN va) q)
def RR (mi : Nat → Nat → Int32) (ml : Nat → Nat → Int64) (b : Bool) (n t : Nat) : Prop :=
  mi 0 12 = mi 134 0 ∧ (mi 0 13 = Int32.ofNat n ∧ mi 134 4 = Int32.ofNat n ∧ n ≤ 8) ∧ (mi 0 14 = Int32.ofNat t ∧ mi 134 5 = Int32.ofNat t ∧ t ≤ 999) ∧
  rTurf n (r8 (mi 126) (mi 127) (mi 128) (mi 129) (mi 130) (mi 131) (mi 132) (mi 133)) (mi 135) (mi 136) (mi 137) ∧
  rWea (mi 4) (mi 5) (mi 138) (mi 139) ∧ rWea (mi 7) (mi 8) (mi 140) (mi 141) ∧
  rMeas n (mi 9 3) (mi 134 14) (mi 10) (mi 11) (mi 12) (mi 143) (mi 144) (mi 145) ∧
  rPlan (mi 13 5) (mi 134 20) (mi 16) (mi 147) ∧
  rTape (mi 26 1) (mi 134 35) (mi 27) (mi 157) ∧
  rBk mi b ∧ (mi 28 11 = mi 134 37 ∧ mi 28 12 = mi 134 38) ∧
  rSea (mi 60 3) (mi 134 21) (mi 61) (mi 62) (mi 148) (mi 149) (r8 (mi 64) (mi 65) (mi 66) (mi 67) (mi 68) (mi 69) (mi 70) (mi 71)) (mi 150) (mi 60 4) (mi 134 22) (mi 60 5) (mi 134 23) (mi 60 10) (ml 60 9) ∧
  rMk (ml 75 4) (ml 75 5) (r8 (mi 77) (mi 78) (mi 79) (mi 80) (mi 81) (mi 82) (mi 83) (mi 84)) (r8 (mi 86) (mi 87) (mi 88) (mi 89) (mi 90) (mi 91) (mi 92) (mi 93)) (ml 94) (ml 95) (mi 134 30) (mi 154) (mi 155) (mi 156) ∧
  (ml 96 0 = ml 134 2 ∧ ml 96 1 = ml 134 3)
def R (mi : Nat → Nat → Int32) (ml : Nat → Nat → Int64) (b : Bool) : Prop := ∃ n t : Nat, RR mi ml b n t
/-- a call on the class, and behind it the reference's: alike, and the memories stay related -/
def arm (X : Nat × (Nat → Int32)) (xm mm : Nat) (lx lm : List Value) : Prop := ∀ (mi : Nat → Nat → Int32) (ml : Nat → Nat → Int64) (b : Bool), R mi ml b → ∀ Q : Option Value → am_M → Prop,
  (∀ (v : Int32) mi' ml' b', (∀ Q2 : Option Value → am_M → Prop, (∀ mi'' ml'' b'', R mi'' ml'' b'' → Q2 (some (.int v)) (am_shT, mrL b'', mi'', ml'')) → am_wp X 29 mm 0 lm [] (am_shT, mrL b', mi', ml') Q2) → Q (some (.int v)) (am_shT, mrL b', mi', ml')) → am_wp X 29 xm 0 lx [] (am_shT, mrL b, mi, ml) Q
def armL (X : Nat × (Nat → Int32)) (xm mm : Nat) (lx lm : List Value) : Prop := ∀ (mi : Nat → Nat → Int32) (ml : Nat → Nat → Int64) (b : Bool), R mi ml b → ∀ Q : Option Value → am_M → Prop,
  (∀ (v : Int64) mi' ml' b', (∀ Q2 : Option Value → am_M → Prop, (∀ mi'' ml'' b'', R mi'' ml'' b'' → Q2 (some (.long v)) (am_shT, mrL b'', mi'', ml'')) → am_wp X 29 mm 0 lm [] (am_shT, mrL b', mi', ml') Q2) → Q (some (.long v)) (am_shT, mrL b', mi', ml')) → am_wp X 29 xm 0 lx [] (am_shT, mrL b, mi, ml) Q
/-! the numbers that come in: bad ones, or a Nat -/
def stF (s n : Int32) : Int32 := if s < 0 then 0 else if n ≤ s then 0 else 1
theorem st_cases (s : Int32) {n : Nat} (hn : n ≤ 1000) : stF s (Int32.ofNat n) = 0 ∨ ∃ q : Nat, q < n ∧ s = Int32.ofNat q := by
  unfold stF
  by_cases h1 : s < 0
  · exact Or.inl (if_pos h1)
  · rw [if_neg h1]
    by_cases h2 : Int32.ofNat n ≤ s
    · exact Or.inl (if_pos h2)
    · rw [Int32.lt_iff_toInt_lt] at h1
      have z0 : (0 : Int32).toInt = 0 := rfl
      obtain ⟨q, e1, e2⟩ := nat_of (x := s) (by omega)
      rw [Int32.le_iff_toInt_le, i32_toInt (by omega)] at h2
      exact Or.inr ⟨q, by omega, e1⟩
theorem st_in {q n : Nat} (h : q < n) (hn : n ≤ 1000) : stF (Int32.ofNat q) (Int32.ofNat n) = 1 := by
  unfold stF
  rw [if_neg (fun h1 => absurd ((lt_n rfl (rfl : (0 : Int32) = Int32.ofNat 0) (by omega) (by decide)).mp h1) (Nat.not_lt_zero _)), if_neg (fun h1 => absurd ((le_n rfl rfl (by omega) (by omega)).mp h1) (by omega))]
theorem wn_cases (s : Int32) (lo hi : Nat) (h : lo < 2147483648) (hh : hi < 2147483648) : wnF s (Int32.ofNat lo) (Int32.ofNat hi) = 0 ∨ ∃ q : Nat, lo ≤ q ∧ q ≤ hi ∧ s = Int32.ofNat q := by
  by_cases h1 : s < Int32.ofNat lo
  · exact Or.inl (wn_zero.mpr (Or.inl h1))
  · by_cases h2 : Int32.ofNat hi < s
    · exact Or.inl (wn_zero.mpr (Or.inr h2))
    · rw [Int32.lt_iff_toInt_lt, i32_toInt h] at h1
      rw [Int32.lt_iff_toInt_lt, i32_toInt hh] at h2
      obtain ⟨q, e1, e2⟩ := nat_of (x := s) (by omega)
      exact Or.inr ⟨q, by omega, by omega, e1⟩
theorem wn_in {q lo hi : Nat} (h1 : lo ≤ q) (h2 : q ≤ hi) (hh : hi < 2147483648) : wnF (Int32.ofNat q) (Int32.ofNat lo) (Int32.ofNat hi) = 1 := by
  unfold wnF
  rw [if_neg (fun h => absurd ((lt_n rfl rfl (by omega) (by omega)).mp h) (by omega)), if_neg (fun h => absurd ((lt_n rfl rfl (by omega) (by omega)).mp h) (by omega))]
theorem st_wn (s : Int32) : stF s 1000 = wnF s 0 999 := by
  unfold stF wnF
  by_cases h1 : s < 0
  · rw [if_pos h1, if_pos h1]
  · rw [if_neg h1, if_neg h1]
    by_cases h2 : 999 < s
    · rw [if_pos h2, if_pos]
      rw [Int32.lt_iff_toInt_lt] at h2
      rw [Int32.le_iff_toInt_le]
      have z1 : (999 : Int32).toInt = 999 := rfl
      have z2 : (1000 : Int32).toInt = 1000 := rfl
      omega
    · rw [if_neg h2, if_neg]
      rw [Int32.lt_iff_toInt_lt] at h2
      rw [Int32.le_iff_toInt_le]
      have z1 : (999 : Int32).toInt = 999 := rfl
      have z2 : (1000 : Int32).toInt = 1000 := rfl
      omega
theorem r8_eq {mi : Nat → Nat → Int32} {p s : Nat} (hs : s < 8) : r8 (mi p) (mi (p + 1)) (mi (p + 2)) (mi (p + 3)) (mi (p + 4)) (mi (p + 5)) (mi (p + 6)) (mi (p + 7)) s = mi (p + s) := by
  rcases s with _ | _ | _ | _ | _ | _ | _ | _ | s
  all_goals first | rfl | omega
/-- all but the strips -/
def RO (mi : Nat → Nat → Int32) (ml : Nat → Nat → Int64) (b : Bool) (n t : Nat) : Prop :=
  mi 0 12 = mi 134 0 ∧ (mi 0 13 = Int32.ofNat n ∧ mi 134 4 = Int32.ofNat n ∧ n ≤ 8) ∧ (mi 0 14 = Int32.ofNat t ∧ mi 134 5 = Int32.ofNat t ∧ t ≤ 999) ∧
  rWea (mi 4) (mi 5) (mi 138) (mi 139) ∧ rWea (mi 7) (mi 8) (mi 140) (mi 141) ∧
  rMeas n (mi 9 3) (mi 134 14) (mi 10) (mi 11) (mi 12) (mi 143) (mi 144) (mi 145) ∧
  rPlan (mi 13 5) (mi 134 20) (mi 16) (mi 147) ∧
  rTape (mi 26 1) (mi 134 35) (mi 27) (mi 157) ∧
  rBk mi b ∧ (mi 28 11 = mi 134 37 ∧ mi 28 12 = mi 134 38) ∧
  rSea (mi 60 3) (mi 134 21) (mi 61) (mi 62) (mi 148) (mi 149) (r8 (mi 64) (mi 65) (mi 66) (mi 67) (mi 68) (mi 69) (mi 70) (mi 71)) (mi 150) (mi 60 4) (mi 134 22) (mi 60 5) (mi 134 23) (mi 60 10) (ml 60 9) ∧
  rMk (ml 75 4) (ml 75 5) (r8 (mi 77) (mi 78) (mi 79) (mi 80) (mi 81) (mi 82) (mi 83) (mi 84)) (r8 (mi 86) (mi 87) (mi 88) (mi 89) (mi 90) (mi 91) (mi 92) (mi 93)) (ml 94) (ml 95) (mi 134 30) (mi 154) (mi 155) (mi 156) ∧
  (ml 96 0 = ml 134 2 ∧ ml 96 1 = ml 134 3)
/-- places of the strips, of plans that are tried, of what is today: no part of RO -/
def scr (a : Nat) : Bool := (decide (126 ≤ a) && decide (a < 134)) || a == 2 || (decide (14 ≤ a) && decide (a < 16)) || (decide (17 ≤ a) && decide (a < 26)) || (decide (135 ≤ a) && decide (a < 138)) || a == 142 || a == 146 || (decide (29 ≤ a) && decide (a < 31))
theorem RO_fr {mi mi2 : Nat → Nat → Int32} {ml : Nat → Nat → Int64} {b : Bool} {n t : Nat} (ho : ∀ a, scr a = false → mi2 a = mi a) (h : RO mi ml b n t) : RO mi2 ml b n t := by
  unfold RO rBk at h ⊢
  simp only [ho 0 rfl, ho 4 rfl, ho 5 rfl, ho 7 rfl, ho 8 rfl, ho 9 rfl, ho 10 rfl, ho 11 rfl, ho 12 rfl, ho 13 rfl, ho 16 rfl, ho 26 rfl, ho 27 rfl, ho 28 rfl, ho 31 rfl, ho 32 rfl, ho 34 rfl, ho 35 rfl, ho 36 rfl, ho 37 rfl, ho 38 rfl, ho 39 rfl, ho 40 rfl, ho 41 rfl, ho 43 rfl, ho 44 rfl, ho 45 rfl, ho 46 rfl, ho 47 rfl, ho 48 rfl, ho 49 rfl, ho 50 rfl, ho 52 rfl, ho 53 rfl, ho 54 rfl, ho 55 rfl, ho 56 rfl, ho 57 rfl, ho 58 rfl, ho 59 rfl, ho 60 rfl, ho 61 rfl, ho 62 rfl, ho 64 rfl, ho 65 rfl, ho 66 rfl, ho 67 rfl, ho 68 rfl, ho 69 rfl, ho 70 rfl, ho 71 rfl, ho 77 rfl, ho 78 rfl, ho 79 rfl, ho 80 rfl, ho 81 rfl, ho 82 rfl, ho 83 rfl, ho 84 rfl, ho 86 rfl, ho 87 rfl, ho 88 rfl, ho 89 rfl, ho 90 rfl, ho 91 rfl, ho 92 rfl, ho 93 rfl, ho 97 rfl, ho 98 rfl, ho 100 rfl, ho 101 rfl, ho 102 rfl, ho 103 rfl, ho 104 rfl, ho 105 rfl, ho 106 rfl, ho 107 rfl, ho 109 rfl, ho 110 rfl, ho 111 rfl, ho 112 rfl, ho 113 rfl, ho 114 rfl, ho 115 rfl, ho 116 rfl, ho 118 rfl, ho 119 rfl, ho 120 rfl, ho 121 rfl, ho 122 rfl, ho 123 rfl, ho 124 rfl, ho 125 rfl, ho 134 rfl, ho 138 rfl, ho 139 rfl, ho 140 rfl, ho 141 rfl, ho 143 rfl, ho 144 rfl, ho 145 rfl, ho 147 rfl, ho 148 rfl, ho 149 rfl, ho 150 rfl, ho 154 rfl, ho 155 rfl, ho 156 rfl, ho 157 rfl, ho 158 rfl, ho 159 rfl, ho 160 rfl, ho 161 rfl]
  exact h
theorem RR_of {mi : Nat → Nat → Int32} {ml : Nat → Nat → Int64} {b : Bool} {n t : Nat} (h : RO mi ml b n t) (hT : rTurf n (r8 (mi 126) (mi 127) (mi 128) (mi 129) (mi 130) (mi 131) (mi 132) (mi 133)) (mi 135) (mi 136) (mi 137)) : RR mi ml b n t := ⟨h.1, h.2.1, h.2.2.1, hT, h.2.2.2⟩
theorem RR_to {mi : Nat → Nat → Int32} {ml : Nat → Nat → Int64} {b : Bool} {n t : Nat} (h : RR mi ml b n t) : RO mi ml b n t := ⟨h.1, h.2.1, h.2.2.1, h.2.2.2.2⟩
theorem rTurf_at {n : Nat} {mi : Nat → Nat → Int32} {S W B : Nat → Int32} (h : rTurf n (r8 (mi 126) (mi 127) (mi 128) (mi 129) (mi 130) (mi 131) (mi 132) (mi 133)) S W B) {q : Nat} (hq : q < n) (hn : n ≤ 8) : tR (mi (126 + q)) S W B q ∧ tB (mi (126 + q)) := by
  have h1 := (h q (by omega)).1 hq
  have e : r8 (mi 126) (mi 127) (mi 128) (mi 129) (mi 130) (mi 131) (mi 132) (mi 133) q = mi (126 + q) := r8_eq (mi := mi) (p := 126) (by omega)
  rw [e] at h1
  exact h1
theorem rTurf_upd {n : Nat} {mi mi' : Nat → Nat → Int32} {S W B S' W' B' : Nat → Int32} (h : rTurf n (r8 (mi 126) (mi 127) (mi 128) (mi 129) (mi 130) (mi 131) (mi 132) (mi 133)) S W B) {q : Nat} (hq : q < n) (hn : n ≤ 8) (hT : ∀ s, s < 8 → s ≠ q → mi' (126 + s) = mi (126 + s)) (hS : ∀ k, k < 6 * q ∨ 6 * q + 6 ≤ k → S' k = S k) (hW : ∀ k, k ≠ q → W' k = W k) (hB : ∀ k, k ≠ q → B' k = B k) (hnew : tR (mi' (126 + q)) S' W' B' q ∧ tB (mi' (126 + q))) : rTurf n (r8 (mi' 126) (mi' 127) (mi' 128) (mi' 129) (mi' 130) (mi' 131) (mi' 132) (mi' 133)) S' W' B' := by
  intro s hs
  have e : r8 (mi 126) (mi 127) (mi 128) (mi 129) (mi 130) (mi 131) (mi 132) (mi 133) s = mi (126 + s) := r8_eq (mi := mi) (p := 126) hs
  have e' : r8 (mi' 126) (mi' 127) (mi' 128) (mi' 129) (mi' 130) (mi' 131) (mi' 132) (mi' 133) s = mi' (126 + s) := r8_eq (mi := mi') (p := 126) hs
  have h1 := h s hs
  rw [e] at h1
  rw [e']
  by_cases hz : s = q
  · subst hz
    exact ⟨fun _ => hnew, fun h2 => by omega⟩
  · rw [hT s hs hz]
    refine ⟨fun h2 => ?_, h1.2⟩
    obtain ⟨⟨a0, a1, a2, a3, a4, a5, a6, a7⟩, h4⟩ := h1.1 h2
    refine ⟨⟨?_, ?_, ?_, ?_, ?_, ?_, ?_, ?_⟩, h4⟩
    · rw [hS _ (by omega)]; exact a0
    · rw [hS _ (by omega)]; exact a1
    · rw [hS _ (by omega)]; exact a2
    · rw [hS _ (by omega)]; exact a3
    · rw [hS _ (by omega)]; exact a4
    · rw [hS _ (by omega)]; exact a5
    · rw [hW _ hz]; exact a6
    · rw [hB _ hz]; exact a7
theorem rSea_rests {c c' : Int32} {D K D' K' : Nat → Int32} {w : Nat → Nat → Int32} {w' : Nat → Int32} {re re' sp sp' bf : Int32} {bv : Int64} (h : rSea c c' D K D' K' w w' re re' sp sp' bf bv) {x y : Nat} (hx : x ≤ 60) (hy : y ≤ 100) : rSea c c' D K D' K' w w' (Int32.ofNat x) (Int32.ofNat x) (Int32.ofNat y) (Int32.ofNat y) (-1) bv := by
  obtain ⟨q, h1, h2, h3, h4, h5, h6, -⟩ := h
  exact ⟨q, h1, h2, h3, h4, h5, h6, rfl, rfl, rB_of (hi := 60) hx (by decide), rB_of (hi := 100) hy (by decide), Or.inl rfl⟩
