/-! ===== a day of the class is a day of the reference ===== -/
def rB (x : Int32) (lo hi : Int) : Prop := lo ≤ x.toInt ∧ x.toInt ≤ hi
theorem rB_nat {x : Int32} {hi : Nat} (h : rB x 0 hi) : ∃ q : Nat, x = Int32.ofNat q ∧ q ≤ hi := by
  obtain ⟨q, e1, e2⟩ := nat_of h.1
  exact ⟨q, e1, by have := h.2; omega⟩
theorem rB_of {q hi : Nat} (h : q ≤ hi) (hh : hi < 2147483648) : rB (Int32.ofNat q) 0 hi := by
  unfold rB
  rw [i32_toInt (by omega)]
  omega
theorem and_le {wk : Int32} (h : rB wk 0 31) : (wk &&& 1 ≤ 0 ↔ wk &&& 1 = 0) ∧ (wk &&& 2 ≤ 0 ↔ wk &&& 2 = 0) ∧ (wk &&& 4 ≤ 0 ↔ wk &&& 4 = 0) ∧ (wk &&& 8 ≤ 0 ↔ wk &&& 8 = 0) ∧ (wk &&& 16 ≤ 0 ↔ wk &&& 16 = 0) := by
  obtain ⟨q, rfl, hq⟩ := rB_nat (hi := 31) h
  have h9 : ∀ q : Nat, q < 32 → (Int32.ofNat q &&& 1 ≤ 0 ↔ Int32.ofNat q &&& 1 = 0) ∧ (Int32.ofNat q &&& 2 ≤ 0 ↔ Int32.ofNat q &&& 2 = 0) ∧ (Int32.ofNat q &&& 4 ≤ 0 ↔ Int32.ofNat q &&& 4 = 0) ∧ (Int32.ofNat q &&& 8 ≤ 0 ↔ Int32.ofNat q &&& 8 = 0) ∧ (Int32.ofNat q &&& 16 ≤ 0 ↔ Int32.ofNat q &&& 16 = 0) := by decide
  exact h9 q (by omega)
theorem le_not {x y : Int32} : x ≤ y ↔ ¬ y < x := Int32.not_lt.symm
theorem cut_nat {a : Nat} {t : Nat} (ha : a < 2147483648) (ht : t < 2147483648) : cutF (Int32.ofNat a) (Int32.ofNat t) = Int32.ofNat (min a t) := by
  unfold cutF
  have e := lt_n (rfl : Int32.ofNat t = _) (rfl : Int32.ofNat a = _) ht ha
  by_cases h1 : t < a
  · rw [if_pos (e.mpr h1), show min a t = t by omega]
    by_cases h2 : 0 < t
    · exact if_pos ((lt_n (rfl : (0 : Int32) = Int32.ofNat 0) rfl (by decide) ht).mpr h2)
    · rw [if_neg (fun h3 => h2 ((lt_n (rfl : (0 : Int32) = Int32.ofNat 0) rfl (by decide) ht).mp h3)), show t = 0 by omega]
      rfl
  · rw [if_neg (fun h3 => h1 (e.mp h3)), show min a t = a by omega]
    by_cases h2 : 0 < a
    · exact if_pos ((lt_n (rfl : (0 : Int32) = Int32.ofNat 0) rfl (by decide) ha).mpr h2)
    · rw [if_neg (fun h3 => h2 ((lt_n (rfl : (0 : Int32) = Int32.ofNat 0) rfl (by decide) ha).mp h3)), show a = 0 by omega]
      rfl
theorem cut_rB (n t : Int32) (h : 0 ≤ t.toInt) : rB (cutF n t) 0 t.toInt := by
  unfold cutF rB
  have z0 : (0 : Int32).toInt = 0 := rfl
  have hy : (if t < n then t else n).toInt ≤ t.toInt := by
    by_cases h2 : t < n
    · rw [if_pos h2]; exact Int.le_refl _
    · rw [if_neg h2]
      rw [Int32.lt_iff_toInt_lt] at h2
      omega
  generalize (if t < n then t else n) = y at hy
  by_cases h1 : 0 < y
  · rw [if_pos h1]
    rw [Int32.lt_iff_toInt_lt, z0] at h1
    omega
  · rw [if_neg h1, z0]
    omega
theorem soak_eq {f r : Int32} (hf : rB f 0 100) (hr : rB r 0 100) : cutF (cutF (f + r) 100 + 8) 100 = cutF (f + r + 8) 100 := by
  obtain ⟨a, rfl, ha⟩ := rB_nat (hi := 100) hf
  obtain ⟨c, rfl, hc⟩ := rB_nat (hi := 100) hr
  rw [add_n (rfl : Int32.ofNat a = _) (rfl : Int32.ofNat c = _)]
  rw [show (100 : Int32) = Int32.ofNat 100 from rfl, show (8 : Int32) = Int32.ofNat 8 from rfl]
  rw [cut_nat (by omega) (by omega), add_n (rfl : Int32.ofNat (min (a + c) 100) = _) (rfl : Int32.ofNat 8 = _), add_n (rfl : Int32.ofNat (a + c) = _) (rfl : Int32.ofNat 8 = _), cut_nat (by omega) (by omega), cut_nat (by omega) (by omega)]
  congr 1
  omega
theorem seep_eq (f s : Int32) : seep1 f s = mseep f s := by
  unfold seep1 mseep
  by_cases h : s < f
  · rw [if_pos h, if_neg (fun h2 => (le_not.mp h2) h), Int32.sub_eq_add_neg f]
  · rw [if_neg h, if_pos (le_not.mpr h)]
theorem wn_zero {n a b : Int32} : wnF n a b = 0 ↔ n < a ∨ b < n := by
  unfold wnF
  by_cases h1 : n < a
  · simp [h1]
  · by_cases h2 : b < n
    · simp [h1, h2]
    · simp [h1, h2]
theorem hard_eq (f s h rol : Int32) : hardF f s h rol = (if f ≤ 70 then (if rol = 0 then h else if f < 25 then (if f ≤ 60 then h else cutF (h + -6) 100) else if 60 < f then (if f ≤ 60 then h else cutF (h + -6) 100) else if 70 < s then (if f ≤ 60 then h else cutF (h + -6) 100) else cutF (h + (1 + (100 - h) / 8)) 100) else cutF ((if rol = 0 then h else if f < 25 then (if f ≤ 60 then h else cutF (h + -6) 100) else if 60 < f then (if f ≤ 60 then h else cutF (h + -6) 100) else if 70 < s then (if f ≤ 60 then h else cutF (h + -6) 100) else cutF (h + (1 + (100 - h) / 8)) 100) + -1) 100) := by
  have e : (if wnF f 25 60 = 0 then (if f ≤ 60 then h else cutF (h - 6) 100) else if 70 < s then (if f ≤ 60 then h else cutF (h - 6) 100) else cutF (h + 1 + (100 - h) / 8) 100) = (if f < 25 then (if f ≤ 60 then h else cutF (h + -6) 100) else if 60 < f then (if f ≤ 60 then h else cutF (h + -6) 100) else if 70 < s then (if f ≤ 60 then h else cutF (h + -6) 100) else cutF (h + (1 + (100 - h) / 8)) 100) := by
    rw [Int32.add_assoc, Int32.sub_eq_add_neg h 6]
    by_cases h1 : f < 25
    · rw [if_pos (wn_zero.mpr (Or.inl h1)), if_pos h1]
    · by_cases h2 : 60 < f
      · rw [if_pos (wn_zero.mpr (Or.inr h2)), if_neg h1, if_pos h2]
      · rw [if_neg (fun h3 => (wn_zero.mp h3).elim h1 h2), if_neg h1, if_neg h2]
  unfold hardF
  simp only [e, Int32.sub_eq_add_neg _ 1]
theorem grow_eq (s g w : Int32) : growF s g w = (if 50 < w then g else if s < 20 then (if s < 10 then cutF (g + -1) 60 else if 90 < s then cutF (g + -1) 60 else cutF (g + 1) 60) else if 80 < s then (if s < 10 then cutF (g + -1) 60 else if 90 < s then cutF (g + -1) 60 else cutF (g + 1) 60) else cutF (g + 2) 60) := by
  have e : (if wnF s 10 90 = 0 then cutF (g - 1) 60 else cutF (g + 1) 60) = (if s < 10 then cutF (g + -1) 60 else if 90 < s then cutF (g + -1) 60 else cutF (g + 1) 60) := by
    rw [Int32.sub_eq_add_neg g 1]
    by_cases h1 : s < 10
    · rw [if_pos (wn_zero.mpr (Or.inl h1)), if_pos h1]
    · by_cases h2 : 90 < s
      · rw [if_pos (wn_zero.mpr (Or.inr h2)), if_neg h1, if_pos h2]
      · rw [if_neg (fun h3 => (wn_zero.mp h3).elim h1 h2), if_neg h1, if_neg h2]
  unfold growF
  rw [e]
  by_cases h0 : 50 < w
  · rw [if_pos h0, if_neg (fun h => (le_not.mp h) h0)]
  · rw [if_neg h0, if_pos (le_not.mpr h0)]
    by_cases h1 : s < 20
    · rw [if_pos (wn_zero.mpr (Or.inl h1)), if_pos h1]
    · by_cases h2 : 80 < s
      · rw [if_pos (wn_zero.mpr (Or.inr h2)), if_neg h1, if_pos h2]
      · rw [if_neg (fun h3 => (wn_zero.mp h3).elim h1 h2), if_neg h1, if_neg h2]
def dtX (f s t g h w wk bl : Int32) : six :=
  let h1 := hardF f s h (if wk &&& 2 = 0 then 0 else 1)
  let g1 := growF s g w
  let g2 := if wk &&& 4 = 0 then g1 else if 6 < g1 then 6 else g1
  let w1 := if wk &&& 16 = 0 then w else if bl = 0 then cutF (w - 3) 100 else w
  (f, s, t, g2, cutF (h1 - bl / 200) 100, cutF (w1 + bl / 40) 100)
def dtM (f3 s3 t3 g h w wk bl : Int32) : six :=
  let h1 := if wk &&& 2 ≤ 0 then h else if f3 < 25 then (if f3 ≤ 60 then h else cutF (h + -6) 100) else if 60 < f3 then (if f3 ≤ 60 then h else cutF (h + -6) 100) else if 70 < s3 then (if f3 ≤ 60 then h else cutF (h + -6) 100) else cutF (h + (1 + (100 - h) / 8)) 100
  let h2 := if f3 ≤ 70 then h1 else cutF (h1 + -1) 100
  let g1 := if 50 < w then g else if s3 < 20 then (if s3 < 10 then cutF (g + -1) 60 else if 90 < s3 then cutF (g + -1) 60 else cutF (g + 1) 60) else if 80 < s3 then (if s3 < 10 then cutF (g + -1) 60 else if 90 < s3 then cutF (g + -1) 60 else cutF (g + 1) 60) else cutF (g + 2) 60
  let g2 := if wk &&& 4 ≤ 0 then g1 else if g1 < 6 then g1 else 6
  let w1 := if wk &&& 16 ≤ 0 then w else if bl = 0 then cutF (w + -3) 100 else w
  (f3, s3, t3, g2, cutF (h2 + -(bl / 200)) 100, cutF (w1 + bl / 40) 100)
def soX (f r wk : Int32) : Int32 := soakF f (if (if wk &&& 1 = 0 then (0 : Int32) else 1) = 0 then r else 0) (if wk &&& 8 = 0 then 0 else 1)
def soM (f r wk : Int32) : Int32 := if wk &&& 8 ≤ 0 then cutF (f + (if wk &&& 1 ≤ 0 then r else 0)) 100 else cutF (cutF (f + (if wk &&& 1 ≤ 0 then r else 0)) 100 + 8) 100
theorem dayX (f s t g h w r u wk bl : Int32) : dayF f s t g h w r u wk bl = dtX (cutF ((seepF (soX f r wk) s t).1 - (if (if wk &&& 1 = 0 then (0 : Int32) else 1) = 0 then u else u / 2) - g / 12) 100) (cutF ((seepF (soX f r wk) s t).2.1 - g / 20) 100) (seepF (soX f r wk) s t).2.2 g h w wk bl := rfl
theorem dayM (f s t g h w r u wk bl : Int32) : mdayF f s t g h w r u wk bl = dtM (cutF ((mseep (soM f r wk) s).1 + -((if wk &&& 1 ≤ 0 then u else u / 2) + g / 12)) 100) (cutF ((mseep (mseep (soM f r wk) s).2 t).1 + -(g / 20)) 100) (cutF ((mseep (mseep (soM f r wk) s).2 t).2 + -((mseep (mseep (soM f r wk) s).2 t).2 / 10)) 100) g h w wk bl := rfl
theorem day_eq {f s t g h w r u wk bl : Int32} (hf : rB f 0 100) (hr : rB r 0 100) (hw : rB wk 0 31) : dayF f s t g h w r u wk bl = mdayF f s t g h w r u wk bl := by
  obtain ⟨e1, e2, e4, e8, e16⟩ := and_le hw
  have a1 : (if (if wk &&& 1 = 0 then (0 : Int32) else 1) = 0 then r else 0) = (if wk &&& 1 ≤ 0 then r else 0) := by
    by_cases h1 : wk &&& 1 = 0
    · simp [h1]
    · simp [h1, e1]
  have a2 : (if (if wk &&& 1 = 0 then (0 : Int32) else 1) = 0 then u else u / 2) = (if wk &&& 1 ≤ 0 then u else u / 2) := by
    by_cases h1 : wk &&& 1 = 0
    · simp [h1]
    · simp [h1, e1]
  have hr5 : rB (if wk &&& 1 ≤ 0 then r else 0) 0 100 := by
    split
    · exact hr
    · exact ⟨by decide, by decide⟩
  have a3 : soakF f (if wk &&& 1 ≤ 0 then r else 0) (if wk &&& 8 = 0 then 0 else 1) = (if wk &&& 8 ≤ 0 then cutF (f + (if wk &&& 1 ≤ 0 then r else 0)) 100 else cutF (cutF (f + (if wk &&& 1 ≤ 0 then r else 0)) 100 + 8) 100) := by
    rw [soak_eq hf hr5]
    unfold soakF
    generalize (if wk &&& 1 ≤ 0 then r else 0) = r9
    by_cases h1 : wk &&& 8 = 0
    · rw [if_pos h1, if_pos rfl, if_pos (e8.mpr h1), Int32.add_zero]
    · rw [if_neg h1, if_neg (by decide), if_neg (fun h2 => h1 (e8.mp h2))]
  have a5 : (if (if wk &&& 2 = 0 then (0 : Int32) else 1) = 0 then (0 : Nat) else 1) = if wk &&& 2 ≤ 0 then 0 else 1 := by
    by_cases h1 : wk &&& 2 = 0
    · simp [h1]
    · simp [h1, e2]
  have a6 : ∀ A B : Int32, (if (if wk &&& 2 = 0 then (0 : Int32) else 1) = 0 then A else B) = if wk &&& 2 ≤ 0 then A else B := by
    intro A B
    by_cases h1 : wk &&& 2 = 0
    · simp [h1]
    · simp [h1, e2]
  have a7 : ∀ A B : Int32, (if wk &&& 4 = 0 then A else B) = if wk &&& 4 ≤ 0 then A else B := fun A B => by
    by_cases h1 : wk &&& 4 = 0
    · rw [if_pos h1, if_pos (e4.mpr h1)]
    · rw [if_neg h1, if_neg (fun h2 => h1 (e4.mp h2))]
  have a8 : ∀ A B : Int32, (if wk &&& 16 = 0 then A else B) = if wk &&& 16 ≤ 0 then A else B := fun A B => by
    by_cases h1 : wk &&& 16 = 0
    · rw [if_pos h1, if_pos (e16.mpr h1)]
    · rw [if_neg h1, if_neg (fun h2 => h1 (e16.mp h2))]
  have a9 : ∀ a b c : Int32, a - b - c = a + -(b + c) := fun a b c => by rw [Int32.sub_eq_add_neg, Int32.sub_eq_add_neg, Int32.neg_add, Int32.add_assoc, ← Int32.sub_eq_add_neg (-b)]
  have hso : soX f r wk = soM f r wk := by
    unfold soX soM
    rw [a1, a3]
  have hdt : ∀ f9 s9 t9 : Int32, dtX f9 s9 t9 g h w wk bl = dtM f9 s9 t9 g h w wk bl := by
    intro f9 s9 t9
    unfold dtX dtM
    simp only [hard_eq, grow_eq, a6, a7, a8, cut_comm _ 6, Int32.sub_eq_add_neg _ (bl / 200), Int32.sub_eq_add_neg w 3]
  rw [dayX, dayM, hso, a2, hdt]
  unfold seepF
  rw [seep_eq, seep_eq, a9, Int32.sub_eq_add_neg _ (g / 20), Int32.sub_eq_add_neg _ ((mseep (mseep (soM f r wk) s).2 t).2 / 10)]
theorem dtX_rB {f s t g h w wk bl : Int32} (hg : rB g 0 60) : rB (dtX f s t g h w wk bl).2.2.2.1 0 60 ∧ rB (dtX f s t g h w wk bl).2.2.2.2.1 0 100 ∧ rB (dtX f s t g h w wk bl).2.2.2.2.2 0 100 := by
  have z : ∀ x, rB (cutF x 100) 0 100 := fun x => cut_rB x 100 (by decide)
  have z6 : ∀ x, rB (cutF x 60) 0 60 := fun x => cut_rB x 60 (by decide)
  have hgr : rB (growF s g w) 0 60 := by
    unfold growF
    split
    · split
      · split
        · exact z6 _
        · exact z6 _
      · exact z6 _
    · exact hg
  refine ⟨?_, z _, z _⟩
  unfold dtX
  generalize growF s g w = g9 at hgr
  by_cases h1 : wk &&& 4 = 0
  · simp only [h1, if_true]
    exact hgr
  · simp only [h1, if_false]
    by_cases h2 : 6 < g9
    · simp only [h2, if_true]
      exact ⟨by decide, by decide⟩
    · simp only [h2, if_false]
      exact hgr
theorem day_rB {f s t g h w r u wk bl : Int32} (hg : rB g 0 60) : rB (dayF f s t g h w r u wk bl).1 0 100 ∧ rB (dayF f s t g h w r u wk bl).2.1 0 100 ∧ rB (dayF f s t g h w r u wk bl).2.2.1 0 100 ∧ rB (dayF f s t g h w r u wk bl).2.2.2.1 0 60 ∧ rB (dayF f s t g h w r u wk bl).2.2.2.2.1 0 100 ∧ rB (dayF f s t g h w r u wk bl).2.2.2.2.2 0 100 := by
  have z : ∀ x, rB (cutF x 100) 0 100 := fun x => cut_rB x 100 (by decide)
  rw [dayX]
  generalize soX f r wk = f1
  exact ⟨z _, z _, z _, dtX_rB hg⟩
