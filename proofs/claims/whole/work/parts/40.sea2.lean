/-! ===== the best giving: what the sets say ===== -/
theorem sl_all : ∀ z, z < 256 → slN 256 z z = ((List.range 256).filter (fun p => !(p == 0) && (p &&& z) == p)).reverse := by decide +kernel
theorem sl_mem {z p : Nat} (hz : z < 256) : p ∈ slN 256 z z ↔ (p ≠ 0 ∧ p &&& z = p) := by
  rw [sl_all z hz, List.mem_reverse, List.mem_filter, List.mem_range]
  simp only [Bool.and_eq_true, Bool.not_eq_true', beq_eq_false_iff_ne, beq_iff_eq]
  refine ⟨fun h => h.2, fun h => ⟨?_, h⟩⟩
  have : p &&& z ≤ z := Nat.and_le_right
  omega
theorem sd_bit {z p i : Nat} (hi : i < 32) : (sdN z p).testBit i = (z.testBit i && !p.testBit i) := by
  unfold sdN
  rw [Nat.testBit_and, Nat.testBit_xor, show (4294967295 : Nat) = 2 ^ 32 - 1 from rfl, Nat.testBit_two_pow_sub_one, decide_eq_true hi, Bool.true_xor]
/-- a part of the matches, by a rule -/
def mkN (P : Nat → Bool) : Nat → Nat
  | 0 => 0
  | n + 1 => (if P n = true then 2 ^ n else 0) + mkN P n
theorem mk_lt (P : Nat → Bool) : ∀ n, mkN P n < 2 ^ n := by
  intro n
  induction n with
  | zero => exact Nat.one_pos
  | succ n ih =>
    show (if P n = true then 2 ^ n else 0) + mkN P n < 2 ^ (n + 1)
    rw [Nat.pow_succ]
    split <;> omega
theorem mk_bit (P : Nat → Bool) : ∀ n i, (mkN P n).testBit i = (decide (i < n) && P i) := by
  intro n
  induction n with
  | zero =>
    intro i
    show (0 : Nat).testBit i = _
    rw [Nat.zero_testBit]
    rfl
  | succ n ih =>
    intro i
    have hl := mk_lt P n
    show ((if P n = true then 2 ^ n else 0) + mkN P n).testBit i = _
    by_cases hP : P n = true
    · rw [if_pos hP]
      rcases Nat.lt_trichotomy i n with h | h | h
      · rw [Nat.testBit_two_pow_add_gt h, ih, decide_eq_true h, decide_eq_true (show i < n + 1 by omega)]
      · subst h
        rw [Nat.testBit_two_pow_add_eq, Nat.testBit_lt_two_pow hl, decide_eq_true (show i < i + 1 by omega), hP]
        rfl
      · rw [decide_eq_false (show ¬ i < n + 1 by omega), Bool.false_and]
        refine Nat.testBit_lt_two_pow (Nat.lt_of_lt_of_le (m := 2 ^ (n + 1)) ?_ (Nat.pow_le_pow_right (by decide) (by omega)))
        rw [Nat.pow_succ]
        omega
    · rw [if_neg hP, Nat.zero_add, ih]
      rcases Nat.lt_trichotomy i n with h | h | h
      · rw [decide_eq_true h, decide_eq_true (show i < n + 1 by omega)]
      · subst h
        rw [decide_eq_false (Nat.lt_irrefl _), Bool.eq_false_iff.mpr hP, Bool.and_false, Bool.and_false]
      · rw [decide_eq_false (show ¬ i < n by omega), decide_eq_false (show ¬ i < n + 1 by omega)]
theorem bits_zero {z n : Nat} (hz : z < 2 ^ n) (h : ∀ i, i < n → z.testBit i = false) : z = 0 := by
  refine Nat.eq_of_testBit_eq (fun i => ?_)
  rw [Nat.zero_testBit]
  rcases Nat.lt_or_ge i n with h1 | h1
  · exact h i h1
  · exact Nat.testBit_lt_two_pow (Nat.lt_of_lt_of_le hz (Nat.pow_le_pow_right (by decide) h1))
theorem sumN_split {P P1 P2 : Nat → Bool} {f : Nat → Nat} : ∀ n, (∀ i, i < n → P i = (P1 i || P2 i) ∧ (P1 i && P2 i) = false) → sumN P f n = sumN P1 f n + sumN P2 f n := by
  intro n
  induction n with
  | zero => intro _; rfl
  | succ n ih =>
    intro h
    have h1 := ih (fun i hi => h i (by omega))
    obtain ⟨h2, h3⟩ := h n (by omega)
    show sumN P f n + _ = sumN P1 f n + _ + (sumN P2 f n + _)
    rw [h1, h2]
    cases e1 : P1 n <;> cases e2 : P2 n
    · simp
    · simp; omega
    · simp; omega
    · rw [e1, e2] at h3; cases h3
theorem sumN_ext {P : Nat → Bool} {f g : Nat → Nat} : ∀ n, (∀ i, i < n → P i = true → f i = g i) → sumN P f n = sumN P g n := by
  intro n
  induction n with
  | zero => intro _; rfl
  | succ n ih =>
    intro h
    have h1 := ih (fun i hi => h i (by omega))
    show sumN P f n + _ = sumN P g n + _
    rw [h1]
    by_cases hb : P n = true
    · rw [if_pos hb, if_pos hb, h n (by omega) hb]
    · rw [if_neg hb, if_neg hb]
/-- the matches of a set on strips below s, so that all may be -/
def asg (q : Nat) (ok : Nat → Nat → Bool) (s z : Nat) (f : Nat → Nat) : Prop := (∀ m, m < q → z.testBit m = true → f m < s) ∧ (∀ j, j < q → ∀ i, i < j → z.testBit i = true → z.testBit j = true → f i = f j → ok i j = true)
def vsm (w : Nat → Nat → Int32) (q z : Nat) (f : Nat → Nat) : Nat := sumN (fun m => z.testBit m) (fun m => vN w m (f m)) q
theorem allB_iff {f : Nat → Bool} : ∀ n, allB f n = true ↔ ∀ i, i < n → f i = true := by
  intro n
  induction n with
  | zero => exact ⟨fun _ i hi => by omega, fun _ => rfl⟩
  | succ n ih =>
    show (allB f n && f n) = true ↔ _
    rw [Bool.and_eq_true, ih]
    refine ⟨fun h i hi => ?_, fun h => ⟨fun i hi => h i (by omega), h n (by omega)⟩⟩
    rcases Nat.lt_or_ge i n with h1 | h1
    · exact h.1 i h1
    · rw [show i = n by omega]; exact h.2
theorem fit_iff {q : Nat} {D K : Nat → Int32} {re sp : Int32} {z : Nat} : fitB q D K re sp z = true ↔ ∀ j, j < q → ∀ i, i < j → z.testBit i = true → z.testBit j = true → sOk D K re sp i j = true := by
  unfold fitB
  rw [allB_iff]
  refine ⟨fun h j hj i hi h1 h2 => ?_, fun h j hj => (allB_iff j).mpr (fun i hi => ?_)⟩
  · have h3 := (allB_iff j).mp (h j hj) i hi
    rw [h1, h2] at h3
    exact h3
  · show (!(z.testBit i && z.testBit j) || sOk D K re sp i j) = true
    cases h1 : z.testBit i
    · simp
    · cases h2 : z.testBit j
      · simp
      · rw [h j hj i hi h1 h2]; simp
theorem omx_ge {a : Option Nat} {y : Nat} : (∀ x, a = some x → ∃ v, omx a y = some v ∧ x ≤ v) ∧ ∃ v, omx a y = some v ∧ y ≤ v := by
  rcases a with _ | x
  · exact ⟨fun x hx => (by cases hx), y, rfl, Nat.le_refl _⟩
  · refine ⟨fun x' hx => ?_, _, rfl, Nat.le_max_right _ _⟩
    cases hx
    exact ⟨_, rfl, Nat.le_max_left _ _⟩
theorem st_mono {fit : Nat → Bool} {g : Nat → Nat} {V : Nat → Option Nat} {z : Nat} {a : Option Nat} {p x : Nat} (h : a = some x) : ∃ v, stD fit g V z a p = some v ∧ x ≤ v := by
  unfold stD
  by_cases hf : fit p = true
  · rw [if_pos hf]
    rcases V (sdN z p) with _ | v
    · exact ⟨x, h, Nat.le_refl _⟩
    · exact omx_ge.1 x h
  · rw [if_neg hf]
    exact ⟨x, h, Nat.le_refl _⟩
theorem fold_mono {fit : Nat → Bool} {g : Nat → Nat} {V : Nat → Option Nat} {z : Nat} : ∀ (l : List Nat) (a : Option Nat) (x : Nat), a = some x → ∃ v, l.foldl (stD fit g V z) a = some v ∧ x ≤ v := by
  intro l
  induction l with
  | nil => intro a x h; exact ⟨x, h, Nat.le_refl _⟩
  | cons p l ih =>
    intro a x h
    obtain ⟨v, h1, h2⟩ := st_mono (fit := fit) (g := g) (V := V) (z := z) (p := p) h
    obtain ⟨v2, h3, h4⟩ := ih _ v h1
    exact ⟨v2, h3, by omega⟩
theorem fold_hit {fit : Nat → Bool} {g : Nat → Nat} {V : Nat → Option Nat} {z p y : Nat} (hf : fit p = true) (hV : V (sdN z p) = some y) : ∀ (l : List Nat) (a : Option Nat), p ∈ l → ∃ v, l.foldl (stD fit g V z) a = some v ∧ y + g p ≤ v := by
  intro l
  induction l with
  | nil => intro a h; cases h
  | cons p' l ih =>
    intro a h
    rcases List.mem_cons.mp h with h1 | h1
    · subst h1
      have e : stD fit g V z a p = omx a (y + g p) := by
        unfold stD
        rw [if_pos hf, hV]
      obtain ⟨v, h2, h3⟩ := (omx_ge (a := a) (y := y + g p)).2
      obtain ⟨v2, h4, h5⟩ := fold_mono (fit := fit) (g := g) (V := V) (z := z) l _ v (e.trans h2)
      exact ⟨v2, h4, by omega⟩
    · exact ih _ h1
theorem fold_at {fit : Nat → Bool} {g : Nat → Nat} {V : Nat → Option Nat} {z : Nat} : ∀ (l : List Nat) (a : Option Nat) (v : Nat), l.foldl (stD fit g V z) a = some v → a = some v ∨ ∃ p y, p ∈ l ∧ fit p = true ∧ V (sdN z p) = some y ∧ v = y + g p := by
  intro l
  induction l with
  | nil => intro a v h; exact Or.inl h
  | cons p l ih =>
    intro a v h
    rcases ih _ v h with h1 | ⟨p', y, h1, h2, h3, h4⟩
    · unfold stD at h1
      by_cases hf : fit p = true
      · rw [if_pos hf] at h1
        rcases hv : V (sdN z p) with _ | y
        · rw [hv] at h1
          exact Or.inl h1
        · rw [hv] at h1
          have h1 : omx a (y + g p) = some v := h1
          rcases a with _ | x
          · have h2 : y + g p = v := Option.some.inj h1
            exact Or.inr ⟨p, y, List.mem_cons_self, hf, hv, h2.symm⟩
          · have h2 : max x (y + g p) = v := Option.some.inj h1
            rcases Nat.le_total x (y + g p) with h3 | h3
            · rw [Nat.max_eq_right h3] at h2
              exact Or.inr ⟨p, y, List.mem_cons_self, hf, hv, h2.symm⟩
            · rw [Nat.max_eq_left h3] at h2
              exact Or.inl (by rw [h2])
      · rw [if_neg hf] at h1
        exact Or.inl h1
    · exact Or.inr ⟨p', y, List.mem_cons_of_mem _ h1, h2, h3, h4⟩
section SD
variable {q : Nat} {D K : Nat → Int32} {re sp : Int32} {w : Nat → Nat → Int32}
theorem dp_up (hq : q ≤ 8) : ∀ s z f, z < 2 ^ q → asg q (sOk D K re sp) s z f → ∃ v, dpN (fitB q D K re sp) (fun s p => gnN w q s p) s z = some v ∧ vsm w q z f ≤ v := by
  have hpw := pw8 (n := q) hq
  intro s
  induction s with
  | zero =>
    intro z f hz ha
    have h0 : z = 0 := bits_zero hz (fun i hi => by
      cases h : z.testBit i
      · rfl
      · exact absurd (ha.1 i hi h) (by omega))
    subst h0
    refine ⟨0, rfl, ?_⟩
    unfold vsm
    have : ∀ n, sumN (fun m => Nat.testBit 0 m) (fun m => vN w m (f m)) n = 0 := by
      intro n
      induction n with
      | zero => rfl
      | succ n ih =>
        show sumN _ _ n + (if Nat.testBit 0 n = true then _ else 0) = 0
        rw [ih, Nat.zero_testBit]
        rfl
    rw [this]
    exact Nat.le_refl _
  | succ s ih =>
    intro z f hz ha
    obtain ⟨p, hp⟩ : ∃ p, p = mkN (fun m => z.testBit m && f m == s) q := ⟨_, rfl⟩
    have hb : ∀ i, i < q → p.testBit i = (z.testBit i && f i == s) := fun i hi => by rw [hp, mk_bit, decide_eq_true hi, Bool.true_and]
    have hb2 : ∀ i, q ≤ i → p.testBit i = false := fun i hi => by rw [hp, mk_bit, decide_eq_false (by omega), Bool.false_and]
    have hpl : p < 2 ^ q := by rw [hp]; exact mk_lt _ _
    have hsub : p &&& z = p := by
      refine Nat.eq_of_testBit_eq (fun i => ?_)
      rw [Nat.testBit_and]
      rcases Nat.lt_or_ge i q with h1 | h1
      · rw [hb i h1]
        cases z.testBit i <;> simp
      · rw [hb2 i h1]; rfl
    have hsdl : sdN z p < 2 ^ q := by have := sd_le (z := z) (p := p); omega
    have hbs : ∀ i, i < q → (sdN z p).testBit i = (z.testBit i && !(f i == s)) := fun i hi => by
      rw [sd_bit (by omega), hb i hi]
      cases z.testBit i <;> simp
    have hrest : asg q (sOk D K re sp) s (sdN z p) f := by
      refine ⟨fun m hm h1 => ?_, fun j hj i hi h1 h2 h3 => ?_⟩
      · rw [hbs m hm, Bool.and_eq_true] at h1
        have h4 := ha.1 m hm h1.1
        have h5 : ¬ f m = s := fun h6 => by rw [h6] at h1; simp at h1
        omega
      · rw [hbs i (by omega), Bool.and_eq_true] at h1
        rw [hbs j hj, Bool.and_eq_true] at h2
        exact ha.2 j hj i hi h1.1 h2.1 h3
    have hfit : fitB q D K re sp p = true := fit_iff.mpr (fun j hj i hi h1 h2 => by
      rw [hb i (by omega), Bool.and_eq_true, beq_iff_eq] at h1
      rw [hb j hj, Bool.and_eq_true, beq_iff_eq] at h2
      exact ha.2 j hj i hi h1.1 h2.1 (by rw [h1.2, h2.2]))
    obtain ⟨y, h1, h2⟩ := ih (sdN z p) f hsdl hrest
    have hsplit : vsm w q z f = vsm w q (sdN z p) f + gnN w q s p := by
      have e : gnN w q s p = sumN (fun m => p.testBit m) (fun m => vN w m (f m)) q := by
        refine sumN_ext q (fun i hi hbn => ?_)
        have h5 := hb i hi
        have hbn : p.testBit i = true := hbn
        rw [hbn] at h5
        have h6 := h5.symm
        rw [Bool.and_eq_true, beq_iff_eq] at h6
        rw [h6.2]
      rw [e]
      refine sumN_split q (fun i hi => ?_)
      rw [hbs i hi, hb i hi]
      cases z.testBit i <;> cases (f i == s) <;> simp
    show ∃ v, dpS (fitB q D K re sp) (gnN w q s) (dpN (fitB q D K re sp) (fun s p => gnN w q s p) s) z = some v ∧ vsm w q z f ≤ v
    unfold dpS
    by_cases hp0 : p = 0
    · have hzz : sdN z p = z := by
        refine Nat.eq_of_testBit_eq (fun i => ?_)
        rcases Nat.lt_or_ge i 32 with h5 | h5
        · rw [sd_bit h5, hp0, Nat.zero_testBit]; simp
        · have hz32 : z < 2 ^ i := Nat.lt_of_lt_of_le hz (Nat.pow_le_pow_right (by decide) (by omega))
          rw [Nat.testBit_lt_two_pow (Nat.lt_of_le_of_lt sd_le hz32), Nat.testBit_lt_two_pow hz32]
      rw [hzz] at h1 hsplit
      have hg0 : gnN w q s p = 0 := by omega
      obtain ⟨v, h5, h6⟩ := fold_mono (fit := fitB q D K re sp) (g := gnN w q s) (V := dpN (fitB q D K re sp) (fun s p => gnN w q s p) s) (z := z) (slN 256 z z) _ y h1
      rw [hzz] at h2
      exact ⟨v, h5, by omega⟩
    · obtain ⟨v, h5, h6⟩ := fold_hit (g := gnN w q s) (V := dpN (fitB q D K re sp) (fun s p => gnN w q s p) s) (z := z) (p := p) (y := y) hfit h1 (slN 256 z z) (dpN (fitB q D K re sp) (fun s p => gnN w q s p) s z) ((sl_mem (by omega)).mpr ⟨hp0, hsub⟩)
      exact ⟨v, h5, by omega⟩
theorem dp_at (hq : q ≤ 8) : ∀ s z v, z < 2 ^ q → dpN (fitB q D K re sp) (fun s p => gnN w q s p) s z = some v → ∃ f, asg q (sOk D K re sp) s z f ∧ vsm w q z f = v := by
  have hpw := pw8 (n := q) hq
  intro s
  induction s with
  | zero =>
    intro z v hz h
    have h1 : (if z = 0 then some 0 else none : Option Nat) = some v := h
    by_cases h0 : z = 0
    · rw [if_pos h0] at h1
      have h2 : 0 = v := Option.some.inj h1
      subst h0
      subst h2
      refine ⟨fun _ => 0, ⟨fun m hm hb => ?_, fun j hj i hi hb => ?_⟩, ?_⟩
      · rw [Nat.zero_testBit] at hb; cases hb
      · rw [Nat.zero_testBit] at hb; cases hb
      · have : ∀ n, sumN (fun m => Nat.testBit 0 m) (fun m => vN w m 0) n = 0 := by
          intro n
          induction n with
          | zero => rfl
          | succ n ih =>
            show sumN _ _ n + (if Nat.testBit 0 n = true then _ else 0) = 0
            rw [ih, Nat.zero_testBit]
            rfl
        exact this q
    · rw [if_neg h0] at h1
      cases h1
  | succ s ih =>
    intro z v hz h
    have h1 : (slN 256 z z).foldl (stD (fitB q D K re sp) (gnN w q s) (dpN (fitB q D K re sp) (fun s p => gnN w q s p) s) z) (dpN (fitB q D K re sp) (fun s p => gnN w q s p) s z) = some v := h
    rcases fold_at _ _ _ h1 with h2 | ⟨p, y, h2, h3, h4, h5⟩
    · obtain ⟨f, h6, h7⟩ := ih z v hz h2
      exact ⟨f, ⟨fun m hm hb => Nat.lt_succ_of_lt (h6.1 m hm hb), h6.2⟩, h7⟩
    · obtain ⟨hp0, hsub⟩ := (sl_mem (by omega)).mp h2
      have hsdl : sdN z p < 2 ^ q := by have := sd_le (z := z) (p := p); omega
      obtain ⟨f, h6, h7⟩ := ih (sdN z p) y hsdl h4
      have hpz : ∀ i, p.testBit i = true → z.testBit i = true := fun i hi => by
        have h8 := congrArg (fun x => x.testBit i) hsub
        simp only [Nat.testBit_and, hi, Bool.true_and] at h8
        exact h8
      have hbs : ∀ i, i < q → (sdN z p).testBit i = (z.testBit i && !p.testBit i) := fun i hi => sd_bit (by omega)
      refine ⟨fun m => if p.testBit m = true then s else f m, ⟨fun m hm hb => ?_, fun j hj i hi hbi hbj he => ?_⟩, ?_⟩
      · by_cases h8 : p.testBit m = true
        · simp only [if_pos h8]; omega
        · simp only [if_neg h8]
          exact Nat.lt_succ_of_lt (h6.1 m hm (by rw [hbs m hm, hb, Bool.eq_false_iff.mpr h8]; rfl))
      · by_cases h8 : p.testBit i = true
        · by_cases h9 : p.testBit j = true
          · exact fit_iff.mp h3 j hj i hi h8 h9
          · simp only [if_pos h8, if_neg h9] at he
            have := h6.1 j hj (by rw [hbs j hj, hbj, Bool.eq_false_iff.mpr h9]; rfl)
            omega
        · by_cases h9 : p.testBit j = true
          · simp only [if_neg h8, if_pos h9] at he
            have := h6.1 i (by omega) (by rw [hbs i (by omega), hbi, Bool.eq_false_iff.mpr h8]; rfl)
            omega
          · simp only [if_neg h8, if_neg h9] at he
            exact h6.2 j hj i hi (by rw [hbs i (by omega), hbi, Bool.eq_false_iff.mpr h8]; rfl) (by rw [hbs j hj, hbj, Bool.eq_false_iff.mpr h9]; rfl) he
      · rw [h5, ← h7]
        have e1 : gnN w q s p = sumN (fun m => p.testBit m) (fun m => vN w m (if p.testBit m = true then s else f m)) q := by
          refine sumN_ext q (fun i hi hbn => ?_)
          have hbn : p.testBit i = true := hbn
          rw [if_pos hbn]
        have e2 : vsm w q (sdN z p) f = sumN (fun m => (sdN z p).testBit m) (fun m => vN w m (if p.testBit m = true then s else f m)) q := by
          refine sumN_ext q (fun i hi hbn => ?_)
          have hbn : (sdN z p).testBit i = true := hbn
          rw [hbs i hi, Bool.and_eq_true] at hbn
          have h8 : ¬ p.testBit i = true := fun h9 => by rw [h9] at hbn; simp at hbn
          rw [if_neg h8]
        rw [e1, e2]
        refine sumN_split q (fun i hi => ?_)
        rw [hbs i hi]
        cases hpi : p.testBit i
        · cases z.testBit i <;> simp
        · rw [hpz i hpi]; simp
end SD
