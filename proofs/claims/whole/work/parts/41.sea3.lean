/-! ===== the best giving: the lists ===== -/
theorem mem_lists {u : Nat} : ∀ n l, l ∈ lists u n ↔ (l.length = n ∧ ∀ x, x ∈ l → x < u) := by
  intro n
  induction n with
  | zero =>
    intro l
    show l ∈ [[]] ↔ _
    rw [List.mem_singleton]
    refine ⟨fun h => by subst h; exact ⟨rfl, fun x hx => by cases hx⟩, fun h => List.eq_nil_of_length_eq_zero h.1⟩
  | succ n ih =>
    intro l
    show l ∈ (List.range u).flatMap (fun s => (lists u n).map (fun f => s :: f)) ↔ _
    rw [List.mem_flatMap]
    refine ⟨fun h => ?_, fun h => ?_⟩
    · obtain ⟨s, hs, h1⟩ := h
      obtain ⟨f, hf, h2⟩ := List.mem_map.mp h1
      have h3 := (ih f).mp hf
      subst h2
      refine ⟨by rw [List.length_cons, h3.1], fun x hx => ?_⟩
      rcases List.mem_cons.mp hx with h4 | h4
      · rw [h4]; exact List.mem_range.mp hs
      · exact h3.2 x h4
    · obtain ⟨h1, h2⟩ := h
      rcases l with _ | ⟨s, f⟩
      · cases h1
      · refine ⟨s, List.mem_range.mpr (h2 s List.mem_cons_self), List.mem_map.mpr ⟨f, (ih f).mpr ⟨?_, fun x hx => h2 x (List.mem_cons_of_mem _ hx)⟩, rfl⟩⟩
        rw [List.length_cons] at h1
        omega
theorem getD_el {l : List Nat} {i : Nat} (hi : i < l.length) : l.getD i 0 = l[i] := by
  rw [List.getD_eq_getElem?_getD, List.getElem?_eq_getElem hi]
  rfl
theorem getD_lt {l : List Nat} {u i : Nat} (h : ∀ x, x ∈ l → x < u) (hi : i < l.length) : l.getD i 0 < u := by
  rw [getD_el hi]
  exact h _ (List.getElem_mem hi)
theorem feas_iff {q : Nat} {D K : Nat → Int32} {re sp : Int32} {l : List Nat} : sFeas q D K re sp l = true ↔ ∀ j, j < q → ∀ i, i < j → l.getD i 0 = l.getD j 0 → sOk D K re sp i j = true := by
  unfold sFeas
  rw [List.all_eq_true]
  refine ⟨fun h j hj i hi he => ?_, fun h j hj => ?_⟩
  · have h1 := List.all_eq_true.mp (h j (List.mem_range.mpr hj)) i (List.mem_range.mpr hi)
    rw [he, beq_self_eq_true] at h1
    exact h1
  · rw [List.all_eq_true]
    intro i hi
    by_cases he : l.getD i 0 = l.getD j 0
    · rw [h j (List.mem_range.mp hj) i (List.mem_range.mp hi) he, Bool.or_true]
    · rw [beq_eq_false_iff_ne.mpr he]
      rfl
theorem rsum {F : Nat → Nat} : ∀ n, ((List.range n).map (fun m => (F m : Int))).sum = ((sumN (fun _ => true) F n : Nat) : Int) := by
  intro n
  induction n with
  | zero => rfl
  | succ n ih =>
    rw [List.range_succ, List.map_append, List.sum_append, ih]
    show _ = ((sumN (fun _ => true) F n + F n : Nat) : Int)
    simp
def wtN (w : Nat → Nat → Int32) (n : Nat) (l : List Nat) : Nat := sumN (fun _ => true) (fun m => (w m (l.getD m 0)).toNatClampNeg) n
def odN (n : Nat) (l : List Nat) : Nat := sumN (fun _ => true) (fun m => (5 - l.getD m 0) * sOrd m) n
theorem sVal_eq {q : Nat} {w : Nat → Nat → Int32} {l : List Nat} (hw : ∀ m, m < q → 0 ≤ (w m (l.getD m 0)).toInt) (hl : ∀ m, m < q → l.getD m 0 ≤ 5) : sVal q w l = ((wtN w q l * 1679616 + odN q l : Nat) : Int) := by
  unfold sVal
  have h1 : ∀ n, n ≤ q → sumN (fun _ => true) (fun m => vN w m (l.getD m 0)) n = wtN w n l * 1679616 + odN n l := by
    intro n
    induction n with
    | zero =>
      intro _
      show 0 = 0 * 1679616 + 0
      rw [Nat.zero_mul]
    | succ n ih =>
      intro hn
      show sumN (fun _ => true) (fun m => vN w m (l.getD m 0)) n + vN w n (l.getD n 0) = (wtN w n l + (w n (l.getD n 0)).toNatClampNeg) * 1679616 + (odN n l + (5 - l.getD n 0) * sOrd n)
      rw [ih (by omega)]
      unfold vN
      rw [Nat.add_mul]
      omega
  rw [← h1 q (Nat.le_refl _), ← rsum]
  congr 1
  refine List.map_congr_left (fun m hm => ?_)
  have hm := List.mem_range.mp hm
  have h2 := hw m hm
  have h3 := hl m hm
  obtain ⟨x, hx1, hx2⟩ := nat_of h2
  have hlt := (w m (l.getD m 0)).toInt_lt
  have h4 : (w m (l.getD m 0)).toNatClampNeg = x := cl_n hx1 (by omega)
  show (w m (l.getD m 0)).toInt * 1679616 + (5 - (l.getD m 0 : Int)) * (sOrd m : Int) = ((vN w m (l.getD m 0) : Nat) : Int)
  unfold vN
  rw [h4, ← hx2]
  obtain ⟨y, hy⟩ : ∃ y, y = l.getD m 0 := ⟨_, rfl⟩
  rw [← hy] at h3 ⊢
  rw [show (5 - (y : Int)) = ((5 - y : Nat) : Int) by omega]
  rw [Int.natCast_add, Int.natCast_mul, Int.natCast_mul]
  rfl
theorem sO_pw {k : Nat} (h : k < 8) : sOrd k = 6 ^ (7 - k) := (show ∀ k, k < 8 → sOrd k = 6 ^ (7 - k) from by decide) k h
/-- the lower part, from a match on -/
def odL : Nat → List Nat → Nat
  | _, [] => 0
  | k, s :: f => (5 - s) * sOrd k + odL (k + 1) f
theorem odL_lt : ∀ (l : List Nat) (k : Nat), k + l.length ≤ 8 → odL k l < 6 ^ (8 - k) := by
  intro l
  induction l with
  | nil => intro k _; exact Nat.pow_pos (by decide)
  | cons s f ih =>
    intro k hk
    rw [List.length_cons] at hk
    have h1 := ih (k + 1) (by omega)
    show (5 - s) * sOrd k + odL (k + 1) f < 6 ^ (8 - k)
    rw [sO_pw (by omega)]
    have h2 : (5 - s) * 6 ^ (7 - k) ≤ 5 * 6 ^ (7 - k) := Nat.mul_le_mul (by omega) (Nat.le_refl _)
    rw [show 8 - (k + 1) = 7 - k by omega] at h1
    rw [show 8 - k = (7 - k) + 1 by omega, Nat.pow_succ]
    omega
theorem odN_shift : ∀ (l : List Nat) (k : Nat), odL k l = sumN (fun _ => true) (fun m => (5 - l.getD m 0) * sOrd (k + m)) l.length := by
  have aux : ∀ (s : Nat) (f : List Nat) (k n : Nat), sumN (fun _ => true) (fun m => (5 - (s :: f).getD m 0) * sOrd (k + m)) (n + 1) = (5 - s) * sOrd k + sumN (fun _ => true) (fun m => (5 - f.getD m 0) * sOrd (k + 1 + m)) n := by
    intro s f k n
    induction n with
    | zero =>
      show 0 + (5 - s) * sOrd (k + 0) = (5 - s) * sOrd k + 0
      rw [Nat.add_zero, Nat.zero_add]
      rfl
    | succ n ih =>
      show sumN (fun _ => true) (fun m => (5 - (s :: f).getD m 0) * sOrd (k + m)) (n + 1) + (5 - f.getD n 0) * sOrd (k + (n + 1)) = (5 - s) * sOrd k + (sumN (fun _ => true) (fun m => (5 - f.getD m 0) * sOrd (k + 1 + m)) n + (5 - f.getD n 0) * sOrd (k + 1 + n))
      rw [ih, show k + (n + 1) = k + 1 + n by omega]
      omega
  intro l
  induction l with
  | nil => intro k; rfl
  | cons s f ih =>
    intro k
    show (5 - s) * sOrd k + odL (k + 1) f = _
    rw [ih, List.length_cons, aux]
theorem od_eq {l : List Nat} : odN l.length l = odL 0 l := by
  rw [odN_shift]
  unfold odN
  refine sumN_ext _ (fun i _ _ => ?_)
  show _ = (5 - l.getD i 0) * sOrd (0 + i)
  rw [Nat.zero_add]
theorem lists_pw {u : Nat} (hu : u ≤ 6) : ∀ n k, k + n ≤ 8 → (lists u n).Pairwise (fun a b => odL k b < odL k a) := by
  intro n
  induction n with
  | zero => intro k _; exact List.pairwise_singleton _ _
  | succ n ih =>
    intro k hk
    show ((List.range u).flatMap (fun s => (lists u n).map (fun f => s :: f))).Pairwise _
    rw [List.pairwise_flatMap]
    refine ⟨fun s hs => ?_, ?_⟩
    · rw [List.pairwise_map]
      refine (ih (k + 1) (by omega)).imp (fun h => ?_)
      show (5 - s) * sOrd k + _ < (5 - s) * sOrd k + _
      omega
    · have hr : (List.range u).Pairwise (fun a b => a < b) := List.pairwise_lt_range
      have hr2 : (List.range u).Pairwise (fun a b => a < b ∧ b < u) := by
        rw [List.pairwise_iff_forall_sublist] at hr ⊢
        intro a b hab
        exact ⟨hr hab, List.mem_range.mp (hab.mem (by simp))⟩
      refine hr2.imp (fun {s1 s2} h x hx y hy => ?_)
      obtain ⟨f1, hf1, rfl⟩ := List.mem_map.mp hx
      obtain ⟨f2, hf2, rfl⟩ := List.mem_map.mp hy
      have h2 := ((mem_lists n f2).mp hf2).1
      have h3 := odL_lt f2 (k + 1) (by omega)
      rw [show 8 - (k + 1) = 7 - k by omega] at h3
      show (5 - s2) * sOrd k + odL (k + 1) f2 < (5 - s1) * sOrd k + odL (k + 1) f1
      rw [sO_pw (by omega)]
      have h4 : ((5 - s2) + 1) * 6 ^ (7 - k) ≤ (5 - s1) * 6 ^ (7 - k) := Nat.mul_le_mul (by omega) (Nat.le_refl _)
      rw [Nat.add_mul, Nat.one_mul] at h4
      omega
theorem fmax {α : Type} {F : α → Int} : ∀ (l : List α) (a : Int), a ≤ l.foldl (fun a f => max a (F f)) a ∧ (∀ e, e ∈ l → F e ≤ l.foldl (fun a f => max a (F f)) a) ∧ (l.foldl (fun a f => max a (F f)) a = a ∨ ∃ e, e ∈ l ∧ l.foldl (fun a f => max a (F f)) a = F e) := by
  intro l
  induction l with
  | nil => intro a; exact ⟨Int.le_refl _, fun e he => (by cases he), Or.inl rfl⟩
  | cons x l ih =>
    intro a
    obtain ⟨h1, h2, h3⟩ := ih (max a (F x))
    rw [List.foldl_cons]
    refine ⟨by omega, fun e he => ?_, ?_⟩
    · rcases List.mem_cons.mp he with h4 | h4
      · rw [h4]; omega
      · exact h2 e h4
    · rcases h3 with h3 | ⟨e, h3, h4⟩
      · rw [h3]
        rcases Int.le_total a (F x) with h5 | h5
        · exact Or.inr ⟨x, List.mem_cons_self, by omega⟩
        · exact Or.inl (by omega)
      · exact Or.inr ⟨e, List.mem_cons_of_mem _ h3, h4⟩
def oI (v : Option Nat) : Int := match v with
  | none => -1
  | some x => (x : Int)
theorem vsm_all {w : Nat → Nat → Int32} {q : Nat} {f : Nat → Nat} : vsm w q (2 ^ q - 1) f = sumN (fun _ => true) (fun m => vN w m (f m)) q := by
  unfold vsm
  have : ∀ n, n ≤ q → sumN (fun m => (2 ^ q - 1).testBit m) (fun m => vN w m (f m)) n = sumN (fun _ => true) (fun m => vN w m (f m)) n := by
    intro n
    induction n with
    | zero => intro _; rfl
    | succ n ih =>
      intro hn
      show sumN (fun m => (2 ^ q - 1).testBit m) (fun m => vN w m (f m)) n + (if (2 ^ q - 1).testBit n = true then vN w n (f n) else 0) = sumN (fun _ => true) (fun m => vN w m (f m)) n + vN w n (f n)
      rw [ih (by omega), Nat.testBit_two_pow_sub_one, decide_eq_true (show n < q by omega), if_pos rfl]
  exact this q (Nat.le_refl _)
section SB
variable {q u : Nat} {D K : Nat → Int32} {re sp : Int32} {w : Nat → Nat → Int32}
theorem map_getD {f : Nat → Nat} {q m : Nat} (h : m < q) : ((List.range q).map f).getD m 0 = f m := by
  rw [getD_el (by rw [List.length_map, List.length_range]; exact h), List.getElem_map, List.getElem_range]
theorem sum_vN {l : List Nat} : ∀ n, sumN (fun _ => true) (fun m => vN w m (l.getD m 0)) n = wtN w n l * 1679616 + odN n l := by
  intro n
  induction n with
  | zero =>
    show 0 = 0 * 1679616 + 0
    rw [Nat.zero_mul]
  | succ n ih =>
    show sumN (fun _ => true) (fun m => vN w m (l.getD m 0)) n + vN w n (l.getD n 0) = (wtN w n l + (w n (l.getD n 0)).toNatClampNeg) * 1679616 + (odN n l + (5 - l.getD n 0) * sOrd n)
    rw [ih]
    unfold vN
    rw [Nat.add_mul]
    omega
theorem best_eq (hq : q ≤ 8) (hw : ∀ m, m < 8 → ∀ s, s < 8 → 0 ≤ (w m s).toInt) : oI (dpN (fitB q D K re sp) (fun s p => gnN w q s p) (min u 6) (2 ^ q - 1)) = sBest q D K w re sp u := by
  have hpw := pw8 (n := q) hq
  obtain ⟨F1, F2, F3⟩ := fmax (F := sVal q w) ((lists (min u 6) q).filter (sFeas q D K re sp)) (-1)
  have hS : sBest q D K w re sp u = ((lists (min u 6) q).filter (sFeas q D K re sp)).foldl (fun a f => max a (sVal q w f)) (-1) := rfl
  rw [← hS] at F1 F2 F3
  have hsv : ∀ l, l ∈ lists (min u 6) q → sVal q w l = ((sumN (fun _ => true) (fun m => vN w m (l.getD m 0)) q : Nat) : Int) := fun l hl => by
    obtain ⟨h1, h2⟩ := (mem_lists _ _).mp hl
    have h3 : ∀ m, m < q → l.getD m 0 < min u 6 := fun m hm => getD_lt h2 (by omega)
    rw [sum_vN, sVal_eq (fun m hm => hw m (by omega) _ (by have := h3 m hm; omega)) (fun m hm => by have := h3 m hm; omega)]
  have hbit : ∀ m, m < q → (2 ^ q - 1).testBit m = true := fun m hm => by rw [Nat.testBit_two_pow_sub_one, decide_eq_true hm]
  rcases hd : dpN (fitB q D K re sp) (fun s p => gnN w q s p) (min u 6) (2 ^ q - 1) with _ | v
  · show (-1 : Int) = _
    rcases F3 with h | ⟨l, hl, h⟩
    · exact h.symm
    · exfalso
      obtain ⟨h1, h2⟩ := List.mem_filter.mp hl
      obtain ⟨h3, h4⟩ := (mem_lists _ _).mp h1
      obtain ⟨v, hv, -⟩ := dp_up (D := D) (K := K) (re := re) (sp := sp) (w := w) hq (min u 6) (2 ^ q - 1) (fun m => l.getD m 0) (by omega) ⟨fun m hm _ => getD_lt h4 (by omega), fun j hj i hi _ _ he => feas_iff.mp h2 j hj i hi he⟩
      rw [hd] at hv
      cases hv
  · show (v : Int) = _
    obtain ⟨f, h1, h2⟩ := dp_at hq _ _ _ (by omega) hd
    have hl : (List.range q).map f ∈ lists (min u 6) q := (mem_lists _ _).mpr ⟨by rw [List.length_map, List.length_range], fun x hx => by
      obtain ⟨m, hm, rfl⟩ := List.mem_map.mp hx
      exact h1.1 m (List.mem_range.mp hm) (hbit m (List.mem_range.mp hm))⟩
    have hlf : (List.range q).map f ∈ (lists (min u 6) q).filter (sFeas q D K re sp) := List.mem_filter.mpr ⟨hl, feas_iff.mpr (fun j hj i hi he => by
      rw [map_getD (by omega), map_getD hj] at he
      exact h1.2 j hj i hi (hbit i (by omega)) (hbit j hj) he)⟩
    have h3 := F2 _ hlf
    rw [hsv _ hl, sumN_ext (g := fun m => vN w m (f m)) q (fun m hm _ => by rw [map_getD hm]), ← vsm_all, h2] at h3
    rcases F3 with h | ⟨l, hl2, h⟩
    · omega
    · obtain ⟨h5, h6⟩ := List.mem_filter.mp hl2
      obtain ⟨h7, h8⟩ := (mem_lists _ _).mp h5
      obtain ⟨v2, hv2, hle⟩ := dp_up (D := D) (K := K) (re := re) (sp := sp) (w := w) hq (min u 6) (2 ^ q - 1) (fun m => l.getD m 0) (by omega) ⟨fun m hm _ => getD_lt h8 (by omega), fun j hj i hi _ _ he => feas_iff.mp h6 j hj i hi he⟩
      rw [hd] at hv2
      have hvv : v = v2 := Option.some.inj hv2
      rw [vsm_all] at hle
      rw [hsv _ h5] at h
      omega
end SB
/-- what the reference keeps: the first of the best -/
def updM (w : Nat → Nat → Int32) (q : Nat) (S : Option (Nat × List Nat)) (l : List Nat) : Option (Nat × List Nat) := match S with
  | none => some (wtN w q l, l)
  | some x => if x.1 < wtN w q l then some (wtN w q l, l) else some x
def svM (q : Nat) (S : Option (Nat × List Nat)) : Int := match S with
  | none => -1
  | some x => ((x.1 * 1679616 + odN q x.2 : Nat) : Int)
theorem upd_fold {w : Nat → Nat → Int32} {q : Nat} (hq : q ≤ 8) : ∀ (L : List (List Nat)) (S : Option (Nat × List Nat)), (∀ e, e ∈ L → e.length = q ∧ sVal q w e = ((wtN w q e * 1679616 + odN q e : Nat) : Int)) → (∀ x, S = some x → x.2.length = q ∧ ∀ e, e ∈ L → odL 0 e < odL 0 x.2) → L.Pairwise (fun a b => odL 0 b < odL 0 a) → svM q (L.foldl (updM w q) S) = L.foldl (fun a f => max a (sVal q w f)) (svM q S) := by
  intro L
  induction L with
  | nil => intro S _ _ _; rfl
  | cons e L ih =>
    intro S h1 h2 h3
    rw [List.foldl_cons, List.foldl_cons]
    obtain ⟨hel, hev⟩ := h1 e List.mem_cons_self
    have hpe := List.pairwise_cons.mp h3
    have hoe : odN q e < 1679616 := by
      have h4 := odL_lt e 0 (by omega)
      rw [← od_eq, hel] at h4
      exact h4
    have hstep : svM q (updM w q S e) = max (svM q S) (sVal q w e) ∧ (∀ x, updM w q S e = some x → x.2.length = q ∧ ∀ e', e' ∈ L → odL 0 e' < odL 0 x.2) := by
      rcases S with _ | x
      · refine ⟨?_, fun x hx => ?_⟩
        · show ((wtN w q e * 1679616 + odN q e : Nat) : Int) = max (-1) (sVal q w e)
          rw [hev]
          omega
        · cases hx
          exact ⟨hel, hpe.1⟩
      · obtain ⟨hxl, hxo⟩ := h2 x rfl
        have hox : odN q x.2 < 1679616 := by
          have h4 := odL_lt x.2 0 (by omega)
          rw [← od_eq, hxl] at h4
          exact h4
        have hlt := hxo e List.mem_cons_self
        rw [← od_eq, ← od_eq, hel, hxl] at hlt
        by_cases hw : x.1 < wtN w q e
        · have hu : updM w q (some x) e = some (wtN w q e, e) := if_pos hw
          rw [hu, hev]
          refine ⟨?_, fun y hy => ?_⟩
          · show ((wtN w q e * 1679616 + odN q e : Nat) : Int) = max ((x.1 * 1679616 + odN q x.2 : Nat) : Int) _
            have h5 : (x.1 + 1) * 1679616 ≤ wtN w q e * 1679616 := Nat.mul_le_mul (by omega) (Nat.le_refl _)
            rw [Nat.add_mul] at h5
            omega
          · cases hy
            exact ⟨hel, hpe.1⟩
        · have hu : updM w q (some x) e = some x := if_neg hw
          rw [hu, hev]
          refine ⟨?_, fun y hy => ?_⟩
          · show ((x.1 * 1679616 + odN q x.2 : Nat) : Int) = max ((x.1 * 1679616 + odN q x.2 : Nat) : Int) _
            have h5 : wtN w q e * 1679616 ≤ x.1 * 1679616 := Nat.mul_le_mul (by omega) (Nat.le_refl _)
            omega
          · cases hy
            exact ⟨hxl, fun e' he' => hxo e' (List.mem_cons_of_mem _ he')⟩
    rw [ih _ (fun e' he' => h1 e' (List.mem_cons_of_mem _ he')) hstep.2 hpe.2, hstep.1]
theorem ref_eq {q u : Nat} {D K : Nat → Int32} {re sp : Int32} {w : Nat → Nat → Int32} (hq : q ≤ 8) (hw : ∀ m, m < 8 → ∀ s, s < 8 → 0 ≤ (w m s).toInt) : svM q (((lists (min u 6) q).filter (sFeas q D K re sp)).foldl (updM w q) none) = sBest q D K w re sp u := by
  refine upd_fold hq _ none (fun e he => ?_) (fun x hx => by cases hx) ((lists_pw (by omega) q 0 (by omega)).filter _)
  obtain ⟨h1, -⟩ := List.mem_filter.mp he
  obtain ⟨h3, h4⟩ := (mem_lists _ _).mp h1
  have h5 : ∀ m, m < q → e.getD m 0 < min u 6 := fun m hm => getD_lt h4 (by omega)
  exact ⟨h3, sVal_eq (fun m hm => hw m (by omega) _ (by have := h5 m hm; omega)) (fun m hm => by have := h5 m hm; omega)⟩
