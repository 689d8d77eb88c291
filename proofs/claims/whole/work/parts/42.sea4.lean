/-! ===== the best giving: the reference ===== -/
def exM (w : Nat → Nat → Int32) (q u : Nat) (fe : List Nat → Bool) (n : Nat) (l : List Nat) (S : Option (Nat × List Nat)) : Option (Nat × List Nat) := (((lists u n).map (fun f => l ++ f)).filter fe).foldl (updM w q) S
def exR (w : Nat → Nat → Int32) (q u : Nat) (fe : List Nat → Bool) (n : Nat) (l : List Nat) : Nat → Nat → Option (Nat × List Nat) → Option (Nat × List Nat)
  | 0, _, S => S
  | k + 1, s, S => exR w q u fe n l k (s + 1) (exM w q u fe n (l ++ [s]) S)
def mxw (w : Nat → Nat → Int32) (m : Nat) : Nat → Nat
  | 0 => 0
  | s + 1 => max (mxw w m s) (w m s).toNatClampNeg
def ahd (w : Nat → Nat → Int32) (u q : Nat) : Nat → Nat
  | 0 => 0
  | k + 1 => ahd w u q k + mxw w (q - (k + 1)) u
theorem mxw_ge {w : Nat → Nat → Int32} {m : Nat} : ∀ u s, s < u → (w m s).toNatClampNeg ≤ mxw w m u := by
  intro u
  induction u with
  | zero => intro s h; omega
  | succ u ih =>
    intro s h
    show _ ≤ max (mxw w m u) (w m u).toNatClampNeg
    rcases Nat.lt_or_ge s u with h1 | h1
    · have := ih s h1; omega
    · rw [show s = u by omega]; omega
theorem mxw_le {w : Nat → Nat → Int32} {m : Nat} : ∀ u, (∀ s, s < u → (w m s).toNatClampNeg ≤ 100) → mxw w m u ≤ 100 := by
  intro u
  induction u with
  | zero => intro _; exact Nat.zero_le _
  | succ u ih =>
    intro h
    have h1 := ih (fun s hs => h s (by omega))
    have h2 := h u (by omega)
    show max (mxw w m u) (w m u).toNatClampNeg ≤ 100
    omega
theorem app_lo {l f : List Nat} {i : Nat} (h : i < l.length) : (l ++ f).getD i 0 = l.getD i 0 := by
  rw [getD_el (by rw [List.length_append]; omega), getD_el h, List.getElem_append_left h]
theorem app_at {l f : List Nat} {s : Nat} : (l ++ s :: f).getD l.length 0 = s := by
  rw [getD_el (by rw [List.length_append, List.length_cons]; omega), List.getElem_append_right (Nat.le_refl _)]
  simp
theorem wt_app {w : Nat → Nat → Int32} {l f : List Nat} : ∀ n, n ≤ l.length → wtN w n (l ++ f) = wtN w n l := by
  intro n hn
  refine sumN_ext n (fun i hi _ => ?_)
  rw [app_lo (by omega)]
theorem wt_one {w : Nat → Nat → Int32} {l : List Nat} {s m : Nat} (hm : l.length = m) : wtN w (m + 1) (l ++ [s]) = wtN w m l + (w m s).toNatClampNeg := by
  subst hm
  show wtN w l.length (l ++ [s]) + (w l.length ((l ++ [s]).getD l.length 0)).toNatClampNeg = _
  rw [wt_app _ (Nat.le_refl _), app_at]
theorem wt_bound {w : Nat → Nat → Int32} {u q : Nat} : ∀ (f l : List Nat), l.length + f.length = q → (∀ x, x ∈ f → x < u) → wtN w q (l ++ f) ≤ wtN w l.length l + ahd w u q f.length := by
  intro f
  induction f with
  | nil =>
    intro l h _
    rw [List.append_nil]
    rw [List.length_nil] at h ⊢
    rw [show q = l.length by omega]
    exact Nat.le_add_right _ _
  | cons s f ih =>
    intro l h hx
    rw [List.length_cons] at h
    have h1 := ih (l ++ [s]) (by rw [List.length_append, List.length_singleton]; omega) (fun x hx2 => hx x (List.mem_cons_of_mem _ hx2))
    rw [List.append_assoc, List.singleton_append, List.length_append, List.length_singleton, wt_one rfl] at h1
    have h2 := mxw_ge (w := w) (m := l.length) u s (hx s List.mem_cons_self)
    rw [List.length_cons]
    show _ ≤ wtN w l.length l + (ahd w u q f.length + mxw w (q - (f.length + 1)) u)
    rw [show q - (f.length + 1) = l.length by omega]
    omega
section EX
variable {w : Nat → Nat → Int32} {q u : Nat} {ok : Nat → Nat → Bool} {fe : List Nat → Bool}
theorem ex_zero {l : List Nat} {S : Option (Nat × List Nat)} (h : fe l = true) : exM w q u fe 0 l S = updM w q S l := by
  unfold exM
  show (([l ++ []] : List (List Nat)).filter fe).foldl (updM w q) S = _
  rw [List.append_nil, List.filter_cons_of_pos h]
  rfl
theorem exR_range {n : Nat} {l : List Nat} : ∀ k s (S : Option (Nat × List Nat)), exR w q u fe n l k s S = (List.range' s k).foldl (fun S s => exM w q u fe n (l ++ [s]) S) S := by
  intro k
  induction k with
  | zero => intro s S; rfl
  | succ k ih =>
    intro s S
    rw [List.range'_succ, List.foldl_cons, ← ih]
    rfl
theorem ex_succ {n : Nat} {l : List Nat} {S : Option (Nat × List Nat)} : exM w q u fe (n + 1) l S = exR w q u fe n l u 0 S := by
  rw [exR_range, ← List.range_eq_range']
  unfold exM
  show (((((List.range u).flatMap (fun s => (lists u n).map (fun f => s :: f))).map (fun f => l ++ f)).filter fe).foldl (updM w q) S) = _
  rw [List.map_flatMap, List.filter_flatMap, List.foldl_flatMap]
  congr 1
  funext S s
  rw [List.map_map]
  congr 2
  refine List.map_congr_left (fun f _ => ?_)
  show l ++ s :: f = (l ++ [s]) ++ f
  rw [List.append_assoc]
  rfl
theorem fold_none {L : List (List Nat)} {S : Option (Nat × List Nat)} (h : ∀ e, e ∈ L → updM w q S e = S) : L.foldl (updM w q) S = S := by
  induction L with
  | nil => rfl
  | cons e L ih =>
    rw [List.foldl_cons, h e List.mem_cons_self]
    exact ih (fun e' he' => h e' (List.mem_cons_of_mem _ he'))
theorem ex_skip {n s i m : Nat} {l : List Nat} {S : Option (Nat × List Nat)} (hfe : ∀ e, fe e = true → ∀ j, j < q → ∀ i, i < j → e.getD i 0 = e.getD j 0 → ok i j = true) (hm : l.length = m) (hmq : m < q) (hi : i < m) (he : l.getD i 0 = s) (hno : ok i m = false) : exM w q u fe n (l ++ [s]) S = S := by
  unfold exM
  rw [List.filter_eq_nil_iff.mpr]
  · rfl
  · intro e hme h1
    obtain ⟨f, -, rfl⟩ := List.mem_map.mp hme
    have h2 := hfe _ h1 m hmq i hi (by
      rw [List.append_assoc, List.singleton_append, app_lo (by omega), he]
      subst hm
      exact app_at.symm)
    rw [hno] at h2
    cases h2
theorem ex_prune {n : Nat} {l : List Nat} {x : Nat × List Nat} (h : l.length + n = q) (hp : wtN w l.length l + ahd w u q n ≤ x.1) : exM w q u fe n l (some x) = some x := by
  unfold exM
  refine fold_none (fun e he => ?_)
  obtain ⟨f, hf, rfl⟩ := List.mem_map.mp (List.mem_filter.mp he).1
  obtain ⟨h1, h2⟩ := (mem_lists _ _).mp hf
  have h3 := wt_bound (w := w) (u := u) (q := q) f l (by omega) h2
  rw [h1] at h3
  exact if_neg (by omega)
end EX
theorem ahd_le {w : Nat → Nat → Int32} {u q : Nat} (h : ∀ m, m < q → ∀ s, s < u → (w m s).toNatClampNeg ≤ 100) : ∀ k, k ≤ q → ahd w u q k ≤ 100 * k := by
  intro k
  induction k with
  | zero => intro _; exact Nat.le_refl _
  | succ k ih =>
    intro hk
    have h1 := ih (by omega)
    have h2 := mxw_le (w := w) (m := q - (k + 1)) u (h _ (by omega))
    show ahd w u q k + mxw w (q - (k + 1)) u ≤ _
    omega
theorem wtN_le {w : Nat → Nat → Int32} {l : List Nat} {u q m : Nat} (h : ∀ m, m < q → ∀ s, s < u → (w m s).toNatClampNeg ≤ 100) (hm : m ≤ q) (hl : ∀ k, k < m → l.getD k 0 < u) : wtN w m l ≤ 100 * m := sumN_le (fun k hk => h k (by omega) _ (hl k hk))
theorem dn1 {k : Nat} : Int32.ofNat (k + 1) - 1 = Int32.ofNat k := by
  rw [Int32.ofNat_add k 1]
  show Int32.ofNat k + 1 - 1 = _
  grind
theorem dn2 {k : Nat} : Int32.ofNat k + Int32.ofInt (-1) = Int32.ofNat k - 1 := by
  show Int32.ofNat k + (-1) = _
  grind
theorem dn3 : (Int32.ofNat 0 - 1 : Int32) = -1 := rfl
def moM (S : Option (Nat × List Nat)) : Int32 := match S with
  | none => -1
  | some x => Int32.ofNat x.1
section GV
variable {X : Nat × (Nat → Int32)} {d : Nat} {Q : Option Value → am_M → Prop} {ml : Nat → Nat → Int64} {b : Bool}
theorem c_both {mi : Nat → Nat → Int32} {i j a c ki kj re sp : Nat} (hj : j < 8) (hi : i < 8) (ha : mi 148 j = Int32.ofNat a) (hc : mi 148 i = Int32.ofNat c) (hki : mi 149 i = Int32.ofNat ki) (hkj : mi 149 j = Int32.ofNat kj) (hre : mi 134 22 = Int32.ofNat re) (hsp : mi 134 23 = Int32.ofNat sp) (la : a ≤ 999) (lc : c ≤ 999) (lki : ki ≤ 9) (lkj : kj ≤ 9) (lre : re ≤ 100) (lsp : sp ≤ 100) (hQ : Q (some (.int (bI (sOk (mi 148) (mi 149) (mi 134 22) (mi 134 23) i j)))) (am_shT, mrL b, mi, ml)) : am_wp X d 192 0 [.ref 134, .int (Int32.ofNat (i)), .int (Int32.ofNat (j)), .retAddr 0, .retAddr 0, .retAddr 0] [] (am_shT, mrL b, mi, ml) Q := by
  refine wi_aload_n rfl rfl ?_
  refine wi_getR rfl (kd_134 ..) (rd_134_24 _) ?_
  refine wi_iload_n rfl rfl ?_
  refine wn_iaload (q := i) (v := (Int32.ofNat (c))) rfl (ln_148 ..) rfl (by omega) (by decide) (by decide) (by decide) hc ?_
  refine wi_aload_n rfl rfl ?_
  refine wi_getR rfl (kd_134 ..) (rd_134_24 _) ?_
  refine wi_iload_n rfl rfl ?_
  refine wn_iaload (q := j) (v := (Int32.ofNat (a))) rfl (ln_148 ..) rfl (by omega) (by decide) (by decide) (by decide) ha ?_
  refine wi_icmp_ge rfl (fun g1 => ?_) (fun g1 => ?_)
  · replace g1 := (le_n (a := a) (b := c) rfl rfl (by omega) (by omega)).mp g1
    refine wi_iload_n rfl rfl ?_
    refine wi_istore_n (l' := [.ref 134, .int (Int32.ofNat (i)), .int (Int32.ofNat (j)), .int (Int32.ofNat (j)), .retAddr 0, .retAddr 0]) rfl (Nat.le_of_ble_eq_true rfl) rfl rfl ?_
    refine wi_iload_n rfl rfl ?_
    refine wi_iload_n rfl rfl ?_
    refine wn_iadd (z := (Int32.ofNat (i + j))) rfl (add_n (a := i) (b := j) rfl rfl) ?_
    refine wi_iload_n rfl rfl ?_
    refine wn_isub (z := Int32.ofNat i) rfl (by rw [sub_n (a := i + j) (b := j) rfl rfl (by omega)]; congr 1; omega) ?_
    refine wi_istore (l' := [.ref 134, .int (Int32.ofNat (i)), .int (Int32.ofNat (j)), .int (Int32.ofNat (j)), .int (Int32.ofNat (i)), .retAddr 0]) rfl (Nat.le_of_ble_eq_true rfl) rfl rfl ?_
    refine wi_aload_n rfl rfl ?_
    refine wi_getR rfl (kd_134 ..) (rd_134_24 _) ?_
    refine wi_iload rfl rfl ?_
    refine wn_iaload (q := i) (v := Int32.ofNat c) rfl (ln_148 ..) rfl (by omega) (by decide) (by decide) (by decide) hc ?_
    refine wi_aload_n rfl rfl ?_
    refine wi_getR rfl (kd_134 ..) (rd_134_24 _) ?_
    refine wi_iload_n rfl rfl ?_
    refine wn_iaload (q := j) (v := Int32.ofNat a) rfl (ln_148 ..) rfl (by omega) (by decide) (by decide) (by decide) ha ?_
    refine wn_isub (z := (Int32.ofNat (c - a))) rfl (sub_n (a := c) (b := a) rfl rfl (by omega)) ?_
    refine wi_istore (l' := [.ref 134, .int (Int32.ofNat (i)), .int (Int32.ofNat (j)), .int (Int32.ofNat (j)), .int (Int32.ofNat (i)), .int (Int32.ofNat (c - a))]) rfl (Nat.le_of_ble_eq_true rfl) rfl rfl ?_
    refine wi_iload rfl rfl ?_
    refine wi_aload_n rfl rfl ?_
    refine wi_getIv (v := (Int32.ofNat (re))) rfl (kd_134 ..) hre ?_
    refine wi_icmp_lt rfl (fun g2 => ?_) (fun g2 => ?_)
    · replace g2 := (lt_n (a := c - a) (b := re) rfl rfl (by omega) (by omega)).mp g2
      refine wi_iconst (x := 0) rfl rfl ?_
      refine wi_iret rfl (by decide) ?_
      rw [sok_le ha hc hki hkj hre hsp (by omega) (by omega) (by omega) (by omega) (by omega) (by omega) (by omega)] at hQ
      rw [show (decide (re ≤ c - a) && (decide (ki ≠ 9) || decide (sp < c - a))) = false from by
        simp only [Bool.and_eq_false_iff, Bool.or_eq_false_iff, decide_eq_true_eq, decide_eq_false_iff_not]
        omega] at hQ
      exact hQ
    · replace g2 := (not_congr (lt_n (a := c - a) (b := re) rfl rfl (by omega) (by omega))).mp g2
      refine wi_aload_n rfl rfl ?_
      refine wi_getR rfl (kd_134 ..) (rd_134_25 _) ?_
      refine wi_iload rfl rfl ?_
      refine wn_iaload (q := i) (v := Int32.ofNat ki) rfl (ln_149 ..) rfl (by omega) (by decide) (by decide) (by decide) hki ?_
      refine wi_bipush (x := 9) rfl rfl ?_
      refine wi_icmp_lt rfl (fun g3 => ?_) (fun g3 => ?_)
      · replace g3 := (lt_n (a := ki) (b := 9) rfl (rfl : (9 : Int32) = Int32.ofNat 9) (by omega) (by omega)).mp g3
        refine wi_iconst (x := 1) rfl rfl ?_
        refine wi_goto rfl ?_
        refine wi_iret rfl (by decide) ?_
        rw [sok_le ha hc hki hkj hre hsp (by omega) (by omega) (by omega) (by omega) (by omega) (by omega) (by omega)] at hQ
        rw [show (decide (re ≤ c - a) && (decide (ki ≠ 9) || decide (sp < c - a))) = true from by
          simp only [Bool.and_eq_true, Bool.or_eq_true, decide_eq_true_eq, decide_eq_false_iff_not]
          omega] at hQ
        exact hQ
      · replace g3 := (not_congr (lt_n (a := ki) (b := 9) rfl (rfl : (9 : Int32) = Int32.ofNat 9) (by omega) (by omega))).mp g3
        refine wi_iload rfl rfl ?_
        refine wi_aload_n rfl rfl ?_
        refine wi_getIv (v := (Int32.ofNat (sp))) rfl (kd_134 ..) hsp ?_
        refine wi_icmp_le rfl (fun g4 => ?_) (fun g4 => ?_)
        · replace g4 := (le_n (a := c - a) (b := sp) rfl rfl (by omega) (by omega)).mp g4
          refine wi_iconst (x := 0) rfl rfl ?_
          refine wi_iret rfl (by decide) ?_
          rw [sok_le ha hc hki hkj hre hsp (by omega) (by omega) (by omega) (by omega) (by omega) (by omega) (by omega)] at hQ
          rw [show (decide (re ≤ c - a) && (decide (ki ≠ 9) || decide (sp < c - a))) = false from by
            simp only [Bool.and_eq_false_iff, Bool.or_eq_false_iff, decide_eq_true_eq, decide_eq_false_iff_not]
            omega] at hQ
          exact hQ
        · replace g4 := (not_congr (le_n (a := c - a) (b := sp) rfl rfl (by omega) (by omega))).mp g4
          refine wi_iconst (x := 1) rfl rfl ?_
          refine wi_goto rfl ?_
          refine wi_iret rfl (by decide) ?_
          rw [sok_le ha hc hki hkj hre hsp (by omega) (by omega) (by omega) (by omega) (by omega) (by omega) (by omega)] at hQ
          rw [show (decide (re ≤ c - a) && (decide (ki ≠ 9) || decide (sp < c - a))) = true from by
            simp only [Bool.and_eq_true, Bool.or_eq_true, decide_eq_true_eq, decide_eq_false_iff_not]
            omega] at hQ
          exact hQ
  · replace g1 := (not_congr (le_n (a := a) (b := c) rfl rfl (by omega) (by omega))).mp g1
    refine wi_iload_n rfl rfl ?_
    refine wi_goto rfl ?_
    refine wi_istore_n (l' := [.ref 134, .int (Int32.ofNat (i)), .int (Int32.ofNat (j)), .int (Int32.ofNat (i)), .retAddr 0, .retAddr 0]) rfl (Nat.le_of_ble_eq_true rfl) rfl rfl ?_
    refine wi_iload_n rfl rfl ?_
    refine wi_iload_n rfl rfl ?_
    refine wn_iadd (z := (Int32.ofNat (i + j))) rfl (add_n (a := i) (b := j) rfl rfl) ?_
    refine wi_iload_n rfl rfl ?_
    refine wn_isub (z := Int32.ofNat j) rfl (by rw [sub_n (a := i + j) (b := i) rfl rfl (by omega)]; congr 1; omega) ?_
    refine wi_istore (l' := [.ref 134, .int (Int32.ofNat (i)), .int (Int32.ofNat (j)), .int (Int32.ofNat (i)), .int (Int32.ofNat (j)), .retAddr 0]) rfl (Nat.le_of_ble_eq_true rfl) rfl rfl ?_
    refine wi_aload_n rfl rfl ?_
    refine wi_getR rfl (kd_134 ..) (rd_134_24 _) ?_
    refine wi_iload rfl rfl ?_
    refine wn_iaload (q := j) (v := Int32.ofNat a) rfl (ln_148 ..) rfl (by omega) (by decide) (by decide) (by decide) ha ?_
    refine wi_aload_n rfl rfl ?_
    refine wi_getR rfl (kd_134 ..) (rd_134_24 _) ?_
    refine wi_iload_n rfl rfl ?_
    refine wn_iaload (q := i) (v := Int32.ofNat c) rfl (ln_148 ..) rfl (by omega) (by decide) (by decide) (by decide) hc ?_
    refine wn_isub (z := (Int32.ofNat (a - c))) rfl (sub_n (a := a) (b := c) rfl rfl (by omega)) ?_
    refine wi_istore (l' := [.ref 134, .int (Int32.ofNat (i)), .int (Int32.ofNat (j)), .int (Int32.ofNat (i)), .int (Int32.ofNat (j)), .int (Int32.ofNat (a - c))]) rfl (Nat.le_of_ble_eq_true rfl) rfl rfl ?_
    refine wi_iload rfl rfl ?_
    refine wi_aload_n rfl rfl ?_
    refine wi_getIv (v := (Int32.ofNat (re))) rfl (kd_134 ..) hre ?_
    refine wi_icmp_lt rfl (fun g5 => ?_) (fun g5 => ?_)
    · replace g5 := (lt_n (a := a - c) (b := re) rfl rfl (by omega) (by omega)).mp g5
      refine wi_iconst (x := 0) rfl rfl ?_
      refine wi_iret rfl (by decide) ?_
      rw [sok_gt ha hc hki hkj hre hsp (by omega) (by omega) (by omega) (by omega) (by omega) (by omega) (by omega)] at hQ
      rw [show (decide (re ≤ a - c) && (decide (kj ≠ 9) || decide (sp < a - c))) = false from by
        simp only [Bool.and_eq_false_iff, Bool.or_eq_false_iff, decide_eq_true_eq, decide_eq_false_iff_not]
        omega] at hQ
      exact hQ
    · replace g5 := (not_congr (lt_n (a := a - c) (b := re) rfl rfl (by omega) (by omega))).mp g5
      refine wi_aload_n rfl rfl ?_
      refine wi_getR rfl (kd_134 ..) (rd_134_25 _) ?_
      refine wi_iload rfl rfl ?_
      refine wn_iaload (q := j) (v := Int32.ofNat kj) rfl (ln_149 ..) rfl (by omega) (by decide) (by decide) (by decide) hkj ?_
      refine wi_bipush (x := 9) rfl rfl ?_
      refine wi_icmp_lt rfl (fun g6 => ?_) (fun g6 => ?_)
      · replace g6 := (lt_n (a := kj) (b := 9) rfl (rfl : (9 : Int32) = Int32.ofNat 9) (by omega) (by omega)).mp g6
        refine wi_iconst (x := 1) rfl rfl ?_
        refine wi_goto rfl ?_
        refine wi_iret rfl (by decide) ?_
        rw [sok_gt ha hc hki hkj hre hsp (by omega) (by omega) (by omega) (by omega) (by omega) (by omega) (by omega)] at hQ
        rw [show (decide (re ≤ a - c) && (decide (kj ≠ 9) || decide (sp < a - c))) = true from by
          simp only [Bool.and_eq_true, Bool.or_eq_true, decide_eq_true_eq, decide_eq_false_iff_not]
          omega] at hQ
        exact hQ
      · replace g6 := (not_congr (lt_n (a := kj) (b := 9) rfl (rfl : (9 : Int32) = Int32.ofNat 9) (by omega) (by omega))).mp g6
        refine wi_iload rfl rfl ?_
        refine wi_aload_n rfl rfl ?_
        refine wi_getIv (v := (Int32.ofNat (sp))) rfl (kd_134 ..) hsp ?_
        refine wi_icmp_le rfl (fun g7 => ?_) (fun g7 => ?_)
        · replace g7 := (le_n (a := a - c) (b := sp) rfl rfl (by omega) (by omega)).mp g7
          refine wi_iconst (x := 0) rfl rfl ?_
          refine wi_iret rfl (by decide) ?_
          rw [sok_gt ha hc hki hkj hre hsp (by omega) (by omega) (by omega) (by omega) (by omega) (by omega) (by omega)] at hQ
          rw [show (decide (re ≤ a - c) && (decide (kj ≠ 9) || decide (sp < a - c))) = false from by
            simp only [Bool.and_eq_false_iff, Bool.or_eq_false_iff, decide_eq_true_eq, decide_eq_false_iff_not]
            omega] at hQ
          exact hQ
        · replace g7 := (not_congr (le_n (a := a - c) (b := sp) rfl rfl (by omega) (by omega))).mp g7
          refine wi_iconst (x := 1) rfl rfl ?_
          refine wi_goto rfl ?_
          refine wi_iret rfl (by decide) ?_
          rw [sok_gt ha hc hki hkj hre hsp (by omega) (by omega) (by omega) (by omega) (by omega) (by omega) (by omega)] at hQ
          rw [show (decide (re ≤ a - c) && (decide (kj ≠ 9) || decide (sp < a - c))) = true from by
            simp only [Bool.and_eq_true, Bool.or_eq_true, decide_eq_true_eq, decide_eq_false_iff_not]
            omega] at hQ
          exact hQ
theorem cl_l {mi : Nat → Nat → Int32} {l : List Nat} {q m s re sp : Nat} (hq : q ≤ 8) (hm : m < q) (hs : s < 8) (hDK : ∀ k, k < q → mi 148 k = Int32.ofNat (clN (mi 148) k) ∧ clN (mi 148) k ≤ 999 ∧ mi 149 k = Int32.ofNat (clN (mi 149) k) ∧ clN (mi 149) k ≤ 9) (hre : mi 134 22 = Int32.ofNat re) (hsp : mi 134 23 = Int32.ofNat sp) (lre : re ≤ 100) (lsp : sp ≤ 100) (hl : ∀ k, k < m → mi 151 k = Int32.ofNat (l.getD k 0) ∧ l.getD k 0 < 8) (hQ : Q (some (.int (bI (allB (fun k => !(l.getD k 0 == s) || sOk (mi 148) (mi 149) (mi 134 22) (mi 134 23) k m) m)))) (am_shT, mrL b, mi, ml)) : ∀ r i, i + r = m → allB (fun k => !(l.getD k 0 == s) || sOk (mi 148) (mi 149) (mi 134 22) (mi 134 23) k m) i = true → am_wp X (d + 1) 193 2 [.ref 134, .int (Int32.ofNat (m)), .int (Int32.ofNat (s)), .int (Int32.ofNat (i))] [] (am_shT, mrL b, mi, ml) Q := by
  intro r
  induction r with
  | zero =>
    intro i hi hpre
    refine wi_iload_n rfl rfl ?_
    refine wi_iload_n rfl rfl ?_
    refine wi_icmp_ge rfl (fun _ => ?_) (fun h9 => absurd trivial (by exfalso; have h8 := (not_congr (le_n (a := m) (b := i) rfl rfl (by omega) (by omega))).mp h9; omega))
    refine wi_iconst (x := 1) rfl rfl ?_
    refine wi_iret rfl (by decide) ?_
    obtain rfl : i = m := by omega
    rw [hpre] at hQ
    exact hQ
  | succ r ih =>
    intro i hi hpre
    have di := hDK i (by omega)
    have dm := hDK m hm
    have hb := (hl i (by omega)).2
    refine wi_iload_n rfl rfl ?_
    refine wi_iload_n rfl rfl ?_
    refine wi_icmp_ge rfl (fun h9 => absurd trivial (by exfalso; have h8 := (le_n (a := m) (b := i) rfl rfl (by omega) (by omega)).mp h9; omega)) (fun _ => ?_)
    refine wi_aload_n rfl rfl ?_
    refine wi_getR rfl (kd_134 ..) (rd_134_27 _) ?_
    refine wi_iload_n rfl rfl ?_
    refine wn_iaload (q := i) (v := (Int32.ofNat (l.getD i 0))) rfl (ln_151 ..) rfl (by omega) (by decide) (by decide) (by decide) (hl i (by omega)).1 ?_
    refine wi_iload_n rfl rfl ?_
    refine wi_icmp_ne rfl (fun g1 => ?_) (fun g1 => ?_)
    · replace g1 := (ne_n (a := l.getD i 0) (b := s) rfl rfl (by omega) (by omega)).mp g1
      refine wi_iinc (z := (Int32.ofNat (i + 1))) rfl rfl rfl (add_n (a := i) (b := 1) rfl rfl) rfl ?_
      refine wi_goto rfl ?_
      have e8 : (fun k => !(l.getD k 0 == s) || sOk (mi 148) (mi 149) (mi 134 22) (mi 134 23) k m) i = true := by
        show (!(l.getD i 0 == s) || sOk (mi 148) (mi 149) (mi 134 22) (mi 134 23) i m) = true
        rw [show (l.getD i 0 == s) = false from beq_eq_false_iff_ne.mpr g1]
        rfl
      refine ih (i + 1) (by omega) ?_
      show (allB (fun k => !(l.getD k 0 == s) || sOk (mi 148) (mi 149) (mi 134 22) (mi 134 23) k m) i && (fun k => !(l.getD k 0 == s) || sOk (mi 148) (mi 149) (mi 134 22) (mi 134 23) k m) i) = true
      rw [hpre, e8]
      rfl
    · replace g1 := (not_congr (ne_n (a := l.getD i 0) (b := s) rfl rfl (by omega) (by omega))).mp g1
      refine wi_aload_n rfl rfl ?_
      refine wi_iload_n rfl rfl ?_
      refine wi_iload_n rfl rfl ?_
      refine wi_callV2 rfl (by decide) (by decide) rfl (kd_134 ..) rfl rfl rfl (c_both (by omega) (by omega) dm.1 di.1 di.2.2.1 dm.2.2.1 hre hsp dm.2.1 di.2.1 di.2.2.2 dm.2.2.2 lre lsp ?_)
      refine wi_if_ne rfl (fun g2 => ?_) (fun g2 => ?_)
      · skip
        refine wi_iinc (z := (Int32.ofNat (i + 1))) rfl rfl rfl (add_n (a := i) (b := 1) rfl rfl) rfl ?_
        refine wi_goto rfl ?_
        have e8 : (fun k => !(l.getD k 0 == s) || sOk (mi 148) (mi 149) (mi 134 22) (mi 134 23) k m) i = true := by
          show (!(l.getD i 0 == s) || sOk (mi 148) (mi 149) (mi 134 22) (mi 134 23) i m) = true
          rw [bI_nz g2]
          exact Bool.or_true _
        refine ih (i + 1) (by omega) ?_
        show (allB (fun k => !(l.getD k 0 == s) || sOk (mi 148) (mi 149) (mi 134 22) (mi 134 23) k m) i && (fun k => !(l.getD k 0 == s) || sOk (mi 148) (mi 149) (mi 134 22) (mi 134 23) k m) i) = true
        rw [hpre, e8]
        rfl
      · replace g2 := Classical.not_not.mp g2
        refine wi_iconst (x := 0) rfl rfl ?_
        refine wi_iret rfl (by decide) ?_
        have e8 : (fun k => !(l.getD k 0 == s) || sOk (mi 148) (mi 149) (mi 134 22) (mi 134 23) k m) i = false := by
          show (!(l.getD i 0 == s) || sOk (mi 148) (mi 149) (mi 134 22) (mi 134 23) i m) = false
          rw [bI_z g2, show (l.getD i 0 == s) = true from beq_iff_eq.mpr (by omega)]
          rfl
        rw [allB_f e8 (by omega)] at hQ
        exact hQ
theorem c_canLay {mi : Nat → Nat → Int32} {l : List Nat} {q m s re sp : Nat} (hq : q ≤ 8) (hm : m < q) (hs : s < 8) (hDK : ∀ k, k < q → mi 148 k = Int32.ofNat (clN (mi 148) k) ∧ clN (mi 148) k ≤ 999 ∧ mi 149 k = Int32.ofNat (clN (mi 149) k) ∧ clN (mi 149) k ≤ 9) (hre : mi 134 22 = Int32.ofNat re) (hsp : mi 134 23 = Int32.ofNat sp) (lre : re ≤ 100) (lsp : sp ≤ 100) (hl : ∀ k, k < m → mi 151 k = Int32.ofNat (l.getD k 0) ∧ l.getD k 0 < 8) {z : Int32} (hz : bI (allB (fun k => !(l.getD k 0 == s) || sOk (mi 148) (mi 149) (mi 134 22) (mi 134 23) k m) m) = z) (hQ : Q (some (.int z)) (am_shT, mrL b, mi, ml)) : am_wp X (d + 1) 193 0 [.ref 134, .int (Int32.ofNat (m)), .int (Int32.ofNat (s)), .retAddr 0] [] (am_shT, mrL b, mi, ml) Q := by
  refine wi_iconst (x := 0) rfl rfl ?_
  refine wi_istore_n (l' := [.ref 134, .int (Int32.ofNat (m)), .int (Int32.ofNat (s)), .int (0 : Int32)]) rfl (Nat.le_of_ble_eq_true rfl) rfl rfl ?_
  exact cl_l hq hm hs hDK hre hsp lre lsp hl (by rw [hz]; exact hQ) m 0 (by omega) rfl
theorem ahd_s {w : Nat → Nat → Int32} {u q k : Nat} (h : k < q) : ahd w u q (q - k) = ahd w u q (q - (k + 1)) + mxw w k u := by
  rw [show q - k = (q - (k + 1)) + 1 by omega]
  show ahd w u q (q - (k + 1)) + mxw w (q - (q - (k + 1) + 1)) u = _
  rw [show q - (q - (k + 1) + 1) = k by omega]
theorem gv_mx {mi0 : Nat → Nat → Int32} {w : Nat → Nat → Int32} {q us : Nat} {m : Nat} {mi1 : Nat → Nat → Int32} {v5 : Value} (h21 : mi0 134 21 = Int32.ofNat q) (hq : q ≤ 8) (hus : us ≤ 6) (hw : ∀ m, m < q → ∀ s, s < 8 → mi0 150 (8 * m + s) = Int32.ofNat (w m s).toNatClampNeg ∧ (w m s).toNatClampNeg ≤ 100) (hm : m < q) (he : mi1 150 = mi0 150) (hQ : am_wp X (d + 3) 194 38 [.ref 134, .int (Int32.ofNat (us)), .int (Int32.ofNat (m)), .int (Int32.ofNat (mxw w m (us))), .int (Int32.ofNat (us)), v5] [] (am_shT, mrL b, mi1, ml) Q) : ∀ r s, s + r = us → am_wp X (d + 3) 194 22 [.ref 134, .int (Int32.ofNat (us)), .int (Int32.ofNat (m)), .int (Int32.ofNat (mxw w m (s))), .int (Int32.ofNat (s)), v5] [] (am_shT, mrL b, mi1, ml) Q := by
  intro r
  induction r with
  | zero =>
    intro s hi
    refine wi_iload rfl rfl ?_
    refine wi_iload_n rfl rfl ?_
    refine wi_icmp_ge rfl (fun _ => ?_) (fun h9 => absurd trivial (by exfalso; have h8 := (not_congr (le_n (a := us) (b := s) rfl rfl (by omega) (by omega))).mp h9; omega))
    obtain rfl : s = us := by omega
    exact hQ
  | succ r ih =>
    intro s hi
    have hws := hw m hm s (by omega)
    rw [← he] at hws
    have hmx := mxw_le (w := w) (m := m) s (fun t ht => (hw m hm t (by omega)).2)
    refine wi_iload rfl rfl ?_
    refine wi_iload_n rfl rfl ?_
    refine wi_icmp_ge rfl (fun h9 => absurd trivial (by exfalso; have h8 := (le_n (a := us) (b := s) rfl rfl (by omega) (by omega)).mp h9; omega)) (fun _ => ?_)
    refine wi_iload_n rfl rfl ?_
    refine wi_aload_n rfl rfl ?_
    refine wi_getR rfl (kd_134 ..) (rd_134_26 _) ?_
    refine wi_bipush (x := 8) rfl rfl ?_
    refine wi_iload_n rfl rfl ?_
    refine wn_imul (z := (Int32.ofNat (8 * m))) rfl (mul_n (a := 8) (b := m) (rfl : (8 : Int32) = Int32.ofNat 8) rfl) ?_
    refine wi_iload rfl rfl ?_
    refine wn_iadd (z := (Int32.ofNat (8 * m + s))) rfl (add_n (a := 8 * m) (b := s) rfl rfl) ?_
    refine wn_iaload (q := 8 * m + s) (v := (Int32.ofNat ((w m s).toNatClampNeg))) rfl (ln_150 ..) rfl (by omega) (by decide) (by decide) (by decide) hws.1 ?_
    refine wn_max (z := (Int32.ofNat (max (mxw w m (s)) ((w m s).toNatClampNeg)))) rfl rfl (max_n (a := mxw w m (s)) (b := (w m s).toNatClampNeg) rfl rfl (by omega) (by omega)) ?_
    refine wi_istore_n (l' := [.ref 134, .int (Int32.ofNat (us)), .int (Int32.ofNat (m)), .int (Int32.ofNat (max (mxw w m (s)) ((w m s).toNatClampNeg))), .int (Int32.ofNat (s)), v5]) rfl (Nat.le_of_ble_eq_true rfl) rfl rfl ?_
    refine wi_iinc (z := (Int32.ofNat (s + 1))) rfl rfl rfl (add_n (a := s) (b := 1) rfl rfl) rfl ?_
    refine wi_goto rfl ?_
    exact ih (s + 1) (by omega)
theorem gv_ah {mi0 : Nat → Nat → Int32} {w : Nat → Nat → Int32} {q us : Nat} {v5 : Value} (h21 : mi0 134 21 = Int32.ofNat q) (hq : q ≤ 8) (hus : us ≤ 6) (hw : ∀ m, m < q → ∀ s, s < 8 → mi0 150 (8 * m + s) = Int32.ofNat (w m s).toNatClampNeg ∧ (w m s).toNatClampNeg ≤ 100) (hQ : ∀ mi2, (∀ a, a ≠ 153 → mi2 a = mi0 a) → (∀ m, 0 ≤ m → m ≤ q → mi2 153 m = Int32.ofNat (ahd w us q (q - m))) → ∀ v3 v4 : Value, am_wp X (d + 3) 194 52 [.ref 134, .int (Int32.ofNat (us)), .int (-1 : Int32), v3, v4, v5] [] (am_shT, mrL b, mi2, ml) Q) : ∀ k (mi1 : Nat → Nat → Int32) (v3 v4 : Value), k ≤ q → (∀ a, a ≠ 153 → mi1 a = mi0 a) → (∀ m, k ≤ m → m ≤ q → mi1 153 m = Int32.ofNat (ahd w us q (q - m))) → am_wp X (d + 3) 194 16 [.ref 134, .int (Int32.ofNat (us)), .int (Int32.ofNat k - 1), v3, v4, v5] [] (am_shT, mrL b, mi1, ml) Q := by
  intro k
  induction k with
  | zero =>
    intro mi1 v3 v4 hk he ha
    rw [dn3]
    refine wi_iload_n rfl rfl ?_
    refine wi_if_lt rfl (fun _ => ?_) (fun h9 => absurd (by decide) h9)
    exact hQ mi1 he ha v3 v4
  | succ k ih =>
    intro mi1 v3 v4 hk he ha
    rw [dn1]
    have hb1 := ahd_le (w := w) (u := us) (q := q) (fun m hm s hs => (hw m hm s (by omega)).2) (q - (k + 1)) (by omega)
    have hb2 := mxw_le (w := w) (m := k) us (fun s hs => (hw k (by omega) s (by omega)).2)
    refine wi_iload_n rfl rfl ?_
    refine wi_if_lt rfl (fun h9 => absurd trivial (by exfalso; have h8 := (lt_n (a := k) (b := 0) rfl (rfl : (0 : Int32) = Int32.ofNat 0) (by omega) (by omega)).mp h9; omega)) (fun _ => ?_)
    refine wi_iconst (x := 0) rfl rfl ?_
    refine wi_istore_n (l' := [.ref 134, .int (Int32.ofNat (us)), .int (Int32.ofNat (k)), .int (0 : Int32), v4, v5]) rfl (Nat.le_of_ble_eq_true rfl) rfl rfl ?_
    refine wi_iconst (x := 0) rfl rfl ?_
    refine wi_istore (l' := [.ref 134, .int (Int32.ofNat (us)), .int (Int32.ofNat (k)), .int (0 : Int32), .int (0 : Int32), v5]) rfl (Nat.le_of_ble_eq_true rfl) rfl rfl ?_
    refine gv_mx h21 hq hus hw (m := k) (by omega) (he 150 (by decide)) ?_ us 0 (by omega)
    refine wi_aload_n rfl rfl ?_
    refine wi_getR rfl (kd_134 ..) (rd_134_29 _) ?_
    refine wi_iload_n rfl rfl ?_
    refine wi_aload_n rfl rfl ?_
    refine wi_getR rfl (kd_134 ..) (rd_134_29 _) ?_
    refine wi_iload_n rfl rfl ?_
    refine wi_iconst (x := 1) rfl rfl ?_
    refine wn_iadd (z := (Int32.ofNat (k + 1))) rfl (add_n (a := k) (b := 1) rfl (rfl : (1 : Int32) = Int32.ofNat 1)) ?_
    refine wn_iaload (q := k + 1) (v := (Int32.ofNat (ahd w us q (q - (k + 1))))) rfl (ln_153 ..) rfl (by omega) (by decide) (by decide) (by decide) (ha (k + 1) (Nat.le_refl _) (by omega)) ?_
    refine wi_iload_n rfl rfl ?_
    refine wn_iadd (z := (Int32.ofNat (ahd w us q (q - (k + 1)) + mxw w k us))) rfl (add_n (a := ahd w us q (q - (k + 1))) (b := mxw w k us) rfl rfl) ?_
    refine wn_iastore (q := k) rfl (ln_153 ..) rfl (by omega) (by decide) ?_
    refine wi_iinc (z := Int32.ofNat k - 1) rfl rfl rfl dn2 rfl ?_
    refine wi_goto rfl ?_
    refine ih _ _ _ (by omega) (fun a a1 => (u2_ne a1).trans (he a a1)) (fun m h1 h2 => ?_)
    rcases Nat.lt_or_ge k m with k3 | k3
    · rw [u2_off (by omega)]
      exact ha m (by omega) h2
    · rw [show m = k by omega, u2_same, ahd_s (k := k) (by omega)]
def GI (mi0 : Nat → Nat → Int32) (q m : Nat) (l : List Nat) (S : Option (Nat × List Nat)) (mi1 : Nat → Nat → Int32) : Prop :=
  (∀ a, a ≠ 151 → a ≠ 152 → mi1 a = mi0 a) ∧ (∀ k, k < m → mi1 151 k = Int32.ofNat (l.getD k 0)) ∧ (∀ x, S = some x → (∀ k, k < q → mi1 152 k = Int32.ofNat (x.2.getD k 0)) ∧ x.1 ≤ 800)
theorem GI_u {mi0 mi1 : Nat → Nat → Int32} {q m j : Nat} {l : List Nat} {S : Option (Nat × List Nat)} {v : Int32} (h : GI mi0 q m l S mi1) (hj : m ≤ j) : GI mi0 q m l S (u2 mi1 151 j v) := by
  refine ⟨fun a a1 a2 => (u2_ne a1).trans (h.1 a a1 a2), fun k hk => ?_, fun x hx => ?_⟩
  · rw [u2_off (by omega)]
    exact h.2.1 k hk
  · rw [u2_ne (by decide)]
    exact h.2.2 x hx
theorem gv_cp {q us : Nat} {x2 x3 x4 : Int32} (hq : q ≤ 8) : ∀ r i (mi1 : Nat → Nat → Int32), i + r = q → mi1 134 21 = Int32.ofNat q → (∀ mi2 : Nat → Nat → Int32, (∀ a, a ≠ 152 → mi2 a = mi1 a) → (∀ j, i ≤ j → j < q → mi2 152 j = mi1 151 j) → (∀ j, j < i → mi2 152 j = mi1 152 j) → am_wp X (d + 3) 194 90 [.ref 134, .int (Int32.ofNat (us)), .int x2, .int x3, .int x4, .int (Int32.ofNat (q))] [] (am_shT, mrL b, mi2, ml) Q) → am_wp X (d + 3) 194 76 [.ref 134, .int (Int32.ofNat (us)), .int x2, .int x3, .int x4, .int (Int32.ofNat (i))] [] (am_shT, mrL b, mi1, ml) Q := by
  intro r
  induction r with
  | zero =>
    intro i mi1 hi h21b hQ
    refine wi_iload rfl rfl ?_
    refine wi_aload_n rfl rfl ?_
    refine wi_getIv (v := (Int32.ofNat (q))) rfl (kd_134 ..) h21b ?_
    refine wi_icmp_ge rfl (fun _ => ?_) (fun h9 => absurd trivial (by exfalso; have h8 := (not_congr (le_n (a := q) (b := i) rfl rfl (by omega) (by omega))).mp h9; omega))
    obtain rfl : i = q := by omega
    exact hQ mi1 (fun _ _ => rfl) (fun j h1 h2 => absurd h1 (by omega)) (fun _ _ => rfl)
  | succ r ih =>
    intro i mi1 hi h21b hQ
    refine wi_iload rfl rfl ?_
    refine wi_aload_n rfl rfl ?_
    refine wi_getIv (v := (Int32.ofNat (q))) rfl (kd_134 ..) h21b ?_
    refine wi_icmp_ge rfl (fun h9 => absurd trivial (by exfalso; have h8 := (le_n (a := q) (b := i) rfl rfl (by omega) (by omega)).mp h9; omega)) (fun _ => ?_)
    refine wi_aload_n rfl rfl ?_
    refine wi_getR rfl (kd_134 ..) (rd_134_28 _) ?_
    refine wi_iload rfl rfl ?_
    refine wi_aload_n rfl rfl ?_
    refine wi_getR rfl (kd_134 ..) (rd_134_27 _) ?_
    refine wi_iload rfl rfl ?_
    refine wn_iaload (q := i) (v := (mi1 151 i)) rfl (ln_151 ..) rfl (by omega) (by decide) (by decide) (by decide) rfl ?_
    refine wn_iastore (q := i) rfl (ln_152 ..) rfl (by omega) (by decide) ?_
    refine wi_iinc (z := (Int32.ofNat (i + 1))) rfl rfl rfl (add_n (a := i) (b := 1) rfl rfl) rfl ?_
    refine wi_goto rfl ?_
    refine ih (i + 1) (u2 mi1 152 i (mi1 151 i)) (by omega) h21b (fun mi2 h1 h2 h3 => hQ mi2 (fun a ha => (h1 a ha).trans (u2_ne ha)) (fun j k1 k2 => ?_) (fun j k1 => ?_))
    · rcases Nat.lt_or_ge i j with k3 | k3
      · exact (h2 j (by omega) k2).trans (congrFun (u2_ne (by decide)) j)
      · rw [show j = i by omega, h3 i (by omega), u2_same]
    · rw [h3 j (by omega), u2_off (by omega)]
theorem gv_leaf {mi0 : Nat → Nat → Int32} {w : Nat → Nat → Int32} {q us : Nat} {l : List Nat} {S : Option (Nat × List Nat)} {mi1 : Nat → Nat → Int32} {v5 : Value} (hq : q ≤ 8) (hus : us ≤ 6) (h21b : mi1 134 21 = Int32.ofNat q) (hwt : wtN w q l ≤ 800) (hG : GI mi0 q q l S mi1) (hQ : ∀ mi2, GI mi0 q q l (updM w q S l) mi2 → ∀ v5 : Value, am_wp X (d + 3) 194 63 [.ref 134, .int (Int32.ofNat (us)), .int (moM (updM w q S l)), .int (Int32.ofNat (wtN w q l)), .int (Int32.ofNat q - 1), v5] [] (am_shT, mrL b, mi2, ml) Q) : am_wp X (d + 3) 194 63 [.ref 134, .int (Int32.ofNat (us)), .int (moM S), .int (Int32.ofNat (wtN w q l)), .int (Int32.ofNat (q)), v5] [] (am_shT, mrL b, mi1, ml) Q := by
  rcases S with _ | x
  · show am_wp X (d + 3) 194 63 [.ref 134, .int (Int32.ofNat (us)), .int (-1 : Int32), .int (Int32.ofNat (wtN w q l)), .int (Int32.ofNat (q)), v5] [] (am_shT, mrL b, mi1, ml) Q
    refine wi_iload rfl rfl ?_
    refine wi_if_lt rfl (fun h9 => absurd trivial (by exfalso; have h8 := (lt_n (a := q) (b := 0) rfl (rfl : (0 : Int32) = Int32.ofNat 0) (by omega) (by omega)).mp h9; omega)) (fun _ => ?_)
    refine wi_iload rfl rfl ?_
    refine wi_aload_n rfl rfl ?_
    refine wi_getIv (v := (Int32.ofNat (q))) rfl (kd_134 ..) h21b ?_
    refine wi_icmp_ne rfl (fun h9 => absurd trivial (by exfalso; have h8 := (ne_n (a := q) (b := q) rfl rfl (by omega) (by omega)).mp h9; omega)) (fun _ => ?_)
    refine wi_iload_n rfl rfl ?_
    refine wi_iload_n rfl rfl ?_
    refine wi_icmp_le rfl (fun h9 => absurd h9 (fun h8 => absurd (gtm1 (a := wtN w q l) (by omega)) (Int32.not_lt.mpr h8))) (fun _ => ?_)
    refine wi_iload_n rfl rfl ?_
    refine wi_istore_n (l' := [.ref 134, .int (Int32.ofNat (us)), .int (Int32.ofNat (wtN w q l)), .int (Int32.ofNat (wtN w q l)), .int (Int32.ofNat (q)), v5]) rfl (Nat.le_of_ble_eq_true rfl) rfl rfl ?_
    refine wi_iconst (x := 0) rfl rfl ?_
    refine wi_istore (l' := [.ref 134, .int (Int32.ofNat (us)), .int (Int32.ofNat (wtN w q l)), .int (Int32.ofNat (wtN w q l)), .int (Int32.ofNat (q)), .int (0 : Int32)]) rfl (Nat.le_of_ble_eq_true rfl) rfl rfl ?_
    have hL : updM w q none l = some (wtN w q l, l) := rfl
    refine gv_cp hq q 0 mi1 (by omega) h21b (fun mi2 k1 k2 k3 => ?_)
    refine wi_iinc (z := Int32.ofNat q - 1) rfl rfl rfl dn2 rfl ?_
    refine wi_goto rfl ?_
    have h9 := hQ mi2 (by
      rw [hL]
      refine ⟨fun a a1 a2 => (k1 a a2).trans (hG.1 a a1 a2), fun k hk => ?_, fun y hy => ?_⟩
      · rw [k1 151 (by decide)]
        exact hG.2.1 k hk
      · cases hy
        refine ⟨fun k hk => ?_, by show wtN w q l ≤ 800; omega⟩
        rw [k2 k (by omega) hk]
        exact hG.2.1 k hk)
    rw [hL] at h9
    exact h9 _
  · have hx := (hG.2.2 x rfl).2
    show am_wp X (d + 3) 194 63 [.ref 134, .int (Int32.ofNat (us)), .int (Int32.ofNat (x.1)), .int (Int32.ofNat (wtN w q l)), .int (Int32.ofNat (q)), v5] [] (am_shT, mrL b, mi1, ml) Q
    refine wi_iload rfl rfl ?_
    refine wi_if_lt rfl (fun h9 => absurd trivial (by exfalso; have h8 := (lt_n (a := q) (b := 0) rfl (rfl : (0 : Int32) = Int32.ofNat 0) (by omega) (by omega)).mp h9; omega)) (fun _ => ?_)
    refine wi_iload rfl rfl ?_
    refine wi_aload_n rfl rfl ?_
    refine wi_getIv (v := (Int32.ofNat (q))) rfl (kd_134 ..) h21b ?_
    refine wi_icmp_ne rfl (fun h9 => absurd trivial (by exfalso; have h8 := (ne_n (a := q) (b := q) rfl rfl (by omega) (by omega)).mp h9; omega)) (fun _ => ?_)
    refine wi_iload_n rfl rfl ?_
    refine wi_iload_n rfl rfl ?_
    refine wi_icmp_le rfl (fun g1 => ?_) (fun g1 => ?_)
    · replace g1 := (le_n (a := wtN w q l) (b := x.1) rfl rfl (by omega) (by omega)).mp g1
      refine wi_iinc (z := Int32.ofNat q - 1) rfl rfl rfl dn2 rfl ?_
      refine wi_goto rfl ?_
      have hL : updM w q (some x) l = some x := if_neg (by omega)
      rw [hL] at hQ
      exact hQ mi1 hG _
    · replace g1 := (not_congr (le_n (a := wtN w q l) (b := x.1) rfl rfl (by omega) (by omega))).mp g1
      refine wi_iload_n rfl rfl ?_
      refine wi_istore_n (l' := [.ref 134, .int (Int32.ofNat (us)), .int (Int32.ofNat (wtN w q l)), .int (Int32.ofNat (wtN w q l)), .int (Int32.ofNat (q)), v5]) rfl (Nat.le_of_ble_eq_true rfl) rfl rfl ?_
      refine wi_iconst (x := 0) rfl rfl ?_
      refine wi_istore (l' := [.ref 134, .int (Int32.ofNat (us)), .int (Int32.ofNat (wtN w q l)), .int (Int32.ofNat (wtN w q l)), .int (Int32.ofNat (q)), .int (0 : Int32)]) rfl (Nat.le_of_ble_eq_true rfl) rfl rfl ?_
      have hL : updM w q (some x) l = some (wtN w q l, l) := if_pos (by omega)
      refine gv_cp hq q 0 mi1 (by omega) h21b (fun mi2 k1 k2 k3 => ?_)
      refine wi_iinc (z := Int32.ofNat q - 1) rfl rfl rfl dn2 rfl ?_
      refine wi_goto rfl ?_
      have h9 := hQ mi2 (by
        rw [hL]
        refine ⟨fun a a1 a2 => (k1 a a2).trans (hG.1 a a1 a2), fun k hk => ?_, fun y hy => ?_⟩
        · rw [k1 151 (by decide)]
          exact hG.2.1 k hk
        · cases hy
          refine ⟨fun k hk => ?_, by show wtN w q l ≤ 800; omega⟩
          rw [k2 k (by omega) hk]
          exact hG.2.1 k hk)
      rw [hL] at h9
      exact h9 _
theorem gv_h0 {q us y3 : Nat} {m s : Nat} {x2 : Int32} {l : List Nat} {mi1 : Nat → Nat → Int32} {v5 : Value} (hq : q ≤ 8) (hm : m < q) (h21b : mi1 134 21 = Int32.ofNat q) (hlm : mi1 151 m = -1) (hQ : am_wp X (d + 3) 194 119 [.ref 134, .int (Int32.ofNat (us)), .int x2, .int (Int32.ofNat (y3)), .int (Int32.ofNat (m)), v5] [] (am_shT, mrL b, u2 mi1 151 m 0, ml) Q) : am_wp X (d + 3) 194 63 [.ref 134, .int (Int32.ofNat (us)), .int x2, .int (Int32.ofNat (y3)), .int (Int32.ofNat (m)), v5] [] (am_shT, mrL b, mi1, ml) Q := by
  refine wi_iload rfl rfl ?_
  refine wi_if_lt rfl (fun h9 => absurd trivial (by exfalso; have h8 := (lt_n (a := m) (b := 0) rfl (rfl : (0 : Int32) = Int32.ofNat 0) (by omega) (by omega)).mp h9; omega)) (fun _ => ?_)
  refine wi_iload rfl rfl ?_
  refine wi_aload_n rfl rfl ?_
  refine wi_getIv (v := (Int32.ofNat (q))) rfl (kd_134 ..) h21b ?_
  refine wi_icmp_ne rfl (fun _ => ?_) (fun h9 => absurd trivial (by exfalso; have h8 := (not_congr (ne_n (a := m) (b := q) rfl rfl (by omega) (by omega))).mp h9; omega))
  refine wi_aload_n rfl rfl ?_
  refine wi_getR rfl (kd_134 ..) (rd_134_27 _) ?_
  refine wi_iload rfl rfl ?_
  refine wn_iaload (q := m) (v := (-1 : Int32)) rfl (ln_151 ..) rfl (by omega) (by decide) (by decide) (by decide) hlm ?_
  refine wi_if_lt rfl (fun _ => ?_) (fun h9 => absurd (by decide) h9)
  refine wi_aload_n rfl rfl ?_
  refine wi_getR rfl (kd_134 ..) (rd_134_27 _) ?_
  refine wi_iload rfl rfl ?_
  refine wi_dup2 rfl ⟨rfl, rfl⟩ ?_
  refine wn_iaload (q := m) (v := (-1 : Int32)) rfl (ln_151 ..) rfl (by omega) (by decide) (by decide) (by decide) hlm ?_
  refine wi_iconst (x := 1) rfl rfl ?_
  refine wi_iadd rfl ?_
  rw [show (((-1 : Int32) + (1 : Int32)) : Int32) = (0 : Int32) from by decide]
  refine wn_iastore (q := m) rfl (ln_151 ..) rfl (by omega) (by decide) ?_
  exact hQ
theorem gv_h1 {q us y3 ww : Nat} {m s : Nat} {x2 : Int32} {l : List Nat} {mi1 : Nat → Nat → Int32} {v5 : Value} (hq : q ≤ 8) (hm : m < q) (h21b : mi1 134 21 = Int32.ofNat q) (hs : s < 8) (hlm : mi1 151 m = Int32.ofNat s) (hww : mi1 150 (8 * m + s) = Int32.ofNat ww) (hQ : am_wp X (d + 3) 194 119 [.ref 134, .int (Int32.ofNat (us)), .int x2, .int (Int32.ofNat (y3)), .int (Int32.ofNat (m)), v5] [] (am_shT, mrL b, u2 mi1 151 m (Int32.ofNat (s + 1)), ml) Q) : am_wp X (d + 3) 194 63 [.ref 134, .int (Int32.ofNat (us)), .int x2, .int (Int32.ofNat (y3 + ww)), .int (Int32.ofNat (m)), v5] [] (am_shT, mrL b, mi1, ml) Q := by
  refine wi_iload rfl rfl ?_
  refine wi_if_lt rfl (fun h9 => absurd trivial (by exfalso; have h8 := (lt_n (a := m) (b := 0) rfl (rfl : (0 : Int32) = Int32.ofNat 0) (by omega) (by omega)).mp h9; omega)) (fun _ => ?_)
  refine wi_iload rfl rfl ?_
  refine wi_aload_n rfl rfl ?_
  refine wi_getIv (v := (Int32.ofNat (q))) rfl (kd_134 ..) h21b ?_
  refine wi_icmp_ne rfl (fun _ => ?_) (fun h9 => absurd trivial (by exfalso; have h8 := (not_congr (ne_n (a := m) (b := q) rfl rfl (by omega) (by omega))).mp h9; omega))
  refine wi_aload_n rfl rfl ?_
  refine wi_getR rfl (kd_134 ..) (rd_134_27 _) ?_
  refine wi_iload rfl rfl ?_
  refine wn_iaload (q := m) (v := (Int32.ofNat (s))) rfl (ln_151 ..) rfl (by omega) (by decide) (by decide) (by decide) hlm ?_
  refine wi_if_lt rfl (fun h9 => absurd trivial (by exfalso; have h8 := (lt_n (a := s) (b := 0) rfl (rfl : (0 : Int32) = Int32.ofNat 0) (by omega) (by omega)).mp h9; omega)) (fun _ => ?_)
  refine wi_iload_n rfl rfl ?_
  refine wi_aload_n rfl rfl ?_
  refine wi_getR rfl (kd_134 ..) (rd_134_26 _) ?_
  refine wi_bipush (x := 8) rfl rfl ?_
  refine wi_iload rfl rfl ?_
  refine wn_imul (z := (Int32.ofNat (8 * m))) rfl (mul_n (a := 8) (b := m) (rfl : (8 : Int32) = Int32.ofNat 8) rfl) ?_
  refine wi_aload_n rfl rfl ?_
  refine wi_getR rfl (kd_134 ..) (rd_134_27 _) ?_
  refine wi_iload rfl rfl ?_
  refine wn_iaload (q := m) (v := (Int32.ofNat (s))) rfl (ln_151 ..) rfl (by omega) (by decide) (by decide) (by decide) hlm ?_
  refine wn_iadd (z := (Int32.ofNat (8 * m + s))) rfl (add_n (a := 8 * m) (b := s) rfl rfl) ?_
  refine wn_iaload (q := 8 * m + s) (v := (Int32.ofNat (ww))) rfl (ln_150 ..) rfl (by omega) (by decide) (by decide) (by decide) hww ?_
  refine wn_isub (z := (Int32.ofNat (y3 + ww - ww))) rfl (sub_n (a := y3 + ww) (b := ww) rfl rfl (by omega)) ?_
  refine wi_istore_n (l' := [.ref 134, .int (Int32.ofNat (us)), .int x2, .int (Int32.ofNat (y3 + ww - ww)), .int (Int32.ofNat (m)), v5]) rfl (Nat.le_of_ble_eq_true rfl) rfl rfl ?_
  refine wi_aload_n rfl rfl ?_
  refine wi_getR rfl (kd_134 ..) (rd_134_27 _) ?_
  refine wi_iload rfl rfl ?_
  refine wi_dup2 rfl ⟨rfl, rfl⟩ ?_
  refine wn_iaload (q := m) (v := (Int32.ofNat (s))) rfl (ln_151 ..) rfl (by omega) (by decide) (by decide) (by decide) hlm ?_
  refine wi_iconst (x := 1) rfl rfl ?_
  refine wn_iadd (z := (Int32.ofNat (s + 1))) rfl (add_n (a := s) (b := 1) rfl (rfl : (1 : Int32) = Int32.ofNat 1)) ?_
  refine wn_iastore (q := m) rfl (ln_151 ..) rfl (by omega) (by decide) ?_
  rw [show y3 + ww - ww = y3 by omega]
  exact hQ
theorem gv_end {q us y3 : Nat} {m : Nat} {x2 : Int32} {l : List Nat} {mi1 : Nat → Nat → Int32} {v5 : Value} (hq : q ≤ 8) (hm : m < q) (h21b : mi1 134 21 = Int32.ofNat q) (hus : us ≤ 6) (hlm : mi1 151 m = Int32.ofNat us) (hQ : am_wp X (d + 3) 194 63 [.ref 134, .int (Int32.ofNat (us)), .int x2, .int (Int32.ofNat (y3)), .int (Int32.ofNat m - 1), v5] [] (am_shT, mrL b, u2 mi1 151 m (-1), ml) Q) : am_wp X (d + 3) 194 119 [.ref 134, .int (Int32.ofNat (us)), .int x2, .int (Int32.ofNat (y3)), .int (Int32.ofNat (m)), v5] [] (am_shT, mrL b, mi1, ml) Q := by
  refine wi_aload_n rfl rfl ?_
  refine wi_getR rfl (kd_134 ..) (rd_134_27 _) ?_
  refine wi_iload rfl rfl ?_
  refine wn_iaload (q := m) (v := (Int32.ofNat (us))) rfl (ln_151 ..) rfl (by omega) (by decide) (by decide) (by decide) hlm ?_
  refine wi_iload_n rfl rfl ?_
  refine wi_icmp_ge rfl (fun _ => ?_) (fun h9 => absurd trivial (by exfalso; have h8 := (not_congr (le_n (a := us) (b := us) rfl rfl (by omega) (by omega))).mp h9; omega))
  refine wi_aload_n rfl rfl ?_
  refine wi_getR rfl (kd_134 ..) (rd_134_27 _) ?_
  refine wi_iload rfl rfl ?_
  refine wn_iaload (q := m) (v := (Int32.ofNat (us))) rfl (ln_151 ..) rfl (by omega) (by decide) (by decide) (by decide) hlm ?_
  refine wi_iload_n rfl rfl ?_
  refine wi_icmp_ne rfl (fun h9 => absurd trivial (by exfalso; have h8 := (ne_n (a := us) (b := us) rfl rfl (by omega) (by omega)).mp h9; omega)) (fun _ => ?_)
  refine wi_aload_n rfl rfl ?_
  refine wi_getR rfl (kd_134 ..) (rd_134_27 _) ?_
  refine wi_iload rfl rfl ?_
  refine wi_iconst (x := (-1)) rfl rfl ?_
  refine wn_iastore (q := m) rfl (ln_151 ..) rfl (by omega) (by decide) ?_
  refine wi_iinc (z := Int32.ofNat m - 1) rfl rfl rfl dn2 rfl ?_
  refine wi_goto rfl ?_
  exact hQ
theorem gv_no {q us y3 : Nat} {m s : Nat} {x2 : Int32} {l : List Nat} {mi1 : Nat → Nat → Int32} {v5 : Value} (hq : q ≤ 8) (hm : m < q) (h21b : mi1 134 21 = Int32.ofNat q) {re sp : Nat} (hus : us ≤ 6) (hs : s < us) (hDK : ∀ k, k < q → mi1 148 k = Int32.ofNat (clN (mi1 148) k) ∧ clN (mi1 148) k ≤ 999 ∧ mi1 149 k = Int32.ofNat (clN (mi1 149) k) ∧ clN (mi1 149) k ≤ 9) (hre : mi1 134 22 = Int32.ofNat re) (hsp : mi1 134 23 = Int32.ofNat sp) (lre : re ≤ 100) (lsp : sp ≤ 100) (hl : ∀ k, k < m → mi1 151 k = Int32.ofNat (l.getD k 0) ∧ l.getD k 0 < 8) (hlm : mi1 151 m = Int32.ofNat s) (hcl : bI (allB (fun k => !(l.getD k 0 == s) || sOk (mi1 148) (mi1 149) (mi1 134 22) (mi1 134 23) k m) m) = 0) (hQ : am_wp X (d + 3) 194 119 [.ref 134, .int (Int32.ofNat (us)), .int x2, .int (Int32.ofNat (y3)), .int (Int32.ofNat (m)), v5] [] (am_shT, mrL b, u2 mi1 151 m (Int32.ofNat (s + 1)), ml) Q) : am_wp X (d + 3) 194 119 [.ref 134, .int (Int32.ofNat (us)), .int x2, .int (Int32.ofNat (y3)), .int (Int32.ofNat (m)), v5] [] (am_shT, mrL b, mi1, ml) Q := by
  refine wi_aload_n rfl rfl ?_
  refine wi_getR rfl (kd_134 ..) (rd_134_27 _) ?_
  refine wi_iload rfl rfl ?_
  refine wn_iaload (q := m) (v := (Int32.ofNat (s))) rfl (ln_151 ..) rfl (by omega) (by decide) (by decide) (by decide) hlm ?_
  refine wi_iload_n rfl rfl ?_
  refine wi_icmp_ge rfl (fun h9 => absurd trivial (by exfalso; have h8 := (le_n (a := us) (b := s) rfl rfl (by omega) (by omega)).mp h9; omega)) (fun _ => ?_)
  refine wi_aload_n rfl rfl ?_
  refine wi_iload rfl rfl ?_
  refine wi_aload_n rfl rfl ?_
  refine wi_getR rfl (kd_134 ..) (rd_134_27 _) ?_
  refine wi_iload rfl rfl ?_
  refine wn_iaload (q := m) (v := (Int32.ofNat (s))) rfl (ln_151 ..) rfl (by omega) (by decide) (by decide) (by decide) hlm ?_
  refine wi_callV2 rfl (by decide) (by decide) rfl (kd_134 ..) rfl rfl rfl (c_canLay (l := l) hq hm (by omega) hDK hre hsp lre lsp hl hcl ?_)
  refine wi_if_eq rfl (fun _ => ?_) (fun h9 => absurd (by decide) h9)
  refine wi_aload_n rfl rfl ?_
  refine wi_getR rfl (kd_134 ..) (rd_134_27 _) ?_
  refine wi_iload rfl rfl ?_
  refine wi_dup2 rfl ⟨rfl, rfl⟩ ?_
  refine wn_iaload (q := m) (v := (Int32.ofNat (s))) rfl (ln_151 ..) rfl (by omega) (by decide) (by decide) (by decide) hlm ?_
  refine wi_iconst (x := 1) rfl rfl ?_
  refine wn_iadd (z := (Int32.ofNat (s + 1))) rfl (add_n (a := s) (b := 1) rfl (rfl : (1 : Int32) = Int32.ofNat 1)) ?_
  refine wn_iastore (q := m) rfl (ln_151 ..) rfl (by omega) (by decide) ?_
  refine wi_goto rfl ?_
  exact hQ
theorem gv_pr {q us y3 ww ah : Nat} {m s : Nat} {x2 : Int32} {l : List Nat} {mi1 : Nat → Nat → Int32} {v5 : Value} (hq : q ≤ 8) (hm : m < q) (h21b : mi1 134 21 = Int32.ofNat q) {re sp : Nat} (hus : us ≤ 6) (hs : s < us) (hDK : ∀ k, k < q → mi1 148 k = Int32.ofNat (clN (mi1 148) k) ∧ clN (mi1 148) k ≤ 999 ∧ mi1 149 k = Int32.ofNat (clN (mi1 149) k) ∧ clN (mi1 149) k ≤ 9) (hre : mi1 134 22 = Int32.ofNat re) (hsp : mi1 134 23 = Int32.ofNat sp) (lre : re ≤ 100) (lsp : sp ≤ 100) (hl : ∀ k, k < m → mi1 151 k = Int32.ofNat (l.getD k 0) ∧ l.getD k 0 < 8) (hlm : mi1 151 m = Int32.ofNat s) (hww : mi1 150 (8 * m + s) = Int32.ofNat ww) (hah : mi1 153 (m + 1) = Int32.ofNat ah) (b1 : y3 ≤ 1000) (b2 : ww ≤ 1000) (b3 : ah ≤ 1000) (hcl : bI (allB (fun k => !(l.getD k 0 == s) || sOk (mi1 148) (mi1 149) (mi1 134 22) (mi1 134 23) k m) m) = 1) (hpr : ¬ x2 < Int32.ofNat (y3 + ww + ah)) (hQ : am_wp X (d + 3) 194 119 [.ref 134, .int (Int32.ofNat (us)), .int x2, .int (Int32.ofNat (y3)), .int (Int32.ofNat (m)), v5] [] (am_shT, mrL b, u2 mi1 151 m (Int32.ofNat (s + 1)), ml) Q) : am_wp X (d + 3) 194 119 [.ref 134, .int (Int32.ofNat (us)), .int x2, .int (Int32.ofNat (y3)), .int (Int32.ofNat (m)), v5] [] (am_shT, mrL b, mi1, ml) Q := by
  refine wi_aload_n rfl rfl ?_
  refine wi_getR rfl (kd_134 ..) (rd_134_27 _) ?_
  refine wi_iload rfl rfl ?_
  refine wn_iaload (q := m) (v := (Int32.ofNat (s))) rfl (ln_151 ..) rfl (by omega) (by decide) (by decide) (by decide) hlm ?_
  refine wi_iload_n rfl rfl ?_
  refine wi_icmp_ge rfl (fun h9 => absurd trivial (by exfalso; have h8 := (le_n (a := us) (b := s) rfl rfl (by omega) (by omega)).mp h9; omega)) (fun _ => ?_)
  refine wi_aload_n rfl rfl ?_
  refine wi_iload rfl rfl ?_
  refine wi_aload_n rfl rfl ?_
  refine wi_getR rfl (kd_134 ..) (rd_134_27 _) ?_
  refine wi_iload rfl rfl ?_
  refine wn_iaload (q := m) (v := (Int32.ofNat (s))) rfl (ln_151 ..) rfl (by omega) (by decide) (by decide) (by decide) hlm ?_
  refine wi_callV2 rfl (by decide) (by decide) rfl (kd_134 ..) rfl rfl rfl (c_canLay (l := l) hq hm (by omega) hDK hre hsp lre lsp hl hcl ?_)
  refine wi_if_eq rfl (fun h9 => absurd h9 (by decide)) (fun _ => ?_)
  refine wi_iload_n rfl rfl ?_
  refine wi_aload_n rfl rfl ?_
  refine wi_getR rfl (kd_134 ..) (rd_134_26 _) ?_
  refine wi_bipush (x := 8) rfl rfl ?_
  refine wi_iload rfl rfl ?_
  refine wn_imul (z := (Int32.ofNat (8 * m))) rfl (mul_n (a := 8) (b := m) (rfl : (8 : Int32) = Int32.ofNat 8) rfl) ?_
  refine wi_aload_n rfl rfl ?_
  refine wi_getR rfl (kd_134 ..) (rd_134_27 _) ?_
  refine wi_iload rfl rfl ?_
  refine wn_iaload (q := m) (v := (Int32.ofNat (s))) rfl (ln_151 ..) rfl (by omega) (by decide) (by decide) (by decide) hlm ?_
  refine wn_iadd (z := (Int32.ofNat (8 * m + s))) rfl (add_n (a := 8 * m) (b := s) rfl rfl) ?_
  refine wn_iaload (q := 8 * m + s) (v := (Int32.ofNat (ww))) rfl (ln_150 ..) rfl (by omega) (by decide) (by decide) (by decide) hww ?_
  refine wn_iadd (z := (Int32.ofNat (y3 + ww))) rfl (add_n (a := y3) (b := ww) rfl rfl) ?_
  refine wi_aload_n rfl rfl ?_
  refine wi_getR rfl (kd_134 ..) (rd_134_29 _) ?_
  refine wi_iload rfl rfl ?_
  refine wi_iconst (x := 1) rfl rfl ?_
  refine wn_iadd (z := (Int32.ofNat (m + 1))) rfl (add_n (a := m) (b := 1) rfl (rfl : (1 : Int32) = Int32.ofNat 1)) ?_
  refine wn_iaload (q := m + 1) (v := (Int32.ofNat (ah))) rfl (ln_153 ..) rfl (by omega) (by decide) (by decide) (by decide) hah ?_
  refine wn_iadd (z := (Int32.ofNat (y3 + ww + ah))) rfl (add_n (a := y3 + ww) (b := ah) rfl rfl) ?_
  refine wi_iload_n rfl rfl ?_
  refine wi_icmp_gt rfl (fun h9 => absurd h9 hpr) (fun _ => ?_)
  refine wi_aload_n rfl rfl ?_
  refine wi_getR rfl (kd_134 ..) (rd_134_27 _) ?_
  refine wi_iload rfl rfl ?_
  refine wi_dup2 rfl ⟨rfl, rfl⟩ ?_
  refine wn_iaload (q := m) (v := (Int32.ofNat (s))) rfl (ln_151 ..) rfl (by omega) (by decide) (by decide) (by decide) hlm ?_
  refine wi_iconst (x := 1) rfl rfl ?_
  refine wn_iadd (z := (Int32.ofNat (s + 1))) rfl (add_n (a := s) (b := 1) rfl (rfl : (1 : Int32) = Int32.ofNat 1)) ?_
  refine wn_iastore (q := m) rfl (ln_151 ..) rfl (by omega) (by decide) ?_
  refine wi_goto rfl ?_
  exact hQ
theorem gv_go1 {q us y3 ww ah : Nat} {m s : Nat} {x2 : Int32} {l : List Nat} {mi1 : Nat → Nat → Int32} {v5 : Value} (hq : q ≤ 8) (hm : m < q) (h21b : mi1 134 21 = Int32.ofNat q) {re sp : Nat} (hus : us ≤ 6) (hs : s < us) (hDK : ∀ k, k < q → mi1 148 k = Int32.ofNat (clN (mi1 148) k) ∧ clN (mi1 148) k ≤ 999 ∧ mi1 149 k = Int32.ofNat (clN (mi1 149) k) ∧ clN (mi1 149) k ≤ 9) (hre : mi1 134 22 = Int32.ofNat re) (hsp : mi1 134 23 = Int32.ofNat sp) (lre : re ≤ 100) (lsp : sp ≤ 100) (hl : ∀ k, k < m → mi1 151 k = Int32.ofNat (l.getD k 0) ∧ l.getD k 0 < 8) (hlm : mi1 151 m = Int32.ofNat s) (hww : mi1 150 (8 * m + s) = Int32.ofNat ww) (hah : mi1 153 (m + 1) = Int32.ofNat ah) (b1 : y3 ≤ 1000) (b2 : ww ≤ 1000) (b3 : ah ≤ 1000) (hcl : bI (allB (fun k => !(l.getD k 0 == s) || sOk (mi1 148) (mi1 149) (mi1 134 22) (mi1 134 23) k m) m) = 1) (hgo : x2 < Int32.ofNat (y3 + ww + ah)) (hlast : m + 1 < q) (hQ : am_wp X (d + 3) 194 63 [.ref 134, .int (Int32.ofNat (us)), .int x2, .int (Int32.ofNat (y3 + ww)), .int (Int32.ofNat (m + 1)), v5] [] (am_shT, mrL b, u2 mi1 151 (m + 1) (-1), ml) Q) : am_wp X (d + 3) 194 119 [.ref 134, .int (Int32.ofNat (us)), .int x2, .int (Int32.ofNat (y3)), .int (Int32.ofNat (m)), v5] [] (am_shT, mrL b, mi1, ml) Q := by
  refine wi_aload_n rfl rfl ?_
  refine wi_getR rfl (kd_134 ..) (rd_134_27 _) ?_
  refine wi_iload rfl rfl ?_
  refine wn_iaload (q := m) (v := (Int32.ofNat (s))) rfl (ln_151 ..) rfl (by omega) (by decide) (by decide) (by decide) hlm ?_
  refine wi_iload_n rfl rfl ?_
  refine wi_icmp_ge rfl (fun h9 => absurd trivial (by exfalso; have h8 := (le_n (a := us) (b := s) rfl rfl (by omega) (by omega)).mp h9; omega)) (fun _ => ?_)
  refine wi_aload_n rfl rfl ?_
  refine wi_iload rfl rfl ?_
  refine wi_aload_n rfl rfl ?_
  refine wi_getR rfl (kd_134 ..) (rd_134_27 _) ?_
  refine wi_iload rfl rfl ?_
  refine wn_iaload (q := m) (v := (Int32.ofNat (s))) rfl (ln_151 ..) rfl (by omega) (by decide) (by decide) (by decide) hlm ?_
  refine wi_callV2 rfl (by decide) (by decide) rfl (kd_134 ..) rfl rfl rfl (c_canLay (l := l) hq hm (by omega) hDK hre hsp lre lsp hl hcl ?_)
  refine wi_if_eq rfl (fun h9 => absurd h9 (by decide)) (fun _ => ?_)
  refine wi_iload_n rfl rfl ?_
  refine wi_aload_n rfl rfl ?_
  refine wi_getR rfl (kd_134 ..) (rd_134_26 _) ?_
  refine wi_bipush (x := 8) rfl rfl ?_
  refine wi_iload rfl rfl ?_
  refine wn_imul (z := (Int32.ofNat (8 * m))) rfl (mul_n (a := 8) (b := m) (rfl : (8 : Int32) = Int32.ofNat 8) rfl) ?_
  refine wi_aload_n rfl rfl ?_
  refine wi_getR rfl (kd_134 ..) (rd_134_27 _) ?_
  refine wi_iload rfl rfl ?_
  refine wn_iaload (q := m) (v := (Int32.ofNat (s))) rfl (ln_151 ..) rfl (by omega) (by decide) (by decide) (by decide) hlm ?_
  refine wn_iadd (z := (Int32.ofNat (8 * m + s))) rfl (add_n (a := 8 * m) (b := s) rfl rfl) ?_
  refine wn_iaload (q := 8 * m + s) (v := (Int32.ofNat (ww))) rfl (ln_150 ..) rfl (by omega) (by decide) (by decide) (by decide) hww ?_
  refine wn_iadd (z := (Int32.ofNat (y3 + ww))) rfl (add_n (a := y3) (b := ww) rfl rfl) ?_
  refine wi_aload_n rfl rfl ?_
  refine wi_getR rfl (kd_134 ..) (rd_134_29 _) ?_
  refine wi_iload rfl rfl ?_
  refine wi_iconst (x := 1) rfl rfl ?_
  refine wn_iadd (z := (Int32.ofNat (m + 1))) rfl (add_n (a := m) (b := 1) rfl (rfl : (1 : Int32) = Int32.ofNat 1)) ?_
  refine wn_iaload (q := m + 1) (v := (Int32.ofNat (ah))) rfl (ln_153 ..) rfl (by omega) (by decide) (by decide) (by decide) hah ?_
  refine wn_iadd (z := (Int32.ofNat (y3 + ww + ah))) rfl (add_n (a := y3 + ww) (b := ah) rfl rfl) ?_
  refine wi_iload_n rfl rfl ?_
  refine wi_icmp_gt rfl (fun _ => ?_) (fun h9 => absurd hgo h9)
  refine wi_aload_n rfl rfl ?_
  refine wi_getR rfl (kd_134 ..) (rd_134_27 _) ?_
  refine wi_iload rfl rfl ?_
  refine wn_iaload (q := m) (v := (Int32.ofNat (s))) rfl (ln_151 ..) rfl (by omega) (by decide) (by decide) (by decide) hlm ?_
  refine wi_iload_n rfl rfl ?_
  refine wi_icmp_ne rfl (fun _ => ?_) (fun h9 => absurd trivial (by exfalso; have h8 := (not_congr (ne_n (a := s) (b := us) rfl rfl (by omega) (by omega))).mp h9; omega))
  refine wi_iload_n rfl rfl ?_
  refine wi_aload_n rfl rfl ?_
  refine wi_getR rfl (kd_134 ..) (rd_134_26 _) ?_
  refine wi_bipush (x := 8) rfl rfl ?_
  refine wi_iload rfl rfl ?_
  refine wn_imul (z := (Int32.ofNat (8 * m))) rfl (mul_n (a := 8) (b := m) (rfl : (8 : Int32) = Int32.ofNat 8) rfl) ?_
  refine wi_aload_n rfl rfl ?_
  refine wi_getR rfl (kd_134 ..) (rd_134_27 _) ?_
  refine wi_iload rfl rfl ?_
  refine wn_iaload (q := m) (v := (Int32.ofNat (s))) rfl (ln_151 ..) rfl (by omega) (by decide) (by decide) (by decide) hlm ?_
  refine wn_iadd (z := (Int32.ofNat (8 * m + s))) rfl (add_n (a := 8 * m) (b := s) rfl rfl) ?_
  refine wn_iaload (q := 8 * m + s) (v := (Int32.ofNat (ww))) rfl (ln_150 ..) rfl (by omega) (by decide) (by decide) (by decide) hww ?_
  refine wn_iadd (z := (Int32.ofNat (y3 + ww))) rfl (add_n (a := y3) (b := ww) rfl rfl) ?_
  refine wi_istore_n (l' := [.ref 134, .int (Int32.ofNat (us)), .int x2, .int (Int32.ofNat (y3 + ww)), .int (Int32.ofNat (m)), v5]) rfl (Nat.le_of_ble_eq_true rfl) rfl rfl ?_
  refine wi_iinc (z := (Int32.ofNat (m + 1))) rfl rfl rfl (add_n (a := m) (b := 1) rfl rfl) rfl ?_
  refine wi_iload rfl rfl ?_
  refine wi_aload_n rfl rfl ?_
  refine wi_getIv (v := (Int32.ofNat (q))) rfl (kd_134 ..) h21b ?_
  refine wi_icmp_ge rfl (fun h9 => absurd trivial (by exfalso; have h8 := (le_n (a := q) (b := m + 1) rfl rfl (by omega) (by omega)).mp h9; omega)) (fun _ => ?_)
  refine wi_aload_n rfl rfl ?_
  refine wi_getR rfl (kd_134 ..) (rd_134_27 _) ?_
  refine wi_iload rfl rfl ?_
  refine wi_iconst (x := (-1)) rfl rfl ?_
  refine wn_iastore (q := m + 1) rfl (ln_151 ..) rfl (by omega) (by decide) ?_
  refine wi_goto rfl ?_
  exact hQ
theorem gv_go0 {q us y3 ww ah : Nat} {m s : Nat} {x2 : Int32} {l : List Nat} {mi1 : Nat → Nat → Int32} {v5 : Value} (hq : q ≤ 8) (hm : m < q) (h21b : mi1 134 21 = Int32.ofNat q) {re sp : Nat} (hus : us ≤ 6) (hs : s < us) (hDK : ∀ k, k < q → mi1 148 k = Int32.ofNat (clN (mi1 148) k) ∧ clN (mi1 148) k ≤ 999 ∧ mi1 149 k = Int32.ofNat (clN (mi1 149) k) ∧ clN (mi1 149) k ≤ 9) (hre : mi1 134 22 = Int32.ofNat re) (hsp : mi1 134 23 = Int32.ofNat sp) (lre : re ≤ 100) (lsp : sp ≤ 100) (hl : ∀ k, k < m → mi1 151 k = Int32.ofNat (l.getD k 0) ∧ l.getD k 0 < 8) (hlm : mi1 151 m = Int32.ofNat s) (hww : mi1 150 (8 * m + s) = Int32.ofNat ww) (hah : mi1 153 (m + 1) = Int32.ofNat ah) (b1 : y3 ≤ 1000) (b2 : ww ≤ 1000) (b3 : ah ≤ 1000) (hcl : bI (allB (fun k => !(l.getD k 0 == s) || sOk (mi1 148) (mi1 149) (mi1 134 22) (mi1 134 23) k m) m) = 1) (hgo : x2 < Int32.ofNat (y3 + ww + ah)) (hlast : m + 1 = q) (hQ : am_wp X (d + 3) 194 63 [.ref 134, .int (Int32.ofNat (us)), .int x2, .int (Int32.ofNat (y3 + ww)), .int (Int32.ofNat (m + 1)), v5] [] (am_shT, mrL b, mi1, ml) Q) : am_wp X (d + 3) 194 119 [.ref 134, .int (Int32.ofNat (us)), .int x2, .int (Int32.ofNat (y3)), .int (Int32.ofNat (m)), v5] [] (am_shT, mrL b, mi1, ml) Q := by
  refine wi_aload_n rfl rfl ?_
  refine wi_getR rfl (kd_134 ..) (rd_134_27 _) ?_
  refine wi_iload rfl rfl ?_
  refine wn_iaload (q := m) (v := (Int32.ofNat (s))) rfl (ln_151 ..) rfl (by omega) (by decide) (by decide) (by decide) hlm ?_
  refine wi_iload_n rfl rfl ?_
  refine wi_icmp_ge rfl (fun h9 => absurd trivial (by exfalso; have h8 := (le_n (a := us) (b := s) rfl rfl (by omega) (by omega)).mp h9; omega)) (fun _ => ?_)
  refine wi_aload_n rfl rfl ?_
  refine wi_iload rfl rfl ?_
  refine wi_aload_n rfl rfl ?_
  refine wi_getR rfl (kd_134 ..) (rd_134_27 _) ?_
  refine wi_iload rfl rfl ?_
  refine wn_iaload (q := m) (v := (Int32.ofNat (s))) rfl (ln_151 ..) rfl (by omega) (by decide) (by decide) (by decide) hlm ?_
  refine wi_callV2 rfl (by decide) (by decide) rfl (kd_134 ..) rfl rfl rfl (c_canLay (l := l) hq hm (by omega) hDK hre hsp lre lsp hl hcl ?_)
  refine wi_if_eq rfl (fun h9 => absurd h9 (by decide)) (fun _ => ?_)
  refine wi_iload_n rfl rfl ?_
  refine wi_aload_n rfl rfl ?_
  refine wi_getR rfl (kd_134 ..) (rd_134_26 _) ?_
  refine wi_bipush (x := 8) rfl rfl ?_
  refine wi_iload rfl rfl ?_
  refine wn_imul (z := (Int32.ofNat (8 * m))) rfl (mul_n (a := 8) (b := m) (rfl : (8 : Int32) = Int32.ofNat 8) rfl) ?_
  refine wi_aload_n rfl rfl ?_
  refine wi_getR rfl (kd_134 ..) (rd_134_27 _) ?_
  refine wi_iload rfl rfl ?_
  refine wn_iaload (q := m) (v := (Int32.ofNat (s))) rfl (ln_151 ..) rfl (by omega) (by decide) (by decide) (by decide) hlm ?_
  refine wn_iadd (z := (Int32.ofNat (8 * m + s))) rfl (add_n (a := 8 * m) (b := s) rfl rfl) ?_
  refine wn_iaload (q := 8 * m + s) (v := (Int32.ofNat (ww))) rfl (ln_150 ..) rfl (by omega) (by decide) (by decide) (by decide) hww ?_
  refine wn_iadd (z := (Int32.ofNat (y3 + ww))) rfl (add_n (a := y3) (b := ww) rfl rfl) ?_
  refine wi_aload_n rfl rfl ?_
  refine wi_getR rfl (kd_134 ..) (rd_134_29 _) ?_
  refine wi_iload rfl rfl ?_
  refine wi_iconst (x := 1) rfl rfl ?_
  refine wn_iadd (z := (Int32.ofNat (m + 1))) rfl (add_n (a := m) (b := 1) rfl (rfl : (1 : Int32) = Int32.ofNat 1)) ?_
  refine wn_iaload (q := m + 1) (v := (Int32.ofNat (ah))) rfl (ln_153 ..) rfl (by omega) (by decide) (by decide) (by decide) hah ?_
  refine wn_iadd (z := (Int32.ofNat (y3 + ww + ah))) rfl (add_n (a := y3 + ww) (b := ah) rfl rfl) ?_
  refine wi_iload_n rfl rfl ?_
  refine wi_icmp_gt rfl (fun _ => ?_) (fun h9 => absurd hgo h9)
  refine wi_aload_n rfl rfl ?_
  refine wi_getR rfl (kd_134 ..) (rd_134_27 _) ?_
  refine wi_iload rfl rfl ?_
  refine wn_iaload (q := m) (v := (Int32.ofNat (s))) rfl (ln_151 ..) rfl (by omega) (by decide) (by decide) (by decide) hlm ?_
  refine wi_iload_n rfl rfl ?_
  refine wi_icmp_ne rfl (fun _ => ?_) (fun h9 => absurd trivial (by exfalso; have h8 := (not_congr (ne_n (a := s) (b := us) rfl rfl (by omega) (by omega))).mp h9; omega))
  refine wi_iload_n rfl rfl ?_
  refine wi_aload_n rfl rfl ?_
  refine wi_getR rfl (kd_134 ..) (rd_134_26 _) ?_
  refine wi_bipush (x := 8) rfl rfl ?_
  refine wi_iload rfl rfl ?_
  refine wn_imul (z := (Int32.ofNat (8 * m))) rfl (mul_n (a := 8) (b := m) (rfl : (8 : Int32) = Int32.ofNat 8) rfl) ?_
  refine wi_aload_n rfl rfl ?_
  refine wi_getR rfl (kd_134 ..) (rd_134_27 _) ?_
  refine wi_iload rfl rfl ?_
  refine wn_iaload (q := m) (v := (Int32.ofNat (s))) rfl (ln_151 ..) rfl (by omega) (by decide) (by decide) (by decide) hlm ?_
  refine wn_iadd (z := (Int32.ofNat (8 * m + s))) rfl (add_n (a := 8 * m) (b := s) rfl rfl) ?_
  refine wn_iaload (q := 8 * m + s) (v := (Int32.ofNat (ww))) rfl (ln_150 ..) rfl (by omega) (by decide) (by decide) (by decide) hww ?_
  refine wn_iadd (z := (Int32.ofNat (y3 + ww))) rfl (add_n (a := y3) (b := ww) rfl rfl) ?_
  refine wi_istore_n (l' := [.ref 134, .int (Int32.ofNat (us)), .int x2, .int (Int32.ofNat (y3 + ww)), .int (Int32.ofNat (m)), v5]) rfl (Nat.le_of_ble_eq_true rfl) rfl rfl ?_
  refine wi_iinc (z := (Int32.ofNat (m + 1))) rfl rfl rfl (add_n (a := m) (b := 1) rfl rfl) rfl ?_
  refine wi_iload rfl rfl ?_
  refine wi_aload_n rfl rfl ?_
  refine wi_getIv (v := (Int32.ofNat (q))) rfl (kd_134 ..) h21b ?_
  refine wi_icmp_ge rfl (fun _ => ?_) (fun h9 => absurd trivial (by exfalso; have h8 := (not_congr (le_n (a := q) (b := m + 1) rfl rfl (by omega) (by omega))).mp h9; omega))
  exact hQ
theorem gv_G {mi0 : Nat → Nat → Int32} {w : Nat → Nat → Int32} {q us : Nat} {ok : Nat → Nat → Bool} {fe : List Nat → Bool} {re sp : Nat} (h21 : mi0 134 21 = Int32.ofNat q) (hq : q ≤ 8) (hus : us ≤ 6) (hw : ∀ m, m < q → ∀ s, s < 8 → mi0 150 (8 * m + s) = Int32.ofNat (w m s).toNatClampNeg ∧ (w m s).toNatClampNeg ≤ 100) (hDK : ∀ k, k < q → mi0 148 k = Int32.ofNat (clN (mi0 148) k) ∧ clN (mi0 148) k ≤ 999 ∧ mi0 149 k = Int32.ofNat (clN (mi0 149) k) ∧ clN (mi0 149) k ≤ 9) (hre : mi0 134 22 = Int32.ofNat re) (hsp : mi0 134 23 = Int32.ofNat sp) (lre : re ≤ 100) (lsp : sp ≤ 100) (hah : ∀ m, m ≤ q → mi0 153 m = Int32.ofNat (ahd w us q (q - m))) (hok : ∀ i j, i < j → j < q → sOk (mi0 148) (mi0 149) (mi0 134 22) (mi0 134 23) i j = ok i j)
    (hf1 : ∀ e, fe e = true → ∀ j, j < q → ∀ i, i < j → e.getD i 0 = e.getD j 0 → ok i j = true) (hf2 : ∀ e, (∀ j, j < q → ∀ i, i < j → e.getD i 0 = e.getD j 0 → ok i j = true) → fe e = true) : ∀ n m (l : List Nat) (S : Option (Nat × List Nat)) (mi1 : Nat → Nat → Int32) (v5 : Value) (Q : Option Value → am_M → Prop), l.length = m → m + n = q → (∀ k, k < m → l.getD k 0 < us) → (∀ j, j < m → ∀ i, i < j → l.getD i 0 = l.getD j 0 → ok i j = true) → GI mi0 q m l S mi1 → (0 < n → mi1 151 m = -1) →
    (∀ mi2, GI mi0 q m l (exM w q us fe n l S) mi2 → ∀ v5 : Value, am_wp X (d + 3) 194 63 [.ref 134, .int (Int32.ofNat (us)), .int (moM (exM w q us fe n l S)), .int (Int32.ofNat (wtN w m l)), .int (Int32.ofNat m - 1), v5] [] (am_shT, mrL b, mi2, ml) Q) → am_wp X (d + 3) 194 63 [.ref 134, .int (Int32.ofNat (us)), .int (moM S), .int (Int32.ofNat (wtN w m l)), .int (Int32.ofNat (m)), v5] [] (am_shT, mrL b, mi1, ml) Q := by
  have hw1 : ∀ m, m < q → ∀ s, s < us → (w m s).toNatClampNeg ≤ 100 := fun m hm s hs => (hw m hm s (by omega)).2
  intro n
  induction n with
  | zero =>
    intro m l S mi1 v5 Q hlm hmn hlu hpf hG hn hQ
    obtain rfl : m = q := by omega
    have hwt := wtN_le (w := w) (l := l) hw1 (Nat.le_refl _) hlu
    have hex : exM w m us fe 0 l S = updM w m S l := ex_zero (hf2 l hpf)
    rw [hex] at hQ
    exact gv_leaf (mi0 := mi0) hq hus (by rw [hG.1 134 (by decide) (by decide)]; exact h21) (by omega) hG hQ
  | succ n ihn =>
    intro m l S mi1 v5 Q hlm hmn hlu hpf hG hn hQ
    have hmq : m < q := by omega
    have hwt := wtN_le (w := w) (l := l) hw1 (show m ≤ q by omega) hlu
    have hI : ∀ k s (S : Option (Nat × List Nat)) (mi1 : Nat → Nat → Int32) (v5 : Value), s + k = us → GI mi0 q m l S mi1 → mi1 151 m = Int32.ofNat s → (∀ mi2, GI mi0 q m l (exR w q us fe n l k s S) mi2 → ∀ v5 : Value, am_wp X (d + 3) 194 63 [.ref 134, .int (Int32.ofNat (us)), .int (moM (exR w q us fe n l k s S)), .int (Int32.ofNat (wtN w m l)), .int (Int32.ofNat m - 1), v5] [] (am_shT, mrL b, mi2, ml) Q) → am_wp X (d + 3) 194 119 [.ref 134, .int (Int32.ofNat (us)), .int (moM S), .int (Int32.ofNat (wtN w m l)), .int (Int32.ofNat (m)), v5] [] (am_shT, mrL b, mi1, ml) Q := by
      intro k
      induction k with
      | zero =>
        intro s S mi1 v5 hs hG hl1 hQ
        obtain rfl : s = us := by omega
        exact gv_end (l := l) hq hmq (by rw [hG.1 134 (by decide) (by decide)]; exact h21) hus hl1 (hQ _ (GI_u hG (Nat.le_refl _)) _)
      | succ k ihk =>
        intro s S mi1 v5 hs hG hl1 hQ
        have f21 : mi1 134 21 = Int32.ofNat q := by rw [hG.1 134 (by decide) (by decide)]; exact h21
        have fDK : ∀ k, k < q → mi1 148 k = Int32.ofNat (clN (mi1 148) k) ∧ clN (mi1 148) k ≤ 999 ∧ mi1 149 k = Int32.ofNat (clN (mi1 149) k) ∧ clN (mi1 149) k ≤ 9 := by
          rw [hG.1 148 (by decide) (by decide), hG.1 149 (by decide) (by decide)]
          exact hDK
        have fre : mi1 134 22 = Int32.ofNat re := by rw [hG.1 134 (by decide) (by decide)]; exact hre
        have fsp : mi1 134 23 = Int32.ofNat sp := by rw [hG.1 134 (by decide) (by decide)]; exact hsp
        have fl : ∀ k, k < m → mi1 151 k = Int32.ofNat (l.getD k 0) ∧ l.getD k 0 < 8 := fun k hk => ⟨hG.2.1 k hk, by have := hlu k hk; omega⟩
        have fww : mi1 150 (8 * m + s) = Int32.ofNat (w m s).toNatClampNeg := by rw [hG.1 150 (by decide) (by decide)]; exact (hw m hmq s (by omega)).1
        have bww := (hw m hmq s (by omega)).2
        have fah : mi1 153 (m + 1) = Int32.ofNat (ahd w us q n) := by
          rw [hG.1 153 (by decide) (by decide), hah (m + 1) (by omega), show q - (m + 1) = n by omega]
        have bah := ahd_le (w := w) (u := us) (q := q) hw1 n (by omega)
        have fok : ∀ i, i < m → sOk (mi1 148) (mi1 149) (mi1 134 22) (mi1 134 23) i m = ok i m := fun i hi => by
          rw [hG.1 148 (by decide) (by decide), hG.1 149 (by decide) (by decide), hG.1 134 (by decide) (by decide)]
          exact hok i m hi hmq
        have hnx : (∀ mi2, GI mi0 q m l (exR w q us fe n l k (s + 1) (exM w q us fe n (l ++ [s]) S)) mi2 → ∀ v5 : Value, am_wp X (d + 3) 194 63 [.ref 134, .int (Int32.ofNat (us)), .int (moM (exR w q us fe n l k (s + 1) (exM w q us fe n (l ++ [s]) S))), .int (Int32.ofNat (wtN w m l)), .int (Int32.ofNat m - 1), v5] [] (am_shT, mrL b, mi2, ml) Q) := hQ
        cases hc : allB (fun k => !(l.getD k 0 == s) || sOk (mi1 148) (mi1 149) (mi1 134 22) (mi1 134 23) k m) m
        · have hsk : exM w q us fe n (l ++ [s]) S = S := by
            have h1 : ¬ ∀ i, i < m → (fun k => !(l.getD k 0 == s) || sOk (mi1 148) (mi1 149) (mi1 134 22) (mi1 134 23) k m) i = true := fun h2 => by
              rw [(allB_iff m).mpr h2] at hc
              cases hc
            obtain ⟨i, h2⟩ := Classical.not_forall.mp h1
            obtain ⟨hi, h3⟩ := Classical.not_imp.mp h2
            have h4 : (!(l.getD i 0 == s) || sOk (mi1 148) (mi1 149) (mi1 134 22) (mi1 134 23) i m) = false := Bool.eq_false_iff.mpr h3
            rw [Bool.or_eq_false_iff, fok i hi] at h4
            have h5 : l.getD i 0 = s := by
              have h6 := h4.1
              rw [Bool.not_eq_false', beq_iff_eq] at h6
              exact h6
            exact ex_skip (ok := ok) hf1 hlm hmq hi h5 h4.2
          rw [hsk] at hnx
          refine gv_no (l := l) hq hmq f21 hus (by omega) fDK fre fsp lre lsp fl hl1 (by rw [hc]; rfl) ?_
          exact ihk (s + 1) S _ _ (by omega) (GI_u hG (Nat.le_refl _)) u2_same hnx
        · by_cases hgo : moM S < Int32.ofNat (wtN w m l + (w m s).toNatClampNeg + ahd w us q n)
          · have hw2 := wt_one (w := w) (l := l) (s := s) hlm
            have hapl : ∀ k, k < m → (l ++ [s]).getD k 0 = l.getD k 0 := fun k hk => app_lo (by omega)
            have hapm : (l ++ [s]).getD m 0 = s := by subst hlm; exact app_at
            have hlen : (l ++ [s]).length = m + 1 := by rw [List.length_append, List.length_singleton, hlm]
            have hlu2 : ∀ k, k < m + 1 → (l ++ [s]).getD k 0 < us := fun k hk => by
              rcases Nat.lt_or_ge k m with h1 | h1
              · rw [hapl k h1]; exact hlu k h1
              · rw [show k = m by omega, hapm]; omega
            have hpf2 : ∀ j, j < m + 1 → ∀ i, i < j → (l ++ [s]).getD i 0 = (l ++ [s]).getD j 0 → ok i j = true := fun j hj i hi he => by
              rcases Nat.lt_or_ge j m with h1 | h1
              · rw [hapl i (by omega), hapl j h1] at he
                exact hpf j h1 i hi he
              · have hjm : j = m := by omega
                subst hjm
                rw [hapl i hi, hapm] at he
                have h2 := (allB_iff j).mp hc i hi
                have h3 : (!(l.getD i 0 == s) || sOk (mi1 148) (mi1 149) (mi1 134 22) (mi1 134 23) i j) = true := h2
                rw [he, beq_self_eq_true, fok i hi] at h3
                exact h3
            have hback : ∀ mi2, GI mi0 q (m + 1) (l ++ [s]) (exM w q us fe n (l ++ [s]) S) mi2 → ∀ v5 : Value, am_wp X (d + 3) 194 63 [.ref 134, .int (Int32.ofNat (us)), .int (moM (exM w q us fe n (l ++ [s]) S)), .int (Int32.ofNat (wtN w (m + 1) (l ++ [s]))), .int (Int32.ofNat (m + 1) - 1), v5] [] (am_shT, mrL b, mi2, ml) Q := fun mi2 hG2 v5 => by
              rw [dn1, hw2]
              have hl2 : mi2 151 m = Int32.ofNat s := by rw [hG2.2.1 m (by omega), hapm]
              have hG3 : GI mi0 q m l (exM w q us fe n (l ++ [s]) S) mi2 := ⟨hG2.1, fun k hk => by rw [hG2.2.1 k (by omega), hapl k hk], hG2.2.2⟩
              refine gv_h1 (l := l) (s := s) hq hmq (by rw [hG2.1 134 (by decide) (by decide)]; exact h21) (by omega) hl2 (by rw [hG2.1 150 (by decide) (by decide)]; exact (hw m hmq s (by omega)).1) ?_
              exact ihk (s + 1) _ _ _ (by omega) (GI_u hG3 (Nat.le_refl _)) u2_same hnx
            have hG4 : ∀ mi2 : Nat → Nat → Int32, (∀ a, a ≠ 151 → mi2 a = mi1 a) → (∀ k, k < m + 1 → mi2 151 k = mi1 151 k) → GI mi0 q (m + 1) (l ++ [s]) S mi2 := fun mi2 e1 e2 => by
              refine ⟨fun a a1 a2 => (e1 a a1).trans (hG.1 a a1 a2), fun k hk => ?_, fun x hx => ?_⟩
              · rw [e2 k hk]
                rcases Nat.lt_or_ge k m with h1 | h1
                · rw [hapl k h1]; exact hG.2.1 k h1
                · rw [show k = m by omega, hapm]; exact hl1
              · rw [e1 152 (by decide)]; exact hG.2.2 x hx
            rcases Nat.lt_or_ge (m + 1) q with hlast | hlast
            · refine gv_go1 (l := l) hq hmq f21 hus (by omega) fDK fre fsp lre lsp fl hl1 fww fah (by omega) (by omega) (by omega) (by rw [hc]; rfl) hgo hlast ?_
              have h9 := ihn (m + 1) (l ++ [s]) S (u2 mi1 151 (m + 1) (-1)) v5 Q hlen (by omega) hlu2 hpf2 (hG4 _ (fun a ha => u2_ne ha) (fun k hk => u2_off (by omega))) (fun _ => u2_same) hback
              rw [hw2] at h9
              exact h9
            · refine gv_go0 (l := l) hq hmq f21 hus (by omega) fDK fre fsp lre lsp fl hl1 fww fah (by omega) (by omega) (by omega) (by rw [hc]; rfl) hgo (by omega) ?_
              have h9 := ihn (m + 1) (l ++ [s]) S mi1 v5 Q hlen (by omega) hlu2 hpf2 (hG4 _ (fun a ha => rfl) (fun k hk => rfl)) (fun h => by omega) hback
              rw [hw2] at h9
              exact h9
          · have hpn : exM w q us fe n (l ++ [s]) S = S := by
              rcases S with _ | x
              · exact absurd (gtm1 (by omega)) hgo
              · have hx := (hG.2.2 x rfl).2
                have h1 : ¬ x.1 < wtN w m l + (w m s).toNatClampNeg + ahd w us q n := fun h2 => hgo ((lt_n (a := x.1) (b := wtN w m l + (w m s).toNatClampNeg + ahd w us q n) rfl rfl (by omega) (by omega)).mpr h2)
                refine ex_prune (by rw [List.length_append, List.length_singleton]; omega) ?_
                rw [List.length_append, List.length_singleton, hlm, wt_one hlm]
                omega
            rw [hpn] at hnx
            refine gv_pr (l := l) hq hmq f21 hus (by omega) fDK fre fsp lre lsp fl hl1 fww fah (by omega) (by omega) (by omega) (by rw [hc]; rfl) hgo ?_
            exact ihk (s + 1) S _ _ (by omega) (GI_u hG (Nat.le_refl _)) u2_same hnx
    refine gv_h0 (l := l) (s := 0) hq hmq (by rw [hG.1 134 (by decide) (by decide)]; exact h21) (hn (by omega)) ?_
    rw [ex_succ] at hQ
    exact hI us 0 S _ _ (by omega) (GI_u hG (Nat.le_refl _)) u2_same hQ
theorem c_gives {mi0 : Nat → Nat → Int32} {w : Nat → Nat → Int32} {q us : Nat} {ok : Nat → Nat → Bool} {fe : List Nat → Bool} {re sp n : Nat} (h21 : mi0 134 21 = Int32.ofNat q) (hq : q ≤ 8) (hus : us ≤ 6) (hw : ∀ m, m < q → ∀ s, s < 8 → mi0 150 (8 * m + s) = Int32.ofNat (w m s).toNatClampNeg ∧ (w m s).toNatClampNeg ≤ 100) (hDK : ∀ k, k < q → mi0 148 k = Int32.ofNat (clN (mi0 148) k) ∧ clN (mi0 148) k ≤ 999 ∧ mi0 149 k = Int32.ofNat (clN (mi0 149) k) ∧ clN (mi0 149) k ≤ 9) (hre : mi0 134 22 = Int32.ofNat re) (hsp : mi0 134 23 = Int32.ofNat sp) (lre : re ≤ 100) (lsp : sp ≤ 100) (hok : ∀ i j, i < j → j < q → sOk (mi0 148) (mi0 149) (mi0 134 22) (mi0 134 23) i j = ok i j)
    (hf1 : ∀ e, fe e = true → ∀ j, j < q → ∀ i, i < j → e.getD i 0 = e.getD j 0 → ok i j = true) (hf2 : ∀ e, (∀ j, j < q → ∀ i, i < j → e.getD i 0 = e.getD j 0 → ok i j = true) → fe e = true) (h4 : mi0 134 4 = Int32.ofNat n) (hn8 : n ≤ 8) (hun : min 6 n = us)
    (hQ : ∀ mi2, (∀ a, a ≠ 151 → a ≠ 152 → a ≠ 153 → mi2 a = mi0 a) → (∀ x, (exM w q us fe q [] none) = some x → (∀ k, k < q → mi2 152 k = Int32.ofNat (x.2.getD k 0)) ∧ x.1 ≤ 800) → Q (some (.int (moM (exM w q us fe q [] none)))) (am_shT, mrL b, mi2, ml)) : am_wp X (d + 3) 194 0 [.ref 134, .retAddr 0, .retAddr 0, .retAddr 0, .retAddr 0, .retAddr 0] [] (am_shT, mrL b, mi0, ml) Q := by
  refine wi_bipush (x := 6) rfl rfl ?_
  refine wi_aload_n rfl rfl ?_
  refine wi_getIv (v := (Int32.ofNat (n))) rfl (kd_134 ..) h4 ?_
  refine wn_min (z := Int32.ofNat us) rfl rfl (by rw [← hun]; exact min_n (a := 6) (b := n) (rfl : (6 : Int32) = Int32.ofNat 6) rfl (by decide) (by omega)) ?_
  refine wi_istore_n (l' := [.ref 134, .int (Int32.ofNat (us)), .retAddr 0, .retAddr 0, .retAddr 0, .retAddr 0]) rfl (Nat.le_of_ble_eq_true rfl) rfl rfl ?_
  refine wi_aload_n rfl rfl ?_
  refine wi_getR rfl (kd_134 ..) (rd_134_29 _) ?_
  refine wi_aload_n rfl rfl ?_
  refine wi_getIv (v := (Int32.ofNat (q))) rfl (kd_134 ..) h21 ?_
  refine wi_iconst (x := 0) rfl rfl ?_
  refine wn_iastore (q := q) rfl (ln_153 ..) rfl (by omega) (by decide) ?_
  refine wi_aload_n rfl rfl ?_
  refine wi_getIv (v := (Int32.ofNat (q))) rfl (kd_134 ..) h21 ?_
  refine wi_iconst (x := 1) rfl rfl ?_
  refine wi_isub rfl ?_
  refine wi_istore_n (l' := [.ref 134, .int (Int32.ofNat (us)), .int (Int32.ofNat q - 1), .retAddr 0, .retAddr 0, .retAddr 0]) rfl (Nat.le_of_ble_eq_true rfl) rfl rfl ?_
  refine gv_ah (mi0 := mi0) h21 hq hus hw (fun mi2 he ha v3 v4 => ?_) q _ _ _ (Nat.le_refl _) (fun a a1 => u2_ne a1) (fun m h1 h2 => ?_)
  rotate_left
  · rw [show m = q by omega, u2_same, Nat.sub_self]
    rfl
  refine wi_iconst (x := (-1)) rfl rfl ?_
  refine wi_istore_n (l' := [.ref 134, .int (Int32.ofNat (us)), .int (-1 : Int32), v3, v4, .retAddr 0]) rfl (Nat.le_of_ble_eq_true rfl) rfl rfl ?_
  refine wi_iconst (x := 0) rfl rfl ?_
  refine wi_istore_n (l' := [.ref 134, .int (Int32.ofNat (us)), .int (-1 : Int32), .int (0 : Int32), v4, .retAddr 0]) rfl (Nat.le_of_ble_eq_true rfl) rfl rfl ?_
  refine wi_iconst (x := 0) rfl rfl ?_
  refine wi_istore (l' := [.ref 134, .int (Int32.ofNat (us)), .int (-1 : Int32), .int (0 : Int32), .int (0 : Int32), .retAddr 0]) rfl (Nat.le_of_ble_eq_true rfl) rfl rfl ?_
  refine wi_aload_n rfl rfl ?_
  refine wi_getR rfl (kd_134 ..) (rd_134_27 _) ?_
  refine wi_iconst (x := 0) rfl rfl ?_
  refine wi_iconst (x := (-1)) rfl rfl ?_
  refine wn_iastore (q := 0) rfl (ln_151 ..) (rfl : (0 : Int32) = Int32.ofNat 0) (by decide) (by decide) ?_
  refine gv_G (X := X) (d := d) (b := b) (ml := ml) (mi0 := mi2) (w := w) (q := q) (us := us) (ok := ok) (fe := fe) (re := re) (sp := sp) (by rw [he 134 (by decide)]; exact h21) hq hus (by rw [he 150 (by decide)]; exact hw) (by rw [he 148 (by decide), he 149 (by decide)]; exact hDK) (by rw [he 134 (by decide)]; exact hre) (by rw [he 134 (by decide)]; exact hsp) lre lsp (fun m hm => ha m (Nat.zero_le _) hm) (by rw [he 148 (by decide), he 149 (by decide), he 134 (by decide)]; exact hok) hf1 hf2 q 0 [] none (u2 mi2 151 0 (-1)) _ Q rfl (by omega) (fun k hk => by omega) (fun j hj => by omega) ⟨fun a a1 a2 => u2_ne a1, fun k hk => by omega, fun x hx => by cases hx⟩ (fun _ => u2_same) (fun mi3 hG v5 => ?_)
  rw [dn3]
  refine wi_iload rfl rfl ?_
  refine wi_if_lt rfl (fun _ => ?_) (fun h9 => absurd (by decide) h9)
  refine wi_iload_n rfl rfl ?_
  refine wi_iret rfl (Or.inl rfl) ?_
  exact hQ mi3 (fun a a1 a2 a3 => (hG.1 a a1 a2).trans (he a a3)) hG.2.2
end GV
