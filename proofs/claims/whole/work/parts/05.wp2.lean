/-! ===== the small machine: branches, calls, returns, makings ===== -/
section AW2
variable {X : Nat × (Nat → Int32)} {d mid j : Nat} {ls st : List Value} {M : am_M} {Q : Option Value → am_M → Prop}
variable {p r1 r2 r3 ix : Nat} {x y : Int32} {lx ly : Int64} {a b : Nat} {z : Int}
variable {sh : List (Nat × Nat)} {mr : List (List (Option Nat))} {mi : Nat → Nat → Int32} {ml : Nat → Nat → Int64}
theorem wi_icmp_eq (hc : am_cd mid j = some (.if_icmp .eq z, p, r1, r2, r3)) (kt : x = y → am_wp X d mid r1 ls st M Q) (kf : ¬ (x = y) → am_wp X d mid (j + 1) ls st M Q) : am_wp X d mid j ls (.int y :: .int x :: st) M Q := wi_icmp hc (fun h => kt (of_decide_eq_true h)) (fun h => kf (of_decide_eq_false h))
theorem wi_if_eq (hc : am_cd mid j = some (.ifCond .eq z, p, r1, r2, r3)) (kt : x = 0 → am_wp X d mid r1 ls st M Q) (kf : ¬ (x = 0) → am_wp X d mid (j + 1) ls st M Q) : am_wp X d mid j ls (.int x :: st) M Q := wi_ifc hc (fun h => kt (of_decide_eq_true h)) (fun h => kf (of_decide_eq_false h))
theorem wi_icmp_ne (hc : am_cd mid j = some (.if_icmp .ne z, p, r1, r2, r3)) (kt : ¬ x = y → am_wp X d mid r1 ls st M Q) (kf : ¬ (¬ x = y) → am_wp X d mid (j + 1) ls st M Q) : am_wp X d mid j ls (.int y :: .int x :: st) M Q := wi_icmp hc (fun h => kt (of_decide_eq_true h)) (fun h => kf (of_decide_eq_false h))
theorem wi_if_ne (hc : am_cd mid j = some (.ifCond .ne z, p, r1, r2, r3)) (kt : ¬ x = 0 → am_wp X d mid r1 ls st M Q) (kf : ¬ (¬ x = 0) → am_wp X d mid (j + 1) ls st M Q) : am_wp X d mid j ls (.int x :: st) M Q := wi_ifc hc (fun h => kt (of_decide_eq_true h)) (fun h => kf (of_decide_eq_false h))
theorem wi_icmp_lt (hc : am_cd mid j = some (.if_icmp .lt z, p, r1, r2, r3)) (kt : x < y → am_wp X d mid r1 ls st M Q) (kf : ¬ (x < y) → am_wp X d mid (j + 1) ls st M Q) : am_wp X d mid j ls (.int y :: .int x :: st) M Q := wi_icmp hc (fun h => kt (of_decide_eq_true h)) (fun h => kf (of_decide_eq_false h))
theorem wi_if_lt (hc : am_cd mid j = some (.ifCond .lt z, p, r1, r2, r3)) (kt : x < 0 → am_wp X d mid r1 ls st M Q) (kf : ¬ (x < 0) → am_wp X d mid (j + 1) ls st M Q) : am_wp X d mid j ls (.int x :: st) M Q := wi_ifc hc (fun h => kt (of_decide_eq_true h)) (fun h => kf (of_decide_eq_false h))
theorem wi_icmp_ge (hc : am_cd mid j = some (.if_icmp .ge z, p, r1, r2, r3)) (kt : y ≤ x → am_wp X d mid r1 ls st M Q) (kf : ¬ (y ≤ x) → am_wp X d mid (j + 1) ls st M Q) : am_wp X d mid j ls (.int y :: .int x :: st) M Q := wi_icmp hc (fun h => kt (of_decide_eq_true h)) (fun h => kf (of_decide_eq_false h))
theorem wi_if_ge (hc : am_cd mid j = some (.ifCond .ge z, p, r1, r2, r3)) (kt : 0 ≤ x → am_wp X d mid r1 ls st M Q) (kf : ¬ (0 ≤ x) → am_wp X d mid (j + 1) ls st M Q) : am_wp X d mid j ls (.int x :: st) M Q := wi_ifc hc (fun h => kt (of_decide_eq_true h)) (fun h => kf (of_decide_eq_false h))
theorem wi_icmp_gt (hc : am_cd mid j = some (.if_icmp .gt z, p, r1, r2, r3)) (kt : y < x → am_wp X d mid r1 ls st M Q) (kf : ¬ (y < x) → am_wp X d mid (j + 1) ls st M Q) : am_wp X d mid j ls (.int y :: .int x :: st) M Q := wi_icmp hc (fun h => kt (of_decide_eq_true h)) (fun h => kf (of_decide_eq_false h))
theorem wi_if_gt (hc : am_cd mid j = some (.ifCond .gt z, p, r1, r2, r3)) (kt : 0 < x → am_wp X d mid r1 ls st M Q) (kf : ¬ (0 < x) → am_wp X d mid (j + 1) ls st M Q) : am_wp X d mid j ls (.int x :: st) M Q := wi_ifc hc (fun h => kt (of_decide_eq_true h)) (fun h => kf (of_decide_eq_false h))
theorem wi_icmp_le (hc : am_cd mid j = some (.if_icmp .le z, p, r1, r2, r3)) (kt : x ≤ y → am_wp X d mid r1 ls st M Q) (kf : ¬ (x ≤ y) → am_wp X d mid (j + 1) ls st M Q) : am_wp X d mid j ls (.int y :: .int x :: st) M Q := wi_icmp hc (fun h => kt (of_decide_eq_true h)) (fun h => kf (of_decide_eq_false h))
theorem wi_if_le (hc : am_cd mid j = some (.ifCond .le z, p, r1, r2, r3)) (kt : x ≤ 0 → am_wp X d mid r1 ls st M Q) (kf : ¬ (x ≤ 0) → am_wp X d mid (j + 1) ls st M Q) : am_wp X d mid j ls (.int x :: st) M Q := wi_ifc hc (fun h => kt (of_decide_eq_true h)) (fun h => kf (of_decide_eq_false h))
theorem am_inv_lt {y n b j : Nat} {ls st : List Value} {M : am_M} (h : y < 1000) : am_inv y n b j ls st M = if b = 1 ∨ b = 4 then
      (if n ≤ st.length ∧ am_low (st.drop n) = true then some (.inr (.inl (y, (st.take n).reverse, st.drop n))) else none)
    else
      (match st.drop n with
      | .ref a :: rest => if am_kd M a = ((am_mT[y]?).map (fun q => q.2.2.2.2)).getD 2000 ∧ am_low rest = true then some (.inr (.inl (y, .ref a :: (st.take n).reverse, rest))) else none
      | _ => none) := by
  unfold am_inv
  split <;> first | omega | rfl
theorem wi_callV0 {c1 : Nat} {l0 : List Value} (hc : am_cd mid j = some (.invokevirtual ix, p, r1, 0, r3)) (h1 : r1 < 1000) (hb : r3 = 0 ∨ r3 = 3) (hci : ((am_mT[r1]?).map (fun q => q.2.2.2.2)).getD 2000 = c1) (hk : am_kd M a = c1) (hw : am_low st = true) (he : am_ent (am_nL r1) [.ref a] = l0) (hl : l0.length = am_nL r1)
    (k : am_wp X d r1 0 l0 [] M (fun v M' => am_wp X (d + 1) mid (j + 1) ls (v.toList ++ st) M' Q)) : am_wp X (d + 1) mid j ls (.ref a :: st) M Q :=
  am_wp_call (vs := [.ref a]) (rest := st) hc (by
    have hb2 : ¬ (r3 = 1 ∨ r3 = 4) := by omega
    simp only [am_step]
    rw [am_inv_lt h1, if_neg hb2]
    simp [hci, hk, hw]) he hl k
theorem wi_callI0 {c1 : Nat} {l0 : List Value} (hc : am_cd mid j = some (.invokespecial ix, p, r1, 0, r3)) (h1 : r1 < 1000) (hb : r3 = 2 ∨ r3 = 5) (hci : ((am_mT[r1]?).map (fun q => q.2.2.2.2)).getD 2000 = c1) (hk : am_kd M a = c1) (hw : am_low st = true) (he : am_ent (am_nL r1) [.ref a] = l0) (hl : l0.length = am_nL r1)
    (k : am_wp X d r1 0 l0 [] M (fun v M' => am_wp X (d + 1) mid (j + 1) ls (v.toList ++ st) M' Q)) : am_wp X (d + 1) mid j ls (.ref a :: st) M Q :=
  am_wp_call (vs := [.ref a]) (rest := st) hc (by
    have hb2 : ¬ (r3 = 1 ∨ r3 = 4) := by omega
    simp only [am_step]
    rw [am_inv_lt h1, if_neg hb2]
    simp [hci, hk, hw]) he hl k
theorem wi_callV1 {c1 : Nat} {v1 : Value} {l0 : List Value} (hc : am_cd mid j = some (.invokevirtual ix, p, r1, 1, r3)) (h1 : r1 < 1000) (hb : r3 = 0 ∨ r3 = 3) (hci : ((am_mT[r1]?).map (fun q => q.2.2.2.2)).getD 2000 = c1) (hk : am_kd M a = c1) (hw : am_low st = true) (he : am_ent (am_nL r1) [.ref a, v1] = l0) (hl : l0.length = am_nL r1)
    (k : am_wp X d r1 0 l0 [] M (fun v M' => am_wp X (d + 1) mid (j + 1) ls (v.toList ++ st) M' Q)) : am_wp X (d + 1) mid j ls (v1 :: .ref a :: st) M Q :=
  am_wp_call (vs := [.ref a, v1]) (rest := st) hc (by
    have hb2 : ¬ (r3 = 1 ∨ r3 = 4) := by omega
    simp only [am_step]
    rw [am_inv_lt h1, if_neg hb2]
    simp [hci, hk, hw]) he hl k
theorem wi_callI1 {c1 : Nat} {v1 : Value} {l0 : List Value} (hc : am_cd mid j = some (.invokespecial ix, p, r1, 1, r3)) (h1 : r1 < 1000) (hb : r3 = 2 ∨ r3 = 5) (hci : ((am_mT[r1]?).map (fun q => q.2.2.2.2)).getD 2000 = c1) (hk : am_kd M a = c1) (hw : am_low st = true) (he : am_ent (am_nL r1) [.ref a, v1] = l0) (hl : l0.length = am_nL r1)
    (k : am_wp X d r1 0 l0 [] M (fun v M' => am_wp X (d + 1) mid (j + 1) ls (v.toList ++ st) M' Q)) : am_wp X (d + 1) mid j ls (v1 :: .ref a :: st) M Q :=
  am_wp_call (vs := [.ref a, v1]) (rest := st) hc (by
    have hb2 : ¬ (r3 = 1 ∨ r3 = 4) := by omega
    simp only [am_step]
    rw [am_inv_lt h1, if_neg hb2]
    simp [hci, hk, hw]) he hl k
theorem wi_callV2 {c1 : Nat} {v1 v2 : Value} {l0 : List Value} (hc : am_cd mid j = some (.invokevirtual ix, p, r1, 2, r3)) (h1 : r1 < 1000) (hb : r3 = 0 ∨ r3 = 3) (hci : ((am_mT[r1]?).map (fun q => q.2.2.2.2)).getD 2000 = c1) (hk : am_kd M a = c1) (hw : am_low st = true) (he : am_ent (am_nL r1) [.ref a, v1, v2] = l0) (hl : l0.length = am_nL r1)
    (k : am_wp X d r1 0 l0 [] M (fun v M' => am_wp X (d + 1) mid (j + 1) ls (v.toList ++ st) M' Q)) : am_wp X (d + 1) mid j ls (v2 :: v1 :: .ref a :: st) M Q :=
  am_wp_call (vs := [.ref a, v1, v2]) (rest := st) hc (by
    have hb2 : ¬ (r3 = 1 ∨ r3 = 4) := by omega
    simp only [am_step]
    rw [am_inv_lt h1, if_neg hb2]
    simp [hci, hk, hw]) he hl k
theorem wi_callV3 {c1 : Nat} {v1 v2 v3 : Value} {l0 : List Value} (hc : am_cd mid j = some (.invokevirtual ix, p, r1, 3, r3)) (h1 : r1 < 1000) (hb : r3 = 0 ∨ r3 = 3) (hci : ((am_mT[r1]?).map (fun q => q.2.2.2.2)).getD 2000 = c1) (hk : am_kd M a = c1) (hw : am_low st = true) (he : am_ent (am_nL r1) [.ref a, v1, v2, v3] = l0) (hl : l0.length = am_nL r1)
    (k : am_wp X d r1 0 l0 [] M (fun v M' => am_wp X (d + 1) mid (j + 1) ls (v.toList ++ st) M' Q)) : am_wp X (d + 1) mid j ls (v3 :: v2 :: v1 :: .ref a :: st) M Q :=
  am_wp_call (vs := [.ref a, v1, v2, v3]) (rest := st) hc (by
    have hb2 : ¬ (r3 = 1 ∨ r3 = 4) := by omega
    simp only [am_step]
    rw [am_inv_lt h1, if_neg hb2]
    simp [hci, hk, hw]) he hl k
theorem wi_callV4 {c1 : Nat} {v1 v2 v3 v4 : Value} {l0 : List Value} (hc : am_cd mid j = some (.invokevirtual ix, p, r1, 4, r3)) (h1 : r1 < 1000) (hb : r3 = 0 ∨ r3 = 3) (hci : ((am_mT[r1]?).map (fun q => q.2.2.2.2)).getD 2000 = c1) (hk : am_kd M a = c1) (hw : am_low st = true) (he : am_ent (am_nL r1) [.ref a, v1, v2, v3, v4] = l0) (hl : l0.length = am_nL r1)
    (k : am_wp X d r1 0 l0 [] M (fun v M' => am_wp X (d + 1) mid (j + 1) ls (v.toList ++ st) M' Q)) : am_wp X (d + 1) mid j ls (v4 :: v3 :: v2 :: v1 :: .ref a :: st) M Q :=
  am_wp_call (vs := [.ref a, v1, v2, v3, v4]) (rest := st) hc (by
    have hb2 : ¬ (r3 = 1 ∨ r3 = 4) := by omega
    simp only [am_step]
    rw [am_inv_lt h1, if_neg hb2]
    simp [hci, hk, hw]) he hl k
theorem wi_callV5 {c1 : Nat} {v1 v2 v3 v4 v5 : Value} {l0 : List Value} (hc : am_cd mid j = some (.invokevirtual ix, p, r1, 5, r3)) (h1 : r1 < 1000) (hb : r3 = 0 ∨ r3 = 3) (hci : ((am_mT[r1]?).map (fun q => q.2.2.2.2)).getD 2000 = c1) (hk : am_kd M a = c1) (hw : am_low st = true) (he : am_ent (am_nL r1) [.ref a, v1, v2, v3, v4, v5] = l0) (hl : l0.length = am_nL r1)
    (k : am_wp X d r1 0 l0 [] M (fun v M' => am_wp X (d + 1) mid (j + 1) ls (v.toList ++ st) M' Q)) : am_wp X (d + 1) mid j ls (v5 :: v4 :: v3 :: v2 :: v1 :: .ref a :: st) M Q :=
  am_wp_call (vs := [.ref a, v1, v2, v3, v4, v5]) (rest := st) hc (by
    have hb2 : ¬ (r3 = 1 ∨ r3 = 4) := by omega
    simp only [am_step]
    rw [am_inv_lt h1, if_neg hb2]
    simp [hci, hk, hw]) he hl k
theorem wi_callV6 {c1 : Nat} {v1 v2 v3 v4 v5 v6 : Value} {l0 : List Value} (hc : am_cd mid j = some (.invokevirtual ix, p, r1, 6, r3)) (h1 : r1 < 1000) (hb : r3 = 0 ∨ r3 = 3) (hci : ((am_mT[r1]?).map (fun q => q.2.2.2.2)).getD 2000 = c1) (hk : am_kd M a = c1) (hw : am_low st = true) (he : am_ent (am_nL r1) [.ref a, v1, v2, v3, v4, v5, v6] = l0) (hl : l0.length = am_nL r1)
    (k : am_wp X d r1 0 l0 [] M (fun v M' => am_wp X (d + 1) mid (j + 1) ls (v.toList ++ st) M' Q)) : am_wp X (d + 1) mid j ls (v6 :: v5 :: v4 :: v3 :: v2 :: v1 :: .ref a :: st) M Q :=
  am_wp_call (vs := [.ref a, v1, v2, v3, v4, v5, v6]) (rest := st) hc (by
    have hb2 : ¬ (r3 = 1 ∨ r3 = 4) := by omega
    simp only [am_step]
    rw [am_inv_lt h1, if_neg hb2]
    simp [hci, hk, hw]) he hl k
theorem wi_callV7 {c1 : Nat} {v1 v2 v3 v4 v5 v6 v7 : Value} {l0 : List Value} (hc : am_cd mid j = some (.invokevirtual ix, p, r1, 7, r3)) (h1 : r1 < 1000) (hb : r3 = 0 ∨ r3 = 3) (hci : ((am_mT[r1]?).map (fun q => q.2.2.2.2)).getD 2000 = c1) (hk : am_kd M a = c1) (hw : am_low st = true) (he : am_ent (am_nL r1) [.ref a, v1, v2, v3, v4, v5, v6, v7] = l0) (hl : l0.length = am_nL r1)
    (k : am_wp X d r1 0 l0 [] M (fun v M' => am_wp X (d + 1) mid (j + 1) ls (v.toList ++ st) M' Q)) : am_wp X (d + 1) mid j ls (v7 :: v6 :: v5 :: v4 :: v3 :: v2 :: v1 :: .ref a :: st) M Q :=
  am_wp_call (vs := [.ref a, v1, v2, v3, v4, v5, v6, v7]) (rest := st) hc (by
    have hb2 : ¬ (r3 = 1 ∨ r3 = 4) := by omega
    simp only [am_step]
    rw [am_inv_lt h1, if_neg hb2]
    simp [hci, hk, hw]) he hl k
theorem wi_callS0 {l0 : List Value} (hc : am_cd mid j = some (.invokestatic ix, p, r1, 0, r3)) (h1 : r1 < 1000) (hb : r3 = 1 ∨ r3 = 4) (hw : am_low st = true) (he : am_ent (am_nL r1) [] = l0) (hl : l0.length = am_nL r1)
    (k : am_wp X d r1 0 l0 [] M (fun v M' => am_wp X (d + 1) mid (j + 1) ls (v.toList ++ st) M' Q)) : am_wp X (d + 1) mid j ls (st) M Q :=
  am_wp_call (vs := []) (rest := st) hc (by
    simp only [am_step]
    rw [am_inv_lt h1, if_pos hb]
    simp [hw]) he hl k
theorem wi_callS1 {v1 : Value} {l0 : List Value} (hc : am_cd mid j = some (.invokestatic ix, p, r1, 1, r3)) (h1 : r1 < 1000) (hb : r3 = 1 ∨ r3 = 4) (hw : am_low st = true) (he : am_ent (am_nL r1) [v1] = l0) (hl : l0.length = am_nL r1)
    (k : am_wp X d r1 0 l0 [] M (fun v M' => am_wp X (d + 1) mid (j + 1) ls (v.toList ++ st) M' Q)) : am_wp X (d + 1) mid j ls (v1 :: st) M Q :=
  am_wp_call (vs := [v1]) (rest := st) hc (by
    simp only [am_step]
    rw [am_inv_lt h1, if_pos hb]
    simp [hw]) he hl k
theorem wi_callS2 {v1 v2 : Value} {l0 : List Value} (hc : am_cd mid j = some (.invokestatic ix, p, r1, 2, r3)) (h1 : r1 < 1000) (hb : r3 = 1 ∨ r3 = 4) (hw : am_low st = true) (he : am_ent (am_nL r1) [v1, v2] = l0) (hl : l0.length = am_nL r1)
    (k : am_wp X d r1 0 l0 [] M (fun v M' => am_wp X (d + 1) mid (j + 1) ls (v.toList ++ st) M' Q)) : am_wp X (d + 1) mid j ls (v2 :: v1 :: st) M Q :=
  am_wp_call (vs := [v1, v2]) (rest := st) hc (by
    simp only [am_step]
    rw [am_inv_lt h1, if_pos hb]
    simp [hw]) he hl k
theorem wi_callS3 {v1 v2 v3 : Value} {l0 : List Value} (hc : am_cd mid j = some (.invokestatic ix, p, r1, 3, r3)) (h1 : r1 < 1000) (hb : r3 = 1 ∨ r3 = 4) (hw : am_low st = true) (he : am_ent (am_nL r1) [v1, v2, v3] = l0) (hl : l0.length = am_nL r1)
    (k : am_wp X d r1 0 l0 [] M (fun v M' => am_wp X (d + 1) mid (j + 1) ls (v.toList ++ st) M' Q)) : am_wp X (d + 1) mid j ls (v3 :: v2 :: v1 :: st) M Q :=
  am_wp_call (vs := [v1, v2, v3]) (rest := st) hc (by
    simp only [am_step]
    rw [am_inv_lt h1, if_pos hb]
    simp [hw]) he hl k
theorem wi_callS4 {v1 v2 v3 v4 : Value} {l0 : List Value} (hc : am_cd mid j = some (.invokestatic ix, p, r1, 4, r3)) (h1 : r1 < 1000) (hb : r3 = 1 ∨ r3 = 4) (hw : am_low st = true) (he : am_ent (am_nL r1) [v1, v2, v3, v4] = l0) (hl : l0.length = am_nL r1)
    (k : am_wp X d r1 0 l0 [] M (fun v M' => am_wp X (d + 1) mid (j + 1) ls (v.toList ++ st) M' Q)) : am_wp X (d + 1) mid j ls (v4 :: v3 :: v2 :: v1 :: st) M Q :=
  am_wp_call (vs := [v1, v2, v3, v4]) (rest := st) hc (by
    simp only [am_step]
    rw [am_inv_lt h1, if_pos hb]
    simp [hw]) he hl k
theorem wi_callS5 {v1 v2 v3 v4 v5 : Value} {l0 : List Value} (hc : am_cd mid j = some (.invokestatic ix, p, r1, 5, r3)) (h1 : r1 < 1000) (hb : r3 = 1 ∨ r3 = 4) (hw : am_low st = true) (he : am_ent (am_nL r1) [v1, v2, v3, v4, v5] = l0) (hl : l0.length = am_nL r1)
    (k : am_wp X d r1 0 l0 [] M (fun v M' => am_wp X (d + 1) mid (j + 1) ls (v.toList ++ st) M' Q)) : am_wp X (d + 1) mid j ls (v5 :: v4 :: v3 :: v2 :: v1 :: st) M Q :=
  am_wp_call (vs := [v1, v2, v3, v4, v5]) (rest := st) hc (by
    simp only [am_step]
    rw [am_inv_lt h1, if_pos hb]
    simp [hw]) he hl k
theorem wi_callS6 {v1 v2 v3 v4 v5 v6 : Value} {l0 : List Value} (hc : am_cd mid j = some (.invokestatic ix, p, r1, 6, r3)) (h1 : r1 < 1000) (hb : r3 = 1 ∨ r3 = 4) (hw : am_low st = true) (he : am_ent (am_nL r1) [v1, v2, v3, v4, v5, v6] = l0) (hl : l0.length = am_nL r1)
    (k : am_wp X d r1 0 l0 [] M (fun v M' => am_wp X (d + 1) mid (j + 1) ls (v.toList ++ st) M' Q)) : am_wp X (d + 1) mid j ls (v6 :: v5 :: v4 :: v3 :: v2 :: v1 :: st) M Q :=
  am_wp_call (vs := [v1, v2, v3, v4, v5, v6]) (rest := st) hc (by
    simp only [am_step]
    rw [am_inv_lt h1, if_pos hb]
    simp [hw]) he hl k
theorem wi_callS7 {v1 v2 v3 v4 v5 v6 v7 : Value} {l0 : List Value} (hc : am_cd mid j = some (.invokestatic ix, p, r1, 7, r3)) (h1 : r1 < 1000) (hb : r3 = 1 ∨ r3 = 4) (hw : am_low st = true) (he : am_ent (am_nL r1) [v1, v2, v3, v4, v5, v6, v7] = l0) (hl : l0.length = am_nL r1)
    (k : am_wp X d r1 0 l0 [] M (fun v M' => am_wp X (d + 1) mid (j + 1) ls (v.toList ++ st) M' Q)) : am_wp X (d + 1) mid j ls (v7 :: v6 :: v5 :: v4 :: v3 :: v2 :: v1 :: st) M Q :=
  am_wp_call (vs := [v1, v2, v3, v4, v5, v6, v7]) (rest := st) hc (by
    simp only [am_step]
    rw [am_inv_lt h1, if_pos hb]
    simp [hw]) he hl k
theorem wi_obj (hc : am_cd mid j = some (.invokespecial ix, p, 1000, r2, r3)) (hw : am_low st = true) (k : am_wp X d mid (j + 1) ls (st) M Q) : am_wp X d mid j ls (.ref a :: st) M Q := am_wp_next hc (by simp [am_step, am_inv, hw, am_nx]) k
theorem wi_max (hc : am_cd mid j = some (.invokestatic ix, p, 1001, r2, r3)) (hw : am_low st = true) (k : am_wp X d mid (j + 1) ls (.int (if x < y then y else x) :: st) M Q) : am_wp X d mid j ls (.int y :: .int x :: st) M Q := am_wp_next hc (by simp [am_step, am_inv, hw, am_nx]) k
theorem wi_min (hc : am_cd mid j = some (.invokestatic ix, p, 1002, r2, r3)) (hw : am_low st = true) (k : am_wp X d mid (j + 1) ls (.int (if y < x then y else x) :: st) M Q) : am_wp X d mid j ls (.int y :: .int x :: st) M Q := am_wp_next hc (by simp [am_step, am_inv, hw, am_nx]) k
theorem wi_abs (hc : am_cd mid j = some (.invokestatic ix, p, 1003, r2, r3)) (hw : am_low st = true) (k : am_wp X d mid (j + 1) ls (.int (if 0 ≤ x then x else 0 - x) :: st) M Q) : am_wp X d mid j ls (.int x :: st) M Q := am_wp_next hc (by simp [am_step, am_inv, hw, am_nx]) k
theorem wi_labs (hc : am_cd mid j = some (.invokestatic ix, p, 1004, r2, r3)) (hw : am_low st = true) (k : am_wp X d mid (j + 1) ls (.long (if 0 < lx then lx else -lx) :: st) M Q) : am_wp X d mid j ls (.long lx :: st) M Q := am_wp_next hc (by simp [am_step, am_inv, hw, am_nx]) k
theorem wi_lmax (hc : am_cd mid j = some (.invokestatic ix, p, 1005, r2, r3)) (hw : am_low st = true) (k : am_wp X d mid (j + 1) ls (.long (if ly < lx then lx else ly) :: st) M Q) : am_wp X d mid j ls (.long ly :: .long lx :: st) M Q := am_wp_next hc (by simp [am_step, am_inv, hw, am_nx]) k
theorem wi_slen (hc : am_cd mid j = some (.invokevirtual ix, p, 1006, r2, r3)) (ha : 1000000 ≤ a ∧ a < 1000010) (hw : am_low st = true) (hx : Int32.ofNat (am_sbT.getD (a - 1000000) []).length = x) (k : am_wp X d mid (j + 1) ls (.int x :: st) M Q) : am_wp X d mid j ls (.ref a :: st) M Q := am_wp_next hc (by simp only [am_step, am_inv]; rw [if_pos ⟨ha.1, ha.2, hw⟩, hx]; rfl) k
theorem wi_chat (hc : am_cd mid j = some (.invokevirtual ix, p, 1007, r2, r3)) (ha : 1000000 ≤ a ∧ a < 1000010) (hw : am_low st = true) (hi : am_ix x (am_sbT.getD (a - 1000000) []).length = true) (hx : am_chr (a - 1000000) x.toNatClampNeg = y) (k : am_wp X d mid (j + 1) ls (.int y :: st) M Q) : am_wp X d mid j ls (.int x :: .ref a :: st) M Q := am_wp_next hc (by simp only [am_step, am_inv]; rw [if_pos ⟨ha.1, ha.2, hw, hi⟩, hx]; rfl) k
theorem wi_iret (hc : am_cd mid j = some (.ireturn, p, r1, r2, r3)) (hz : r1 = 0 ∨ x = 0 ∨ x = 1) (hq : Q (some (.int x)) M) : am_wp X d mid j ls [.int x] M Q := am_wp_ret hc (by simp [am_step, am_ret, hz]) hq
theorem wi_lret (hc : am_cd mid j = some (.lreturn, p, r1, r2, r3)) (hq : Q (some (.long lx)) M) : am_wp X d mid j ls [.long lx] M Q := am_wp_ret hc (by simp [am_step, am_ret]) hq
theorem wi_aret (hc : am_cd mid j = some (.areturn, p, r1, r2, r3)) (hq : Q (some (.ref a)) M) : am_wp X d mid j ls [.ref a] M Q := am_wp_ret hc (by simp [am_step, am_ret]) hq
theorem wi_ret (hc : am_cd mid j = some (.return_, p, r1, r2, r3)) (hq : Q none M) : am_wp X d mid j ls [] M Q := am_wp_ret hc (by simp [am_step, am_ret]) hq
theorem wi_tsw {df lo hi : Int} {offs : Array Int} {dt t : Nat} {ts : List Nat} (hc : am_cd mid j = some (.tableswitch df lo hi offs, p, r1, r2, r3)) (hs : am_swT[r1]? = some (dt, ts)) (hx : ¬ (x.toInt < lo ∨ hi < x.toInt)) (ht : ts[(x.toInt - lo).toNat]? = some t) (k : am_wp X d mid t ls st M Q) : am_wp X d mid j ls (.int x :: st) M Q := am_wp_next hc (by simp only [am_step, am_sw, hs]; rw [if_neg hx, ht]; rfl) k
theorem wi_tswD {df lo hi : Int} {offs : Array Int} {dt : Nat} {ts : List Nat} (hc : am_cd mid j = some (.tableswitch df lo hi offs, p, r1, r2, r3)) (hs : am_swT[r1]? = some (dt, ts)) (hx : x.toInt < lo ∨ hi < x.toInt) (k : am_wp X d mid dt ls st M Q) : am_wp X d mid j ls (.int x :: st) M Q := am_wp_next hc (by simp only [am_step, am_sw, hs]; rw [if_pos hx]; rfl) k
end AW2
