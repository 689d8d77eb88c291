/-! ===== the small machine: makings; a memory by another name ===== -/
section AW3
variable {X : Nat × (Nat → Int32)} {d mid j : Nat} {ls st : List Value} {M : am_M} {Q : Option Value → am_M → Prop}
variable {p r1 r2 r3 ix : Nat} {x y : Int32} {a b : Nat}
variable {sh sh' : List (Nat × Nat)} {mr mr' : List (List (Option Nat))} {mi : Nat → Nat → Int32} {ml : Nat → Nat → Int64}
theorem am_norm (h1 : sh = sh') (h2 : mr = mr') (k : am_wp X d mid j ls st (sh', mr', mi, ml) Q) : am_wp X d mid j ls st (sh, mr, mi, ml) Q := by
  subst h1
  subst h2
  exact k
theorem wi_new {q n : Nat} {ts : List Nat} (hc : am_cd mid j = some (.new ix, p, r1, r2, r3)) (hts : am_ftT[r1]? = some ts) (hq : sh.length = q) (hn : ts.length = n) (k : am_wp X d mid (j + 1) ls (.ref q :: st) (sh ++ [(r1, n)], mr ++ [ts.map (fun _ => none)], u0 mi q 0, u0 ml q 0) Q) : am_wp X d mid j ls st (sh, mr, mi, ml) Q := am_wp_next hc (by subst hq; subst hn; simp only [am_step, am_new, hts, am_nx]) k
theorem wi_newarray {q n t : Nat} {ty : ArrayType} (hc : am_cd mid j = some (.newarray ty, p, r1, r2, r3)) (h0 : 0 ≤ x ∧ x.toNatClampNeg ≤ 65536 ∧ am_ak ty ≠ 999) (ht : am_ak ty = t) (hn : x.toNatClampNeg = n) (hq : sh.length = q) (k : am_wp X d mid (j + 1) ls (.ref q :: st) (sh ++ [(t, n)], mr ++ [[]], u0 mi q 0, u0 ml q 0) Q) : am_wp X d mid j ls (.int x :: st) (sh, mr, mi, ml) Q := am_wp_next hc (by subst hq; subst hn; subst ht; simp only [am_step, am_newa, am_nx]; rw [if_pos h0]) k
theorem wi_anewarray {q n : Nat} (hc : am_cd mid j = some (.anewarray ix, p, 8, r2, r3)) (h0 : 0 ≤ x ∧ x.toNatClampNeg ≤ 65536) (hn : x.toNatClampNeg = n) (hq : sh.length = q) (k : am_wp X d mid (j + 1) ls (.ref q :: st) (sh ++ [(104, n)], mr ++ [List.replicate n none], u0 mi q 0, u0 ml q 0) Q) : am_wp X d mid j ls (.int x :: st) (sh, mr, mi, ml) Q := am_wp_next hc (by subst hq; subst hn; simp only [am_step, am_anew, am_nx]; rw [if_pos ⟨h0.1, h0.2, trivial⟩]) k
theorem wi_mna {q n m : Nat} {dm : Nat} (hc : am_cd mid j = some (.multianewarray ix dm, p, r1, r2, r3)) (h0 : 0 ≤ y ∧ y.toNatClampNeg ≤ 4096 ∧ 0 ≤ x ∧ x.toNatClampNeg ≤ 4096) (hn : y.toNatClampNeg = n) (hm : x.toNatClampNeg = m) (hq : sh.length = q) (k : am_wp X d mid (j + 1) ls (.ref q :: st) (sh ++ (105, n) :: List.replicate n (100, m), mr ++ ((List.range n).map (fun i => some (q + 1 + i))) :: List.replicate n [], (fun q' i => if q ≤ q' then 0 else mi q' i), (fun q' i => if q ≤ q' then 0 else ml q' i)) Q) : am_wp X d mid j ls (.int x :: .int y :: st) (sh, mr, mi, ml) Q := am_wp_next hc (by subst hq; subst hn; subst hm; simp only [am_step, am_mna, am_nx]; rw [if_pos h0]) k
theorem wi_aastore {n q : Nat} (hc : am_cd mid j = some (.aastore, p, r1, r2, r3)) (ha : am_ln (sh, mr, mi, ml) a 104 = some n) (hi : am_ix x n = true) (hq : x.toNatClampNeg = q) (hk : am_kd (sh, mr, mi, ml) b = 8 ∧ b < 1000000 ∧ q < (mr[a]?.getD []).length) (k : am_wp X d mid (j + 1) ls st (sh, am_wr mr a q (some b), mi, ml) Q) : am_wp X d mid j ls (.ref b :: .int x :: .ref a :: st) (sh, mr, mi, ml) Q := am_wp_next hc (by
  subst hq
  simp only [am_step, am_aast, ha]
  rw [if_pos ⟨hi, hk⟩]
  rfl) k
theorem wi_brT {c : ClassFile.Cond} {z : Int} (hc : am_cd mid j = some (.if_icmp c z, p, r1, r2, r3)) (h : am_cm c x y = true) (k : am_wp X d mid r1 ls st M Q) : am_wp X d mid j ls (.int y :: .int x :: st) M Q := wi_icmp hc (fun _ => k) (fun h2 => by rw [h] at h2; cases h2)
theorem wi_brF {c : ClassFile.Cond} {z : Int} (hc : am_cd mid j = some (.if_icmp c z, p, r1, r2, r3)) (h : am_cm c x y = false) (k : am_wp X d mid (j + 1) ls st M Q) : am_wp X d mid j ls (.int y :: .int x :: st) M Q := wi_icmp hc (fun h2 => by rw [h] at h2; cases h2) (fun _ => k)
end AW3
