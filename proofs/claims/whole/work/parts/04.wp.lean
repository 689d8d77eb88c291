/-! ===== the small machine's rules ===== -/
section AWP
variable {X : Nat × (Nat → Int32)} {d mid j : Nat} {ls st : List Value} {M : am_M} {Q : Option Value → am_M → Prop} {e : am_E}
theorem am_ex_mono : ∀ (n : Nat) {n' d d' mid j : Nat} {ls st : List Value} {M : am_M} {r : Option Value × am_M}, n ≤ n' → d ≤ d' → am_ex X n d mid j ls st M = some r → am_ex X n' d' mid j ls st M = some r := by
  intro n
  induction n with
  | zero => intro n' d d' mid j ls st M r _ _ h; simp [am_ex] at h
  | succ n ih =>
    intro n' d d' mid j ls st M r hn hd h
    obtain ⟨n', rfl⟩ : ∃ k, n' = k + 1 := ⟨n' - 1, by omega⟩
    have hn : n ≤ n' := by omega
    simp only [am_ex] at h ⊢
    generalize (am_cd mid j).bind (fun e => am_step X e j ls st M) = a at h ⊢
    match a, h with
    | some (.inl q), h => exact ih hn hd h
    | some (.inr (.inr v)), h => exact h
    | some (.inr (.inl q)), h =>
      match d, hd, h with
      | d + 1, hd, h =>
        obtain ⟨d', rfl⟩ : ∃ k, d' = k + 1 := ⟨d' - 1, by omega⟩
        simp only at h ⊢
        split at h
        · rename_i hl
          rw [if_pos hl]
          cases h1 : am_ex X n d q.1 0 (am_ent (am_nL q.1) q.2.1) [] M with
          | none => rw [h1] at h; cases h
          | some r1 =>
            rw [h1] at h
            rw [ih hn (show d ≤ d' by omega) h1]
            exact ih hn (show d + 1 ≤ d' + 1 by omega) h
        · cases h
theorem am_wp_next {j' : Nat} {ls' st' : List Value} {M' : am_M} (hc : am_cd mid j = some e) (hs : am_step X e j ls st M = some (.inl (j', ls', st', M'))) (k : am_wp X d mid j' ls' st' M' Q) : am_wp X d mid j ls st M Q := by
  obtain ⟨n, v, M1, h, hq⟩ := k
  refine ⟨n + 1, v, M1, ?_, hq⟩
  simp only [am_ex, hc, Option.bind_some, hs]
  exact h
theorem am_wp_ret {v : Option Value} (hc : am_cd mid j = some e) (hs : am_step X e j ls st M = some (.inr (.inr v))) (hq : Q v M) : am_wp X d mid j ls st M Q := by
  refine ⟨1, v, M, ?_, hq⟩
  simp only [am_ex, hc, Option.bind_some, hs]
theorem am_wp_call {y : Nat} {vs rest l0 : List Value} (hc : am_cd mid j = some e) (hs : am_step X e j ls st M = some (.inr (.inl (y, vs, rest)))) (he : am_ent (am_nL y) vs = l0) (hl : l0.length = am_nL y)
    (k : am_wp X d y 0 l0 [] M (fun v M' => am_wp X (d + 1) mid (j + 1) ls (v.toList ++ rest) M' Q)) : am_wp X (d + 1) mid j ls st M Q := by
  obtain ⟨n, v, M1, h, n2, v2, M2, h2, hq⟩ := k
  refine ⟨max n n2 + 1, v2, M2, ?_, hq⟩
  simp only [am_ex, hc, Option.bind_some, hs]
  rw [he, if_pos hl, am_ex_mono n (Nat.le_max_left n n2) (Nat.le_refl _) h]
  exact am_ex_mono n2 (Nat.le_max_right n n2) (Nat.le_refl _) h2
theorem am_wp_mono {Q' : Option Value → am_M → Prop} (h : am_wp X d mid j ls st M Q) (hq : ∀ v M', Q v M' → Q' v M') : am_wp X d mid j ls st M Q' := by
  obtain ⟨n, v, M1, h, hh⟩ := h
  exact ⟨n, v, M1, h, hq _ _ hh⟩
theorem am_wp_deep {d' : Nat} (h : am_wp X d mid j ls st M Q) (hd : d ≤ d') : am_wp X d' mid j ls st M Q := by
  obtain ⟨n, v, M1, h, hh⟩ := h
  exact ⟨n, v, M1, am_ex_mono n (Nat.le_refl _) hd h, hh⟩
end AWP
section AWI
variable {X : Nat × (Nat → Int32)} {d mid j : Nat} {ls st : List Value} {M : am_M} {Q : Option Value → am_M → Prop}
variable {p r1 r2 r3 ix : Nat} {k4 : Fin 4} {i : Nat} {x y : Int32} {lx ly : Int64} {a b : Nat}
variable {sh : List (Nat × Nat)} {mr : List (List (Option Nat))} {mi : Nat → Nat → Int32} {ml : Nat → Nat → Int64}
theorem wi_aload_n (hc : am_cd mid j = some (.aload_n k4, p, r1, r2, r3)) (hl : ls[k4.val]? = some (.ref a)) (k : am_wp X d mid (j + 1) ls (.ref a :: st) M Q) : am_wp X d mid j ls st M Q := am_wp_next hc (by simp [am_step, am_lda, hl, am_nx]) k
theorem wi_aload (hc : am_cd mid j = some (.aload i, p, r1, r2, r3)) (hl : ls[i]? = some (.ref a)) (k : am_wp X d mid (j + 1) ls (.ref a :: st) M Q) : am_wp X d mid j ls st M Q := am_wp_next hc (by simp [am_step, am_lda, hl, am_nx]) k
theorem wi_iload_n (hc : am_cd mid j = some (.iload_n k4, p, r1, r2, r3)) (hl : ls[k4.val]? = some (.int x)) (k : am_wp X d mid (j + 1) ls (.int x :: st) M Q) : am_wp X d mid j ls st M Q := am_wp_next hc (by simp [am_step, am_ldi, hl, am_nx]) k
theorem wi_iload (hc : am_cd mid j = some (.iload i, p, r1, r2, r3)) (hl : ls[i]? = some (.int x)) (k : am_wp X d mid (j + 1) ls (.int x :: st) M Q) : am_wp X d mid j ls st M Q := am_wp_next hc (by simp [am_step, am_ldi, hl, am_nx]) k
theorem wi_lload_n (hc : am_cd mid j = some (.lload_n k4, p, r1, r2, r3)) (hl : ls[k4.val]? = some (.long lx)) (k : am_wp X d mid (j + 1) ls (.long lx :: st) M Q) : am_wp X d mid j ls st M Q := am_wp_next hc (by simp [am_step, am_ldl, hl, am_nx]) k
theorem wi_lload (hc : am_cd mid j = some (.lload i, p, r1, r2, r3)) (hl : ls[i]? = some (.long lx)) (k : am_wp X d mid (j + 1) ls (.long lx :: st) M Q) : am_wp X d mid j ls st M Q := am_wp_next hc (by simp [am_step, am_ldl, hl, am_nx]) k
theorem wi_istore_n {l' : List Value} (hc : am_cd mid j = some (.istore_n k4, p, r1, r2, r3)) (h1 : k4.val < ls.length) (h2 : am_ok1 ls k4.val = true) (h3 : ls.set k4.val (.int x) = l') (k : am_wp X d mid (j + 1) l' st M Q) : am_wp X d mid j ls (.int x :: st) M Q := am_wp_next hc (by simp [am_step, am_sti, h1, h2, h3, am_nx]) k
theorem wi_istore {l' : List Value} (hc : am_cd mid j = some (.istore i, p, r1, r2, r3)) (h1 : i < ls.length) (h2 : am_ok1 ls i = true) (h3 : ls.set i (.int x) = l') (k : am_wp X d mid (j + 1) l' st M Q) : am_wp X d mid j ls (.int x :: st) M Q := am_wp_next hc (by simp [am_step, am_sti, h1, h2, h3, am_nx]) k
theorem wi_astore_n {l' : List Value} (hc : am_cd mid j = some (.astore_n k4, p, r1, r2, r3)) (h1 : k4.val < ls.length) (h2 : am_ok1 ls k4.val = true) (h3 : ls.set k4.val (.ref a) = l') (k : am_wp X d mid (j + 1) l' st M Q) : am_wp X d mid j ls (.ref a :: st) M Q := am_wp_next hc (by simp [am_step, am_sta, h1, h2, h3, am_nx]) k
theorem wi_astore {l' : List Value} (hc : am_cd mid j = some (.astore i, p, r1, r2, r3)) (h1 : i < ls.length) (h2 : am_ok1 ls i = true) (h3 : ls.set i (.ref a) = l') (k : am_wp X d mid (j + 1) l' st M Q) : am_wp X d mid j ls (.ref a :: st) M Q := am_wp_next hc (by simp [am_step, am_sta, h1, h2, h3, am_nx]) k
theorem wi_lstore_n {l' : List Value} (hc : am_cd mid j = some (.lstore_n k4, p, r1, r2, r3)) (h1 : k4.val + 1 < ls.length) (h2 : am_ok1 ls k4.val = true) (h3 : (ls.set k4.val (.long lx)).set (k4.val + 1) (.retAddr 0) = l') (k : am_wp X d mid (j + 1) l' st M Q) : am_wp X d mid j ls (.long lx :: st) M Q := am_wp_next hc (by simp [am_step, am_stl, h1, h2, h3, am_nx]) k
theorem wi_lstore {l' : List Value} (hc : am_cd mid j = some (.lstore i, p, r1, r2, r3)) (h1 : i + 1 < ls.length) (h2 : am_ok1 ls i = true) (h3 : (ls.set i (.long lx)).set (i + 1) (.retAddr 0) = l') (k : am_wp X d mid (j + 1) l' st M Q) : am_wp X d mid j ls (.long lx :: st) M Q := am_wp_next hc (by simp [am_step, am_stl, h1, h2, h3, am_nx]) k
theorem wi_iinc {l' : List Value} {n : Int} {z : Int32} (hc : am_cd mid j = some (.iinc i n, p, r1, r2, r3)) (hl : ls[i]? = some (.int x)) (h2 : am_ok1 ls i = true) (hz : x + Int32.ofInt n = z) (h3 : ls.set i (.int z) = l') (k : am_wp X d mid (j + 1) l' st M Q) : am_wp X d mid j ls st M Q := am_wp_next hc (by simp [am_step, am_inc, hl, h2, hz, h3, am_nx]) k
theorem wi_iconst {n : Int} (hc : am_cd mid j = some (.iconst n, p, r1, r2, r3)) (hx : Int32.ofInt n = x) (k : am_wp X d mid (j + 1) ls (.int x :: st) M Q) : am_wp X d mid j ls st M Q := am_wp_next hc (by simp [am_step, hx, am_nx]) k
theorem wi_bipush {n : Int} (hc : am_cd mid j = some (.bipush n, p, r1, r2, r3)) (hx : (Int8.ofInt n).toInt32 = x) (k : am_wp X d mid (j + 1) ls (.int x :: st) M Q) : am_wp X d mid j ls st M Q := am_wp_next hc (by simp [am_step, hx, am_nx]) k
theorem wi_sipush {n : Int} (hc : am_cd mid j = some (.sipush n, p, r1, r2, r3)) (hx : (Int16.ofInt n).toInt32 = x) (k : am_wp X d mid (j + 1) ls (.int x :: st) M Q) : am_wp X d mid j ls st M Q := am_wp_next hc (by simp [am_step, hx, am_nx]) k
theorem wi_lconst {n : Fin 2} (hc : am_cd mid j = some (.lconst n, p, r1, r2, r3)) (hx : Int64.ofNat n.val = lx) (k : am_wp X d mid (j + 1) ls (.long lx :: st) M Q) : am_wp X d mid j ls st M Q := am_wp_next hc (by simp [am_step, hx, am_nx]) k
theorem wi_ldc2_w (hc : am_cd mid j = some (.ldc2_w ix, p, r1, r2, r3)) (hx : am_lcT.getD r1 0 = lx) (k : am_wp X d mid (j + 1) ls (.long lx :: st) M Q) : am_wp X d mid j ls st M Q := am_wp_next hc (by simp only [am_step, hx, am_nx]) k
theorem wi_ldc (hc : am_cd mid j = some (.ldc ix, p, r1, r2, r3)) (hx : 1000000 + r1 = a) (k : am_wp X d mid (j + 1) ls (.ref a :: st) M Q) : am_wp X d mid j ls st M Q := am_wp_next hc (by simp only [am_step, hx, am_nx]) k
theorem wi_getstatic (hc : am_cd mid j = some (.getstatic ix, p, r1, r2, r3)) (k : am_wp X d mid (j + 1) ls (.ref 1000040 :: st) M Q) : am_wp X d mid j ls st M Q := am_wp_next hc (by simp only [am_step, am_nx]) k
theorem wi_getI (hc : am_cd mid j = some (.getfield ix, p, r1, r2, 0)) (hk : am_kd (sh, mr, mi, ml) a = r1) (k : am_wp X d mid (j + 1) ls (.int (mi a r2) :: st) (sh, mr, mi, ml) Q) : am_wp X d mid j ls (.ref a :: st) (sh, mr, mi, ml) Q := am_wp_next hc (by simp [am_step, am_getf, hk, am_nx]) k
theorem wi_getL (hc : am_cd mid j = some (.getfield ix, p, r1, r2, 1)) (hk : am_kd (sh, mr, mi, ml) a = r1) (k : am_wp X d mid (j + 1) ls (.long (ml a r2) :: st) (sh, mr, mi, ml) Q) : am_wp X d mid j ls (.ref a :: st) (sh, mr, mi, ml) Q := am_wp_next hc (by simp [am_step, am_getf, hk, am_nx]) k
theorem wi_getR (hc : am_cd mid j = some (.getfield ix, p, r1, r2, 2)) (hk : am_kd (sh, mr, mi, ml) a = r1) (hr : am_rd mr a r2 = some b) (k : am_wp X d mid (j + 1) ls (.ref b :: st) (sh, mr, mi, ml) Q) : am_wp X d mid j ls (.ref a :: st) (sh, mr, mi, ml) Q := am_wp_next hc (by simp [am_step, am_getf, hk, hr, am_rv, am_nx]) k
theorem wi_putI (hc : am_cd mid j = some (.putfield ix, p, r1, r2, 0)) (hk : am_kd (sh, mr, mi, ml) a = r1) (k : am_wp X d mid (j + 1) ls st (sh, mr, u2 mi a r2 x, ml) Q) : am_wp X d mid j ls (.int x :: .ref a :: st) (sh, mr, mi, ml) Q := am_wp_next hc (by simp [am_step, am_putf, hk, am_nx]) k
theorem wi_putL (hc : am_cd mid j = some (.putfield ix, p, r1, r2, 1)) (hk : am_kd (sh, mr, mi, ml) a = r1) (k : am_wp X d mid (j + 1) ls st (sh, mr, mi, u2 ml a r2 lx) Q) : am_wp X d mid j ls (.long lx :: .ref a :: st) (sh, mr, mi, ml) Q := am_wp_next hc (by simp [am_step, am_putf, hk, am_nx]) k
theorem wi_putR {mr' : List (List (Option Nat))} (hc : am_cd mid j = some (.putfield ix, p, r1, r2, 2)) (hk : am_kd (sh, mr, mi, ml) a = r1 ∧ b < 1000000 ∧ r2 < (mr[a]?.getD []).length) (hw : am_wr mr a r2 (some b) = mr') (k : am_wp X d mid (j + 1) ls st (sh, mr', mi, ml) Q) : am_wp X d mid j ls (.ref b :: .ref a :: st) (sh, mr, mi, ml) Q := am_wp_next hc (by simp [am_step, am_putf, hk, hw, am_nx]) k
theorem wi_iaload {n q : Nat} (hc : am_cd mid j = some (.iaload, p, r1, r2, r3)) (ha : am_ln (sh, mr, mi, ml) a 100 = some n) (hi : am_ix x n = true) (hq : x.toNatClampNeg = q) (h5 : ¬ a = 1000050) (h4 : ¬ a = 1000040) (k : am_wp X d mid (j + 1) ls (.int (mi a q) :: st) (sh, mr, mi, ml) Q) : am_wp X d mid j ls (.int x :: .ref a :: st) (sh, mr, mi, ml) Q := am_wp_next hc (by simp [am_step, am_iald, ha, hi, hq, h5, h4, am_nx]) k
theorem wi_ialoadX {q : Nat} (hc : am_cd mid j = some (.iaload, p, r1, r2, r3)) (hX : X.1 ≤ 4096) (hi : am_ix x X.1 = true) (hq : x.toNatClampNeg = q) (k : am_wp X d mid (j + 1) ls (.int (X.2 q) :: st) M Q) : am_wp X d mid j ls (.int x :: .ref 1000050 :: st) M Q := am_wp_next hc (by simp [am_step, am_iald, hi, hq, hX, am_nx]) k
theorem wi_ialoadO {q : Nat} (hc : am_cd mid j = some (.iaload, p, r1, r2, r3)) (hi : am_ix x 8 = true) (hq : x.toNatClampNeg = q) (k : am_wp X d mid (j + 1) ls (.int (am_orders q) :: st) M Q) : am_wp X d mid j ls (.int x :: .ref 1000040 :: st) M Q := am_wp_next hc (by simp [am_step, am_iald, hi, hq, am_nx]) k
theorem wi_baload {n q : Nat} (hc : am_cd mid j = some (.baload, p, r1, r2, r3)) (ha : am_ln (sh, mr, mi, ml) a 101 = some n ∨ am_ln (sh, mr, mi, ml) a 102 = some n) (hi : am_ix x n = true) (hq : x.toNatClampNeg = q) (k : am_wp X d mid (j + 1) ls (.int (mi a q) :: st) (sh, mr, mi, ml) Q) : am_wp X d mid j ls (.int x :: .ref a :: st) (sh, mr, mi, ml) Q := am_wp_next hc (by
  have hne : ∀ n1 n2, am_ln (sh, mr, mi, ml) a 101 = some n1 → am_ln (sh, mr, mi, ml) a 102 = some n2 → False := by
    intro n1 n2 h1 h2
    unfold am_ln at h1 h2
    revert h1 h2
    split
    · split <;> split <;> simp_all
    · simp
  rcases ha with h | h
  · simp [am_step, am_bald, h, hi, hq, am_nx]
  · cases h1 : am_ln (sh, mr, mi, ml) a 101 with
    | some n1 => exact (hne _ _ h1 h).elim
    | none => simp [am_step, am_bald, h, h1, hi, hq, am_nx]) k
theorem wi_laload {n q : Nat} (hc : am_cd mid j = some (.laload, p, r1, r2, r3)) (ha : am_ln (sh, mr, mi, ml) a 103 = some n) (hi : am_ix x n = true) (hq : x.toNatClampNeg = q) (k : am_wp X d mid (j + 1) ls (.long (ml a q) :: st) (sh, mr, mi, ml) Q) : am_wp X d mid j ls (.int x :: .ref a :: st) (sh, mr, mi, ml) Q := am_wp_next hc (by simp [am_step, am_lald, ha, hi, hq, am_nx]) k
theorem wi_aaload {n q : Nat} (hc : am_cd mid j = some (.aaload, p, r1, r2, r3)) (ha : am_ln (sh, mr, mi, ml) a 104 = some n ∨ am_ln (sh, mr, mi, ml) a 105 = some n) (hi : am_ix x n = true) (hq : x.toNatClampNeg = q) (hr : am_rd mr a q = some b) (k : am_wp X d mid (j + 1) ls (.ref b :: st) (sh, mr, mi, ml) Q) : am_wp X d mid j ls (.int x :: .ref a :: st) (sh, mr, mi, ml) Q := am_wp_next hc (by
  have hne : ∀ n1 n2, am_ln (sh, mr, mi, ml) a 104 = some n1 → am_ln (sh, mr, mi, ml) a 105 = some n2 → False := by
    intro n1 n2 h1 h2
    unfold am_ln at h1 h2
    revert h1 h2
    split
    · split <;> split <;> simp_all
    · simp
  rcases ha with h | h
  · simp [am_step, am_aald, h, hi, hq, hr, am_rv, am_nx]
  · cases h1 : am_ln (sh, mr, mi, ml) a 104 with
    | some n1 => exact (hne _ _ h1 h).elim
    | none => simp [am_step, am_aald, h, h1, hi, hq, hr, am_rv, am_nx]) k
theorem wi_iastore {n q : Nat} (hc : am_cd mid j = some (.iastore, p, r1, r2, r3)) (ha : am_ln (sh, mr, mi, ml) a 100 = some n) (hi : am_ix x n = true) (hq : x.toNatClampNeg = q) (k : am_wp X d mid (j + 1) ls st (sh, mr, u2 mi a q y, ml) Q) : am_wp X d mid j ls (.int y :: .int x :: .ref a :: st) (sh, mr, mi, ml) Q := am_wp_next hc (by simp [am_step, am_iast, ha, hi, hq, am_nx]) k
theorem wi_bastoreB {n q : Nat} {z : Int32} (hc : am_cd mid j = some (.bastore, p, r1, r2, r3)) (ha : am_ln (sh, mr, mi, ml) a 101 = some n) (hi : am_ix x n = true) (hq : x.toNatClampNeg = q) (hz : vp_nar .byte y = z) (k : am_wp X d mid (j + 1) ls st (sh, mr, u2 mi a q z, ml) Q) : am_wp X d mid j ls (.int y :: .int x :: .ref a :: st) (sh, mr, mi, ml) Q := am_wp_next hc (by simp [am_step, am_bast, ha, hi, hq, hz, am_nx]) k
theorem wi_bastoreZ {n q : Nat} {z : Int32} (hc : am_cd mid j = some (.bastore, p, r1, r2, r3)) (ha0 : am_ln (sh, mr, mi, ml) a 101 = none) (ha : am_ln (sh, mr, mi, ml) a 102 = some n) (hi : am_ix x n = true) (hq : x.toNatClampNeg = q) (hz : vp_nar .boolean y = z) (k : am_wp X d mid (j + 1) ls st (sh, mr, u2 mi a q z, ml) Q) : am_wp X d mid j ls (.int y :: .int x :: .ref a :: st) (sh, mr, mi, ml) Q := am_wp_next hc (by simp [am_step, am_bast, ha, ha0, hi, hq, hz, am_nx]) k
theorem wi_lastore {n q : Nat} (hc : am_cd mid j = some (.lastore, p, r1, r2, r3)) (ha : am_ln (sh, mr, mi, ml) a 103 = some n) (hi : am_ix x n = true) (hq : x.toNatClampNeg = q) (k : am_wp X d mid (j + 1) ls st (sh, mr, mi, u2 ml a q ly) Q) : am_wp X d mid j ls (.long ly :: .int x :: .ref a :: st) (sh, mr, mi, ml) Q := am_wp_next hc (by simp [am_step, am_last, ha, hi, hq, am_nx]) k
theorem wi_arraylength (hc : am_cd mid j = some (.arraylength, p, r1, r2, r3)) (hX : X.1 ≤ 4096) (hx : Int32.ofNat X.1 = x) (k : am_wp X d mid (j + 1) ls (.int x :: st) M Q) : am_wp X d mid j ls (.ref 1000050 :: st) M Q := am_wp_next hc (by simp [am_step, am_alen, hx, hX, am_nx]) k
theorem wi_iadd (hc : am_cd mid j = some (.iadd, p, r1, r2, r3)) (k : am_wp X d mid (j + 1) ls (.int (x + y) :: st) M Q) : am_wp X d mid j ls (.int y :: .int x :: st) M Q := am_wp_next hc rfl k
theorem wi_isub (hc : am_cd mid j = some (.isub, p, r1, r2, r3)) (k : am_wp X d mid (j + 1) ls (.int (x - y) :: st) M Q) : am_wp X d mid j ls (.int y :: .int x :: st) M Q := am_wp_next hc rfl k
theorem wi_imul (hc : am_cd mid j = some (.imul, p, r1, r2, r3)) (k : am_wp X d mid (j + 1) ls (.int (x * y) :: st) M Q) : am_wp X d mid j ls (.int y :: .int x :: st) M Q := am_wp_next hc rfl k
theorem wi_iand (hc : am_cd mid j = some (.iand, p, r1, r2, r3)) (k : am_wp X d mid (j + 1) ls (.int (x &&& y) :: st) M Q) : am_wp X d mid j ls (.int y :: .int x :: st) M Q := am_wp_next hc rfl k
theorem wi_ior (hc : am_cd mid j = some (.ior, p, r1, r2, r3)) (k : am_wp X d mid (j + 1) ls (.int (x ||| y) :: st) M Q) : am_wp X d mid j ls (.int y :: .int x :: st) M Q := am_wp_next hc rfl k
theorem wi_ixor (hc : am_cd mid j = some (.ixor, p, r1, r2, r3)) (k : am_wp X d mid (j + 1) ls (.int (x ^^^ y) :: st) M Q) : am_wp X d mid j ls (.int y :: .int x :: st) M Q := am_wp_next hc rfl k
theorem wi_ishl (hc : am_cd mid j = some (.ishl, p, r1, r2, r3)) (k : am_wp X d mid (j + 1) ls (.int (x <<< (y &&& 31)) :: st) M Q) : am_wp X d mid j ls (.int y :: .int x :: st) M Q := am_wp_next hc rfl k
theorem wi_ishr (hc : am_cd mid j = some (.ishr, p, r1, r2, r3)) (k : am_wp X d mid (j + 1) ls (.int (x >>> (y &&& 31)) :: st) M Q) : am_wp X d mid j ls (.int y :: .int x :: st) M Q := am_wp_next hc rfl k
theorem wi_iushr (hc : am_cd mid j = some (.iushr, p, r1, r2, r3)) (k : am_wp X d mid (j + 1) ls (.int (x.toUInt32 >>> (y.toUInt32 &&& Int32.toUInt32 31)).toInt32 :: st) M Q) : am_wp X d mid j ls (.int y :: .int x :: st) M Q := am_wp_next hc rfl k
theorem wi_idiv (hc : am_cd mid j = some (.idiv, p, r1, r2, r3)) (h0 : ¬ y = 0) (k : am_wp X d mid (j + 1) ls (.int (x / y) :: st) M Q) : am_wp X d mid j ls (.int y :: .int x :: st) M Q := am_wp_next hc (by simp [am_step, am_idiv, h0, am_nx]) k
theorem wi_ineg (hc : am_cd mid j = some (.ineg, p, r1, r2, r3)) (k : am_wp X d mid (j + 1) ls (.int (-x) :: st) M Q) : am_wp X d mid j ls (.int x :: st) M Q := am_wp_next hc rfl k
theorem wi_i2b (hc : am_cd mid j = some (.i2b, p, r1, r2, r3)) (k : am_wp X d mid (j + 1) ls (.int x.toInt8.toInt32 :: st) M Q) : am_wp X d mid j ls (.int x :: st) M Q := am_wp_next hc rfl k
theorem wi_i2l (hc : am_cd mid j = some (.i2l, p, r1, r2, r3)) (k : am_wp X d mid (j + 1) ls (.long x.toInt64 :: st) M Q) : am_wp X d mid j ls (.int x :: st) M Q := am_wp_next hc rfl k
theorem wi_l2i (hc : am_cd mid j = some (.l2i, p, r1, r2, r3)) (k : am_wp X d mid (j + 1) ls (.int lx.toInt32 :: st) M Q) : am_wp X d mid j ls (.long lx :: st) M Q := am_wp_next hc rfl k
theorem wi_ladd (hc : am_cd mid j = some (.ladd, p, r1, r2, r3)) (k : am_wp X d mid (j + 1) ls (.long (lx + ly) :: st) M Q) : am_wp X d mid j ls (.long ly :: .long lx :: st) M Q := am_wp_next hc rfl k
theorem wi_lsub (hc : am_cd mid j = some (.lsub, p, r1, r2, r3)) (k : am_wp X d mid (j + 1) ls (.long (lx - ly) :: st) M Q) : am_wp X d mid j ls (.long ly :: .long lx :: st) M Q := am_wp_next hc rfl k
theorem wi_lmul (hc : am_cd mid j = some (.lmul, p, r1, r2, r3)) (k : am_wp X d mid (j + 1) ls (.long (lx * ly) :: st) M Q) : am_wp X d mid j ls (.long ly :: .long lx :: st) M Q := am_wp_next hc rfl k
theorem wi_ldiv (hc : am_cd mid j = some (.ldiv, p, r1, r2, r3)) (h0 : ¬ ly = 0) (k : am_wp X d mid (j + 1) ls (.long (lx / ly) :: st) M Q) : am_wp X d mid j ls (.long ly :: .long lx :: st) M Q := am_wp_next hc (by simp [am_step, am_ldiv, h0, am_nx]) k
theorem wi_lrem (hc : am_cd mid j = some (.lrem, p, r1, r2, r3)) (h0 : ¬ ly = 0) (k : am_wp X d mid (j + 1) ls (.long (lx - lx / ly * ly) :: st) M Q) : am_wp X d mid j ls (.long ly :: .long lx :: st) M Q := am_wp_next hc (by simp [am_step, am_ldiv, h0, am_nx]) k
theorem wi_lneg (hc : am_cd mid j = some (.lneg, p, r1, r2, r3)) (k : am_wp X d mid (j + 1) ls (.long (-lx) :: st) M Q) : am_wp X d mid j ls (.long lx :: st) M Q := am_wp_next hc rfl k
theorem wi_lcmp (hc : am_cd mid j = some (.lcmp, p, r1, r2, r3)) (k : am_wp X d mid (j + 1) ls (.int (lg_cmp lx ly) :: st) M Q) : am_wp X d mid j ls (.long ly :: .long lx :: st) M Q := am_wp_next hc rfl k
theorem wi_dup {v : Value} (hc : am_cd mid j = some (.dup, p, r1, r2, r3)) (hv : v.category = 1) (k : am_wp X d mid (j + 1) ls (v :: v :: st) M Q) : am_wp X d mid j ls (v :: st) M Q := am_wp_next hc (by simp [am_step, am_dup, hv, am_nx]) k
theorem wi_pop {v : Value} (hc : am_cd mid j = some (.pop, p, r1, r2, r3)) (hv : v.category = 1) (k : am_wp X d mid (j + 1) ls st M Q) : am_wp X d mid j ls (v :: st) M Q := am_wp_next hc (by simp [am_step, am_pop, hv, am_nx]) k
theorem wi_dup2 {v w : Value} (hc : am_cd mid j = some (.dup2, p, r1, r2, r3)) (hv : v.category = 1 ∧ w.category = 1) (k : am_wp X d mid (j + 1) ls (v :: w :: v :: w :: st) M Q) : am_wp X d mid j ls (v :: w :: st) M Q := am_wp_next hc (by simp [am_step, am_dup2, hv, am_nx]) k
theorem wi_goto {z : Int} (hc : am_cd mid j = some (.goto z, p, r1, r2, r3)) (k : am_wp X d mid r1 ls st M Q) : am_wp X d mid j ls st M Q := am_wp_next hc rfl k
theorem wi_icmp {c : ClassFile.Cond} {z : Int} (hc : am_cd mid j = some (.if_icmp c z, p, r1, r2, r3)) (kt : am_cm c x y = true → am_wp X d mid r1 ls st M Q) (kf : am_cm c x y = false → am_wp X d mid (j + 1) ls st M Q) : am_wp X d mid j ls (.int y :: .int x :: st) M Q := by
  cases h : am_cm c x y with
  | true => exact am_wp_next hc (by simp [am_step, am_icmp, h, am_nx]) (kt h)
  | false => exact am_wp_next hc (by simp [am_step, am_icmp, h, am_nx]) (kf h)
theorem wi_ifc {c : ClassFile.Cond} {z : Int} (hc : am_cd mid j = some (.ifCond c z, p, r1, r2, r3)) (kt : am_cm c x 0 = true → am_wp X d mid r1 ls st M Q) (kf : am_cm c x 0 = false → am_wp X d mid (j + 1) ls st M Q) : am_wp X d mid j ls (.int x :: st) M Q := by
  cases h : am_cm c x 0 with
  | true => exact am_wp_next hc (by simp [am_step, am_ifc, h, am_nx]) (kt h)
  | false => exact am_wp_next hc (by simp [am_step, am_ifc, h, am_nx]) (kf h)
end AWI
