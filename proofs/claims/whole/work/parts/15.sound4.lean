/-! ===== one step ===== -/
section SN4
variable {p : Program} {l : Launch} {e : Env} {R : Room} {s : State} {m : MethodId} {args : Array Value} {below : List Frame} {meth : Method} {c : Code} {Q : State → Prop}
variable {b : Nat} {ad : Nat → Nat} {D : va_G} {cy : Nat → ClassId} {X : Nat × (Nat → Int32)} {mid cells slots j : Nat} {ls st : List Value} {M : am_M}

set_option maxHeartbeats 4000000 in
theorem am_step_ok (C : am_Ctx b ad D cy X mid p s m args meth c) {e9 : am_E} (hc : am_cd mid j = some e9) {j' : Nat} {ls' st' : List Value} {M' : am_M} (hs : am_step X e9 j ls st M = some (.inl (j', ls', st', M'))) (hN : M'.1.length ≤ 1000000) (hR : 8 ≤ R.frames ∧ 300 ≤ R.locals) (hcap : cells + (M'.1.length - M.1.length) ≤ R.cells ∧ slots + (am_sz M' - am_sz M) ≤ R.slots)
    (kk : ∀ c9 s9, c9 = cells + (M'.1.length - M.1.length) → s9 = slots + (am_sz M' - am_sz M) → am_G p l e R s m args below meth c Q b ad D cy mid c9 s9 j' ls' st' M') : am_G p l e R s m args below meth c Q b ad D cy mid cells slots j ls st M := by
  obtain ⟨i9, p0, r1, r2, r3⟩ := e9
  cases i9
  case iadd =>
    simp only [am_step, am_ii, am_nx] at hs
    split at hs
    · cases hs
      exact sd_iadd C hc (kk cells slots (by simp) (by simp))
    · cases hs
  case isub =>
    simp only [am_step, am_ii, am_nx] at hs
    split at hs
    · cases hs
      exact sd_isub C hc (kk cells slots (by simp) (by simp))
    · cases hs
  case imul =>
    simp only [am_step, am_ii, am_nx] at hs
    split at hs
    · cases hs
      exact sd_imul C hc (kk cells slots (by simp) (by simp))
    · cases hs
  case iand =>
    simp only [am_step, am_ii, am_nx] at hs
    split at hs
    · cases hs
      exact sd_iand C hc (kk cells slots (by simp) (by simp))
    · cases hs
  case ior =>
    simp only [am_step, am_ii, am_nx] at hs
    split at hs
    · cases hs
      exact sd_ior C hc (kk cells slots (by simp) (by simp))
    · cases hs
  case ixor =>
    simp only [am_step, am_ii, am_nx] at hs
    split at hs
    · cases hs
      exact sd_ixor C hc (kk cells slots (by simp) (by simp))
    · cases hs
  case ishl =>
    simp only [am_step, am_ii, am_nx] at hs
    split at hs
    · cases hs
      exact sd_ishl C hc (kk cells slots (by simp) (by simp))
    · cases hs
  case ishr =>
    simp only [am_step, am_ii, am_nx] at hs
    split at hs
    · cases hs
      exact sd_ishr C hc (kk cells slots (by simp) (by simp))
    · cases hs
  case iushr =>
    simp only [am_step, am_ii, am_nx] at hs
    split at hs
    · cases hs
      exact sd_iushr C hc (kk cells slots (by simp) (by simp))
    · cases hs
  case ineg =>
    simp only [am_step, am_i1, am_nx] at hs
    split at hs
    · cases hs
      exact sd_ineg C hc (kk cells slots (by simp) (by simp))
    · cases hs
  case i2b =>
    simp only [am_step, am_i1, am_nx] at hs
    split at hs
    · cases hs
      exact sd_i2b C hc (kk cells slots (by simp) (by simp))
    · cases hs
  case i2c =>
    simp only [am_step, am_i1, am_nx] at hs
    split at hs
    · cases hs
      exact sd_i2c C hc (kk cells slots (by simp) (by simp))
    · cases hs
  case i2l =>
    simp only [am_step, am_i2l, am_nx] at hs
    split at hs
    · cases hs
      exact sd_i2l C hc (kk cells slots (by simp) (by simp))
    · cases hs
  case l2i =>
    simp only [am_step, am_l2i, am_nx] at hs
    split at hs
    · cases hs
      exact sd_l2i C hc (kk cells slots (by simp) (by simp))
    · cases hs
  case ladd =>
    simp only [am_step, am_ll, am_nx] at hs
    split at hs
    · cases hs
      exact sd_ladd C hc (kk cells slots (by simp) (by simp))
    · cases hs
  case lsub =>
    simp only [am_step, am_ll, am_nx] at hs
    split at hs
    · cases hs
      exact sd_lsub C hc (kk cells slots (by simp) (by simp))
    · cases hs
  case lmul =>
    simp only [am_step, am_ll, am_nx] at hs
    split at hs
    · cases hs
      exact sd_lmul C hc (kk cells slots (by simp) (by simp))
    · cases hs
  case lneg =>
    simp only [am_step, am_lneg, am_nx] at hs
    split at hs
    · cases hs
      exact sd_lneg C hc (kk cells slots (by simp) (by simp))
    · cases hs
  case lcmp =>
    simp only [am_step, am_lcmp, am_nx] at hs
    split at hs
    · cases hs
      exact sd_lcmp C hc (kk cells slots (by simp) (by simp))
    · cases hs
  case idiv =>
    simp only [am_step, am_idiv, am_nx] at hs
    split at hs
    · split at hs
      · cases hs
      · rename_i h7
        cases hs
        exact sd_idiv C hc h7 (kk cells slots (by simp) (by simp))
    · cases hs
  case ldiv =>
    simp only [am_step, am_ldiv, am_nx] at hs
    split at hs
    · split at hs
      · cases hs
      · rename_i h7
        cases hs
        exact sd_ldiv C hc h7 (kk cells slots (by simp) (by simp))
    · cases hs
  case lrem =>
    simp only [am_step, am_ldiv, am_nx] at hs
    split at hs
    · split at hs
      · cases hs
      · rename_i h7
        cases hs
        exact sd_lrem C hc h7 (kk cells slots (by simp) (by simp))
    · cases hs
  case dup =>
    simp only [am_step, am_dup, am_nx] at hs
    split at hs
    · split at hs
      · rename_i h7
        cases hs
        exact sd_dup C hc h7 (kk cells slots (by simp) (by simp))
      · cases hs
    · cases hs
  case pop =>
    simp only [am_step, am_pop, am_nx] at hs
    split at hs
    · split at hs
      · rename_i h7
        cases hs
        exact sd_pop C hc h7 (kk cells slots (by simp) (by simp))
      · cases hs
    · cases hs
  case dup2 =>
    simp only [am_step, am_dup2, am_nx] at hs
    split at hs
    · split at hs
      · rename_i h7
        cases hs
        exact sd_dup2a C hc h7 (kk cells slots (by simp) (by simp))
      · split at hs
        · rename_i h7
          cases hs
          exact sd_dup2b C hc h7 (kk cells slots (by simp) (by simp))
        · cases hs
    · cases hs
  case iconst n9 =>
    simp only [am_step, am_ii, am_nx] at hs
    cases hs
    exact sd_iconst C hc (kk cells slots (by simp) (by simp))
  case bipush n9 =>
    simp only [am_step, am_ii, am_nx] at hs
    cases hs
    exact sd_bipush C hc (kk cells slots (by simp) (by simp))
  case sipush n9 =>
    simp only [am_step, am_ii, am_nx] at hs
    cases hs
    exact sd_sipush C hc (kk cells slots (by simp) (by simp))
  case lconst n9 =>
    simp only [am_step, am_ii, am_nx] at hs
    cases hs
    exact sd_lconst C hc (kk cells slots (by simp) (by simp))
  case ldc2_w n9 =>
    simp only [am_step, am_ii, am_nx] at hs
    cases hs
    exact sd_ldc2 C hc (kk cells slots (by simp) (by simp))
  case ldc n9 =>
    simp only [am_step, am_ii, am_nx] at hs
    cases hs
    exact sd_ldc C hc (kk cells slots (by simp) (by simp))
  case getstatic n9 =>
    simp only [am_step, am_ii, am_nx] at hs
    cases hs
    exact sd_gets C hc (kk cells slots (by simp) (by simp))
  case iload_n n9 =>
    simp only [am_step, am_ldi, am_nx] at hs
    split at hs
    · rename_i h7
      cases hs
      exact sd_iload_n C hc h7 (kk cells slots (by simp) (by simp))
    · cases hs
  case iload n9 =>
    simp only [am_step, am_ldi, am_nx] at hs
    split at hs
    · rename_i h7
      cases hs
      exact sd_iload C hc h7 (kk cells slots (by simp) (by simp))
    · cases hs
  case lload_n n9 =>
    simp only [am_step, am_ldl, am_nx] at hs
    split at hs
    · rename_i h7
      cases hs
      exact sd_lload_n C hc h7 (kk cells slots (by simp) (by simp))
    · cases hs
  case lload n9 =>
    simp only [am_step, am_ldl, am_nx] at hs
    split at hs
    · rename_i h7
      cases hs
      exact sd_lload C hc h7 (kk cells slots (by simp) (by simp))
    · cases hs
  case aload_n n9 =>
    simp only [am_step, am_lda, am_nx] at hs
    split at hs
    · rename_i h7
      cases hs
      exact sd_aload_n C hc h7 (kk cells slots (by simp) (by simp))
    · rename_i h7
      cases hs
      exact sd_aloadN_n C hc h7 (kk cells slots (by simp) (by simp))
    · cases hs
  case aload n9 =>
    simp only [am_step, am_lda, am_nx] at hs
    split at hs
    · rename_i h7
      cases hs
      exact sd_aload C hc h7 (kk cells slots (by simp) (by simp))
    · rename_i h7
      cases hs
      exact sd_aloadN C hc h7 (kk cells slots (by simp) (by simp))
    · cases hs
  case istore_n n9 =>
    simp only [am_step, am_sti, am_nx] at hs
    split at hs
    · split at hs
      · rename_i h7
        cases hs
        exact sd_istore_n (a := 0) C hc h7.1 h7.2 (kk cells slots (by simp) (by simp))
      · cases hs
    · cases hs
  case istore n9 =>
    simp only [am_step, am_sti, am_nx] at hs
    split at hs
    · split at hs
      · rename_i h7
        cases hs
        exact sd_istore (a := 0) C hc h7.1 h7.2 (kk cells slots (by simp) (by simp))
      · cases hs
    · cases hs
  case astore_n n9 =>
    simp only [am_step, am_sta, am_nx] at hs
    split at hs
    · split at hs
      · rename_i h7
        cases hs
        exact sd_astore_n C hc h7.1 h7.2 (kk cells slots (by simp) (by simp))
      · cases hs
    · cases hs
  case astore n9 =>
    simp only [am_step, am_sta, am_nx] at hs
    split at hs
    · split at hs
      · rename_i h7
        cases hs
        exact sd_astore C hc h7.1 h7.2 (kk cells slots (by simp) (by simp))
      · cases hs
    · cases hs
  case lstore_n n9 =>
    simp only [am_step, am_stl, am_nx] at hs
    split at hs
    · split at hs
      · rename_i h7
        cases hs
        exact sd_lstore_n (a := 0) C hc h7.1 h7.2 (kk cells slots (by simp) (by simp))
      · cases hs
    · cases hs
  case lstore n9 =>
    simp only [am_step, am_stl, am_nx] at hs
    split at hs
    · split at hs
      · rename_i h7
        cases hs
        exact sd_lstore (a := 0) C hc h7.1 h7.2 (kk cells slots (by simp) (by simp))
      · cases hs
    · cases hs
  case iinc n9 k9 =>
    simp only [am_step, am_inc, am_nx] at hs
    split at hs
    · rename_i h6
      split at hs
      · rename_i h7
        cases hs
        exact sd_iinc C hc h6 h7 (kk cells slots (by simp) (by simp))
      · cases hs
    · cases hs
  case getfield n9 =>
    simp only [am_step, am_getf, am_nx] at hs
    split at hs
    · split at hs
      · rename_i a9 st9 h7
        have hf := (am_fact (am_lt C) hc).2
        simp only [am_ck, am_fdok, Bool.and_eq_true, decide_eq_true_eq] at hf
        have h3 := hf.2.2.2.2
        rw [am_getD_eq (v := 2) hf.2.2.2.1] at h3
        split at hs
        · cases hs
          exact sd_get C hc h7 (by unfold am_fv; rw [h3]; rfl) (kk cells slots (by simp) (by simp))
        · cases hs
          exact sd_get C hc h7 (by unfold am_fv; rw [h3]; rfl) (kk cells slots (by simp) (by simp))
        · rename_i h8 h9
          cases hs
          refine sd_get C hc h7 ?_ (kk cells slots (by simp) (by simp))
          rw [am_rv_cv]
          unfold am_fv
          rw [h3]
          match r3, h8, h9 with
          | 0, h8, _ => exact (h8 rfl).elim
          | 1, _, h9 => exact (h9 rfl).elim
          | k9 + 2, _, _ => rfl
      · cases hs
    · cases hs
  case putfield n9 =>
    simp only [am_step, am_putf, am_nx] at hs
    have hf := (am_fact (am_lt C) hc).2
    simp only [am_ck, am_fdok, Bool.and_eq_true, decide_eq_true_eq] at hf
    have h3 := hf.2.2.1.2.2
    have h4 := am_ty_of hf.2.2.1.1 hf.2.2.1.2.1
    rw [h3] at h4
    rw [am_getD_eq (v := 2) hf.2.2.1.2.1] at h3
    split at hs
    · split at hs
      · rename_i x9 a9 st9 h7
        cases hs
        refine sd_put (w9 := .int x9) (M' := (M.1, M.2.1, u2 M.2.2.1 a9 r2 x9, M.2.2.2)) C hc h7 rfl rfl (fun q9 h9 => am_cell_congr rfl (u2_ne h9) rfl (fun i9 => rfl)) ?_ (fun i9 h9 => ?_) (fun ty9 hty => ?_) (kk cells slots (by simp) (by simp [am_sz]))
        · unfold am_fv
          rw [h3]
          exact congrArg Value.int u2_same
        · unfold am_fv
          dsimp only
          rw [u2_off h9]
        · rw [hty] at h4
          cases ty9 <;> first | exact h4.elim | exact ⟨rfl, rfl⟩
      · cases hs
    · split at hs
      · rename_i x9 a9 st9 h7
        cases hs
        refine sd_put (w9 := .long x9) (M' := (M.1, M.2.1, M.2.2.1, u2 M.2.2.2 a9 r2 x9)) C hc h7 rfl rfl (fun q9 h9 => am_cell_congr rfl rfl (u2_ne h9) (fun i9 => rfl)) ?_ (fun i9 h9 => ?_) (fun ty9 hty => ?_) (kk cells slots (by simp) (by simp [am_sz]))
        · unfold am_fv
          rw [h3]
          exact congrArg Value.long u2_same
        · unfold am_fv
          dsimp only
          rw [u2_off h9]
        · rw [hty] at h4
          cases ty9 <;> first | exact h4.elim | exact ⟨rfl, rfl⟩
      · cases hs
    · split at hs
      · rename_i v9 a9 st9 h7
        cases hs
        intro H locs cls hl hA
        obtain ⟨n8, hn8⟩ := am_kd_of h7.1 (by have := hf.2.2.1.1; omega)
        have hla : a9 < M.2.1.length := by rw [hA.2.2.1.1]; exact (am_place hA.2.2.1 hn8).1
        revert hA hl
        revert H locs cls
        refine sd_put (w9 := .ref v9) (M' := (M.1, am_wr M.2.1 a9 r2 (some v9), M.2.2.1, M.2.2.2)) C hc h7.1 rfl (by show (am_wr M.2.1 a9 r2 (some v9)).length = _; unfold am_wr; rw [List.length_set]) (fun q9 h9 => am_cell_congr rfl rfl rfl (fun i9 => ?_)) ?_ (fun i9 h9 => ?_) (fun ty9 hty => ?_) (kk cells slots (by simp) (by simp [am_sz]))
        · rw [am_rd_wr hla h7.2.2, if_neg (fun z => h9 z.1)]
        · unfold am_fv
          rw [h3]
          show va_rf ((am_rd (am_wr M.2.1 a9 r2 (some v9)) a9 r2).map (am_ad b ad)) = _
          rw [am_rd_wr hla h7.2.2, if_pos ⟨rfl, rfl⟩]
          rfl
        · unfold am_fv
          dsimp only
          rw [am_rd_wr hla h7.2.2, if_neg (fun z => h9 z.2)]
        · rw [hty] at h4
          cases ty9 <;> first | exact h4.elim | exact ⟨rfl, rfl⟩
      · cases hs
    · cases hs
  case iaload =>
    simp only [am_step, am_iald, am_nx] at hs
    split at hs
    · split at hs
      · rename_i h6
        split at hs
        · rename_i h7
          cases hs
          subst h6
          exact sd_ialdX C hc h7.1 (kk cells slots (by simp) (by simp))
        · cases hs
      · split at hs
        · rename_i h6
          split at hs
          · rename_i h7
            cases hs
            subst h6
            exact sd_ialdO C hc h7 (kk cells slots (by simp) (by simp))
          · cases hs
        · split at hs
          · rename_i h6
            split at hs
            · rename_i h7
              cases hs
              exact sd_iald C hc h6 h7 (kk cells slots (by simp) (by simp))
            · cases hs
          · cases hs
    · cases hs
  case arraylength =>
    simp only [am_step, am_alen, am_nx] at hs
    split at hs
    · split at hs
      · rename_i h6
        cases hs
        obtain ⟨rfl, -⟩ := h6
        exact sd_alenX C hc (kk cells slots (by simp) (by simp))
      · cases hs
    · cases hs
  case laload =>
    simp only [am_step, am_lald, am_nx] at hs
    split at hs
    · split at hs
      · rename_i h6
        split at hs
        · rename_i h7
          cases hs
          exact sd_lald C hc h6 h7 (kk cells slots (by simp) (by simp))
        · cases hs
      · cases hs
    · cases hs
  case iastore =>
    simp only [am_step, am_iast, am_nx] at hs
    split at hs
    · split at hs
      · rename_i h6
        split at hs
        · rename_i h7
          cases hs
          exact sd_iast C hc h6 h7 (kk cells slots (by simp) (by simp [am_sz]))
        · cases hs
      · cases hs
    · cases hs
  case lastore =>
    simp only [am_step, am_last, am_nx] at hs
    split at hs
    · split at hs
      · rename_i h6
        split at hs
        · rename_i h7
          cases hs
          exact sd_last C hc h6 h7 (kk cells slots (by simp) (by simp [am_sz]))
        · cases hs
      · cases hs
    · cases hs
  case baload =>
    simp only [am_step, am_bald, am_nx] at hs
    split at hs
    · split at hs
      · rename_i h6
        split at hs
        · rename_i h7
          cases hs
          exact sd_bald C hc h6 h7 (kk cells slots (by simp) (by simp))
        · cases hs
      · rename_i h6 h5
        split at hs
        · rename_i h7
          cases hs
          exact sd_zald C hc h6 h7 (kk cells slots (by simp) (by simp))
        · cases hs
      · cases hs
    · cases hs
  case bastore =>
    simp only [am_step, am_bast, am_nx] at hs
    split at hs
    · split at hs
      · rename_i h6
        split at hs
        · rename_i h7
          cases hs
          exact sd_bast C hc h6 h7 (kk cells slots (by simp) (by simp [am_sz]))
        · cases hs
      · rename_i h6 h5
        split at hs
        · rename_i h7
          cases hs
          exact sd_zast C hc h6 h7 (kk cells slots (by simp) (by simp [am_sz]))
        · cases hs
      · cases hs
    · cases hs
  case aaload =>
    simp only [am_step, am_aald, am_nx] at hs
    split at hs
    · split at hs
      · rename_i h6
        split at hs
        · rename_i h7
          cases hs
          exact sd_aald C hc (Or.inl rfl) h6 h7 (kk cells slots (by simp) (by simp))
        · cases hs
      · rename_i h6 h5
        split at hs
        · rename_i h7
          cases hs
          exact sd_aald C hc (Or.inr rfl) h6 h7 (kk cells slots (by simp) (by simp))
        · cases hs
      · cases hs
    · cases hs
  case aastore =>
    simp only [am_step, am_aast, am_nx] at hs
    split at hs
    · split at hs
      · rename_i h6
        split at hs
        · rename_i h7
          cases hs
          exact sd_aast C hc h6 h7.1 h7.2.1 h7.2.2.2 (kk cells slots (by simp) (by simp [am_sz]))
        · cases hs
      · cases hs
    · cases hs
  case if_icmp c9 z9 =>
    simp only [am_step, am_icmp, am_nx] at hs
    split at hs
    · rename_i y9 x9 st9
      cases c9
      case eq =>
        split at hs
        · rename_i h6
          cases hs
          simp only [am_cm, decide_eq_true_eq] at h6
          exact sd_icmp_eq C hc (fun _ => (kk cells slots (by simp) (by simp))) (fun h8 => absurd h6 h8)
        · rename_i h6
          cases hs
          simp only [am_cm, decide_eq_true_eq] at h6
          exact sd_icmp_eq C hc (fun h8 => absurd h8 h6) (fun _ => (kk cells slots (by simp) (by simp)))
      case ne =>
        split at hs
        · rename_i h6
          cases hs
          simp only [am_cm, decide_eq_true_eq] at h6
          exact sd_icmp_ne C hc (fun _ => (kk cells slots (by simp) (by simp))) (fun h8 => absurd h6 (fun z => z h8))
        · rename_i h6
          cases hs
          simp only [am_cm, decide_eq_true_eq] at h6
          exact sd_icmp_ne C hc (fun h8 => absurd h8 h6) (fun _ => (kk cells slots (by simp) (by simp)))
      case lt =>
        split at hs
        · rename_i h6
          cases hs
          simp only [am_cm, decide_eq_true_eq] at h6
          exact sd_icmp_lt C hc (fun _ => (kk cells slots (by simp) (by simp))) (fun h8 => absurd h6 h8)
        · rename_i h6
          cases hs
          simp only [am_cm, decide_eq_true_eq] at h6
          exact sd_icmp_lt C hc (fun h8 => absurd h8 h6) (fun _ => (kk cells slots (by simp) (by simp)))
      case ge =>
        split at hs
        · rename_i h6
          cases hs
          simp only [am_cm, decide_eq_true_eq] at h6
          exact sd_icmp_ge C hc (fun _ => (kk cells slots (by simp) (by simp))) (fun h8 => absurd h6 h8)
        · rename_i h6
          cases hs
          simp only [am_cm, decide_eq_true_eq] at h6
          exact sd_icmp_ge C hc (fun h8 => absurd h8 h6) (fun _ => (kk cells slots (by simp) (by simp)))
      case gt =>
        split at hs
        · rename_i h6
          cases hs
          simp only [am_cm, decide_eq_true_eq] at h6
          exact sd_icmp_gt C hc (fun _ => (kk cells slots (by simp) (by simp))) (fun h8 => absurd h6 h8)
        · rename_i h6
          cases hs
          simp only [am_cm, decide_eq_true_eq] at h6
          exact sd_icmp_gt C hc (fun h8 => absurd h8 h6) (fun _ => (kk cells slots (by simp) (by simp)))
      case le =>
        split at hs
        · rename_i h6
          cases hs
          simp only [am_cm, decide_eq_true_eq] at h6
          exact sd_icmp_le C hc (fun _ => (kk cells slots (by simp) (by simp))) (fun h8 => absurd h6 h8)
        · rename_i h6
          cases hs
          simp only [am_cm, decide_eq_true_eq] at h6
          exact sd_icmp_le C hc (fun h8 => absurd h8 h6) (fun _ => (kk cells slots (by simp) (by simp)))
    · cases hs
  case ifCond c9 z9 =>
    simp only [am_step, am_ifc, am_nx] at hs
    split at hs
    · rename_i x9 st9
      cases c9
      case eq =>
        split at hs
        · rename_i h6
          cases hs
          simp only [am_cm, decide_eq_true_eq] at h6
          exact sd_if_eq C hc (fun _ => (kk cells slots (by simp) (by simp))) (fun h8 => absurd h6 h8)
        · rename_i h6
          cases hs
          simp only [am_cm, decide_eq_true_eq] at h6
          exact sd_if_eq C hc (fun h8 => absurd h8 h6) (fun _ => (kk cells slots (by simp) (by simp)))
      case ne =>
        split at hs
        · rename_i h6
          cases hs
          simp only [am_cm, decide_eq_true_eq] at h6
          exact sd_if_ne C hc (fun _ => (kk cells slots (by simp) (by simp))) (fun h8 => absurd h6 (fun z => z h8))
        · rename_i h6
          cases hs
          simp only [am_cm, decide_eq_true_eq] at h6
          exact sd_if_ne C hc (fun h8 => absurd h8 h6) (fun _ => (kk cells slots (by simp) (by simp)))
      case lt =>
        split at hs
        · rename_i h6
          cases hs
          simp only [am_cm, decide_eq_true_eq] at h6
          exact sd_if_lt C hc (fun _ => (kk cells slots (by simp) (by simp))) (fun h8 => absurd h6 h8)
        · rename_i h6
          cases hs
          simp only [am_cm, decide_eq_true_eq] at h6
          exact sd_if_lt C hc (fun h8 => absurd h8 h6) (fun _ => (kk cells slots (by simp) (by simp)))
      case ge =>
        split at hs
        · rename_i h6
          cases hs
          simp only [am_cm, decide_eq_true_eq] at h6
          exact sd_if_ge C hc (fun _ => (kk cells slots (by simp) (by simp))) (fun h8 => absurd h6 h8)
        · rename_i h6
          cases hs
          simp only [am_cm, decide_eq_true_eq] at h6
          exact sd_if_ge C hc (fun h8 => absurd h8 h6) (fun _ => (kk cells slots (by simp) (by simp)))
      case gt =>
        split at hs
        · rename_i h6
          cases hs
          simp only [am_cm, decide_eq_true_eq] at h6
          exact sd_if_gt C hc (fun _ => (kk cells slots (by simp) (by simp))) (fun h8 => absurd h6 h8)
        · rename_i h6
          cases hs
          simp only [am_cm, decide_eq_true_eq] at h6
          exact sd_if_gt C hc (fun h8 => absurd h8 h6) (fun _ => (kk cells slots (by simp) (by simp)))
      case le =>
        split at hs
        · rename_i h6
          cases hs
          simp only [am_cm, decide_eq_true_eq] at h6
          exact sd_if_le C hc (fun _ => (kk cells slots (by simp) (by simp))) (fun h8 => absurd h6 h8)
        · rename_i h6
          cases hs
          simp only [am_cm, decide_eq_true_eq] at h6
          exact sd_if_le C hc (fun h8 => absurd h8 h6) (fun _ => (kk cells slots (by simp) (by simp)))
    · cases hs
  case goto z9 =>
    simp only [am_step, am_ii, am_nx] at hs
    cases hs
    exact sd_goto C hc (kk cells slots (by simp) (by simp))
  case tableswitch d9 lo9 hi9 o9 =>
    simp only [am_step, am_sw, am_nx] at hs
    split at hs
    · split at hs
      · rename_i h6
        split at hs
        · rename_i h7
          cases hs
          exact sd_tswD C hc h6 h7 (kk cells slots (by simp) (by simp))
        · rename_i h7
          split at hs
          · rename_i h8
            cases hs
            exact sd_tsw C hc h6 h7 h8 (kk cells slots (by simp) (by simp))
          · cases hs
      · cases hs
    · cases hs
  case new n9 =>
    simp only [am_step, am_new, am_nx] at hs
    split at hs
    · rename_i ts9 h6
      cases hs
      have hN2 : M.1.length < 1000000 := by have h8 := hN; simp [List.length_append] at h8; omega
      have hc1 : cells + 1 ≤ R.cells := by have := hcap.1; simpa [List.length_append] using this
      have hc2 : slots + ts9.length ≤ R.slots := by have := hcap.2; simpa [am_sz, List.sum_append] using this
      exact sd_new C hc h6 hN2 hc1 hc2 (kk _ _ (by simp [List.length_append]) (by simp [am_sz, List.sum_append]))
    · cases hs
  case newarray t9 =>
    simp only [am_step, am_newa, am_nx] at hs
    split at hs
    · split at hs
      · rename_i x9 st9 h7
        cases hs
        have hN2 : M.1.length < 1000000 := by have h8 := hN; simp [List.length_append] at h8; omega
        have hc1 : cells + 1 ≤ R.cells := by have := hcap.1; simpa [List.length_append] using this
        have hc2 : slots + x9.toNatClampNeg ≤ R.slots := by have := hcap.2; simpa [am_sz, List.sum_append] using this
        cases t9
        case int =>
          exact sd_newa_int C hc h7.1 h7.2.1 hN2 hc1 hc2 (kk _ _ (by simp [List.length_append]) (by simp [am_sz, List.sum_append]))
        case byte =>
          exact sd_newa_byte C hc h7.1 h7.2.1 hN2 hc1 hc2 (kk _ _ (by simp [List.length_append]) (by simp [am_sz, List.sum_append]))
        case boolean =>
          exact sd_newa_boolean C hc h7.1 h7.2.1 hN2 hc1 hc2 (kk _ _ (by simp [List.length_append]) (by simp [am_sz, List.sum_append]))
        case long =>
          exact sd_newa_long C hc h7.1 h7.2.1 hN2 hc1 hc2 (kk _ _ (by simp [List.length_append]) (by simp [am_sz, List.sum_append]))
        all_goals exact absurd rfl h7.2.2
      · cases hs
    · cases hs
  case anewarray n9 =>
    simp only [am_step, am_anew, am_nx] at hs
    split at hs
    · split at hs
      · rename_i x9 st9 h7
        cases hs
        have hN2 : M.1.length < 1000000 := by have h8 := hN; simp [List.length_append] at h8; omega
        have hc1 : cells + 1 ≤ R.cells := by have := hcap.1; simpa [List.length_append] using this
        have hc2 : slots + x9.toNatClampNeg ≤ R.slots := by have := hcap.2; simpa [am_sz, List.sum_append] using this
        exact sd_anew C hc h7.1 h7.2.1 hN2 hc1 hc2 (kk _ _ (by simp [List.length_append]) (by simp [am_sz, List.sum_append]))
      · cases hs
    · cases hs
  case multianewarray n9 k9 =>
    simp only [am_step, am_mna, am_nx] at hs
    split at hs
    · split at hs
      · rename_i x9 y9 st9 h7
        cases hs
        exact sd_mna C hc h7 hN hcap kk
      · cases hs
    · cases hs
  case invokevirtual n9 =>
    have hf := (am_fact (am_lt C) hc).2
    simp only [am_ck, Bool.and_eq_true] at hf
    simp only [am_step, am_inv, am_nx] at hs
    split at hs
    · exact absurd hf.2.2 (by simp)
    · exact absurd hf.2.2 (by simp)
    · exact absurd hf.2.2 (by simp)
    · exact absurd hf.2.2 (by simp)
    · exact absurd hf.2.2 (by simp)
    · exact absurd hf.2.2 (by simp)
    · split at hs
      · split at hs
        · rename_i h7
          cases hs
          exact sd_slen C hc h7 hR ⟨by simpa using hcap.1, by simpa using hcap.2⟩ (kk cells slots (by simp) (by simp))
        · cases hs
      · cases hs
    · split at hs
      · split at hs
        · rename_i h7
          cases hs
          exact sd_chat C hc h7 hR ⟨by simpa using hcap.1, by simpa using hcap.2⟩ (kk cells slots (by simp) (by simp))
        · cases hs
      · cases hs
    · split at hs
      · split at hs <;> cases hs
      · split at hs
        · split at hs <;> cases hs
        · cases hs
  case invokestatic n9 =>
    have hf := (am_fact (am_lt C) hc).2
    simp only [am_ck, Bool.and_eq_true] at hf
    simp only [am_step, am_inv, am_nx] at hs
    split at hs
    · exact absurd hf.2.2 (by simp)
    · split at hs
      · split at hs
        · rename_i h7
          cases hs
          exact sd_max C hc h7 hR ⟨by simpa using hcap.1, by simpa using hcap.2⟩ (kk cells slots (by simp) (by simp))
        · cases hs
      · cases hs
    · split at hs
      · split at hs
        · rename_i h7
          cases hs
          exact sd_min C hc h7 hR ⟨by simpa using hcap.1, by simpa using hcap.2⟩ (kk cells slots (by simp) (by simp))
        · cases hs
      · cases hs
    · split at hs
      · split at hs
        · rename_i h7
          cases hs
          exact sd_abs C hc h7 hR ⟨by simpa using hcap.1, by simpa using hcap.2⟩ (kk cells slots (by simp) (by simp))
        · cases hs
      · cases hs
    · split at hs
      · split at hs
        · rename_i h7
          cases hs
          exact sd_labs C hc h7 hR ⟨by simpa using hcap.1, by simpa using hcap.2⟩ (kk cells slots (by simp) (by simp))
        · cases hs
      · cases hs
    · split at hs
      · split at hs
        · rename_i h7
          cases hs
          exact sd_lmax C hc h7 hR ⟨by simpa using hcap.1, by simpa using hcap.2⟩ (kk cells slots (by simp) (by simp))
        · cases hs
      · cases hs
    · exact absurd hf.2.2 (by simp)
    · exact absurd hf.2.2 (by simp)
    · split at hs
      · split at hs <;> cases hs
      · split at hs
        · split at hs <;> cases hs
        · cases hs
  case invokespecial n9 =>
    have hf := (am_fact (am_lt C) hc).2
    simp only [am_ck, Bool.and_eq_true] at hf
    simp only [am_step, am_inv, am_nx] at hs
    split at hs
    · split at hs
      · split at hs
        · rename_i h7
          cases hs
          exact sd_obj C hc h7 hR (kk cells slots (by simp) (by simp))
        · cases hs
      · cases hs
    · exact absurd hf.2.2 (by simp)
    · exact absurd hf.2.2 (by simp)
    · exact absurd hf.2.2 (by simp)
    · exact absurd hf.2.2 (by simp)
    · exact absurd hf.2.2 (by simp)
    · exact absurd hf.2.2 (by simp)
    · exact absurd hf.2.2 (by simp)
    · split at hs
      · split at hs <;> cases hs
      · split at hs
        · split at hs <;> cases hs
        · cases hs
  all_goals (first | (simp [am_step] at hs; done) | (simp only [am_step, am_ret] at hs; split at hs <;> first | cases hs | (split at hs <;> cases hs)))
end SN4
