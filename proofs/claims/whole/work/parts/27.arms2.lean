/-! ===== calls: strip, set, play, planned ===== -/
def S6 (S : Nat → Int32) (z : Nat) (a0 a1 a2 a3 a4 a5 : Int32) : Nat → Int32 := fun i => if i = z + 5 then a5 else if i = z + 4 then a4 else if i = z + 3 then a3 else if i = z + 2 then a2 else if i = z + 1 then a1 else if i = z then a0 else S i
theorem S6_at {S : Nat → Int32} {z : Nat} {a0 a1 a2 a3 a4 a5 : Int32} : S6 S z a0 a1 a2 a3 a4 a5 (z + 0) = a0 ∧ S6 S z a0 a1 a2 a3 a4 a5 (z + 1) = a1 ∧ S6 S z a0 a1 a2 a3 a4 a5 (z + 2) = a2 ∧ S6 S z a0 a1 a2 a3 a4 a5 (z + 3) = a3 ∧ S6 S z a0 a1 a2 a3 a4 a5 (z + 4) = a4 ∧ S6 S z a0 a1 a2 a3 a4 a5 (z + 5) = a5 := by
  refine ⟨?_, ?_, ?_, ?_, ?_, ?_⟩ <;> simp [S6]
theorem S6_ne {S : Nat → Int32} {z : Nat} {a0 a1 a2 a3 a4 a5 : Int32} {k : Nat} (h : k < z ∨ z + 6 ≤ k) : S6 S z a0 a1 a2 a3 a4 a5 k = S k := by
  unfold S6
  rw [if_neg (by omega), if_neg (by omega), if_neg (by omega), if_neg (by omega), if_neg (by omega), if_neg (by omega)]
theorem rTurf_new {n : Nat} {T : Nat → Nat → Int32} {S W B : Nat → Int32} (h : rTurf n T S W B) (hn : n < 8) : rTurf (n + 1) T (S6 S (6 * n) 40 40 40 12 30 0) (fun i => if i = n then 0 else W i) (fun i => if i = n then 0 else B i) := by
  intro s hs
  have h1 := h s hs
  by_cases e : s = n
  · subst e
    refine ⟨fun _ => ?_, fun h2 => by omega⟩
    obtain ⟨a0, a1, a2, a3, a4, a5, a6, a7⟩ := h1.2 (Nat.le_refl _)
    obtain ⟨c0, c1, c2, c3, c4, c5⟩ := S6_at (S := S) (z := 6 * s) (a0 := 40) (a1 := 40) (a2 := 40) (a3 := 12) (a4 := 30) (a5 := 0)
    refine ⟨⟨a0.trans c0.symm, a1.trans c1.symm, a2.trans c2.symm, a3.trans c3.symm, a4.trans c4.symm, a5.trans c5.symm, a6.trans (if_pos rfl).symm, a7.trans (if_pos rfl).symm⟩, ?_⟩
    unfold tB
    rw [a0, a1, a2, a3, a4, a5, a6, a7]
    unfold rB
    decide
  · refine ⟨fun h2 => ?_, fun h2 => h1.2 (by omega)⟩
    obtain ⟨⟨a0, a1, a2, a3, a4, a5, a6, a7⟩, h3⟩ := h1.1 (by omega)
    refine ⟨⟨?_, ?_, ?_, ?_, ?_, ?_, ?_, ?_⟩, h3⟩
    · rw [S6_ne (by omega)]; exact a0
    · rw [S6_ne (by omega)]; exact a1
    · rw [S6_ne (by omega)]; exact a2
    · rw [S6_ne (by omega)]; exact a3
    · rw [S6_ne (by omega)]; exact a4
    · rw [S6_ne (by omega)]; exact a5
    · exact a6.trans (if_neg e).symm
    · exact a7.trans (if_neg e).symm
theorem a_strip {X : Nat × (Nat → Int32)} : arm X 106 148 [.ref 0] [.ref 134, .retAddr 0] := by
  intro mi ml b hR Q hK
  obtain ⟨n, t, hst, ⟨hn0, hn4, hn⟩, ⟨ht0, ht5, ht⟩, hT, hF, hC, hM, hP, hTp, hB, hFa, hS, hMk, hfr⟩ := hR
  refine wi_aload_n rfl rfl ?_
  refine wi_getIv (v := (Int32.ofNat (n))) rfl (kd_0 ..) hn0 ?_
  refine wi_bipush (x := 8) rfl rfl ?_
  refine wi_icmp_lt rfl (fun g1 => ?_) (fun g1 => ?_)
  · replace g1 := (lt_n (a := n) (b := 8) rfl (rfl : (8 : Int32) = Int32.ofNat 8) (by omega) (by omega)).mp g1
    refine wi_aload_n rfl rfl ?_
    refine wi_dup rfl rfl ?_
    refine wi_getIv (v := (Int32.ofNat (n))) rfl (kd_0 ..) hn0 ?_
    refine wi_iconst (x := 1) rfl rfl ?_
    refine wn_iadd (z := (Int32.ofNat (n + 1))) rfl (add_n (a := n) (b := 1) rfl (rfl : (1 : Int32) = Int32.ofNat 1)) ?_
    refine wi_putI rfl (kd_0 ..) ?_
    refine wi_aload_n rfl rfl ?_
    refine wi_aload_n rfl rfl ?_
    refine wi_getIv (v := (Int32.ofNat (n + 1))) rfl (kd_0 ..) rfl ?_
    refine wi_iconst (x := 1) rfl rfl ?_
    refine wn_isub (z := (Int32.ofNat (n + 1 - 1))) rfl (sub_n (a := n + 1) (b := 1) rfl (rfl : (1 : Int32) = Int32.ofNat 1) (by omega)) ?_
    refine wi_callV1 rfl (by decide) (by decide) rfl (kd_0 ..) rfl rfl rfl ?_
    refine wi_aload_n rfl rfl ?_
    refine wi_iconst (x := 0) rfl rfl ?_
    refine wi_putI rfl (kd_0 ..) ?_
    refine wi_iload_n rfl rfl ?_
    refine wi_iret rfl (Or.inl rfl) ?_
    refine wi_iret rfl (Or.inl rfl) ?_
    refine hK _ _ _ _ (fun Q2 h2 => ?_)
    refine wi_aload_n rfl rfl ?_
    refine wi_iconst (x := 0) rfl rfl ?_
    refine wi_putI rfl (kd_134 ..) ?_
    refine wi_aload_n rfl rfl ?_
    refine wi_iconst (x := 0) rfl rfl ?_
    refine wi_putI rfl (kd_134 ..) ?_
    refine wi_aload_n rfl rfl ?_
    refine wi_getIv (v := (Int32.ofNat (n))) rfl (kd_134 ..) hn4 ?_
    refine wi_bipush (x := 8) rfl rfl ?_
    refine wi_icmp_ne rfl (fun _ => ?_) (fun h9 => absurd trivial (by exfalso; have h8 := (not_congr (ne_n (a := n) (b := 8) rfl (rfl : (8 : Int32) = Int32.ofNat 8) (by omega) (by omega))).mp h9; omega))
    refine wi_bipush (x := 6) rfl rfl ?_
    refine wi_aload_n rfl rfl ?_
    refine wi_getIv (v := (Int32.ofNat (n))) rfl (kd_134 ..) hn4 ?_
    refine wn_imul (z := (Int32.ofNat (6 * n))) rfl (mul_n (a := 6) (b := n) (rfl : (6 : Int32) = Int32.ofNat 6) rfl) ?_
    refine wi_istore_n rfl (Nat.le_of_ble_eq_true rfl) rfl rfl ?_
    refine wi_aload_n rfl rfl ?_
    refine wi_getR rfl (kd_134 ..) (rd_134_6 _) ?_
    refine wi_iload_n rfl rfl ?_
    refine wi_bipush (x := 40) rfl rfl ?_
    refine wn_iastore (q := 6 * n) rfl (ln_135 ..) rfl (by omega) (by decide) ?_
    refine wi_aload_n rfl rfl ?_
    refine wi_getR rfl (kd_134 ..) (rd_134_6 _) ?_
    refine wi_iload_n rfl rfl ?_
    refine wi_iconst (x := 1) rfl rfl ?_
    refine wn_iadd (z := (Int32.ofNat (6 * n + 1))) rfl (add_n (a := 6 * n) (b := 1) rfl (rfl : (1 : Int32) = Int32.ofNat 1)) ?_
    refine wi_bipush (x := 40) rfl rfl ?_
    refine wn_iastore (q := 6 * n + 1) rfl (ln_135 ..) rfl (by omega) (by decide) ?_
    refine wi_aload_n rfl rfl ?_
    refine wi_getR rfl (kd_134 ..) (rd_134_6 _) ?_
    refine wi_iload_n rfl rfl ?_
    refine wi_iconst (x := 2) rfl rfl ?_
    refine wn_iadd (z := (Int32.ofNat (6 * n + 2))) rfl (add_n (a := 6 * n) (b := 2) rfl (rfl : (2 : Int32) = Int32.ofNat 2)) ?_
    refine wi_bipush (x := 40) rfl rfl ?_
    refine wn_iastore (q := 6 * n + 2) rfl (ln_135 ..) rfl (by omega) (by decide) ?_
    refine wi_aload_n rfl rfl ?_
    refine wi_getR rfl (kd_134 ..) (rd_134_6 _) ?_
    refine wi_iload_n rfl rfl ?_
    refine wi_iconst (x := 3) rfl rfl ?_
    refine wn_iadd (z := (Int32.ofNat (6 * n + 3))) rfl (add_n (a := 6 * n) (b := 3) rfl (rfl : (3 : Int32) = Int32.ofNat 3)) ?_
    refine wi_bipush (x := 12) rfl rfl ?_
    refine wn_iastore (q := 6 * n + 3) rfl (ln_135 ..) rfl (by omega) (by decide) ?_
    refine wi_aload_n rfl rfl ?_
    refine wi_getR rfl (kd_134 ..) (rd_134_6 _) ?_
    refine wi_iload_n rfl rfl ?_
    refine wi_iconst (x := 4) rfl rfl ?_
    refine wn_iadd (z := (Int32.ofNat (6 * n + 4))) rfl (add_n (a := 6 * n) (b := 4) rfl (rfl : (4 : Int32) = Int32.ofNat 4)) ?_
    refine wi_bipush (x := 30) rfl rfl ?_
    refine wn_iastore (q := 6 * n + 4) rfl (ln_135 ..) rfl (by omega) (by decide) ?_
    refine wi_aload_n rfl rfl ?_
    refine wi_getR rfl (kd_134 ..) (rd_134_6 _) ?_
    refine wi_iload_n rfl rfl ?_
    refine wi_iconst (x := 5) rfl rfl ?_
    refine wn_iadd (z := (Int32.ofNat (6 * n + 5))) rfl (add_n (a := 6 * n) (b := 5) rfl (rfl : (5 : Int32) = Int32.ofNat 5)) ?_
    refine wi_iconst (x := 0) rfl rfl ?_
    refine wn_iastore (q := 6 * n + 5) rfl (ln_135 ..) rfl (by omega) (by decide) ?_
    refine wi_aload_n rfl rfl ?_
    refine wi_getR rfl (kd_134 ..) (rd_134_7 _) ?_
    refine wi_aload_n rfl rfl ?_
    refine wi_getIv (v := (Int32.ofNat (n))) rfl (kd_134 ..) hn4 ?_
    refine wi_iconst (x := 0) rfl rfl ?_
    refine wn_iastore (q := n) rfl (ln_136 ..) rfl (by omega) (by decide) ?_
    refine wi_aload_n rfl rfl ?_
    refine wi_getR rfl (kd_134 ..) (rd_134_8 _) ?_
    refine wi_aload_n rfl rfl ?_
    refine wi_getIv (v := (Int32.ofNat (n))) rfl (kd_134 ..) hn4 ?_
    refine wi_iconst (x := 0) rfl rfl ?_
    refine wn_iastore (q := n) rfl (ln_137 ..) rfl (by omega) (by decide) ?_
    refine wi_aload_n rfl rfl ?_
    refine wi_dup rfl rfl ?_
    refine wi_getIv (v := (Int32.ofNat (n))) rfl (kd_134 ..) hn4 ?_
    refine wi_iconst (x := 1) rfl rfl ?_
    refine wn_iadd (z := (Int32.ofNat (n + 1))) rfl (add_n (a := n) (b := 1) rfl (rfl : (1 : Int32) = Int32.ofNat 1)) ?_
    refine wi_putI rfl (kd_134 ..) ?_
    refine wi_aload_n rfl rfl ?_
    refine wi_getIv (v := (Int32.ofNat (n + 1))) rfl (kd_134 ..) rfl ?_
    refine wi_iconst (x := 1) rfl rfl ?_
    refine wn_isub (z := (Int32.ofNat (n + 1 - 1))) rfl (sub_n (a := n + 1) (b := 1) rfl (rfl : (1 : Int32) = Int32.ofNat 1) (by omega)) ?_
    refine wi_iret rfl (Or.inl rfl) ?_
    refine h2 _ _ _ ?_
    exact ⟨n + 1, t, rfl, ⟨rfl, rfl, by omega⟩, ⟨ht0, ht5, ht⟩, rTurf_new hT (by omega), hF, hC, rMeas_mono hM (by omega), hP, hTp, hB, hFa, hS, hMk, hfr⟩
  · replace g1 := (not_congr (lt_n (a := n) (b := 8) rfl (rfl : (8 : Int32) = Int32.ofNat 8) (by omega) (by omega))).mp g1
    refine wi_aload_n rfl rfl ?_
    refine wi_iconst (x := 3) rfl rfl ?_
    refine wi_callV1 rfl (by decide) (by decide) rfl (kd_0 ..) rfl rfl rfl ?_
    refine wi_aload_n rfl rfl ?_
    refine wi_iload_n rfl rfl ?_
    refine wi_putI rfl (kd_0 ..) ?_
    refine wi_iconst (x := (-1)) rfl rfl ?_
    refine wi_iret rfl (Or.inl rfl) ?_
    refine wi_iret rfl (Or.inl rfl) ?_
    refine hK _ _ _ _ (fun Q2 h2 => ?_)
    refine wi_aload_n rfl rfl ?_
    refine wi_iconst (x := 0) rfl rfl ?_
    refine wi_putI rfl (kd_134 ..) ?_
    refine wi_aload_n rfl rfl ?_
    refine wi_iconst (x := 0) rfl rfl ?_
    refine wi_putI rfl (kd_134 ..) ?_
    refine wi_aload_n rfl rfl ?_
    refine wi_getIv (v := (Int32.ofNat (n))) rfl (kd_134 ..) hn4 ?_
    refine wi_bipush (x := 8) rfl rfl ?_
    refine wi_icmp_ne rfl (fun h9 => absurd trivial (by exfalso; have h8 := (ne_n (a := n) (b := 8) rfl (rfl : (8 : Int32) = Int32.ofNat 8) (by omega) (by omega)).mp h9; omega)) (fun _ => ?_)
    refine wi_aload_n rfl rfl ?_
    refine wi_iconst (x := 3) rfl rfl ?_
    refine wi_callV1 rfl (by decide) (by decide) rfl (kd_134 ..) rfl rfl rfl ?_
    refine wi_aload_n rfl rfl ?_
    refine wi_iload_n rfl rfl ?_
    refine wi_putI rfl (kd_134 ..) ?_
    refine wi_iconst (x := (-1)) rfl rfl ?_
    refine wi_iret rfl (Or.inl rfl) ?_
    refine wi_iret rfl (Or.inl rfl) ?_
    refine h2 _ _ _ ?_
    exact ⟨n, t, rfl, ⟨hn0, hn4, hn⟩, ⟨ht0, ht5, ht⟩, hT, hF, hC, hM, hP, hTp, hB, hFa, hS, hMk, hfr⟩
theorem a_set {X : Nat × (Nat → Int32)} {s a0 a1 a2 a3 a4 a5 : Int32} : arm X 107 149 [.ref 0, .int s, .int a0, .int a1, .int a2, .int a3, .int a4, .int a5, .retAddr 0, .retAddr 0] [.ref 134, .int s, .int a0, .int a1, .int a2, .int a3, .int a4, .int a5] := by
  intro mi ml b hR Q hK
  obtain ⟨n, t, hst, ⟨hn0, hn4, hn⟩, ⟨ht0, ht5, ht⟩, hT, hF, hC, hM, hP, hTp, hB, hFa, hS, hMk, hfr⟩ := hR
  rcases st_cases s (n := n) (by omega) with e_s | ⟨q, h_q, rfl⟩
  · refine wi_aload_n rfl rfl ?_
    refine wi_iload_n rfl rfl ?_
    refine wi_callV1 rfl (by decide) (by decide) rfl (kd_0 ..) rfl rfl rfl (c_has hn0 e_s ?_)
    refine wi_if_ne rfl (fun h9 => absurd h9 (by decide)) (fun _ => ?_)
    refine wi_aload_n rfl rfl ?_
    refine wi_iconst (x := 1) rfl rfl ?_
    refine wi_callV1 rfl (by decide) (by decide) rfl (kd_0 ..) rfl rfl rfl ?_
    refine wi_aload_n rfl rfl ?_
    refine wi_iload_n rfl rfl ?_
    refine wi_putI rfl (kd_0 ..) ?_
    refine wi_iconst (x := 0) rfl rfl ?_
    refine wi_iret rfl (by decide) ?_
    refine wi_iret rfl (by decide) ?_
    refine hK _ _ _ _ (fun Q2 h2 => ?_)
    refine wi_aload_n rfl rfl ?_
    refine wi_iconst (x := 0) rfl rfl ?_
    refine wi_putI rfl (kd_134 ..) ?_
    refine wi_aload_n rfl rfl ?_
    refine wi_iconst (x := 0) rfl rfl ?_
    refine wi_putI rfl (kd_134 ..) ?_
    refine wi_aload_n rfl rfl ?_
    refine wi_iload_n rfl rfl ?_
    refine wi_callV1 rfl (by decide) (by decide) rfl (kd_134 ..) rfl rfl rfl (c_isS hn4 e_s ?_)
    refine wi_if_ne rfl (fun h9 => absurd h9 (by decide)) (fun _ => ?_)
    refine wi_aload_n rfl rfl ?_
    refine wi_iconst (x := 1) rfl rfl ?_
    refine wi_callV1 rfl (by decide) (by decide) rfl (kd_134 ..) rfl rfl rfl ?_
    refine wi_aload_n rfl rfl ?_
    refine wi_iload_n rfl rfl ?_
    refine wi_putI rfl (kd_134 ..) ?_
    refine wi_iconst (x := 0) rfl rfl ?_
    refine wi_iret rfl (by decide) ?_
    refine wi_iret rfl (by decide) ?_
    refine h2 _ _ _ ?_
    exact ⟨n, t, rfl, ⟨hn0, hn4, hn⟩, ⟨ht0, ht5, ht⟩, hT, hF, hC, hM, hP, hTp, hB, hFa, hS, hMk, hfr⟩
  · skip
    rcases wn_cases a0 0 100 (by decide) (by decide) with e_a0 | ⟨p0, l_p0, h_p0, rfl⟩
    · refine wi_aload_n rfl rfl ?_
      refine wi_iload_n rfl rfl ?_
      refine wi_callV1 rfl (by decide) (by decide) rfl (kd_0 ..) rfl rfl rfl (c_has hn0 (st_in (by omega) (by omega)) ?_)
      refine wi_if_ne rfl (fun _ => ?_) (fun h9 => absurd (by decide) h9)
      refine wi_iload_n rfl rfl ?_
      refine wi_iconst (x := 0) rfl rfl ?_
      refine wi_bipush (x := 100) rfl rfl ?_
      refine wi_callS3 rfl (by decide) (by decide) rfl rfl rfl (c_wiV e_a0 ?_)
      refine wi_if_eq rfl (fun _ => ?_) (fun h9 => absurd (by decide) h9)
      refine wi_iconst (x := 0) rfl rfl ?_
      refine wi_istore rfl (Nat.le_of_ble_eq_true rfl) rfl rfl ?_
      refine wi_iload rfl rfl ?_
      refine wi_iconst (x := 0) rfl rfl ?_
      refine wi_bipush (x := 60) rfl rfl ?_
      refine wi_callS3 rfl (by decide) (by decide) rfl rfl rfl (c_wiV rfl ?_)
      refine wi_if_eq rfl (fun g1 => ?_) (fun g1 => ?_)
      · skip
        refine wi_iconst (x := 0) rfl rfl ?_
        refine wi_istore rfl (Nat.le_of_ble_eq_true rfl) rfl rfl ?_
        refine wi_iload rfl rfl ?_
        refine wi_if_eq rfl (fun _ => ?_) (fun h9 => absurd (by decide) h9)
        refine wi_aload_n rfl rfl ?_
        refine wi_iconst (x := 2) rfl rfl ?_
        refine wi_callV1 rfl (by decide) (by decide) rfl (kd_0 ..) rfl rfl rfl ?_
        refine wi_aload_n rfl rfl ?_
        refine wi_iload_n rfl rfl ?_
        refine wi_putI rfl (kd_0 ..) ?_
        refine wi_iconst (x := 0) rfl rfl ?_
        refine wi_iret rfl (by decide) ?_
        refine wi_iret rfl (by decide) ?_
        refine hK _ _ _ _ (fun Q2 h2 => ?_)
        refine wi_aload_n rfl rfl ?_
        refine wi_iconst (x := 0) rfl rfl ?_
        refine wi_putI rfl (kd_134 ..) ?_
        refine wi_aload_n rfl rfl ?_
        refine wi_iconst (x := 0) rfl rfl ?_
        refine wi_putI rfl (kd_134 ..) ?_
        refine wi_aload_n rfl rfl ?_
        refine wi_iload_n rfl rfl ?_
        refine wi_callV1 rfl (by decide) (by decide) rfl (kd_134 ..) rfl rfl rfl (c_isS hn4 (st_in (by omega) (by omega)) ?_)
        refine wi_if_ne rfl (fun _ => ?_) (fun h9 => absurd (by decide) h9)
        refine wi_iload_n rfl rfl ?_
        refine wi_bipush (x := 100) rfl rfl ?_
        refine wi_callS2 rfl (by decide) (by decide) rfl rfl rfl (c_isIn e_a0 ?_)
        refine wi_if_eq rfl (fun _ => ?_) (fun h9 => absurd (by decide) h9)
        refine wi_aload_n rfl rfl ?_
        refine wi_iconst (x := 2) rfl rfl ?_
        refine wi_callV1 rfl (by decide) (by decide) rfl (kd_134 ..) rfl rfl rfl ?_
        refine wi_aload_n rfl rfl ?_
        refine wi_iload_n rfl rfl ?_
        refine wi_putI rfl (kd_134 ..) ?_
        refine wi_iconst (x := 0) rfl rfl ?_
        refine wi_iret rfl (by decide) ?_
        refine wi_iret rfl (by decide) ?_
        refine h2 _ _ _ ?_
        exact ⟨n, t, rfl, ⟨hn0, hn4, hn⟩, ⟨ht0, ht5, ht⟩, hT, hF, hC, hM, hP, hTp, hB, hFa, hS, hMk, hfr⟩
      · skip
        refine wi_iload rfl rfl ?_
        refine wi_iconst (x := 0) rfl rfl ?_
        refine wi_bipush (x := 100) rfl rfl ?_
        refine wi_callS3 rfl (by decide) (by decide) rfl rfl rfl (c_wiV rfl ?_)
        refine wi_if_eq rfl (fun g52 => ?_) (fun g52 => ?_)
        · skip
          refine wi_iconst (x := 0) rfl rfl ?_
          refine wi_istore rfl (Nat.le_of_ble_eq_true rfl) rfl rfl ?_
          refine wi_iload rfl rfl ?_
          refine wi_if_eq rfl (fun _ => ?_) (fun h9 => absurd (by decide) h9)
          refine wi_aload_n rfl rfl ?_
          refine wi_iconst (x := 2) rfl rfl ?_
          refine wi_callV1 rfl (by decide) (by decide) rfl (kd_0 ..) rfl rfl rfl ?_
          refine wi_aload_n rfl rfl ?_
          refine wi_iload_n rfl rfl ?_
          refine wi_putI rfl (kd_0 ..) ?_
          refine wi_iconst (x := 0) rfl rfl ?_
          refine wi_iret rfl (by decide) ?_
          refine wi_iret rfl (by decide) ?_
          refine hK _ _ _ _ (fun Q2 h2 => ?_)
          refine wi_aload_n rfl rfl ?_
          refine wi_iconst (x := 0) rfl rfl ?_
          refine wi_putI rfl (kd_134 ..) ?_
          refine wi_aload_n rfl rfl ?_
          refine wi_iconst (x := 0) rfl rfl ?_
          refine wi_putI rfl (kd_134 ..) ?_
          refine wi_aload_n rfl rfl ?_
          refine wi_iload_n rfl rfl ?_
          refine wi_callV1 rfl (by decide) (by decide) rfl (kd_134 ..) rfl rfl rfl (c_isS hn4 (st_in (by omega) (by omega)) ?_)
          refine wi_if_ne rfl (fun _ => ?_) (fun h9 => absurd (by decide) h9)
          refine wi_iload_n rfl rfl ?_
          refine wi_bipush (x := 100) rfl rfl ?_
          refine wi_callS2 rfl (by decide) (by decide) rfl rfl rfl (c_isIn e_a0 ?_)
          refine wi_if_eq rfl (fun _ => ?_) (fun h9 => absurd (by decide) h9)
          refine wi_aload_n rfl rfl ?_
          refine wi_iconst (x := 2) rfl rfl ?_
          refine wi_callV1 rfl (by decide) (by decide) rfl (kd_134 ..) rfl rfl rfl ?_
          refine wi_aload_n rfl rfl ?_
          refine wi_iload_n rfl rfl ?_
          refine wi_putI rfl (kd_134 ..) ?_
          refine wi_iconst (x := 0) rfl rfl ?_
          refine wi_iret rfl (by decide) ?_
          refine wi_iret rfl (by decide) ?_
          refine h2 _ _ _ ?_
          exact ⟨n, t, rfl, ⟨hn0, hn4, hn⟩, ⟨ht0, ht5, ht⟩, hT, hF, hC, hM, hP, hTp, hB, hFa, hS, hMk, hfr⟩
        · skip
          refine wi_iload rfl rfl ?_
          refine wi_iconst (x := 0) rfl rfl ?_
          refine wi_bipush (x := 100) rfl rfl ?_
          refine wi_callS3 rfl (by decide) (by decide) rfl rfl rfl (c_wiV rfl ?_)
          refine wi_if_eq rfl (fun g103 => ?_) (fun g103 => ?_)
          · skip
            refine wi_iconst (x := 0) rfl rfl ?_
            refine wi_istore rfl (Nat.le_of_ble_eq_true rfl) rfl rfl ?_
            refine wi_iload rfl rfl ?_
            refine wi_if_eq rfl (fun _ => ?_) (fun h9 => absurd (by decide) h9)
            refine wi_aload_n rfl rfl ?_
            refine wi_iconst (x := 2) rfl rfl ?_
            refine wi_callV1 rfl (by decide) (by decide) rfl (kd_0 ..) rfl rfl rfl ?_
            refine wi_aload_n rfl rfl ?_
            refine wi_iload_n rfl rfl ?_
            refine wi_putI rfl (kd_0 ..) ?_
            refine wi_iconst (x := 0) rfl rfl ?_
            refine wi_iret rfl (by decide) ?_
            refine wi_iret rfl (by decide) ?_
            refine hK _ _ _ _ (fun Q2 h2 => ?_)
            refine wi_aload_n rfl rfl ?_
            refine wi_iconst (x := 0) rfl rfl ?_
            refine wi_putI rfl (kd_134 ..) ?_
            refine wi_aload_n rfl rfl ?_
            refine wi_iconst (x := 0) rfl rfl ?_
            refine wi_putI rfl (kd_134 ..) ?_
            refine wi_aload_n rfl rfl ?_
            refine wi_iload_n rfl rfl ?_
            refine wi_callV1 rfl (by decide) (by decide) rfl (kd_134 ..) rfl rfl rfl (c_isS hn4 (st_in (by omega) (by omega)) ?_)
            refine wi_if_ne rfl (fun _ => ?_) (fun h9 => absurd (by decide) h9)
            refine wi_iload_n rfl rfl ?_
            refine wi_bipush (x := 100) rfl rfl ?_
            refine wi_callS2 rfl (by decide) (by decide) rfl rfl rfl (c_isIn e_a0 ?_)
            refine wi_if_eq rfl (fun _ => ?_) (fun h9 => absurd (by decide) h9)
            refine wi_aload_n rfl rfl ?_
            refine wi_iconst (x := 2) rfl rfl ?_
            refine wi_callV1 rfl (by decide) (by decide) rfl (kd_134 ..) rfl rfl rfl ?_
            refine wi_aload_n rfl rfl ?_
            refine wi_iload_n rfl rfl ?_
            refine wi_putI rfl (kd_134 ..) ?_
            refine wi_iconst (x := 0) rfl rfl ?_
            refine wi_iret rfl (by decide) ?_
            refine wi_iret rfl (by decide) ?_
            refine h2 _ _ _ ?_
            exact ⟨n, t, rfl, ⟨hn0, hn4, hn⟩, ⟨ht0, ht5, ht⟩, hT, hF, hC, hM, hP, hTp, hB, hFa, hS, hMk, hfr⟩
          · skip
            refine wi_iconst (x := 1) rfl rfl ?_
            refine wi_goto rfl ?_
            refine wi_istore rfl (Nat.le_of_ble_eq_true rfl) rfl rfl ?_
            refine wi_iload rfl rfl ?_
            refine wi_if_eq rfl (fun _ => ?_) (fun h9 => absurd (by decide) h9)
            refine wi_aload_n rfl rfl ?_
            refine wi_iconst (x := 2) rfl rfl ?_
            refine wi_callV1 rfl (by decide) (by decide) rfl (kd_0 ..) rfl rfl rfl ?_
            refine wi_aload_n rfl rfl ?_
            refine wi_iload_n rfl rfl ?_
            refine wi_putI rfl (kd_0 ..) ?_
            refine wi_iconst (x := 0) rfl rfl ?_
            refine wi_iret rfl (by decide) ?_
            refine wi_iret rfl (by decide) ?_
            refine hK _ _ _ _ (fun Q2 h2 => ?_)
            refine wi_aload_n rfl rfl ?_
            refine wi_iconst (x := 0) rfl rfl ?_
            refine wi_putI rfl (kd_134 ..) ?_
            refine wi_aload_n rfl rfl ?_
            refine wi_iconst (x := 0) rfl rfl ?_
            refine wi_putI rfl (kd_134 ..) ?_
            refine wi_aload_n rfl rfl ?_
            refine wi_iload_n rfl rfl ?_
            refine wi_callV1 rfl (by decide) (by decide) rfl (kd_134 ..) rfl rfl rfl (c_isS hn4 (st_in (by omega) (by omega)) ?_)
            refine wi_if_ne rfl (fun _ => ?_) (fun h9 => absurd (by decide) h9)
            refine wi_iload_n rfl rfl ?_
            refine wi_bipush (x := 100) rfl rfl ?_
            refine wi_callS2 rfl (by decide) (by decide) rfl rfl rfl (c_isIn e_a0 ?_)
            refine wi_if_eq rfl (fun _ => ?_) (fun h9 => absurd (by decide) h9)
            refine wi_aload_n rfl rfl ?_
            refine wi_iconst (x := 2) rfl rfl ?_
            refine wi_callV1 rfl (by decide) (by decide) rfl (kd_134 ..) rfl rfl rfl ?_
            refine wi_aload_n rfl rfl ?_
            refine wi_iload_n rfl rfl ?_
            refine wi_putI rfl (kd_134 ..) ?_
            refine wi_iconst (x := 0) rfl rfl ?_
            refine wi_iret rfl (by decide) ?_
            refine wi_iret rfl (by decide) ?_
            refine h2 _ _ _ ?_
            exact ⟨n, t, rfl, ⟨hn0, hn4, hn⟩, ⟨ht0, ht5, ht⟩, hT, hF, hC, hM, hP, hTp, hB, hFa, hS, hMk, hfr⟩
    · skip
      rcases wn_cases a1 0 100 (by decide) (by decide) with e_a1 | ⟨p1, l_p1, h_p1, rfl⟩
      · refine wi_aload_n rfl rfl ?_
        refine wi_iload_n rfl rfl ?_
        refine wi_callV1 rfl (by decide) (by decide) rfl (kd_0 ..) rfl rfl rfl (c_has hn0 (st_in (by omega) (by omega)) ?_)
        refine wi_if_ne rfl (fun _ => ?_) (fun h9 => absurd (by decide) h9)
        refine wi_iload_n rfl rfl ?_
        refine wi_iconst (x := 0) rfl rfl ?_
        refine wi_bipush (x := 100) rfl rfl ?_
        refine wi_callS3 rfl (by decide) (by decide) rfl rfl rfl (c_wiV (wn_in (lo := 0) (hi := 100) (by omega) (by omega) (by decide)) ?_)
        refine wi_if_eq rfl (fun h9 => absurd h9 (by decide)) (fun _ => ?_)
        refine wi_iload_n rfl rfl ?_
        refine wi_iconst (x := 0) rfl rfl ?_
        refine wi_bipush (x := 100) rfl rfl ?_
        refine wi_callS3 rfl (by decide) (by decide) rfl rfl rfl (c_wiV e_a1 ?_)
        refine wi_if_eq rfl (fun _ => ?_) (fun h9 => absurd (by decide) h9)
        refine wi_iconst (x := 0) rfl rfl ?_
        refine wi_istore rfl (Nat.le_of_ble_eq_true rfl) rfl rfl ?_
        refine wi_iload rfl rfl ?_
        refine wi_iconst (x := 0) rfl rfl ?_
        refine wi_bipush (x := 60) rfl rfl ?_
        refine wi_callS3 rfl (by decide) (by decide) rfl rfl rfl (c_wiV rfl ?_)
        refine wi_if_eq rfl (fun g1 => ?_) (fun g1 => ?_)
        · skip
          refine wi_iconst (x := 0) rfl rfl ?_
          refine wi_istore rfl (Nat.le_of_ble_eq_true rfl) rfl rfl ?_
          refine wi_iload rfl rfl ?_
          refine wi_if_eq rfl (fun _ => ?_) (fun h9 => absurd (by decide) h9)
          refine wi_aload_n rfl rfl ?_
          refine wi_iconst (x := 2) rfl rfl ?_
          refine wi_callV1 rfl (by decide) (by decide) rfl (kd_0 ..) rfl rfl rfl ?_
          refine wi_aload_n rfl rfl ?_
          refine wi_iload_n rfl rfl ?_
          refine wi_putI rfl (kd_0 ..) ?_
          refine wi_iconst (x := 0) rfl rfl ?_
          refine wi_iret rfl (by decide) ?_
          refine wi_iret rfl (by decide) ?_
          refine hK _ _ _ _ (fun Q2 h2 => ?_)
          refine wi_aload_n rfl rfl ?_
          refine wi_iconst (x := 0) rfl rfl ?_
          refine wi_putI rfl (kd_134 ..) ?_
          refine wi_aload_n rfl rfl ?_
          refine wi_iconst (x := 0) rfl rfl ?_
          refine wi_putI rfl (kd_134 ..) ?_
          refine wi_aload_n rfl rfl ?_
          refine wi_iload_n rfl rfl ?_
          refine wi_callV1 rfl (by decide) (by decide) rfl (kd_134 ..) rfl rfl rfl (c_isS hn4 (st_in (by omega) (by omega)) ?_)
          refine wi_if_ne rfl (fun _ => ?_) (fun h9 => absurd (by decide) h9)
          refine wi_iload_n rfl rfl ?_
          refine wi_bipush (x := 100) rfl rfl ?_
          refine wi_callS2 rfl (by decide) (by decide) rfl rfl rfl (c_isIn (wn_in (lo := 0) (hi := 100) (by omega) (by omega) (by decide)) ?_)
          refine wi_if_eq rfl (fun h9 => absurd h9 (by decide)) (fun _ => ?_)
          refine wi_iload_n rfl rfl ?_
          refine wi_bipush (x := 100) rfl rfl ?_
          refine wi_callS2 rfl (by decide) (by decide) rfl rfl rfl (c_isIn e_a1 ?_)
          refine wi_if_eq rfl (fun _ => ?_) (fun h9 => absurd (by decide) h9)
          refine wi_aload_n rfl rfl ?_
          refine wi_iconst (x := 2) rfl rfl ?_
          refine wi_callV1 rfl (by decide) (by decide) rfl (kd_134 ..) rfl rfl rfl ?_
          refine wi_aload_n rfl rfl ?_
          refine wi_iload_n rfl rfl ?_
          refine wi_putI rfl (kd_134 ..) ?_
          refine wi_iconst (x := 0) rfl rfl ?_
          refine wi_iret rfl (by decide) ?_
          refine wi_iret rfl (by decide) ?_
          refine h2 _ _ _ ?_
          exact ⟨n, t, rfl, ⟨hn0, hn4, hn⟩, ⟨ht0, ht5, ht⟩, hT, hF, hC, hM, hP, hTp, hB, hFa, hS, hMk, hfr⟩
        · skip
          refine wi_iload rfl rfl ?_
          refine wi_iconst (x := 0) rfl rfl ?_
          refine wi_bipush (x := 100) rfl rfl ?_
          refine wi_callS3 rfl (by decide) (by decide) rfl rfl rfl (c_wiV rfl ?_)
          refine wi_if_eq rfl (fun g52 => ?_) (fun g52 => ?_)
          · skip
            refine wi_iconst (x := 0) rfl rfl ?_
            refine wi_istore rfl (Nat.le_of_ble_eq_true rfl) rfl rfl ?_
            refine wi_iload rfl rfl ?_
            refine wi_if_eq rfl (fun _ => ?_) (fun h9 => absurd (by decide) h9)
            refine wi_aload_n rfl rfl ?_
            refine wi_iconst (x := 2) rfl rfl ?_
            refine wi_callV1 rfl (by decide) (by decide) rfl (kd_0 ..) rfl rfl rfl ?_
            refine wi_aload_n rfl rfl ?_
            refine wi_iload_n rfl rfl ?_
            refine wi_putI rfl (kd_0 ..) ?_
            refine wi_iconst (x := 0) rfl rfl ?_
            refine wi_iret rfl (by decide) ?_
            refine wi_iret rfl (by decide) ?_
            refine hK _ _ _ _ (fun Q2 h2 => ?_)
            refine wi_aload_n rfl rfl ?_
            refine wi_iconst (x := 0) rfl rfl ?_
            refine wi_putI rfl (kd_134 ..) ?_
            refine wi_aload_n rfl rfl ?_
            refine wi_iconst (x := 0) rfl rfl ?_
            refine wi_putI rfl (kd_134 ..) ?_
            refine wi_aload_n rfl rfl ?_
            refine wi_iload_n rfl rfl ?_
            refine wi_callV1 rfl (by decide) (by decide) rfl (kd_134 ..) rfl rfl rfl (c_isS hn4 (st_in (by omega) (by omega)) ?_)
            refine wi_if_ne rfl (fun _ => ?_) (fun h9 => absurd (by decide) h9)
            refine wi_iload_n rfl rfl ?_
            refine wi_bipush (x := 100) rfl rfl ?_
            refine wi_callS2 rfl (by decide) (by decide) rfl rfl rfl (c_isIn (wn_in (lo := 0) (hi := 100) (by omega) (by omega) (by decide)) ?_)
            refine wi_if_eq rfl (fun h9 => absurd h9 (by decide)) (fun _ => ?_)
            refine wi_iload_n rfl rfl ?_
            refine wi_bipush (x := 100) rfl rfl ?_
            refine wi_callS2 rfl (by decide) (by decide) rfl rfl rfl (c_isIn e_a1 ?_)
            refine wi_if_eq rfl (fun _ => ?_) (fun h9 => absurd (by decide) h9)
            refine wi_aload_n rfl rfl ?_
            refine wi_iconst (x := 2) rfl rfl ?_
            refine wi_callV1 rfl (by decide) (by decide) rfl (kd_134 ..) rfl rfl rfl ?_
            refine wi_aload_n rfl rfl ?_
            refine wi_iload_n rfl rfl ?_
            refine wi_putI rfl (kd_134 ..) ?_
            refine wi_iconst (x := 0) rfl rfl ?_
            refine wi_iret rfl (by decide) ?_
            refine wi_iret rfl (by decide) ?_
            refine h2 _ _ _ ?_
            exact ⟨n, t, rfl, ⟨hn0, hn4, hn⟩, ⟨ht0, ht5, ht⟩, hT, hF, hC, hM, hP, hTp, hB, hFa, hS, hMk, hfr⟩
          · skip
            refine wi_iload rfl rfl ?_
            refine wi_iconst (x := 0) rfl rfl ?_
            refine wi_bipush (x := 100) rfl rfl ?_
            refine wi_callS3 rfl (by decide) (by decide) rfl rfl rfl (c_wiV rfl ?_)
            refine wi_if_eq rfl (fun g103 => ?_) (fun g103 => ?_)
            · skip
              refine wi_iconst (x := 0) rfl rfl ?_
              refine wi_istore rfl (Nat.le_of_ble_eq_true rfl) rfl rfl ?_
              refine wi_iload rfl rfl ?_
              refine wi_if_eq rfl (fun _ => ?_) (fun h9 => absurd (by decide) h9)
              refine wi_aload_n rfl rfl ?_
              refine wi_iconst (x := 2) rfl rfl ?_
              refine wi_callV1 rfl (by decide) (by decide) rfl (kd_0 ..) rfl rfl rfl ?_
              refine wi_aload_n rfl rfl ?_
              refine wi_iload_n rfl rfl ?_
              refine wi_putI rfl (kd_0 ..) ?_
              refine wi_iconst (x := 0) rfl rfl ?_
              refine wi_iret rfl (by decide) ?_
              refine wi_iret rfl (by decide) ?_
              refine hK _ _ _ _ (fun Q2 h2 => ?_)
              refine wi_aload_n rfl rfl ?_
              refine wi_iconst (x := 0) rfl rfl ?_
              refine wi_putI rfl (kd_134 ..) ?_
              refine wi_aload_n rfl rfl ?_
              refine wi_iconst (x := 0) rfl rfl ?_
              refine wi_putI rfl (kd_134 ..) ?_
              refine wi_aload_n rfl rfl ?_
              refine wi_iload_n rfl rfl ?_
              refine wi_callV1 rfl (by decide) (by decide) rfl (kd_134 ..) rfl rfl rfl (c_isS hn4 (st_in (by omega) (by omega)) ?_)
              refine wi_if_ne rfl (fun _ => ?_) (fun h9 => absurd (by decide) h9)
              refine wi_iload_n rfl rfl ?_
              refine wi_bipush (x := 100) rfl rfl ?_
              refine wi_callS2 rfl (by decide) (by decide) rfl rfl rfl (c_isIn (wn_in (lo := 0) (hi := 100) (by omega) (by omega) (by decide)) ?_)
              refine wi_if_eq rfl (fun h9 => absurd h9 (by decide)) (fun _ => ?_)
              refine wi_iload_n rfl rfl ?_
              refine wi_bipush (x := 100) rfl rfl ?_
              refine wi_callS2 rfl (by decide) (by decide) rfl rfl rfl (c_isIn e_a1 ?_)
              refine wi_if_eq rfl (fun _ => ?_) (fun h9 => absurd (by decide) h9)
              refine wi_aload_n rfl rfl ?_
              refine wi_iconst (x := 2) rfl rfl ?_
              refine wi_callV1 rfl (by decide) (by decide) rfl (kd_134 ..) rfl rfl rfl ?_
              refine wi_aload_n rfl rfl ?_
              refine wi_iload_n rfl rfl ?_
              refine wi_putI rfl (kd_134 ..) ?_
              refine wi_iconst (x := 0) rfl rfl ?_
              refine wi_iret rfl (by decide) ?_
              refine wi_iret rfl (by decide) ?_
              refine h2 _ _ _ ?_
              exact ⟨n, t, rfl, ⟨hn0, hn4, hn⟩, ⟨ht0, ht5, ht⟩, hT, hF, hC, hM, hP, hTp, hB, hFa, hS, hMk, hfr⟩
            · skip
              refine wi_iconst (x := 1) rfl rfl ?_
              refine wi_goto rfl ?_
              refine wi_istore rfl (Nat.le_of_ble_eq_true rfl) rfl rfl ?_
              refine wi_iload rfl rfl ?_
              refine wi_if_eq rfl (fun _ => ?_) (fun h9 => absurd (by decide) h9)
              refine wi_aload_n rfl rfl ?_
              refine wi_iconst (x := 2) rfl rfl ?_
              refine wi_callV1 rfl (by decide) (by decide) rfl (kd_0 ..) rfl rfl rfl ?_
              refine wi_aload_n rfl rfl ?_
              refine wi_iload_n rfl rfl ?_
              refine wi_putI rfl (kd_0 ..) ?_
              refine wi_iconst (x := 0) rfl rfl ?_
              refine wi_iret rfl (by decide) ?_
              refine wi_iret rfl (by decide) ?_
              refine hK _ _ _ _ (fun Q2 h2 => ?_)
              refine wi_aload_n rfl rfl ?_
              refine wi_iconst (x := 0) rfl rfl ?_
              refine wi_putI rfl (kd_134 ..) ?_
              refine wi_aload_n rfl rfl ?_
              refine wi_iconst (x := 0) rfl rfl ?_
              refine wi_putI rfl (kd_134 ..) ?_
              refine wi_aload_n rfl rfl ?_
              refine wi_iload_n rfl rfl ?_
              refine wi_callV1 rfl (by decide) (by decide) rfl (kd_134 ..) rfl rfl rfl (c_isS hn4 (st_in (by omega) (by omega)) ?_)
              refine wi_if_ne rfl (fun _ => ?_) (fun h9 => absurd (by decide) h9)
              refine wi_iload_n rfl rfl ?_
              refine wi_bipush (x := 100) rfl rfl ?_
              refine wi_callS2 rfl (by decide) (by decide) rfl rfl rfl (c_isIn (wn_in (lo := 0) (hi := 100) (by omega) (by omega) (by decide)) ?_)
              refine wi_if_eq rfl (fun h9 => absurd h9 (by decide)) (fun _ => ?_)
              refine wi_iload_n rfl rfl ?_
              refine wi_bipush (x := 100) rfl rfl ?_
              refine wi_callS2 rfl (by decide) (by decide) rfl rfl rfl (c_isIn e_a1 ?_)
              refine wi_if_eq rfl (fun _ => ?_) (fun h9 => absurd (by decide) h9)
              refine wi_aload_n rfl rfl ?_
              refine wi_iconst (x := 2) rfl rfl ?_
              refine wi_callV1 rfl (by decide) (by decide) rfl (kd_134 ..) rfl rfl rfl ?_
              refine wi_aload_n rfl rfl ?_
              refine wi_iload_n rfl rfl ?_
              refine wi_putI rfl (kd_134 ..) ?_
              refine wi_iconst (x := 0) rfl rfl ?_
              refine wi_iret rfl (by decide) ?_
              refine wi_iret rfl (by decide) ?_
              refine h2 _ _ _ ?_
              exact ⟨n, t, rfl, ⟨hn0, hn4, hn⟩, ⟨ht0, ht5, ht⟩, hT, hF, hC, hM, hP, hTp, hB, hFa, hS, hMk, hfr⟩
      · skip
        rcases wn_cases a2 0 100 (by decide) (by decide) with e_a2 | ⟨p2, l_p2, h_p2, rfl⟩
        · refine wi_aload_n rfl rfl ?_
          refine wi_iload_n rfl rfl ?_
          refine wi_callV1 rfl (by decide) (by decide) rfl (kd_0 ..) rfl rfl rfl (c_has hn0 (st_in (by omega) (by omega)) ?_)
          refine wi_if_ne rfl (fun _ => ?_) (fun h9 => absurd (by decide) h9)
          refine wi_iload_n rfl rfl ?_
          refine wi_iconst (x := 0) rfl rfl ?_
          refine wi_bipush (x := 100) rfl rfl ?_
          refine wi_callS3 rfl (by decide) (by decide) rfl rfl rfl (c_wiV (wn_in (lo := 0) (hi := 100) (by omega) (by omega) (by decide)) ?_)
          refine wi_if_eq rfl (fun h9 => absurd h9 (by decide)) (fun _ => ?_)
          refine wi_iload_n rfl rfl ?_
          refine wi_iconst (x := 0) rfl rfl ?_
          refine wi_bipush (x := 100) rfl rfl ?_
          refine wi_callS3 rfl (by decide) (by decide) rfl rfl rfl (c_wiV (wn_in (lo := 0) (hi := 100) (by omega) (by omega) (by decide)) ?_)
          refine wi_if_eq rfl (fun h9 => absurd h9 (by decide)) (fun _ => ?_)
          refine wi_iload rfl rfl ?_
          refine wi_iconst (x := 0) rfl rfl ?_
          refine wi_bipush (x := 100) rfl rfl ?_
          refine wi_callS3 rfl (by decide) (by decide) rfl rfl rfl (c_wiV e_a2 ?_)
          refine wi_if_eq rfl (fun _ => ?_) (fun h9 => absurd (by decide) h9)
          refine wi_iconst (x := 0) rfl rfl ?_
          refine wi_istore rfl (Nat.le_of_ble_eq_true rfl) rfl rfl ?_
          refine wi_iload rfl rfl ?_
          refine wi_iconst (x := 0) rfl rfl ?_
          refine wi_bipush (x := 60) rfl rfl ?_
          refine wi_callS3 rfl (by decide) (by decide) rfl rfl rfl (c_wiV rfl ?_)
          refine wi_if_eq rfl (fun g1 => ?_) (fun g1 => ?_)
          · skip
            refine wi_iconst (x := 0) rfl rfl ?_
            refine wi_istore rfl (Nat.le_of_ble_eq_true rfl) rfl rfl ?_
            refine wi_iload rfl rfl ?_
            refine wi_if_eq rfl (fun _ => ?_) (fun h9 => absurd (by decide) h9)
            refine wi_aload_n rfl rfl ?_
            refine wi_iconst (x := 2) rfl rfl ?_
            refine wi_callV1 rfl (by decide) (by decide) rfl (kd_0 ..) rfl rfl rfl ?_
            refine wi_aload_n rfl rfl ?_
            refine wi_iload_n rfl rfl ?_
            refine wi_putI rfl (kd_0 ..) ?_
            refine wi_iconst (x := 0) rfl rfl ?_
            refine wi_iret rfl (by decide) ?_
            refine wi_iret rfl (by decide) ?_
            refine hK _ _ _ _ (fun Q2 h2 => ?_)
            refine wi_aload_n rfl rfl ?_
            refine wi_iconst (x := 0) rfl rfl ?_
            refine wi_putI rfl (kd_134 ..) ?_
            refine wi_aload_n rfl rfl ?_
            refine wi_iconst (x := 0) rfl rfl ?_
            refine wi_putI rfl (kd_134 ..) ?_
            refine wi_aload_n rfl rfl ?_
            refine wi_iload_n rfl rfl ?_
            refine wi_callV1 rfl (by decide) (by decide) rfl (kd_134 ..) rfl rfl rfl (c_isS hn4 (st_in (by omega) (by omega)) ?_)
            refine wi_if_ne rfl (fun _ => ?_) (fun h9 => absurd (by decide) h9)
            refine wi_iload_n rfl rfl ?_
            refine wi_bipush (x := 100) rfl rfl ?_
            refine wi_callS2 rfl (by decide) (by decide) rfl rfl rfl (c_isIn (wn_in (lo := 0) (hi := 100) (by omega) (by omega) (by decide)) ?_)
            refine wi_if_eq rfl (fun h9 => absurd h9 (by decide)) (fun _ => ?_)
            refine wi_iload_n rfl rfl ?_
            refine wi_bipush (x := 100) rfl rfl ?_
            refine wi_callS2 rfl (by decide) (by decide) rfl rfl rfl (c_isIn (wn_in (lo := 0) (hi := 100) (by omega) (by omega) (by decide)) ?_)
            refine wi_if_eq rfl (fun h9 => absurd h9 (by decide)) (fun _ => ?_)
            refine wi_iload rfl rfl ?_
            refine wi_bipush (x := 100) rfl rfl ?_
            refine wi_callS2 rfl (by decide) (by decide) rfl rfl rfl (c_isIn e_a2 ?_)
            refine wi_if_eq rfl (fun _ => ?_) (fun h9 => absurd (by decide) h9)
            refine wi_aload_n rfl rfl ?_
            refine wi_iconst (x := 2) rfl rfl ?_
            refine wi_callV1 rfl (by decide) (by decide) rfl (kd_134 ..) rfl rfl rfl ?_
            refine wi_aload_n rfl rfl ?_
            refine wi_iload_n rfl rfl ?_
            refine wi_putI rfl (kd_134 ..) ?_
            refine wi_iconst (x := 0) rfl rfl ?_
            refine wi_iret rfl (by decide) ?_
            refine wi_iret rfl (by decide) ?_
            refine h2 _ _ _ ?_
            exact ⟨n, t, rfl, ⟨hn0, hn4, hn⟩, ⟨ht0, ht5, ht⟩, hT, hF, hC, hM, hP, hTp, hB, hFa, hS, hMk, hfr⟩
          · skip
            refine wi_iload rfl rfl ?_
            refine wi_iconst (x := 0) rfl rfl ?_
            refine wi_bipush (x := 100) rfl rfl ?_
            refine wi_callS3 rfl (by decide) (by decide) rfl rfl rfl (c_wiV rfl ?_)
            refine wi_if_eq rfl (fun g52 => ?_) (fun g52 => ?_)
            · skip
              refine wi_iconst (x := 0) rfl rfl ?_
              refine wi_istore rfl (Nat.le_of_ble_eq_true rfl) rfl rfl ?_
              refine wi_iload rfl rfl ?_
              refine wi_if_eq rfl (fun _ => ?_) (fun h9 => absurd (by decide) h9)
              refine wi_aload_n rfl rfl ?_
              refine wi_iconst (x := 2) rfl rfl ?_
              refine wi_callV1 rfl (by decide) (by decide) rfl (kd_0 ..) rfl rfl rfl ?_
              refine wi_aload_n rfl rfl ?_
              refine wi_iload_n rfl rfl ?_
              refine wi_putI rfl (kd_0 ..) ?_
              refine wi_iconst (x := 0) rfl rfl ?_
              refine wi_iret rfl (by decide) ?_
              refine wi_iret rfl (by decide) ?_
              refine hK _ _ _ _ (fun Q2 h2 => ?_)
              refine wi_aload_n rfl rfl ?_
              refine wi_iconst (x := 0) rfl rfl ?_
              refine wi_putI rfl (kd_134 ..) ?_
              refine wi_aload_n rfl rfl ?_
              refine wi_iconst (x := 0) rfl rfl ?_
              refine wi_putI rfl (kd_134 ..) ?_
              refine wi_aload_n rfl rfl ?_
              refine wi_iload_n rfl rfl ?_
              refine wi_callV1 rfl (by decide) (by decide) rfl (kd_134 ..) rfl rfl rfl (c_isS hn4 (st_in (by omega) (by omega)) ?_)
              refine wi_if_ne rfl (fun _ => ?_) (fun h9 => absurd (by decide) h9)
              refine wi_iload_n rfl rfl ?_
              refine wi_bipush (x := 100) rfl rfl ?_
              refine wi_callS2 rfl (by decide) (by decide) rfl rfl rfl (c_isIn (wn_in (lo := 0) (hi := 100) (by omega) (by omega) (by decide)) ?_)
              refine wi_if_eq rfl (fun h9 => absurd h9 (by decide)) (fun _ => ?_)
              refine wi_iload_n rfl rfl ?_
              refine wi_bipush (x := 100) rfl rfl ?_
              refine wi_callS2 rfl (by decide) (by decide) rfl rfl rfl (c_isIn (wn_in (lo := 0) (hi := 100) (by omega) (by omega) (by decide)) ?_)
              refine wi_if_eq rfl (fun h9 => absurd h9 (by decide)) (fun _ => ?_)
              refine wi_iload rfl rfl ?_
              refine wi_bipush (x := 100) rfl rfl ?_
              refine wi_callS2 rfl (by decide) (by decide) rfl rfl rfl (c_isIn e_a2 ?_)
              refine wi_if_eq rfl (fun _ => ?_) (fun h9 => absurd (by decide) h9)
              refine wi_aload_n rfl rfl ?_
              refine wi_iconst (x := 2) rfl rfl ?_
              refine wi_callV1 rfl (by decide) (by decide) rfl (kd_134 ..) rfl rfl rfl ?_
              refine wi_aload_n rfl rfl ?_
              refine wi_iload_n rfl rfl ?_
              refine wi_putI rfl (kd_134 ..) ?_
              refine wi_iconst (x := 0) rfl rfl ?_
              refine wi_iret rfl (by decide) ?_
              refine wi_iret rfl (by decide) ?_
              refine h2 _ _ _ ?_
              exact ⟨n, t, rfl, ⟨hn0, hn4, hn⟩, ⟨ht0, ht5, ht⟩, hT, hF, hC, hM, hP, hTp, hB, hFa, hS, hMk, hfr⟩
            · skip
              refine wi_iload rfl rfl ?_
              refine wi_iconst (x := 0) rfl rfl ?_
              refine wi_bipush (x := 100) rfl rfl ?_
              refine wi_callS3 rfl (by decide) (by decide) rfl rfl rfl (c_wiV rfl ?_)
              refine wi_if_eq rfl (fun g103 => ?_) (fun g103 => ?_)
              · skip
                refine wi_iconst (x := 0) rfl rfl ?_
                refine wi_istore rfl (Nat.le_of_ble_eq_true rfl) rfl rfl ?_
                refine wi_iload rfl rfl ?_
                refine wi_if_eq rfl (fun _ => ?_) (fun h9 => absurd (by decide) h9)
                refine wi_aload_n rfl rfl ?_
                refine wi_iconst (x := 2) rfl rfl ?_
                refine wi_callV1 rfl (by decide) (by decide) rfl (kd_0 ..) rfl rfl rfl ?_
                refine wi_aload_n rfl rfl ?_
                refine wi_iload_n rfl rfl ?_
                refine wi_putI rfl (kd_0 ..) ?_
                refine wi_iconst (x := 0) rfl rfl ?_
                refine wi_iret rfl (by decide) ?_
                refine wi_iret rfl (by decide) ?_
                refine hK _ _ _ _ (fun Q2 h2 => ?_)
                refine wi_aload_n rfl rfl ?_
                refine wi_iconst (x := 0) rfl rfl ?_
                refine wi_putI rfl (kd_134 ..) ?_
                refine wi_aload_n rfl rfl ?_
                refine wi_iconst (x := 0) rfl rfl ?_
                refine wi_putI rfl (kd_134 ..) ?_
                refine wi_aload_n rfl rfl ?_
                refine wi_iload_n rfl rfl ?_
                refine wi_callV1 rfl (by decide) (by decide) rfl (kd_134 ..) rfl rfl rfl (c_isS hn4 (st_in (by omega) (by omega)) ?_)
                refine wi_if_ne rfl (fun _ => ?_) (fun h9 => absurd (by decide) h9)
                refine wi_iload_n rfl rfl ?_
                refine wi_bipush (x := 100) rfl rfl ?_
                refine wi_callS2 rfl (by decide) (by decide) rfl rfl rfl (c_isIn (wn_in (lo := 0) (hi := 100) (by omega) (by omega) (by decide)) ?_)
                refine wi_if_eq rfl (fun h9 => absurd h9 (by decide)) (fun _ => ?_)
                refine wi_iload_n rfl rfl ?_
                refine wi_bipush (x := 100) rfl rfl ?_
                refine wi_callS2 rfl (by decide) (by decide) rfl rfl rfl (c_isIn (wn_in (lo := 0) (hi := 100) (by omega) (by omega) (by decide)) ?_)
                refine wi_if_eq rfl (fun h9 => absurd h9 (by decide)) (fun _ => ?_)
                refine wi_iload rfl rfl ?_
                refine wi_bipush (x := 100) rfl rfl ?_
                refine wi_callS2 rfl (by decide) (by decide) rfl rfl rfl (c_isIn e_a2 ?_)
                refine wi_if_eq rfl (fun _ => ?_) (fun h9 => absurd (by decide) h9)
                refine wi_aload_n rfl rfl ?_
                refine wi_iconst (x := 2) rfl rfl ?_
                refine wi_callV1 rfl (by decide) (by decide) rfl (kd_134 ..) rfl rfl rfl ?_
                refine wi_aload_n rfl rfl ?_
                refine wi_iload_n rfl rfl ?_
                refine wi_putI rfl (kd_134 ..) ?_
                refine wi_iconst (x := 0) rfl rfl ?_
                refine wi_iret rfl (by decide) ?_
                refine wi_iret rfl (by decide) ?_
                refine h2 _ _ _ ?_
                exact ⟨n, t, rfl, ⟨hn0, hn4, hn⟩, ⟨ht0, ht5, ht⟩, hT, hF, hC, hM, hP, hTp, hB, hFa, hS, hMk, hfr⟩
              · skip
                refine wi_iconst (x := 1) rfl rfl ?_
                refine wi_goto rfl ?_
                refine wi_istore rfl (Nat.le_of_ble_eq_true rfl) rfl rfl ?_
                refine wi_iload rfl rfl ?_
                refine wi_if_eq rfl (fun _ => ?_) (fun h9 => absurd (by decide) h9)
                refine wi_aload_n rfl rfl ?_
                refine wi_iconst (x := 2) rfl rfl ?_
                refine wi_callV1 rfl (by decide) (by decide) rfl (kd_0 ..) rfl rfl rfl ?_
                refine wi_aload_n rfl rfl ?_
                refine wi_iload_n rfl rfl ?_
                refine wi_putI rfl (kd_0 ..) ?_
                refine wi_iconst (x := 0) rfl rfl ?_
                refine wi_iret rfl (by decide) ?_
                refine wi_iret rfl (by decide) ?_
                refine hK _ _ _ _ (fun Q2 h2 => ?_)
                refine wi_aload_n rfl rfl ?_
                refine wi_iconst (x := 0) rfl rfl ?_
                refine wi_putI rfl (kd_134 ..) ?_
                refine wi_aload_n rfl rfl ?_
                refine wi_iconst (x := 0) rfl rfl ?_
                refine wi_putI rfl (kd_134 ..) ?_
                refine wi_aload_n rfl rfl ?_
                refine wi_iload_n rfl rfl ?_
                refine wi_callV1 rfl (by decide) (by decide) rfl (kd_134 ..) rfl rfl rfl (c_isS hn4 (st_in (by omega) (by omega)) ?_)
                refine wi_if_ne rfl (fun _ => ?_) (fun h9 => absurd (by decide) h9)
                refine wi_iload_n rfl rfl ?_
                refine wi_bipush (x := 100) rfl rfl ?_
                refine wi_callS2 rfl (by decide) (by decide) rfl rfl rfl (c_isIn (wn_in (lo := 0) (hi := 100) (by omega) (by omega) (by decide)) ?_)
                refine wi_if_eq rfl (fun h9 => absurd h9 (by decide)) (fun _ => ?_)
                refine wi_iload_n rfl rfl ?_
                refine wi_bipush (x := 100) rfl rfl ?_
                refine wi_callS2 rfl (by decide) (by decide) rfl rfl rfl (c_isIn (wn_in (lo := 0) (hi := 100) (by omega) (by omega) (by decide)) ?_)
                refine wi_if_eq rfl (fun h9 => absurd h9 (by decide)) (fun _ => ?_)
                refine wi_iload rfl rfl ?_
                refine wi_bipush (x := 100) rfl rfl ?_
                refine wi_callS2 rfl (by decide) (by decide) rfl rfl rfl (c_isIn e_a2 ?_)
                refine wi_if_eq rfl (fun _ => ?_) (fun h9 => absurd (by decide) h9)
                refine wi_aload_n rfl rfl ?_
                refine wi_iconst (x := 2) rfl rfl ?_
                refine wi_callV1 rfl (by decide) (by decide) rfl (kd_134 ..) rfl rfl rfl ?_
                refine wi_aload_n rfl rfl ?_
                refine wi_iload_n rfl rfl ?_
                refine wi_putI rfl (kd_134 ..) ?_
                refine wi_iconst (x := 0) rfl rfl ?_
                refine wi_iret rfl (by decide) ?_
                refine wi_iret rfl (by decide) ?_
                refine h2 _ _ _ ?_
                exact ⟨n, t, rfl, ⟨hn0, hn4, hn⟩, ⟨ht0, ht5, ht⟩, hT, hF, hC, hM, hP, hTp, hB, hFa, hS, hMk, hfr⟩
        · skip
          rcases wn_cases a3 0 60 (by decide) (by decide) with e_a3 | ⟨p3, l_p3, h_p3, rfl⟩
          · refine wi_aload_n rfl rfl ?_
            refine wi_iload_n rfl rfl ?_
            refine wi_callV1 rfl (by decide) (by decide) rfl (kd_0 ..) rfl rfl rfl (c_has hn0 (st_in (by omega) (by omega)) ?_)
            refine wi_if_ne rfl (fun _ => ?_) (fun h9 => absurd (by decide) h9)
            refine wi_iload_n rfl rfl ?_
            refine wi_iconst (x := 0) rfl rfl ?_
            refine wi_bipush (x := 100) rfl rfl ?_
            refine wi_callS3 rfl (by decide) (by decide) rfl rfl rfl (c_wiV (wn_in (lo := 0) (hi := 100) (by omega) (by omega) (by decide)) ?_)
            refine wi_if_eq rfl (fun h9 => absurd h9 (by decide)) (fun _ => ?_)
            refine wi_iload_n rfl rfl ?_
            refine wi_iconst (x := 0) rfl rfl ?_
            refine wi_bipush (x := 100) rfl rfl ?_
            refine wi_callS3 rfl (by decide) (by decide) rfl rfl rfl (c_wiV (wn_in (lo := 0) (hi := 100) (by omega) (by omega) (by decide)) ?_)
            refine wi_if_eq rfl (fun h9 => absurd h9 (by decide)) (fun _ => ?_)
            refine wi_iload rfl rfl ?_
            refine wi_iconst (x := 0) rfl rfl ?_
            refine wi_bipush (x := 100) rfl rfl ?_
            refine wi_callS3 rfl (by decide) (by decide) rfl rfl rfl (c_wiV (wn_in (lo := 0) (hi := 100) (by omega) (by omega) (by decide)) ?_)
            refine wi_if_eq rfl (fun h9 => absurd h9 (by decide)) (fun _ => ?_)
            refine wi_iconst (x := 1) rfl rfl ?_
            refine wi_goto rfl ?_
            refine wi_istore rfl (Nat.le_of_ble_eq_true rfl) rfl rfl ?_
            refine wi_iload rfl rfl ?_
            refine wi_iconst (x := 0) rfl rfl ?_
            refine wi_bipush (x := 60) rfl rfl ?_
            refine wi_callS3 rfl (by decide) (by decide) rfl rfl rfl (c_wiV e_a3 ?_)
            refine wi_if_eq rfl (fun _ => ?_) (fun h9 => absurd (by decide) h9)
            refine wi_iconst (x := 0) rfl rfl ?_
            refine wi_istore rfl (Nat.le_of_ble_eq_true rfl) rfl rfl ?_
            refine wi_iload rfl rfl ?_
            refine wi_if_eq rfl (fun h9 => absurd h9 (by decide)) (fun _ => ?_)
            refine wi_iload rfl rfl ?_
            refine wi_if_ne rfl (fun h9 => absurd h9 (by decide)) (fun _ => ?_)
            refine wi_aload_n rfl rfl ?_
            refine wi_iconst (x := 2) rfl rfl ?_
            refine wi_callV1 rfl (by decide) (by decide) rfl (kd_0 ..) rfl rfl rfl ?_
            refine wi_aload_n rfl rfl ?_
            refine wi_iload_n rfl rfl ?_
            refine wi_putI rfl (kd_0 ..) ?_
            refine wi_iconst (x := 0) rfl rfl ?_
            refine wi_iret rfl (by decide) ?_
            refine wi_iret rfl (by decide) ?_
            refine hK _ _ _ _ (fun Q2 h2 => ?_)
            refine wi_aload_n rfl rfl ?_
            refine wi_iconst (x := 0) rfl rfl ?_
            refine wi_putI rfl (kd_134 ..) ?_
            refine wi_aload_n rfl rfl ?_
            refine wi_iconst (x := 0) rfl rfl ?_
            refine wi_putI rfl (kd_134 ..) ?_
            refine wi_aload_n rfl rfl ?_
            refine wi_iload_n rfl rfl ?_
            refine wi_callV1 rfl (by decide) (by decide) rfl (kd_134 ..) rfl rfl rfl (c_isS hn4 (st_in (by omega) (by omega)) ?_)
            refine wi_if_ne rfl (fun _ => ?_) (fun h9 => absurd (by decide) h9)
            refine wi_iload_n rfl rfl ?_
            refine wi_bipush (x := 100) rfl rfl ?_
            refine wi_callS2 rfl (by decide) (by decide) rfl rfl rfl (c_isIn (wn_in (lo := 0) (hi := 100) (by omega) (by omega) (by decide)) ?_)
            refine wi_if_eq rfl (fun h9 => absurd h9 (by decide)) (fun _ => ?_)
            refine wi_iload_n rfl rfl ?_
            refine wi_bipush (x := 100) rfl rfl ?_
            refine wi_callS2 rfl (by decide) (by decide) rfl rfl rfl (c_isIn (wn_in (lo := 0) (hi := 100) (by omega) (by omega) (by decide)) ?_)
            refine wi_if_eq rfl (fun h9 => absurd h9 (by decide)) (fun _ => ?_)
            refine wi_iload rfl rfl ?_
            refine wi_bipush (x := 100) rfl rfl ?_
            refine wi_callS2 rfl (by decide) (by decide) rfl rfl rfl (c_isIn (wn_in (lo := 0) (hi := 100) (by omega) (by omega) (by decide)) ?_)
            refine wi_if_eq rfl (fun h9 => absurd h9 (by decide)) (fun _ => ?_)
            refine wi_iload rfl rfl ?_
            refine wi_bipush (x := 60) rfl rfl ?_
            refine wi_callS2 rfl (by decide) (by decide) rfl rfl rfl (c_isIn e_a3 ?_)
            refine wi_if_eq rfl (fun _ => ?_) (fun h9 => absurd (by decide) h9)
            refine wi_aload_n rfl rfl ?_
            refine wi_iconst (x := 2) rfl rfl ?_
            refine wi_callV1 rfl (by decide) (by decide) rfl (kd_134 ..) rfl rfl rfl ?_
            refine wi_aload_n rfl rfl ?_
            refine wi_iload_n rfl rfl ?_
            refine wi_putI rfl (kd_134 ..) ?_
            refine wi_iconst (x := 0) rfl rfl ?_
            refine wi_iret rfl (by decide) ?_
            refine wi_iret rfl (by decide) ?_
            refine h2 _ _ _ ?_
            exact ⟨n, t, rfl, ⟨hn0, hn4, hn⟩, ⟨ht0, ht5, ht⟩, hT, hF, hC, hM, hP, hTp, hB, hFa, hS, hMk, hfr⟩
          · skip
            rcases wn_cases a4 0 100 (by decide) (by decide) with e_a4 | ⟨p4, l_p4, h_p4, rfl⟩
            · refine wi_aload_n rfl rfl ?_
              refine wi_iload_n rfl rfl ?_
              refine wi_callV1 rfl (by decide) (by decide) rfl (kd_0 ..) rfl rfl rfl (c_has hn0 (st_in (by omega) (by omega)) ?_)
              refine wi_if_ne rfl (fun _ => ?_) (fun h9 => absurd (by decide) h9)
              refine wi_iload_n rfl rfl ?_
              refine wi_iconst (x := 0) rfl rfl ?_
              refine wi_bipush (x := 100) rfl rfl ?_
              refine wi_callS3 rfl (by decide) (by decide) rfl rfl rfl (c_wiV (wn_in (lo := 0) (hi := 100) (by omega) (by omega) (by decide)) ?_)
              refine wi_if_eq rfl (fun h9 => absurd h9 (by decide)) (fun _ => ?_)
              refine wi_iload_n rfl rfl ?_
              refine wi_iconst (x := 0) rfl rfl ?_
              refine wi_bipush (x := 100) rfl rfl ?_
              refine wi_callS3 rfl (by decide) (by decide) rfl rfl rfl (c_wiV (wn_in (lo := 0) (hi := 100) (by omega) (by omega) (by decide)) ?_)
              refine wi_if_eq rfl (fun h9 => absurd h9 (by decide)) (fun _ => ?_)
              refine wi_iload rfl rfl ?_
              refine wi_iconst (x := 0) rfl rfl ?_
              refine wi_bipush (x := 100) rfl rfl ?_
              refine wi_callS3 rfl (by decide) (by decide) rfl rfl rfl (c_wiV (wn_in (lo := 0) (hi := 100) (by omega) (by omega) (by decide)) ?_)
              refine wi_if_eq rfl (fun h9 => absurd h9 (by decide)) (fun _ => ?_)
              refine wi_iconst (x := 1) rfl rfl ?_
              refine wi_goto rfl ?_
              refine wi_istore rfl (Nat.le_of_ble_eq_true rfl) rfl rfl ?_
              refine wi_iload rfl rfl ?_
              refine wi_iconst (x := 0) rfl rfl ?_
              refine wi_bipush (x := 60) rfl rfl ?_
              refine wi_callS3 rfl (by decide) (by decide) rfl rfl rfl (c_wiV (wn_in (lo := 0) (hi := 60) (by omega) (by omega) (by decide)) ?_)
              refine wi_if_eq rfl (fun h9 => absurd h9 (by decide)) (fun _ => ?_)
              refine wi_iload rfl rfl ?_
              refine wi_iconst (x := 0) rfl rfl ?_
              refine wi_bipush (x := 100) rfl rfl ?_
              refine wi_callS3 rfl (by decide) (by decide) rfl rfl rfl (c_wiV e_a4 ?_)
              refine wi_if_eq rfl (fun _ => ?_) (fun h9 => absurd (by decide) h9)
              refine wi_iconst (x := 0) rfl rfl ?_
              refine wi_istore rfl (Nat.le_of_ble_eq_true rfl) rfl rfl ?_
              refine wi_iload rfl rfl ?_
              refine wi_if_eq rfl (fun h9 => absurd h9 (by decide)) (fun _ => ?_)
              refine wi_iload rfl rfl ?_
              refine wi_if_ne rfl (fun h9 => absurd h9 (by decide)) (fun _ => ?_)
              refine wi_aload_n rfl rfl ?_
              refine wi_iconst (x := 2) rfl rfl ?_
              refine wi_callV1 rfl (by decide) (by decide) rfl (kd_0 ..) rfl rfl rfl ?_
              refine wi_aload_n rfl rfl ?_
              refine wi_iload_n rfl rfl ?_
              refine wi_putI rfl (kd_0 ..) ?_
              refine wi_iconst (x := 0) rfl rfl ?_
              refine wi_iret rfl (by decide) ?_
              refine wi_iret rfl (by decide) ?_
              refine hK _ _ _ _ (fun Q2 h2 => ?_)
              refine wi_aload_n rfl rfl ?_
              refine wi_iconst (x := 0) rfl rfl ?_
              refine wi_putI rfl (kd_134 ..) ?_
              refine wi_aload_n rfl rfl ?_
              refine wi_iconst (x := 0) rfl rfl ?_
              refine wi_putI rfl (kd_134 ..) ?_
              refine wi_aload_n rfl rfl ?_
              refine wi_iload_n rfl rfl ?_
              refine wi_callV1 rfl (by decide) (by decide) rfl (kd_134 ..) rfl rfl rfl (c_isS hn4 (st_in (by omega) (by omega)) ?_)
              refine wi_if_ne rfl (fun _ => ?_) (fun h9 => absurd (by decide) h9)
              refine wi_iload_n rfl rfl ?_
              refine wi_bipush (x := 100) rfl rfl ?_
              refine wi_callS2 rfl (by decide) (by decide) rfl rfl rfl (c_isIn (wn_in (lo := 0) (hi := 100) (by omega) (by omega) (by decide)) ?_)
              refine wi_if_eq rfl (fun h9 => absurd h9 (by decide)) (fun _ => ?_)
              refine wi_iload_n rfl rfl ?_
              refine wi_bipush (x := 100) rfl rfl ?_
              refine wi_callS2 rfl (by decide) (by decide) rfl rfl rfl (c_isIn (wn_in (lo := 0) (hi := 100) (by omega) (by omega) (by decide)) ?_)
              refine wi_if_eq rfl (fun h9 => absurd h9 (by decide)) (fun _ => ?_)
              refine wi_iload rfl rfl ?_
              refine wi_bipush (x := 100) rfl rfl ?_
              refine wi_callS2 rfl (by decide) (by decide) rfl rfl rfl (c_isIn (wn_in (lo := 0) (hi := 100) (by omega) (by omega) (by decide)) ?_)
              refine wi_if_eq rfl (fun h9 => absurd h9 (by decide)) (fun _ => ?_)
              refine wi_iload rfl rfl ?_
              refine wi_bipush (x := 60) rfl rfl ?_
              refine wi_callS2 rfl (by decide) (by decide) rfl rfl rfl (c_isIn (wn_in (lo := 0) (hi := 60) (by omega) (by omega) (by decide)) ?_)
              refine wi_if_eq rfl (fun h9 => absurd h9 (by decide)) (fun _ => ?_)
              refine wi_iload rfl rfl ?_
              refine wi_bipush (x := 100) rfl rfl ?_
              refine wi_callS2 rfl (by decide) (by decide) rfl rfl rfl (c_isIn e_a4 ?_)
              refine wi_if_eq rfl (fun _ => ?_) (fun h9 => absurd (by decide) h9)
              refine wi_aload_n rfl rfl ?_
              refine wi_iconst (x := 2) rfl rfl ?_
              refine wi_callV1 rfl (by decide) (by decide) rfl (kd_134 ..) rfl rfl rfl ?_
              refine wi_aload_n rfl rfl ?_
              refine wi_iload_n rfl rfl ?_
              refine wi_putI rfl (kd_134 ..) ?_
              refine wi_iconst (x := 0) rfl rfl ?_
              refine wi_iret rfl (by decide) ?_
              refine wi_iret rfl (by decide) ?_
              refine h2 _ _ _ ?_
              exact ⟨n, t, rfl, ⟨hn0, hn4, hn⟩, ⟨ht0, ht5, ht⟩, hT, hF, hC, hM, hP, hTp, hB, hFa, hS, hMk, hfr⟩
            · skip
              rcases wn_cases a5 0 100 (by decide) (by decide) with e_a5 | ⟨p5, l_p5, h_p5, rfl⟩
              · refine wi_aload_n rfl rfl ?_
                refine wi_iload_n rfl rfl ?_
                refine wi_callV1 rfl (by decide) (by decide) rfl (kd_0 ..) rfl rfl rfl (c_has hn0 (st_in (by omega) (by omega)) ?_)
                refine wi_if_ne rfl (fun _ => ?_) (fun h9 => absurd (by decide) h9)
                refine wi_iload_n rfl rfl ?_
                refine wi_iconst (x := 0) rfl rfl ?_
                refine wi_bipush (x := 100) rfl rfl ?_
                refine wi_callS3 rfl (by decide) (by decide) rfl rfl rfl (c_wiV (wn_in (lo := 0) (hi := 100) (by omega) (by omega) (by decide)) ?_)
                refine wi_if_eq rfl (fun h9 => absurd h9 (by decide)) (fun _ => ?_)
                refine wi_iload_n rfl rfl ?_
                refine wi_iconst (x := 0) rfl rfl ?_
                refine wi_bipush (x := 100) rfl rfl ?_
                refine wi_callS3 rfl (by decide) (by decide) rfl rfl rfl (c_wiV (wn_in (lo := 0) (hi := 100) (by omega) (by omega) (by decide)) ?_)
                refine wi_if_eq rfl (fun h9 => absurd h9 (by decide)) (fun _ => ?_)
                refine wi_iload rfl rfl ?_
                refine wi_iconst (x := 0) rfl rfl ?_
                refine wi_bipush (x := 100) rfl rfl ?_
                refine wi_callS3 rfl (by decide) (by decide) rfl rfl rfl (c_wiV (wn_in (lo := 0) (hi := 100) (by omega) (by omega) (by decide)) ?_)
                refine wi_if_eq rfl (fun h9 => absurd h9 (by decide)) (fun _ => ?_)
                refine wi_iconst (x := 1) rfl rfl ?_
                refine wi_goto rfl ?_
                refine wi_istore rfl (Nat.le_of_ble_eq_true rfl) rfl rfl ?_
                refine wi_iload rfl rfl ?_
                refine wi_iconst (x := 0) rfl rfl ?_
                refine wi_bipush (x := 60) rfl rfl ?_
                refine wi_callS3 rfl (by decide) (by decide) rfl rfl rfl (c_wiV (wn_in (lo := 0) (hi := 60) (by omega) (by omega) (by decide)) ?_)
                refine wi_if_eq rfl (fun h9 => absurd h9 (by decide)) (fun _ => ?_)
                refine wi_iload rfl rfl ?_
                refine wi_iconst (x := 0) rfl rfl ?_
                refine wi_bipush (x := 100) rfl rfl ?_
                refine wi_callS3 rfl (by decide) (by decide) rfl rfl rfl (c_wiV (wn_in (lo := 0) (hi := 100) (by omega) (by omega) (by decide)) ?_)
                refine wi_if_eq rfl (fun h9 => absurd h9 (by decide)) (fun _ => ?_)
                refine wi_iload rfl rfl ?_
                refine wi_iconst (x := 0) rfl rfl ?_
                refine wi_bipush (x := 100) rfl rfl ?_
                refine wi_callS3 rfl (by decide) (by decide) rfl rfl rfl (c_wiV e_a5 ?_)
                refine wi_if_eq rfl (fun _ => ?_) (fun h9 => absurd (by decide) h9)
                refine wi_iconst (x := 0) rfl rfl ?_
                refine wi_istore rfl (Nat.le_of_ble_eq_true rfl) rfl rfl ?_
                refine wi_iload rfl rfl ?_
                refine wi_if_eq rfl (fun h9 => absurd h9 (by decide)) (fun _ => ?_)
                refine wi_iload rfl rfl ?_
                refine wi_if_ne rfl (fun h9 => absurd h9 (by decide)) (fun _ => ?_)
                refine wi_aload_n rfl rfl ?_
                refine wi_iconst (x := 2) rfl rfl ?_
                refine wi_callV1 rfl (by decide) (by decide) rfl (kd_0 ..) rfl rfl rfl ?_
                refine wi_aload_n rfl rfl ?_
                refine wi_iload_n rfl rfl ?_
                refine wi_putI rfl (kd_0 ..) ?_
                refine wi_iconst (x := 0) rfl rfl ?_
                refine wi_iret rfl (by decide) ?_
                refine wi_iret rfl (by decide) ?_
                refine hK _ _ _ _ (fun Q2 h2 => ?_)
                refine wi_aload_n rfl rfl ?_
                refine wi_iconst (x := 0) rfl rfl ?_
                refine wi_putI rfl (kd_134 ..) ?_
                refine wi_aload_n rfl rfl ?_
                refine wi_iconst (x := 0) rfl rfl ?_
                refine wi_putI rfl (kd_134 ..) ?_
                refine wi_aload_n rfl rfl ?_
                refine wi_iload_n rfl rfl ?_
                refine wi_callV1 rfl (by decide) (by decide) rfl (kd_134 ..) rfl rfl rfl (c_isS hn4 (st_in (by omega) (by omega)) ?_)
                refine wi_if_ne rfl (fun _ => ?_) (fun h9 => absurd (by decide) h9)
                refine wi_iload_n rfl rfl ?_
                refine wi_bipush (x := 100) rfl rfl ?_
                refine wi_callS2 rfl (by decide) (by decide) rfl rfl rfl (c_isIn (wn_in (lo := 0) (hi := 100) (by omega) (by omega) (by decide)) ?_)
                refine wi_if_eq rfl (fun h9 => absurd h9 (by decide)) (fun _ => ?_)
                refine wi_iload_n rfl rfl ?_
                refine wi_bipush (x := 100) rfl rfl ?_
                refine wi_callS2 rfl (by decide) (by decide) rfl rfl rfl (c_isIn (wn_in (lo := 0) (hi := 100) (by omega) (by omega) (by decide)) ?_)
                refine wi_if_eq rfl (fun h9 => absurd h9 (by decide)) (fun _ => ?_)
                refine wi_iload rfl rfl ?_
                refine wi_bipush (x := 100) rfl rfl ?_
                refine wi_callS2 rfl (by decide) (by decide) rfl rfl rfl (c_isIn (wn_in (lo := 0) (hi := 100) (by omega) (by omega) (by decide)) ?_)
                refine wi_if_eq rfl (fun h9 => absurd h9 (by decide)) (fun _ => ?_)
                refine wi_iload rfl rfl ?_
                refine wi_bipush (x := 60) rfl rfl ?_
                refine wi_callS2 rfl (by decide) (by decide) rfl rfl rfl (c_isIn (wn_in (lo := 0) (hi := 60) (by omega) (by omega) (by decide)) ?_)
                refine wi_if_eq rfl (fun h9 => absurd h9 (by decide)) (fun _ => ?_)
                refine wi_iload rfl rfl ?_
                refine wi_bipush (x := 100) rfl rfl ?_
                refine wi_callS2 rfl (by decide) (by decide) rfl rfl rfl (c_isIn (wn_in (lo := 0) (hi := 100) (by omega) (by omega) (by decide)) ?_)
                refine wi_if_eq rfl (fun h9 => absurd h9 (by decide)) (fun _ => ?_)
                refine wi_iload rfl rfl ?_
                refine wi_bipush (x := 100) rfl rfl ?_
                refine wi_callS2 rfl (by decide) (by decide) rfl rfl rfl (c_isIn e_a5 ?_)
                refine wi_if_ne rfl (fun h9 => absurd h9 (by decide)) (fun _ => ?_)
                refine wi_aload_n rfl rfl ?_
                refine wi_iconst (x := 2) rfl rfl ?_
                refine wi_callV1 rfl (by decide) (by decide) rfl (kd_134 ..) rfl rfl rfl ?_
                refine wi_aload_n rfl rfl ?_
                refine wi_iload_n rfl rfl ?_
                refine wi_putI rfl (kd_134 ..) ?_
                refine wi_iconst (x := 0) rfl rfl ?_
                refine wi_iret rfl (by decide) ?_
                refine wi_iret rfl (by decide) ?_
                refine h2 _ _ _ ?_
                exact ⟨n, t, rfl, ⟨hn0, hn4, hn⟩, ⟨ht0, ht5, ht⟩, hT, hF, hC, hM, hP, hTp, hB, hFa, hS, hMk, hfr⟩
              · skip
                refine wi_aload_n rfl rfl ?_
                refine wi_iload_n rfl rfl ?_
                refine wi_callV1 rfl (by decide) (by decide) rfl (kd_0 ..) rfl rfl rfl (c_has hn0 (st_in (by omega) (by omega)) ?_)
                refine wi_if_ne rfl (fun _ => ?_) (fun h9 => absurd (by decide) h9)
                refine wi_iload_n rfl rfl ?_
                refine wi_iconst (x := 0) rfl rfl ?_
                refine wi_bipush (x := 100) rfl rfl ?_
                refine wi_callS3 rfl (by decide) (by decide) rfl rfl rfl (c_wiV (wn_in (lo := 0) (hi := 100) (by omega) (by omega) (by decide)) ?_)
                refine wi_if_eq rfl (fun h9 => absurd h9 (by decide)) (fun _ => ?_)
                refine wi_iload_n rfl rfl ?_
                refine wi_iconst (x := 0) rfl rfl ?_
                refine wi_bipush (x := 100) rfl rfl ?_
                refine wi_callS3 rfl (by decide) (by decide) rfl rfl rfl (c_wiV (wn_in (lo := 0) (hi := 100) (by omega) (by omega) (by decide)) ?_)
                refine wi_if_eq rfl (fun h9 => absurd h9 (by decide)) (fun _ => ?_)
                refine wi_iload rfl rfl ?_
                refine wi_iconst (x := 0) rfl rfl ?_
                refine wi_bipush (x := 100) rfl rfl ?_
                refine wi_callS3 rfl (by decide) (by decide) rfl rfl rfl (c_wiV (wn_in (lo := 0) (hi := 100) (by omega) (by omega) (by decide)) ?_)
                refine wi_if_eq rfl (fun h9 => absurd h9 (by decide)) (fun _ => ?_)
                refine wi_iconst (x := 1) rfl rfl ?_
                refine wi_goto rfl ?_
                refine wi_istore rfl (Nat.le_of_ble_eq_true rfl) rfl rfl ?_
                refine wi_iload rfl rfl ?_
                refine wi_iconst (x := 0) rfl rfl ?_
                refine wi_bipush (x := 60) rfl rfl ?_
                refine wi_callS3 rfl (by decide) (by decide) rfl rfl rfl (c_wiV (wn_in (lo := 0) (hi := 60) (by omega) (by omega) (by decide)) ?_)
                refine wi_if_eq rfl (fun h9 => absurd h9 (by decide)) (fun _ => ?_)
                refine wi_iload rfl rfl ?_
                refine wi_iconst (x := 0) rfl rfl ?_
                refine wi_bipush (x := 100) rfl rfl ?_
                refine wi_callS3 rfl (by decide) (by decide) rfl rfl rfl (c_wiV (wn_in (lo := 0) (hi := 100) (by omega) (by omega) (by decide)) ?_)
                refine wi_if_eq rfl (fun h9 => absurd h9 (by decide)) (fun _ => ?_)
                refine wi_iload rfl rfl ?_
                refine wi_iconst (x := 0) rfl rfl ?_
                refine wi_bipush (x := 100) rfl rfl ?_
                refine wi_callS3 rfl (by decide) (by decide) rfl rfl rfl (c_wiV (wn_in (lo := 0) (hi := 100) (by omega) (by omega) (by decide)) ?_)
                refine wi_if_eq rfl (fun h9 => absurd h9 (by decide)) (fun _ => ?_)
                refine wi_iconst (x := 1) rfl rfl ?_
                refine wi_goto rfl ?_
                refine wi_istore rfl (Nat.le_of_ble_eq_true rfl) rfl rfl ?_
                refine wi_iload rfl rfl ?_
                refine wi_if_eq rfl (fun h9 => absurd h9 (by decide)) (fun _ => ?_)
                refine wi_iload rfl rfl ?_
                refine wi_if_ne rfl (fun _ => ?_) (fun h9 => absurd (by decide) h9)
                refine wi_aload_n rfl rfl ?_
                refine wi_getR rfl (kd_0 ..) (rd_0_0 _) ?_
                refine wi_iload_n rfl rfl ?_
                refine wn_aaload (q := q) rfl (Or.inl (ln_1 ..)) rfl (by omega) (by decide) (ra_1 _ _ (by omega)) ?_
                refine wi_iload_n rfl rfl ?_
                refine wi_iload_n rfl rfl ?_
                refine wi_iload rfl rfl ?_
                refine wi_callV3 rfl (by decide) (by decide) rfl (kr_1 (by omega) ..) rfl rfl rfl (c_setLayers (kr_1 (by omega) ..) (gen_wp (fun mi1 e1 => ?_)))
                refine wi_aload_n rfl rfl ?_
                refine wi_getR rfl (kd_0 ..) (rd_0_0 _) ?_
                refine wi_iload_n rfl rfl ?_
                refine wn_aaload (q := q) rfl (Or.inl (ln_1 ..)) rfl (by omega) (by decide) (ra_1 _ _ (by omega)) ?_
                refine wi_iload rfl rfl ?_
                refine wi_iload rfl rfl ?_
                refine wi_iload rfl rfl ?_
                refine wi_callV3 rfl (by decide) (by decide) rfl (kr_1 (by omega) ..) rfl rfl rfl (c_setSurface (kr_1 (by omega) ..) (gen_wp (fun mi2 e2 => ?_)))
                refine wi_aload_n rfl rfl ?_
                refine wi_callV0 rfl (by decide) (by decide) rfl (kd_0 ..) rfl rfl rfl ?_
                refine wi_aload_n rfl rfl ?_
                refine wi_iconst (x := 0) rfl rfl ?_
                refine wi_putI rfl (kd_0 ..) ?_
                refine wi_iconst (x := 1) rfl rfl ?_
                refine wi_iret rfl (by decide) ?_
                refine wi_iret rfl (by decide) ?_
                have ho : ∀ a, a ≠ 126 + q → mi2 a = mi a := fun a ha => by rw [e2, upT_ne ha, e1, upT_ne ha]
                have hTq := rTurf_at hT (q := q) (by omega) hn
                have hO := RO_fr (mi2 := mi2) (fun a ha => ho a (fun e9 => by rw [e9, scr_t (by omega)] at ha; cases ha)) (RR_to ⟨hst, ⟨hn0, hn4, hn⟩, ⟨ht0, ht5, ht⟩, hT, hF, hC, hM, hP, hTp, hB, hFa, hS, hMk, hfr⟩)
                have hT1 : rTurf n (r8 (mi 126) (mi 127) (mi 128) (mi 129) (mi 130) (mi 131) (mi 132) (mi 133)) (mi2 135) (mi2 136) (mi2 137) := by rw [ho 135 (by omega), ho 136 (by omega), ho 137 (by omega)]; exact hT
                clear hst hn0 hn4 hn ht0 ht5 ht hF hC hM hP hTp hB hFa hS hMk hfr
                obtain ⟨hst, ⟨hn0, hn4, hn⟩, ⟨ht0, ht5, ht⟩, hF, hC, hM, hP, hTp, hB, hFa, hS, hMk, hfr⟩ := hO
                refine hK _ _ _ _ (fun Q2 h2 => ?_)
                refine wi_aload_n rfl rfl ?_
                refine wi_iconst (x := 0) rfl rfl ?_
                refine wi_putI rfl (kd_134 ..) ?_
                refine wi_aload_n rfl rfl ?_
                refine wi_iconst (x := 0) rfl rfl ?_
                refine wi_putI rfl (kd_134 ..) ?_
                refine wi_aload_n rfl rfl ?_
                refine wi_iload_n rfl rfl ?_
                refine wi_callV1 rfl (by decide) (by decide) rfl (kd_134 ..) rfl rfl rfl (c_isS hn4 (st_in (by omega) (by omega)) ?_)
                refine wi_if_ne rfl (fun _ => ?_) (fun h9 => absurd (by decide) h9)
                refine wi_iload_n rfl rfl ?_
                refine wi_bipush (x := 100) rfl rfl ?_
                refine wi_callS2 rfl (by decide) (by decide) rfl rfl rfl (c_isIn (wn_in (lo := 0) (hi := 100) (by omega) (by omega) (by decide)) ?_)
                refine wi_if_eq rfl (fun h9 => absurd h9 (by decide)) (fun _ => ?_)
                refine wi_iload_n rfl rfl ?_
                refine wi_bipush (x := 100) rfl rfl ?_
                refine wi_callS2 rfl (by decide) (by decide) rfl rfl rfl (c_isIn (wn_in (lo := 0) (hi := 100) (by omega) (by omega) (by decide)) ?_)
                refine wi_if_eq rfl (fun h9 => absurd h9 (by decide)) (fun _ => ?_)
                refine wi_iload rfl rfl ?_
                refine wi_bipush (x := 100) rfl rfl ?_
                refine wi_callS2 rfl (by decide) (by decide) rfl rfl rfl (c_isIn (wn_in (lo := 0) (hi := 100) (by omega) (by omega) (by decide)) ?_)
                refine wi_if_eq rfl (fun h9 => absurd h9 (by decide)) (fun _ => ?_)
                refine wi_iload rfl rfl ?_
                refine wi_bipush (x := 60) rfl rfl ?_
                refine wi_callS2 rfl (by decide) (by decide) rfl rfl rfl (c_isIn (wn_in (lo := 0) (hi := 60) (by omega) (by omega) (by decide)) ?_)
                refine wi_if_eq rfl (fun h9 => absurd h9 (by decide)) (fun _ => ?_)
                refine wi_iload rfl rfl ?_
                refine wi_bipush (x := 100) rfl rfl ?_
                refine wi_callS2 rfl (by decide) (by decide) rfl rfl rfl (c_isIn (wn_in (lo := 0) (hi := 100) (by omega) (by omega) (by decide)) ?_)
                refine wi_if_eq rfl (fun h9 => absurd h9 (by decide)) (fun _ => ?_)
                refine wi_iload rfl rfl ?_
                refine wi_bipush (x := 100) rfl rfl ?_
                refine wi_callS2 rfl (by decide) (by decide) rfl rfl rfl (c_isIn (wn_in (lo := 0) (hi := 100) (by omega) (by omega) (by decide)) ?_)
                refine wi_if_ne rfl (fun _ => ?_) (fun h9 => absurd (by decide) h9)
                refine wi_aload_n rfl rfl ?_
                refine wi_getR rfl (kd_134 ..) (rd_134_6 _) ?_
                refine wi_bipush (x := 6) rfl rfl ?_
                refine wi_iload_n rfl rfl ?_
                refine wn_imul (z := (Int32.ofNat (6 * q))) rfl (mul_n (a := 6) (b := q) (rfl : (6 : Int32) = Int32.ofNat 6) rfl) ?_
                refine wi_iload_n rfl rfl ?_
                refine wn_iastore (q := 6 * q) rfl (ln_135 ..) rfl (by omega) (by decide) ?_
                refine wi_aload_n rfl rfl ?_
                refine wi_getR rfl (kd_134 ..) (rd_134_6 _) ?_
                refine wi_bipush (x := 6) rfl rfl ?_
                refine wi_iload_n rfl rfl ?_
                refine wn_imul (z := (Int32.ofNat (6 * q))) rfl (mul_n (a := 6) (b := q) (rfl : (6 : Int32) = Int32.ofNat 6) rfl) ?_
                refine wi_iconst (x := 1) rfl rfl ?_
                refine wn_iadd (z := (Int32.ofNat (6 * q + 1))) rfl (add_n (a := 6 * q) (b := 1) rfl (rfl : (1 : Int32) = Int32.ofNat 1)) ?_
                refine wi_iload_n rfl rfl ?_
                refine wn_iastore (q := 6 * q + 1) rfl (ln_135 ..) rfl (by omega) (by decide) ?_
                refine wi_aload_n rfl rfl ?_
                refine wi_getR rfl (kd_134 ..) (rd_134_6 _) ?_
                refine wi_bipush (x := 6) rfl rfl ?_
                refine wi_iload_n rfl rfl ?_
                refine wn_imul (z := (Int32.ofNat (6 * q))) rfl (mul_n (a := 6) (b := q) (rfl : (6 : Int32) = Int32.ofNat 6) rfl) ?_
                refine wi_iconst (x := 2) rfl rfl ?_
                refine wn_iadd (z := (Int32.ofNat (6 * q + 2))) rfl (add_n (a := 6 * q) (b := 2) rfl (rfl : (2 : Int32) = Int32.ofNat 2)) ?_
                refine wi_iload rfl rfl ?_
                refine wn_iastore (q := 6 * q + 2) rfl (ln_135 ..) rfl (by omega) (by decide) ?_
                refine wi_aload_n rfl rfl ?_
                refine wi_getR rfl (kd_134 ..) (rd_134_6 _) ?_
                refine wi_bipush (x := 6) rfl rfl ?_
                refine wi_iload_n rfl rfl ?_
                refine wn_imul (z := (Int32.ofNat (6 * q))) rfl (mul_n (a := 6) (b := q) (rfl : (6 : Int32) = Int32.ofNat 6) rfl) ?_
                refine wi_iconst (x := 3) rfl rfl ?_
                refine wn_iadd (z := (Int32.ofNat (6 * q + 3))) rfl (add_n (a := 6 * q) (b := 3) rfl (rfl : (3 : Int32) = Int32.ofNat 3)) ?_
                refine wi_iload rfl rfl ?_
                refine wn_iastore (q := 6 * q + 3) rfl (ln_135 ..) rfl (by omega) (by decide) ?_
                refine wi_aload_n rfl rfl ?_
                refine wi_getR rfl (kd_134 ..) (rd_134_6 _) ?_
                refine wi_bipush (x := 6) rfl rfl ?_
                refine wi_iload_n rfl rfl ?_
                refine wn_imul (z := (Int32.ofNat (6 * q))) rfl (mul_n (a := 6) (b := q) (rfl : (6 : Int32) = Int32.ofNat 6) rfl) ?_
                refine wi_iconst (x := 4) rfl rfl ?_
                refine wn_iadd (z := (Int32.ofNat (6 * q + 4))) rfl (add_n (a := 6 * q) (b := 4) rfl (rfl : (4 : Int32) = Int32.ofNat 4)) ?_
                refine wi_iload rfl rfl ?_
                refine wn_iastore (q := 6 * q + 4) rfl (ln_135 ..) rfl (by omega) (by decide) ?_
                refine wi_aload_n rfl rfl ?_
                refine wi_getR rfl (kd_134 ..) (rd_134_6 _) ?_
                refine wi_bipush (x := 6) rfl rfl ?_
                refine wi_iload_n rfl rfl ?_
                refine wn_imul (z := (Int32.ofNat (6 * q))) rfl (mul_n (a := 6) (b := q) (rfl : (6 : Int32) = Int32.ofNat 6) rfl) ?_
                refine wi_iconst (x := 5) rfl rfl ?_
                refine wn_iadd (z := (Int32.ofNat (6 * q + 5))) rfl (add_n (a := 6 * q) (b := 5) rfl (rfl : (5 : Int32) = Int32.ofNat 5)) ?_
                refine wi_iload rfl rfl ?_
                refine wn_iastore (q := 6 * q + 5) rfl (ln_135 ..) rfl (by omega) (by decide) ?_
                refine wi_iconst (x := 1) rfl rfl ?_
                refine wi_iret rfl (by decide) ?_
                have hnew : tR (mi2 (126 + q)) (S6 (mi2 135) (6 * q) (Int32.ofNat p0) (Int32.ofNat p1) (Int32.ofNat p2) (Int32.ofNat p3) (Int32.ofNat p4) (Int32.ofNat p5)) (mi2 136) (mi2 137) q ∧ tB (mi2 (126 + q)) := by
                  rw [ho 136 (by omega), ho 137 (by omega)]
                  have c0 : mi2 (126 + q) 0 = Int32.ofNat p0 := by rw [e2, upT_rd]; show mi1 (126 + q) 0 = _; rw [e1, upT_rd]; rfl
                  have c1 : mi2 (126 + q) 1 = Int32.ofNat p1 := by rw [e2, upT_rd]; show mi1 (126 + q) 1 = _; rw [e1, upT_rd]; rfl
                  have c2 : mi2 (126 + q) 2 = Int32.ofNat p2 := by rw [e2, upT_rd]; show mi1 (126 + q) 2 = _; rw [e1, upT_rd]; rfl
                  have c3 : mi2 (126 + q) 3 = Int32.ofNat p3 := by rw [e2, upT_rd]; rfl
                  have c4 : mi2 (126 + q) 4 = Int32.ofNat p4 := by rw [e2, upT_rd]; rfl
                  have c5 : mi2 (126 + q) 5 = Int32.ofNat p5 := by rw [e2, upT_rd]; rfl
                  have c6 : mi2 (126 + q) 6 = mi (126 + q) 6 := by rw [e2, upT_rd]; show mi1 (126 + q) 6 = _; rw [e1, upT_rd]; rfl
                  have c7 : mi2 (126 + q) 7 = mi (126 + q) 7 := by rw [e2, upT_rd]; show mi1 (126 + q) 7 = _; rw [e1, upT_rd]; rfl
                  obtain ⟨⟨-, -, -, -, -, -, a6, a7⟩, -, -, -, -, -, -, d6, d7⟩ := hTq
                  obtain ⟨s0, s1, s2, s3, s4, s5⟩ := S6_at (S := mi2 135) (z := 6 * q) (a0 := Int32.ofNat p0) (a1 := Int32.ofNat p1) (a2 := Int32.ofNat p2) (a3 := Int32.ofNat p3) (a4 := Int32.ofNat p4) (a5 := Int32.ofNat p5)
                  unfold tB
                  rw [c0, c1, c2, c3, c4, c5, c6, c7]
                  exact ⟨⟨c0.trans s0.symm, c1.trans s1.symm, c2.trans s2.symm, c3.trans s3.symm, c4.trans s4.symm, c5.trans s5.symm, c6.trans a6, c7.trans a7⟩, rB_of (hi := 100) (by omega) (by decide), rB_of (hi := 100) (by omega) (by decide), rB_of (hi := 100) (by omega) (by decide), rB_of (hi := 60) (by omega) (by decide), rB_of (hi := 100) (by omega) (by decide), rB_of (hi := 100) (by omega) (by decide), d6, d7⟩
                refine h2 _ _ _ ?_
                exact ⟨n, t, rfl, ⟨hn0, hn4, hn⟩, ⟨ht0, ht5, ht⟩, rTurf_upd (mi' := mi2) hT1 (q := q) (by omega) hn (fun s hs hne => ho _ (by omega)) (fun k hk => S6_ne (by omega)) (fun k hk => rfl) (fun k hk => rfl) hnew, hF, hC, hM, hP, hTp, hB, hFa, hS, hMk, hfr⟩
theorem wn_less {x : Int32} {z : Nat} (h : wnF x 0 1000 = 0) (hz : z ≤ 1000) : wnF x 0 (Int32.ofNat (1000 - z)) = 0 := by
  rcases wn_zero.mp h with h1 | h1
  · exact wn_zero.mpr (Or.inl h1)
  · refine wn_zero.mpr (Or.inr ?_)
    rw [Int32.lt_iff_toInt_lt] at h1 ⊢
    rw [i32_toInt (by omega)]
    have z1 : (1000 : Int32).toInt = 1000 := rfl
    omega
theorem a_play {X : Nat × (Nat → Int32)} {s v : Int32} : arm X 111 158 [.ref 0, .int s, .int v] [.ref 134, .int s, .int v] := by
  intro mi ml b hR Q hK
  obtain ⟨n, t, hst, ⟨hn0, hn4, hn⟩, ⟨ht0, ht5, ht⟩, hT, hF, hC, hM, hP, hTp, hB, hFa, hS, hMk, hfr⟩ := hR
  rcases st_cases s (n := n) (by omega) with e_s | ⟨q, h_q, rfl⟩
  · refine wi_aload_n rfl rfl ?_
    refine wi_iload_n rfl rfl ?_
    refine wi_callV1 rfl (by decide) (by decide) rfl (kd_0 ..) rfl rfl rfl (c_has hn0 e_s ?_)
    refine wi_if_ne rfl (fun h9 => absurd h9 (by decide)) (fun _ => ?_)
    refine wi_aload_n rfl rfl ?_
    refine wi_iconst (x := 1) rfl rfl ?_
    refine wi_callV1 rfl (by decide) (by decide) rfl (kd_0 ..) rfl rfl rfl ?_
    refine wi_aload_n rfl rfl ?_
    refine wi_iload_n rfl rfl ?_
    refine wi_putI rfl (kd_0 ..) ?_
    refine wi_iconst (x := 0) rfl rfl ?_
    refine wi_iret rfl (by decide) ?_
    refine wi_iret rfl (by decide) ?_
    refine hK _ _ _ _ (fun Q2 h2 => ?_)
    refine wi_aload_n rfl rfl ?_
    refine wi_iconst (x := 0) rfl rfl ?_
    refine wi_putI rfl (kd_134 ..) ?_
    refine wi_aload_n rfl rfl ?_
    refine wi_iconst (x := 0) rfl rfl ?_
    refine wi_putI rfl (kd_134 ..) ?_
    refine wi_aload_n rfl rfl ?_
    refine wi_iload_n rfl rfl ?_
    refine wi_callV1 rfl (by decide) (by decide) rfl (kd_134 ..) rfl rfl rfl (c_isS hn4 e_s ?_)
    refine wi_if_ne rfl (fun h9 => absurd h9 (by decide)) (fun _ => ?_)
    refine wi_aload_n rfl rfl ?_
    refine wi_iconst (x := 1) rfl rfl ?_
    refine wi_callV1 rfl (by decide) (by decide) rfl (kd_134 ..) rfl rfl rfl ?_
    refine wi_aload_n rfl rfl ?_
    refine wi_iload_n rfl rfl ?_
    refine wi_putI rfl (kd_134 ..) ?_
    refine wi_iconst (x := 0) rfl rfl ?_
    refine wi_iret rfl (by decide) ?_
    refine wi_iret rfl (by decide) ?_
    refine h2 _ _ _ ?_
    exact ⟨n, t, rfl, ⟨hn0, hn4, hn⟩, ⟨ht0, ht5, ht⟩, hT, hF, hC, hM, hP, hTp, hB, hFa, hS, hMk, hfr⟩
  · have hTq := rTurf_at hT (q := q) (by omega) hn
    obtain ⟨z, hz0, hz⟩ := rB_nat (hi := 1000) hTq.2.2.2.2.2.2.2.2
    have hz1 : mi 137 q = Int32.ofNat z := by rw [← hTq.1.2.2.2.2.2.2.2]; exact hz0
    rcases wn_cases v 0 1000 (by decide) (by decide) with e_v | ⟨p, l_p, h_p, rfl⟩
    · refine wi_aload_n rfl rfl ?_
      refine wi_iload_n rfl rfl ?_
      refine wi_callV1 rfl (by decide) (by decide) rfl (kd_0 ..) rfl rfl rfl (c_has hn0 (st_in (by omega) (by omega)) ?_)
      refine wi_if_ne rfl (fun _ => ?_) (fun h9 => absurd (by decide) h9)
      refine wi_iload_n rfl rfl ?_
      refine wi_iconst (x := 0) rfl rfl ?_
      refine wi_sipush (x := 1000) rfl rfl ?_
      refine wi_aload_n rfl rfl ?_
      refine wi_getR rfl (kd_0 ..) (rd_0_0 _) ?_
      refine wi_iload_n rfl rfl ?_
      refine wn_aaload (q := q) rfl (Or.inl (ln_1 ..)) rfl (by omega) (by decide) (ra_1 _ _ (by omega)) ?_
      refine wi_callV0 rfl (by decide) (by decide) rfl (kr_1 (by omega) ..) rfl rfl rfl (c_ballsToday (kr_1 (by omega) ..) (hz0 ▸ ?_))
      refine wn_isub (z := (Int32.ofNat (1000 - z))) rfl (sub_n (a := 1000) (b := z) (rfl : (1000 : Int32) = Int32.ofNat 1000) rfl (by omega)) ?_
      refine wi_callS3 rfl (by decide) (by decide) rfl rfl rfl (c_wiV (wn_less e_v hz) ?_)
      refine wi_if_ne rfl (fun h9 => absurd h9 (by decide)) (fun _ => ?_)
      refine wi_aload_n rfl rfl ?_
      refine wi_iconst (x := 2) rfl rfl ?_
      refine wi_callV1 rfl (by decide) (by decide) rfl (kd_0 ..) rfl rfl rfl ?_
      refine wi_aload_n rfl rfl ?_
      refine wi_iload_n rfl rfl ?_
      refine wi_putI rfl (kd_0 ..) ?_
      refine wi_iconst (x := 0) rfl rfl ?_
      refine wi_iret rfl (by decide) ?_
      refine wi_iret rfl (by decide) ?_
      refine hK _ _ _ _ (fun Q2 h2 => ?_)
      refine wi_aload_n rfl rfl ?_
      refine wi_iconst (x := 0) rfl rfl ?_
      refine wi_putI rfl (kd_134 ..) ?_
      refine wi_aload_n rfl rfl ?_
      refine wi_iconst (x := 0) rfl rfl ?_
      refine wi_putI rfl (kd_134 ..) ?_
      refine wi_aload_n rfl rfl ?_
      refine wi_iload_n rfl rfl ?_
      refine wi_callV1 rfl (by decide) (by decide) rfl (kd_134 ..) rfl rfl rfl (c_isS hn4 (st_in (by omega) (by omega)) ?_)
      refine wi_if_ne rfl (fun _ => ?_) (fun h9 => absurd (by decide) h9)
      refine wi_iload_n rfl rfl ?_
      refine wi_sipush (x := 1000) rfl rfl ?_
      refine wi_callS2 rfl (by decide) (by decide) rfl rfl rfl (c_isIn e_v ?_)
      refine wi_if_eq rfl (fun _ => ?_) (fun h9 => absurd (by decide) h9)
      refine wi_aload_n rfl rfl ?_
      refine wi_iconst (x := 2) rfl rfl ?_
      refine wi_callV1 rfl (by decide) (by decide) rfl (kd_134 ..) rfl rfl rfl ?_
      refine wi_aload_n rfl rfl ?_
      refine wi_iload_n rfl rfl ?_
      refine wi_putI rfl (kd_134 ..) ?_
      refine wi_iconst (x := 0) rfl rfl ?_
      refine wi_iret rfl (by decide) ?_
      refine wi_iret rfl (by decide) ?_
      refine h2 _ _ _ ?_
      exact ⟨n, t, rfl, ⟨hn0, hn4, hn⟩, ⟨ht0, ht5, ht⟩, hT, hF, hC, hM, hP, hTp, hB, hFa, hS, hMk, hfr⟩
    · by_cases hpz : p + z ≤ 1000
      · refine wi_aload_n rfl rfl ?_
        refine wi_iload_n rfl rfl ?_
        refine wi_callV1 rfl (by decide) (by decide) rfl (kd_0 ..) rfl rfl rfl (c_has hn0 (st_in (by omega) (by omega)) ?_)
        refine wi_if_ne rfl (fun _ => ?_) (fun h9 => absurd (by decide) h9)
        refine wi_iload_n rfl rfl ?_
        refine wi_iconst (x := 0) rfl rfl ?_
        refine wi_sipush (x := 1000) rfl rfl ?_
        refine wi_aload_n rfl rfl ?_
        refine wi_getR rfl (kd_0 ..) (rd_0_0 _) ?_
        refine wi_iload_n rfl rfl ?_
        refine wn_aaload (q := q) rfl (Or.inl (ln_1 ..)) rfl (by omega) (by decide) (ra_1 _ _ (by omega)) ?_
        refine wi_callV0 rfl (by decide) (by decide) rfl (kr_1 (by omega) ..) rfl rfl rfl (c_ballsToday (kr_1 (by omega) ..) (hz0 ▸ ?_))
        refine wn_isub (z := (Int32.ofNat (1000 - z))) rfl (sub_n (a := 1000) (b := z) (rfl : (1000 : Int32) = Int32.ofNat 1000) rfl (by omega)) ?_
        refine wi_callS3 rfl (by decide) (by decide) rfl rfl rfl (c_wiV (wn_in (lo := 0) (hi := 1000 - z) (by omega) (by omega) (by omega)) ?_)
        refine wi_if_ne rfl (fun _ => ?_) (fun h9 => absurd (by decide) h9)
        refine wi_aload_n rfl rfl ?_
        refine wi_getR rfl (kd_0 ..) (rd_0_0 _) ?_
        refine wi_iload_n rfl rfl ?_
        refine wn_aaload (q := q) rfl (Or.inl (ln_1 ..)) rfl (by omega) (by decide) (ra_1 _ _ (by omega)) ?_
        refine wi_iload_n rfl rfl ?_
        refine wi_callV1 rfl (by decide) (by decide) rfl (kr_1 (by omega) ..) rfl rfl rfl (c_addBalls (kr_1 (by omega) ..) (gen_wp (fun mi1 e1 => ?_)))
        refine wi_aload_n rfl rfl ?_
        refine wi_callV0 rfl (by decide) (by decide) rfl (kd_0 ..) rfl rfl rfl ?_
        refine wi_aload_n rfl rfl ?_
        refine wi_iconst (x := 0) rfl rfl ?_
        refine wi_putI rfl (kd_0 ..) ?_
        refine wi_iconst (x := 1) rfl rfl ?_
        refine wi_iret rfl (by decide) ?_
        refine wi_iret rfl (by decide) ?_
        have ho : ∀ a, a ≠ 126 + q → mi1 a = mi a := fun a ha => by rw [e1]; exact u2_ne ha
        have hTq := rTurf_at hT (q := q) (by omega) hn
        have hO := RO_fr (mi2 := mi1) (fun a ha => ho a (fun e9 => by rw [e9, scr_t (by omega)] at ha; cases ha)) (RR_to ⟨hst, ⟨hn0, hn4, hn⟩, ⟨ht0, ht5, ht⟩, hT, hF, hC, hM, hP, hTp, hB, hFa, hS, hMk, hfr⟩)
        have hT1 : rTurf n (r8 (mi 126) (mi 127) (mi 128) (mi 129) (mi 130) (mi 131) (mi 132) (mi 133)) (mi1 135) (mi1 136) (mi1 137) := by rw [ho 135 (by omega), ho 136 (by omega), ho 137 (by omega)]; exact hT
        clear hst hn0 hn4 hn ht0 ht5 ht hF hC hM hP hTp hB hFa hS hMk hfr
        obtain ⟨hst, ⟨hn0, hn4, hn⟩, ⟨ht0, ht5, ht⟩, hF, hC, hM, hP, hTp, hB, hFa, hS, hMk, hfr⟩ := hO
        have hz1 : mi1 137 q = Int32.ofNat z := by rw [ho 137 (by omega)]; exact hz1
        refine hK _ _ _ _ (fun Q2 h2 => ?_)
        refine wi_aload_n rfl rfl ?_
        refine wi_iconst (x := 0) rfl rfl ?_
        refine wi_putI rfl (kd_134 ..) ?_
        refine wi_aload_n rfl rfl ?_
        refine wi_iconst (x := 0) rfl rfl ?_
        refine wi_putI rfl (kd_134 ..) ?_
        refine wi_aload_n rfl rfl ?_
        refine wi_iload_n rfl rfl ?_
        refine wi_callV1 rfl (by decide) (by decide) rfl (kd_134 ..) rfl rfl rfl (c_isS hn4 (st_in (by omega) (by omega)) ?_)
        refine wi_if_ne rfl (fun _ => ?_) (fun h9 => absurd (by decide) h9)
        refine wi_iload_n rfl rfl ?_
        refine wi_sipush (x := 1000) rfl rfl ?_
        refine wi_callS2 rfl (by decide) (by decide) rfl rfl rfl (c_isIn (wn_in (lo := 0) (hi := 1000) (by omega) (by omega) (by decide)) ?_)
        refine wi_if_eq rfl (fun h9 => absurd h9 (by decide)) (fun _ => ?_)
        refine wi_aload_n rfl rfl ?_
        refine wi_getR rfl (kd_134 ..) (rd_134_8 _) ?_
        refine wi_iload_n rfl rfl ?_
        refine wn_iaload (q := q) (v := (Int32.ofNat (z))) rfl (ln_137 ..) rfl (by omega) (by decide) (by decide) (by decide) hz1 ?_
        refine wi_iload_n rfl rfl ?_
        refine wn_iadd (z := (Int32.ofNat (z + p))) rfl (add_n (a := z) (b := p) rfl rfl) ?_
        refine wi_sipush (x := 1000) rfl rfl ?_
        refine wi_icmp_le rfl (fun _ => ?_) (fun h9 => absurd trivial (by exfalso; have h8 := (not_congr (le_n (a := z + p) (b := 1000) rfl (rfl : (1000 : Int32) = Int32.ofNat 1000) (by omega) (by omega))).mp h9; omega))
        refine wi_aload_n rfl rfl ?_
        refine wi_getR rfl (kd_134 ..) (rd_134_8 _) ?_
        refine wi_iload_n rfl rfl ?_
        refine wi_dup2 rfl ⟨rfl, rfl⟩ ?_
        refine wn_iaload (q := q) (v := (Int32.ofNat (z))) rfl (ln_137 ..) rfl (by omega) (by decide) (by decide) (by decide) hz1 ?_
        refine wi_iload_n rfl rfl ?_
        refine wn_iadd (z := (Int32.ofNat (z + p))) rfl (add_n (a := z) (b := p) rfl rfl) ?_
        refine wn_iastore (q := q) rfl (ln_137 ..) rfl (by omega) (by decide) ?_
        refine wi_iconst (x := 1) rfl rfl ?_
        refine wi_iret rfl (by decide) ?_
        have hnew : tR (mi1 (126 + q)) (mi1 135) (mi1 136) (fun i => if i = q then Int32.ofNat (z + p) else mi1 137 i) q ∧ tB (mi1 (126 + q)) := by
          rw [ho 135 (by omega), ho 136 (by omega), ho 137 (by omega), e1, u2_at, hz0, add_n (rfl : Int32.ofNat z = _) (rfl : Int32.ofNat p = _)]
          obtain ⟨⟨a0, a1, a2, a3, a4, a5, a6, a7⟩, c0, c1, c2, c3, c4, c5, c6, c7⟩ := hTq
          exact ⟨⟨a0, a1, a2, a3, a4, a5, a6, (if_pos rfl).symm⟩, c0, c1, c2, c3, c4, c5, c6, rB_of (hi := 1000) (by omega) (by decide)⟩
        refine h2 _ _ _ ?_
        exact ⟨n, t, rfl, ⟨hn0, hn4, hn⟩, ⟨ht0, ht5, ht⟩, rTurf_upd (mi' := mi1) hT1 (q := q) (by omega) hn (fun s hs hne => ho _ (by omega)) (fun k hk => rfl) (fun k hk => rfl) (fun k hk => if_neg hk) hnew, hF, hC, hM, hP, hTp, hB, hFa, hS, hMk, hfr⟩
      · refine wi_aload_n rfl rfl ?_
        refine wi_iload_n rfl rfl ?_
        refine wi_callV1 rfl (by decide) (by decide) rfl (kd_0 ..) rfl rfl rfl (c_has hn0 (st_in (by omega) (by omega)) ?_)
        refine wi_if_ne rfl (fun _ => ?_) (fun h9 => absurd (by decide) h9)
        refine wi_iload_n rfl rfl ?_
        refine wi_iconst (x := 0) rfl rfl ?_
        refine wi_sipush (x := 1000) rfl rfl ?_
        refine wi_aload_n rfl rfl ?_
        refine wi_getR rfl (kd_0 ..) (rd_0_0 _) ?_
        refine wi_iload_n rfl rfl ?_
        refine wn_aaload (q := q) rfl (Or.inl (ln_1 ..)) rfl (by omega) (by decide) (ra_1 _ _ (by omega)) ?_
        refine wi_callV0 rfl (by decide) (by decide) rfl (kr_1 (by omega) ..) rfl rfl rfl (c_ballsToday (kr_1 (by omega) ..) (hz0 ▸ ?_))
        refine wn_isub (z := (Int32.ofNat (1000 - z))) rfl (sub_n (a := 1000) (b := z) (rfl : (1000 : Int32) = Int32.ofNat 1000) rfl (by omega)) ?_
        refine wi_callS3 rfl (by decide) (by decide) rfl rfl rfl (c_wiV (wn_zero.mpr (Or.inr ((lt_n (a := 1000 - z) (b := p) rfl rfl (by omega) (by omega)).mpr (by omega)))) ?_)
        refine wi_if_ne rfl (fun h9 => absurd h9 (by decide)) (fun _ => ?_)
        refine wi_aload_n rfl rfl ?_
        refine wi_iconst (x := 2) rfl rfl ?_
        refine wi_callV1 rfl (by decide) (by decide) rfl (kd_0 ..) rfl rfl rfl ?_
        refine wi_aload_n rfl rfl ?_
        refine wi_iload_n rfl rfl ?_
        refine wi_putI rfl (kd_0 ..) ?_
        refine wi_iconst (x := 0) rfl rfl ?_
        refine wi_iret rfl (by decide) ?_
        refine wi_iret rfl (by decide) ?_
        refine hK _ _ _ _ (fun Q2 h2 => ?_)
        refine wi_aload_n rfl rfl ?_
        refine wi_iconst (x := 0) rfl rfl ?_
        refine wi_putI rfl (kd_134 ..) ?_
        refine wi_aload_n rfl rfl ?_
        refine wi_iconst (x := 0) rfl rfl ?_
        refine wi_putI rfl (kd_134 ..) ?_
        refine wi_aload_n rfl rfl ?_
        refine wi_iload_n rfl rfl ?_
        refine wi_callV1 rfl (by decide) (by decide) rfl (kd_134 ..) rfl rfl rfl (c_isS hn4 (st_in (by omega) (by omega)) ?_)
        refine wi_if_ne rfl (fun _ => ?_) (fun h9 => absurd (by decide) h9)
        refine wi_iload_n rfl rfl ?_
        refine wi_sipush (x := 1000) rfl rfl ?_
        refine wi_callS2 rfl (by decide) (by decide) rfl rfl rfl (c_isIn (wn_in (lo := 0) (hi := 1000) (by omega) (by omega) (by decide)) ?_)
        refine wi_if_eq rfl (fun h9 => absurd h9 (by decide)) (fun _ => ?_)
        refine wi_aload_n rfl rfl ?_
        refine wi_getR rfl (kd_134 ..) (rd_134_8 _) ?_
        refine wi_iload_n rfl rfl ?_
        refine wn_iaload (q := q) (v := (Int32.ofNat (z))) rfl (ln_137 ..) rfl (by omega) (by decide) (by decide) (by decide) hz1 ?_
        refine wi_iload_n rfl rfl ?_
        refine wn_iadd (z := (Int32.ofNat (z + p))) rfl (add_n (a := z) (b := p) rfl rfl) ?_
        refine wi_sipush (x := 1000) rfl rfl ?_
        refine wi_icmp_le rfl (fun h9 => absurd trivial (by exfalso; have h8 := (le_n (a := z + p) (b := 1000) rfl (rfl : (1000 : Int32) = Int32.ofNat 1000) (by omega) (by omega)).mp h9; omega)) (fun _ => ?_)
        refine wi_aload_n rfl rfl ?_
        refine wi_iconst (x := 2) rfl rfl ?_
        refine wi_callV1 rfl (by decide) (by decide) rfl (kd_134 ..) rfl rfl rfl ?_
        refine wi_aload_n rfl rfl ?_
        refine wi_iload_n rfl rfl ?_
        refine wi_putI rfl (kd_134 ..) ?_
        refine wi_iconst (x := 0) rfl rfl ?_
        refine wi_iret rfl (by decide) ?_
        refine wi_iret rfl (by decide) ?_
        refine h2 _ _ _ ?_
        exact ⟨n, t, rfl, ⟨hn0, hn4, hn⟩, ⟨ht0, ht5, ht⟩, hT, hF, hC, hM, hP, hTp, hB, hFa, hS, hMk, hfr⟩
theorem st_zero {s n : Int32} (h : stF s n = 0) : s < 0 ∨ n ≤ s := by
  unfold stF at h
  by_cases h1 : s < 0
  · exact Or.inl h1
  · rw [if_neg h1] at h
    by_cases h2 : n ≤ s
    · exact Or.inr h2
    · rw [if_neg h2] at h
      exact absurd h (by decide)
theorem ge_nlt {s : Int32} {z : Nat} (hz : z < 2147483648) (h : Int32.ofNat z ≤ s) : ¬ s < 0 := by
  rw [Int32.le_iff_toInt_le, i32_toInt hz] at h
  rw [Int32.lt_iff_toInt_lt]
  have z0 : (0 : Int32).toInt = 0 := rfl
  omega
theorem a_planned {X : Nat × (Nat → Int32)} {k : Int32} : arm X 117 168 [.ref 0, .int k, .retAddr 0] [.ref 134, .int k] := by
  intro mi ml b hR Q hK
  obtain ⟨n, t, hst, ⟨hn0, hn4, hn⟩, ⟨ht0, ht5, ht⟩, hT, hF, hC, hM, hP, hTp, hB, hFa, hS, hMk, hfr⟩ := hR
  obtain ⟨z, hz0, hz1, hz, hz2⟩ := hP
  rcases st_cases k (n := z) (by omega) with e | ⟨p, h_p, rfl⟩
  · rcases st_zero e with z_k | z_k
    · refine wi_aload_n rfl rfl ?_
      refine wi_getR rfl (kd_0 ..) (rd_0_5 _) ?_
      refine wi_iload_n rfl rfl ?_
      refine wi_callV1 rfl (by decide) (by decide) rfl (kd_13 ..) rfl rfl rfl ?_
      refine wi_iload_n rfl rfl ?_
      refine wi_if_lt rfl (fun _ => ?_) (fun h9 => absurd z_k h9)
      refine wi_iconst (x := (-1)) rfl rfl ?_
      refine wi_iret rfl (Or.inl rfl) ?_
      refine wi_istore_n rfl (Nat.le_of_ble_eq_true rfl) rfl rfl ?_
      refine wi_iload_n rfl rfl ?_
      refine wi_iconst (x := (-1)) rfl rfl ?_
      refine wi_icmp_ne rfl (fun h9 => absurd h9 (by decide)) (fun _ => ?_)
      refine wi_aload_n rfl rfl ?_
      refine wi_iconst (x := 5) rfl rfl ?_
      refine wi_callV1 rfl (by decide) (by decide) rfl (kd_0 ..) rfl rfl rfl ?_
      refine wi_aload_n rfl rfl ?_
      refine wi_iload_n rfl rfl ?_
      refine wi_putI rfl (kd_0 ..) ?_
      refine wi_iconst (x := (-1)) rfl rfl ?_
      refine wi_iret rfl (Or.inl rfl) ?_
      refine wi_goto rfl ?_
      refine wi_iret rfl (Or.inl rfl) ?_
      refine hK _ _ _ _ (fun Q2 h2 => ?_)
      refine wi_aload_n rfl rfl ?_
      refine wi_iconst (x := 0) rfl rfl ?_
      refine wi_putI rfl (kd_134 ..) ?_
      refine wi_aload_n rfl rfl ?_
      refine wi_iconst (x := 0) rfl rfl ?_
      refine wi_putI rfl (kd_134 ..) ?_
      refine wi_iload_n rfl rfl ?_
      refine wi_if_lt rfl (fun _ => ?_) (fun h9 => absurd z_k h9)
      refine wi_aload_n rfl rfl ?_
      refine wi_iconst (x := 5) rfl rfl ?_
      refine wi_callV1 rfl (by decide) (by decide) rfl (kd_134 ..) rfl rfl rfl ?_
      refine wi_aload_n rfl rfl ?_
      refine wi_iload_n rfl rfl ?_
      refine wi_putI rfl (kd_134 ..) ?_
      refine wi_iconst (x := (-1)) rfl rfl ?_
      refine wi_iret rfl (Or.inl rfl) ?_
      refine wi_goto rfl ?_
      refine wi_iret rfl (Or.inl rfl) ?_
      refine h2 _ _ _ ?_
      exact ⟨n, t, rfl, ⟨hn0, hn4, hn⟩, ⟨ht0, ht5, ht⟩, hT, hF, hC, hM, ⟨z, hz0, hz1, hz, hz2⟩, hTp, hB, hFa, hS, hMk, hfr⟩
    · refine wi_aload_n rfl rfl ?_
      refine wi_getR rfl (kd_0 ..) (rd_0_5 _) ?_
      refine wi_iload_n rfl rfl ?_
      refine wi_callV1 rfl (by decide) (by decide) rfl (kd_13 ..) rfl rfl rfl ?_
      refine wi_iload_n rfl rfl ?_
      refine wi_if_lt rfl (fun h9 => absurd h9 (ge_nlt (by omega) z_k)) (fun _ => ?_)
      refine wi_iload_n rfl rfl ?_
      refine wi_aload_n rfl rfl ?_
      refine wi_getIv (v := (Int32.ofNat (z))) rfl (kd_13 ..) hz0 ?_
      refine wi_icmp_ge rfl (fun _ => ?_) (fun h9 => absurd z_k h9)
      refine wi_iconst (x := (-1)) rfl rfl ?_
      refine wi_iret rfl (Or.inl rfl) ?_
      refine wi_istore_n rfl (Nat.le_of_ble_eq_true rfl) rfl rfl ?_
      refine wi_iload_n rfl rfl ?_
      refine wi_iconst (x := (-1)) rfl rfl ?_
      refine wi_icmp_ne rfl (fun h9 => absurd h9 (by decide)) (fun _ => ?_)
      refine wi_aload_n rfl rfl ?_
      refine wi_iconst (x := 5) rfl rfl ?_
      refine wi_callV1 rfl (by decide) (by decide) rfl (kd_0 ..) rfl rfl rfl ?_
      refine wi_aload_n rfl rfl ?_
      refine wi_iload_n rfl rfl ?_
      refine wi_putI rfl (kd_0 ..) ?_
      refine wi_iconst (x := (-1)) rfl rfl ?_
      refine wi_iret rfl (Or.inl rfl) ?_
      refine wi_goto rfl ?_
      refine wi_iret rfl (Or.inl rfl) ?_
      refine hK _ _ _ _ (fun Q2 h2 => ?_)
      refine wi_aload_n rfl rfl ?_
      refine wi_iconst (x := 0) rfl rfl ?_
      refine wi_putI rfl (kd_134 ..) ?_
      refine wi_aload_n rfl rfl ?_
      refine wi_iconst (x := 0) rfl rfl ?_
      refine wi_putI rfl (kd_134 ..) ?_
      refine wi_iload_n rfl rfl ?_
      refine wi_if_lt rfl (fun h9 => absurd h9 (ge_nlt (by omega) z_k)) (fun _ => ?_)
      refine wi_iload_n rfl rfl ?_
      refine wi_aload_n rfl rfl ?_
      refine wi_getIv (v := (Int32.ofNat (z))) rfl (kd_134 ..) hz1 ?_
      refine wi_icmp_lt rfl (fun h9 => absurd z_k (Int32.not_le.mpr h9)) (fun _ => ?_)
      refine wi_aload_n rfl rfl ?_
      refine wi_iconst (x := 5) rfl rfl ?_
      refine wi_callV1 rfl (by decide) (by decide) rfl (kd_134 ..) rfl rfl rfl ?_
      refine wi_aload_n rfl rfl ?_
      refine wi_iload_n rfl rfl ?_
      refine wi_putI rfl (kd_134 ..) ?_
      refine wi_iconst (x := (-1)) rfl rfl ?_
      refine wi_iret rfl (Or.inl rfl) ?_
      refine wi_goto rfl ?_
      refine wi_iret rfl (Or.inl rfl) ?_
      refine h2 _ _ _ ?_
      exact ⟨n, t, rfl, ⟨hn0, hn4, hn⟩, ⟨ht0, ht5, ht⟩, hT, hF, hC, hM, ⟨z, hz0, hz1, hz, hz2⟩, hTp, hB, hFa, hS, hMk, hfr⟩
  · obtain ⟨g1, g2⟩ := hz2 p h_p
    have hne : ¬ mi 16 p = -1 := fun h => by
      rw [h] at g2
      exact absurd g2.1 (by decide)
    refine wi_aload_n rfl rfl ?_
    refine wi_getR rfl (kd_0 ..) (rd_0_5 _) ?_
    refine wi_iload_n rfl rfl ?_
    refine wi_callV1 rfl (by decide) (by decide) rfl (kd_13 ..) rfl rfl rfl ?_
    refine wi_iload_n rfl rfl ?_
    refine wi_if_lt rfl (fun h9 => absurd trivial (by exfalso; have h8 := (lt_n (a := p) (b := 0) rfl (rfl : (0 : Int32) = Int32.ofNat 0) (by omega) (by omega)).mp h9; omega)) (fun _ => ?_)
    refine wi_iload_n rfl rfl ?_
    refine wi_aload_n rfl rfl ?_
    refine wi_getIv (v := (Int32.ofNat (z))) rfl (kd_13 ..) hz0 ?_
    refine wi_icmp_ge rfl (fun h9 => absurd trivial (by exfalso; have h8 := (le_n (a := z) (b := p) rfl rfl (by omega) (by omega)).mp h9; omega)) (fun _ => ?_)
    refine wi_aload_n rfl rfl ?_
    refine wi_getR rfl (kd_13 ..) (rd_13_2 _) ?_
    refine wi_iload_n rfl rfl ?_
    refine wn_iaload (q := p) (v := (mi 16 p)) rfl (ln_16 ..) rfl (by omega) (by decide) (by decide) (by decide) rfl ?_
    refine wi_goto rfl ?_
    refine wi_iret rfl (Or.inl rfl) ?_
    refine wi_istore_n rfl (Nat.le_of_ble_eq_true rfl) rfl rfl ?_
    refine wi_iload_n rfl rfl ?_
    refine wi_iconst (x := (-1)) rfl rfl ?_
    refine wi_icmp_ne rfl (fun _ => ?_) (fun h9 => absurd hne h9)
    refine wi_aload_n rfl rfl ?_
    refine wi_iload_n rfl rfl ?_
    refine wi_callV1 rfl (by decide) (by decide) rfl (kd_0 ..) rfl rfl rfl ?_
    refine wi_aload_n rfl rfl ?_
    refine wi_iconst (x := 0) rfl rfl ?_
    refine wi_putI rfl (kd_0 ..) ?_
    refine wi_iload_n rfl rfl ?_
    refine wi_iret rfl (Or.inl rfl) ?_
    refine wi_iret rfl (Or.inl rfl) ?_
    refine hK _ _ _ _ (fun Q2 h2 => ?_)
    refine wi_aload_n rfl rfl ?_
    refine wi_iconst (x := 0) rfl rfl ?_
    refine wi_putI rfl (kd_134 ..) ?_
    refine wi_aload_n rfl rfl ?_
    refine wi_iconst (x := 0) rfl rfl ?_
    refine wi_putI rfl (kd_134 ..) ?_
    refine wi_iload_n rfl rfl ?_
    refine wi_if_lt rfl (fun h9 => absurd trivial (by exfalso; have h8 := (lt_n (a := p) (b := 0) rfl (rfl : (0 : Int32) = Int32.ofNat 0) (by omega) (by omega)).mp h9; omega)) (fun _ => ?_)
    refine wi_iload_n rfl rfl ?_
    refine wi_aload_n rfl rfl ?_
    refine wi_getIv (v := (Int32.ofNat (z))) rfl (kd_134 ..) hz1 ?_
    refine wi_icmp_lt rfl (fun _ => ?_) (fun h9 => absurd trivial (by exfalso; have h8 := (not_congr (lt_n (a := p) (b := z) rfl rfl (by omega) (by omega))).mp h9; omega))
    refine wi_aload_n rfl rfl ?_
    refine wi_getR rfl (kd_134 ..) (rd_134_19 _) ?_
    refine wi_iload_n rfl rfl ?_
    refine wn_iaload (q := p) (v := (mi 147 p)) rfl (ln_147 ..) rfl (by omega) (by decide) (by decide) (by decide) rfl ?_
    refine wi_iret rfl (Or.inl rfl) ?_
    rw [g1] at h2
    refine h2 _ _ _ ?_
    exact ⟨n, t, rfl, ⟨hn0, hn4, hn⟩, ⟨ht0, ht5, ht⟩, hT, hF, hC, hM, ⟨z, hz0, hz1, hz, hz2⟩, hTp, hB, hFa, hS, hMk, hfr⟩
