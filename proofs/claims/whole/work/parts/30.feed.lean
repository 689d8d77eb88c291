/-! ===== feed ===== -/
theorem b255 : ∀ i, i < 32 → 8 ≤ i → (255#32).getLsbD i = false := by decide
theorem byte_a (v : Int32) : (v.toUInt32 >>> ((24 : Int32).toUInt32 &&& Int32.toUInt32 31)).toInt32 &&& 255 = vp_nar .byte ((v >>> ((24 : Int32) &&& 31)).toInt8.toInt32) &&& 255 := by
  show _ = ((v >>> ((24 : Int32) &&& 31)).toInt8.toInt32).toInt8.toInt32 &&& 255
  rw [← Int32.toBitVec_inj]
  apply BitVec.eq_of_getLsbD_eq
  intro i hi
  by_cases h8 : 8 ≤ i
  · simp [b255 i hi h8]
  · have h9 : i < 8 := by omega
    have h7 : 24 + i < 32 := by omega
    simp [BitVec.getElem_signExtend, BitVec.getElem_sshiftRight, BitVec.getLsbD_eq_getElem, hi, h9, h7]
theorem byte_b (v : Int32) : (v.toUInt32 >>> ((16 : Int32).toUInt32 &&& Int32.toUInt32 31)).toInt32 &&& 255 = vp_nar .byte ((v >>> ((16 : Int32) &&& 31)).toInt8.toInt32) &&& 255 := by
  show _ = ((v >>> ((16 : Int32) &&& 31)).toInt8.toInt32).toInt8.toInt32 &&& 255
  rw [← Int32.toBitVec_inj]
  apply BitVec.eq_of_getLsbD_eq
  intro i hi
  by_cases h8 : 8 ≤ i
  · simp [b255 i hi h8]
  · have h9 : i < 8 := by omega
    have h7 : 16 + i < 32 := by omega
    simp [BitVec.getElem_signExtend, BitVec.getElem_sshiftRight, BitVec.getLsbD_eq_getElem, hi, h9, h7]
theorem byte_c (v : Int32) : (v.toUInt32 >>> ((8 : Int32).toUInt32 &&& Int32.toUInt32 31)).toInt32 &&& 255 = vp_nar .byte ((v >>> ((8 : Int32) &&& 31)).toInt8.toInt32) &&& 255 := by
  show _ = ((v >>> ((8 : Int32) &&& 31)).toInt8.toInt32).toInt8.toInt32 &&& 255
  rw [← Int32.toBitVec_inj]
  apply BitVec.eq_of_getLsbD_eq
  intro i hi
  by_cases h8 : 8 ≤ i
  · simp [b255 i hi h8]
  · have h9 : i < 8 := by omega
    have h7 : 8 + i < 32 := by omega
    simp [BitVec.getElem_signExtend, BitVec.getElem_sshiftRight, BitVec.getLsbD_eq_getElem, hi, h9, h7]
theorem byte_d (v : Int32) : (v.toUInt32 >>> ((0 : Int32).toUInt32 &&& Int32.toUInt32 31)).toInt32 &&& 255 = vp_nar .byte ((v >>> ((0 : Int32) &&& 31)).toInt8.toInt32) &&& 255 := by
  show _ = ((v >>> ((0 : Int32) &&& 31)).toInt8.toInt32).toInt8.toInt32 &&& 255
  rw [← Int32.toBitVec_inj]
  apply BitVec.eq_of_getLsbD_eq
  intro i hi
  by_cases h8 : 8 ≤ i
  · simp [b255 i hi h8]
  · have h9 : i < 8 := by omega
    have h7 : 0 + i < 32 := by omega
    simp [BitVec.getElem_signExtend, BitVec.getElem_sshiftRight, BitVec.getLsbD_eq_getElem, hi, h9, h7]
def A4 (r : Nat → Int32) (q : Nat) (v : Int32) : Nat → Int32 := fun k => if k = q + 1 + 1 + 1 then ((v.toUInt32 >>> ((0 : Int32).toUInt32 &&& Int32.toUInt32 31)).toInt32 &&& 255) else if k = q + 1 + 1 then ((v.toUInt32 >>> ((8 : Int32).toUInt32 &&& Int32.toUInt32 31)).toInt32 &&& 255) else if k = q + 1 then ((v.toUInt32 >>> ((16 : Int32).toUInt32 &&& Int32.toUInt32 31)).toInt32 &&& 255) else if k = q then ((v.toUInt32 >>> ((24 : Int32).toUInt32 &&& Int32.toUInt32 31)).toInt32 &&& 255) else r k
def B4 (r : Nat → Int32) (q : Nat) (v : Int32) : Nat → Int32 := fun k => if k = q + 1 + 1 + 1 then (vp_nar .byte ((v >>> ((0 : Int32) &&& 31)).toInt8.toInt32)) else if k = q + 1 + 1 then (vp_nar .byte ((v >>> ((8 : Int32) &&& 31)).toInt8.toInt32)) else if k = q + 1 then (vp_nar .byte ((v >>> ((16 : Int32) &&& 31)).toInt8.toInt32)) else if k = q then (vp_nar .byte ((v >>> ((24 : Int32) &&& 31)).toInt8.toInt32)) else r k
theorem rT_app {t t' : Nat → Int32} {q : Nat} {v : Int32} (h : ∀ k, k < q → t k = t' k &&& 255) : ∀ k, k < q + 1 + 1 + 1 + 1 → A4 t q v k = B4 t' q v k &&& 255 := by
  intro k hk
  unfold A4 B4
  by_cases h0 : k = q + 1 + 1 + 1
  · rw [if_pos h0, if_pos h0]; exact byte_d v
  rw [if_neg h0, if_neg h0]
  by_cases h1 : k = q + 1 + 1
  · rw [if_pos h1, if_pos h1]; exact byte_c v
  rw [if_neg h1, if_neg h1]
  by_cases h2 : k = q + 1
  · rw [if_pos h2, if_pos h2]; exact byte_b v
  rw [if_neg h2, if_neg h2]
  by_cases h3 : k = q
  · rw [if_pos h3, if_pos h3]; exact byte_a v
  rw [if_neg h3, if_neg h3]
  exact h k (by omega)
def tpX (mi : Nat → Nat → Int32) (q : Nat) (v : Int32) : Nat → Nat → Int32 := fun a k => if a = 27 then A4 (mi 27) q v k else if a = 26 then (if k = 1 then Int32.ofNat (q + 1 + 1 + 1 + 1) else mi 26 k) else mi a k
def tpM (mi : Nat → Nat → Int32) (q : Nat) (v : Int32) : Nat → Nat → Int32 := fun a k => if a = 157 then B4 (mi 157) q v k else if a = 134 then (if k = 35 then Int32.ofNat (q + 1 + 1 + 1 + 1) else mi 134 k) else mi a k
section FD
variable {X : Nat × (Nat → Int32)} {d : Nat} {Q : Option Value → am_M → Prop} {mi : Nat → Nat → Int32} {ml : Nat → Nat → Int64} {b : Bool} {q : Nat} {v : Int32}
theorem c_append (hc : mi 26 1 = Int32.ofNat q) (hq : q + 4 ≤ 400) (hQ : Q none (am_shT, mrL b, tpX mi q v, ml)) : am_wp X d 80 0 [.ref 26, .int v, .retAddr 0] [] (am_shT, mrL b, mi, ml) Q := by
  refine wi_bipush (x := 24) rfl rfl ?_
  refine wi_istore_n rfl (Nat.le_of_ble_eq_true rfl) rfl rfl ?_
  refine wi_iload_n rfl rfl ?_
  refine wi_if_lt rfl (fun h9 => absurd h9 (by decide)) (fun _ => ?_)
  refine wi_aload_n rfl rfl ?_
  refine wi_getIv (v := (Int32.ofNat (q))) rfl (kd_26 ..) hc ?_
  refine wi_sipush (x := 400) rfl rfl ?_
  refine wi_icmp_ge rfl (fun h9 => absurd trivial (by exfalso; have h8 := (le_n (a := 400) (b := q) (rfl : (400 : Int32) = Int32.ofNat 400) rfl (by omega) (by omega)).mp h9; omega)) (fun _ => ?_)
  refine wi_aload_n rfl rfl ?_
  refine wi_getR rfl (kd_26 ..) (rd_26_0 _) ?_
  refine wi_aload_n rfl rfl ?_
  refine wi_getIv (v := (Int32.ofNat (q))) rfl (kd_26 ..) hc ?_
  refine wi_iload_n rfl rfl ?_
  refine wi_iload_n rfl rfl ?_
  refine wi_iushr rfl ?_
  refine wi_sipush (x := 255) rfl rfl ?_
  refine wi_iand rfl ?_
  refine wn_iastore (q := q) rfl (ln_27 ..) rfl (by omega) (by decide) ?_
  refine wi_aload_n rfl rfl ?_
  refine wi_dup rfl rfl ?_
  refine wi_getIv (v := (Int32.ofNat (q))) rfl (kd_26 ..) hc ?_
  refine wi_iconst (x := 1) rfl rfl ?_
  refine wn_iadd (z := (Int32.ofNat (q + 1))) rfl (add_n (a := q) (b := 1) rfl (rfl : (1 : Int32) = Int32.ofNat 1)) ?_
  refine wi_putI rfl (kd_26 ..) ?_
  refine wi_iinc (z := (16 : Int32)) rfl rfl rfl (by decide) rfl ?_
  refine wi_goto rfl ?_
  refine wi_iload_n rfl rfl ?_
  refine wi_if_lt rfl (fun h9 => absurd h9 (by decide)) (fun _ => ?_)
  refine wi_aload_n rfl rfl ?_
  refine wi_getIv (v := (Int32.ofNat (q + 1))) rfl (kd_26 ..) rfl ?_
  refine wi_sipush (x := 400) rfl rfl ?_
  refine wi_icmp_ge rfl (fun h9 => absurd trivial (by exfalso; have h8 := (le_n (a := 400) (b := q + 1) (rfl : (400 : Int32) = Int32.ofNat 400) rfl (by omega) (by omega)).mp h9; omega)) (fun _ => ?_)
  refine wi_aload_n rfl rfl ?_
  refine wi_getR rfl (kd_26 ..) (rd_26_0 _) ?_
  refine wi_aload_n rfl rfl ?_
  refine wi_getIv (v := (Int32.ofNat (q + 1))) rfl (kd_26 ..) rfl ?_
  refine wi_iload_n rfl rfl ?_
  refine wi_iload_n rfl rfl ?_
  refine wi_iushr rfl ?_
  refine wi_sipush (x := 255) rfl rfl ?_
  refine wi_iand rfl ?_
  refine wn_iastore (q := q + 1) rfl (ln_27 ..) rfl (by omega) (by decide) ?_
  refine wi_aload_n rfl rfl ?_
  refine wi_dup rfl rfl ?_
  refine wi_getIv (v := (Int32.ofNat (q + 1))) rfl (kd_26 ..) rfl ?_
  refine wi_iconst (x := 1) rfl rfl ?_
  refine wn_iadd (z := (Int32.ofNat (q + 1 + 1))) rfl (add_n (a := q + 1) (b := 1) rfl (rfl : (1 : Int32) = Int32.ofNat 1)) ?_
  refine wi_putI rfl (kd_26 ..) ?_
  refine wi_iinc (z := (8 : Int32)) rfl rfl rfl (by decide) rfl ?_
  refine wi_goto rfl ?_
  refine wi_iload_n rfl rfl ?_
  refine wi_if_lt rfl (fun h9 => absurd h9 (by decide)) (fun _ => ?_)
  refine wi_aload_n rfl rfl ?_
  refine wi_getIv (v := (Int32.ofNat (q + 1 + 1))) rfl (kd_26 ..) rfl ?_
  refine wi_sipush (x := 400) rfl rfl ?_
  refine wi_icmp_ge rfl (fun h9 => absurd trivial (by exfalso; have h8 := (le_n (a := 400) (b := q + 1 + 1) (rfl : (400 : Int32) = Int32.ofNat 400) rfl (by omega) (by omega)).mp h9; omega)) (fun _ => ?_)
  refine wi_aload_n rfl rfl ?_
  refine wi_getR rfl (kd_26 ..) (rd_26_0 _) ?_
  refine wi_aload_n rfl rfl ?_
  refine wi_getIv (v := (Int32.ofNat (q + 1 + 1))) rfl (kd_26 ..) rfl ?_
  refine wi_iload_n rfl rfl ?_
  refine wi_iload_n rfl rfl ?_
  refine wi_iushr rfl ?_
  refine wi_sipush (x := 255) rfl rfl ?_
  refine wi_iand rfl ?_
  refine wn_iastore (q := q + 1 + 1) rfl (ln_27 ..) rfl (by omega) (by decide) ?_
  refine wi_aload_n rfl rfl ?_
  refine wi_dup rfl rfl ?_
  refine wi_getIv (v := (Int32.ofNat (q + 1 + 1))) rfl (kd_26 ..) rfl ?_
  refine wi_iconst (x := 1) rfl rfl ?_
  refine wn_iadd (z := (Int32.ofNat (q + 1 + 1 + 1))) rfl (add_n (a := q + 1 + 1) (b := 1) rfl (rfl : (1 : Int32) = Int32.ofNat 1)) ?_
  refine wi_putI rfl (kd_26 ..) ?_
  refine wi_iinc (z := (0 : Int32)) rfl rfl rfl (by decide) rfl ?_
  refine wi_goto rfl ?_
  refine wi_iload_n rfl rfl ?_
  refine wi_if_lt rfl (fun h9 => absurd h9 (by decide)) (fun _ => ?_)
  refine wi_aload_n rfl rfl ?_
  refine wi_getIv (v := (Int32.ofNat (q + 1 + 1 + 1))) rfl (kd_26 ..) rfl ?_
  refine wi_sipush (x := 400) rfl rfl ?_
  refine wi_icmp_ge rfl (fun h9 => absurd trivial (by exfalso; have h8 := (le_n (a := 400) (b := q + 1 + 1 + 1) (rfl : (400 : Int32) = Int32.ofNat 400) rfl (by omega) (by omega)).mp h9; omega)) (fun _ => ?_)
  refine wi_aload_n rfl rfl ?_
  refine wi_getR rfl (kd_26 ..) (rd_26_0 _) ?_
  refine wi_aload_n rfl rfl ?_
  refine wi_getIv (v := (Int32.ofNat (q + 1 + 1 + 1))) rfl (kd_26 ..) rfl ?_
  refine wi_iload_n rfl rfl ?_
  refine wi_iload_n rfl rfl ?_
  refine wi_iushr rfl ?_
  refine wi_sipush (x := 255) rfl rfl ?_
  refine wi_iand rfl ?_
  refine wn_iastore (q := q + 1 + 1 + 1) rfl (ln_27 ..) rfl (by omega) (by decide) ?_
  refine wi_aload_n rfl rfl ?_
  refine wi_dup rfl rfl ?_
  refine wi_getIv (v := (Int32.ofNat (q + 1 + 1 + 1))) rfl (kd_26 ..) rfl ?_
  refine wi_iconst (x := 1) rfl rfl ?_
  refine wn_iadd (z := (Int32.ofNat (q + 1 + 1 + 1 + 1))) rfl (add_n (a := q + 1 + 1 + 1) (b := 1) rfl (rfl : (1 : Int32) = Int32.ofNat 1)) ?_
  refine wi_putI rfl (kd_26 ..) ?_
  refine wi_iinc (z := (-8 : Int32)) rfl rfl rfl (by decide) rfl ?_
  refine wi_goto rfl ?_
  refine wi_iload_n rfl rfl ?_
  refine wi_if_lt rfl (fun _ => ?_) (fun h9 => absurd (by decide) h9)
  refine wi_ret rfl ?_
  refine am_mem (mi2 := tpX mi q v) hQ ?_
  funext a k
  by_cases h1 : a = 27
  · subst h1; rfl
  by_cases h2 : a = 26
  · subst h2
    by_cases h3 : k = 1
    · subst h3; rfl
    · simp [u2, tpX, h3]
  · simp [u2, tpX, h1, h2]
theorem c_lay (hc : mi 134 35 = Int32.ofNat q) (hq : q + 4 ≤ 400) (hQ : Q none (am_shT, mrL b, tpM mi q v, ml)) : am_wp X d 182 0 [.ref 134, .int v, .retAddr 0] [] (am_shT, mrL b, mi, ml) Q := by
  refine wi_iconst (x := 3) rfl rfl ?_
  refine wi_istore_n rfl (Nat.le_of_ble_eq_true rfl) rfl rfl ?_
  refine wi_iload_n rfl rfl ?_
  refine wi_if_lt rfl (fun h9 => absurd h9 (by decide)) (fun _ => ?_)
  refine wi_aload_n rfl rfl ?_
  refine wi_getR rfl (kd_134 ..) (rd_134_34 _) ?_
  refine wi_aload_n rfl rfl ?_
  refine wi_getIv (v := (Int32.ofNat (q))) rfl (kd_134 ..) hc ?_
  refine wi_iload_n rfl rfl ?_
  refine wi_bipush (x := 8) rfl rfl ?_
  refine wi_iload_n rfl rfl ?_
  refine wi_imul rfl ?_
  rw [show (((8 : Int32) * (3 : Int32)) : Int32) = (24 : Int32) from by decide]
  refine wi_ishr rfl ?_
  refine wi_i2b rfl ?_
  refine wn_bastoreB (q := q) rfl (ln_157 ..) rfl (by omega) (by decide) ?_
  refine wi_aload_n rfl rfl ?_
  refine wi_dup rfl rfl ?_
  refine wi_getIv (v := (Int32.ofNat (q))) rfl (kd_134 ..) hc ?_
  refine wi_iconst (x := 1) rfl rfl ?_
  refine wn_iadd (z := (Int32.ofNat (q + 1))) rfl (add_n (a := q) (b := 1) rfl (rfl : (1 : Int32) = Int32.ofNat 1)) ?_
  refine wi_putI rfl (kd_134 ..) ?_
  refine wi_iinc (z := (2 : Int32)) rfl rfl rfl (by decide) rfl ?_
  refine wi_goto rfl ?_
  refine wi_iload_n rfl rfl ?_
  refine wi_if_lt rfl (fun h9 => absurd h9 (by decide)) (fun _ => ?_)
  refine wi_aload_n rfl rfl ?_
  refine wi_getR rfl (kd_134 ..) (rd_134_34 _) ?_
  refine wi_aload_n rfl rfl ?_
  refine wi_getIv (v := (Int32.ofNat (q + 1))) rfl (kd_134 ..) rfl ?_
  refine wi_iload_n rfl rfl ?_
  refine wi_bipush (x := 8) rfl rfl ?_
  refine wi_iload_n rfl rfl ?_
  refine wi_imul rfl ?_
  rw [show (((8 : Int32) * (2 : Int32)) : Int32) = (16 : Int32) from by decide]
  refine wi_ishr rfl ?_
  refine wi_i2b rfl ?_
  refine wn_bastoreB (q := q + 1) rfl (ln_157 ..) rfl (by omega) (by decide) ?_
  refine wi_aload_n rfl rfl ?_
  refine wi_dup rfl rfl ?_
  refine wi_getIv (v := (Int32.ofNat (q + 1))) rfl (kd_134 ..) rfl ?_
  refine wi_iconst (x := 1) rfl rfl ?_
  refine wn_iadd (z := (Int32.ofNat (q + 1 + 1))) rfl (add_n (a := q + 1) (b := 1) rfl (rfl : (1 : Int32) = Int32.ofNat 1)) ?_
  refine wi_putI rfl (kd_134 ..) ?_
  refine wi_iinc (z := (1 : Int32)) rfl rfl rfl (by decide) rfl ?_
  refine wi_goto rfl ?_
  refine wi_iload_n rfl rfl ?_
  refine wi_if_lt rfl (fun h9 => absurd h9 (by decide)) (fun _ => ?_)
  refine wi_aload_n rfl rfl ?_
  refine wi_getR rfl (kd_134 ..) (rd_134_34 _) ?_
  refine wi_aload_n rfl rfl ?_
  refine wi_getIv (v := (Int32.ofNat (q + 1 + 1))) rfl (kd_134 ..) rfl ?_
  refine wi_iload_n rfl rfl ?_
  refine wi_bipush (x := 8) rfl rfl ?_
  refine wi_iload_n rfl rfl ?_
  refine wi_imul rfl ?_
  rw [show (((8 : Int32) * (1 : Int32)) : Int32) = (8 : Int32) from by decide]
  refine wi_ishr rfl ?_
  refine wi_i2b rfl ?_
  refine wn_bastoreB (q := q + 1 + 1) rfl (ln_157 ..) rfl (by omega) (by decide) ?_
  refine wi_aload_n rfl rfl ?_
  refine wi_dup rfl rfl ?_
  refine wi_getIv (v := (Int32.ofNat (q + 1 + 1))) rfl (kd_134 ..) rfl ?_
  refine wi_iconst (x := 1) rfl rfl ?_
  refine wn_iadd (z := (Int32.ofNat (q + 1 + 1 + 1))) rfl (add_n (a := q + 1 + 1) (b := 1) rfl (rfl : (1 : Int32) = Int32.ofNat 1)) ?_
  refine wi_putI rfl (kd_134 ..) ?_
  refine wi_iinc (z := (0 : Int32)) rfl rfl rfl (by decide) rfl ?_
  refine wi_goto rfl ?_
  refine wi_iload_n rfl rfl ?_
  refine wi_if_lt rfl (fun h9 => absurd h9 (by decide)) (fun _ => ?_)
  refine wi_aload_n rfl rfl ?_
  refine wi_getR rfl (kd_134 ..) (rd_134_34 _) ?_
  refine wi_aload_n rfl rfl ?_
  refine wi_getIv (v := (Int32.ofNat (q + 1 + 1 + 1))) rfl (kd_134 ..) rfl ?_
  refine wi_iload_n rfl rfl ?_
  refine wi_bipush (x := 8) rfl rfl ?_
  refine wi_iload_n rfl rfl ?_
  refine wi_imul rfl ?_
  rw [show (((8 : Int32) * (0 : Int32)) : Int32) = (0 : Int32) from by decide]
  refine wi_ishr rfl ?_
  refine wi_i2b rfl ?_
  refine wn_bastoreB (q := q + 1 + 1 + 1) rfl (ln_157 ..) rfl (by omega) (by decide) ?_
  refine wi_aload_n rfl rfl ?_
  refine wi_dup rfl rfl ?_
  refine wi_getIv (v := (Int32.ofNat (q + 1 + 1 + 1))) rfl (kd_134 ..) rfl ?_
  refine wi_iconst (x := 1) rfl rfl ?_
  refine wn_iadd (z := (Int32.ofNat (q + 1 + 1 + 1 + 1))) rfl (add_n (a := q + 1 + 1 + 1) (b := 1) rfl (rfl : (1 : Int32) = Int32.ofNat 1)) ?_
  refine wi_putI rfl (kd_134 ..) ?_
  refine wi_iinc (z := (-1 : Int32)) rfl rfl rfl (by decide) rfl ?_
  refine wi_goto rfl ?_
  refine wi_iload_n rfl rfl ?_
  refine wi_if_lt rfl (fun _ => ?_) (fun h9 => absurd (by decide) h9)
  refine wi_ret rfl ?_
  refine am_mem (mi2 := tpM mi q v) hQ ?_
  funext a k
  by_cases h1 : a = 157
  · subst h1; rfl
  by_cases h2 : a = 134
  · subst h2
    by_cases h3 : k = 35
    · subst h3; rfl
    · simp [u2, tpM, h3]
  · simp [u2, tpM, h1, h2]
end FD
theorem a_feed {X : Nat × (Nat → Int32)} {v0 v1 v2 v3 v4 : Int32} : arm X 118 181 [.ref 0, .int v0, .int v1, .int v2, .int v3, .int v4] [.ref 134, .int v0, .int v1, .int v2, .int v3, .int v4] := by
  intro mi ml b hR Q hK
  obtain ⟨n, t, hst, ⟨hn0, hn4, hn⟩, ⟨ht0, ht5, ht⟩, hT, hF, hC, hM, hP, hTp, hB, hFa, hS, hMk, hfr⟩ := hR
  obtain ⟨q, hq0, hq1, hq2, hq3⟩ := hTp
  by_cases hr : q + 20 ≤ 400
  · refine wi_aload_n rfl rfl ?_
    refine wi_getR rfl (kd_0 ..) (rd_0_6 _) ?_
    refine wi_callV0 rfl (by decide) (by decide) rfl (kd_26 ..) rfl rfl rfl ?_
    refine wi_aload_n rfl rfl ?_
    refine wi_getIv (v := (Int32.ofNat (q))) rfl (kd_26 ..) hq0 ?_
    refine wi_bipush (x := 20) rfl rfl ?_
    refine wn_iadd (z := (Int32.ofNat (q + 20))) rfl (add_n (a := q) (b := 20) rfl (rfl : (20 : Int32) = Int32.ofNat 20)) ?_
    refine wi_sipush (x := 400) rfl rfl ?_
    refine wi_icmp_gt rfl (fun h9 => absurd trivial (by exfalso; have h8 := (lt_n (a := 400) (b := q + 20) (rfl : (400 : Int32) = Int32.ofNat 400) rfl (by omega) (by omega)).mp h9; omega)) (fun _ => ?_)
    refine wi_iconst (x := 1) rfl rfl ?_
    refine wi_goto rfl ?_
    refine wi_iret rfl (by decide) ?_
    refine wi_if_ne rfl (fun _ => ?_) (fun h9 => absurd (by decide) h9)
    refine wi_aload_n rfl rfl ?_
    refine wi_getR rfl (kd_0 ..) (rd_0_6 _) ?_
    refine wi_iload_n rfl rfl ?_
    refine wi_callV1 rfl (by decide) (by decide) rfl (kd_26 ..) rfl rfl rfl (c_append (q := q) hq0 (by omega) ?_)
    refine wi_aload_n rfl rfl ?_
    refine wi_getR rfl (kd_0 ..) (rd_0_6 _) ?_
    refine wi_iload_n rfl rfl ?_
    refine wi_callV1 rfl (by decide) (by decide) rfl (kd_26 ..) rfl rfl rfl (c_append (q := q + 1 + 1 + 1 + 1) rfl (by omega) ?_)
    refine wi_aload_n rfl rfl ?_
    refine wi_getR rfl (kd_0 ..) (rd_0_6 _) ?_
    refine wi_iload_n rfl rfl ?_
    refine wi_callV1 rfl (by decide) (by decide) rfl (kd_26 ..) rfl rfl rfl (c_append (q := q + 1 + 1 + 1 + 1 + 1 + 1 + 1 + 1) rfl (by omega) ?_)
    refine wi_aload_n rfl rfl ?_
    refine wi_getR rfl (kd_0 ..) (rd_0_6 _) ?_
    refine wi_iload rfl rfl ?_
    refine wi_callV1 rfl (by decide) (by decide) rfl (kd_26 ..) rfl rfl rfl (c_append (q := q + 1 + 1 + 1 + 1 + 1 + 1 + 1 + 1 + 1 + 1 + 1 + 1) rfl (by omega) ?_)
    refine wi_aload_n rfl rfl ?_
    refine wi_getR rfl (kd_0 ..) (rd_0_6 _) ?_
    refine wi_iload rfl rfl ?_
    refine wi_callV1 rfl (by decide) (by decide) rfl (kd_26 ..) rfl rfl rfl (c_append (q := q + 1 + 1 + 1 + 1 + 1 + 1 + 1 + 1 + 1 + 1 + 1 + 1 + 1 + 1 + 1 + 1) rfl (by omega) ?_)
    refine wi_aload_n rfl rfl ?_
    refine wi_getR rfl (kd_0 ..) (rd_0_6 _) ?_
    refine wi_callV0 rfl (by decide) (by decide) rfl (kd_26 ..) rfl rfl rfl ?_
    refine wi_aload_n rfl rfl ?_
    refine wi_getIv (v := (Int32.ofNat (q + 1 + 1 + 1 + 1 + 1 + 1 + 1 + 1 + 1 + 1 + 1 + 1 + 1 + 1 + 1 + 1 + 1 + 1 + 1 + 1))) rfl (kd_26 ..) rfl ?_
    refine wi_iret rfl (Or.inl rfl) ?_
    refine wi_iret rfl (Or.inl rfl) ?_
    refine hK _ _ _ _ (fun Q2 h2 => ?_)
    refine wi_aload_n rfl rfl ?_
    refine wi_iconst (x := 0) rfl rfl ?_
    refine wi_putI rfl (kd_134 ..) ?_
    refine wi_aload_n rfl rfl ?_
    refine wi_getIv (v := (Int32.ofNat (q))) rfl (kd_134 ..) hq1 ?_
    refine wi_bipush (x := 20) rfl rfl ?_
    refine wn_iadd (z := (Int32.ofNat (q + 20))) rfl (add_n (a := q) (b := 20) rfl (rfl : (20 : Int32) = Int32.ofNat 20)) ?_
    refine wi_sipush (x := 400) rfl rfl ?_
    refine wi_icmp_le rfl (fun _ => ?_) (fun h9 => absurd trivial (by exfalso; have h8 := (not_congr (le_n (a := q + 20) (b := 400) rfl (rfl : (400 : Int32) = Int32.ofNat 400) (by omega) (by omega))).mp h9; omega))
    refine wi_aload_n rfl rfl ?_
    refine wi_iload_n rfl rfl ?_
    refine wi_callV1 rfl (by decide) (by decide) rfl (kd_134 ..) rfl rfl rfl (c_lay (q := q) hq1 (by omega) ?_)
    refine wi_aload_n rfl rfl ?_
    refine wi_iload_n rfl rfl ?_
    refine wi_callV1 rfl (by decide) (by decide) rfl (kd_134 ..) rfl rfl rfl (c_lay (q := q + 1 + 1 + 1 + 1) rfl (by omega) ?_)
    refine wi_aload_n rfl rfl ?_
    refine wi_iload_n rfl rfl ?_
    refine wi_callV1 rfl (by decide) (by decide) rfl (kd_134 ..) rfl rfl rfl (c_lay (q := q + 1 + 1 + 1 + 1 + 1 + 1 + 1 + 1) rfl (by omega) ?_)
    refine wi_aload_n rfl rfl ?_
    refine wi_iload rfl rfl ?_
    refine wi_callV1 rfl (by decide) (by decide) rfl (kd_134 ..) rfl rfl rfl (c_lay (q := q + 1 + 1 + 1 + 1 + 1 + 1 + 1 + 1 + 1 + 1 + 1 + 1) rfl (by omega) ?_)
    refine wi_aload_n rfl rfl ?_
    refine wi_iload rfl rfl ?_
    refine wi_callV1 rfl (by decide) (by decide) rfl (kd_134 ..) rfl rfl rfl (c_lay (q := q + 1 + 1 + 1 + 1 + 1 + 1 + 1 + 1 + 1 + 1 + 1 + 1 + 1 + 1 + 1 + 1) rfl (by omega) ?_)
    refine wi_aload_n rfl rfl ?_
    refine wi_getIv (v := (Int32.ofNat (q + 1 + 1 + 1 + 1 + 1 + 1 + 1 + 1 + 1 + 1 + 1 + 1 + 1 + 1 + 1 + 1 + 1 + 1 + 1 + 1))) rfl (kd_134 ..) rfl ?_
    refine wi_iret rfl (Or.inl rfl) ?_
    refine h2 _ _ _ ?_
    exact ⟨n, t, hst, ⟨hn0, hn4, hn⟩, ⟨ht0, ht5, ht⟩, hT, hF, hC, hM, hP, ⟨q + 1 + 1 + 1 + 1 + 1 + 1 + 1 + 1 + 1 + 1 + 1 + 1 + 1 + 1 + 1 + 1 + 1 + 1 + 1 + 1, rfl, rfl, by omega, rT_app (rT_app (rT_app (rT_app (rT_app hq3))))⟩, hB, hFa, hS, hMk, hfr⟩
  · refine wi_aload_n rfl rfl ?_
    refine wi_getR rfl (kd_0 ..) (rd_0_6 _) ?_
    refine wi_callV0 rfl (by decide) (by decide) rfl (kd_26 ..) rfl rfl rfl ?_
    refine wi_aload_n rfl rfl ?_
    refine wi_getIv (v := (Int32.ofNat (q))) rfl (kd_26 ..) hq0 ?_
    refine wi_bipush (x := 20) rfl rfl ?_
    refine wn_iadd (z := (Int32.ofNat (q + 20))) rfl (add_n (a := q) (b := 20) rfl (rfl : (20 : Int32) = Int32.ofNat 20)) ?_
    refine wi_sipush (x := 400) rfl rfl ?_
    refine wi_icmp_gt rfl (fun _ => ?_) (fun h9 => absurd trivial (by exfalso; have h8 := (not_congr (lt_n (a := 400) (b := q + 20) (rfl : (400 : Int32) = Int32.ofNat 400) rfl (by omega) (by omega))).mp h9; omega))
    refine wi_iconst (x := 0) rfl rfl ?_
    refine wi_iret rfl (by decide) ?_
    refine wi_if_ne rfl (fun h9 => absurd h9 (by decide)) (fun _ => ?_)
    refine wi_iconst (x := (-1)) rfl rfl ?_
    refine wi_iret rfl (Or.inl rfl) ?_
    refine hK _ _ _ _ (fun Q2 h2 => ?_)
    refine wi_aload_n rfl rfl ?_
    refine wi_iconst (x := 0) rfl rfl ?_
    refine wi_putI rfl (kd_134 ..) ?_
    refine wi_aload_n rfl rfl ?_
    refine wi_getIv (v := (Int32.ofNat (q))) rfl (kd_134 ..) hq1 ?_
    refine wi_bipush (x := 20) rfl rfl ?_
    refine wn_iadd (z := (Int32.ofNat (q + 20))) rfl (add_n (a := q) (b := 20) rfl (rfl : (20 : Int32) = Int32.ofNat 20)) ?_
    refine wi_sipush (x := 400) rfl rfl ?_
    refine wi_icmp_le rfl (fun h9 => absurd trivial (by exfalso; have h8 := (le_n (a := q + 20) (b := 400) rfl (rfl : (400 : Int32) = Int32.ofNat 400) (by omega) (by omega)).mp h9; omega)) (fun _ => ?_)
    refine wi_iconst (x := (-1)) rfl rfl ?_
    refine wi_iret rfl (Or.inl rfl) ?_
    refine h2 _ _ _ ?_
    exact ⟨n, t, hst, ⟨hn0, hn4, hn⟩, ⟨ht0, ht5, ht⟩, hT, hF, hC, hM, hP, ⟨q, hq0, hq1, hq2, hq3⟩, hB, hFa, hS, hMk, hfr⟩
