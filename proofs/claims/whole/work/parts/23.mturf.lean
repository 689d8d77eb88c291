/-! ===== the reference: a strip stepped ===== -/
abbrev six : Type := Int32 × Int32 × Int32 × Int32 × Int32 × Int32
def up6 (mi : Nat → Nat → Int32) (a : Nat) (p : six) : Nat → Nat → Int32 := upT mi a p.1 p.2.1 p.2.2.1 p.2.2.2.1 p.2.2.2.2.1 p.2.2.2.2.2
theorem upT_s0 {mi : Nat → Nat → Int32} {a : Nat} {f s t g h w v : Int32} : u2 (upT mi a f s t g h w) a 0 v = upT mi a v s t g h w :=
  upT_eq (by rw [u2_rd, upT_rd]; rfl) (by rw [u2_rd, upT_rd]; rfl) (by rw [u2_rd, upT_rd]; rfl) (by rw [u2_rd, upT_rd]; rfl) (by rw [u2_rd, upT_rd]; rfl) (by rw [u2_rd, upT_rd]; rfl) (fun k e0 e1 e2 e3 e4 e5 => by rw [u2_rd, upT_rd]; simp [e0, e1, e2, e3, e4, e5]) (fun q hq => by rw [u2_ne hq, upT_ne hq])
theorem upT_s1 {mi : Nat → Nat → Int32} {a : Nat} {f s t g h w v : Int32} : u2 (upT mi a f s t g h w) a 1 v = upT mi a f v t g h w :=
  upT_eq (by rw [u2_rd, upT_rd]; rfl) (by rw [u2_rd, upT_rd]; rfl) (by rw [u2_rd, upT_rd]; rfl) (by rw [u2_rd, upT_rd]; rfl) (by rw [u2_rd, upT_rd]; rfl) (by rw [u2_rd, upT_rd]; rfl) (fun k e0 e1 e2 e3 e4 e5 => by rw [u2_rd, upT_rd]; simp [e0, e1, e2, e3, e4, e5]) (fun q hq => by rw [u2_ne hq, upT_ne hq])
theorem upT_s2 {mi : Nat → Nat → Int32} {a : Nat} {f s t g h w v : Int32} : u2 (upT mi a f s t g h w) a 2 v = upT mi a f s v g h w :=
  upT_eq (by rw [u2_rd, upT_rd]; rfl) (by rw [u2_rd, upT_rd]; rfl) (by rw [u2_rd, upT_rd]; rfl) (by rw [u2_rd, upT_rd]; rfl) (by rw [u2_rd, upT_rd]; rfl) (by rw [u2_rd, upT_rd]; rfl) (fun k e0 e1 e2 e3 e4 e5 => by rw [u2_rd, upT_rd]; simp [e0, e1, e2, e3, e4, e5]) (fun q hq => by rw [u2_ne hq, upT_ne hq])
theorem upT_s3 {mi : Nat → Nat → Int32} {a : Nat} {f s t g h w v : Int32} : u2 (upT mi a f s t g h w) a 3 v = upT mi a f s t v h w :=
  upT_eq (by rw [u2_rd, upT_rd]; rfl) (by rw [u2_rd, upT_rd]; rfl) (by rw [u2_rd, upT_rd]; rfl) (by rw [u2_rd, upT_rd]; rfl) (by rw [u2_rd, upT_rd]; rfl) (by rw [u2_rd, upT_rd]; rfl) (fun k e0 e1 e2 e3 e4 e5 => by rw [u2_rd, upT_rd]; simp [e0, e1, e2, e3, e4, e5]) (fun q hq => by rw [u2_ne hq, upT_ne hq])
theorem upT_s4 {mi : Nat → Nat → Int32} {a : Nat} {f s t g h w v : Int32} : u2 (upT mi a f s t g h w) a 4 v = upT mi a f s t g v w :=
  upT_eq (by rw [u2_rd, upT_rd]; rfl) (by rw [u2_rd, upT_rd]; rfl) (by rw [u2_rd, upT_rd]; rfl) (by rw [u2_rd, upT_rd]; rfl) (by rw [u2_rd, upT_rd]; rfl) (by rw [u2_rd, upT_rd]; rfl) (fun k e0 e1 e2 e3 e4 e5 => by rw [u2_rd, upT_rd]; simp [e0, e1, e2, e3, e4, e5]) (fun q hq => by rw [u2_ne hq, upT_ne hq])
theorem upT_s5 {mi : Nat → Nat → Int32} {a : Nat} {f s t g h w v : Int32} : u2 (upT mi a f s t g h w) a 5 v = upT mi a f s t g h v :=
  upT_eq (by rw [u2_rd, upT_rd]; rfl) (by rw [u2_rd, upT_rd]; rfl) (by rw [u2_rd, upT_rd]; rfl) (by rw [u2_rd, upT_rd]; rfl) (by rw [u2_rd, upT_rd]; rfl) (by rw [u2_rd, upT_rd]; rfl) (fun k e0 e1 e2 e3 e4 e5 => by rw [u2_rd, upT_rd]; simp [e0, e1, e2, e3, e4, e5]) (fun q hq => by rw [u2_ne hq, upT_ne hq])
theorem cut_comm (v m : Int32) : (if v < m then v else m) = (if m < v then m else v) := by
  by_cases h1 : v < m
  · rw [if_pos h1, if_neg (fun h2 => absurd (Int32.lt_iff_toInt_lt.mp h1) (by have := Int32.lt_iff_toInt_lt.mp h2; omega))]
  · by_cases h2 : m < v
    · rw [if_neg h1, if_pos h2]
    · rw [if_neg h1, if_neg h2, ← Int32.toInt_inj]
      have z1 : ¬ v.toInt < m.toInt := fun h => h1 (Int32.lt_iff_toInt_lt.mpr h)
      have z2 : ¬ m.toInt < v.toInt := fun h => h2 (Int32.lt_iff_toInt_lt.mpr h)
      omega
section MT
variable {X : Nat × (Nat → Int32)} {d : Nat} {Q : Option Value → am_M → Prop} {mi : Nat → Nat → Int32} {ml : Nat → Nat → Int64} {v : Option Value} {bb : Bool} {M : am_M}
theorem c_mcut {n t : Int32} (hQ : Q (some (.int (cutF n t))) M) : am_wp X d 153 0 [.int n, .int t] [] M Q := by
  refine wi_iconst (x := 0) rfl rfl ?_
  refine wi_iload_n rfl rfl ?_
  refine wi_iload_n rfl rfl ?_
  refine wi_min rfl rfl ?_
  refine wi_max rfl rfl ?_
  refine wi_iret rfl (Or.inl rfl) ?_
  rw [cut_comm]
  exact hQ
theorem c_begin {q : Nat} (hq : q < 8) (hQ : Q none (am_shT, mrL bb, upT mi 142 (mi 135 (6 * q + 0)) (mi 135 (6 * q + 1)) (mi 135 (6 * q + 2)) (mi 135 (6 * q + 3)) (mi 135 (6 * q + 4)) (mi 135 (6 * q + 5)), ml)) : am_wp X d 150 0 [.ref 134, .int (Int32.ofNat q), .retAddr 0] [] (am_shT, mrL bb, mi, ml) Q := by
  refine wi_iconst (x := 0) rfl rfl ?_
  refine wi_istore_n rfl (Nat.le_of_ble_eq_true rfl) rfl rfl ?_
  refine wi_iload_n rfl rfl ?_
  refine wi_bipush (x := 6) rfl rfl ?_
  refine wi_icmp_ge rfl (fun h9 => absurd h9 (by decide)) (fun _ => ?_)
  refine wi_aload_n rfl rfl ?_
  refine wi_getR rfl (kd_134 ..) (rd_134_13 _) ?_
  refine wi_iload_n rfl rfl ?_
  refine wi_aload_n rfl rfl ?_
  refine wi_getR rfl (kd_134 ..) (rd_134_6 _) ?_
  refine wi_bipush (x := 6) rfl rfl ?_
  refine wi_iload_n rfl rfl ?_
  refine wi_imul rfl ?_
  refine wi_iload_n rfl rfl ?_
  refine wi_iadd rfl ?_
  refine wn_iaload (q := 6 * q + 0) (v := (mi 135 (6 * q + 0))) rfl (ln_135 ..) (add_n (mul_n rfl rfl) rfl) (by omega) (by decide) (by decide) (by decide) rfl ?_
  refine wn_iastore (q := 0) rfl (ln_142 ..) rfl (by decide) (by decide) ?_
  refine wi_iinc (z := (1 : Int32)) rfl rfl rfl (by decide) rfl ?_
  refine wi_goto rfl ?_
  refine wi_iload_n rfl rfl ?_
  refine wi_bipush (x := 6) rfl rfl ?_
  refine wi_icmp_ge rfl (fun h9 => absurd h9 (by decide)) (fun _ => ?_)
  refine wi_aload_n rfl rfl ?_
  refine wi_getR rfl (kd_134 ..) (rd_134_13 _) ?_
  refine wi_iload_n rfl rfl ?_
  refine wi_aload_n rfl rfl ?_
  refine wi_getR rfl (kd_134 ..) (rd_134_6 _) ?_
  refine wi_bipush (x := 6) rfl rfl ?_
  refine wi_iload_n rfl rfl ?_
  refine wi_imul rfl ?_
  refine wi_iload_n rfl rfl ?_
  refine wi_iadd rfl ?_
  refine wn_iaload (q := 6 * q + 1) (v := (mi 135 (6 * q + 1))) rfl (ln_135 ..) (add_n (mul_n rfl rfl) rfl) (by omega) (by decide) (by decide) (by decide) rfl ?_
  refine wn_iastore (q := 1) rfl (ln_142 ..) rfl (by decide) (by decide) ?_
  refine wi_iinc (z := (2 : Int32)) rfl rfl rfl (by decide) rfl ?_
  refine wi_goto rfl ?_
  refine wi_iload_n rfl rfl ?_
  refine wi_bipush (x := 6) rfl rfl ?_
  refine wi_icmp_ge rfl (fun h9 => absurd h9 (by decide)) (fun _ => ?_)
  refine wi_aload_n rfl rfl ?_
  refine wi_getR rfl (kd_134 ..) (rd_134_13 _) ?_
  refine wi_iload_n rfl rfl ?_
  refine wi_aload_n rfl rfl ?_
  refine wi_getR rfl (kd_134 ..) (rd_134_6 _) ?_
  refine wi_bipush (x := 6) rfl rfl ?_
  refine wi_iload_n rfl rfl ?_
  refine wi_imul rfl ?_
  refine wi_iload_n rfl rfl ?_
  refine wi_iadd rfl ?_
  refine wn_iaload (q := 6 * q + 2) (v := (mi 135 (6 * q + 2))) rfl (ln_135 ..) (add_n (mul_n rfl rfl) rfl) (by omega) (by decide) (by decide) (by decide) rfl ?_
  refine wn_iastore (q := 2) rfl (ln_142 ..) rfl (by decide) (by decide) ?_
  refine wi_iinc (z := (3 : Int32)) rfl rfl rfl (by decide) rfl ?_
  refine wi_goto rfl ?_
  refine wi_iload_n rfl rfl ?_
  refine wi_bipush (x := 6) rfl rfl ?_
  refine wi_icmp_ge rfl (fun h9 => absurd h9 (by decide)) (fun _ => ?_)
  refine wi_aload_n rfl rfl ?_
  refine wi_getR rfl (kd_134 ..) (rd_134_13 _) ?_
  refine wi_iload_n rfl rfl ?_
  refine wi_aload_n rfl rfl ?_
  refine wi_getR rfl (kd_134 ..) (rd_134_6 _) ?_
  refine wi_bipush (x := 6) rfl rfl ?_
  refine wi_iload_n rfl rfl ?_
  refine wi_imul rfl ?_
  refine wi_iload_n rfl rfl ?_
  refine wi_iadd rfl ?_
  refine wn_iaload (q := 6 * q + 3) (v := (mi 135 (6 * q + 3))) rfl (ln_135 ..) (add_n (mul_n rfl rfl) rfl) (by omega) (by decide) (by decide) (by decide) rfl ?_
  refine wn_iastore (q := 3) rfl (ln_142 ..) rfl (by decide) (by decide) ?_
  refine wi_iinc (z := (4 : Int32)) rfl rfl rfl (by decide) rfl ?_
  refine wi_goto rfl ?_
  refine wi_iload_n rfl rfl ?_
  refine wi_bipush (x := 6) rfl rfl ?_
  refine wi_icmp_ge rfl (fun h9 => absurd h9 (by decide)) (fun _ => ?_)
  refine wi_aload_n rfl rfl ?_
  refine wi_getR rfl (kd_134 ..) (rd_134_13 _) ?_
  refine wi_iload_n rfl rfl ?_
  refine wi_aload_n rfl rfl ?_
  refine wi_getR rfl (kd_134 ..) (rd_134_6 _) ?_
  refine wi_bipush (x := 6) rfl rfl ?_
  refine wi_iload_n rfl rfl ?_
  refine wi_imul rfl ?_
  refine wi_iload_n rfl rfl ?_
  refine wi_iadd rfl ?_
  refine wn_iaload (q := 6 * q + 4) (v := (mi 135 (6 * q + 4))) rfl (ln_135 ..) (add_n (mul_n rfl rfl) rfl) (by omega) (by decide) (by decide) (by decide) rfl ?_
  refine wn_iastore (q := 4) rfl (ln_142 ..) rfl (by decide) (by decide) ?_
  refine wi_iinc (z := (5 : Int32)) rfl rfl rfl (by decide) rfl ?_
  refine wi_goto rfl ?_
  refine wi_iload_n rfl rfl ?_
  refine wi_bipush (x := 6) rfl rfl ?_
  refine wi_icmp_ge rfl (fun h9 => absurd h9 (by decide)) (fun _ => ?_)
  refine wi_aload_n rfl rfl ?_
  refine wi_getR rfl (kd_134 ..) (rd_134_13 _) ?_
  refine wi_iload_n rfl rfl ?_
  refine wi_aload_n rfl rfl ?_
  refine wi_getR rfl (kd_134 ..) (rd_134_6 _) ?_
  refine wi_bipush (x := 6) rfl rfl ?_
  refine wi_iload_n rfl rfl ?_
  refine wi_imul rfl ?_
  refine wi_iload_n rfl rfl ?_
  refine wi_iadd rfl ?_
  refine wn_iaload (q := 6 * q + 5) (v := (mi 135 (6 * q + 5))) rfl (ln_135 ..) (add_n (mul_n rfl rfl) rfl) (by omega) (by decide) (by decide) (by decide) rfl ?_
  refine wn_iastore (q := 5) rfl (ln_142 ..) rfl (by decide) (by decide) ?_
  refine wi_iinc (z := (6 : Int32)) rfl rfl rfl (by decide) rfl ?_
  refine wi_goto rfl ?_
  refine wi_iload_n rfl rfl ?_
  refine wi_bipush (x := 6) rfl rfl ?_
  refine wi_icmp_ge rfl (fun _ => ?_) (fun h9 => absurd (by decide) h9)
  refine wi_ret rfl ?_
  exact am_mem hQ (upT_eq rfl rfl rfl rfl rfl rfl (fun k e0 e1 e2 e3 e4 e5 => by simp [u2_rd, e0, e1, e2, e3, e4, e5]) (fun q9 hq => by simp [u2_ne hq]))
theorem c_mbounce {f s t g h w : Int32} (hQ : Q (some (.int (bncF f g h w))) (am_shT, mrL bb, upT mi 142 f s t g h w, ml)) : am_wp X d 151 0 [.ref 134, .retAddr 0] [] (am_shT, mrL bb, upT mi 142 f s t g h w, ml) Q := by
  refine wi_aload_n rfl rfl ?_
  refine wi_getR rfl (kd_134 ..) (rd_134_13 _) ?_
  refine wi_iconst (x := 4) rfl rfl ?_
  refine wn_iaload (q := 4) (v := h) rfl (ln_142 ..) rfl (by decide) (by decide) (by decide) (by decide) rfl ?_
  refine wi_aload_n rfl rfl ?_
  refine wi_getR rfl (kd_134 ..) (rd_134_13 _) ?_
  refine wi_iconst (x := 5) rfl rfl ?_
  refine wn_iaload (q := 5) (v := w) rfl (ln_142 ..) rfl (by decide) (by decide) (by decide) (by decide) rfl ?_
  refine wi_iconst (x := 4) rfl rfl ?_
  refine wi_idiv rfl (by decide) ?_
  refine wi_isub rfl ?_
  refine wi_istore_n rfl (Nat.le_of_ble_eq_true rfl) rfl rfl ?_
  refine wi_aload_n rfl rfl ?_
  refine wi_getR rfl (kd_134 ..) (rd_134_13 _) ?_
  refine wi_iconst (x := 0) rfl rfl ?_
  refine wn_iaload (q := 0) (v := f) rfl (ln_142 ..) rfl (by decide) (by decide) (by decide) (by decide) rfl ?_
  refine wi_bipush (x := 50) rfl rfl ?_
  refine wi_icmp_le rfl (fun g1 => ?_) (fun g1 => ?_)
  · skip
    refine wi_aload_n rfl rfl ?_
    refine wi_getR rfl (kd_134 ..) (rd_134_13 _) ?_
    refine wi_iconst (x := 3) rfl rfl ?_
    refine wn_iaload (q := 3) (v := g) rfl (ln_142 ..) rfl (by decide) (by decide) (by decide) (by decide) rfl ?_
    refine wi_bipush (x := 10) rfl rfl ?_
    refine wi_icmp_le rfl (fun g2 => ?_) (fun g2 => ?_)
    · skip
      refine wi_iconst (x := 0) rfl rfl ?_
      refine wi_iload_n rfl rfl ?_
      refine wi_max rfl rfl ?_
      refine wi_iret rfl (Or.inl rfl) ?_
      simpa [bncF, g1, g2] using hQ
    · skip
      refine wi_iload_n rfl rfl ?_
      refine wi_aload_n rfl rfl ?_
      refine wi_getR rfl (kd_134 ..) (rd_134_13 _) ?_
      refine wi_iconst (x := 3) rfl rfl ?_
      refine wn_iaload (q := 3) (v := g) rfl (ln_142 ..) rfl (by decide) (by decide) (by decide) (by decide) rfl ?_
      refine wi_bipush (x := 10) rfl rfl ?_
      refine wi_isub rfl ?_
      refine wi_iconst (x := 4) rfl rfl ?_
      refine wi_idiv rfl (by decide) ?_
      refine wi_isub rfl ?_
      refine wi_istore_n rfl (Nat.le_of_ble_eq_true rfl) rfl rfl ?_
      refine wi_iconst (x := 0) rfl rfl ?_
      refine wi_iload_n rfl rfl ?_
      refine wi_max rfl rfl ?_
      refine wi_iret rfl (Or.inl rfl) ?_
      simpa [bncF, g1, g2] using hQ
  · skip
    refine wi_iload_n rfl rfl ?_
    refine wi_aload_n rfl rfl ?_
    refine wi_getR rfl (kd_134 ..) (rd_134_13 _) ?_
    refine wi_iconst (x := 0) rfl rfl ?_
    refine wn_iaload (q := 0) (v := f) rfl (ln_142 ..) rfl (by decide) (by decide) (by decide) (by decide) rfl ?_
    refine wi_bipush (x := 50) rfl rfl ?_
    refine wi_isub rfl ?_
    refine wi_iconst (x := 2) rfl rfl ?_
    refine wi_idiv rfl (by decide) ?_
    refine wi_isub rfl ?_
    refine wi_istore_n rfl (Nat.le_of_ble_eq_true rfl) rfl rfl ?_
    refine wi_aload_n rfl rfl ?_
    refine wi_getR rfl (kd_134 ..) (rd_134_13 _) ?_
    refine wi_iconst (x := 3) rfl rfl ?_
    refine wn_iaload (q := 3) (v := g) rfl (ln_142 ..) rfl (by decide) (by decide) (by decide) (by decide) rfl ?_
    refine wi_bipush (x := 10) rfl rfl ?_
    refine wi_icmp_le rfl (fun g3 => ?_) (fun g3 => ?_)
    · skip
      refine wi_iconst (x := 0) rfl rfl ?_
      refine wi_iload_n rfl rfl ?_
      refine wi_max rfl rfl ?_
      refine wi_iret rfl (Or.inl rfl) ?_
      simpa [bncF, g1, g3] using hQ
    · skip
      refine wi_iload_n rfl rfl ?_
      refine wi_aload_n rfl rfl ?_
      refine wi_getR rfl (kd_134 ..) (rd_134_13 _) ?_
      refine wi_iconst (x := 3) rfl rfl ?_
      refine wn_iaload (q := 3) (v := g) rfl (ln_142 ..) rfl (by decide) (by decide) (by decide) (by decide) rfl ?_
      refine wi_bipush (x := 10) rfl rfl ?_
      refine wi_isub rfl ?_
      refine wi_iconst (x := 4) rfl rfl ?_
      refine wi_idiv rfl (by decide) ?_
      refine wi_isub rfl ?_
      refine wi_istore_n rfl (Nat.le_of_ble_eq_true rfl) rfl rfl ?_
      refine wi_iconst (x := 0) rfl rfl ?_
      refine wi_iload_n rfl rfl ?_
      refine wi_max rfl rfl ?_
      refine wi_iret rfl (Or.inl rfl) ?_
      simpa [bncF, g1, g3] using hQ
theorem c_grows0 {f s t g h w by9 : Int32} (hQ : Q none (am_shT, mrL bb, upT mi 142 (cutF (f + by9) 100) s t g h w, ml)) : am_wp X (d + 1) 154 0 [.ref 134, .int 0, .int by9] [] (am_shT, mrL bb, upT mi 142 f s t g h w, ml) Q := by
  refine wi_aload_n rfl rfl ?_
  refine wi_getR rfl (kd_134 ..) (rd_134_13 _) ?_
  refine wi_iload_n rfl rfl ?_
  refine wi_aload_n rfl rfl ?_
  refine wi_getR rfl (kd_134 ..) (rd_134_13 _) ?_
  refine wi_iload_n rfl rfl ?_
  refine wn_iaload (q := 0) (v := f) rfl (ln_142 ..) rfl (by decide) (by decide) (by decide) (by decide) rfl ?_
  refine wi_iload_n rfl rfl ?_
  refine wi_iadd rfl ?_
  refine wi_iload_n rfl rfl ?_
  refine wi_iconst (x := 3) rfl rfl ?_
  refine wi_icmp_ne rfl (fun _ => ?_) (fun h9 => absurd (by decide) h9)
  refine wi_bipush (x := 100) rfl rfl ?_
  refine wi_callS2 rfl (by decide) (by decide) rfl rfl rfl (c_mcut ?_)
  refine wn_iastore (q := 0) rfl (ln_142 ..) rfl (by decide) (by decide) ?_
  refine wi_ret rfl ?_
  rw [upT_s0]
  exact hQ
theorem c_grows1 {f s t g h w by9 : Int32} (hQ : Q none (am_shT, mrL bb, upT mi 142 f (cutF (s + by9) 100) t g h w, ml)) : am_wp X (d + 1) 154 0 [.ref 134, .int 1, .int by9] [] (am_shT, mrL bb, upT mi 142 f s t g h w, ml) Q := by
  refine wi_aload_n rfl rfl ?_
  refine wi_getR rfl (kd_134 ..) (rd_134_13 _) ?_
  refine wi_iload_n rfl rfl ?_
  refine wi_aload_n rfl rfl ?_
  refine wi_getR rfl (kd_134 ..) (rd_134_13 _) ?_
  refine wi_iload_n rfl rfl ?_
  refine wn_iaload (q := 1) (v := s) rfl (ln_142 ..) rfl (by decide) (by decide) (by decide) (by decide) rfl ?_
  refine wi_iload_n rfl rfl ?_
  refine wi_iadd rfl ?_
  refine wi_iload_n rfl rfl ?_
  refine wi_iconst (x := 3) rfl rfl ?_
  refine wi_icmp_ne rfl (fun _ => ?_) (fun h9 => absurd (by decide) h9)
  refine wi_bipush (x := 100) rfl rfl ?_
  refine wi_callS2 rfl (by decide) (by decide) rfl rfl rfl (c_mcut ?_)
  refine wn_iastore (q := 1) rfl (ln_142 ..) rfl (by decide) (by decide) ?_
  refine wi_ret rfl ?_
  rw [upT_s1]
  exact hQ
theorem c_grows2 {f s t g h w by9 : Int32} (hQ : Q none (am_shT, mrL bb, upT mi 142 f s (cutF (t + by9) 100) g h w, ml)) : am_wp X (d + 1) 154 0 [.ref 134, .int 2, .int by9] [] (am_shT, mrL bb, upT mi 142 f s t g h w, ml) Q := by
  refine wi_aload_n rfl rfl ?_
  refine wi_getR rfl (kd_134 ..) (rd_134_13 _) ?_
  refine wi_iload_n rfl rfl ?_
  refine wi_aload_n rfl rfl ?_
  refine wi_getR rfl (kd_134 ..) (rd_134_13 _) ?_
  refine wi_iload_n rfl rfl ?_
  refine wn_iaload (q := 2) (v := t) rfl (ln_142 ..) rfl (by decide) (by decide) (by decide) (by decide) rfl ?_
  refine wi_iload_n rfl rfl ?_
  refine wi_iadd rfl ?_
  refine wi_iload_n rfl rfl ?_
  refine wi_iconst (x := 3) rfl rfl ?_
  refine wi_icmp_ne rfl (fun _ => ?_) (fun h9 => absurd (by decide) h9)
  refine wi_bipush (x := 100) rfl rfl ?_
  refine wi_callS2 rfl (by decide) (by decide) rfl rfl rfl (c_mcut ?_)
  refine wn_iastore (q := 2) rfl (ln_142 ..) rfl (by decide) (by decide) ?_
  refine wi_ret rfl ?_
  rw [upT_s2]
  exact hQ
theorem c_grows3 {f s t g h w by9 : Int32} (hQ : Q none (am_shT, mrL bb, upT mi 142 f s t (cutF (g + by9) 60) h w, ml)) : am_wp X (d + 1) 154 0 [.ref 134, .int 3, .int by9] [] (am_shT, mrL bb, upT mi 142 f s t g h w, ml) Q := by
  refine wi_aload_n rfl rfl ?_
  refine wi_getR rfl (kd_134 ..) (rd_134_13 _) ?_
  refine wi_iload_n rfl rfl ?_
  refine wi_aload_n rfl rfl ?_
  refine wi_getR rfl (kd_134 ..) (rd_134_13 _) ?_
  refine wi_iload_n rfl rfl ?_
  refine wn_iaload (q := 3) (v := g) rfl (ln_142 ..) rfl (by decide) (by decide) (by decide) (by decide) rfl ?_
  refine wi_iload_n rfl rfl ?_
  refine wi_iadd rfl ?_
  refine wi_iload_n rfl rfl ?_
  refine wi_iconst (x := 3) rfl rfl ?_
  refine wi_icmp_ne rfl (fun h9 => absurd h9 (by decide)) (fun _ => ?_)
  refine wi_bipush (x := 60) rfl rfl ?_
  refine wi_goto rfl ?_
  refine wi_callS2 rfl (by decide) (by decide) rfl rfl rfl (c_mcut ?_)
  refine wn_iastore (q := 3) rfl (ln_142 ..) rfl (by decide) (by decide) ?_
  refine wi_ret rfl ?_
  rw [upT_s3]
  exact hQ
theorem c_grows4 {f s t g h w by9 : Int32} (hQ : Q none (am_shT, mrL bb, upT mi 142 f s t g (cutF (h + by9) 100) w, ml)) : am_wp X (d + 1) 154 0 [.ref 134, .int 4, .int by9] [] (am_shT, mrL bb, upT mi 142 f s t g h w, ml) Q := by
  refine wi_aload_n rfl rfl ?_
  refine wi_getR rfl (kd_134 ..) (rd_134_13 _) ?_
  refine wi_iload_n rfl rfl ?_
  refine wi_aload_n rfl rfl ?_
  refine wi_getR rfl (kd_134 ..) (rd_134_13 _) ?_
  refine wi_iload_n rfl rfl ?_
  refine wn_iaload (q := 4) (v := h) rfl (ln_142 ..) rfl (by decide) (by decide) (by decide) (by decide) rfl ?_
  refine wi_iload_n rfl rfl ?_
  refine wi_iadd rfl ?_
  refine wi_iload_n rfl rfl ?_
  refine wi_iconst (x := 3) rfl rfl ?_
  refine wi_icmp_ne rfl (fun _ => ?_) (fun h9 => absurd (by decide) h9)
  refine wi_bipush (x := 100) rfl rfl ?_
  refine wi_callS2 rfl (by decide) (by decide) rfl rfl rfl (c_mcut ?_)
  refine wn_iastore (q := 4) rfl (ln_142 ..) rfl (by decide) (by decide) ?_
  refine wi_ret rfl ?_
  rw [upT_s4]
  exact hQ
theorem c_grows5 {f s t g h w by9 : Int32} (hQ : Q none (am_shT, mrL bb, upT mi 142 f s t g h (cutF (w + by9) 100), ml)) : am_wp X (d + 1) 154 0 [.ref 134, .int 5, .int by9] [] (am_shT, mrL bb, upT mi 142 f s t g h w, ml) Q := by
  refine wi_aload_n rfl rfl ?_
  refine wi_getR rfl (kd_134 ..) (rd_134_13 _) ?_
  refine wi_iload_n rfl rfl ?_
  refine wi_aload_n rfl rfl ?_
  refine wi_getR rfl (kd_134 ..) (rd_134_13 _) ?_
  refine wi_iload_n rfl rfl ?_
  refine wn_iaload (q := 5) (v := w) rfl (ln_142 ..) rfl (by decide) (by decide) (by decide) (by decide) rfl ?_
  refine wi_iload_n rfl rfl ?_
  refine wi_iadd rfl ?_
  refine wi_iload_n rfl rfl ?_
  refine wi_iconst (x := 3) rfl rfl ?_
  refine wi_icmp_ne rfl (fun _ => ?_) (fun h9 => absurd (by decide) h9)
  refine wi_bipush (x := 100) rfl rfl ?_
  refine wi_callS2 rfl (by decide) (by decide) rfl rfl rfl (c_mcut ?_)
  refine wn_iastore (q := 5) rfl (ln_142 ..) rfl (by decide) (by decide) ?_
  refine wi_ret rfl ?_
  rw [upT_s5]
  exact hQ
theorem st_a {r u wk bl f s t g h w : Int32} (k : am_wp X (d + 2) 155 18 [.ref 134, .int r, .int u, .int wk, .int bl, .int (if wk &&& 1 ≤ 0 then r else 0), .int (if wk &&& 1 ≤ 0 then u else u / 2), .retAddr 0, .retAddr 0] [] (am_shT, mrL bb, upT mi 142 f s t g h w, ml) Q) : am_wp X (d + 2) 155 0 [.ref 134, .int r, .int u, .int wk, .int bl, .retAddr 0, .retAddr 0, .retAddr 0, .retAddr 0] [] (am_shT, mrL bb, upT mi 142 f s t g h w, ml) Q := by
  refine wi_iload_n rfl rfl ?_
  refine wi_iconst (x := 1) rfl rfl ?_
  refine wi_iand rfl ?_
  refine wi_if_le rfl (fun g1 => ?_) (fun g1 => ?_)
  · skip
    refine wi_iload_n rfl rfl ?_
    refine wi_istore rfl (Nat.le_of_ble_eq_true rfl) rfl rfl ?_
    refine wi_iload_n rfl rfl ?_
    refine wi_iconst (x := 1) rfl rfl ?_
    refine wi_iand rfl ?_
    refine wi_if_le rfl (fun g2 => ?_) (fun g2 => ?_)
    · skip
      refine wi_iload_n rfl rfl ?_
      refine wi_istore rfl (Nat.le_of_ble_eq_true rfl) rfl rfl ?_
      first | exact absurd g1 g2 | exact absurd g2 g1 | simpa [g1, g2] using k
    · skip
      refine wi_iload_n rfl rfl ?_
      refine wi_iconst (x := 2) rfl rfl ?_
      refine wi_idiv rfl (by decide) ?_
      refine wi_goto rfl ?_
      refine wi_istore rfl (Nat.le_of_ble_eq_true rfl) rfl rfl ?_
      first | exact absurd g1 g2 | exact absurd g2 g1 | simpa [g1, g2] using k
  · skip
    refine wi_iconst (x := 0) rfl rfl ?_
    refine wi_goto rfl ?_
    refine wi_istore rfl (Nat.le_of_ble_eq_true rfl) rfl rfl ?_
    refine wi_iload_n rfl rfl ?_
    refine wi_iconst (x := 1) rfl rfl ?_
    refine wi_iand rfl ?_
    refine wi_if_le rfl (fun g3 => ?_) (fun g3 => ?_)
    · skip
      refine wi_iload_n rfl rfl ?_
      refine wi_istore rfl (Nat.le_of_ble_eq_true rfl) rfl rfl ?_
      first | exact absurd g1 g3 | exact absurd g3 g1 | simpa [g1, g3] using k
    · skip
      refine wi_iload_n rfl rfl ?_
      refine wi_iconst (x := 2) rfl rfl ?_
      refine wi_idiv rfl (by decide) ?_
      refine wi_goto rfl ?_
      refine wi_istore rfl (Nat.le_of_ble_eq_true rfl) rfl rfl ?_
      first | exact absurd g1 g3 | exact absurd g3 g1 | simpa [g1, g3] using k
theorem st_b {r u wk bl f s t g h w r5 r6 : Int32} (k : am_wp X (d + 2) 155 30 [.ref 134, .int r, .int u, .int wk, .int bl, .int r5, .int r6, .retAddr 0, .retAddr 0] [] (am_shT, mrL bb, upT mi 142 (if wk &&& 8 ≤ 0 then cutF (f + r5) 100 else cutF (cutF (f + r5) 100 + 8) 100) s t g h w, ml) Q) : am_wp X (d + 2) 155 18 [.ref 134, .int r, .int u, .int wk, .int bl, .int r5, .int r6, .retAddr 0, .retAddr 0] [] (am_shT, mrL bb, upT mi 142 f s t g h w, ml) Q := by
  refine wi_aload_n rfl rfl ?_
  refine wi_iconst (x := 0) rfl rfl ?_
  refine wi_iload rfl rfl ?_
  refine wi_callV2 rfl (by decide) (by decide) rfl (kd_134 ..) rfl rfl rfl (c_grows0 ?_)
  refine wi_iload_n rfl rfl ?_
  refine wi_bipush (x := 8) rfl rfl ?_
  refine wi_iand rfl ?_
  refine wi_if_le rfl (fun g1 => ?_) (fun g1 => ?_)
  · skip
    simpa [g1] using k
  · skip
    refine wi_aload_n rfl rfl ?_
    refine wi_iconst (x := 0) rfl rfl ?_
    refine wi_bipush (x := 8) rfl rfl ?_
    refine wi_callV2 rfl (by decide) (by decide) rfl (kd_134 ..) rfl rfl rfl (c_grows0 ?_)
    simpa [g1] using k
def mseep (f s : Int32) : Int32 × Int32 := if s < f then (cutF (f + -((f - s) / 4)) 100, cutF (s + (f - s) / 4) 100) else (f, s)
theorem st_c {r u wk bl f s t g h w r5 r6 : Int32} (k : ∀ v8 : Value, am_wp X (d + 2) 155 74 [.ref 134, .int r, .int u, .int wk, .int bl, .int r5, .int r6, .int 2, v8] [] (am_shT, mrL bb, upT mi 142 (mseep f s).1 (mseep (mseep f s).2 t).1 (mseep (mseep f s).2 t).2 g h w, ml) Q) : am_wp X (d + 2) 155 30 [.ref 134, .int r, .int u, .int wk, .int bl, .int r5, .int r6, .retAddr 0, .retAddr 0] [] (am_shT, mrL bb, upT mi 142 f s t g h w, ml) Q := by
  refine wi_iconst (x := 0) rfl rfl ?_
  refine wi_istore rfl (Nat.le_of_ble_eq_true rfl) rfl rfl ?_
  refine wi_iload rfl rfl ?_
  refine wi_iconst (x := 2) rfl rfl ?_
  refine wi_icmp_ge rfl (fun h9 => absurd h9 (by decide)) (fun _ => ?_)
  refine wi_aload_n rfl rfl ?_
  refine wi_getR rfl (kd_134 ..) (rd_134_13 _) ?_
  refine wi_iload rfl rfl ?_
  refine wn_iaload (q := 0) (v := f) rfl (ln_142 ..) rfl (by decide) (by decide) (by decide) (by decide) rfl ?_
  refine wi_aload_n rfl rfl ?_
  refine wi_getR rfl (kd_134 ..) (rd_134_13 _) ?_
  refine wi_iload rfl rfl ?_
  refine wi_iconst (x := 1) rfl rfl ?_
  refine wi_iadd rfl ?_
  rw [show ((0 : Int32) + (1 : Int32) : Int32) = (1 : Int32) from by decide]
  refine wn_iaload (q := 1) (v := s) rfl (ln_142 ..) rfl (by decide) (by decide) (by decide) (by decide) rfl ?_
  refine wi_icmp_gt rfl (fun g1 => ?_) (fun g1 => ?_)
  · skip
    refine wi_aload_n rfl rfl ?_
    refine wi_getR rfl (kd_134 ..) (rd_134_13 _) ?_
    refine wi_iload rfl rfl ?_
    refine wn_iaload (q := 0) (v := f) rfl (ln_142 ..) rfl (by decide) (by decide) (by decide) (by decide) rfl ?_
    refine wi_aload_n rfl rfl ?_
    refine wi_getR rfl (kd_134 ..) (rd_134_13 _) ?_
    refine wi_iload rfl rfl ?_
    refine wi_iconst (x := 1) rfl rfl ?_
    refine wi_iadd rfl ?_
    rw [show ((0 : Int32) + (1 : Int32) : Int32) = (1 : Int32) from by decide]
    refine wn_iaload (q := 1) (v := s) rfl (ln_142 ..) rfl (by decide) (by decide) (by decide) (by decide) rfl ?_
    refine wi_isub rfl ?_
    refine wi_iconst (x := 4) rfl rfl ?_
    refine wi_idiv rfl (by decide) ?_
    refine wi_istore rfl (Nat.le_of_ble_eq_true rfl) rfl rfl ?_
    refine wi_aload_n rfl rfl ?_
    refine wi_iload rfl rfl ?_
    refine wi_iload rfl rfl ?_
    refine wi_ineg rfl ?_
    refine wi_callV2 rfl (by decide) (by decide) rfl (kd_134 ..) rfl rfl rfl (c_grows0 ?_)
    refine wi_aload_n rfl rfl ?_
    refine wi_iload rfl rfl ?_
    refine wi_iconst (x := 1) rfl rfl ?_
    refine wi_iadd rfl ?_
    rw [show ((0 : Int32) + (1 : Int32) : Int32) = (1 : Int32) from by decide]
    refine wi_iload rfl rfl ?_
    refine wi_callV2 rfl (by decide) (by decide) rfl (kd_134 ..) rfl rfl rfl (c_grows1 ?_)
    refine wi_iinc (z := (1 : Int32)) rfl rfl rfl (by decide) rfl ?_
    refine wi_goto rfl ?_
    refine wi_iload rfl rfl ?_
    refine wi_iconst (x := 2) rfl rfl ?_
    refine wi_icmp_ge rfl (fun h9 => absurd h9 (by decide)) (fun _ => ?_)
    refine wi_aload_n rfl rfl ?_
    refine wi_getR rfl (kd_134 ..) (rd_134_13 _) ?_
    refine wi_iload rfl rfl ?_
    refine wn_iaload (q := 1) (v := (cutF (s + ((f - s) / (4 : Int32))) 100)) rfl (ln_142 ..) rfl (by decide) (by decide) (by decide) (by decide) rfl ?_
    refine wi_aload_n rfl rfl ?_
    refine wi_getR rfl (kd_134 ..) (rd_134_13 _) ?_
    refine wi_iload rfl rfl ?_
    refine wi_iconst (x := 1) rfl rfl ?_
    refine wi_iadd rfl ?_
    rw [show ((1 : Int32) + (1 : Int32) : Int32) = (2 : Int32) from by decide]
    refine wn_iaload (q := 2) (v := t) rfl (ln_142 ..) rfl (by decide) (by decide) (by decide) (by decide) rfl ?_
    refine wi_icmp_gt rfl (fun g2 => ?_) (fun g2 => ?_)
    · skip
      refine wi_aload_n rfl rfl ?_
      refine wi_getR rfl (kd_134 ..) (rd_134_13 _) ?_
      refine wi_iload rfl rfl ?_
      refine wn_iaload (q := 1) (v := (cutF (s + ((f - s) / (4 : Int32))) 100)) rfl (ln_142 ..) rfl (by decide) (by decide) (by decide) (by decide) rfl ?_
      refine wi_aload_n rfl rfl ?_
      refine wi_getR rfl (kd_134 ..) (rd_134_13 _) ?_
      refine wi_iload rfl rfl ?_
      refine wi_iconst (x := 1) rfl rfl ?_
      refine wi_iadd rfl ?_
      rw [show ((1 : Int32) + (1 : Int32) : Int32) = (2 : Int32) from by decide]
      refine wn_iaload (q := 2) (v := t) rfl (ln_142 ..) rfl (by decide) (by decide) (by decide) (by decide) rfl ?_
      refine wi_isub rfl ?_
      refine wi_iconst (x := 4) rfl rfl ?_
      refine wi_idiv rfl (by decide) ?_
      refine wi_istore rfl (Nat.le_of_ble_eq_true rfl) rfl rfl ?_
      refine wi_aload_n rfl rfl ?_
      refine wi_iload rfl rfl ?_
      refine wi_iload rfl rfl ?_
      refine wi_ineg rfl ?_
      refine wi_callV2 rfl (by decide) (by decide) rfl (kd_134 ..) rfl rfl rfl (c_grows1 ?_)
      refine wi_aload_n rfl rfl ?_
      refine wi_iload rfl rfl ?_
      refine wi_iconst (x := 1) rfl rfl ?_
      refine wi_iadd rfl ?_
      rw [show ((1 : Int32) + (1 : Int32) : Int32) = (2 : Int32) from by decide]
      refine wi_iload rfl rfl ?_
      refine wi_callV2 rfl (by decide) (by decide) rfl (kd_134 ..) rfl rfl rfl (c_grows2 ?_)
      refine wi_iinc (z := (2 : Int32)) rfl rfl rfl (by decide) rfl ?_
      refine wi_goto rfl ?_
      refine wi_iload rfl rfl ?_
      refine wi_iconst (x := 2) rfl rfl ?_
      refine wi_icmp_ge rfl (fun _ => ?_) (fun h9 => absurd (by decide) h9)
      have k8 := k (.int (((cutF (s + ((f - s) / (4 : Int32))) 100) - t) / (4 : Int32)))
      simpa [mseep, g1, g2] using k8
    · skip
      refine wi_goto rfl ?_
      refine wi_iinc (z := (2 : Int32)) rfl rfl rfl (by decide) rfl ?_
      refine wi_goto rfl ?_
      refine wi_iload rfl rfl ?_
      refine wi_iconst (x := 2) rfl rfl ?_
      refine wi_icmp_ge rfl (fun _ => ?_) (fun h9 => absurd (by decide) h9)
      have k8 := k (.int ((f - s) / (4 : Int32)))
      simpa [mseep, g1, g2] using k8
  · skip
    refine wi_goto rfl ?_
    refine wi_iinc (z := (1 : Int32)) rfl rfl rfl (by decide) rfl ?_
    refine wi_goto rfl ?_
    refine wi_iload rfl rfl ?_
    refine wi_iconst (x := 2) rfl rfl ?_
    refine wi_icmp_ge rfl (fun h9 => absurd h9 (by decide)) (fun _ => ?_)
    refine wi_aload_n rfl rfl ?_
    refine wi_getR rfl (kd_134 ..) (rd_134_13 _) ?_
    refine wi_iload rfl rfl ?_
    refine wn_iaload (q := 1) (v := s) rfl (ln_142 ..) rfl (by decide) (by decide) (by decide) (by decide) rfl ?_
    refine wi_aload_n rfl rfl ?_
    refine wi_getR rfl (kd_134 ..) (rd_134_13 _) ?_
    refine wi_iload rfl rfl ?_
    refine wi_iconst (x := 1) rfl rfl ?_
    refine wi_iadd rfl ?_
    rw [show ((1 : Int32) + (1 : Int32) : Int32) = (2 : Int32) from by decide]
    refine wn_iaload (q := 2) (v := t) rfl (ln_142 ..) rfl (by decide) (by decide) (by decide) (by decide) rfl ?_
    refine wi_icmp_gt rfl (fun g3 => ?_) (fun g3 => ?_)
    · skip
      refine wi_aload_n rfl rfl ?_
      refine wi_getR rfl (kd_134 ..) (rd_134_13 _) ?_
      refine wi_iload rfl rfl ?_
      refine wn_iaload (q := 1) (v := s) rfl (ln_142 ..) rfl (by decide) (by decide) (by decide) (by decide) rfl ?_
      refine wi_aload_n rfl rfl ?_
      refine wi_getR rfl (kd_134 ..) (rd_134_13 _) ?_
      refine wi_iload rfl rfl ?_
      refine wi_iconst (x := 1) rfl rfl ?_
      refine wi_iadd rfl ?_
      rw [show ((1 : Int32) + (1 : Int32) : Int32) = (2 : Int32) from by decide]
      refine wn_iaload (q := 2) (v := t) rfl (ln_142 ..) rfl (by decide) (by decide) (by decide) (by decide) rfl ?_
      refine wi_isub rfl ?_
      refine wi_iconst (x := 4) rfl rfl ?_
      refine wi_idiv rfl (by decide) ?_
      refine wi_istore rfl (Nat.le_of_ble_eq_true rfl) rfl rfl ?_
      refine wi_aload_n rfl rfl ?_
      refine wi_iload rfl rfl ?_
      refine wi_iload rfl rfl ?_
      refine wi_ineg rfl ?_
      refine wi_callV2 rfl (by decide) (by decide) rfl (kd_134 ..) rfl rfl rfl (c_grows1 ?_)
      refine wi_aload_n rfl rfl ?_
      refine wi_iload rfl rfl ?_
      refine wi_iconst (x := 1) rfl rfl ?_
      refine wi_iadd rfl ?_
      rw [show ((1 : Int32) + (1 : Int32) : Int32) = (2 : Int32) from by decide]
      refine wi_iload rfl rfl ?_
      refine wi_callV2 rfl (by decide) (by decide) rfl (kd_134 ..) rfl rfl rfl (c_grows2 ?_)
      refine wi_iinc (z := (2 : Int32)) rfl rfl rfl (by decide) rfl ?_
      refine wi_goto rfl ?_
      refine wi_iload rfl rfl ?_
      refine wi_iconst (x := 2) rfl rfl ?_
      refine wi_icmp_ge rfl (fun _ => ?_) (fun h9 => absurd (by decide) h9)
      have k8 := k (.int ((s - t) / (4 : Int32)))
      simpa [mseep, g1, g3] using k8
    · skip
      refine wi_goto rfl ?_
      refine wi_iinc (z := (2 : Int32)) rfl rfl rfl (by decide) rfl ?_
      refine wi_goto rfl ?_
      refine wi_iload rfl rfl ?_
      refine wi_iconst (x := 2) rfl rfl ?_
      refine wi_icmp_ge rfl (fun _ => ?_) (fun h9 => absurd (by decide) h9)
      have k8 := k (.retAddr 0)
      simpa [mseep, g1, g3] using k8
theorem st_d {r u wk bl f s t g h w r5 r6 : Int32} {v8 : Value} (k : am_wp X (d + 2) 155 106 [.ref 134, .int r, .int u, .int wk, .int bl, .int r5, .int r6, .int 2, v8] [] (am_shT, mrL bb, upT mi 142 (cutF (f + -(r6 + g / 12)) 100) (cutF (s + -(g / 20)) 100) (cutF (t + -(t / 10)) 100) g h w, ml) Q) : am_wp X (d + 2) 155 74 [.ref 134, .int r, .int u, .int wk, .int bl, .int r5, .int r6, .int 2, v8] [] (am_shT, mrL bb, upT mi 142 f s t g h w, ml) Q := by
  refine wi_aload_n rfl rfl ?_
  refine wi_iconst (x := 2) rfl rfl ?_
  refine wi_aload_n rfl rfl ?_
  refine wi_getR rfl (kd_134 ..) (rd_134_13 _) ?_
  refine wi_iconst (x := 2) rfl rfl ?_
  refine wn_iaload (q := 2) (v := t) rfl (ln_142 ..) rfl (by decide) (by decide) (by decide) (by decide) rfl ?_
  refine wi_bipush (x := 10) rfl rfl ?_
  refine wi_idiv rfl (by decide) ?_
  refine wi_ineg rfl ?_
  refine wi_callV2 rfl (by decide) (by decide) rfl (kd_134 ..) rfl rfl rfl (c_grows2 ?_)
  refine wi_aload_n rfl rfl ?_
  refine wi_iconst (x := 0) rfl rfl ?_
  refine wi_iload rfl rfl ?_
  refine wi_aload_n rfl rfl ?_
  refine wi_getR rfl (kd_134 ..) (rd_134_13 _) ?_
  refine wi_iconst (x := 3) rfl rfl ?_
  refine wn_iaload (q := 3) (v := g) rfl (ln_142 ..) rfl (by decide) (by decide) (by decide) (by decide) rfl ?_
  refine wi_bipush (x := 12) rfl rfl ?_
  refine wi_idiv rfl (by decide) ?_
  refine wi_iadd rfl ?_
  refine wi_ineg rfl ?_
  refine wi_callV2 rfl (by decide) (by decide) rfl (kd_134 ..) rfl rfl rfl (c_grows0 ?_)
  refine wi_aload_n rfl rfl ?_
  refine wi_iconst (x := 1) rfl rfl ?_
  refine wi_aload_n rfl rfl ?_
  refine wi_getR rfl (kd_134 ..) (rd_134_13 _) ?_
  refine wi_iconst (x := 3) rfl rfl ?_
  refine wn_iaload (q := 3) (v := g) rfl (ln_142 ..) rfl (by decide) (by decide) (by decide) (by decide) rfl ?_
  refine wi_bipush (x := 20) rfl rfl ?_
  refine wi_idiv rfl (by decide) ?_
  refine wi_ineg rfl ?_
  refine wi_callV2 rfl (by decide) (by decide) rfl (kd_134 ..) rfl rfl rfl (c_grows1 ?_)
  exact k
theorem st_e {r u wk bl f s t g h w r5 r6 : Int32} {v8 : Value} (k : am_wp X (d + 2) 155 152 [.ref 134, .int r, .int u, .int wk, .int bl, .int r5, .int r6, .int 2, v8] [] (am_shT, mrL bb, upT mi 142 f s t g (if wk &&& 2 ≤ 0 then h else if f < 25 then (if f ≤ 60 then h else cutF (h + -6) 100) else if 60 < f then (if f ≤ 60 then h else cutF (h + -6) 100) else if 70 < s then (if f ≤ 60 then h else cutF (h + -6) 100) else cutF (h + (1 + (100 - h) / 8)) 100) w, ml) Q) : am_wp X (d + 2) 155 106 [.ref 134, .int r, .int u, .int wk, .int bl, .int r5, .int r6, .int 2, v8] [] (am_shT, mrL bb, upT mi 142 f s t g h w, ml) Q := by
  refine wi_iload_n rfl rfl ?_
  refine wi_iconst (x := 2) rfl rfl ?_
  refine wi_iand rfl ?_
  refine wi_if_le rfl (fun g1 => ?_) (fun g1 => ?_)
  · skip
    simpa [-Int32.not_le, -Int32.not_lt, g1] using k
  · skip
    refine wi_aload_n rfl rfl ?_
    refine wi_getR rfl (kd_134 ..) (rd_134_13 _) ?_
    refine wi_iconst (x := 0) rfl rfl ?_
    refine wn_iaload (q := 0) (v := f) rfl (ln_142 ..) rfl (by decide) (by decide) (by decide) (by decide) rfl ?_
    refine wi_bipush (x := 25) rfl rfl ?_
    refine wi_icmp_lt rfl (fun g2 => ?_) (fun g2 => ?_)
    · skip
      refine wi_aload_n rfl rfl ?_
      refine wi_getR rfl (kd_134 ..) (rd_134_13 _) ?_
      refine wi_iconst (x := 0) rfl rfl ?_
      refine wn_iaload (q := 0) (v := f) rfl (ln_142 ..) rfl (by decide) (by decide) (by decide) (by decide) rfl ?_
      refine wi_bipush (x := 60) rfl rfl ?_
      refine wi_icmp_le rfl (fun g3 => ?_) (fun g3 => ?_)
      · skip
        simpa [-Int32.not_le, -Int32.not_lt, g1, g2, g3] using k
      · skip
        refine wi_aload_n rfl rfl ?_
        refine wi_iconst (x := 4) rfl rfl ?_
        refine wi_bipush (x := (-6)) rfl rfl ?_
        refine wi_callV2 rfl (by decide) (by decide) rfl (kd_134 ..) rfl rfl rfl (c_grows4 ?_)
        simpa [-Int32.not_le, -Int32.not_lt, g1, g2, g3] using k
    · skip
      refine wi_aload_n rfl rfl ?_
      refine wi_getR rfl (kd_134 ..) (rd_134_13 _) ?_
      refine wi_iconst (x := 0) rfl rfl ?_
      refine wn_iaload (q := 0) (v := f) rfl (ln_142 ..) rfl (by decide) (by decide) (by decide) (by decide) rfl ?_
      refine wi_bipush (x := 60) rfl rfl ?_
      refine wi_icmp_gt rfl (fun g4 => ?_) (fun g4 => ?_)
      · skip
        refine wi_aload_n rfl rfl ?_
        refine wi_getR rfl (kd_134 ..) (rd_134_13 _) ?_
        refine wi_iconst (x := 0) rfl rfl ?_
        refine wn_iaload (q := 0) (v := f) rfl (ln_142 ..) rfl (by decide) (by decide) (by decide) (by decide) rfl ?_
        refine wi_bipush (x := 60) rfl rfl ?_
        refine wi_icmp_le rfl (fun g5 => ?_) (fun g5 => ?_)
        · skip
          simpa [-Int32.not_le, -Int32.not_lt, g1, g2, g4, g5] using k
        · skip
          refine wi_aload_n rfl rfl ?_
          refine wi_iconst (x := 4) rfl rfl ?_
          refine wi_bipush (x := (-6)) rfl rfl ?_
          refine wi_callV2 rfl (by decide) (by decide) rfl (kd_134 ..) rfl rfl rfl (c_grows4 ?_)
          simpa [-Int32.not_le, -Int32.not_lt, g1, g2, g4, g5] using k
      · skip
        refine wi_aload_n rfl rfl ?_
        refine wi_getR rfl (kd_134 ..) (rd_134_13 _) ?_
        refine wi_iconst (x := 1) rfl rfl ?_
        refine wn_iaload (q := 1) (v := s) rfl (ln_142 ..) rfl (by decide) (by decide) (by decide) (by decide) rfl ?_
        refine wi_bipush (x := 70) rfl rfl ?_
        refine wi_icmp_gt rfl (fun g6 => ?_) (fun g6 => ?_)
        · skip
          refine wi_aload_n rfl rfl ?_
          refine wi_getR rfl (kd_134 ..) (rd_134_13 _) ?_
          refine wi_iconst (x := 0) rfl rfl ?_
          refine wn_iaload (q := 0) (v := f) rfl (ln_142 ..) rfl (by decide) (by decide) (by decide) (by decide) rfl ?_
          refine wi_bipush (x := 60) rfl rfl ?_
          refine wi_icmp_le rfl (fun g7 => ?_) (fun g7 => ?_)
          · skip
            simpa [-Int32.not_le, -Int32.not_lt, g1, g2, g4, g6, g7] using k
          · skip
            refine wi_aload_n rfl rfl ?_
            refine wi_iconst (x := 4) rfl rfl ?_
            refine wi_bipush (x := (-6)) rfl rfl ?_
            refine wi_callV2 rfl (by decide) (by decide) rfl (kd_134 ..) rfl rfl rfl (c_grows4 ?_)
            simpa [-Int32.not_le, -Int32.not_lt, g1, g2, g4, g6, g7] using k
        · skip
          refine wi_aload_n rfl rfl ?_
          refine wi_iconst (x := 4) rfl rfl ?_
          refine wi_iconst (x := 1) rfl rfl ?_
          refine wi_bipush (x := 100) rfl rfl ?_
          refine wi_aload_n rfl rfl ?_
          refine wi_getR rfl (kd_134 ..) (rd_134_13 _) ?_
          refine wi_iconst (x := 4) rfl rfl ?_
          refine wn_iaload (q := 4) (v := h) rfl (ln_142 ..) rfl (by decide) (by decide) (by decide) (by decide) rfl ?_
          refine wi_isub rfl ?_
          refine wi_bipush (x := 8) rfl rfl ?_
          refine wi_idiv rfl (by decide) ?_
          refine wi_iadd rfl ?_
          refine wi_callV2 rfl (by decide) (by decide) rfl (kd_134 ..) rfl rfl rfl (c_grows4 ?_)
          refine wi_goto rfl ?_
          simpa [-Int32.not_le, -Int32.not_lt, g1, g2, g4, g6] using k
theorem st_f {r u wk bl f s t g h w r5 r6 : Int32} {v8 : Value} (k : am_wp X (d + 2) 155 162 [.ref 134, .int r, .int u, .int wk, .int bl, .int r5, .int r6, .int 2, v8] [] (am_shT, mrL bb, upT mi 142 f s t g (if f ≤ 70 then h else cutF (h + -1) 100) w, ml) Q) : am_wp X (d + 2) 155 152 [.ref 134, .int r, .int u, .int wk, .int bl, .int r5, .int r6, .int 2, v8] [] (am_shT, mrL bb, upT mi 142 f s t g h w, ml) Q := by
  refine wi_aload_n rfl rfl ?_
  refine wi_getR rfl (kd_134 ..) (rd_134_13 _) ?_
  refine wi_iconst (x := 0) rfl rfl ?_
  refine wn_iaload (q := 0) (v := f) rfl (ln_142 ..) rfl (by decide) (by decide) (by decide) (by decide) rfl ?_
  refine wi_bipush (x := 70) rfl rfl ?_
  refine wi_icmp_le rfl (fun g1 => ?_) (fun g1 => ?_)
  · skip
    simpa [-Int32.not_le, -Int32.not_lt, g1] using k
  · skip
    refine wi_aload_n rfl rfl ?_
    refine wi_iconst (x := 4) rfl rfl ?_
    refine wi_iconst (x := (-1)) rfl rfl ?_
    refine wi_callV2 rfl (by decide) (by decide) rfl (kd_134 ..) rfl rfl rfl (c_grows4 ?_)
    simpa [-Int32.not_le, -Int32.not_lt, g1] using k
theorem st_g {r u wk bl f s t g h w r5 r6 : Int32} {v8 : Value} (k : am_wp X (d + 2) 155 200 [.ref 134, .int r, .int u, .int wk, .int bl, .int r5, .int r6, .int 2, v8] [] (am_shT, mrL bb, upT mi 142 f s t (if 50 < w then g else if s < 20 then (if s < 10 then cutF (g + -1) 60 else if 90 < s then cutF (g + -1) 60 else cutF (g + 1) 60) else if 80 < s then (if s < 10 then cutF (g + -1) 60 else if 90 < s then cutF (g + -1) 60 else cutF (g + 1) 60) else cutF (g + 2) 60) h w, ml) Q) : am_wp X (d + 2) 155 162 [.ref 134, .int r, .int u, .int wk, .int bl, .int r5, .int r6, .int 2, v8] [] (am_shT, mrL bb, upT mi 142 f s t g h w, ml) Q := by
  refine wi_aload_n rfl rfl ?_
  refine wi_getR rfl (kd_134 ..) (rd_134_13 _) ?_
  refine wi_iconst (x := 5) rfl rfl ?_
  refine wn_iaload (q := 5) (v := w) rfl (ln_142 ..) rfl (by decide) (by decide) (by decide) (by decide) rfl ?_
  refine wi_bipush (x := 50) rfl rfl ?_
  refine wi_icmp_gt rfl (fun g1 => ?_) (fun g1 => ?_)
  · skip
    simpa [-Int32.not_le, -Int32.not_lt, g1] using k
  · skip
    refine wi_aload_n rfl rfl ?_
    refine wi_iconst (x := 3) rfl rfl ?_
    refine wi_aload_n rfl rfl ?_
    refine wi_getR rfl (kd_134 ..) (rd_134_13 _) ?_
    refine wi_iconst (x := 1) rfl rfl ?_
    refine wn_iaload (q := 1) (v := s) rfl (ln_142 ..) rfl (by decide) (by decide) (by decide) (by decide) rfl ?_
    refine wi_bipush (x := 20) rfl rfl ?_
    refine wi_icmp_lt rfl (fun g2 => ?_) (fun g2 => ?_)
    · skip
      refine wi_aload_n rfl rfl ?_
      refine wi_getR rfl (kd_134 ..) (rd_134_13 _) ?_
      refine wi_iconst (x := 1) rfl rfl ?_
      refine wn_iaload (q := 1) (v := s) rfl (ln_142 ..) rfl (by decide) (by decide) (by decide) (by decide) rfl ?_
      refine wi_bipush (x := 10) rfl rfl ?_
      refine wi_icmp_lt rfl (fun g3 => ?_) (fun g3 => ?_)
      · skip
        refine wi_iconst (x := (-1)) rfl rfl ?_
        refine wi_callV2 rfl (by decide) (by decide) rfl (kd_134 ..) rfl rfl rfl (c_grows3 ?_)
        simpa [-Int32.not_le, -Int32.not_lt, g1, g2, g3] using k
      · skip
        refine wi_aload_n rfl rfl ?_
        refine wi_getR rfl (kd_134 ..) (rd_134_13 _) ?_
        refine wi_iconst (x := 1) rfl rfl ?_
        refine wn_iaload (q := 1) (v := s) rfl (ln_142 ..) rfl (by decide) (by decide) (by decide) (by decide) rfl ?_
        refine wi_bipush (x := 90) rfl rfl ?_
        refine wi_icmp_gt rfl (fun g4 => ?_) (fun g4 => ?_)
        · skip
          refine wi_iconst (x := (-1)) rfl rfl ?_
          refine wi_callV2 rfl (by decide) (by decide) rfl (kd_134 ..) rfl rfl rfl (c_grows3 ?_)
          simpa [-Int32.not_le, -Int32.not_lt, g1, g2, g3, g4] using k
        · skip
          refine wi_iconst (x := 1) rfl rfl ?_
          refine wi_goto rfl ?_
          refine wi_callV2 rfl (by decide) (by decide) rfl (kd_134 ..) rfl rfl rfl (c_grows3 ?_)
          simpa [-Int32.not_le, -Int32.not_lt, g1, g2, g3, g4] using k
    · skip
      refine wi_aload_n rfl rfl ?_
      refine wi_getR rfl (kd_134 ..) (rd_134_13 _) ?_
      refine wi_iconst (x := 1) rfl rfl ?_
      refine wn_iaload (q := 1) (v := s) rfl (ln_142 ..) rfl (by decide) (by decide) (by decide) (by decide) rfl ?_
      refine wi_bipush (x := 80) rfl rfl ?_
      refine wi_icmp_gt rfl (fun g5 => ?_) (fun g5 => ?_)
      · skip
        refine wi_aload_n rfl rfl ?_
        refine wi_getR rfl (kd_134 ..) (rd_134_13 _) ?_
        refine wi_iconst (x := 1) rfl rfl ?_
        refine wn_iaload (q := 1) (v := s) rfl (ln_142 ..) rfl (by decide) (by decide) (by decide) (by decide) rfl ?_
        refine wi_bipush (x := 10) rfl rfl ?_
        refine wi_icmp_lt rfl (fun g6 => ?_) (fun g6 => ?_)
        · skip
          refine wi_iconst (x := (-1)) rfl rfl ?_
          refine wi_callV2 rfl (by decide) (by decide) rfl (kd_134 ..) rfl rfl rfl (c_grows3 ?_)
          simpa [-Int32.not_le, -Int32.not_lt, g1, g2, g5, g6] using k
        · skip
          refine wi_aload_n rfl rfl ?_
          refine wi_getR rfl (kd_134 ..) (rd_134_13 _) ?_
          refine wi_iconst (x := 1) rfl rfl ?_
          refine wn_iaload (q := 1) (v := s) rfl (ln_142 ..) rfl (by decide) (by decide) (by decide) (by decide) rfl ?_
          refine wi_bipush (x := 90) rfl rfl ?_
          refine wi_icmp_gt rfl (fun g7 => ?_) (fun g7 => ?_)
          · skip
            refine wi_iconst (x := (-1)) rfl rfl ?_
            refine wi_callV2 rfl (by decide) (by decide) rfl (kd_134 ..) rfl rfl rfl (c_grows3 ?_)
            simpa [-Int32.not_le, -Int32.not_lt, g1, g2, g5, g6, g7] using k
          · skip
            refine wi_iconst (x := 1) rfl rfl ?_
            refine wi_goto rfl ?_
            refine wi_callV2 rfl (by decide) (by decide) rfl (kd_134 ..) rfl rfl rfl (c_grows3 ?_)
            simpa [-Int32.not_le, -Int32.not_lt, g1, g2, g5, g6, g7] using k
      · skip
        refine wi_iconst (x := 2) rfl rfl ?_
        refine wi_goto rfl ?_
        refine wi_callV2 rfl (by decide) (by decide) rfl (kd_134 ..) rfl rfl rfl (c_grows3 ?_)
        simpa [-Int32.not_le, -Int32.not_lt, g1, g2, g5] using k
theorem st_h {r u wk bl f s t g h w r5 r6 : Int32} {v8 : Value} (k : am_wp X (d + 2) 155 214 [.ref 134, .int r, .int u, .int wk, .int bl, .int r5, .int r6, .int 2, v8] [] (am_shT, mrL bb, upT mi 142 f s t (if wk &&& 4 ≤ 0 then g else if g < 6 then g else 6) h w, ml) Q) : am_wp X (d + 2) 155 200 [.ref 134, .int r, .int u, .int wk, .int bl, .int r5, .int r6, .int 2, v8] [] (am_shT, mrL bb, upT mi 142 f s t g h w, ml) Q := by
  refine wi_iload_n rfl rfl ?_
  refine wi_iconst (x := 4) rfl rfl ?_
  refine wi_iand rfl ?_
  refine wi_if_le rfl (fun g1 => ?_) (fun g1 => ?_)
  · skip
    simpa [-Int32.not_le, -Int32.not_lt, g1] using k
  · skip
    refine wi_aload_n rfl rfl ?_
    refine wi_getR rfl (kd_134 ..) (rd_134_13 _) ?_
    refine wi_iconst (x := 3) rfl rfl ?_
    refine wi_bipush (x := 6) rfl rfl ?_
    refine wi_aload_n rfl rfl ?_
    refine wi_getR rfl (kd_134 ..) (rd_134_13 _) ?_
    refine wi_iconst (x := 3) rfl rfl ?_
    refine wn_iaload (q := 3) (v := g) rfl (ln_142 ..) rfl (by decide) (by decide) (by decide) (by decide) rfl ?_
    refine wi_min rfl rfl ?_
    refine wn_iastore (q := 3) rfl (ln_142 ..) rfl (by decide) (by decide) ?_
    rw [upT_s3]
    simpa [-Int32.not_le, -Int32.not_lt, g1] using k
theorem st_i {r u wk bl f s t g h w r5 r6 : Int32} {v8 : Value} (k : am_wp X (d + 2) 155 224 [.ref 134, .int r, .int u, .int wk, .int bl, .int r5, .int r6, .int 2, v8] [] (am_shT, mrL bb, upT mi 142 f s t g h (if wk &&& 16 ≤ 0 then w else if bl = 0 then cutF (w + -3) 100 else w), ml) Q) : am_wp X (d + 2) 155 214 [.ref 134, .int r, .int u, .int wk, .int bl, .int r5, .int r6, .int 2, v8] [] (am_shT, mrL bb, upT mi 142 f s t g h w, ml) Q := by
  refine wi_iload_n rfl rfl ?_
  refine wi_bipush (x := 16) rfl rfl ?_
  refine wi_iand rfl ?_
  refine wi_if_le rfl (fun g1 => ?_) (fun g1 => ?_)
  · skip
    simpa [-Int32.not_le, -Int32.not_lt, g1] using k
  · skip
    refine wi_iload rfl rfl ?_
    refine wi_if_ne rfl (fun g2 => ?_) (fun g2 => ?_)
    · skip
      simpa [-Int32.not_le, -Int32.not_lt, g1, g2] using k
    · replace g2 := Classical.not_not.mp g2
      refine wi_aload_n rfl rfl ?_
      refine wi_iconst (x := 5) rfl rfl ?_
      refine wi_bipush (x := (-3)) rfl rfl ?_
      refine wi_callV2 rfl (by decide) (by decide) rfl (kd_134 ..) rfl rfl rfl (c_grows5 ?_)
      simpa [-Int32.not_le, -Int32.not_lt, g1, g2] using k
theorem st_j {r u wk bl f s t g h w r5 r6 : Int32} {v8 : Value} (k : Q none (am_shT, mrL bb, upT mi 142 f s t g (cutF (h + -(bl / 200)) 100) (cutF (w + bl / 40) 100), ml)) : am_wp X (d + 2) 155 224 [.ref 134, .int r, .int u, .int wk, .int bl, .int r5, .int r6, .int 2, v8] [] (am_shT, mrL bb, upT mi 142 f s t g h w, ml) Q := by
  refine wi_aload_n rfl rfl ?_
  refine wi_iconst (x := 5) rfl rfl ?_
  refine wi_iload rfl rfl ?_
  refine wi_bipush (x := 40) rfl rfl ?_
  refine wi_idiv rfl (by decide) ?_
  refine wi_callV2 rfl (by decide) (by decide) rfl (kd_134 ..) rfl rfl rfl (c_grows5 ?_)
  refine wi_aload_n rfl rfl ?_
  refine wi_iconst (x := 4) rfl rfl ?_
  refine wi_iload rfl rfl ?_
  refine wi_sipush (x := 200) rfl rfl ?_
  refine wi_idiv rfl (by decide) ?_
  refine wi_ineg rfl ?_
  refine wi_callV2 rfl (by decide) (by decide) rfl (kd_134 ..) rfl rfl rfl (c_grows4 ?_)
  refine wi_ret rfl ?_
  exact k
def mdayF (f s t g h w r u wk bl : Int32) : six :=
  let r5 := if wk &&& 1 ≤ 0 then r else 0
  let r6 := if wk &&& 1 ≤ 0 then u else u / 2
  let f1 := if wk &&& 8 ≤ 0 then cutF (f + r5) 100 else cutF (cutF (f + r5) 100 + 8) 100
  let f2 := (mseep f1 s).1
  let s2 := (mseep (mseep f1 s).2 t).1
  let t2 := (mseep (mseep f1 s).2 t).2
  let f3 := cutF (f2 + -(r6 + g / 12)) 100
  let s3 := cutF (s2 + -(g / 20)) 100
  let t3 := cutF (t2 + -(t2 / 10)) 100
  let h1 := if wk &&& 2 ≤ 0 then h else if f3 < 25 then (if f3 ≤ 60 then h else cutF (h + -6) 100) else if 60 < f3 then (if f3 ≤ 60 then h else cutF (h + -6) 100) else if 70 < s3 then (if f3 ≤ 60 then h else cutF (h + -6) 100) else cutF (h + (1 + (100 - h) / 8)) 100
  let h2 := if f3 ≤ 70 then h1 else cutF (h1 + -1) 100
  let g1 := if 50 < w then g else if s3 < 20 then (if s3 < 10 then cutF (g + -1) 60 else if 90 < s3 then cutF (g + -1) 60 else cutF (g + 1) 60) else if 80 < s3 then (if s3 < 10 then cutF (g + -1) 60 else if 90 < s3 then cutF (g + -1) 60 else cutF (g + 1) 60) else cutF (g + 2) 60
  let g2 := if wk &&& 4 ≤ 0 then g1 else if g1 < 6 then g1 else 6
  let w1 := if wk &&& 16 ≤ 0 then w else if bl = 0 then cutF (w + -3) 100 else w
  (f3, s3, t3, g2, cutF (h2 + -(bl / 200)) 100, cutF (w1 + bl / 40) 100)
theorem c_steps {r u wk bl f s t g h w : Int32} (hQ : Q none (am_shT, mrL bb, up6 mi 142 (mdayF f s t g h w r u wk bl), ml)) : am_wp X (d + 2) 155 0 [.ref 134, .int r, .int u, .int wk, .int bl, .retAddr 0, .retAddr 0, .retAddr 0, .retAddr 0] [] (am_shT, mrL bb, upT mi 142 f s t g h w, ml) Q := by
  refine st_a ?_
  refine st_b ?_
  refine st_c (fun v8 => ?_)
  refine st_d ?_
  refine st_e ?_
  refine st_f ?_
  refine st_g ?_
  refine st_h ?_
  refine st_i ?_
  exact st_j hQ
end MT
