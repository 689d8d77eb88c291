/-! ===== calls, one by one ===== -/
section AH
variable {X : Nat × (Nat → Int32)} {d : Nat} {Q : Option Value → am_M → Prop} {mi : Nat → Nat → Int32} {ml : Nat → Nat → Int64} {b : Bool} {M : am_M}
theorem gen_wp {X : Nat × (Nat → Int32)} {d mid j : Nat} {ls st : List Value} {sh : List (Nat × Nat)} {mr : List (List (Option Nat))} {mi : Nat → Nat → Int32} {ml : Nat → Nat → Int64} {Q : Option Value → am_M → Prop} (h : ∀ m9, m9 = mi → am_wp X d mid j ls st (sh, mr, m9, ml) Q) : am_wp X d mid j ls st (sh, mr, mi, ml) Q := h mi rfl
theorem scr_t {q : Nat} (h : q < 8) : scr (126 + q) = true := by
  have h1 : decide (126 ≤ 126 + q) = true := decide_eq_true (by omega)
  have h2 : decide (126 + q < 134) = true := decide_eq_true (by omega)
  simp only [scr, h1, h2, Bool.and_self, Bool.true_or]
theorem upT_now {mi : Nat → Nat → Int32} {a z p : Nat} {S : Nat → Int32} (h : p < 6) : upT mi a (S (z + 0)) (S (z + 1)) (S (z + 2)) (S (z + 3)) (S (z + 4)) (S (z + 5)) a p = S (z + p) := by
  rw [upT_rd]
  rcases p with _ | _ | _ | _ | _ | _ | p
  all_goals first | rfl | omega
theorem valF_lt {r : Nat → Int32} {p : Nat} (h : p < 6) : valF r (Int32.ofNat p) = r p := by
  rcases p with _ | _ | _ | _ | _ | _ | p
  all_goals first | rfl | omega
theorem tR_at {r S W B : Nat → Int32} {s p : Nat} (h : tR r S W B s) (hp : p < 6) : r p = S (6 * s + p) := by
  obtain ⟨a0, a1, a2, a3, a4, a5, -, -⟩ := h
  rcases p with _ | _ | _ | _ | _ | _ | p
  all_goals first | assumption | omega
theorem rWea_upd {r s r' s' : Nat → Int32} (h : rWea r s r' s') {k x y : Nat} (hx : x ≤ 100) (hy : y ≤ 20) : rWea (fun i => if i = k then Int32.ofNat x else r i) (fun i => if i = k then Int32.ofNat y else s i) (fun i => if i = k then Int32.ofNat x else r' i) (fun i => if i = k then Int32.ofNat y else s' i) := by
  intro i hi
  obtain ⟨h1, h2, h3, h4⟩ := h i hi
  by_cases e : i = k
  · simp only [if_pos e]
    exact ⟨trivial, trivial, rB_of (hi := 100) hx (by decide), rB_of (hi := 20) hy (by decide)⟩
  · simp only [if_neg e]
    exact ⟨h1, h2, h3, h4⟩
theorem rMeas_add {n q : Nat} {a d v a' d' v' : Nat → Int32} (hq : q < 200) (h : ∀ k, k < q → a k = a' k ∧ d k = d' k ∧ v k = v' k ∧ (∃ s : Nat, s < n ∧ a k = Int32.ofNat s) ∧ rB (d k) 0 999 ∧ rB (v k) 0 100) {s x y : Nat} (hs : s < n) (hx : x ≤ 999) (hy : y ≤ 100) : rMeas n (Int32.ofNat (q + 1)) (Int32.ofNat (q + 1)) (fun i => if i = q then Int32.ofNat s else a i) (fun i => if i = q then Int32.ofNat x else d i) (fun i => if i = q then Int32.ofNat y else v i) (fun i => if i = q then Int32.ofNat s else a' i) (fun i => if i = q then Int32.ofNat x else d' i) (fun i => if i = q then Int32.ofNat y else v' i) := by
  refine ⟨q + 1, rfl, rfl, by omega, fun k hk => ?_⟩
  by_cases e : k = q
  · simp only [if_pos e]
    exact ⟨trivial, trivial, trivial, ⟨s, hs, rfl⟩, rB_of (hi := 999) hx (by decide), rB_of (hi := 100) hy (by decide)⟩
  · simp only [if_neg e]
    exact h k (by omega)
theorem rMeas_mono {n m : Nat} {c c' : Int32} {a d v a' d' v' : Nat → Int32} (h : rMeas n c c' a d v a' d' v') (hm : n ≤ m) : rMeas m c c' a d v a' d' v' := by
  obtain ⟨q, h1, h2, h3, h4⟩ := h
  exact ⟨q, h1, h2, h3, fun k hk => by
    obtain ⟨g1, g2, g3, ⟨s, g4, g5⟩, g6⟩ := h4 k hk
    exact ⟨g1, g2, g3, ⟨s, by omega, g5⟩, g6⟩⟩

theorem c_has {s nn v : Int32} (hn : mi 0 13 = nn) (h9 : stF s nn = v) (hQ : Q (some (.int v)) (am_shT, mrL b, mi, ml)) : am_wp X d 137 0 [.ref 0, .int s] [] (am_shT, mrL b, mi, ml) Q := by
  refine wi_iload_n rfl rfl ?_
  refine wi_if_lt rfl (fun g1 => ?_) (fun g1 => ?_)
  · skip
    refine wi_iconst (x := 0) rfl rfl ?_
    refine wi_iret rfl (by decide) ?_
    subst h9
    simpa [-Int32.not_le, -Int32.not_lt, stF, g1] using hQ
  · skip
    refine wi_iload_n rfl rfl ?_
    refine wi_aload_n rfl rfl ?_
    refine wi_getIv (v := nn) rfl (kd_0 ..) hn ?_
    refine wi_icmp_ge rfl (fun g2 => ?_) (fun g2 => ?_)
    · skip
      refine wi_iconst (x := 0) rfl rfl ?_
      refine wi_iret rfl (by decide) ?_
      subst h9
      simpa [-Int32.not_le, -Int32.not_lt, stF, g1, g2] using hQ
    · skip
      refine wi_iconst (x := 1) rfl rfl ?_
      refine wi_goto rfl ?_
      refine wi_iret rfl (by decide) ?_
      subst h9
      simpa [-Int32.not_le, -Int32.not_lt, stF, g1, g2] using hQ
theorem c_isS {s nn v : Int32} (hn : mi 134 4 = nn) (h9 : stF s nn = v) (hQ : Q (some (.int v)) (am_shT, mrL b, mi, ml)) : am_wp X d 145 0 [.ref 134, .int s] [] (am_shT, mrL b, mi, ml) Q := by
  refine wi_iload_n rfl rfl ?_
  refine wi_if_lt rfl (fun g1 => ?_) (fun g1 => ?_)
  · skip
    refine wi_iconst (x := 0) rfl rfl ?_
    refine wi_iret rfl (by decide) ?_
    subst h9
    simpa [-Int32.not_le, -Int32.not_lt, stF, g1] using hQ
  · skip
    refine wi_iload_n rfl rfl ?_
    refine wi_aload_n rfl rfl ?_
    refine wi_getIv (v := nn) rfl (kd_134 ..) hn ?_
    refine wi_icmp_ge rfl (fun g2 => ?_) (fun g2 => ?_)
    · skip
      refine wi_iconst (x := 0) rfl rfl ?_
      refine wi_iret rfl (by decide) ?_
      subst h9
      simpa [-Int32.not_le, -Int32.not_lt, stF, g1, g2] using hQ
    · skip
      refine wi_iconst (x := 1) rfl rfl ?_
      refine wi_goto rfl ?_
      refine wi_iret rfl (by decide) ?_
      subst h9
      simpa [-Int32.not_le, -Int32.not_lt, stF, g1, g2] using hQ
theorem c_wiV {s lo hi v : Int32} (h9 : wnF s lo hi = v) (hQ : Q (some (.int v)) M) : am_wp X d 139 0 [.int s, .int lo, .int hi] [] M Q := c_within (by rw [h9]; exact hQ)
theorem c_isIn {s hi v : Int32} (h9 : wnF s 0 hi = v) (hQ : Q (some (.int v)) M) : am_wp X d 147 0 [.int s, .int hi] [] M Q := by
  refine wi_iload_n rfl rfl ?_
  refine wi_if_lt rfl (fun g1 => ?_) (fun g1 => ?_)
  · skip
    refine wi_iconst (x := 0) rfl rfl ?_
    refine wi_iret rfl (by decide) ?_
    subst h9
    simpa [-Int32.not_le, -Int32.not_lt, wnF, g1] using hQ
  · skip
    refine wi_iload_n rfl rfl ?_
    refine wi_iload_n rfl rfl ?_
    refine wi_icmp_gt rfl (fun g2 => ?_) (fun g2 => ?_)
    · skip
      refine wi_iconst (x := 0) rfl rfl ?_
      refine wi_iret rfl (by decide) ?_
      subst h9
      simpa [-Int32.not_le, -Int32.not_lt, wnF, g1, g2] using hQ
    · skip
      refine wi_iconst (x := 1) rfl rfl ?_
      refine wi_goto rfl ?_
      refine wi_iret rfl (by decide) ?_
      subst h9
      simpa [-Int32.not_le, -Int32.not_lt, wnF, g1, g2] using hQ
theorem c_mday0 {s v : Int32} (h9 : stF s 1000 = v) (hQ : Q (some (.int v)) M) : am_wp X d 146 0 [.int s] [] M Q := by
  refine wi_iload_n rfl rfl ?_
  refine wi_if_lt rfl (fun g1 => ?_) (fun g1 => ?_)
  · skip
    refine wi_iconst (x := 0) rfl rfl ?_
    refine wi_iret rfl (by decide) ?_
    subst h9
    simpa [-Int32.not_le, -Int32.not_lt, stF, g1] using hQ
  · skip
    refine wi_iload_n rfl rfl ?_
    refine wi_sipush (x := 1000) rfl rfl ?_
    refine wi_icmp_ge rfl (fun g2 => ?_) (fun g2 => ?_)
    · skip
      refine wi_iconst (x := 0) rfl rfl ?_
      refine wi_iret rfl (by decide) ?_
      subst h9
      simpa [-Int32.not_le, -Int32.not_lt, stF, g1, g2] using hQ
    · skip
      refine wi_iconst (x := 1) rfl rfl ?_
      refine wi_goto rfl ?_
      refine wi_iret rfl (by decide) ?_
      subst h9
      simpa [-Int32.not_le, -Int32.not_lt, stF, g1, g2] using hQ
theorem c_mday {s v : Int32} (h9 : wnF s 0 999 = v) (hQ : Q (some (.int v)) M) : am_wp X d 146 0 [.int s] [] M Q := c_mday0 (by rw [st_wn]; exact h9) hQ
theorem c_xday {s v : Int32} (h9 : wnF s 0 999 = v) (hQ : Q (some (.int v)) M) : am_wp X (d + 1) 138 0 [.int s] [] M Q := by
  have hz : 1 = 0 ∨ v = 0 ∨ v = 1 := by
    subst h9
    unfold wnF
    split
    · exact Or.inr (Or.inl rfl)
    · split
      · exact Or.inr (Or.inl rfl)
      · exact Or.inr (Or.inr rfl)
  refine wi_iload_n rfl rfl ?_
  refine wi_iconst (x := 0) rfl rfl ?_
  refine wi_sipush (x := 999) rfl rfl ?_
  refine wi_callS3 rfl (by decide) (by decide) rfl rfl rfl (c_wiV h9 ?_)
  refine wi_iret rfl hz ?_
  exact hQ
end AH
theorem a_status {X : Nat × (Nat → Int32)} : arm X 105 142 [.ref 0] [.ref 134] := by
  intro mi ml b hR Q hK
  obtain ⟨n, t, hst, ⟨hn0, hn4, hn⟩, ⟨ht0, ht5, ht⟩, hT, hF, hC, hM, hP, hTp, hB, hFa, hS, hMk, hfr⟩ := hR
  refine wi_aload_n rfl rfl ?_
  refine wi_getIv (v := (mi 0 12)) rfl (kd_0 ..) rfl ?_
  refine wi_iret rfl (Or.inl rfl) ?_
  refine hK _ _ _ _ (fun Q2 h2 => ?_)
  refine wi_aload_n rfl rfl ?_
  refine wi_iconst (x := 0) rfl rfl ?_
  refine wi_putI rfl (kd_134 ..) ?_
  refine wi_aload_n rfl rfl ?_
  refine wi_getIv (v := (mi 134 0)) rfl (kd_134 ..) rfl ?_
  refine wi_iret rfl (Or.inl rfl) ?_
  rw [hst] at h2
  refine h2 _ _ _ ?_
  exact ⟨n, t, hst, ⟨hn0, hn4, hn⟩, ⟨ht0, ht5, ht⟩, hT, hF, hC, hM, hP, hTp, hB, hFa, hS, hMk, hfr⟩
theorem a_day {X : Nat × (Nat → Int32)} : arm X 113 160 [.ref 0] [.ref 134] := by
  intro mi ml b hR Q hK
  obtain ⟨n, t, hst, ⟨hn0, hn4, hn⟩, ⟨ht0, ht5, ht⟩, hT, hF, hC, hM, hP, hTp, hB, hFa, hS, hMk, hfr⟩ := hR
  refine wi_aload_n rfl rfl ?_
  refine wi_aload_n rfl rfl ?_
  refine wi_getIv (v := (Int32.ofNat (t))) rfl (kd_0 ..) ht0 ?_
  refine wi_callV1 rfl (by decide) (by decide) rfl (kd_0 ..) rfl rfl rfl ?_
  refine wi_aload_n rfl rfl ?_
  refine wi_iconst (x := 0) rfl rfl ?_
  refine wi_putI rfl (kd_0 ..) ?_
  refine wi_iload_n rfl rfl ?_
  refine wi_iret rfl (Or.inl rfl) ?_
  refine wi_iret rfl (Or.inl rfl) ?_
  refine hK _ _ _ _ (fun Q2 h2 => ?_)
  refine wi_aload_n rfl rfl ?_
  refine wi_iconst (x := 0) rfl rfl ?_
  refine wi_putI rfl (kd_134 ..) ?_
  refine wi_aload_n rfl rfl ?_
  refine wi_iconst (x := 0) rfl rfl ?_
  refine wi_putI rfl (kd_134 ..) ?_
  refine wi_aload_n rfl rfl ?_
  refine wi_getIv (v := (Int32.ofNat (t))) rfl (kd_134 ..) ht5 ?_
  refine wi_iret rfl (Or.inl rfl) ?_
  refine h2 _ _ _ ?_
  exact ⟨n, t, rfl, ⟨hn0, hn4, hn⟩, ⟨ht0, ht5, ht⟩, hT, hF, hC, hM, hP, hTp, hB, hFa, hS, hMk, hfr⟩
theorem a_rests {X : Nat × (Nat → Int32)} {r s : Int32} : arm X 125 191 [.ref 0, .int r, .int s] [.ref 134, .int r, .int s] := by
  intro mi ml b hR Q hK
  obtain ⟨n, t, hst, ⟨hn0, hn4, hn⟩, ⟨ht0, ht5, ht⟩, hT, hF, hC, hM, hP, hTp, hB, hFa, hS, hMk, hfr⟩ := hR
  rcases wn_cases r 0 60 (by decide) (by decide) with e_r | ⟨x, l_x, h_x, rfl⟩
  · refine wi_iload_n rfl rfl ?_
    refine wi_iconst (x := 0) rfl rfl ?_
    refine wi_bipush (x := 60) rfl rfl ?_
    refine wi_callS3 rfl (by decide) (by decide) rfl rfl rfl (c_wiV e_r ?_)
    refine wi_if_eq rfl (fun _ => ?_) (fun h9 => absurd (by decide) h9)
    refine wi_aload_n rfl rfl ?_
    refine wi_iconst (x := 2) rfl rfl ?_
    refine wi_callV1 rfl (by decide) (by decide) rfl (kd_0 ..) rfl rfl rfl ?_
    refine wi_aload_n rfl rfl ?_
    refine wi_iload_n rfl rfl ?_
    refine wi_putI rfl (kd_0 ..) ?_
    refine wi_iconst (x := 0) rfl rfl ?_
    refine wi_iret rfl (by decide) ?_
    refine wi_iret rfl (by decide) ?_
    refine hK _ _ _ _ (fun Q2 h2 => ?_)
    refine wi_aload_n rfl rfl ?_
    refine wi_iconst (x := 0) rfl rfl ?_
    refine wi_putI rfl (kd_134 ..) ?_
    refine wi_aload_n rfl rfl ?_
    refine wi_iconst (x := 0) rfl rfl ?_
    refine wi_putI rfl (kd_134 ..) ?_
    refine wi_iload_n rfl rfl ?_
    refine wi_bipush (x := 60) rfl rfl ?_
    refine wi_callS2 rfl (by decide) (by decide) rfl rfl rfl (c_isIn e_r ?_)
    refine wi_if_eq rfl (fun _ => ?_) (fun h9 => absurd (by decide) h9)
    refine wi_aload_n rfl rfl ?_
    refine wi_iconst (x := 2) rfl rfl ?_
    refine wi_callV1 rfl (by decide) (by decide) rfl (kd_134 ..) rfl rfl rfl ?_
    refine wi_aload_n rfl rfl ?_
    refine wi_iload_n rfl rfl ?_
    refine wi_putI rfl (kd_134 ..) ?_
    refine wi_iconst (x := 0) rfl rfl ?_
    refine wi_iret rfl (by decide) ?_
    refine wi_iret rfl (by decide) ?_
    refine h2 _ _ _ ?_
    exact ⟨n, t, rfl, ⟨hn0, hn4, hn⟩, ⟨ht0, ht5, ht⟩, hT, hF, hC, hM, hP, hTp, hB, hFa, hS, hMk, hfr⟩
  · skip
    rcases wn_cases s 0 100 (by decide) (by decide) with e_s | ⟨y, l_y, h_y, rfl⟩
    · refine wi_iload_n rfl rfl ?_
      refine wi_iconst (x := 0) rfl rfl ?_
      refine wi_bipush (x := 60) rfl rfl ?_
      refine wi_callS3 rfl (by decide) (by decide) rfl rfl rfl (c_wiV (wn_in (lo := 0) (hi := 60) (by omega) (by omega) (by decide)) ?_)
      refine wi_if_eq rfl (fun h9 => absurd h9 (by decide)) (fun _ => ?_)
      refine wi_iload_n rfl rfl ?_
      refine wi_iconst (x := 0) rfl rfl ?_
      refine wi_bipush (x := 100) rfl rfl ?_
      refine wi_callS3 rfl (by decide) (by decide) rfl rfl rfl (c_wiV e_s ?_)
      refine wi_if_ne rfl (fun h9 => absurd h9 (by decide)) (fun _ => ?_)
      refine wi_aload_n rfl rfl ?_
      refine wi_iconst (x := 2) rfl rfl ?_
      refine wi_callV1 rfl (by decide) (by decide) rfl (kd_0 ..) rfl rfl rfl ?_
      refine wi_aload_n rfl rfl ?_
      refine wi_iload_n rfl rfl ?_
      refine wi_putI rfl (kd_0 ..) ?_
      refine wi_iconst (x := 0) rfl rfl ?_
      refine wi_iret rfl (by decide) ?_
      refine wi_iret rfl (by decide) ?_
      refine hK _ _ _ _ (fun Q2 h2 => ?_)
      refine wi_aload_n rfl rfl ?_
      refine wi_iconst (x := 0) rfl rfl ?_
      refine wi_putI rfl (kd_134 ..) ?_
      refine wi_aload_n rfl rfl ?_
      refine wi_iconst (x := 0) rfl rfl ?_
      refine wi_putI rfl (kd_134 ..) ?_
      refine wi_iload_n rfl rfl ?_
      refine wi_bipush (x := 60) rfl rfl ?_
      refine wi_callS2 rfl (by decide) (by decide) rfl rfl rfl (c_isIn (wn_in (lo := 0) (hi := 60) (by omega) (by omega) (by decide)) ?_)
      refine wi_if_eq rfl (fun h9 => absurd h9 (by decide)) (fun _ => ?_)
      refine wi_iload_n rfl rfl ?_
      refine wi_bipush (x := 100) rfl rfl ?_
      refine wi_callS2 rfl (by decide) (by decide) rfl rfl rfl (c_isIn e_s ?_)
      refine wi_if_ne rfl (fun h9 => absurd h9 (by decide)) (fun _ => ?_)
      refine wi_aload_n rfl rfl ?_
      refine wi_iconst (x := 2) rfl rfl ?_
      refine wi_callV1 rfl (by decide) (by decide) rfl (kd_134 ..) rfl rfl rfl ?_
      refine wi_aload_n rfl rfl ?_
      refine wi_iload_n rfl rfl ?_
      refine wi_putI rfl (kd_134 ..) ?_
      refine wi_iconst (x := 0) rfl rfl ?_
      refine wi_iret rfl (by decide) ?_
      refine wi_iret rfl (by decide) ?_
      refine h2 _ _ _ ?_
      exact ⟨n, t, rfl, ⟨hn0, hn4, hn⟩, ⟨ht0, ht5, ht⟩, hT, hF, hC, hM, hP, hTp, hB, hFa, hS, hMk, hfr⟩
    · skip
      refine wi_iload_n rfl rfl ?_
      refine wi_iconst (x := 0) rfl rfl ?_
      refine wi_bipush (x := 60) rfl rfl ?_
      refine wi_callS3 rfl (by decide) (by decide) rfl rfl rfl (c_wiV (wn_in (lo := 0) (hi := 60) (by omega) (by omega) (by decide)) ?_)
      refine wi_if_eq rfl (fun h9 => absurd h9 (by decide)) (fun _ => ?_)
      refine wi_iload_n rfl rfl ?_
      refine wi_iconst (x := 0) rfl rfl ?_
      refine wi_bipush (x := 100) rfl rfl ?_
      refine wi_callS3 rfl (by decide) (by decide) rfl rfl rfl (c_wiV (wn_in (lo := 0) (hi := 100) (by omega) (by omega) (by decide)) ?_)
      refine wi_if_ne rfl (fun _ => ?_) (fun h9 => absurd (by decide) h9)
      refine wi_aload_n rfl rfl ?_
      refine wi_getR rfl (kd_0 ..) (rd_0_8 _) ?_
      refine wi_iload_n rfl rfl ?_
      refine wi_iload_n rfl rfl ?_
      refine wi_callV2 rfl (by decide) (by decide) rfl (kd_60 ..) rfl rfl rfl ?_
      refine wi_aload_n rfl rfl ?_
      refine wi_iload_n rfl rfl ?_
      refine wi_putI rfl (kd_60 ..) ?_
      refine wi_aload_n rfl rfl ?_
      refine wi_iload_n rfl rfl ?_
      refine wi_putI rfl (kd_60 ..) ?_
      refine wi_aload_n rfl rfl ?_
      refine wi_callV0 rfl (by decide) (by decide) rfl (kd_60 ..) rfl rfl rfl ?_
      refine wi_aload_n rfl rfl ?_
      refine wi_iconst (x := (-1)) rfl rfl ?_
      refine wi_putI rfl (kd_60 ..) ?_
      refine wi_ret rfl ?_
      refine wi_ret rfl ?_
      refine wi_aload_n rfl rfl ?_
      refine wi_callV0 rfl (by decide) (by decide) rfl (kd_0 ..) rfl rfl rfl ?_
      refine wi_aload_n rfl rfl ?_
      refine wi_iconst (x := 0) rfl rfl ?_
      refine wi_putI rfl (kd_0 ..) ?_
      refine wi_iconst (x := 1) rfl rfl ?_
      refine wi_iret rfl (by decide) ?_
      refine wi_iret rfl (by decide) ?_
      refine hK _ _ _ _ (fun Q2 h2 => ?_)
      refine wi_aload_n rfl rfl ?_
      refine wi_iconst (x := 0) rfl rfl ?_
      refine wi_putI rfl (kd_134 ..) ?_
      refine wi_aload_n rfl rfl ?_
      refine wi_iconst (x := 0) rfl rfl ?_
      refine wi_putI rfl (kd_134 ..) ?_
      refine wi_iload_n rfl rfl ?_
      refine wi_bipush (x := 60) rfl rfl ?_
      refine wi_callS2 rfl (by decide) (by decide) rfl rfl rfl (c_isIn (wn_in (lo := 0) (hi := 60) (by omega) (by omega) (by decide)) ?_)
      refine wi_if_eq rfl (fun h9 => absurd h9 (by decide)) (fun _ => ?_)
      refine wi_iload_n rfl rfl ?_
      refine wi_bipush (x := 100) rfl rfl ?_
      refine wi_callS2 rfl (by decide) (by decide) rfl rfl rfl (c_isIn (wn_in (lo := 0) (hi := 100) (by omega) (by omega) (by decide)) ?_)
      refine wi_if_ne rfl (fun _ => ?_) (fun h9 => absurd (by decide) h9)
      refine wi_aload_n rfl rfl ?_
      refine wi_iload_n rfl rfl ?_
      refine wi_putI rfl (kd_134 ..) ?_
      refine wi_aload_n rfl rfl ?_
      refine wi_iload_n rfl rfl ?_
      refine wi_putI rfl (kd_134 ..) ?_
      refine wi_iconst (x := 1) rfl rfl ?_
      refine wi_iret rfl (by decide) ?_
      refine h2 _ _ _ ?_
      exact ⟨n, t, rfl, ⟨hn0, hn4, hn⟩, ⟨ht0, ht5, ht⟩, hT, hF, hC, hM, hP, hTp, hB, hFa, rSea_rests hS (by omega) (by omega), hMk, hfr⟩
theorem a_told {X : Nat × (Nat → Int32)} {s w : Int32} : arm X 108 152 [.ref 0, .int s, .int w] [.ref 134, .int s, .int w] := by
  intro mi ml b hR Q hK
  obtain ⟨n, t, hst, ⟨hn0, hn4, hn⟩, ⟨ht0, ht5, ht⟩, hT, hF, hC, hM, hP, hTp, hB, hFa, hS, hMk, hfr⟩ := hR
  rcases st_cases s (n := n) (by omega) with e_s | ⟨q, h_q, rfl⟩
  · refine wi_aload_n rfl rfl ?_
    refine wi_iload_n rfl rfl ?_
    refine wi_callV1 rfl (by decide) (by decide) rfl (kd_0 ..) rfl rfl rfl (c_has hn0 e_s ?_)
    refine wi_if_ne rfl (fun h9 => absurd h9 (by decide)) (fun _ => ?_)
    refine wi_aload_n rfl rfl ?_
    refine wi_iconst (x := 1) rfl rfl ?_
    refine wi_callV1 rfl (by decide) (by decide) rfl (kd_0 ..) rfl rfl rfl ?_
    refine wi_aload_n rfl rfl ?_
    refine wi_iload_n rfl rfl ?_
    refine wi_putI rfl (kd_0 ..) ?_
    refine wi_iconst (x := (-1)) rfl rfl ?_
    refine wi_iret rfl (Or.inl rfl) ?_
    refine wi_iret rfl (Or.inl rfl) ?_
    refine hK _ _ _ _ (fun Q2 h2 => ?_)
    refine wi_aload_n rfl rfl ?_
    refine wi_iconst (x := 0) rfl rfl ?_
    refine wi_putI rfl (kd_134 ..) ?_
    refine wi_aload_n rfl rfl ?_
    refine wi_iconst (x := 0) rfl rfl ?_
    refine wi_putI rfl (kd_134 ..) ?_
    refine wi_aload_n rfl rfl ?_
    refine wi_iload_n rfl rfl ?_
    refine wi_callV1 rfl (by decide) (by decide) rfl (kd_134 ..) rfl rfl rfl (c_isS hn4 e_s ?_)
    refine wi_if_ne rfl (fun h9 => absurd h9 (by decide)) (fun _ => ?_)
    refine wi_aload_n rfl rfl ?_
    refine wi_iconst (x := 1) rfl rfl ?_
    refine wi_callV1 rfl (by decide) (by decide) rfl (kd_134 ..) rfl rfl rfl ?_
    refine wi_aload_n rfl rfl ?_
    refine wi_iload_n rfl rfl ?_
    refine wi_putI rfl (kd_134 ..) ?_
    refine wi_iconst (x := (-1)) rfl rfl ?_
    refine wi_iret rfl (Or.inl rfl) ?_
    refine wi_iret rfl (Or.inl rfl) ?_
    refine h2 _ _ _ ?_
    exact ⟨n, t, rfl, ⟨hn0, hn4, hn⟩, ⟨ht0, ht5, ht⟩, hT, hF, hC, hM, hP, hTp, hB, hFa, hS, hMk, hfr⟩
  · skip
    rcases wn_cases w 0 6 (by decide) (by decide) with e_w | ⟨p, l_p, h_p, rfl⟩
    · rcases wn_zero.mp e_w with z_w | z_w
      · refine wi_aload_n rfl rfl ?_
        refine wi_iload_n rfl rfl ?_
        refine wi_callV1 rfl (by decide) (by decide) rfl (kd_0 ..) rfl rfl rfl (c_has hn0 (st_in (by omega) (by omega)) ?_)
        refine wi_if_ne rfl (fun _ => ?_) (fun h9 => absurd (by decide) h9)
        refine wi_iload_n rfl rfl ?_
        refine wi_iconst (x := 0) rfl rfl ?_
        refine wi_bipush (x := 6) rfl rfl ?_
        refine wi_callS3 rfl (by decide) (by decide) rfl rfl rfl (c_wiV e_w ?_)
        refine wi_if_ne rfl (fun h9 => absurd h9 (by decide)) (fun _ => ?_)
        refine wi_aload_n rfl rfl ?_
        refine wi_iconst (x := 2) rfl rfl ?_
        refine wi_callV1 rfl (by decide) (by decide) rfl (kd_0 ..) rfl rfl rfl ?_
        refine wi_aload_n rfl rfl ?_
        refine wi_iload_n rfl rfl ?_
        refine wi_putI rfl (kd_0 ..) ?_
        refine wi_iconst (x := (-1)) rfl rfl ?_
        refine wi_iret rfl (Or.inl rfl) ?_
        refine wi_iret rfl (Or.inl rfl) ?_
        refine hK _ _ _ _ (fun Q2 h2 => ?_)
        refine wi_aload_n rfl rfl ?_
        refine wi_iconst (x := 0) rfl rfl ?_
        refine wi_putI rfl (kd_134 ..) ?_
        refine wi_aload_n rfl rfl ?_
        refine wi_iconst (x := 0) rfl rfl ?_
        refine wi_putI rfl (kd_134 ..) ?_
        refine wi_aload_n rfl rfl ?_
        refine wi_iload_n rfl rfl ?_
        refine wi_callV1 rfl (by decide) (by decide) rfl (kd_134 ..) rfl rfl rfl (c_isS hn4 (st_in (by omega) (by omega)) ?_)
        refine wi_if_ne rfl (fun _ => ?_) (fun h9 => absurd (by decide) h9)
        refine wi_iload_n rfl rfl ?_
        refine wi_if_lt rfl (fun _ => ?_) (fun h9 => absurd z_w h9)
        refine wi_aload_n rfl rfl ?_
        refine wi_iconst (x := 2) rfl rfl ?_
        refine wi_callV1 rfl (by decide) (by decide) rfl (kd_134 ..) rfl rfl rfl ?_
        refine wi_aload_n rfl rfl ?_
        refine wi_iload_n rfl rfl ?_
        refine wi_putI rfl (kd_134 ..) ?_
        refine wi_iconst (x := (-1)) rfl rfl ?_
        refine wi_iret rfl (Or.inl rfl) ?_
        refine wi_iret rfl (Or.inl rfl) ?_
        refine h2 _ _ _ ?_
        exact ⟨n, t, rfl, ⟨hn0, hn4, hn⟩, ⟨ht0, ht5, ht⟩, hT, hF, hC, hM, hP, hTp, hB, hFa, hS, hMk, hfr⟩
      · refine wi_aload_n rfl rfl ?_
        refine wi_iload_n rfl rfl ?_
        refine wi_callV1 rfl (by decide) (by decide) rfl (kd_0 ..) rfl rfl rfl (c_has hn0 (st_in (by omega) (by omega)) ?_)
        refine wi_if_ne rfl (fun _ => ?_) (fun h9 => absurd (by decide) h9)
        refine wi_iload_n rfl rfl ?_
        refine wi_iconst (x := 0) rfl rfl ?_
        refine wi_bipush (x := 6) rfl rfl ?_
        refine wi_callS3 rfl (by decide) (by decide) rfl rfl rfl (c_wiV e_w ?_)
        refine wi_if_ne rfl (fun h9 => absurd h9 (by decide)) (fun _ => ?_)
        refine wi_aload_n rfl rfl ?_
        refine wi_iconst (x := 2) rfl rfl ?_
        refine wi_callV1 rfl (by decide) (by decide) rfl (kd_0 ..) rfl rfl rfl ?_
        refine wi_aload_n rfl rfl ?_
        refine wi_iload_n rfl rfl ?_
        refine wi_putI rfl (kd_0 ..) ?_
        refine wi_iconst (x := (-1)) rfl rfl ?_
        refine wi_iret rfl (Or.inl rfl) ?_
        refine wi_iret rfl (Or.inl rfl) ?_
        refine hK _ _ _ _ (fun Q2 h2 => ?_)
        refine wi_aload_n rfl rfl ?_
        refine wi_iconst (x := 0) rfl rfl ?_
        refine wi_putI rfl (kd_134 ..) ?_
        refine wi_aload_n rfl rfl ?_
        refine wi_iconst (x := 0) rfl rfl ?_
        refine wi_putI rfl (kd_134 ..) ?_
        refine wi_aload_n rfl rfl ?_
        refine wi_iload_n rfl rfl ?_
        refine wi_callV1 rfl (by decide) (by decide) rfl (kd_134 ..) rfl rfl rfl (c_isS hn4 (st_in (by omega) (by omega)) ?_)
        refine wi_if_ne rfl (fun _ => ?_) (fun h9 => absurd (by decide) h9)
        refine wi_iload_n rfl rfl ?_
        refine wi_if_lt rfl (fun h9 => absurd (Int32.lt_trans z_w h9) (by decide)) (fun _ => ?_)
        refine wi_iload_n rfl rfl ?_
        refine wi_bipush (x := 6) rfl rfl ?_
        refine wi_icmp_le rfl (fun h9 => absurd z_w (Int32.not_lt.mpr h9)) (fun _ => ?_)
        refine wi_aload_n rfl rfl ?_
        refine wi_iconst (x := 2) rfl rfl ?_
        refine wi_callV1 rfl (by decide) (by decide) rfl (kd_134 ..) rfl rfl rfl ?_
        refine wi_aload_n rfl rfl ?_
        refine wi_iload_n rfl rfl ?_
        refine wi_putI rfl (kd_134 ..) ?_
        refine wi_iconst (x := (-1)) rfl rfl ?_
        refine wi_iret rfl (Or.inl rfl) ?_
        refine wi_iret rfl (Or.inl rfl) ?_
        refine h2 _ _ _ ?_
        exact ⟨n, t, rfl, ⟨hn0, hn4, hn⟩, ⟨ht0, ht5, ht⟩, hT, hF, hC, hM, hP, hTp, hB, hFa, hS, hMk, hfr⟩
    · skip
      refine wi_aload_n rfl rfl ?_
      refine wi_iload_n rfl rfl ?_
      refine wi_callV1 rfl (by decide) (by decide) rfl (kd_0 ..) rfl rfl rfl (c_has hn0 (st_in (by omega) (by omega)) ?_)
      refine wi_if_ne rfl (fun _ => ?_) (fun h9 => absurd (by decide) h9)
      refine wi_iload_n rfl rfl ?_
      refine wi_iconst (x := 0) rfl rfl ?_
      refine wi_bipush (x := 6) rfl rfl ?_
      refine wi_callS3 rfl (by decide) (by decide) rfl rfl rfl (c_wiV (wn_in (lo := 0) (hi := 6) (by omega) (by omega) (by decide)) ?_)
      refine wi_if_ne rfl (fun _ => ?_) (fun h9 => absurd (by decide) h9)
      refine wi_aload_n rfl rfl ?_
      refine wi_aload_n rfl rfl ?_
      refine wi_getR rfl (kd_0 ..) (rd_0_0 _) ?_
      refine wi_iload_n rfl rfl ?_
      refine wn_aaload (q := q) rfl (Or.inl (ln_1 ..)) rfl (by omega) (by decide) (ra_1 _ _ (by omega)) ?_
      refine wi_iload_n rfl rfl ?_
      refine wi_callV1 rfl (by decide) (by decide) rfl (kr_1 (by omega) ..) rfl rfl rfl (c_valueOf (kr_1 (by omega) ..) ?_)
      refine wi_callV1 rfl (by decide) (by decide) rfl (kd_0 ..) rfl rfl rfl ?_
      refine wi_aload_n rfl rfl ?_
      refine wi_iconst (x := 0) rfl rfl ?_
      refine wi_putI rfl (kd_0 ..) ?_
      refine wi_iload_n rfl rfl ?_
      refine wi_iret rfl (Or.inl rfl) ?_
      refine wi_iret rfl (Or.inl rfl) ?_
      refine hK _ _ _ _ (fun Q2 h2 => ?_)
      refine wi_aload_n rfl rfl ?_
      refine wi_iconst (x := 0) rfl rfl ?_
      refine wi_putI rfl (kd_134 ..) ?_
      refine wi_aload_n rfl rfl ?_
      refine wi_iconst (x := 0) rfl rfl ?_
      refine wi_putI rfl (kd_134 ..) ?_
      refine wi_aload_n rfl rfl ?_
      refine wi_iload_n rfl rfl ?_
      refine wi_callV1 rfl (by decide) (by decide) rfl (kd_134 ..) rfl rfl rfl (c_isS hn4 (st_in (by omega) (by omega)) ?_)
      refine wi_if_ne rfl (fun _ => ?_) (fun h9 => absurd (by decide) h9)
      refine wi_iload_n rfl rfl ?_
      refine wi_if_lt rfl (fun h9 => absurd trivial (by exfalso; have h8 := (lt_n (a := p) (b := 0) rfl (rfl : (0 : Int32) = Int32.ofNat 0) (by omega) (by omega)).mp h9; omega)) (fun _ => ?_)
      refine wi_iload_n rfl rfl ?_
      refine wi_bipush (x := 6) rfl rfl ?_
      refine wi_icmp_le rfl (fun _ => ?_) (fun h9 => absurd trivial (by exfalso; have h8 := (not_congr (le_n (a := p) (b := 6) rfl (rfl : (6 : Int32) = Int32.ofNat 6) (by omega) (by omega))).mp h9; omega))
      refine wi_aload_n rfl rfl ?_
      refine wi_iload_n rfl rfl ?_
      refine wi_callV1 rfl (by decide) (by decide) rfl (kd_134 ..) rfl rfl rfl (c_begin (by omega) ?_)
      refine wi_iload_n rfl rfl ?_
      refine wi_bipush (x := 6) rfl rfl ?_
      refine wi_icmp_ne rfl (fun g51 => ?_) (fun g51 => ?_)
      · replace g51 := (ne_n (a := p) (b := 6) rfl (rfl : (6 : Int32) = Int32.ofNat 6) (by omega) (by omega)).mp g51
        refine wi_aload_n rfl rfl ?_
        refine wi_getR rfl (kd_134 ..) (rd_134_13 _) ?_
        refine wi_iload_n rfl rfl ?_
        refine wn_iaload (q := p) (v := (mi 135 (6 * q + p))) rfl (ln_142 ..) rfl (by omega) (by decide) (by decide) (by decide) (upT_now (S := mi 135) (by omega)) ?_
        refine wi_iret rfl (Or.inl rfl) ?_
        have e9 : valF (mi (126 + q)) (Int32.ofNat p) = mi 135 (6 * q + p) := by
          rw [valF_lt (by omega)]
          exact tR_at (rTurf_at hT (q := q) (by omega) hn).1 (by omega)
        rw [e9] at h2
        refine h2 _ _ _ ?_
        exact ⟨n, t, rfl, ⟨hn0, hn4, hn⟩, ⟨ht0, ht5, ht⟩, hT, hF, hC, hM, hP, hTp, hB, hFa, hS, hMk, hfr⟩
      · replace g51 := (not_congr (ne_n (a := p) (b := 6) rfl (rfl : (6 : Int32) = Int32.ofNat 6) (by omega) (by omega))).mp g51
        refine wi_aload_n rfl rfl ?_
        refine wi_callV0 rfl (by decide) (by decide) rfl (kd_134 ..) rfl rfl rfl (c_mbounce ?_)
        refine wi_goto rfl ?_
        refine wi_iret rfl (Or.inl rfl) ?_
        have e9 : valF (mi (126 + q)) (Int32.ofNat p) = bncF (mi 135 (6 * q + 0)) (mi 135 (6 * q + 3)) (mi 135 (6 * q + 4)) (mi 135 (6 * q + 5)) := by
          have hq9 := (rTurf_at hT (q := q) (by omega) hn).1
          have e8 : p = 6 := by omega
          subst e8
          show bncF _ _ _ _ = _
          rw [hq9.1, hq9.2.2.2.1, hq9.2.2.2.2.1, hq9.2.2.2.2.2.1]
        rw [e9] at h2
        refine h2 _ _ _ ?_
        exact ⟨n, t, rfl, ⟨hn0, hn4, hn⟩, ⟨ht0, ht5, ht⟩, hT, hF, hC, hM, hP, hTp, hB, hFa, hS, hMk, hfr⟩
theorem a_weather {X : Nat × (Nat → Int32)} {dy r u c : Int32} : arm X 109 156 [.ref 0, .int dy, .int r, .int u, .int c, .retAddr 0] [.ref 134, .int dy, .int r, .int u, .int c] := by
  intro mi ml b hR Q hK
  obtain ⟨n, t, hst, ⟨hn0, hn4, hn⟩, ⟨ht0, ht5, ht⟩, hT, hF, hC, hM, hP, hTp, hB, hFa, hS, hMk, hfr⟩ := hR
  rcases wn_cases dy 0 999 (by decide) (by decide) with e_dy | ⟨dd, l_dd, h_dd, rfl⟩
  · refine wi_iload_n rfl rfl ?_
    refine wi_callS1 rfl (by decide) (by decide) rfl rfl rfl (c_xday e_dy ?_)
    refine wi_if_eq rfl (fun _ => ?_) (fun h9 => absurd (by decide) h9)
    refine wi_aload_n rfl rfl ?_
    refine wi_iconst (x := 2) rfl rfl ?_
    refine wi_callV1 rfl (by decide) (by decide) rfl (kd_0 ..) rfl rfl rfl ?_
    refine wi_aload_n rfl rfl ?_
    refine wi_iload_n rfl rfl ?_
    refine wi_putI rfl (kd_0 ..) ?_
    refine wi_iconst (x := 0) rfl rfl ?_
    refine wi_iret rfl (by decide) ?_
    refine wi_iret rfl (by decide) ?_
    refine hK _ _ _ _ (fun Q2 h2 => ?_)
    refine wi_aload_n rfl rfl ?_
    refine wi_iconst (x := 0) rfl rfl ?_
    refine wi_putI rfl (kd_134 ..) ?_
    refine wi_aload_n rfl rfl ?_
    refine wi_iconst (x := 0) rfl rfl ?_
    refine wi_putI rfl (kd_134 ..) ?_
    refine wi_iload_n rfl rfl ?_
    refine wi_callS1 rfl (by decide) (by decide) rfl rfl rfl (c_mday e_dy ?_)
    refine wi_if_eq rfl (fun _ => ?_) (fun h9 => absurd (by decide) h9)
    refine wi_aload_n rfl rfl ?_
    refine wi_iconst (x := 2) rfl rfl ?_
    refine wi_callV1 rfl (by decide) (by decide) rfl (kd_134 ..) rfl rfl rfl ?_
    refine wi_aload_n rfl rfl ?_
    refine wi_iload_n rfl rfl ?_
    refine wi_putI rfl (kd_134 ..) ?_
    refine wi_iconst (x := 0) rfl rfl ?_
    refine wi_iret rfl (by decide) ?_
    refine wi_iret rfl (by decide) ?_
    refine h2 _ _ _ ?_
    exact ⟨n, t, rfl, ⟨hn0, hn4, hn⟩, ⟨ht0, ht5, ht⟩, hT, hF, hC, hM, hP, hTp, hB, hFa, hS, hMk, hfr⟩
  · skip
    rcases wn_cases r 0 100 (by decide) (by decide) with e_r | ⟨x, l_x, h_x, rfl⟩
    · refine wi_iload_n rfl rfl ?_
      refine wi_callS1 rfl (by decide) (by decide) rfl rfl rfl (c_xday (wn_in (lo := 0) (hi := 999) (by omega) (by omega) (by decide)) ?_)
      refine wi_if_eq rfl (fun h9 => absurd h9 (by decide)) (fun _ => ?_)
      refine wi_iload_n rfl rfl ?_
      refine wi_iconst (x := 0) rfl rfl ?_
      refine wi_bipush (x := 100) rfl rfl ?_
      refine wi_callS3 rfl (by decide) (by decide) rfl rfl rfl (c_wiV e_r ?_)
      refine wi_if_eq rfl (fun _ => ?_) (fun h9 => absurd (by decide) h9)
      refine wi_aload_n rfl rfl ?_
      refine wi_iconst (x := 2) rfl rfl ?_
      refine wi_callV1 rfl (by decide) (by decide) rfl (kd_0 ..) rfl rfl rfl ?_
      refine wi_aload_n rfl rfl ?_
      refine wi_iload_n rfl rfl ?_
      refine wi_putI rfl (kd_0 ..) ?_
      refine wi_iconst (x := 0) rfl rfl ?_
      refine wi_iret rfl (by decide) ?_
      refine wi_iret rfl (by decide) ?_
      refine hK _ _ _ _ (fun Q2 h2 => ?_)
      refine wi_aload_n rfl rfl ?_
      refine wi_iconst (x := 0) rfl rfl ?_
      refine wi_putI rfl (kd_134 ..) ?_
      refine wi_aload_n rfl rfl ?_
      refine wi_iconst (x := 0) rfl rfl ?_
      refine wi_putI rfl (kd_134 ..) ?_
      refine wi_iload_n rfl rfl ?_
      refine wi_callS1 rfl (by decide) (by decide) rfl rfl rfl (c_mday (wn_in (lo := 0) (hi := 999) (by omega) (by omega) (by decide)) ?_)
      refine wi_if_eq rfl (fun h9 => absurd h9 (by decide)) (fun _ => ?_)
      refine wi_iload_n rfl rfl ?_
      refine wi_bipush (x := 100) rfl rfl ?_
      refine wi_callS2 rfl (by decide) (by decide) rfl rfl rfl (c_isIn e_r ?_)
      refine wi_if_eq rfl (fun _ => ?_) (fun h9 => absurd (by decide) h9)
      refine wi_aload_n rfl rfl ?_
      refine wi_iconst (x := 2) rfl rfl ?_
      refine wi_callV1 rfl (by decide) (by decide) rfl (kd_134 ..) rfl rfl rfl ?_
      refine wi_aload_n rfl rfl ?_
      refine wi_iload_n rfl rfl ?_
      refine wi_putI rfl (kd_134 ..) ?_
      refine wi_iconst (x := 0) rfl rfl ?_
      refine wi_iret rfl (by decide) ?_
      refine wi_iret rfl (by decide) ?_
      refine h2 _ _ _ ?_
      exact ⟨n, t, rfl, ⟨hn0, hn4, hn⟩, ⟨ht0, ht5, ht⟩, hT, hF, hC, hM, hP, hTp, hB, hFa, hS, hMk, hfr⟩
    · skip
      rcases wn_cases u 0 20 (by decide) (by decide) with e_u | ⟨y, l_y, h_y, rfl⟩
      · refine wi_iload_n rfl rfl ?_
        refine wi_callS1 rfl (by decide) (by decide) rfl rfl rfl (c_xday (wn_in (lo := 0) (hi := 999) (by omega) (by omega) (by decide)) ?_)
        refine wi_if_eq rfl (fun h9 => absurd h9 (by decide)) (fun _ => ?_)
        refine wi_iload_n rfl rfl ?_
        refine wi_iconst (x := 0) rfl rfl ?_
        refine wi_bipush (x := 100) rfl rfl ?_
        refine wi_callS3 rfl (by decide) (by decide) rfl rfl rfl (c_wiV (wn_in (lo := 0) (hi := 100) (by omega) (by omega) (by decide)) ?_)
        refine wi_if_eq rfl (fun h9 => absurd h9 (by decide)) (fun _ => ?_)
        refine wi_iload_n rfl rfl ?_
        refine wi_iconst (x := 0) rfl rfl ?_
        refine wi_bipush (x := 20) rfl rfl ?_
        refine wi_callS3 rfl (by decide) (by decide) rfl rfl rfl (c_wiV e_u ?_)
        refine wi_if_ne rfl (fun h9 => absurd h9 (by decide)) (fun _ => ?_)
        refine wi_aload_n rfl rfl ?_
        refine wi_iconst (x := 2) rfl rfl ?_
        refine wi_callV1 rfl (by decide) (by decide) rfl (kd_0 ..) rfl rfl rfl ?_
        refine wi_aload_n rfl rfl ?_
        refine wi_iload_n rfl rfl ?_
        refine wi_putI rfl (kd_0 ..) ?_
        refine wi_iconst (x := 0) rfl rfl ?_
        refine wi_iret rfl (by decide) ?_
        refine wi_iret rfl (by decide) ?_
        refine hK _ _ _ _ (fun Q2 h2 => ?_)
        refine wi_aload_n rfl rfl ?_
        refine wi_iconst (x := 0) rfl rfl ?_
        refine wi_putI rfl (kd_134 ..) ?_
        refine wi_aload_n rfl rfl ?_
        refine wi_iconst (x := 0) rfl rfl ?_
        refine wi_putI rfl (kd_134 ..) ?_
        refine wi_iload_n rfl rfl ?_
        refine wi_callS1 rfl (by decide) (by decide) rfl rfl rfl (c_mday (wn_in (lo := 0) (hi := 999) (by omega) (by omega) (by decide)) ?_)
        refine wi_if_eq rfl (fun h9 => absurd h9 (by decide)) (fun _ => ?_)
        refine wi_iload_n rfl rfl ?_
        refine wi_bipush (x := 100) rfl rfl ?_
        refine wi_callS2 rfl (by decide) (by decide) rfl rfl rfl (c_isIn (wn_in (lo := 0) (hi := 100) (by omega) (by omega) (by decide)) ?_)
        refine wi_if_eq rfl (fun h9 => absurd h9 (by decide)) (fun _ => ?_)
        refine wi_iload_n rfl rfl ?_
        refine wi_bipush (x := 20) rfl rfl ?_
        refine wi_callS2 rfl (by decide) (by decide) rfl rfl rfl (c_isIn e_u ?_)
        refine wi_if_ne rfl (fun h9 => absurd h9 (by decide)) (fun _ => ?_)
        refine wi_aload_n rfl rfl ?_
        refine wi_iconst (x := 2) rfl rfl ?_
        refine wi_callV1 rfl (by decide) (by decide) rfl (kd_134 ..) rfl rfl rfl ?_
        refine wi_aload_n rfl rfl ?_
        refine wi_iload_n rfl rfl ?_
        refine wi_putI rfl (kd_134 ..) ?_
        refine wi_iconst (x := 0) rfl rfl ?_
        refine wi_iret rfl (by decide) ?_
        refine wi_iret rfl (by decide) ?_
        refine h2 _ _ _ ?_
        exact ⟨n, t, rfl, ⟨hn0, hn4, hn⟩, ⟨ht0, ht5, ht⟩, hT, hF, hC, hM, hP, hTp, hB, hFa, hS, hMk, hfr⟩
      · skip
        refine wi_iload_n rfl rfl ?_
        refine wi_callS1 rfl (by decide) (by decide) rfl rfl rfl (c_xday (wn_in (lo := 0) (hi := 999) (by omega) (by omega) (by decide)) ?_)
        refine wi_if_eq rfl (fun h9 => absurd h9 (by decide)) (fun _ => ?_)
        refine wi_iload_n rfl rfl ?_
        refine wi_iconst (x := 0) rfl rfl ?_
        refine wi_bipush (x := 100) rfl rfl ?_
        refine wi_callS3 rfl (by decide) (by decide) rfl rfl rfl (c_wiV (wn_in (lo := 0) (hi := 100) (by omega) (by omega) (by decide)) ?_)
        refine wi_if_eq rfl (fun h9 => absurd h9 (by decide)) (fun _ => ?_)
        refine wi_iload_n rfl rfl ?_
        refine wi_iconst (x := 0) rfl rfl ?_
        refine wi_bipush (x := 20) rfl rfl ?_
        refine wi_callS3 rfl (by decide) (by decide) rfl rfl rfl (c_wiV (wn_in (lo := 0) (hi := 20) (by omega) (by omega) (by decide)) ?_)
        refine wi_if_ne rfl (fun _ => ?_) (fun h9 => absurd (by decide) h9)
        refine wi_iload_n rfl rfl ?_
        refine wi_aload_n rfl rfl ?_
        refine wi_getIv (v := (Int32.ofNat (t))) rfl (kd_0 ..) ht0 ?_
        refine wi_icmp_ge rfl (fun g1 => ?_) (fun g1 => ?_)
        · replace g1 := (le_n (a := t) (b := dd) rfl rfl (by omega) (by omega)).mp g1
          refine wi_iload rfl rfl ?_
          refine wi_if_eq rfl (fun g2 => ?_) (fun g2 => ?_)
          · skip
            refine wi_aload_n rfl rfl ?_
            refine wi_getR rfl (kd_0 ..) (rd_0_2 _) ?_
            refine wi_astore rfl (Nat.le_of_ble_eq_true rfl) rfl rfl ?_
            refine wi_aload rfl rfl ?_
            refine wi_iload_n rfl rfl ?_
            refine wi_iload_n rfl rfl ?_
            refine wi_iload_n rfl rfl ?_
            refine wi_callV3 rfl (by decide) (by decide) rfl (kd_3 ..) rfl rfl rfl ?_
            refine wi_iload_n rfl rfl ?_
            refine wi_callS1 rfl (by decide) (by decide) rfl rfl rfl (c_xday (wn_in (lo := 0) (hi := 999) (by omega) (by omega) (by decide)) ?_)
            refine wi_if_eq rfl (fun h9 => absurd h9 (by decide)) (fun _ => ?_)
            refine wi_aload_n rfl rfl ?_
            refine wi_getR rfl (kd_3 ..) (rd_3_0 _) ?_
            refine wi_iload_n rfl rfl ?_
            refine wi_iload_n rfl rfl ?_
            refine wn_iastore (q := dd) rfl (ln_4 ..) rfl (by omega) (by decide) ?_
            refine wi_aload_n rfl rfl ?_
            refine wi_getR rfl (kd_3 ..) (rd_3_1 _) ?_
            refine wi_iload_n rfl rfl ?_
            refine wi_iload_n rfl rfl ?_
            refine wn_iastore (q := dd) rfl (ln_5 ..) rfl (by omega) (by decide) ?_
            refine wi_ret rfl ?_
            refine wi_aload_n rfl rfl ?_
            refine wi_callV0 rfl (by decide) (by decide) rfl (kd_0 ..) rfl rfl rfl ?_
            refine wi_aload_n rfl rfl ?_
            refine wi_iconst (x := 0) rfl rfl ?_
            refine wi_putI rfl (kd_0 ..) ?_
            refine wi_iconst (x := 1) rfl rfl ?_
            refine wi_iret rfl (by decide) ?_
            refine wi_iret rfl (by decide) ?_
            refine hK _ _ _ _ (fun Q2 h2 => ?_)
            refine wi_aload_n rfl rfl ?_
            refine wi_iconst (x := 0) rfl rfl ?_
            refine wi_putI rfl (kd_134 ..) ?_
            refine wi_aload_n rfl rfl ?_
            refine wi_iconst (x := 0) rfl rfl ?_
            refine wi_putI rfl (kd_134 ..) ?_
            refine wi_iload_n rfl rfl ?_
            refine wi_callS1 rfl (by decide) (by decide) rfl rfl rfl (c_mday (wn_in (lo := 0) (hi := 999) (by omega) (by omega) (by decide)) ?_)
            refine wi_if_eq rfl (fun h9 => absurd h9 (by decide)) (fun _ => ?_)
            refine wi_iload_n rfl rfl ?_
            refine wi_bipush (x := 100) rfl rfl ?_
            refine wi_callS2 rfl (by decide) (by decide) rfl rfl rfl (c_isIn (wn_in (lo := 0) (hi := 100) (by omega) (by omega) (by decide)) ?_)
            refine wi_if_eq rfl (fun h9 => absurd h9 (by decide)) (fun _ => ?_)
            refine wi_iload_n rfl rfl ?_
            refine wi_bipush (x := 20) rfl rfl ?_
            refine wi_callS2 rfl (by decide) (by decide) rfl rfl rfl (c_isIn (wn_in (lo := 0) (hi := 20) (by omega) (by omega) (by decide)) ?_)
            refine wi_if_ne rfl (fun _ => ?_) (fun h9 => absurd (by decide) h9)
            refine wi_iload_n rfl rfl ?_
            refine wi_aload_n rfl rfl ?_
            refine wi_getIv (v := (Int32.ofNat (t))) rfl (kd_134 ..) ht5 ?_
            refine wi_icmp_ge rfl (fun _ => ?_) (fun h9 => absurd trivial (by exfalso; have h8 := (not_congr (le_n (a := t) (b := dd) rfl rfl (by omega) (by omega))).mp h9; omega))
            refine wi_iload rfl rfl ?_
            refine wi_if_eq rfl (fun _ => ?_) (fun h9 => absurd g2 h9)
            refine wi_aload_n rfl rfl ?_
            refine wi_getR rfl (kd_134 ..) (rd_134_9 _) ?_
            refine wi_iload_n rfl rfl ?_
            refine wi_iload_n rfl rfl ?_
            refine wn_iastore (q := dd) rfl (ln_138 ..) rfl (by omega) (by decide) ?_
            refine wi_aload_n rfl rfl ?_
            refine wi_getR rfl (kd_134 ..) (rd_134_10 _) ?_
            refine wi_iload_n rfl rfl ?_
            refine wi_iload_n rfl rfl ?_
            refine wn_iastore (q := dd) rfl (ln_139 ..) rfl (by omega) (by decide) ?_
            refine wi_iconst (x := 1) rfl rfl ?_
            refine wi_iret rfl (by decide) ?_
            refine h2 _ _ _ ?_
            exact ⟨n, t, rfl, ⟨hn0, hn4, hn⟩, ⟨ht0, ht5, ht⟩, hT, rWea_upd hF (by omega) (by omega), hC, hM, hP, hTp, hB, hFa, hS, hMk, hfr⟩
          · skip
            refine wi_aload_n rfl rfl ?_
            refine wi_getR rfl (kd_0 ..) (rd_0_3 _) ?_
            refine wi_goto rfl ?_
            refine wi_astore rfl (Nat.le_of_ble_eq_true rfl) rfl rfl ?_
            refine wi_aload rfl rfl ?_
            refine wi_iload_n rfl rfl ?_
            refine wi_iload_n rfl rfl ?_
            refine wi_iload_n rfl rfl ?_
            refine wi_callV3 rfl (by decide) (by decide) rfl (kd_6 ..) rfl rfl rfl ?_
            refine wi_iload_n rfl rfl ?_
            refine wi_callS1 rfl (by decide) (by decide) rfl rfl rfl (c_xday (wn_in (lo := 0) (hi := 999) (by omega) (by omega) (by decide)) ?_)
            refine wi_if_eq rfl (fun h9 => absurd h9 (by decide)) (fun _ => ?_)
            refine wi_aload_n rfl rfl ?_
            refine wi_getR rfl (kd_6 ..) (rd_6_0 _) ?_
            refine wi_iload_n rfl rfl ?_
            refine wi_iload_n rfl rfl ?_
            refine wn_iastore (q := dd) rfl (ln_7 ..) rfl (by omega) (by decide) ?_
            refine wi_aload_n rfl rfl ?_
            refine wi_getR rfl (kd_6 ..) (rd_6_1 _) ?_
            refine wi_iload_n rfl rfl ?_
            refine wi_iload_n rfl rfl ?_
            refine wn_iastore (q := dd) rfl (ln_8 ..) rfl (by omega) (by decide) ?_
            refine wi_ret rfl ?_
            refine wi_aload_n rfl rfl ?_
            refine wi_callV0 rfl (by decide) (by decide) rfl (kd_0 ..) rfl rfl rfl ?_
            refine wi_aload_n rfl rfl ?_
            refine wi_iconst (x := 0) rfl rfl ?_
            refine wi_putI rfl (kd_0 ..) ?_
            refine wi_iconst (x := 1) rfl rfl ?_
            refine wi_iret rfl (by decide) ?_
            refine wi_iret rfl (by decide) ?_
            refine hK _ _ _ _ (fun Q2 h2 => ?_)
            refine wi_aload_n rfl rfl ?_
            refine wi_iconst (x := 0) rfl rfl ?_
            refine wi_putI rfl (kd_134 ..) ?_
            refine wi_aload_n rfl rfl ?_
            refine wi_iconst (x := 0) rfl rfl ?_
            refine wi_putI rfl (kd_134 ..) ?_
            refine wi_iload_n rfl rfl ?_
            refine wi_callS1 rfl (by decide) (by decide) rfl rfl rfl (c_mday (wn_in (lo := 0) (hi := 999) (by omega) (by omega) (by decide)) ?_)
            refine wi_if_eq rfl (fun h9 => absurd h9 (by decide)) (fun _ => ?_)
            refine wi_iload_n rfl rfl ?_
            refine wi_bipush (x := 100) rfl rfl ?_
            refine wi_callS2 rfl (by decide) (by decide) rfl rfl rfl (c_isIn (wn_in (lo := 0) (hi := 100) (by omega) (by omega) (by decide)) ?_)
            refine wi_if_eq rfl (fun h9 => absurd h9 (by decide)) (fun _ => ?_)
            refine wi_iload_n rfl rfl ?_
            refine wi_bipush (x := 20) rfl rfl ?_
            refine wi_callS2 rfl (by decide) (by decide) rfl rfl rfl (c_isIn (wn_in (lo := 0) (hi := 20) (by omega) (by omega) (by decide)) ?_)
            refine wi_if_ne rfl (fun _ => ?_) (fun h9 => absurd (by decide) h9)
            refine wi_iload_n rfl rfl ?_
            refine wi_aload_n rfl rfl ?_
            refine wi_getIv (v := (Int32.ofNat (t))) rfl (kd_134 ..) ht5 ?_
            refine wi_icmp_ge rfl (fun _ => ?_) (fun h9 => absurd trivial (by exfalso; have h8 := (not_congr (le_n (a := t) (b := dd) rfl rfl (by omega) (by omega))).mp h9; omega))
            refine wi_iload rfl rfl ?_
            refine wi_if_eq rfl (fun h9 => absurd h9 g2) (fun _ => ?_)
            refine wi_aload_n rfl rfl ?_
            refine wi_getR rfl (kd_134 ..) (rd_134_11 _) ?_
            refine wi_iload_n rfl rfl ?_
            refine wi_iload_n rfl rfl ?_
            refine wn_iastore (q := dd) rfl (ln_140 ..) rfl (by omega) (by decide) ?_
            refine wi_aload_n rfl rfl ?_
            refine wi_getR rfl (kd_134 ..) (rd_134_12 _) ?_
            refine wi_iload_n rfl rfl ?_
            refine wi_iload_n rfl rfl ?_
            refine wn_iastore (q := dd) rfl (ln_141 ..) rfl (by omega) (by decide) ?_
            refine wi_goto rfl ?_
            refine wi_iconst (x := 1) rfl rfl ?_
            refine wi_iret rfl (by decide) ?_
            refine h2 _ _ _ ?_
            exact ⟨n, t, rfl, ⟨hn0, hn4, hn⟩, ⟨ht0, ht5, ht⟩, hT, hF, rWea_upd hC (by omega) (by omega), hM, hP, hTp, hB, hFa, hS, hMk, hfr⟩
        · replace g1 := (not_congr (le_n (a := t) (b := dd) rfl rfl (by omega) (by omega))).mp g1
          refine wi_aload_n rfl rfl ?_
          refine wi_iconst (x := 4) rfl rfl ?_
          refine wi_callV1 rfl (by decide) (by decide) rfl (kd_0 ..) rfl rfl rfl ?_
          refine wi_aload_n rfl rfl ?_
          refine wi_iload_n rfl rfl ?_
          refine wi_putI rfl (kd_0 ..) ?_
          refine wi_iconst (x := 0) rfl rfl ?_
          refine wi_iret rfl (by decide) ?_
          refine wi_iret rfl (by decide) ?_
          refine hK _ _ _ _ (fun Q2 h2 => ?_)
          refine wi_aload_n rfl rfl ?_
          refine wi_iconst (x := 0) rfl rfl ?_
          refine wi_putI rfl (kd_134 ..) ?_
          refine wi_aload_n rfl rfl ?_
          refine wi_iconst (x := 0) rfl rfl ?_
          refine wi_putI rfl (kd_134 ..) ?_
          refine wi_iload_n rfl rfl ?_
          refine wi_callS1 rfl (by decide) (by decide) rfl rfl rfl (c_mday (wn_in (lo := 0) (hi := 999) (by omega) (by omega) (by decide)) ?_)
          refine wi_if_eq rfl (fun h9 => absurd h9 (by decide)) (fun _ => ?_)
          refine wi_iload_n rfl rfl ?_
          refine wi_bipush (x := 100) rfl rfl ?_
          refine wi_callS2 rfl (by decide) (by decide) rfl rfl rfl (c_isIn (wn_in (lo := 0) (hi := 100) (by omega) (by omega) (by decide)) ?_)
          refine wi_if_eq rfl (fun h9 => absurd h9 (by decide)) (fun _ => ?_)
          refine wi_iload_n rfl rfl ?_
          refine wi_bipush (x := 20) rfl rfl ?_
          refine wi_callS2 rfl (by decide) (by decide) rfl rfl rfl (c_isIn (wn_in (lo := 0) (hi := 20) (by omega) (by omega) (by decide)) ?_)
          refine wi_if_ne rfl (fun _ => ?_) (fun h9 => absurd (by decide) h9)
          refine wi_iload_n rfl rfl ?_
          refine wi_aload_n rfl rfl ?_
          refine wi_getIv (v := (Int32.ofNat (t))) rfl (kd_134 ..) ht5 ?_
          refine wi_icmp_ge rfl (fun h9 => absurd trivial (by exfalso; have h8 := (le_n (a := t) (b := dd) rfl rfl (by omega) (by omega)).mp h9; omega)) (fun _ => ?_)
          refine wi_aload_n rfl rfl ?_
          refine wi_iconst (x := 4) rfl rfl ?_
          refine wi_callV1 rfl (by decide) (by decide) rfl (kd_134 ..) rfl rfl rfl ?_
          refine wi_aload_n rfl rfl ?_
          refine wi_iload_n rfl rfl ?_
          refine wi_putI rfl (kd_134 ..) ?_
          refine wi_iconst (x := 0) rfl rfl ?_
          refine wi_iret rfl (by decide) ?_
          refine wi_iret rfl (by decide) ?_
          refine h2 _ _ _ ?_
          exact ⟨n, t, rfl, ⟨hn0, hn4, hn⟩, ⟨ht0, ht5, ht⟩, hT, hF, hC, hM, hP, hTp, hB, hFa, hS, hMk, hfr⟩
theorem a_measure {X : Nat × (Nat → Int32)} {s dy v : Int32} : arm X 114 161 [.ref 0, .int s, .int dy, .int v] [.ref 134, .int s, .int dy, .int v] := by
  intro mi ml b hR Q hK
  obtain ⟨n, t, hst, ⟨hn0, hn4, hn⟩, ⟨ht0, ht5, ht⟩, hT, hF, hC, hM, hP, hTp, hB, hFa, hS, hMk, hfr⟩ := hR
  rcases st_cases s (n := n) (by omega) with e_s | ⟨q, h_q, rfl⟩
  · refine wi_aload_n rfl rfl ?_
    refine wi_iload_n rfl rfl ?_
    refine wi_callV1 rfl (by decide) (by decide) rfl (kd_0 ..) rfl rfl rfl (c_has hn0 e_s ?_)
    refine wi_if_ne rfl (fun h9 => absurd h9 (by decide)) (fun _ => ?_)
    refine wi_aload_n rfl rfl ?_
    refine wi_iconst (x := 1) rfl rfl ?_
    refine wi_callV1 rfl (by decide) (by decide) rfl (kd_0 ..) rfl rfl rfl ?_
    refine wi_aload_n rfl rfl ?_
    refine wi_iload_n rfl rfl ?_
    refine wi_putI rfl (kd_0 ..) ?_
    refine wi_iconst (x := 0) rfl rfl ?_
    refine wi_iret rfl (by decide) ?_
    refine wi_iret rfl (by decide) ?_
    refine hK _ _ _ _ (fun Q2 h2 => ?_)
    refine wi_aload_n rfl rfl ?_
    refine wi_iconst (x := 0) rfl rfl ?_
    refine wi_putI rfl (kd_134 ..) ?_
    refine wi_aload_n rfl rfl ?_
    refine wi_iconst (x := 0) rfl rfl ?_
    refine wi_putI rfl (kd_134 ..) ?_
    refine wi_aload_n rfl rfl ?_
    refine wi_iload_n rfl rfl ?_
    refine wi_callV1 rfl (by decide) (by decide) rfl (kd_134 ..) rfl rfl rfl (c_isS hn4 e_s ?_)
    refine wi_if_ne rfl (fun h9 => absurd h9 (by decide)) (fun _ => ?_)
    refine wi_aload_n rfl rfl ?_
    refine wi_iconst (x := 1) rfl rfl ?_
    refine wi_callV1 rfl (by decide) (by decide) rfl (kd_134 ..) rfl rfl rfl ?_
    refine wi_aload_n rfl rfl ?_
    refine wi_iload_n rfl rfl ?_
    refine wi_putI rfl (kd_134 ..) ?_
    refine wi_iconst (x := 0) rfl rfl ?_
    refine wi_iret rfl (by decide) ?_
    refine wi_iret rfl (by decide) ?_
    refine h2 _ _ _ ?_
    exact ⟨n, t, rfl, ⟨hn0, hn4, hn⟩, ⟨ht0, ht5, ht⟩, hT, hF, hC, hM, hP, hTp, hB, hFa, hS, hMk, hfr⟩
  · skip
    rcases wn_cases dy 0 999 (by decide) (by decide) with e_dy | ⟨dd, l_dd, h_dd, rfl⟩
    · refine wi_aload_n rfl rfl ?_
      refine wi_iload_n rfl rfl ?_
      refine wi_callV1 rfl (by decide) (by decide) rfl (kd_0 ..) rfl rfl rfl (c_has hn0 (st_in (by omega) (by omega)) ?_)
      refine wi_if_ne rfl (fun _ => ?_) (fun h9 => absurd (by decide) h9)
      refine wi_iload_n rfl rfl ?_
      refine wi_callS1 rfl (by decide) (by decide) rfl rfl rfl (c_xday e_dy ?_)
      refine wi_if_eq rfl (fun _ => ?_) (fun h9 => absurd (by decide) h9)
      refine wi_aload_n rfl rfl ?_
      refine wi_iconst (x := 2) rfl rfl ?_
      refine wi_callV1 rfl (by decide) (by decide) rfl (kd_0 ..) rfl rfl rfl ?_
      refine wi_aload_n rfl rfl ?_
      refine wi_iload_n rfl rfl ?_
      refine wi_putI rfl (kd_0 ..) ?_
      refine wi_iconst (x := 0) rfl rfl ?_
      refine wi_iret rfl (by decide) ?_
      refine wi_iret rfl (by decide) ?_
      refine hK _ _ _ _ (fun Q2 h2 => ?_)
      refine wi_aload_n rfl rfl ?_
      refine wi_iconst (x := 0) rfl rfl ?_
      refine wi_putI rfl (kd_134 ..) ?_
      refine wi_aload_n rfl rfl ?_
      refine wi_iconst (x := 0) rfl rfl ?_
      refine wi_putI rfl (kd_134 ..) ?_
      refine wi_aload_n rfl rfl ?_
      refine wi_iload_n rfl rfl ?_
      refine wi_callV1 rfl (by decide) (by decide) rfl (kd_134 ..) rfl rfl rfl (c_isS hn4 (st_in (by omega) (by omega)) ?_)
      refine wi_if_ne rfl (fun _ => ?_) (fun h9 => absurd (by decide) h9)
      refine wi_iload_n rfl rfl ?_
      refine wi_callS1 rfl (by decide) (by decide) rfl rfl rfl (c_mday e_dy ?_)
      refine wi_if_eq rfl (fun _ => ?_) (fun h9 => absurd (by decide) h9)
      refine wi_aload_n rfl rfl ?_
      refine wi_iconst (x := 2) rfl rfl ?_
      refine wi_callV1 rfl (by decide) (by decide) rfl (kd_134 ..) rfl rfl rfl ?_
      refine wi_aload_n rfl rfl ?_
      refine wi_iload_n rfl rfl ?_
      refine wi_putI rfl (kd_134 ..) ?_
      refine wi_iconst (x := 0) rfl rfl ?_
      refine wi_iret rfl (by decide) ?_
      refine wi_iret rfl (by decide) ?_
      refine h2 _ _ _ ?_
      exact ⟨n, t, rfl, ⟨hn0, hn4, hn⟩, ⟨ht0, ht5, ht⟩, hT, hF, hC, hM, hP, hTp, hB, hFa, hS, hMk, hfr⟩
    · skip
      rcases wn_cases v 0 100 (by decide) (by decide) with e_v | ⟨y, l_y, h_y, rfl⟩
      · refine wi_aload_n rfl rfl ?_
        refine wi_iload_n rfl rfl ?_
        refine wi_callV1 rfl (by decide) (by decide) rfl (kd_0 ..) rfl rfl rfl (c_has hn0 (st_in (by omega) (by omega)) ?_)
        refine wi_if_ne rfl (fun _ => ?_) (fun h9 => absurd (by decide) h9)
        refine wi_iload_n rfl rfl ?_
        refine wi_callS1 rfl (by decide) (by decide) rfl rfl rfl (c_xday (wn_in (lo := 0) (hi := 999) (by omega) (by omega) (by decide)) ?_)
        refine wi_if_eq rfl (fun h9 => absurd h9 (by decide)) (fun _ => ?_)
        refine wi_iload_n rfl rfl ?_
        refine wi_iconst (x := 0) rfl rfl ?_
        refine wi_bipush (x := 100) rfl rfl ?_
        refine wi_callS3 rfl (by decide) (by decide) rfl rfl rfl (c_wiV e_v ?_)
        refine wi_if_ne rfl (fun h9 => absurd h9 (by decide)) (fun _ => ?_)
        refine wi_aload_n rfl rfl ?_
        refine wi_iconst (x := 2) rfl rfl ?_
        refine wi_callV1 rfl (by decide) (by decide) rfl (kd_0 ..) rfl rfl rfl ?_
        refine wi_aload_n rfl rfl ?_
        refine wi_iload_n rfl rfl ?_
        refine wi_putI rfl (kd_0 ..) ?_
        refine wi_iconst (x := 0) rfl rfl ?_
        refine wi_iret rfl (by decide) ?_
        refine wi_iret rfl (by decide) ?_
        refine hK _ _ _ _ (fun Q2 h2 => ?_)
        refine wi_aload_n rfl rfl ?_
        refine wi_iconst (x := 0) rfl rfl ?_
        refine wi_putI rfl (kd_134 ..) ?_
        refine wi_aload_n rfl rfl ?_
        refine wi_iconst (x := 0) rfl rfl ?_
        refine wi_putI rfl (kd_134 ..) ?_
        refine wi_aload_n rfl rfl ?_
        refine wi_iload_n rfl rfl ?_
        refine wi_callV1 rfl (by decide) (by decide) rfl (kd_134 ..) rfl rfl rfl (c_isS hn4 (st_in (by omega) (by omega)) ?_)
        refine wi_if_ne rfl (fun _ => ?_) (fun h9 => absurd (by decide) h9)
        refine wi_iload_n rfl rfl ?_
        refine wi_callS1 rfl (by decide) (by decide) rfl rfl rfl (c_mday (wn_in (lo := 0) (hi := 999) (by omega) (by omega) (by decide)) ?_)
        refine wi_if_eq rfl (fun h9 => absurd h9 (by decide)) (fun _ => ?_)
        refine wi_iload_n rfl rfl ?_
        refine wi_bipush (x := 100) rfl rfl ?_
        refine wi_callS2 rfl (by decide) (by decide) rfl rfl rfl (c_isIn e_v ?_)
        refine wi_if_ne rfl (fun h9 => absurd h9 (by decide)) (fun _ => ?_)
        refine wi_aload_n rfl rfl ?_
        refine wi_iconst (x := 2) rfl rfl ?_
        refine wi_callV1 rfl (by decide) (by decide) rfl (kd_134 ..) rfl rfl rfl ?_
        refine wi_aload_n rfl rfl ?_
        refine wi_iload_n rfl rfl ?_
        refine wi_putI rfl (kd_134 ..) ?_
        refine wi_iconst (x := 0) rfl rfl ?_
        refine wi_iret rfl (by decide) ?_
        refine wi_iret rfl (by decide) ?_
        refine h2 _ _ _ ?_
        exact ⟨n, t, rfl, ⟨hn0, hn4, hn⟩, ⟨ht0, ht5, ht⟩, hT, hF, hC, hM, hP, hTp, hB, hFa, hS, hMk, hfr⟩
      · skip
        obtain ⟨k, hk0, hk1, hk2, hk3⟩ := hM
        refine wi_aload_n rfl rfl ?_
        refine wi_iload_n rfl rfl ?_
        refine wi_callV1 rfl (by decide) (by decide) rfl (kd_0 ..) rfl rfl rfl (c_has hn0 (st_in (by omega) (by omega)) ?_)
        refine wi_if_ne rfl (fun _ => ?_) (fun h9 => absurd (by decide) h9)
        refine wi_iload_n rfl rfl ?_
        refine wi_callS1 rfl (by decide) (by decide) rfl rfl rfl (c_xday (wn_in (lo := 0) (hi := 999) (by omega) (by omega) (by decide)) ?_)
        refine wi_if_eq rfl (fun h9 => absurd h9 (by decide)) (fun _ => ?_)
        refine wi_iload_n rfl rfl ?_
        refine wi_iconst (x := 0) rfl rfl ?_
        refine wi_bipush (x := 100) rfl rfl ?_
        refine wi_callS3 rfl (by decide) (by decide) rfl rfl rfl (c_wiV (wn_in (lo := 0) (hi := 100) (by omega) (by omega) (by decide)) ?_)
        refine wi_if_ne rfl (fun _ => ?_) (fun h9 => absurd (by decide) h9)
        refine wi_aload_n rfl rfl ?_
        refine wi_getR rfl (kd_0 ..) (rd_0_4 _) ?_
        refine wi_callV0 rfl (by decide) (by decide) rfl (kd_9 ..) rfl rfl rfl ?_
        refine wi_aload_n rfl rfl ?_
        refine wi_getIv (v := (Int32.ofNat (k))) rfl (kd_9 ..) hk0 ?_
        refine wi_sipush (x := 200) rfl rfl ?_
        refine wi_icmp_lt rfl (fun g1 => ?_) (fun g1 => ?_)
        · replace g1 := (lt_n (a := k) (b := 200) rfl (rfl : (200 : Int32) = Int32.ofNat 200) (by omega) (by omega)).mp g1
          refine wi_iconst (x := 0) rfl rfl ?_
          refine wi_iret rfl (by decide) ?_
          refine wi_if_eq rfl (fun _ => ?_) (fun h9 => absurd (by decide) h9)
          refine wi_aload_n rfl rfl ?_
          refine wi_getR rfl (kd_0 ..) (rd_0_4 _) ?_
          refine wi_iload_n rfl rfl ?_
          refine wi_iload_n rfl rfl ?_
          refine wi_iload_n rfl rfl ?_
          refine wi_callV3 rfl (by decide) (by decide) rfl (kd_9 ..) rfl rfl rfl ?_
          refine wi_aload_n rfl rfl ?_
          refine wi_callV0 rfl (by decide) (by decide) rfl (kd_9 ..) rfl rfl rfl ?_
          refine wi_aload_n rfl rfl ?_
          refine wi_getIv (v := (Int32.ofNat (k))) rfl (kd_9 ..) hk0 ?_
          refine wi_sipush (x := 200) rfl rfl ?_
          refine wi_icmp_lt rfl (fun _ => ?_) (fun h9 => absurd trivial (by exfalso; have h8 := (not_congr (lt_n (a := k) (b := 200) rfl (rfl : (200 : Int32) = Int32.ofNat 200) (by omega) (by omega))).mp h9; omega))
          refine wi_iconst (x := 0) rfl rfl ?_
          refine wi_iret rfl (by decide) ?_
          refine wi_if_ne rfl (fun h9 => absurd h9 (by decide)) (fun _ => ?_)
          refine wi_aload_n rfl rfl ?_
          refine wi_getR rfl (kd_9 ..) (rd_9_0 _) ?_
          refine wi_aload_n rfl rfl ?_
          refine wi_getIv (v := (Int32.ofNat (k))) rfl (kd_9 ..) hk0 ?_
          refine wi_iload_n rfl rfl ?_
          refine wn_iastore (q := k) rfl (ln_10 ..) rfl (by omega) (by decide) ?_
          refine wi_aload_n rfl rfl ?_
          refine wi_getR rfl (kd_9 ..) (rd_9_1 _) ?_
          refine wi_aload_n rfl rfl ?_
          refine wi_getIv (v := (Int32.ofNat (k))) rfl (kd_9 ..) hk0 ?_
          refine wi_iload_n rfl rfl ?_
          refine wn_iastore (q := k) rfl (ln_11 ..) rfl (by omega) (by decide) ?_
          refine wi_aload_n rfl rfl ?_
          refine wi_getR rfl (kd_9 ..) (rd_9_2 _) ?_
          refine wi_aload_n rfl rfl ?_
          refine wi_getIv (v := (Int32.ofNat (k))) rfl (kd_9 ..) hk0 ?_
          refine wi_iload_n rfl rfl ?_
          refine wn_iastore (q := k) rfl (ln_12 ..) rfl (by omega) (by decide) ?_
          refine wi_aload_n rfl rfl ?_
          refine wi_dup rfl rfl ?_
          refine wi_getIv (v := (Int32.ofNat (k))) rfl (kd_9 ..) hk0 ?_
          refine wi_iconst (x := 1) rfl rfl ?_
          refine wn_iadd (z := (Int32.ofNat (k + 1))) rfl (add_n (a := k) (b := 1) rfl (rfl : (1 : Int32) = Int32.ofNat 1)) ?_
          refine wi_putI rfl (kd_9 ..) ?_
          refine wi_ret rfl ?_
          refine wi_aload_n rfl rfl ?_
          refine wi_callV0 rfl (by decide) (by decide) rfl (kd_0 ..) rfl rfl rfl ?_
          refine wi_aload_n rfl rfl ?_
          refine wi_iconst (x := 0) rfl rfl ?_
          refine wi_putI rfl (kd_0 ..) ?_
          refine wi_iconst (x := 1) rfl rfl ?_
          refine wi_iret rfl (by decide) ?_
          refine wi_iret rfl (by decide) ?_
          refine hK _ _ _ _ (fun Q2 h2 => ?_)
          refine wi_aload_n rfl rfl ?_
          refine wi_iconst (x := 0) rfl rfl ?_
          refine wi_putI rfl (kd_134 ..) ?_
          refine wi_aload_n rfl rfl ?_
          refine wi_iconst (x := 0) rfl rfl ?_
          refine wi_putI rfl (kd_134 ..) ?_
          refine wi_aload_n rfl rfl ?_
          refine wi_iload_n rfl rfl ?_
          refine wi_callV1 rfl (by decide) (by decide) rfl (kd_134 ..) rfl rfl rfl (c_isS hn4 (st_in (by omega) (by omega)) ?_)
          refine wi_if_ne rfl (fun _ => ?_) (fun h9 => absurd (by decide) h9)
          refine wi_iload_n rfl rfl ?_
          refine wi_callS1 rfl (by decide) (by decide) rfl rfl rfl (c_mday (wn_in (lo := 0) (hi := 999) (by omega) (by omega) (by decide)) ?_)
          refine wi_if_eq rfl (fun h9 => absurd h9 (by decide)) (fun _ => ?_)
          refine wi_iload_n rfl rfl ?_
          refine wi_bipush (x := 100) rfl rfl ?_
          refine wi_callS2 rfl (by decide) (by decide) rfl rfl rfl (c_isIn (wn_in (lo := 0) (hi := 100) (by omega) (by omega) (by decide)) ?_)
          refine wi_if_ne rfl (fun _ => ?_) (fun h9 => absurd (by decide) h9)
          refine wi_aload_n rfl rfl ?_
          refine wi_getIv (v := (Int32.ofNat (k))) rfl (kd_134 ..) hk1 ?_
          refine wi_sipush (x := 200) rfl rfl ?_
          refine wi_icmp_ne rfl (fun _ => ?_) (fun h9 => absurd trivial (by exfalso; have h8 := (not_congr (ne_n (a := k) (b := 200) rfl (rfl : (200 : Int32) = Int32.ofNat 200) (by omega) (by omega))).mp h9; omega))
          refine wi_aload_n rfl rfl ?_
          refine wi_getR rfl (kd_134 ..) (rd_134_15 _) ?_
          refine wi_aload_n rfl rfl ?_
          refine wi_getIv (v := (Int32.ofNat (k))) rfl (kd_134 ..) hk1 ?_
          refine wi_iload_n rfl rfl ?_
          refine wn_iastore (q := k) rfl (ln_143 ..) rfl (by omega) (by decide) ?_
          refine wi_aload_n rfl rfl ?_
          refine wi_getR rfl (kd_134 ..) (rd_134_16 _) ?_
          refine wi_aload_n rfl rfl ?_
          refine wi_getIv (v := (Int32.ofNat (k))) rfl (kd_134 ..) hk1 ?_
          refine wi_iload_n rfl rfl ?_
          refine wn_iastore (q := k) rfl (ln_144 ..) rfl (by omega) (by decide) ?_
          refine wi_aload_n rfl rfl ?_
          refine wi_getR rfl (kd_134 ..) (rd_134_17 _) ?_
          refine wi_aload_n rfl rfl ?_
          refine wi_getIv (v := (Int32.ofNat (k))) rfl (kd_134 ..) hk1 ?_
          refine wi_iload_n rfl rfl ?_
          refine wn_iastore (q := k) rfl (ln_145 ..) rfl (by omega) (by decide) ?_
          refine wi_aload_n rfl rfl ?_
          refine wi_dup rfl rfl ?_
          refine wi_getIv (v := (Int32.ofNat (k))) rfl (kd_134 ..) hk1 ?_
          refine wi_iconst (x := 1) rfl rfl ?_
          refine wn_iadd (z := (Int32.ofNat (k + 1))) rfl (add_n (a := k) (b := 1) rfl (rfl : (1 : Int32) = Int32.ofNat 1)) ?_
          refine wi_putI rfl (kd_134 ..) ?_
          refine wi_iconst (x := 1) rfl rfl ?_
          refine wi_iret rfl (by decide) ?_
          refine h2 _ _ _ ?_
          exact ⟨n, t, rfl, ⟨hn0, hn4, hn⟩, ⟨ht0, ht5, ht⟩, hT, hF, hC, rMeas_add (by omega) hk3 (by omega) (by omega) (by omega), hP, hTp, hB, hFa, hS, hMk, hfr⟩
        · replace g1 := (not_congr (lt_n (a := k) (b := 200) rfl (rfl : (200 : Int32) = Int32.ofNat 200) (by omega) (by omega))).mp g1
          refine wi_iconst (x := 1) rfl rfl ?_
          refine wi_goto rfl ?_
          refine wi_iret rfl (by decide) ?_
          refine wi_if_eq rfl (fun h9 => absurd h9 (by decide)) (fun _ => ?_)
          refine wi_aload_n rfl rfl ?_
          refine wi_iconst (x := 3) rfl rfl ?_
          refine wi_callV1 rfl (by decide) (by decide) rfl (kd_0 ..) rfl rfl rfl ?_
          refine wi_aload_n rfl rfl ?_
          refine wi_iload_n rfl rfl ?_
          refine wi_putI rfl (kd_0 ..) ?_
          refine wi_iconst (x := 0) rfl rfl ?_
          refine wi_iret rfl (by decide) ?_
          refine wi_iret rfl (by decide) ?_
          refine hK _ _ _ _ (fun Q2 h2 => ?_)
          refine wi_aload_n rfl rfl ?_
          refine wi_iconst (x := 0) rfl rfl ?_
          refine wi_putI rfl (kd_134 ..) ?_
          refine wi_aload_n rfl rfl ?_
          refine wi_iconst (x := 0) rfl rfl ?_
          refine wi_putI rfl (kd_134 ..) ?_
          refine wi_aload_n rfl rfl ?_
          refine wi_iload_n rfl rfl ?_
          refine wi_callV1 rfl (by decide) (by decide) rfl (kd_134 ..) rfl rfl rfl (c_isS hn4 (st_in (by omega) (by omega)) ?_)
          refine wi_if_ne rfl (fun _ => ?_) (fun h9 => absurd (by decide) h9)
          refine wi_iload_n rfl rfl ?_
          refine wi_callS1 rfl (by decide) (by decide) rfl rfl rfl (c_mday (wn_in (lo := 0) (hi := 999) (by omega) (by omega) (by decide)) ?_)
          refine wi_if_eq rfl (fun h9 => absurd h9 (by decide)) (fun _ => ?_)
          refine wi_iload_n rfl rfl ?_
          refine wi_bipush (x := 100) rfl rfl ?_
          refine wi_callS2 rfl (by decide) (by decide) rfl rfl rfl (c_isIn (wn_in (lo := 0) (hi := 100) (by omega) (by omega) (by decide)) ?_)
          refine wi_if_ne rfl (fun _ => ?_) (fun h9 => absurd (by decide) h9)
          refine wi_aload_n rfl rfl ?_
          refine wi_getIv (v := (Int32.ofNat (k))) rfl (kd_134 ..) hk1 ?_
          refine wi_sipush (x := 200) rfl rfl ?_
          refine wi_icmp_ne rfl (fun h9 => absurd trivial (by exfalso; have h8 := (ne_n (a := k) (b := 200) rfl (rfl : (200 : Int32) = Int32.ofNat 200) (by omega) (by omega)).mp h9; omega)) (fun _ => ?_)
          refine wi_aload_n rfl rfl ?_
          refine wi_iconst (x := 3) rfl rfl ?_
          refine wi_callV1 rfl (by decide) (by decide) rfl (kd_134 ..) rfl rfl rfl ?_
          refine wi_aload_n rfl rfl ?_
          refine wi_iload_n rfl rfl ?_
          refine wi_putI rfl (kd_134 ..) ?_
          refine wi_iconst (x := 0) rfl rfl ?_
          refine wi_iret rfl (by decide) ?_
          refine wi_iret rfl (by decide) ?_
          refine h2 _ _ _ ?_
          exact ⟨n, t, rfl, ⟨hn0, hn4, hn⟩, ⟨ht0, ht5, ht⟩, hT, hF, hC, ⟨k, hk0, hk1, hk2, hk3⟩, hP, hTp, hB, hFa, hS, hMk, hfr⟩
theorem a_fault {X : Nat × (Nat → Int32)} {w : Int32} : arm X 120 184 [.ref 0, .int w] [.ref 134, .int w] := by
  intro mi ml b hR Q hK
  obtain ⟨n, t, hst, ⟨hn0, hn4, hn⟩, ⟨ht0, ht5, ht⟩, hT, hF, hC, hM, hP, hTp, hB, hFa, hS, hMk, hfr⟩ := hR
  refine wi_iload_n rfl rfl ?_
  refine wi_if_ne rfl (fun g1 => ?_) (fun g1 => ?_)
  · skip
    refine wi_iload_n rfl rfl ?_
    refine wi_iconst (x := 1) rfl rfl ?_
    refine wi_icmp_ne rfl (fun g2 => ?_) (fun g2 => ?_)
    · skip
      refine wi_iconst (x := (-1)) rfl rfl ?_
      refine wi_iret rfl (Or.inl rfl) ?_
      refine hK _ _ _ _ (fun Q2 h2 => ?_)
      refine wi_aload_n rfl rfl ?_
      refine wi_iconst (x := 0) rfl rfl ?_
      refine wi_putI rfl (kd_134 ..) ?_
      refine wi_iload_n rfl rfl ?_
      refine wi_if_ne rfl (fun _ => ?_) (fun h9 => absurd g1 h9)
      refine wi_iload_n rfl rfl ?_
      refine wi_iconst (x := 1) rfl rfl ?_
      refine wi_icmp_ne rfl (fun _ => ?_) (fun h9 => absurd g2 h9)
      refine wi_iconst (x := (-1)) rfl rfl ?_
      refine wi_iret rfl (Or.inl rfl) ?_
      refine h2 _ _ _ ?_
      exact ⟨n, t, hst, ⟨hn0, hn4, hn⟩, ⟨ht0, ht5, ht⟩, hT, hF, hC, hM, hP, hTp, hB, hFa, hS, hMk, hfr⟩
    · replace g2 := Classical.not_not.mp g2
      refine wi_aload_n rfl rfl ?_
      refine wi_getR rfl (kd_0 ..) (rd_0_7 _) ?_
      refine wi_callV0 rfl (by decide) (by decide) rfl (kd_28 ..) rfl rfl rfl ?_
      refine wi_aload_n rfl rfl ?_
      refine wi_getIv (v := (mi 28 12)) rfl (kd_28 ..) rfl ?_
      refine wi_iret rfl (Or.inl rfl) ?_
      refine wi_goto rfl ?_
      refine wi_iret rfl (Or.inl rfl) ?_
      refine hK _ _ _ _ (fun Q2 h2 => ?_)
      refine wi_aload_n rfl rfl ?_
      refine wi_iconst (x := 0) rfl rfl ?_
      refine wi_putI rfl (kd_134 ..) ?_
      refine wi_iload_n rfl rfl ?_
      refine wi_if_ne rfl (fun _ => ?_) (fun h9 => absurd g1 h9)
      refine wi_iload_n rfl rfl ?_
      refine wi_iconst (x := 1) rfl rfl ?_
      refine wi_icmp_ne rfl (fun h9 => absurd g2 h9) (fun _ => ?_)
      refine wi_aload_n rfl rfl ?_
      refine wi_getIv (v := (mi 134 38)) rfl (kd_134 ..) rfl ?_
      refine wi_goto rfl ?_
      refine wi_iret rfl (Or.inl rfl) ?_
      rw [hFa.2] at h2
      refine h2 _ _ _ ?_
      exact ⟨n, t, hst, ⟨hn0, hn4, hn⟩, ⟨ht0, ht5, ht⟩, hT, hF, hC, hM, hP, hTp, hB, hFa, hS, hMk, hfr⟩
  · replace g1 := Classical.not_not.mp g1
    refine wi_aload_n rfl rfl ?_
    refine wi_getR rfl (kd_0 ..) (rd_0_7 _) ?_
    refine wi_callV0 rfl (by decide) (by decide) rfl (kd_28 ..) rfl rfl rfl ?_
    refine wi_aload_n rfl rfl ?_
    refine wi_getIv (v := (mi 28 11)) rfl (kd_28 ..) rfl ?_
    refine wi_iret rfl (Or.inl rfl) ?_
    refine wi_iret rfl (Or.inl rfl) ?_
    refine hK _ _ _ _ (fun Q2 h2 => ?_)
    refine wi_aload_n rfl rfl ?_
    refine wi_iconst (x := 0) rfl rfl ?_
    refine wi_putI rfl (kd_134 ..) ?_
    refine wi_iload_n rfl rfl ?_
    refine wi_if_ne rfl (fun h9 => absurd g1 h9) (fun _ => ?_)
    refine wi_aload_n rfl rfl ?_
    refine wi_getIv (v := (mi 134 37)) rfl (kd_134 ..) rfl ?_
    refine wi_goto rfl ?_
    refine wi_iret rfl (Or.inl rfl) ?_
    rw [hFa.1] at h2
    refine h2 _ _ _ ?_
    exact ⟨n, t, hst, ⟨hn0, hn4, hn⟩, ⟨ht0, ht5, ht⟩, hT, hF, hC, hM, hP, hTp, hB, hFa, hS, hMk, hfr⟩
theorem a_upper {X : Nat × (Nat → Int32)} : armL X 131 202 [.ref 0] [.ref 134] := by
  intro mi ml b hR Q hK
  obtain ⟨n, t, hst, ⟨hn0, hn4, hn⟩, ⟨ht0, ht5, ht⟩, hT, hF, hC, hM, hP, hTp, hB, hFa, hS, hMk, hfr⟩ := hR
  refine wi_aload_n rfl rfl ?_
  refine wi_getR rfl (kd_0 ..) (rd_0_10 _) ?_
  refine wi_callV0 rfl (by decide) (by decide) rfl (kd_96 ..) rfl rfl rfl ?_
  refine wi_aload_n rfl rfl ?_
  refine wi_getLv (lv := (ml 96 0)) rfl (kd_96 ..) rfl ?_
  refine wi_lret rfl ?_
  refine wi_lret rfl ?_
  refine hK _ _ _ _ (fun Q2 h2 => ?_)
  refine wi_aload_n rfl rfl ?_
  refine wi_iconst (x := 0) rfl rfl ?_
  refine wi_putI rfl (kd_134 ..) ?_
  refine wi_aload_n rfl rfl ?_
  refine wi_getLv (lv := (ml 134 2)) rfl (kd_134 ..) rfl ?_
  refine wi_lret rfl ?_
  rw [hfr.1] at h2
  refine h2 _ _ _ ?_
  exact ⟨n, t, hst, ⟨hn0, hn4, hn⟩, ⟨ht0, ht5, ht⟩, hT, hF, hC, hM, hP, hTp, hB, hFa, hS, hMk, hfr⟩
theorem a_lower {X : Nat × (Nat → Int32)} : armL X 132 203 [.ref 0] [.ref 134] := by
  intro mi ml b hR Q hK
  obtain ⟨n, t, hst, ⟨hn0, hn4, hn⟩, ⟨ht0, ht5, ht⟩, hT, hF, hC, hM, hP, hTp, hB, hFa, hS, hMk, hfr⟩ := hR
  refine wi_aload_n rfl rfl ?_
  refine wi_getR rfl (kd_0 ..) (rd_0_10 _) ?_
  refine wi_callV0 rfl (by decide) (by decide) rfl (kd_96 ..) rfl rfl rfl ?_
  refine wi_aload_n rfl rfl ?_
  refine wi_getLv (lv := (ml 96 1)) rfl (kd_96 ..) rfl ?_
  refine wi_lret rfl ?_
  refine wi_lret rfl ?_
  refine hK _ _ _ _ (fun Q2 h2 => ?_)
  refine wi_aload_n rfl rfl ?_
  refine wi_iconst (x := 0) rfl rfl ?_
  refine wi_putI rfl (kd_134 ..) ?_
  refine wi_aload_n rfl rfl ?_
  refine wi_getLv (lv := (ml 134 3)) rfl (kd_134 ..) rfl ?_
  refine wi_lret rfl ?_
  rw [hfr.2] at h2
  refine h2 _ _ _ ?_
  exact ⟨n, t, hst, ⟨hn0, hn4, hn⟩, ⟨ht0, ht5, ht⟩, hT, hF, hC, hM, hP, hTp, hB, hFa, hS, hMk, hfr⟩
theorem a_work {X : Nat × (Nat → Int32)} {s w : Int32} : arm X 110 157 [.ref 0, .int s, .int w] [.ref 134, .int s, .int w] := by
  intro mi ml b hR Q hK
  obtain ⟨n, t, hst, ⟨hn0, hn4, hn⟩, ⟨ht0, ht5, ht⟩, hT, hF, hC, hM, hP, hTp, hB, hFa, hS, hMk, hfr⟩ := hR
  rcases st_cases s (n := n) (by omega) with e_s | ⟨q, h_q, rfl⟩
  · refine wi_aload_n rfl rfl ?_
    refine wi_iload_n rfl rfl ?_
    refine wi_callV1 rfl (by decide) (by decide) rfl (kd_0 ..) rfl rfl rfl (c_has hn0 e_s ?_)
    refine wi_if_ne rfl (fun h9 => absurd h9 (by decide)) (fun _ => ?_)
    refine wi_aload_n rfl rfl ?_
    refine wi_iconst (x := 1) rfl rfl ?_
    refine wi_callV1 rfl (by decide) (by decide) rfl (kd_0 ..) rfl rfl rfl ?_
    refine wi_aload_n rfl rfl ?_
    refine wi_iload_n rfl rfl ?_
    refine wi_putI rfl (kd_0 ..) ?_
    refine wi_iconst (x := 0) rfl rfl ?_
    refine wi_iret rfl (by decide) ?_
    refine wi_iret rfl (by decide) ?_
    refine hK _ _ _ _ (fun Q2 h2 => ?_)
    refine wi_aload_n rfl rfl ?_
    refine wi_iconst (x := 0) rfl rfl ?_
    refine wi_putI rfl (kd_134 ..) ?_
    refine wi_aload_n rfl rfl ?_
    refine wi_iconst (x := 0) rfl rfl ?_
    refine wi_putI rfl (kd_134 ..) ?_
    refine wi_aload_n rfl rfl ?_
    refine wi_iload_n rfl rfl ?_
    refine wi_callV1 rfl (by decide) (by decide) rfl (kd_134 ..) rfl rfl rfl (c_isS hn4 e_s ?_)
    refine wi_if_ne rfl (fun h9 => absurd h9 (by decide)) (fun _ => ?_)
    refine wi_aload_n rfl rfl ?_
    refine wi_iconst (x := 1) rfl rfl ?_
    refine wi_callV1 rfl (by decide) (by decide) rfl (kd_134 ..) rfl rfl rfl ?_
    refine wi_aload_n rfl rfl ?_
    refine wi_iload_n rfl rfl ?_
    refine wi_putI rfl (kd_134 ..) ?_
    refine wi_iconst (x := 0) rfl rfl ?_
    refine wi_iret rfl (by decide) ?_
    refine wi_iret rfl (by decide) ?_
    refine h2 _ _ _ ?_
    exact ⟨n, t, rfl, ⟨hn0, hn4, hn⟩, ⟨ht0, ht5, ht⟩, hT, hF, hC, hM, hP, hTp, hB, hFa, hS, hMk, hfr⟩
  · skip
    rcases wn_cases w 0 31 (by decide) (by decide) with e_w | ⟨p, l_p, h_p, rfl⟩
    · refine wi_aload_n rfl rfl ?_
      refine wi_iload_n rfl rfl ?_
      refine wi_callV1 rfl (by decide) (by decide) rfl (kd_0 ..) rfl rfl rfl (c_has hn0 (st_in (by omega) (by omega)) ?_)
      refine wi_if_ne rfl (fun _ => ?_) (fun h9 => absurd (by decide) h9)
      refine wi_iload_n rfl rfl ?_
      refine wi_iconst (x := 0) rfl rfl ?_
      refine wi_bipush (x := 31) rfl rfl ?_
      refine wi_callS3 rfl (by decide) (by decide) rfl rfl rfl (c_wiV e_w ?_)
      refine wi_if_ne rfl (fun h9 => absurd h9 (by decide)) (fun _ => ?_)
      refine wi_aload_n rfl rfl ?_
      refine wi_iconst (x := 2) rfl rfl ?_
      refine wi_callV1 rfl (by decide) (by decide) rfl (kd_0 ..) rfl rfl rfl ?_
      refine wi_aload_n rfl rfl ?_
      refine wi_iload_n rfl rfl ?_
      refine wi_putI rfl (kd_0 ..) ?_
      refine wi_iconst (x := 0) rfl rfl ?_
      refine wi_iret rfl (by decide) ?_
      refine wi_iret rfl (by decide) ?_
      refine hK _ _ _ _ (fun Q2 h2 => ?_)
      refine wi_aload_n rfl rfl ?_
      refine wi_iconst (x := 0) rfl rfl ?_
      refine wi_putI rfl (kd_134 ..) ?_
      refine wi_aload_n rfl rfl ?_
      refine wi_iconst (x := 0) rfl rfl ?_
      refine wi_putI rfl (kd_134 ..) ?_
      refine wi_aload_n rfl rfl ?_
      refine wi_iload_n rfl rfl ?_
      refine wi_callV1 rfl (by decide) (by decide) rfl (kd_134 ..) rfl rfl rfl (c_isS hn4 (st_in (by omega) (by omega)) ?_)
      refine wi_if_ne rfl (fun _ => ?_) (fun h9 => absurd (by decide) h9)
      refine wi_iload_n rfl rfl ?_
      refine wi_bipush (x := 31) rfl rfl ?_
      refine wi_callS2 rfl (by decide) (by decide) rfl rfl rfl (c_isIn e_w ?_)
      refine wi_if_ne rfl (fun h9 => absurd h9 (by decide)) (fun _ => ?_)
      refine wi_aload_n rfl rfl ?_
      refine wi_iconst (x := 2) rfl rfl ?_
      refine wi_callV1 rfl (by decide) (by decide) rfl (kd_134 ..) rfl rfl rfl ?_
      refine wi_aload_n rfl rfl ?_
      refine wi_iload_n rfl rfl ?_
      refine wi_putI rfl (kd_134 ..) ?_
      refine wi_iconst (x := 0) rfl rfl ?_
      refine wi_iret rfl (by decide) ?_
      refine wi_iret rfl (by decide) ?_
      refine h2 _ _ _ ?_
      exact ⟨n, t, rfl, ⟨hn0, hn4, hn⟩, ⟨ht0, ht5, ht⟩, hT, hF, hC, hM, hP, hTp, hB, hFa, hS, hMk, hfr⟩
    · skip
      refine wi_aload_n rfl rfl ?_
      refine wi_iload_n rfl rfl ?_
      refine wi_callV1 rfl (by decide) (by decide) rfl (kd_0 ..) rfl rfl rfl (c_has hn0 (st_in (by omega) (by omega)) ?_)
      refine wi_if_ne rfl (fun _ => ?_) (fun h9 => absurd (by decide) h9)
      refine wi_iload_n rfl rfl ?_
      refine wi_iconst (x := 0) rfl rfl ?_
      refine wi_bipush (x := 31) rfl rfl ?_
      refine wi_callS3 rfl (by decide) (by decide) rfl rfl rfl (c_wiV (wn_in (lo := 0) (hi := 31) (by omega) (by omega) (by decide)) ?_)
      refine wi_if_ne rfl (fun _ => ?_) (fun h9 => absurd (by decide) h9)
      refine wi_aload_n rfl rfl ?_
      refine wi_getR rfl (kd_0 ..) (rd_0_0 _) ?_
      refine wi_iload_n rfl rfl ?_
      refine wn_aaload (q := q) rfl (Or.inl (ln_1 ..)) rfl (by omega) (by decide) (ra_1 _ _ (by omega)) ?_
      refine wi_iload_n rfl rfl ?_
      refine wi_callV1 rfl (by decide) (by decide) rfl (kr_1 (by omega) ..) rfl rfl rfl (c_orderWorks (kr_1 (by omega) ..) (gen_wp (fun mi1 e1 => ?_)))
      refine wi_aload_n rfl rfl ?_
      refine wi_callV0 rfl (by decide) (by decide) rfl (kd_0 ..) rfl rfl rfl ?_
      refine wi_aload_n rfl rfl ?_
      refine wi_iconst (x := 0) rfl rfl ?_
      refine wi_putI rfl (kd_0 ..) ?_
      refine wi_iconst (x := 1) rfl rfl ?_
      refine wi_iret rfl (by decide) ?_
      refine wi_iret rfl (by decide) ?_
      have ho : ∀ a, a ≠ 126 + q → mi1 a = mi a := fun a ha => by rw [e1]; exact u2_ne ha
      have hTq := rTurf_at hT (q := q) (by omega) hn
      have hO := RO_fr (mi2 := mi1) (fun a ha => ho a (fun e9 => by rw [e9, scr_t (by omega)] at ha; cases ha)) (RR_to ⟨hst, ⟨hn0, hn4, hn⟩, ⟨ht0, ht5, ht⟩, hT, hF, hC, hM, hP, hTp, hB, hFa, hS, hMk, hfr⟩)
      have hT1 : rTurf n (r8 (mi 126) (mi 127) (mi 128) (mi 129) (mi 130) (mi 131) (mi 132) (mi 133)) (mi1 135) (mi1 136) (mi1 137) := by rw [ho 135 (by omega), ho 136 (by omega), ho 137 (by omega)]; exact hT
      clear hst hn0 hn4 hn ht0 ht5 ht hF hC hM hP hTp hB hFa hS hMk hfr
      obtain ⟨hst, ⟨hn0, hn4, hn⟩, ⟨ht0, ht5, ht⟩, hF, hC, hM, hP, hTp, hB, hFa, hS, hMk, hfr⟩ := hO
      refine hK _ _ _ _ (fun Q2 h2 => ?_)
      refine wi_aload_n rfl rfl ?_
      refine wi_iconst (x := 0) rfl rfl ?_
      refine wi_putI rfl (kd_134 ..) ?_
      refine wi_aload_n rfl rfl ?_
      refine wi_iconst (x := 0) rfl rfl ?_
      refine wi_putI rfl (kd_134 ..) ?_
      refine wi_aload_n rfl rfl ?_
      refine wi_iload_n rfl rfl ?_
      refine wi_callV1 rfl (by decide) (by decide) rfl (kd_134 ..) rfl rfl rfl (c_isS hn4 (st_in (by omega) (by omega)) ?_)
      refine wi_if_ne rfl (fun _ => ?_) (fun h9 => absurd (by decide) h9)
      refine wi_iload_n rfl rfl ?_
      refine wi_bipush (x := 31) rfl rfl ?_
      refine wi_callS2 rfl (by decide) (by decide) rfl rfl rfl (c_isIn (wn_in (lo := 0) (hi := 31) (by omega) (by omega) (by decide)) ?_)
      refine wi_if_ne rfl (fun _ => ?_) (fun h9 => absurd (by decide) h9)
      refine wi_aload_n rfl rfl ?_
      refine wi_getR rfl (kd_134 ..) (rd_134_7 _) ?_
      refine wi_iload_n rfl rfl ?_
      refine wi_iload_n rfl rfl ?_
      refine wn_iastore (q := q) rfl (ln_136 ..) rfl (by omega) (by decide) ?_
      refine wi_iconst (x := 1) rfl rfl ?_
      refine wi_iret rfl (by decide) ?_
      have hnew : tR (mi1 (126 + q)) (mi1 135) (fun i => if i = q then Int32.ofNat p else mi1 136 i) (mi1 137) q ∧ tB (mi1 (126 + q)) := by
        rw [ho 135 (by omega), ho 136 (by omega), ho 137 (by omega), e1, u2_at]
        obtain ⟨⟨a0, a1, a2, a3, a4, a5, a6, a7⟩, c0, c1, c2, c3, c4, c5, c6, c7⟩ := hTq
        exact ⟨⟨a0, a1, a2, a3, a4, a5, (if_pos rfl).symm, a7⟩, c0, c1, c2, c3, c4, c5, rB_of (hi := 31) (by omega) (by decide), c7⟩
      refine h2 _ _ _ ?_
      exact ⟨n, t, rfl, ⟨hn0, hn4, hn⟩, ⟨ht0, ht5, ht⟩, rTurf_upd (mi' := mi1) hT1 (q := q) (by omega) hn (fun s hs hne => ho _ (by omega)) (fun k hk => rfl) (fun k hk => if_neg hk) (fun k hk => rfl) hnew, hF, hC, hM, hP, hTp, hB, hFa, hS, hMk, hfr⟩
