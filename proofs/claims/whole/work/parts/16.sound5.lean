/-! ===== returns, calls, the whole run ===== -/
def am_wy (y : Nat) : List Cond := Cond.code (am_y y) (am_b y) (am_nL y) (am_r y) :: am_big
def am_rm (d mc ms : Nat) : Room := { frames := 8 + d, cells := mc, slots := ms, locals := 300 + 40 * d }
def am_Pc (b : Nat) (ad : Nat → Nat) (D : va_G) (cy : Nat → ClassId) (X : Nat × (Nat → Int32)) (vs : List Value) (M : am_M) : Array Value → State → Prop := fun a U => a = (vs.map (am_cv b ad)).toArray ∧ va_P D am_cl (am_ws cy b ad M) U.heap ∧ U.heap.size = b + M.1.length ∧ am_Kn b ad D cy X U U.heap
def am_Qc (b : Nat) (ad : Nat → Nat) (D : va_G) (cy : Nat → ClassId) (v : Option Value) (M : am_M) : Array Value → State → Outcome → State → Prop := fun _ st o t => o = .returned (v.map (am_cv b ad)) ∧ va_P D am_cl (am_ws cy b ad M) t.heap ∧ am_wf M ∧ st.heap.size ≤ t.heap.size ∧ ∀ q, q < b → t.heap[q]? = st.heap[q]?
theorem am_blind {b : Nat} {ad : Nat → Nat} {D : va_G} {cy : Nat → ClassId} {X : Nat × (Nat → Int32)} {vs : List Value} {M : am_M} : FrameBlind (am_Pc b ad D cy X vs M) := by
  intro a U g mk hp
  obtain ⟨h0, hP, hz, h1, h2, h3, ⟨kA, h4, h5⟩, h6, ⟨adV, h7⟩, ⟨h8, h88⟩, h9, h10, h11, h12⟩ := hp
  have hal : U.vm.Alike (U.calling g mk a).vm := Vm.Alike.refl U.vm
  exact ⟨h0, hP, hz, va_K.moved hal h1, fun q hqq => va_Nw.same rfl (rfl : U.vm = (U.calling g mk a).vm) (h2 q hqq), va_AO.moved hal h3, ⟨kA, h4, h5⟩, fun q hqq => vk_R.same (rfl : (U.calling g mk a).vm = U.vm) (h6 q hqq), ⟨adV, vk_S.moved hal h7⟩, ⟨va_Z.moved hal h8, va_Zq.moved hal h88⟩, va_Z.moved hal h9, va_T.moved hal h10, va_X.moved hal h11, h12⟩
theorem am_nm_ok : ∀ c, c < 13 → (am_nm c ≠ "java/lang/invoke/MethodHandle" ∧ am_nm c ≠ "java/lang/invoke/VarHandle") ∧ plainName (am_nm c) = true := by decide +kernel
theorem am_k_ok : ∀ y, y < 204 → am_k y < 12 ∧ am_nL y ≤ 20 := by decide +kernel
/-- the words of a method -/
theorem am_yfacts {y : Nat} (h : y < 204) : Cond.code (am_y y) (am_b y) (am_nL y) (am_r y) ∈ am_big ∧ Cond.initialized (am_y y).cls ∈ am_big ∧ (am_y y).cls = am_nm (am_k y) ∧ (am_yk y = 1 → Cond.static (am_y y) ∈ am_big) ∧ (am_yk y = 2 → Cond.instanceMethod (am_y y) ∈ am_big ∧ (am_y y).name = "<init>" ∧ am_r y = none) ∧ (am_yk y = 0 → Cond.instanceMethod (am_y y) ∈ am_big ∧ Cond.selects (am_y y).cls (am_y y) (am_y y) ∈ am_big) := by
  obtain ⟨i9, hi⟩ := am_code_at h
  have h1 := List.all_eq_true.mp am_yw_ok y (List.mem_range.mpr h)
  unfold am_ywok at h1
  unfold am_yk
  cases hh : am_ywT[y]? with
  | none => rw [hh] at h1; cases h1
  | some t9 =>
    obtain ⟨t, a1, a2, a3, a4⟩ := t9
    rw [hh] at h1
    simp only [Bool.and_eq_true, decide_eq_true_eq] at h1
    obtain ⟨e2, e3, e4⟩ := h1
    refine ⟨am_in hi rfl, am_in e2 rfl, e3, fun z => ?_, fun z => ?_, fun z => ?_⟩
    · simp only [Option.map_some, Option.getD_some] at z
      subst z
      simp only [decide_eq_true_eq] at e4
      exact am_in e4 rfl
    · simp only [Option.map_some, Option.getD_some] at z
      subst z
      simp only [Bool.and_eq_true, decide_eq_true_eq] at e4
      exact ⟨am_in e4.1 rfl, e4.2⟩
    · simp only [Option.map_some, Option.getD_some] at z
      subst z
      simp only [Bool.and_eq_true, decide_eq_true_eq] at e4
      exact ⟨am_in e4.1 rfl, am_in e4.2 rfl⟩
theorem am_wy_in {y : Nat} (h : y < 204) : ∀ w9 ∈ am_wy y, w9 ∈ am_big := fun w9 hw => by
  rcases List.mem_cons.mp hw with rfl | h9
  · exact (am_yfacts h).1
  · exact h9
theorem am_exp_len {b : Nat} {ad : Nat → Nat} : ∀ (vs : List Value), (lg_sl (vs.map (am_cv b ad))).length = (vs.flatMap fun v => if v.category = 2 then [v, Value.retAddr 0] else [v]).length
  | [] => rfl
  | v :: vs => by
    have ih := am_exp_len (b := b) (ad := ad) vs
    unfold lg_sl at ih ⊢
    rw [List.map_cons, List.flatMap_cons, List.flatMap_cons, List.length_append, List.length_append, ih, am_cv_cat]
    split <;> rfl
theorem am_exp_at {b : Nat} {ad : Nat → Nat} : ∀ (vs : List Value) (k i : Nat) (v : Value), (vs.flatMap fun v => if v.category = 2 then [v, Value.retAddr 0] else [v])[i]? = some v → (∀ z, v ≠ Value.retAddr z) → (k + i, am_cv b ad v) ∈ lv_args k (vs.map (am_cv b ad))
  | [], k, i, v, h, _ => by simp at h
  | u9 :: vs, k, i, v, h, hv => by
    rw [List.flatMap_cons] at h
    rw [List.map_cons]
    unfold lv_args
    rw [am_cv_cat]
    by_cases hc : u9.category = 2
    · rw [if_pos hc] at h ⊢
      match i, h with
      | 0, h => cases h; exact List.mem_cons_self
      | 1, h => cases h; exact absurd rfl (hv 0)
      | i + 2, h =>
        have h2 : (vs.flatMap fun v => if v.category = 2 then [v, Value.retAddr 0] else [v])[i]? = some v := h
        have h3 := am_exp_at (b := b) (ad := ad) vs (k + 2) i v h2 hv
        rw [show k + (i + 2) = k + 2 + i by omega]
        exact List.mem_cons_of_mem _ h3
    · rw [if_neg hc] at h ⊢
      match i, h with
      | 0, h => cases h; exact List.mem_cons_self
      | i + 1, h =>
        have h2 : (vs.flatMap fun v => if v.category = 2 then [v, Value.retAddr 0] else [v])[i]? = some v := h
        have h3 := am_exp_at (b := b) (ad := ad) vs (k + 1) i v h2 hv
        rw [show k + (i + 1) = k + 1 + i by omega]
        exact List.mem_cons_of_mem _ h3
theorem am_ent_lr {b : Nat} {ad : Nat → Nat} {n : Nat} {vs : List Value} (h : (am_ent n vs).length = n) : am_lr b ad (am_ent n vs) ((lg_sl (vs.map (am_cv b ad)) ++ List.replicate (n - (lg_sl (vs.map (am_cv b ad))).length) Slot.unset).toArray) n := by
  have hl : (lg_sl (vs.map (am_cv b ad))).length ≤ n := by
    rw [am_exp_len]
    unfold am_ent at h
    rw [List.length_append] at h
    omega
  have he := lv_entry (vs.map (am_cv b ad)) hl
  refine ⟨he.1, h, he.2.1, fun i v hi hv => ?_⟩
  unfold am_ent at hi
  by_cases hlt : i < (vs.flatMap fun v => if v.category = 2 then [v, Value.retAddr 0] else [v]).length
  · rw [List.getElem?_append_left hlt] at hi
    have h2 := am_exp_at (b := b) (ad := ad) vs 0 i v hi hv
    rw [Nat.zero_add] at h2
    exact he.2.2 _ h2
  · rw [List.getElem?_append_right (by omega)] at hi
    rw [List.getElem?_replicate] at hi
    split at hi
    · cases hi
      exact absurd rfl (hv 0)
    · cases hi
theorem am_ret_st {X : Nat × (Nat → Int32)} {e9 : am_E} {j : Nat} {ls st : List Value} {M : am_M} {v : Option Value} (h : am_step X e9 j ls st M = some (.inr (.inr v))) : st = v.toList ∧ (e9.1 = .ireturn ∨ e9.1 = .lreturn ∨ e9.1 = .areturn ∨ e9.1 = .return_) := by
  obtain ⟨i9, p0, r1, r2, r3⟩ := e9
  cases i9
  case ireturn =>
    simp only [am_step, am_ret] at h
    split at h <;> first | (cases h; done) | (rename_i z9; cases z9; done) | skip
    all_goals (first | (split at h <;> first | (cases h; exact ⟨rfl, Or.inl rfl⟩) | (cases h; done)) | (cases h; done) | skip)
  case lreturn =>
    simp only [am_step, am_ret] at h
    split at h <;> first | (cases h; exact ⟨rfl, Or.inr (Or.inl rfl)⟩) | (cases h; done) | (rename_i z9; cases z9; done) | skip
  case areturn =>
    simp only [am_step, am_ret] at h
    split at h <;> first | (cases h; exact ⟨rfl, Or.inr (Or.inr (Or.inl rfl))⟩) | (cases h; done) | (rename_i z9; cases z9; done) | skip
  case return_ =>
    simp only [am_step, am_ret] at h
    split at h <;> first | (cases h; exact ⟨rfl, Or.inr (Or.inr (Or.inr rfl))⟩) | (cases h; done) | (rename_i z9; cases z9; done) | skip
  all_goals first
    | (simp [am_step] at h; done)
    | (exfalso; simp only [am_step, am_lda, am_ldi, am_ldl, am_sti, am_sta, am_stl, am_inc, am_getf, am_putf, am_iald, am_bald, am_lald, am_aald, am_iast, am_bast, am_last, am_aast, am_alen, am_ii, am_i1, am_ll, am_idiv, am_ldiv, am_lneg, am_i2l, am_l2i, am_lcmp, am_dup, am_pop, am_dup2, am_icmp, am_ifc, am_sw, am_new, am_newa, am_anew, am_mna, am_ret, am_inv, am_nx] at h; (repeat' split at h) <;> cases h)
theorem am_step_mono {X : Nat × (Nat → Int32)} {e9 : am_E} {j j' : Nat} {ls st ls' st' : List Value} {M M' : am_M} (h : am_step X e9 j ls st M = some (.inl (j', ls', st', M'))) : M.1.length ≤ M'.1.length ∧ am_sz M ≤ am_sz M' := by
  obtain ⟨i9, p0, r1, r2, r3⟩ := e9
  cases i9
  all_goals first
    | (simp [am_step] at h; done)
    | (simp only [am_step, am_lda, am_ldi, am_ldl, am_sti, am_sta, am_stl, am_inc, am_getf, am_putf, am_iald, am_bald, am_lald, am_aald, am_iast, am_bast, am_last, am_aast, am_alen, am_ii, am_i1, am_ll, am_idiv, am_ldiv, am_lneg, am_i2l, am_l2i, am_lcmp, am_dup, am_pop, am_dup2, am_icmp, am_ifc, am_sw, am_new, am_newa, am_anew, am_mna, am_ret, am_inv, am_nx] at h
       (repeat' split at h) <;> first
         | (cases h; exact ⟨Nat.le_refl _, Nat.le_refl _⟩)
         | (cases h; simp [am_sz, List.sum_append, List.length_append]; done)
         | (cases h; done))
theorem am_call_st {X : Nat × (Nat → Int32)} {e9 : am_E} {j y : Nat} {ls st vs rest : List Value} {M : am_M} (h : am_step X e9 j ls st M = some (.inr (.inl (y, vs, rest)))) : ∃ ix, (e9.1 = .invokevirtual ix ∨ e9.1 = .invokestatic ix ∨ e9.1 = .invokespecial ix) ∧ e9.2.2.1 = y ∧ am_low rest = true ∧ ((e9.2.2.2.2 = 1 ∨ e9.2.2.2.2 = 4) ∧ st = vs.reverse ++ rest ∧ vs.length = e9.2.2.2.1 ∨ ¬ (e9.2.2.2.2 = 1 ∨ e9.2.2.2.2 = 4) ∧ ∃ a us, vs = .ref a :: us ∧ st = us.reverse ++ .ref a :: rest ∧ us.length = e9.2.2.2.1 ∧ am_kd M a = am_k y) := by
  have key : ∀ {y9 n b9 : Nat}, am_inv y9 n b9 j ls st M = some (.inr (.inl (y, vs, rest))) → y9 = y ∧ am_low rest = true ∧ ((b9 = 1 ∨ b9 = 4) ∧ st = vs.reverse ++ rest ∧ vs.length = n ∨ ¬ (b9 = 1 ∨ b9 = 4) ∧ ∃ a us, vs = .ref a :: us ∧ st = us.reverse ++ .ref a :: rest ∧ us.length = n ∧ am_kd M a = am_k y) := by
    intro y9 n b9 h
    simp only [am_inv, am_nx] at h
    split at h
    iterate 8 · exfalso; (repeat' split at h) <;> cases h
    split at h
    · rename_i hb
      split at h
      · rename_i h7
        cases h
        refine ⟨rfl, h7.2, Or.inl ⟨hb, ?_, ?_⟩⟩
        · rw [List.reverse_reverse, List.take_append_drop]
        · rw [List.length_reverse, List.length_take]
          omega
      · cases h
    · rename_i hb
      split at h
      · rename_i hd
        split at h
        · rename_i h7
          cases h
          refine ⟨rfl, h7.2, Or.inr ⟨hb, _, _, rfl, ?_, ?_, h7.1⟩⟩
          · rw [List.reverse_reverse, ← hd, List.take_append_drop]
          · rw [List.length_reverse, List.length_take]
            have h8 := congrArg List.length hd
            rw [List.length_drop, List.length_cons] at h8
            omega
        · cases h
      · cases h
  obtain ⟨i9, p0, r1, r2, r3⟩ := e9
  cases i9
  case invokevirtual ix => exact ⟨ix, Or.inl rfl, key h⟩
  case invokestatic ix => exact ⟨ix, Or.inr (Or.inl rfl), key h⟩
  case invokespecial ix => exact ⟨ix, Or.inr (Or.inr rfl), key h⟩
  all_goals first
    | (simp [am_step] at h; done)
    | (exfalso; simp only [am_step, am_lda, am_ldi, am_ldl, am_sti, am_sta, am_stl, am_inc, am_getf, am_putf, am_iald, am_bald, am_lald, am_aald, am_iast, am_bast, am_last, am_aast, am_alen, am_ii, am_i1, am_ll, am_idiv, am_ldiv, am_lneg, am_i2l, am_l2i, am_lcmp, am_dup, am_pop, am_dup2, am_icmp, am_ifc, am_sw, am_new, am_newa, am_anew, am_mna, am_ret, am_inv, am_nx] at h; (repeat' split at h) <;> cases h)
theorem am_ex_mono2 {X : Nat × (Nat → Int32)} : ∀ (n : Nat) {d mid j : Nat} {ls st : List Value} {M M' : am_M} {v : Option Value}, am_ex X n d mid j ls st M = some (v, M') → M.1.length ≤ M'.1.length ∧ am_sz M ≤ am_sz M' := by
  intro n
  induction n with
  | zero => intro d mid j ls st M M' v h; simp [am_ex] at h
  | succ n ih =>
    intro d mid j ls st M M' v h
    simp only [am_ex] at h
    cases hb : (am_cd mid j).bind (fun e => am_step X e j ls st M) with
    | none => rw [hb] at h; cases h
    | some a9 =>
      rw [hb] at h
      obtain ⟨e9, -, hs⟩ := Option.bind_eq_some_iff.mp hb
      match a9, h, hs with
      | .inl q, h, hs =>
        have h1 := am_step_mono hs
        have h2 := ih h
        exact ⟨Nat.le_trans h1.1 h2.1, Nat.le_trans h1.2 h2.2⟩
      | .inr (.inr u9), h, hs => cases h; exact ⟨Nat.le_refl _, Nat.le_refl _⟩
      | .inr (.inl q), h, hs =>
        match d, h with
        | d + 1, h =>
          simp only at h
          split at h
          · cases h1 : am_ex X n d q.1 0 (am_ent (am_nL q.1) q.2.1) [] M with
            | none => rw [h1] at h; cases h
            | some r1 =>
              obtain ⟨u9, M1⟩ := r1
              rw [h1] at h
              have h2 := ih h1
              have h3 := ih h
              exact ⟨Nat.le_trans h2.1 h3.1, Nat.le_trans h2.2 h3.2⟩
          · cases h
section SN6
variable {p : Program} {l : Launch} {e : Env} {R : Room} {s : State} {m : MethodId} {args : Array Value} {below : List Frame} {meth : Method} {c : Code} {Q : State → Prop}
variable {b : Nat} {ad : Nat → Nat} {D : va_G} {cy : Nat → ClassId} {X : Nat × (Nat → Int32)} {mid cells slots j : Nat} {ls st : List Value} {M M1 : am_M}

theorem am_after {H : Heap} {locs : List Loc} {mc ms : Nat} {cls : Array Slot} {st0 rest : List Value} {v1 : Option Value} {a9 : Array Value} (hl : am_lr b ad ls cls (am_nL mid)) (hA : am_At b ad D cy M s cells H locs) (hsz : H.size = b + M.1.length) (hle : M.1.length ≤ M1.1.length) (hmc : mc = M1.1.length - M.1.length) (hn : am_pc mid (j + 1) = am_pc mid j + 3) (hb : b ≤ s.heap.size)
    (hr : va_Run p l e R s m args below meth c H locs cells slots mc ms (F0 m (am_pc mid j) cls st0) (rest.map (am_cv b ad)) (am_Qc b ad D cy v1 M1 a9) (am_A b)) (kk : am_G p l e R s m args below meth c Q b ad D cy mid (cells + mc) (slots + ms) (j + 1) ls (v1.toList ++ rest) M1) : W p l e R s m args below meth c H locs cells slots Q (F0 m (am_pc mid j) cls st0) := by
  refine am_cont hr (fun v st₀ t L h0 hq hL => ?_)
  obtain ⟨q0, q1, q2, q3, q4⟩ := hq
  cases q0
  rw [h0] at q3 q4
  have h := kk t.heap (locs ++ L) cls hl ⟨q1, by have := hA.2.1; omega, q2, Nat.le_trans hA.2.2.2.1 q3, fun q9 h1 h2 => (q4 q9 (Nat.not_le.mp h2)).trans (hA.2.2.2.2.1 q9 h1 h2), fun l9 hl9 => by
    rcases List.mem_append.mp hl9 with h9 | h9
    · exact hA.2.2.2.2.2 l9 h9
    · exact hL l9 h9⟩
  rw [hn, List.map_append] at h
  have e9 : (Option.map (am_cv b ad) v1).toList = v1.toList.map (am_cv b ad) := by cases v1 <;> rfl
  rw [e9]
  exact h
theorem am_preP {vs : List Value} {H : Heap} {locs : List Loc} (C : am_Ctx b ad D cy X mid p s m args meth c) (hA : am_At b ad D cy M s cells H locs) (hsz : H.size = b + M.1.length) : ∀ U : State, U.heap = H → s.WarmedH U.vm → am_Pc b ad D cy X vs M ((vs.map (am_cv b ad)).toArray) U := by
  intro U hU hW
  refine ⟨rfl, by rw [hU]; exact hA.1, by rw [hU]; exact hsz, ?_⟩
  refine am_Kn_warm C.2.2.2.2.2.2.2.2.1 hW C.2.2.2.2.2.2.2.2.2.1 (fun q9 hq9 => ?_)
  rw [hU]
  exact hA.2.2.2.2.1 q9 (Nat.lt_of_lt_of_le hq9 C.2.2.2.2.2.2.2.2.2.1) (Nat.not_le.mpr hq9)
theorem sd_callV {ix p0 y n9 d mc ms a : Nat} {us rest : List Value} {v1 : Option Value} (C : am_Ctx b ad D cy X mid p s m args meth c) (hc : am_cd mid j = some (.invokevirtual ix, p0, y, n9, 0)) (hy : y < 204) (hR : 8 + (d + 1) ≤ R.frames ∧ 300 + 40 * (d + 1) ≤ R.locals) (hw : am_low rest = true) (hlen : us.length = n9) (hk : am_kd M a = am_k y)
    (hM : Met l (am_y y) (am_wy y) (am_rm d mc ms) (am_Pc b ad D cy X (.ref a :: us) M) (am_Qc b ad D cy v1 M1) mc ms (am_A b)) (hle : M.1.length ≤ M1.1.length) (hmc : mc = M1.1.length - M.1.length) (hcap : cells + mc ≤ R.cells ∧ slots + ms ≤ R.slots) (kk : am_G p l e R s m args below meth c Q b ad D cy mid (cells + mc) (slots + ms) (j + 1) ls (v1.toList ++ rest) M1) : am_G p l e R s m args below meth c Q b ad D cy mid cells slots j ls (us.reverse ++ .ref a :: rest) M := by
  intro H locs cls hl hA
  refine am_size C.2.2.2.2.2.2.2.2.2.1 hA (fun hsz => ?_)
  obtain ⟨hd, hck⟩ := am_fact (am_lt C) hc
  simp only [am_ck, am_callok, Bool.and_eq_true, if_neg (show ¬ 1000 ≤ y by omega), decide_eq_true_eq] at hck
  obtain ⟨-, ⟨⟨-, hnp⟩, hlk⟩, -⟩ := hck
  obtain ⟨f1, f2, f3, f4, f5, f6⟩ := am_yfacts hy
  obtain ⟨k1, k2⟩ := am_k_ok y hy
  have hne := (am_nm_ok (am_k y) (by omega)).1
  rw [← f3] at hne
  have hn := am_next (am_lt C) hc rfl
  have hlow := lv_room (m := m) (pc := am_pc mid j) (ls := cls) (rest := (us.reverse ++ .ref a :: rest).map (am_cv b ad)) (am_low_of (b := b) (ad := ad) hw)
  have hpre := am_preP (vs := .ref a :: us) C hA hsz
  have hrm : (am_rm d mc ms).frames + 1 ≤ R.frames ∧ 8 + (am_nL y + 11) + (am_rm d mc ms).locals ≤ R.locals := by
    show 8 + d + 1 ≤ _ ∧ 8 + (am_nL y + 11) + (300 + 40 * d) ≤ _
    omega
  have hin : ∀ w9 ∈ am_wy y, w9 ∈ am_big := am_wy_in hy
  obtain ⟨n2, hn2⟩ := am_kd_of hk (by omega)
  obtain ⟨hq1, hq2⟩ := am_place hA.2.2.1 hn2
  have he2 := am_ws_get (cy := cy) (b := b) (ad := ad) hq1
  rw [am_cell_obj hn2 (by omega)] at he2
  obtain ⟨Cn, T, N, ty, hcl, hty, hnm⟩ := am_class k1
  obtain ⟨e1, -⟩ := am_cl_facts k1 hcl
  have hrecv := va_recv C.2.2.2.2.2.2.2.2.1.1 hA.1 hcl he2
  rw [show (Cn, T, N).1 = (am_y y).cls from by rw [f3]; exact e1] at hrecv
  simp only [Bool.and_eq_true, beq_iff_eq] at hlk
  obtain ⟨g1, g2⟩ := f6 hlk.2
  have hlink := am_lk_mem hlk.1
  have hcw := cwV (rm := am_rm d mc ms) (R := R) n9 C.2.2.2.2.1 (am_goodIn (ws := wsV (am_nm (am_k mid)) ix (am_y y).cls (am_y y) (am_wy y)) (fun w9 hw9 => by
    unfold wsV at hw9
    rcases List.mem_append.mp hw9 with h9 | h9
    · simp only [List.mem_cons, List.not_mem_nil, or_false] at h9
      rcases h9 with rfl | rfl | rfl | rfl
      · exact hlink
      · exact g1
      · exact g2
      · exact f2
    · exact hin w9 h9)) (by rfl) rfl rfl ⟨rfl, hne.1, hne.2, hnp⟩ hrm
  refine am_after (M1 := M1) (rest := rest) hl hA hsz hle hmc hn C.2.2.2.2.2.2.2.2.2.1 (va_runV (As := us.map (am_cv b ad)) (rest := rest.map (am_cv b ad)) (b := b + a) ⟨C.1, C.2.1, C.2.2.1, C.2.2.2.1, C.2.2.2.2.1⟩ hM hcw ⟨am_blind, hrecv, fun U hU hW => by have h9 := hpre U hU hW; rw [List.map_cons, show am_cv b ad (.ref a) = .ref (b + a) from congrArg Value.ref (am_ad_lt hq2)] at h9; exact h9⟩ rfl (by rw [List.length_map]; exact hlen) hl.1 (by show (us.reverse ++ .ref a :: rest).map (am_cv b ad) = _; rw [List.map_append, List.map_cons, List.map_reverse, show am_cv b ad (.ref a) = .ref (b + a) from congrArg Value.ref (am_ad_lt hq2)]) hlow hd hcap) kk
theorem sd_callS {ix p0 y n9 d mc ms a : Nat} {us rest : List Value} {v1 : Option Value} (C : am_Ctx b ad D cy X mid p s m args meth c) (hc : am_cd mid j = some (.invokestatic ix, p0, y, n9, 1)) (hy : y < 204) (hR : 8 + (d + 1) ≤ R.frames ∧ 300 + 40 * (d + 1) ≤ R.locals) (hw : am_low rest = true) (hlen : us.length = n9) 
    (hM : Met l (am_y y) (am_wy y) (am_rm d mc ms) (am_Pc b ad D cy X (us) M) (am_Qc b ad D cy v1 M1) mc ms (am_A b)) (hle : M.1.length ≤ M1.1.length) (hmc : mc = M1.1.length - M.1.length) (hcap : cells + mc ≤ R.cells ∧ slots + ms ≤ R.slots) (kk : am_G p l e R s m args below meth c Q b ad D cy mid (cells + mc) (slots + ms) (j + 1) ls (v1.toList ++ rest) M1) : am_G p l e R s m args below meth c Q b ad D cy mid cells slots j ls (us.reverse ++ rest) M := by
  intro H locs cls hl hA
  refine am_size C.2.2.2.2.2.2.2.2.2.1 hA (fun hsz => ?_)
  obtain ⟨hd, hck⟩ := am_fact (am_lt C) hc
  simp only [am_ck, am_callok, Bool.and_eq_true, if_neg (show ¬ 1000 ≤ y by omega), decide_eq_true_eq] at hck
  obtain ⟨-, ⟨⟨-, hnp⟩, hlk⟩, -⟩ := hck
  obtain ⟨f1, f2, f3, f4, f5, f6⟩ := am_yfacts hy
  obtain ⟨k1, k2⟩ := am_k_ok y hy
  have hne := (am_nm_ok (am_k y) (by omega)).1
  rw [← f3] at hne
  have hn := am_next (am_lt C) hc rfl
  have hlow := lv_room (m := m) (pc := am_pc mid j) (ls := cls) (rest := (us.reverse ++ rest).map (am_cv b ad)) (am_low_of (b := b) (ad := ad) hw)
  have hpre := am_preP (vs := us) C hA hsz
  have hrm : (am_rm d mc ms).frames + 1 ≤ R.frames ∧ 8 + (am_nL y + 11) + (am_rm d mc ms).locals ≤ R.locals := by
    show 8 + d + 1 ≤ _ ∧ 8 + (am_nL y + 11) + (300 + 40 * d) ≤ _
    omega
  have hin : ∀ w9 ∈ am_wy y, w9 ∈ am_big := am_wy_in hy
  simp only [Bool.and_eq_true, beq_iff_eq] at hlk
  have g1 := f4 hlk.2.1
  have hlink := am_lk_mem hlk.1
  have hcw := cwS (rm := am_rm d mc ms) (R := R) n9 C.2.2.2.2.1 (am_goodIn (ws := wsS (am_nm (am_k mid)) ix (am_y y) (am_wy y)) (fun w9 hw9 => by
    unfold wsS at hw9
    rcases List.mem_append.mp hw9 with h9 | h9
    · simp only [List.mem_cons, List.not_mem_nil, or_false] at h9
      rcases h9 with rfl | rfl | rfl
      · exact hlink
      · exact g1
      · rw [hlk.2.2, ← f3]; exact f2
    · exact hin w9 h9)) (by rfl) rfl rfl ⟨by rw [f3, hlk.2.2], hne.1, hne.2, hnp⟩ hrm
  refine am_after (M1 := M1) (rest := rest) hl hA hsz hle hmc hn C.2.2.2.2.2.2.2.2.2.1 (va_runS (As := us.map (am_cv b ad)) (rest := rest.map (am_cv b ad)) ⟨C.1, C.2.1, C.2.2.1, C.2.2.2.1, C.2.2.2.2.1⟩ hM hcw ⟨am_blind, hpre⟩ rfl (by rw [List.length_map]; exact hlen) hl.1 (by show (us.reverse ++ rest).map (am_cv b ad) = _; rw [List.map_append, List.map_reverse]) hlow hd hcap) kk
theorem sd_callI {ix p0 y n9 d mc ms a : Nat} {us rest : List Value} {v1 : Option Value} (C : am_Ctx b ad D cy X mid p s m args meth c) (hc : am_cd mid j = some (.invokespecial ix, p0, y, n9, 2)) (hy : y < 204) (hR : 8 + (d + 1) ≤ R.frames ∧ 300 + 40 * (d + 1) ≤ R.locals) (hw : am_low rest = true) (hlen : us.length = n9) (hk : am_kd M a = am_k y)
    (hM : Met l (am_y y) (am_wy y) (am_rm d mc ms) (am_Pc b ad D cy X (.ref a :: us) M) (am_Qc b ad D cy v1 M1) mc ms (am_A b)) (hle : M.1.length ≤ M1.1.length) (hmc : mc = M1.1.length - M.1.length) (hcap : cells + mc ≤ R.cells ∧ slots + ms ≤ R.slots) (kk : am_G p l e R s m args below meth c Q b ad D cy mid (cells + mc) (slots + ms) (j + 1) ls (v1.toList ++ rest) M1) : am_G p l e R s m args below meth c Q b ad D cy mid cells slots j ls (us.reverse ++ .ref a :: rest) M := by
  intro H locs cls hl hA
  refine am_size C.2.2.2.2.2.2.2.2.2.1 hA (fun hsz => ?_)
  obtain ⟨hd, hck⟩ := am_fact (am_lt C) hc
  simp only [am_ck, am_callok, Bool.and_eq_true, if_neg (show ¬ 1000 ≤ y by omega), decide_eq_true_eq] at hck
  obtain ⟨-, ⟨⟨-, hnp⟩, hlk⟩, -⟩ := hck
  obtain ⟨f1, f2, f3, f4, f5, f6⟩ := am_yfacts hy
  obtain ⟨k1, k2⟩ := am_k_ok y hy
  have hne := (am_nm_ok (am_k y) (by omega)).1
  rw [← f3] at hne
  have hn := am_next (am_lt C) hc rfl
  have hlow := lv_room (m := m) (pc := am_pc mid j) (ls := cls) (rest := (us.reverse ++ .ref a :: rest).map (am_cv b ad)) (am_low_of (b := b) (ad := ad) hw)
  have hpre := am_preP (vs := .ref a :: us) C hA hsz
  have hrm : (am_rm d mc ms).frames + 1 ≤ R.frames ∧ 8 + (am_nL y + 11) + (am_rm d mc ms).locals ≤ R.locals := by
    show 8 + d + 1 ≤ _ ∧ 8 + (am_nL y + 11) + (300 + 40 * d) ≤ _
    omega
  have hin : ∀ w9 ∈ am_wy y, w9 ∈ am_big := am_wy_in hy
  obtain ⟨n2, hn2⟩ := am_kd_of hk (by omega)
  obtain ⟨hq1, hq2⟩ := am_place hA.2.2.1 hn2
  have he2 := am_ws_get (cy := cy) (b := b) (ad := ad) hq1
  rw [am_cell_obj hn2 (by omega)] at he2
  obtain ⟨Cn, T, N, ty, hcl, hty, hnm⟩ := am_class k1
  obtain ⟨e1, -⟩ := am_cl_facts k1 hcl
  have hrecv := va_recv C.2.2.2.2.2.2.2.2.1.1 hA.1 hcl he2
  rw [show (Cn, T, N).1 = (am_y y).cls from by rw [f3]; exact e1] at hrecv
  simp only [Bool.and_eq_true, beq_iff_eq] at hlk
  obtain ⟨g1, g2, g3⟩ := f5 hlk.2
  have hlink := am_lk_mem hlk.1
  have hcw := cwI (rm := am_rm d mc ms) (R := R) (bytes := am_b y) (maxL := am_nL y) n9 C.2.2.2.2.1 (am_goodIn hin) (by unfold am_wy; rw [g3]) rfl rfl (C.2.2.2.2.1 _ f2) (C.2.2.2.2.1 _ hlink) (C.2.2.2.2.1 _ g1) g2 ⟨hne.1, hne.2, hnp⟩ hrm
  refine am_after (M1 := M1) (rest := rest) hl hA hsz hle hmc hn C.2.2.2.2.2.2.2.2.2.1 (va_runI (As := us.map (am_cv b ad)) (rest := rest.map (am_cv b ad)) (b := b + a) ⟨C.1, C.2.1, C.2.2.1, C.2.2.2.1, C.2.2.2.2.1⟩ hM hcw ⟨am_blind, fun U hU hW => by have h9 := hpre U hU hW; rw [List.map_cons, show am_cv b ad (.ref a) = .ref (b + a) from congrArg Value.ref (am_ad_lt hq2)] at h9; exact h9⟩ rfl (by rw [List.length_map]; exact hlen) hl.1 (by show (us.reverse ++ .ref a :: rest).map (am_cv b ad) = _; rw [List.map_append, List.map_cons, List.map_reverse, show am_cv b ad (.ref a) = .ref (b + a) from congrArg Value.ref (am_ad_lt hq2)]) hlow hd hcap) kk
theorem sd_callSN {ix p0 y n9 d mc ms a : Nat} {us rest : List Value} {v1 : Option Value} (C : am_Ctx b ad D cy X mid p s m args meth c) (hc : am_cd mid j = some (.invokestatic ix, p0, y, n9, 4)) (hy : y < 204) (hR : 8 + (d + 1) ≤ R.frames ∧ 300 + 40 * (d + 1) ≤ R.locals) (hw : am_low rest = true) (hlen : us.length = n9) 
    (hM : Met l (am_y y) (am_wy y) (am_rm d mc ms) (am_Pc b ad D cy X (us) M) (am_Qc b ad D cy v1 M1) mc ms (am_A b)) (hle : M.1.length ≤ M1.1.length) (hmc : mc = M1.1.length - M.1.length) (hcap : cells + mc ≤ R.cells ∧ slots + ms ≤ R.slots) (kk : am_G p l e R s m args below meth c Q b ad D cy mid (cells + mc) (slots + ms) (j + 1) ls (v1.toList ++ rest) M1) : am_G p l e R s m args below meth c Q b ad D cy mid cells slots j ls (us.reverse ++ rest) M := by
  intro H locs cls hl hA
  refine am_size C.2.2.2.2.2.2.2.2.2.1 hA (fun hsz => ?_)
  obtain ⟨hd, hck⟩ := am_fact (am_lt C) hc
  simp only [am_ck, am_callok, Bool.and_eq_true, if_neg (show ¬ 1000 ≤ y by omega), decide_eq_true_eq] at hck
  obtain ⟨-, ⟨⟨-, hnp⟩, hlk⟩, -⟩ := hck
  obtain ⟨f1, f2, f3, f4, f5, f6⟩ := am_yfacts hy
  obtain ⟨k1, k2⟩ := am_k_ok y hy
  have hne := (am_nm_ok (am_k y) (by omega)).1
  rw [← f3] at hne
  have hn := am_next (am_lt C) hc rfl
  have hlow := lv_room (m := m) (pc := am_pc mid j) (ls := cls) (rest := (us.reverse ++ rest).map (am_cv b ad)) (am_low_of (b := b) (ad := ad) hw)
  have hpre := am_preP (vs := us) C hA hsz
  have hrm : (am_rm d mc ms).frames + 1 ≤ R.frames ∧ 8 + (am_nL y + 11) + (am_rm d mc ms).locals ≤ R.locals := by
    show 8 + d + 1 ≤ _ ∧ 8 + (am_nL y + 11) + (300 + 40 * d) ≤ _
    omega
  have hin : ∀ w9 ∈ am_wy y, w9 ∈ am_big := am_wy_in hy
  simp only [Bool.and_eq_true, beq_iff_eq] at hlk
  have g1 := f4 hlk.2
  have hnw := C.2.2.2.2.2.2.2.2.1.2.1 (am_k mid, ix, y) (by simpa using hlk.1)
  have hcw := va_cnB (rm := am_rm d mc ms) (R := R) (bytes := am_b y) (maxL := am_nL y) (ret := am_r y) n9 C.2.2.2.2.1 (am_goodIn hin) (by rfl) rfl rfl hnw (C.2.2.2.2.1 _ f2) ⟨hne.1, hne.2, hnp⟩ hrm
  refine am_after (M1 := M1) (rest := rest) hl hA hsz hle hmc hn C.2.2.2.2.2.2.2.2.2.1 (va_runSN (As := us.map (am_cv b ad)) (rest := rest.map (am_cv b ad)) ⟨C.1, C.2.1, C.2.2.1, C.2.2.2.1, C.2.2.2.2.1⟩ hM ⟨hcw, C.2.2.2.2.1 _ g1, trivial⟩ ⟨am_blind, hpre⟩ rfl (by rw [List.length_map]; exact hlen) hl.1 (by show (us.reverse ++ rest).map (am_cv b ad) = _; rw [List.map_append, List.map_reverse]) hlow hd hcap) kk
theorem sd_callIN {ix p0 y n9 d mc ms a : Nat} {us rest : List Value} {v1 : Option Value} (C : am_Ctx b ad D cy X mid p s m args meth c) (hc : am_cd mid j = some (.invokespecial ix, p0, y, n9, 5)) (hy : y < 204) (hR : 8 + (d + 1) ≤ R.frames ∧ 300 + 40 * (d + 1) ≤ R.locals) (hw : am_low rest = true) (hlen : us.length = n9) (hk : am_kd M a = am_k y)
    (hM : Met l (am_y y) (am_wy y) (am_rm d mc ms) (am_Pc b ad D cy X (.ref a :: us) M) (am_Qc b ad D cy v1 M1) mc ms (am_A b)) (hle : M.1.length ≤ M1.1.length) (hmc : mc = M1.1.length - M.1.length) (hcap : cells + mc ≤ R.cells ∧ slots + ms ≤ R.slots) (kk : am_G p l e R s m args below meth c Q b ad D cy mid (cells + mc) (slots + ms) (j + 1) ls (v1.toList ++ rest) M1) : am_G p l e R s m args below meth c Q b ad D cy mid cells slots j ls (us.reverse ++ .ref a :: rest) M := by
  intro H locs cls hl hA
  refine am_size C.2.2.2.2.2.2.2.2.2.1 hA (fun hsz => ?_)
  obtain ⟨hd, hck⟩ := am_fact (am_lt C) hc
  simp only [am_ck, am_callok, Bool.and_eq_true, if_neg (show ¬ 1000 ≤ y by omega), decide_eq_true_eq] at hck
  obtain ⟨-, ⟨⟨-, hnp⟩, hlk⟩, -⟩ := hck
  obtain ⟨f1, f2, f3, f4, f5, f6⟩ := am_yfacts hy
  obtain ⟨k1, k2⟩ := am_k_ok y hy
  have hne := (am_nm_ok (am_k y) (by omega)).1
  rw [← f3] at hne
  have hn := am_next (am_lt C) hc rfl
  have hlow := lv_room (m := m) (pc := am_pc mid j) (ls := cls) (rest := (us.reverse ++ .ref a :: rest).map (am_cv b ad)) (am_low_of (b := b) (ad := ad) hw)
  have hpre := am_preP (vs := .ref a :: us) C hA hsz
  have hrm : (am_rm d mc ms).frames + 1 ≤ R.frames ∧ 8 + (am_nL y + 11) + (am_rm d mc ms).locals ≤ R.locals := by
    show 8 + d + 1 ≤ _ ∧ 8 + (am_nL y + 11) + (300 + 40 * d) ≤ _
    omega
  have hin : ∀ w9 ∈ am_wy y, w9 ∈ am_big := am_wy_in hy
  obtain ⟨n2, hn2⟩ := am_kd_of hk (by omega)
  obtain ⟨hq1, hq2⟩ := am_place hA.2.2.1 hn2
  have he2 := am_ws_get (cy := cy) (b := b) (ad := ad) hq1
  rw [am_cell_obj hn2 (by omega)] at he2
  obtain ⟨Cn, T, N, ty, hcl, hty, hnm⟩ := am_class k1
  obtain ⟨e1, -⟩ := am_cl_facts k1 hcl
  have hrecv := va_recv C.2.2.2.2.2.2.2.2.1.1 hA.1 hcl he2
  rw [show (Cn, T, N).1 = (am_y y).cls from by rw [f3]; exact e1] at hrecv
  simp only [Bool.and_eq_true, beq_iff_eq] at hlk
  obtain ⟨g1, g2, g3⟩ := f5 hlk.2
  have hnw := C.2.2.2.2.2.2.2.2.1.2.1 (am_k mid, ix, y) (by simpa using hlk.1)
  have hcw := va_cnB (rm := am_rm d mc ms) (R := R) (bytes := am_b y) (maxL := am_nL y) (ret := none) n9 C.2.2.2.2.1 (am_goodIn hin) (by unfold am_wy; rw [g3]) rfl rfl hnw (C.2.2.2.2.1 _ f2) ⟨hne.1, hne.2, hnp⟩ hrm
  refine am_after (M1 := M1) (rest := rest) hl hA hsz hle hmc hn C.2.2.2.2.2.2.2.2.2.1 (va_runIN (As := us.map (am_cv b ad)) (rest := rest.map (am_cv b ad)) (b := b + a) ⟨C.1, C.2.1, C.2.2.1, C.2.2.2.1, C.2.2.2.2.1⟩ hM ⟨hcw, g2, C.2.2.2.2.1 _ g1⟩ ⟨am_blind, fun U hU hW => by have h9 := hpre U hU hW; rw [List.map_cons, show am_cv b ad (.ref a) = .ref (b + a) from congrArg Value.ref (am_ad_lt hq2)] at h9; exact h9⟩ rfl (by rw [List.length_map]; exact hlen) hl.1 (by show (us.reverse ++ .ref a :: rest).map (am_cv b ad) = _; rw [List.map_append, List.map_cons, List.map_reverse, show am_cv b ad (.ref a) = .ref (b + a) from congrArg Value.ref (am_ad_lt hq2)]) hlow hd hcap) kk
end SN6
