/-! ===== the whole run of a method ===== -/
theorem am_pc0 : ∀ y, y < 205 → am_pc y 0 = 0 := by decide +kernel
theorem sd_ret {p : Program} {l : Launch} {e : Env} {R : Room} {s : State} {m : MethodId} {args : Array Value} {below : List Frame} {meth : Method} {c : Code} {b : Nat} {ad : Nat → Nat} {D : va_G} {cy : Nat → ClassId} {X : Nat × (Nat → Int32)} {mid cells slots j : Nat} {ls : List Value} {M : am_M} {v : Option Value} (C : am_Ctx b ad D cy X mid p s m args meth c) (hs : (am_cd mid j).bind (fun e9 => am_step X e9 j ls v.toList M) = some (.inr (.inr v))) :
    am_G p l e R s m args below meth c (MQ below (am_Qc b ad D cy v M) args s cells slots (am_A b)) b ad D cy mid cells slots j ls v.toList M := by
  intro H locs cls hl hA
  obtain ⟨e9, hc, hs⟩ := Option.bind_eq_some_iff.mp hs
  obtain ⟨hd, hck⟩ := am_fact (am_lt C) hc
  obtain ⟨-, hi⟩ := am_ret_st hs
  obtain ⟨i9, p0, r1, r2, r3⟩ := e9
  have hx := C.1
  have hb := C.2.1
  have hr := C.2.2.2.2.2.1
  have hlocks : meth.locks = false := C.2.2.2.2.2.2.1
  have hq : ∀ (t : State) (o9 : Outcome), t.heap = H → o9 = .returned (v.map (am_cv b ad)) → am_Qc b ad D cy v M args s o9 t := fun t o9 ht ho => ⟨ho, by rw [ht]; exact hA.1, hA.2.2.1, by rw [ht]; exact hA.2.2.2.1, fun q hq => by rw [ht]; exact hA.2.2.2.2.1 q (Nat.lt_of_lt_of_le hq C.2.2.2.2.2.2.2.2.2.1) (Nat.not_le.mpr hq)⟩
  have hf := hA.2.2.2.2.2
  simp only at hi
  rcases hi with rfl | rfl | rfl | rfl
  · simp only [am_step, am_ret] at hs
    simp only [am_ck, Bool.and_eq_true, decide_eq_true_eq] at hck
    match v, hs, hq with
    | some (.int x), hs, hq =>
      simp only [Option.toList] at hs
      split at hs
      · rename_i h7
        rcases hck.2 with ⟨z1, z2⟩ | ⟨z1, z2⟩
        · exact W.iret hx hb (by rw [hr, z2]) (fun t ht _ => hq t _ ht rfl) hf hd
        · refine W.zret (ty := .boolean) hx hb (by rw [hr, z2]) ?_ (fun t ht _ => hq t _ ht rfl) hf hd
          rcases h7 with h7 | rfl | rfl
          · omega
          · rfl
          · rfl
      · cases hs
    | none, hs, _ => cases hs
    | some (.long x), hs, _ => cases hs
    | some (.float x), hs, _ => cases hs
    | some (.double x), hs, _ => cases hs
    | some .null, hs, _ => cases hs
    | some (.ref x), hs, _ => cases hs
    | some (.retAddr x), hs, _ => cases hs
  · simp only [am_step, am_ret] at hs
    simp only [am_ck, Bool.and_eq_true, decide_eq_true_eq] at hck
    match v, hs, hq with
    | some (.long x), hs, hq => exact W.lret hx hb (by rw [hr, hck.2]) (fun t ht _ => hq t _ ht rfl) hf hd
    | none, hs, _ => cases hs
    | some (.int x), hs, _ => cases hs
    | some (.float x), hs, _ => cases hs
    | some (.double x), hs, _ => cases hs
    | some .null, hs, _ => cases hs
    | some (.ref x), hs, _ => cases hs
    | some (.retAddr x), hs, _ => cases hs
  · simp only [am_step, am_ret] at hs
    simp only [am_ck, Bool.and_eq_true] at hck
    match v, hs, hq with
    | some (.ref x), hs, hq =>
      have h2 := hck.2
      split at h2
      · rename_i n9 hn9
        exact W.aret (rt := .object n9) hx hb (by rw [hr, hn9]) (Or.inl ⟨_, rfl⟩) (Or.inr ⟨_, rfl⟩) (fun t ht _ => hq t _ ht rfl) hf hd
      · cases h2
    | none, hs, _ => cases hs
    | some (.int x), hs, _ => cases hs
    | some (.long x), hs, _ => cases hs
    | some (.float x), hs, _ => cases hs
    | some (.double x), hs, _ => cases hs
    | some .null, hs, _ => cases hs
    | some (.retAddr x), hs, _ => cases hs
  · simp only [am_step, am_ret] at hs
    simp only [am_ck, Bool.and_eq_true, decide_eq_true_eq] at hck
    match v, hs, hq with
    | none, hs, hq => exact W.vret hx hb (by rw [hr, hck.2]) (fun t ht _ => hq t _ ht rfl) hf hd
    | some (.int x), hs, _ => cases hs
    | some (.long x), hs, _ => cases hs
    | some (.float x), hs, _ => cases hs
    | some (.double x), hs, _ => cases hs
    | some .null, hs, _ => cases hs
    | some (.ref x), hs, _ => cases hs
    | some (.retAddr x), hs, _ => cases hs
/-- what the run of n steps at most gives -/
def am_Snd (l : Launch) (b : Nat) (ad : Nat → Nat) (D : va_G) (cy : Nat → ClassId) (X : Nat × (Nat → Int32)) (n : Nat) : Prop :=
  ∀ (d mid j : Nat) (ls st : List Value) (M : am_M) (v : Option Value) (M' : am_M), am_ex X n d mid j ls st M = some (v, M') → M'.1.length ≤ 1000000 →
    ∀ (p : Program) (e : Env) (R : Room) (s : State) (m : MethodId) (args : Array Value) (below : List Frame) (meth : Method) (c : Code) (Q : State → Prop) (cells slots : Nat), am_Ctx b ad D cy X mid p s m args meth c → (8 + d ≤ R.frames ∧ 300 + 40 * d ≤ R.locals) → (cells + (M'.1.length - M.1.length) ≤ R.cells ∧ slots + (am_sz M' - am_sz M) ≤ R.slots) →
    (∀ (j' : Nat) (ls' : List Value) (c9 s9 : Nat), (am_cd mid j').bind (fun e9 => am_step X e9 j' ls' v.toList M') = some (.inr (.inr v)) → c9 = cells + (M'.1.length - M.1.length) → s9 = slots + (am_sz M' - am_sz M) → am_G p l e R s m args below meth c Q b ad D cy mid c9 s9 j' ls' v.toList M') →
    am_G p l e R s m args below meth c Q b ad D cy mid cells slots j ls st M
theorem am_met {l : Launch} {b : Nat} {ad : Nat → Nat} {D : va_G} {cy : Nat → ClassId} {X : Nat × (Nat → Int32)} {n d y : Nat} {vs : List Value} {M M' : am_M} {v : Option Value} (ih : am_Snd l b ad D cy X n) (hy : y < 204) (hex : am_ex X n d y 0 (am_ent (am_nL y) vs) [] M = some (v, M')) (hlen : (am_ent (am_nL y) vs).length = am_nL y) (hN : M'.1.length ≤ 1000000) (hwf : am_wf M) :
    Met l (am_y y) (am_wy y) (am_rm d (M'.1.length - M.1.length) (am_sz M' - am_sz M)) (am_Pc b ad D cy X vs M) (am_Qc b ad D cy v M') (M'.1.length - M.1.length) (am_sz M' - am_sz M) (am_A b) := by
  obtain ⟨f1, f2, f3, f4, f5, f6⟩ := am_yfacts hy
  obtain ⟨k1, k2⟩ := am_k_ok y hy
  refine Met.ofW (cc := am_b y) (maxL := am_nL y) (ret := am_r y) (by rw [f3]; exact (am_nm_ok (am_k y) (by omega)).2) rfl ?_
  intro p e s m args below meth c s₁ B hml hv
  obtain ⟨rfl, hP, hsz, hK⟩ := hv
  have hts := atoms_spec (ws := am_wy y) B.pre
  have hown : s.vm.findClass (am_y y).cls = some m.cls := findClass_of_methodNamed B.named
  rw [f3] at hown
  have C : am_Ctx b ad D cy X y p s m (vs.map (am_cv b ad)).toArray meth c := ⟨B.exec, B.bytes, hml, hown, fun w9 hw => hts w9 (List.mem_cons_of_mem _ hw), B.returns, B.notSynchronized, fun z => ((name_of_methodNamed B.named B.method).1).trans (f5 z).2.1, hK, by rw [hsz]; exact Nat.le_add_right _ _, by omega⟩
  have h := ih d y 0 _ [] M v M' hex hN p e (headSpec (am_wy y) (am_rm d (M'.1.length - M.1.length) (am_sz M' - am_sz M))).room s m (vs.map (am_cv b ad)).toArray below meth c (MQ below (am_Qc b ad D cy v M') (vs.map (am_cv b ad)).toArray s (M'.1.length - M.1.length) (am_sz M' - am_sz M) (am_A b)) 0 0 C ⟨Nat.le_refl _, Nat.le_refl _⟩ ⟨by rw [Nat.zero_add]; exact Nat.le_refl _, by rw [Nat.zero_add]; exact Nat.le_refl _⟩ (fun j' ls' c9 s9 hs h1 h2 => by
    rw [Nat.zero_add] at h1 h2
    rw [h1, h2]
    exact sd_ret C hs)
  have h2 := h s.heap [] _ (am_ent_lr hlen) ⟨hP, by rw [hsz]; rfl, hwf, va_S.rf⟩
  rw [lg_entry_eq]
  have hpc : am_pc y 0 = 0 := am_pc0 y (by omega)
  rw [hpc] at h2
  exact h2
theorem am_sound (l : Launch) (b : Nat) (ad : Nat → Nat) (D : va_G) (cy : Nat → ClassId) (X : Nat × (Nat → Int32)) : ∀ n, am_Snd l b ad D cy X n := by
  intro n
  induction n with
  | zero => intro d mid j ls st M v M' h; simp [am_ex] at h
  | succ n ih =>
    intro d mid j ls st M v M' h hN p e R s m args below meth c Q cells slots C hR hcap hret
    simp only [am_ex] at h
    cases hb : (am_cd mid j).bind (fun e => am_step X e j ls st M) with
    | none => rw [hb] at h; cases h
    | some a9 =>
      rw [hb] at h
      obtain ⟨e9, hc, hs⟩ := Option.bind_eq_some_iff.mp hb
      match a9, h, hs with
      | .inl (j1, ls1, st1, M1), h, hs =>
        have m1 := am_step_mono hs
        have m2 := am_ex_mono2 n h
        dsimp only at h m2
        refine am_step_ok C hc hs (by omega) ⟨by omega, by omega⟩ ⟨by omega, by omega⟩ (fun c9 s9 hc9 hs9 => ?_)
        refine ih d mid j1 ls1 st1 M1 v M' h hN p e R s m args below meth c Q c9 s9 C hR ⟨by omega, by omega⟩ (fun j' ls' c8 s8 hj h1 h2 => hret j' ls' c8 s8 hj (by omega) (by omega))
      | .inr (.inr u9), h, hs =>
        cases h
        have e1 := (am_ret_st hs).1
        subst e1
        exact hret j ls cells slots hb (by omega) (by omega)
      | .inr (.inl (y, vs, rest)), h, hs =>
        match d, h, hR with
        | d + 1, h, hR =>
          simp only at h
          split at h
          · rename_i hlen
            cases h1 : am_ex X n d y 0 (am_ent (am_nL y) vs) [] M with
            | none => rw [h1] at h; cases h
            | some r1 =>
              obtain ⟨v1, M1⟩ := r1
              rw [h1] at h
              have m1 := am_ex_mono2 n h1
              have m2 := am_ex_mono2 n h
              dsimp only at h m1 m2
              have hgo : am_G p l e R s m args below meth c Q b ad D cy mid (cells + (M1.1.length - M.1.length)) (slots + (am_sz M1 - am_sz M)) (j + 1) ls (v1.toList ++ rest) M1 :=
                ih (d + 1) mid (j + 1) ls (v1.toList ++ rest) M1 v M' h hN p e R s m args below meth c Q _ _ C hR ⟨by omega, by omega⟩ (fun j' ls' c8 s8 hj z1 z2 => hret j' ls' c8 s8 hj (by omega) (by omega))
              have hck := (am_fact (am_lt C) hc).2
              obtain ⟨i9, p0, r1, r2, r3⟩ := e9
              obtain ⟨ix, hins, hyy, hlow, hshape⟩ := am_call_st hs
              simp only at hins hyy hshape
              subst hyy
              have hy : r1 < 204 := by
                by_cases h9 : 1000 ≤ r1
                · exfalso
                  rcases hins with rfl | rfl | rfl
                  · simp only [am_ck, if_pos h9, Bool.and_eq_true, Bool.or_eq_true, beq_iff_eq] at hck
                    rcases hck.2.2 with rfl | rfl
                    · simp only [am_step, am_inv, am_nx] at hs
                      (repeat' split at hs) <;> cases hs
                    · simp only [am_step, am_inv, am_nx] at hs
                      (repeat' split at hs) <;> cases hs
                  · simp only [am_ck, if_pos h9, Bool.and_eq_true, decide_eq_true_eq] at hck
                    have h8 : r1 = 1001 ∨ r1 = 1002 ∨ r1 = 1003 ∨ r1 = 1004 ∨ r1 = 1005 := by have := hck.2.2; omega
                    rcases h8 with rfl | rfl | rfl | rfl | rfl
                    all_goals (simp only [am_step, am_inv, am_nx] at hs; (repeat' split at hs) <;> cases hs)
                  · simp only [am_ck, if_pos h9, Bool.and_eq_true, beq_iff_eq] at hck
                    have h8 := hck.2.2
                    subst h8
                    simp only [am_step, am_inv, am_nx] at hs
                    (repeat' split at hs) <;> cases hs
                · rcases hins with rfl | rfl | rfl
                  all_goals (simp only [am_ck, am_callok, if_neg h9, Bool.and_eq_true, decide_eq_true_eq] at hck; exact hck.2.1.1.1)
              have h9 : ¬ 1000 ≤ r1 := by omega
              intro H locs cls hl hA
              have hM := am_met (d := d) (vs := vs) ih hy h1 hlen (by omega) hA.2.2.1
              refine (?_ : am_G p l e R s m args below meth c Q b ad D cy mid cells slots j ls st M) H locs cls hl hA
              rcases hins with rfl | rfl | rfl
              · simp only [am_ck, if_neg h9, Bool.and_eq_true, beq_iff_eq] at hck
                have h8 := hck.2.2
                subst h8
                rcases hshape with ⟨z1, -⟩ | ⟨-, a, us, rfl, rfl, z3, z4⟩
                · omega
                · exact sd_callV C hc hy hR hlow z3 z4 hM m1.1 rfl ⟨by omega, by omega⟩ hgo
              · simp only [am_ck, if_neg h9, Bool.and_eq_true, Bool.or_eq_true, beq_iff_eq] at hck
                rcases hck.2.2 with rfl | rfl
                · rcases hshape with ⟨-, rfl, z3⟩ | ⟨z1, -⟩
                  · exact sd_callS (a := 0) C hc hy hR hlow z3 hM m1.1 rfl ⟨by omega, by omega⟩ hgo
                  · omega
                · rcases hshape with ⟨-, rfl, z3⟩ | ⟨z1, -⟩
                  · exact sd_callSN (a := 0) C hc hy hR hlow z3 hM m1.1 rfl ⟨by omega, by omega⟩ hgo
                  · omega
              · simp only [am_ck, if_neg h9, Bool.and_eq_true, Bool.or_eq_true, beq_iff_eq] at hck
                rcases hck.2.2 with rfl | rfl
                · rcases hshape with ⟨z1, -⟩ | ⟨-, a, us, rfl, rfl, z3, z4⟩
                  · omega
                  · exact sd_callI C hc hy hR hlow z3 z4 hM m1.1 rfl ⟨by omega, by omega⟩ hgo
                · rcases hshape with ⟨z1, -⟩ | ⟨-, a, us, rfl, rfl, z3, z4⟩
                  · omega
                  · exact sd_callIN C hc hy hR hlow z3 z4 hM m1.1 rfl ⟨by omega, by omega⟩ hgo
          · cases h
