/-! ===== makings, and the small calls of the library ===== -/
theorem u0_ne {α : Type} {f : Nat → Nat → α} {a q : Nat} {v : α} (h : q ≠ a) : u0 f a v q = f q := funext (fun i => if_neg h)
theorem u0_at {α : Type} {f : Nat → Nat → α} {a : Nat} {v : α} : u0 f a v a = fun _ => v := funext (fun i => if_pos rfl)
theorem am_rd_app {mr : List (List (Option Nat))} {row : List (Option Nat)} {a i : Nat} (h : a < mr.length) : am_rd (mr ++ [row]) a i = am_rd mr a i := by
  unfold am_rd
  rw [List.getElem?_append_left h]
theorem am_rd_new {mr : List (List (Option Nat))} {row : List (Option Nat)} {i : Nat} : am_rd (mr ++ [row]) mr.length i = (row[i]?).getD none := by
  unfold am_rd
  rw [List.getElem?_append_right (Nat.le_refl _), Nat.sub_self]
  rfl
theorem am_none_row {n i : Nat} : ((List.replicate n (none : Option Nat))[i]?).getD none = none := by
  rw [List.getElem?_replicate]
  split <;> rfl
theorem am_none_map {ts : List Nat} {i : Nat} : ((ts.map (fun _ => (none : Option Nat)))[i]?).getD none = none := by
  rw [List.getElem?_map]
  cases ts[i]? <;> rfl
/-- the memory with one cell more, and what of it is as it was -/
theorem am_grow {M : am_M} {t9 : Nat × Nat} {row : List (Option Nat)} {cy : Nat → ClassId} {b : Nat} {ad : Nat → Nat} (hw : am_wf M) {q9 : Nat} (hq : q9 < M.1.length) : am_cell cy b ad (M.1 ++ [t9], M.2.1 ++ [row], u0 M.2.2.1 M.1.length 0, u0 M.2.2.2 M.1.length 0) q9 = am_cell cy b ad M q9 :=
  am_cell_congr (M := M) (List.getElem?_append_left hq) (u0_ne (Nat.ne_of_lt hq)) (u0_ne (Nat.ne_of_lt hq)) (fun i9 => am_rd_app (by rw [hw.1]; exact hq))
theorem am_grow_wf {M : am_M} {k9 n9 : Nat} {row : List (Option Nat)} {f9 : Nat → Nat → Int32} {g9 : Nat → Nat → Int64} (hw : am_wf M) (hN : M.1.length < 1000000) (h1 : k9 < 100 → k9 < 12 ∧ n9 = (am_ftT.getD k9 []).length) (h2 : 100 ≤ k9 → k9 ≤ 105) : am_wf (M.1 ++ [(k9, n9)], M.2.1 ++ [row], f9, g9) := by
  have key : ∀ (a k n : Nat), (M.1 ++ [(k9, n9)])[a]? = some (k, n) → M.1[a]? = some (k, n) ∨ (k = k9 ∧ n = n9) := by
    intro a k n h
    by_cases hl : a < M.1.length
    · rw [List.getElem?_append_left hl] at h
      exact Or.inl h
    · rw [List.getElem?_append_right (by omega)] at h
      have hz : a - M.1.length < 1 := (List.getElem?_eq_some_iff.mp h).1
      rw [show a - M.1.length = 0 by omega] at h
      cases h
      exact Or.inr ⟨rfl, rfl⟩
  refine ⟨?_, ?_, fun a k n h hk => ?_, fun a k n h hk => ?_⟩
  · show (M.2.1 ++ [row]).length = (M.1 ++ [(k9, n9)]).length
    rw [List.length_append, List.length_append, hw.1]
    rfl
  · show (M.1 ++ [(k9, n9)]).length ≤ 1000000
    rw [List.length_append]
    exact hN
  · rcases key a k n h with h3 | ⟨h3, h4⟩
    · exact hw.2.2.1 a k n h3 hk
    · rw [h3, h4]
      exact h1 (by omega)
  · rcases key a k n h with h3 | ⟨h3, h4⟩
    · exact hw.2.2.2 a k n h3 hk
    · rw [h3]
      exact h2 (by omega)
section SN3
variable {p : Program} {l : Launch} {e : Env} {R : Room} {s : State} {m : MethodId} {args : Array Value} {below : List Frame} {meth : Method} {c : Code} {Q : State → Prop}
variable {b : Nat} {ad : Nat → Nat} {D : va_G} {cy : Nat → ClassId} {X : Nat × (Nat → Int32)} {mid cells slots j : Nat} {ls st : List Value} {M : am_M} {q : Nat × Nat × Nat × Nat} {x y : Int32} {lx ly : Int64} {a ix p0 r1 r2 r3 : Nat}

theorem sd_new {ts : List Nat} (C : am_Ctx b ad D cy X mid p s m args meth c) (hc : am_cd mid j = some (.new ix, p0, r1, r2, r3)) (hts : am_ftT[r1]? = some ts) (hN : M.1.length < 1000000) (hcap : cells + 1 ≤ R.cells) (hcap2 : slots + ts.length ≤ R.slots) (kk : am_G p l e R s m args below meth c Q b ad D cy mid (cells + 1) (slots + ts.length) (j + 1) ls (.ref M.1.length :: st) (M.1 ++ [(r1, ts.length)], M.2.1 ++ [ts.map (fun _ => none)], u0 M.2.2.1 M.1.length 0, u0 M.2.2.2 M.1.length 0)) : am_G p l e R s m args below meth c Q b ad D cy mid cells slots j ls st M := by
  intro H locs cls hl hA
  refine am_size C.2.2.2.2.2.2.2.2.2.1 hA (fun hsz => ?_)
  obtain ⟨hd, hck⟩ := am_fact (am_lt C) hc
  simp only [am_ck, Bool.and_eq_true, decide_eq_true_eq] at hck
  obtain ⟨-, hlk, h12⟩ := hck
  obtain ⟨Cn, T, N, ty, hcl, hty, hnm⟩ := am_class h12
  obtain ⟨e1, e2, e3, e4, e5, e6⟩ := am_cl_facts h12 hcl
  have hg : am_ftT.getD r1 [] = ts := by rw [List.getD_eq_getElem?_getD, hts]; rfl
  have hNt : ts.length = N := by rw [← e4, hg]
  have hlink := C.2.2.2.2.1 _ (am_lk_mem hlk)
  simp only [am_lkw, ← e1] at hlink
  have hK := C.2.2.2.2.2.2.2.2.1.1
  have hKn := hK.1 r1 _ hcl
  have hh := kk
  rw [hNt] at hcap2
  refine W.newcK C.1 C.2.1 C.2.2.2.1 hlink (C.2.2.2.2.1 _ e2) (C.2.2.2.2.1 _ e3) rfl hd hcap hcap2 hKn.2.1 hsz fun H1 kC hkC g1 g2 g3 => ?_
  have hcn : ((M.1 ++ [(r1, ts.length)], M.2.1 ++ [ts.map (fun _ => none)], u0 M.2.2.1 M.1.length 0, u0 M.2.2.2 M.1.length 0) : am_M).1[M.1.length]? = some (r1, ts.length) := by
    show (M.1 ++ [(r1, ts.length)])[M.1.length]? = _
    rw [List.getElem?_append_right (Nat.le_refl _), Nat.sub_self]
    rfl
  have hws : am_ws cy b ad (M.1 ++ [(r1, ts.length)], M.2.1 ++ [ts.map (fun _ => none)], u0 M.2.2.1 M.1.length 0, u0 M.2.2.2 M.1.length 0) = am_ws cy b ad M ++ [(b + M.1.length, .inr (r1, (List.range ts.length).map (am_fv b ad (M.1 ++ [(r1, ts.length)], M.2.1 ++ [ts.map (fun _ => none)], u0 M.2.2.1 M.1.length 0, u0 M.2.2.2 M.1.length 0) r1 M.1.length)))] := by
    refine am_ws_push ?_ (fun q9 hq9 => am_grow hA.2.2.1 hq9) (am_cell_obj hcn (by omega))
    show (M.1 ++ [(r1, ts.length)]).length = _
    rw [List.length_append]
    rfl
  have hfv : ∀ k9, k9 < N → defaultValue (ty k9) = vp_V ((List.range ts.length).map (am_fv b ad (M.1 ++ [(r1, ts.length)], M.2.1 ++ [ts.map (fun _ => none)], u0 M.2.2.1 M.1.length 0, u0 M.2.2.2 M.1.length 0) r1 M.1.length)) k9 := by
    intro k9 hk9
    have h1 := am_ty_of h12 (show k9 < (am_ftT.getD r1 []).length by omega)
    rw [← (e6 k9 hk9).1, hty k9 hk9, am_getD_eq (v := 2) (show k9 < (am_ftT.getD r1 []).length by omega)] at h1
    unfold vp_V
    rw [List.getD_eq_getElem?_getD, List.getElem?_map, List.getElem?_range (by omega)]
    show _ = am_fv b ad (M.1 ++ [(r1, ts.length)], M.2.1 ++ [ts.map (fun _ => none)], u0 M.2.2.1 M.1.length 0, u0 M.2.2.2 M.1.length 0) r1 M.1.length k9
    have hr : am_rd (M.2.1 ++ [ts.map (fun _ => none)]) M.1.length k9 = none := by
      rw [← hA.2.2.1.1, am_rd_new]
      exact am_none_map
    unfold am_fv
    show _ = (match (am_ftT.getD r1 []).getD k9 2 with
      | 0 => Value.int (u0 M.2.2.1 M.1.length 0 M.1.length k9)
      | 1 => .long (u0 M.2.2.2 M.1.length 0 M.1.length k9)
      | _ => va_rf ((am_rd (M.2.1 ++ [ts.map (fun _ => none)]) M.1.length k9).map (am_ad b ad)))
    rw [hr, u0_at, u0_at]
    revert h1
    generalize (am_ftT.getD r1 []).getD k9 2 = t9
    generalize ty k9 = y9
    intro h1
    split at h1
    · rename_i hy
      cases hy
      rfl
    · rename_i hy
      cases hy
      rfl
    · rename_i hy
      cases hy
      rfl
    · rename_i hy
      cases hy
      rfl
    · exact h1.elim
  have hwf := am_grow_wf (k9 := r1) (n9 := ts.length) (row := ts.map (fun _ => none)) (f9 := u0 M.2.2.1 M.1.length 0) (g9 := u0 M.2.2.2 M.1.length 0) hA.2.2.1 hN (fun _ => ⟨h12, by rw [hg]⟩) (fun _ => by omega)
  have hold : ∀ (k9 : Nat) (x9 : Nat × va_E), (am_ws cy b ad M)[k9]? = some x9 → H1[x9.1]? = H[x9.1]? := fun k9 x9 hx => g3 x9.1 (by rw [← hsz]; exact (hA.1 k9 x9 hx).lt)
  have h := kk H1 locs cls hl ⟨by
      rw [hws]
      refine (hA.1.kept hold).app (fun k9 x9 hx => ?_)
      have hz : k9 < 1 := (List.getElem?_eq_some_iff.mp hx).1
      rw [show k9 = 0 by omega] at hx
      cases hx
      exact ⟨_, hcl, (u_born ty C.2.2.2.2.1 e5 hKn hkC g1 hty).to hfv⟩, by
      show b + (M.1 ++ [(r1, ts.length)]).length = _
      rw [List.length_append]
      have := hA.2.1
      show b + (M.1.length + 1) = _
      omega, hwf, ⟨Nat.le_trans hA.2.2.2.1 (by omega), fun x9 h1 h2 => (g3 x9 (by rw [← hsz]; exact Nat.lt_of_lt_of_le h1 hA.2.2.2.1)).trans (hA.2.2.2.2.1 x9 h1 h2), hA.2.2.2.2.2⟩⟩
  rw [am_next (am_lt C) hc rfl, List.map_cons, show am_cv b ad (.ref M.1.length) = .ref (b + M.1.length) from congrArg Value.ref (am_ad_lt hN), hNt] at h
  exact h
theorem sd_newa_int (C : am_Ctx b ad D cy X mid p s m args meth c) (hc : am_cd mid j = some (.newarray .int, q)) (hx0 : 0 ≤ x) (hx1 : x.toNatClampNeg ≤ 65536) (hN : M.1.length < 1000000) (hcap : cells + 1 ≤ R.cells) (hcap2 : slots + x.toNatClampNeg ≤ R.slots) (kk : am_G p l e R s m args below meth c Q b ad D cy mid (cells + 1) (slots + x.toNatClampNeg) (j + 1) ls (.ref M.1.length :: st) (M.1 ++ [(100, x.toNatClampNeg)], M.2.1 ++ [[]], u0 M.2.2.1 M.1.length 0, u0 M.2.2.2 M.1.length 0)) : am_G p l e R s m args below meth c Q b ad D cy mid cells slots j ls (.int x :: st) M := by
  intro H locs cls hl hA
  refine am_size C.2.2.2.2.2.2.2.2.2.1 hA (fun hsz => ?_)
  obtain ⟨hd, -⟩ := am_fact (am_lt C) hc
  have hK := C.2.2.2.2.2.2.2.2.1.1
  have harr : Cond.arrayClass .int ∈ am_big := am_in (of_decide_eq_true (List.all_eq_true.mp am_wh_ok _ (show _ ∈ am_wh from List.mem_of_getElem? (i := 13) rfl))) rfl
  refine va_newaK (atype := .int) C.1 C.2.1 (C.2.2.2.2.1 _ harr) (g := F0 m (am_pc mid j) cls (.int x :: st.map (am_cv b ad))) rfl hd rfl (Int32.not_lt.mpr hx0) rfl (by show _ * componentBytes .int ≤ _; simp only [componentBytes]; omega) hcap hcap2 hsz fun H1 cA g1 g2 g3 g4 g5 => ?_
  have hcA : cA = cy 100 := by
    have h1 : s.vm.findClass ("[" ++ (FieldType.int).toString) = some (cy 100) := (hK.2 0 _ rfl).2
    exact Option.some.inj (g5.symm.trans h1)
  subst hcA
  have hcn : ((M.1 ++ [(100, x.toNatClampNeg)], M.2.1 ++ [[]], u0 M.2.2.1 M.1.length 0, u0 M.2.2.2 M.1.length 0) : am_M).1[M.1.length]? = some (100, x.toNatClampNeg) := by
    show (M.1 ++ [(100, x.toNatClampNeg)])[M.1.length]? = _
    rw [List.getElem?_append_right (Nat.le_refl _), Nat.sub_self]
    rfl
  have hws : am_ws cy b ad (M.1 ++ [(100, x.toNatClampNeg)], M.2.1 ++ [[]], u0 M.2.2.1 M.1.length 0, u0 M.2.2.2 M.1.length 0) = am_ws cy b ad M ++ [(b + M.1.length, .inl (cy 100, x.toNatClampNeg, .inl (u0 M.2.2.1 M.1.length 0 M.1.length)))] := by
    refine am_ws_push ?_ (fun q9 hq9 => am_grow hA.2.2.1 hq9) (am_cell_int (M := (M.1 ++ [(100, x.toNatClampNeg)], M.2.1 ++ [[]], u0 M.2.2.1 M.1.length 0, u0 M.2.2.2 M.1.length 0)) hcn (Or.inl rfl))
    show (M.1 ++ [(100, x.toNatClampNeg)]).length = _
    rw [List.length_append]
    rfl
  have hold : ∀ (k9 : Nat) (x9 : Nat × va_E), (am_ws cy b ad M)[k9]? = some x9 → H1[x9.1]? = H[x9.1]? := fun k9 x9 hx => g3 x9.1 (by rw [← hsz]; exact (hA.1 k9 x9 hx).lt)
  have h := kk H1 locs cls hl ⟨by
      rw [hws]
      refine (hA.1.kept hold).app (fun k9 x9 hx => ?_)
      have hz : k9 < 1 := (List.getElem?_eq_some_iff.mp hx).1
      rw [show k9 = 0 by omega] at hx
      cases hx
      show H1[b + M.1.length]? = some (vp_cell _ _)
      rw [g1, u0_at]
      rfl, by
      show b + (M.1 ++ [(100, x.toNatClampNeg)]).length = _
      rw [List.length_append]
      have := hA.2.1
      show b + (M.1.length + 1) = _
      omega, am_grow_wf hA.2.2.1 hN (fun z => by omega) (fun _ => by omega), ⟨Nat.le_trans hA.2.2.2.1 (by omega), fun x9 h1 h2 => (g3 x9 (by rw [← hsz]; exact Nat.lt_of_lt_of_le h1 hA.2.2.2.1)).trans (hA.2.2.2.2.1 x9 h1 h2), hA.2.2.2.2.2⟩⟩
  rw [am_next (am_lt C) hc rfl, List.map_cons, show am_cv b ad (.ref M.1.length) = .ref (b + M.1.length) from congrArg Value.ref (am_ad_lt hN)] at h
  exact h
theorem sd_newa_byte (C : am_Ctx b ad D cy X mid p s m args meth c) (hc : am_cd mid j = some (.newarray .byte, q)) (hx0 : 0 ≤ x) (hx1 : x.toNatClampNeg ≤ 65536) (hN : M.1.length < 1000000) (hcap : cells + 1 ≤ R.cells) (hcap2 : slots + x.toNatClampNeg ≤ R.slots) (kk : am_G p l e R s m args below meth c Q b ad D cy mid (cells + 1) (slots + x.toNatClampNeg) (j + 1) ls (.ref M.1.length :: st) (M.1 ++ [(101, x.toNatClampNeg)], M.2.1 ++ [[]], u0 M.2.2.1 M.1.length 0, u0 M.2.2.2 M.1.length 0)) : am_G p l e R s m args below meth c Q b ad D cy mid cells slots j ls (.int x :: st) M := by
  intro H locs cls hl hA
  refine am_size C.2.2.2.2.2.2.2.2.2.1 hA (fun hsz => ?_)
  obtain ⟨hd, -⟩ := am_fact (am_lt C) hc
  have hK := C.2.2.2.2.2.2.2.2.1.1
  have harr : Cond.arrayClass .byte ∈ am_big := am_in (of_decide_eq_true (List.all_eq_true.mp am_wh_ok _ (show _ ∈ am_wh from List.mem_of_getElem? (i := 14) rfl))) rfl
  refine va_newaK (atype := .byte) C.1 C.2.1 (C.2.2.2.2.1 _ harr) (g := F0 m (am_pc mid j) cls (.int x :: st.map (am_cv b ad))) rfl hd rfl (Int32.not_lt.mpr hx0) rfl (by show _ * componentBytes .byte ≤ _; simp only [componentBytes]; omega) hcap hcap2 hsz fun H1 cA g1 g2 g3 g4 g5 => ?_
  have hcA : cA = cy 101 := by
    have h1 : s.vm.findClass ("[" ++ (FieldType.byte).toString) = some (cy 101) := (hK.2 1 _ rfl).2
    exact Option.some.inj (g5.symm.trans h1)
  subst hcA
  have hcn : ((M.1 ++ [(101, x.toNatClampNeg)], M.2.1 ++ [[]], u0 M.2.2.1 M.1.length 0, u0 M.2.2.2 M.1.length 0) : am_M).1[M.1.length]? = some (101, x.toNatClampNeg) := by
    show (M.1 ++ [(101, x.toNatClampNeg)])[M.1.length]? = _
    rw [List.getElem?_append_right (Nat.le_refl _), Nat.sub_self]
    rfl
  have hws : am_ws cy b ad (M.1 ++ [(101, x.toNatClampNeg)], M.2.1 ++ [[]], u0 M.2.2.1 M.1.length 0, u0 M.2.2.2 M.1.length 0) = am_ws cy b ad M ++ [(b + M.1.length, .inl (cy 101, x.toNatClampNeg, .inl (u0 M.2.2.1 M.1.length 0 M.1.length)))] := by
    refine am_ws_push ?_ (fun q9 hq9 => am_grow hA.2.2.1 hq9) (am_cell_int (M := (M.1 ++ [(101, x.toNatClampNeg)], M.2.1 ++ [[]], u0 M.2.2.1 M.1.length 0, u0 M.2.2.2 M.1.length 0)) hcn (Or.inr (Or.inl rfl)))
    show (M.1 ++ [(101, x.toNatClampNeg)]).length = _
    rw [List.length_append]
    rfl
  have hold : ∀ (k9 : Nat) (x9 : Nat × va_E), (am_ws cy b ad M)[k9]? = some x9 → H1[x9.1]? = H[x9.1]? := fun k9 x9 hx => g3 x9.1 (by rw [← hsz]; exact (hA.1 k9 x9 hx).lt)
  have h := kk H1 locs cls hl ⟨by
      rw [hws]
      refine (hA.1.kept hold).app (fun k9 x9 hx => ?_)
      have hz : k9 < 1 := (List.getElem?_eq_some_iff.mp hx).1
      rw [show k9 = 0 by omega] at hx
      cases hx
      show H1[b + M.1.length]? = some (vp_cell _ _)
      rw [g1, u0_at]
      rfl, by
      show b + (M.1 ++ [(101, x.toNatClampNeg)]).length = _
      rw [List.length_append]
      have := hA.2.1
      show b + (M.1.length + 1) = _
      omega, am_grow_wf hA.2.2.1 hN (fun z => by omega) (fun _ => by omega), ⟨Nat.le_trans hA.2.2.2.1 (by omega), fun x9 h1 h2 => (g3 x9 (by rw [← hsz]; exact Nat.lt_of_lt_of_le h1 hA.2.2.2.1)).trans (hA.2.2.2.2.1 x9 h1 h2), hA.2.2.2.2.2⟩⟩
  rw [am_next (am_lt C) hc rfl, List.map_cons, show am_cv b ad (.ref M.1.length) = .ref (b + M.1.length) from congrArg Value.ref (am_ad_lt hN)] at h
  exact h
theorem sd_newa_boolean (C : am_Ctx b ad D cy X mid p s m args meth c) (hc : am_cd mid j = some (.newarray .boolean, q)) (hx0 : 0 ≤ x) (hx1 : x.toNatClampNeg ≤ 65536) (hN : M.1.length < 1000000) (hcap : cells + 1 ≤ R.cells) (hcap2 : slots + x.toNatClampNeg ≤ R.slots) (kk : am_G p l e R s m args below meth c Q b ad D cy mid (cells + 1) (slots + x.toNatClampNeg) (j + 1) ls (.ref M.1.length :: st) (M.1 ++ [(102, x.toNatClampNeg)], M.2.1 ++ [[]], u0 M.2.2.1 M.1.length 0, u0 M.2.2.2 M.1.length 0)) : am_G p l e R s m args below meth c Q b ad D cy mid cells slots j ls (.int x :: st) M := by
  intro H locs cls hl hA
  refine am_size C.2.2.2.2.2.2.2.2.2.1 hA (fun hsz => ?_)
  obtain ⟨hd, -⟩ := am_fact (am_lt C) hc
  have hK := C.2.2.2.2.2.2.2.2.1.1
  have harr : Cond.arrayClass .boolean ∈ am_big := am_in (of_decide_eq_true (List.all_eq_true.mp am_wh_ok _ (show _ ∈ am_wh from List.mem_of_getElem? (i := 15) rfl))) rfl
  refine va_newaK (atype := .boolean) C.1 C.2.1 (C.2.2.2.2.1 _ harr) (g := F0 m (am_pc mid j) cls (.int x :: st.map (am_cv b ad))) rfl hd rfl (Int32.not_lt.mpr hx0) rfl (by show _ * componentBytes .boolean ≤ _; simp only [componentBytes]; omega) hcap hcap2 hsz fun H1 cA g1 g2 g3 g4 g5 => ?_
  have hcA : cA = cy 102 := by
    have h1 : s.vm.findClass ("[" ++ (FieldType.boolean).toString) = some (cy 102) := (hK.2 2 _ rfl).2
    exact Option.some.inj (g5.symm.trans h1)
  subst hcA
  have hcn : ((M.1 ++ [(102, x.toNatClampNeg)], M.2.1 ++ [[]], u0 M.2.2.1 M.1.length 0, u0 M.2.2.2 M.1.length 0) : am_M).1[M.1.length]? = some (102, x.toNatClampNeg) := by
    show (M.1 ++ [(102, x.toNatClampNeg)])[M.1.length]? = _
    rw [List.getElem?_append_right (Nat.le_refl _), Nat.sub_self]
    rfl
  have hws : am_ws cy b ad (M.1 ++ [(102, x.toNatClampNeg)], M.2.1 ++ [[]], u0 M.2.2.1 M.1.length 0, u0 M.2.2.2 M.1.length 0) = am_ws cy b ad M ++ [(b + M.1.length, .inl (cy 102, x.toNatClampNeg, .inl (u0 M.2.2.1 M.1.length 0 M.1.length)))] := by
    refine am_ws_push ?_ (fun q9 hq9 => am_grow hA.2.2.1 hq9) (am_cell_int (M := (M.1 ++ [(102, x.toNatClampNeg)], M.2.1 ++ [[]], u0 M.2.2.1 M.1.length 0, u0 M.2.2.2 M.1.length 0)) hcn (Or.inr (Or.inr rfl)))
    show (M.1 ++ [(102, x.toNatClampNeg)]).length = _
    rw [List.length_append]
    rfl
  have hold : ∀ (k9 : Nat) (x9 : Nat × va_E), (am_ws cy b ad M)[k9]? = some x9 → H1[x9.1]? = H[x9.1]? := fun k9 x9 hx => g3 x9.1 (by rw [← hsz]; exact (hA.1 k9 x9 hx).lt)
  have h := kk H1 locs cls hl ⟨by
      rw [hws]
      refine (hA.1.kept hold).app (fun k9 x9 hx => ?_)
      have hz : k9 < 1 := (List.getElem?_eq_some_iff.mp hx).1
      rw [show k9 = 0 by omega] at hx
      cases hx
      show H1[b + M.1.length]? = some (vp_cell _ _)
      rw [g1, u0_at]
      rfl, by
      show b + (M.1 ++ [(102, x.toNatClampNeg)]).length = _
      rw [List.length_append]
      have := hA.2.1
      show b + (M.1.length + 1) = _
      omega, am_grow_wf hA.2.2.1 hN (fun z => by omega) (fun _ => by omega), ⟨Nat.le_trans hA.2.2.2.1 (by omega), fun x9 h1 h2 => (g3 x9 (by rw [← hsz]; exact Nat.lt_of_lt_of_le h1 hA.2.2.2.1)).trans (hA.2.2.2.2.1 x9 h1 h2), hA.2.2.2.2.2⟩⟩
  rw [am_next (am_lt C) hc rfl, List.map_cons, show am_cv b ad (.ref M.1.length) = .ref (b + M.1.length) from congrArg Value.ref (am_ad_lt hN)] at h
  exact h
theorem sd_newa_long (C : am_Ctx b ad D cy X mid p s m args meth c) (hc : am_cd mid j = some (.newarray .long, q)) (hx0 : 0 ≤ x) (hx1 : x.toNatClampNeg ≤ 65536) (hN : M.1.length < 1000000) (hcap : cells + 1 ≤ R.cells) (hcap2 : slots + x.toNatClampNeg ≤ R.slots) (kk : am_G p l e R s m args below meth c Q b ad D cy mid (cells + 1) (slots + x.toNatClampNeg) (j + 1) ls (.ref M.1.length :: st) (M.1 ++ [(103, x.toNatClampNeg)], M.2.1 ++ [[]], u0 M.2.2.1 M.1.length 0, u0 M.2.2.2 M.1.length 0)) : am_G p l e R s m args below meth c Q b ad D cy mid cells slots j ls (.int x :: st) M := by
  intro H locs cls hl hA
  refine am_size C.2.2.2.2.2.2.2.2.2.1 hA (fun hsz => ?_)
  obtain ⟨hd, -⟩ := am_fact (am_lt C) hc
  have hK := C.2.2.2.2.2.2.2.2.1.1
  have harr : Cond.arrayClass .long ∈ am_big := am_in (of_decide_eq_true (List.all_eq_true.mp am_wh_ok _ (show _ ∈ am_wh from List.mem_of_getElem? (i := 16) rfl))) rfl
  refine va_newaK (atype := .long) C.1 C.2.1 (C.2.2.2.2.1 _ harr) (g := F0 m (am_pc mid j) cls (.int x :: st.map (am_cv b ad))) rfl hd rfl (Int32.not_lt.mpr hx0) rfl (by show _ * componentBytes .long ≤ _; simp only [componentBytes]; omega) hcap hcap2 hsz fun H1 cA g1 g2 g3 g4 g5 => ?_
  have hcA : cA = cy 103 := by
    have h1 : s.vm.findClass ("[" ++ (FieldType.long).toString) = some (cy 103) := (hK.2 3 _ rfl).2
    exact Option.some.inj (g5.symm.trans h1)
  subst hcA
  have hcn : ((M.1 ++ [(103, x.toNatClampNeg)], M.2.1 ++ [[]], u0 M.2.2.1 M.1.length 0, u0 M.2.2.2 M.1.length 0) : am_M).1[M.1.length]? = some (103, x.toNatClampNeg) := by
    show (M.1 ++ [(103, x.toNatClampNeg)])[M.1.length]? = _
    rw [List.getElem?_append_right (Nat.le_refl _), Nat.sub_self]
    rfl
  have hws : am_ws cy b ad (M.1 ++ [(103, x.toNatClampNeg)], M.2.1 ++ [[]], u0 M.2.2.1 M.1.length 0, u0 M.2.2.2 M.1.length 0) = am_ws cy b ad M ++ [(b + M.1.length, .inl (cy 103, x.toNatClampNeg, .inr (.inl (u0 M.2.2.2 M.1.length 0 M.1.length))))] := by
    refine am_ws_push ?_ (fun q9 hq9 => am_grow hA.2.2.1 hq9) (am_cell_long (M := (M.1 ++ [(103, x.toNatClampNeg)], M.2.1 ++ [[]], u0 M.2.2.1 M.1.length 0, u0 M.2.2.2 M.1.length 0)) hcn)
    show (M.1 ++ [(103, x.toNatClampNeg)]).length = _
    rw [List.length_append]
    rfl
  have hold : ∀ (k9 : Nat) (x9 : Nat × va_E), (am_ws cy b ad M)[k9]? = some x9 → H1[x9.1]? = H[x9.1]? := fun k9 x9 hx => g3 x9.1 (by rw [← hsz]; exact (hA.1 k9 x9 hx).lt)
  have h := kk H1 locs cls hl ⟨by
      rw [hws]
      refine (hA.1.kept hold).app (fun k9 x9 hx => ?_)
      have hz : k9 < 1 := (List.getElem?_eq_some_iff.mp hx).1
      rw [show k9 = 0 by omega] at hx
      cases hx
      show H1[b + M.1.length]? = some (vp_cell _ _)
      rw [g1, u0_at]
      rfl, by
      show b + (M.1 ++ [(103, x.toNatClampNeg)]).length = _
      rw [List.length_append]
      have := hA.2.1
      show b + (M.1.length + 1) = _
      omega, am_grow_wf hA.2.2.1 hN (fun z => by omega) (fun _ => by omega), ⟨Nat.le_trans hA.2.2.2.1 (by omega), fun x9 h1 h2 => (g3 x9 (by rw [← hsz]; exact Nat.lt_of_lt_of_le h1 hA.2.2.2.1)).trans (hA.2.2.2.2.1 x9 h1 h2), hA.2.2.2.2.2⟩⟩
  rw [am_next (am_lt C) hc rfl, List.map_cons, show am_cv b ad (.ref M.1.length) = .ref (b + M.1.length) from congrArg Value.ref (am_ad_lt hN)] at h
  exact h
theorem sd_anew (C : am_Ctx b ad D cy X mid p s m args meth c) (hc : am_cd mid j = some (.anewarray ix, p0, r1, r2, r3)) (hx0 : 0 ≤ x) (hx1 : x.toNatClampNeg ≤ 65536) (hN : M.1.length < 1000000) (hcap : cells + 1 ≤ R.cells) (hcap2 : slots + x.toNatClampNeg ≤ R.slots) (kk : am_G p l e R s m args below meth c Q b ad D cy mid (cells + 1) (slots + x.toNatClampNeg) (j + 1) ls (.ref M.1.length :: st) (M.1 ++ [(104, x.toNatClampNeg)], M.2.1 ++ [List.replicate x.toNatClampNeg none], u0 M.2.2.1 M.1.length 0, u0 M.2.2.2 M.1.length 0)) : am_G p l e R s m args below meth c Q b ad D cy mid cells slots j ls (.int x :: st) M := by
  intro H locs cls hl hA
  refine am_size C.2.2.2.2.2.2.2.2.2.1 hA (fun hsz => ?_)
  obtain ⟨hd, hck⟩ := am_fact (am_lt C) hc
  simp only [am_ck, Bool.and_eq_true] at hck
  have hlink := C.2.2.2.2.1 _ (am_lk_mem hck.2)
  have hK := C.2.2.2.2.2.2.2.2.1.1
  refine W.anew C.1 C.2.1 C.2.2.2.1 (C := RX8) hlink (va_AO.use C.2.2.2.2.2.2.2.2.1.2.2.1) (g := F0 m (am_pc mid j) cls (.int x :: st.map (am_cv b ad))) rfl hd rfl (Int32.not_lt.mpr hx0) (by omega) hcap hcap2 fun cA kA comp g4 g5 g6 g7 => ?_
  have hcA : cA = cy 104 := by
    obtain ⟨kA2, comp2, h1, h2, h3, h4⟩ := (hK.2 4 _ rfl).2
    exact Option.some.inj (g4.symm.trans h4)
  subst hcA
  generalize hH1 : H.push ({ cls := cy 104, slots := Array.replicate x.toNatClampNeg .null, vm := .none } : Cell) = H1
  have z1 : H1.size = H.size + 1 := by rw [← hH1, Array.size_push]
  have g1 : H1[H.size]? = some (arrV (cy 104) x.toNatClampNeg (fun _ => .null)) := by rw [← hH1, Array.getElem?_push_size, ← arrV_new]
  have g3 : ∀ x9, x9 < b + M.1.length → H1[x9]? = H[x9]? := fun x9 hx => by rw [← hH1, Array.getElem?_push, if_neg (by omega)]
  have hcn : ((M.1 ++ [(104, x.toNatClampNeg)], M.2.1 ++ [List.replicate x.toNatClampNeg none], u0 M.2.2.1 M.1.length 0, u0 M.2.2.2 M.1.length 0) : am_M).1[M.1.length]? = some (104, x.toNatClampNeg) := by
    show (M.1 ++ [(104, x.toNatClampNeg)])[M.1.length]? = _
    rw [List.getElem?_append_right (Nat.le_refl _), Nat.sub_self]
    rfl
  have hws : am_ws cy b ad (M.1 ++ [(104, x.toNatClampNeg)], M.2.1 ++ [List.replicate x.toNatClampNeg none], u0 M.2.2.1 M.1.length 0, u0 M.2.2.2 M.1.length 0) = am_ws cy b ad M ++ [(b + M.1.length, .inl (cy 104, x.toNatClampNeg, .inr (.inr (.inr (.inr (fun _ => none))))))] := by
    refine am_ws_push ?_ (fun q9 hq9 => am_grow hA.2.2.1 hq9) ?_
    · show (M.1 ++ [(104, x.toNatClampNeg)]).length = _
      rw [List.length_append]
      rfl
    · rw [am_cell_ref (M := (M.1 ++ [(104, x.toNatClampNeg)], M.2.1 ++ [List.replicate x.toNatClampNeg none], u0 M.2.2.1 M.1.length 0, u0 M.2.2.2 M.1.length 0)) hcn (Or.inl rfl)]
      congr 7
      funext i9
      show (am_rd (M.2.1 ++ [List.replicate x.toNatClampNeg none]) M.1.length i9).map (am_ad b ad) = none
      rw [← hA.2.2.1.1, am_rd_new, am_none_row]
      rfl
  have hold : ∀ (k9 : Nat) (x9 : Nat × va_E), (am_ws cy b ad M)[k9]? = some x9 → H1[x9.1]? = H[x9.1]? := fun k9 x9 hx => g3 x9.1 (by rw [← hsz]; exact (hA.1 k9 x9 hx).lt)
  have h := kk H1 locs cls hl ⟨by
      rw [hws]
      refine (hA.1.kept hold).app (fun k9 x9 hx => ?_)
      have hz : k9 < 1 := (List.getElem?_eq_some_iff.mp hx).1
      rw [show k9 = 0 by omega] at hx
      cases hx
      show H1[b + M.1.length]? = some (vp_cell _ _)
      rw [← hsz, g1]
      rfl, by
      show b + (M.1 ++ [(104, x.toNatClampNeg)]).length = _
      rw [List.length_append]
      have := hA.2.1
      show b + (M.1.length + 1) = _
      omega, am_grow_wf hA.2.2.1 hN (fun z => by omega) (fun _ => by omega), ⟨Nat.le_trans hA.2.2.2.1 (by omega), fun x9 h1 h2 => (g3 x9 (by rw [← hsz]; exact Nat.lt_of_lt_of_le h1 hA.2.2.2.1)).trans (hA.2.2.2.2.1 x9 h1 h2), hA.2.2.2.2.2⟩⟩
  rw [am_next (am_lt C) hc rfl, List.map_cons, show am_cv b ad (.ref M.1.length) = .ref (b + M.1.length) from congrArg Value.ref (am_ad_lt hN), ← hsz] at h
  exact h
theorem am_wh_in {i9 : Nat} {t9 : Nat × Cond} (h : am_wh[i9]? = some t9) (hg : goodWord t9.2 = true) : t9.2 ∈ am_big := am_in (of_decide_eq_true (List.all_eq_true.mp am_wh_ok _ (List.mem_of_getElem? h))) hg
theorem am_low_of {b : Nat} {ad : Nat → Nat} {st : List Value} (h : am_low st = true) : ((st.map (am_cv b ad)).map fun v => v.category).sum ≤ 8 := by
  rw [am_cv_sum]
  exact of_decide_eq_true h
theorem am_call_lk {mid ix y n b9 : Nat} (h : am_callok mid ix y n b9 = true) (hy : 1000 ≤ y) : Cond.methodLink (am_nm (am_k mid)) ix (am_pn y) ∈ am_big := by
  unfold am_callok at h
  rw [if_pos hy] at h
  exact am_lk_mem h
theorem sd_max (C : am_Ctx b ad D cy X mid p s m args meth c) (hc : am_cd mid j = some (.invokestatic ix, p0, 1001, r2, r3)) (hw : am_low st = true) (hR : 8 ≤ R.frames ∧ 300 ≤ R.locals) (hcap : cells ≤ R.cells ∧ slots ≤ R.slots) (kk : am_G p l e R s m args below meth c Q b ad D cy mid cells slots (j + 1) ls (.int (if x < y then y else x) :: st) M) : am_G p l e R s m args below meth c Q b ad D cy mid cells slots j ls (.int y :: .int x :: st) M := by
  intro H locs cls hl hA
  obtain ⟨hd, hck⟩ := am_fact (am_lt C) hc
  have h := kk H locs cls hl hA
  rw [am_next (am_lt C) hc rfl] at h
  simp only [am_ck, Bool.and_eq_true] at hck
  have hlink := C.2.2.2.2.1 _ (am_call_lk hck.2.1 (by omega))
  have hlow := am_low_of (b := b) (ad := ad) hw
  exact va_mmax C.1 C.2.1 (by rw [C.2.2.1, hl.1]) C.2.2.2.1 hlink (C.2.2.2.2.1 _ (am_wh_in (i9 := 1) rfl rfl)) (C.2.2.2.2.1 _ (am_wh_in (i9 := 0) rfl rfl)) (C.2.2.2.2.1 _ (am_wh_in (i9 := 6) rfl rfl)) (by omega) (by omega) hcap.1 hcap.2 hd h
theorem sd_min (C : am_Ctx b ad D cy X mid p s m args meth c) (hc : am_cd mid j = some (.invokestatic ix, p0, 1002, r2, r3)) (hw : am_low st = true) (hR : 8 ≤ R.frames ∧ 300 ≤ R.locals) (hcap : cells ≤ R.cells ∧ slots ≤ R.slots) (kk : am_G p l e R s m args below meth c Q b ad D cy mid cells slots (j + 1) ls (.int (if y < x then y else x) :: st) M) : am_G p l e R s m args below meth c Q b ad D cy mid cells slots j ls (.int y :: .int x :: st) M := by
  intro H locs cls hl hA
  obtain ⟨hd, hck⟩ := am_fact (am_lt C) hc
  have h := kk H locs cls hl hA
  rw [am_next (am_lt C) hc rfl] at h
  simp only [am_ck, Bool.and_eq_true] at hck
  have hlink := C.2.2.2.2.1 _ (am_call_lk hck.2.1 (by omega))
  have hlow := am_low_of (b := b) (ad := ad) hw
  exact va_mmin C.1 C.2.1 (by rw [C.2.2.1, hl.1]) C.2.2.2.1 hlink (C.2.2.2.2.1 _ (am_wh_in (i9 := 2) rfl rfl)) (C.2.2.2.2.1 _ (am_wh_in (i9 := 0) rfl rfl)) (C.2.2.2.2.1 _ (am_wh_in (i9 := 7) rfl rfl)) (by omega) (by omega) hcap.1 hcap.2 hd h
theorem sd_abs (C : am_Ctx b ad D cy X mid p s m args meth c) (hc : am_cd mid j = some (.invokestatic ix, p0, 1003, r2, r3)) (hw : am_low st = true) (hR : 8 ≤ R.frames ∧ 300 ≤ R.locals) (hcap : cells ≤ R.cells ∧ slots ≤ R.slots) (kk : am_G p l e R s m args below meth c Q b ad D cy mid cells slots (j + 1) ls (.int (if 0 ≤ x then x else 0 - x) :: st) M) : am_G p l e R s m args below meth c Q b ad D cy mid cells slots j ls (.int x :: st) M := by
  intro H locs cls hl hA
  obtain ⟨hd, hck⟩ := am_fact (am_lt C) hc
  have h := kk H locs cls hl hA
  rw [am_next (am_lt C) hc rfl] at h
  simp only [am_ck, Bool.and_eq_true] at hck
  have hlink := C.2.2.2.2.1 _ (am_call_lk hck.2.1 (by omega))
  have hlow := am_low_of (b := b) (ad := ad) hw
  exact va_mabs C.1 C.2.1 (by rw [C.2.2.1, hl.1]) C.2.2.2.1 hlink (C.2.2.2.2.1 _ (am_wh_in (i9 := 3) rfl rfl)) (C.2.2.2.2.1 _ (am_wh_in (i9 := 0) rfl rfl)) (C.2.2.2.2.1 _ (am_wh_in (i9 := 8) rfl rfl)) (by omega) (by omega) hcap.1 hcap.2 hd h
theorem sd_labs (C : am_Ctx b ad D cy X mid p s m args meth c) (hc : am_cd mid j = some (.invokestatic ix, p0, 1004, r2, r3)) (hw : am_low st = true) (hR : 8 ≤ R.frames ∧ 300 ≤ R.locals) (hcap : cells ≤ R.cells ∧ slots ≤ R.slots) (kk : am_G p l e R s m args below meth c Q b ad D cy mid cells slots (j + 1) ls (.long (if 0 < lx then lx else -lx) :: st) M) : am_G p l e R s m args below meth c Q b ad D cy mid cells slots j ls (.long lx :: st) M := by
  intro H locs cls hl hA
  obtain ⟨hd, hck⟩ := am_fact (am_lt C) hc
  have h := kk H locs cls hl hA
  rw [am_next (am_lt C) hc rfl] at h
  simp only [am_ck, Bool.and_eq_true] at hck
  have hlink := C.2.2.2.2.1 _ (am_call_lk hck.2.1 (by omega))
  have hlow := am_low_of (b := b) (ad := ad) hw
  exact va_mabs_long C.1 C.2.1 (by rw [C.2.2.1, hl.1]) C.2.2.2.1 hlink (C.2.2.2.2.1 _ (am_wh_in (i9 := 4) rfl rfl)) (C.2.2.2.2.1 _ (am_wh_in (i9 := 0) rfl rfl)) (C.2.2.2.2.1 _ (am_wh_in (i9 := 9) rfl rfl)) (by omega) (by omega) hcap.1 hcap.2 hd h
theorem sd_lmax (C : am_Ctx b ad D cy X mid p s m args meth c) (hc : am_cd mid j = some (.invokestatic ix, p0, 1005, r2, r3)) (hw : am_low st = true) (hR : 8 ≤ R.frames ∧ 300 ≤ R.locals) (hcap : cells ≤ R.cells ∧ slots ≤ R.slots) (kk : am_G p l e R s m args below meth c Q b ad D cy mid cells slots (j + 1) ls (.long (if ly < lx then lx else ly) :: st) M) : am_G p l e R s m args below meth c Q b ad D cy mid cells slots j ls (.long ly :: .long lx :: st) M := by
  intro H locs cls hl hA
  obtain ⟨hd, hck⟩ := am_fact (am_lt C) hc
  have h := kk H locs cls hl hA
  rw [am_next (am_lt C) hc rfl] at h
  simp only [am_ck, Bool.and_eq_true] at hck
  have hlink := C.2.2.2.2.1 _ (am_call_lk hck.2.1 (by omega))
  have hlow := am_low_of (b := b) (ad := ad) hw
  exact va_mmax_long C.1 C.2.1 (by rw [C.2.2.1, hl.1]) C.2.2.2.1 hlink (C.2.2.2.2.1 _ (am_wh_in (i9 := 5) rfl rfl)) (C.2.2.2.2.1 _ (am_wh_in (i9 := 0) rfl rfl)) (C.2.2.2.2.1 _ (am_wh_in (i9 := 10) rfl rfl)) (by omega) (by omega) hcap.1 hcap.2 hd h
theorem sd_obj (C : am_Ctx b ad D cy X mid p s m args meth c) (hc : am_cd mid j = some (.invokespecial ix, p0, 1000, r2, r3)) (hw : am_low st = true) (hR : 8 ≤ R.frames ∧ 300 ≤ R.locals) (kk : am_G p l e R s m args below meth c Q b ad D cy mid cells slots (j + 1) ls st M) : am_G p l e R s m args below meth c Q b ad D cy mid cells slots j ls (.ref a :: st) M := by
  intro H locs cls hl hA
  obtain ⟨hd, hck⟩ := am_fact (am_lt C) hc
  have h := kk H locs cls hl hA
  rw [am_next (am_lt C) hc rfl] at h
  simp only [am_ck, Bool.and_eq_true] at hck
  have hlink := C.2.2.2.2.1 _ (am_call_lk hck.2.1 (by omega))
  have hlow := am_low_of (b := b) (ad := ad) hw
  refine W.objInit C.1 C.2.1 C.2.2.2.1 hlink (C.2.2.2.2.1 _ (am_wh_in (i9 := 11) rfl rfl)) (C.2.2.2.2.1 _ (am_wh_in (i9 := 12) rfl rfl)) rfl (by rw [C.2.2.1]; exact hl.1) rfl hd (by omega) ?_ h
  have := lv_room (m := m) (pc := am_pc mid j) (ls := cls) (rest := (.ref (am_ad b ad a) :: st.map (am_cv b ad))) hlow
  show 2 * (F0 m (am_pc mid j) cls (.ref (am_ad b ad a) :: st.map (am_cv b ad))).monitorRoom + _ + 12 ≤ _
  omega
end SN3
