/-! ===== fields and arrays ===== -/
theorem am_class {ci : Nat} (h : ci < 12) : ∃ (C : String) (T : u_T) (N : Nat) (ty : Nat → FieldType), am_cl[ci]? = some (C, T, N) ∧ (∀ k, k < N → parseFieldDescriptor (T k).2.2.1 = some (ty k)) ∧ (∀ a, a < N → ∀ b, b < N → a ≠ b → (T a).2.1 ≠ (T b).2.1) := by
  match ci, h with
  | 0, _ => exact ⟨_, _, _, tyX0, rfl, tyX0_ok, nmX0⟩
  | 1, _ => exact ⟨_, _, _, tyX1, rfl, tyX1_ok, nmX1⟩
  | 2, _ => exact ⟨_, _, _, tyX2, rfl, tyX2_ok, nmX2⟩
  | 3, _ => exact ⟨_, _, _, tyX3, rfl, tyX3_ok, nmX3⟩
  | 4, _ => exact ⟨_, _, _, tyX4, rfl, tyX4_ok, nmX4⟩
  | 5, _ => exact ⟨_, _, _, tyX5, rfl, tyX5_ok, nmX5⟩
  | 6, _ => exact ⟨_, _, _, tyX6, rfl, tyX6_ok, nmX6⟩
  | 7, _ => exact ⟨_, _, _, tyX7, rfl, tyX7_ok, nmX7⟩
  | 8, _ => exact ⟨_, _, _, tyX8, rfl, tyX8_ok, nmX8⟩
  | 9, _ => exact ⟨_, _, _, tyX9, rfl, tyX9_ok, nmX9⟩
  | 10, _ => exact ⟨_, _, _, tyX10, rfl, tyX10_ok, nmX10⟩
  | 11, _ => exact ⟨_, _, _, tyX11, rfl, tyX11_ok, nmX11⟩
  | n + 12, h => omega
theorem am_cl_facts {ci : Nat} {C : String} {T : u_T} {N : Nat} (h : ci < 12) (hc : am_cl[ci]? = some (C, T, N)) : C = am_nm ci ∧ Cond.instantiable C N ∈ am_big ∧ Cond.initialized C ∈ am_big ∧ (am_ftT.getD ci []).length = N ∧ (∀ w9 ∈ u_ws C T N, w9 ∈ am_big) ∧ ∀ k, k < N → T k = am_T ci k ∧ (T k).1 = C := by
  have h1 := List.all_eq_true.mp am_cl_ok ci (List.mem_range.mpr h)
  unfold am_clok at h1
  rw [hc] at h1
  cases hh : am_clh[ci]? with
  | none => rw [hh] at h1; cases h1
  | some t9 =>
    obtain ⟨h2, h3, hs⟩ := t9
    rw [hh] at h1
    simp only [Bool.and_eq_true, decide_eq_true_eq, List.all_eq_true, List.mem_range] at h1
    obtain ⟨e1, e2, e3, ⟨e4, e5⟩, e6⟩ := h1
    refine ⟨e1, am_in e2 rfl, am_in e3 rfl, e4, fun w9 hw => ?_, fun k hk => (e6 k hk).2⟩
    obtain ⟨k, hk, rfl⟩ := List.mem_map.mp hw
    refine am_in (e6 k (List.mem_range.mp hk)).1 ?_
    unfold u_lay
    split <;> rfl
theorem am_lk_mem {t c ix u v : Nat} (h : am_lk t c ix u v = true) : am_lkw t c ix u v ∈ am_big := by
  unfold am_lk at h
  rw [List.any_eq_true] at h
  obtain ⟨q9, hq, h1⟩ := h
  obtain ⟨a0, a1, a2, a3, a4, a5⟩ := q9
  simp only [Bool.and_eq_true, beq_iff_eq] at h1
  obtain ⟨rfl, rfl, rfl, rfl, rfl⟩ := h1
  have h2 := List.all_eq_true.mp am_lk_ok _ hq
  simp only [decide_eq_true_eq] at h2
  exact am_in h2.1 h2.2
theorem am_kd_of {M : am_M} {a ci : Nat} (h : am_kd M a = ci) (hc : ci < 1000) : ∃ n, M.1[a]? = some (ci, n) := by
  unfold am_kd at h
  cases hh : M.1[a]? with
  | none => rw [hh] at h; simp at h; omega
  | some t9 =>
    obtain ⟨k9, n9⟩ := t9
    rw [hh] at h
    simp at h
    subst h
    exact ⟨n9, rfl⟩
theorem am_ln_of {M : am_M} {a kd n : Nat} (h : am_ln M a kd = some n) : M.1[a]? = some (kd, n) := by
  unfold am_ln at h
  split at h
  · rename_i k9 n9 hh
    split at h
    · rename_i e9
      cases h
      rw [hh, e9]
    · cases h
  · cases h
theorem am_place {M : am_M} {a : Nat} {t9 : Nat × Nat} (hw : am_wf M) (h : M.1[a]? = some t9) : a < M.1.length ∧ a < 1000000 := by
  have h1 := (List.getElem?_eq_some_iff.mp h).1
  exact ⟨h1, Nat.lt_of_lt_of_le h1 hw.2.1⟩
theorem am_ad_lt {b : Nat} {ad : Nat → Nat} {a : Nat} (h : a < 1000000) : am_ad b ad a = b + a := if_pos h
theorem am_ix_in {i : Int32} {n : Nat} (h : am_ix i n = true) : vp_in i n := by
  simp only [am_ix, Bool.and_eq_true, decide_eq_true_eq] at h
  rintro (h1 | h1)
  · exact absurd h.1 (Int32.not_le.mpr h1)
  · omega
theorem am_cell_obj {cy : Nat → ClassId} {b : Nat} {ad : Nat → Nat} {M : am_M} {a k n : Nat} (h : M.1[a]? = some (k, n)) (hk : k < 100) : am_cell cy b ad M a = .inr (k, (List.range n).map (am_fv b ad M k a)) := by
  unfold am_cell
  rw [h]
  exact if_pos hk
theorem am_cell_int {cy : Nat → ClassId} {b : Nat} {ad : Nat → Nat} {M : am_M} {a k n : Nat} (h : M.1[a]? = some (k, n)) (hk : k = 100 ∨ k = 101 ∨ k = 102) : am_cell cy b ad M a = .inl (cy k, n, .inl (M.2.2.1 a)) := by
  unfold am_cell
  rw [h]
  show (if k < 100 then _ else _) = _
  rw [if_neg (by omega), if_neg (by omega), if_neg (by omega)]
theorem am_cell_long {cy : Nat → ClassId} {b : Nat} {ad : Nat → Nat} {M : am_M} {a n : Nat} (h : M.1[a]? = some (103, n)) : am_cell cy b ad M a = .inl (cy 103, n, .inr (.inl (M.2.2.2 a))) := by
  unfold am_cell
  rw [h]
  rfl
theorem am_cell_ref {cy : Nat → ClassId} {b : Nat} {ad : Nat → Nat} {M : am_M} {a k n : Nat} (h : M.1[a]? = some (k, n)) (hk : k = 104 ∨ k = 105) : am_cell cy b ad M a = .inl (cy k, n, .inr (.inr (.inr (.inr (fun i => (am_rd M.2.1 a i).map (am_ad b ad)))))) := by
  unfold am_cell
  rw [h]
  show (if k < 100 then _ else _) = _
  rw [if_neg (by omega), if_neg (by omega), if_pos hk]
theorem am_cell_congr {cy : Nat → ClassId} {b : Nat} {ad : Nat → Nat} {M M' : am_M} {a : Nat} (h1 : M'.1[a]? = M.1[a]?) (h2 : M'.2.2.1 a = M.2.2.1 a) (h3 : M'.2.2.2 a = M.2.2.2 a) (h4 : ∀ i, am_rd M'.2.1 a i = am_rd M.2.1 a i) : am_cell cy b ad M' a = am_cell cy b ad M a := by
  have hf : ∀ k, am_fv b ad M' k a = am_fv b ad M k a := by
    intro k
    funext i
    unfold am_fv
    rw [h2, h3, h4]
  unfold am_cell
  rw [h1, h2, h3]
  cases M.1[a]? with
  | none => rfl
  | some t9 =>
    obtain ⟨k9, n9⟩ := t9
    dsimp only
    rw [hf, show (fun i => (am_rd M'.2.1 a i).map (am_ad b ad)) = (fun i => (am_rd M.2.1 a i).map (am_ad b ad)) from funext (fun i => by rw [h4])]
theorem u2_ne {α : Type} {f : Nat → Nat → α} {a k q : Nat} {v : α} (h : q ≠ a) : u2 f a k v q = f q := funext (fun i => if_neg h)
theorem u2_at {α : Type} {f : Nat → Nat → α} {a k : Nat} {v : α} : u2 f a k v a = fun i => if i = k then v else f a i := funext (fun i => if_pos rfl)
theorem u2_same {α : Type} {f : Nat → Nat → α} {a k : Nat} {v : α} : u2 f a k v a k = v := by rw [u2_at]; exact if_pos rfl
theorem u2_off {α : Type} {f : Nat → Nat → α} {a k i : Nat} {v : α} (h : i ≠ k) : u2 f a k v a i = f a i := by rw [u2_at]; exact if_neg h
theorem am_rd_wr {mr : List (List (Option Nat))} {a k q i : Nat} {r : Option Nat} (ha : a < mr.length) (hk : k < (mr[a]?.getD []).length) : am_rd (am_wr mr a k r) q i = if q = a ∧ i = k then r else am_rd mr q i := by
  unfold am_rd am_wr
  rw [List.getElem?_set]
  by_cases h : a = q
  · subst h
    rw [if_pos rfl, if_pos ha]
    simp only [Option.getD_some]
    rw [List.getElem?_set]
    by_cases h2 : k = i
    · subst h2
      rw [if_pos rfl, if_pos hk]
      simp
    · rw [if_neg h2, if_neg (fun z => h2 z.2.symm)]
  · rw [if_neg h, if_neg (fun z => h z.1.symm)]
theorem am_set_map {α : Type} {f g : Nat → α} {n k : Nat} (h : ∀ i, i ≠ k → g i = f i) : (List.range n).map g = ((List.range n).map f).set k (g k) := by
  apply List.ext_getElem?
  intro i
  rw [List.getElem?_set]
  simp only [List.getElem?_map, List.length_map, List.length_range]
  by_cases e9 : k = i
  · subst e9
    rw [if_pos rfl]
    split
    · rename_i hl
      rw [List.getElem?_range hl]
      rfl
    · rename_i hl
      rw [List.getElem?_eq_none (by rw [List.length_range]; omega)]
      rfl
  · rw [if_neg e9]
    by_cases hl : i < n
    · rw [List.getElem?_range hl]
      simp only [Option.map_some]
      rw [h i (Ne.symm e9)]
    · rw [List.getElem?_eq_none (by rw [List.length_range]; omega)]
      rfl
theorem am_ty_of {c k : Nat} (hc : c < 12) (hk : k < (am_ftT.getD c []).length) : match (am_ftT.getD c []).getD k 9, parseFieldDescriptor (am_T c k).2.2.1 with
  | 0, some .int => True
  | 1, some .long => True
  | 2, some (.object _) => True
  | 2, some (.array _) => True
  | _, _ => False := by
  have h1 := List.all_eq_true.mp am_ty_ok c (List.mem_range.mpr hc)
  unfold am_tyok at h1
  have h2 := List.all_eq_true.mp h1 k (List.mem_range.mpr hk)
  revert h2
  split
  · rename_i e1 e2
    intro _
    rw [e1, e2]
    trivial
  · rename_i e1 e2
    intro _
    rw [e1, e2]
    trivial
  · rename_i e1 e2
    intro _
    rw [e1, e2]
    trivial
  · rename_i e1 e2
    intro _
    rw [e1, e2]
    trivial
  · intro h9
    cases h9
theorem am_getD_eq {l9 : List Nat} {k u v : Nat} (hk : k < l9.length) : l9.getD k u = l9.getD k v := by
  simp [List.getD_eq_getElem?_getD, List.getElem?_eq_getElem hk]
section SN2
variable {p : Program} {l : Launch} {e : Env} {R : Room} {s : State} {m : MethodId} {args : Array Value} {below : List Frame} {meth : Method} {c : Code} {Q : State → Prop}
variable {b : Nat} {ad : Nat → Nat} {D : va_G} {cy : Nat → ClassId} {X : Nat × (Nat → Int32)} {mid cells slots j : Nat} {ls st : List Value} {M : am_M} {q : Nat × Nat × Nat × Nat} {x y : Int32} {lx ly : Int64} {a : Nat}

theorem sd_get {ix r1 r2 r3 p0 : Nat} {w9 : Value} (C : am_Ctx b ad D cy X mid p s m args meth c) (hc : am_cd mid j = some (.getfield ix, p0, r1, r2, r3)) (hk : am_kd M a = r1) (hw : am_cv b ad w9 = am_fv b ad M r1 a r2) (kk : am_G p l e R s m args below meth c Q b ad D cy mid cells slots (j + 1) ls (w9 :: st) M) : am_G p l e R s m args below meth c Q b ad D cy mid cells slots j ls (.ref a :: st) M := by
  intro H locs cls hl hA
  obtain ⟨hd, hck⟩ := am_fact (am_lt C) hc
  have h := kk H locs cls hl hA
  rw [am_next (am_lt C) hc rfl] at h
  simp only [am_ck, Bool.and_eq_true] at hck
  obtain ⟨-, hlk, hfd⟩ := hck
  simp only [am_fdok, decide_eq_true_eq] at hfd
  obtain ⟨h12, hlt, -⟩ := hfd
  obtain ⟨n, hn⟩ := am_kd_of hk (by omega)
  obtain ⟨hp1, hp2⟩ := am_place hA.2.2.1 hn
  obtain ⟨Cn, T, N, ty, hcl, hty, hnm⟩ := am_class h12
  obtain ⟨e1, -, -, e4, e5, e6⟩ := am_cl_facts h12 hcl
  have hnN : n = N := by rw [← e4]; exact (hA.2.2.1.2.2.1 a r1 n hn (by omega)).2
  have hkN : r2 < N := by rw [← e4]; exact hlt
  have hlink := C.2.2.2.2.1 _ (am_lk_mem hlk)
  simp only [am_lkw, ← (e6 r2 hkN).1] at hlink
  have hcell : am_cell cy b ad M a = .inr (r1, (List.range n).map (am_fv b ad M r1 a)) := am_cell_obj hn (by omega)
  have he : (am_ws cy b ad M)[a]? = some (b + a, .inr (r1, (List.range n).map (am_fv b ad M r1 a))) := by rw [am_ws_get hp1, hcell]
  show W p l e R s m args below meth c H locs cells slots Q (F0 m (am_pc mid j) cls (.ref (am_ad b ad a) :: st.map (am_cv b ad)))
  rw [am_ad_lt hp2]
  refine va_get (v := am_cv b ad w9) C.1 C.2.1 C.2.2.2.2.1 e5 C.2.2.2.1 C.2.2.2.2.2.2.2.2.1.1 hA.1 a he hcl r2 hkN hlink (fun _ z => z) ?_ hd h
  rw [hw, List.getElem?_map, List.getElem?_range (by omega)]
  rfl
theorem sd_put {ix r1 r2 r3 p0 : Nat} {w9 : Value} {M' : am_M} (C : am_Ctx b ad D cy X mid p s m args meth c) (hc : am_cd mid j = some (.putfield ix, p0, r1, r2, r3)) (hk : am_kd M a = r1) (h1 : M'.1 = M.1) (h0 : M'.2.1.length = M.2.1.length) (hq : ∀ q9, q9 ≠ a → am_cell cy b ad M' q9 = am_cell cy b ad M q9) (hw : am_fv b ad M' r1 a r2 = am_cv b ad w9) (ho : ∀ i9, i9 ≠ r2 → am_fv b ad M' r1 a i9 = am_fv b ad M r1 a i9)
    (hv : ∀ ty : FieldType, parseFieldDescriptor (am_T r1 r2).2.2.1 = some ty → narrow ty (am_cv b ad w9) = am_cv b ad w9 ∧ fits ty (am_cv b ad w9) = true) (kk : am_G p l e R s m args below meth c Q b ad D cy mid cells slots (j + 1) ls st M') : am_G p l e R s m args below meth c Q b ad D cy mid cells slots j ls (w9 :: .ref a :: st) M := by
  intro H locs cls hl hA
  obtain ⟨hd, hck⟩ := am_fact (am_lt C) hc
  simp only [am_ck, Bool.and_eq_true] at hck
  obtain ⟨-, hlk, hfd, hfin⟩ := hck
  simp only [am_fdok, decide_eq_true_eq] at hfd
  obtain ⟨h12, hlt, -⟩ := hfd
  obtain ⟨n, hn⟩ := am_kd_of hk (by omega)
  obtain ⟨hp1, hp2⟩ := am_place hA.2.2.1 hn
  obtain ⟨Cn, T, N, ty, hcl, hty, hnm⟩ := am_class h12
  obtain ⟨e1, -, -, e4, e5, e6⟩ := am_cl_facts h12 hcl
  have hnN : n = N := by rw [← e4]; exact (hA.2.2.1.2.2.1 a r1 n hn (by omega)).2
  have hkN : r2 < N := by rw [← e4]; exact hlt
  have hlink := C.2.2.2.2.1 _ (am_lk_mem hlk)
  simp only [am_lkw, ← (e6 r2 hkN).1] at hlink
  have he : (am_ws cy b ad M)[a]? = some (b + a, .inr (r1, (List.range n).map (am_fv b ad M r1 a))) := by rw [am_ws_get hp1, am_cell_obj hn (by omega)]
  have hty2 := hty r2 hkN
  obtain ⟨hnar, hfit⟩ := hv (ty r2) (by rw [← (e6 r2 hkN).1]; exact hty2)
  have hws : am_ws cy b ad M' = (am_ws cy b ad M).set a (b + a, .inr (r1, ((List.range n).map (am_fv b ad M r1 a)).set r2 (am_cv b ad w9))) := by
    refine am_ws_set (by rw [h1]) hq ?_
    rw [am_cell_obj (M := M') (by rw [h1]; exact hn) (by omega), am_set_map ho, hw]
  have hwf : am_wf M' := ⟨by rw [h0, h1]; exact hA.2.2.1.1, by rw [h1]; exact hA.2.2.1.2.1, by rw [h1]; exact hA.2.2.1.2.2.1, by rw [h1]; exact hA.2.2.1.2.2.2⟩
  have go : ∀ (H1 : Heap) (locs1 : List Loc), va_P D am_cl ((am_ws cy b ad M).set a (b + a, .inr (r1, ((List.range n).map (am_fv b ad M r1 a)).set r2 (am_cv b ad w9)))) H1 → va_S (am_A b) s.heap H1 locs1 → W p l e R s m args below meth c H1 locs1 cells slots Q (F0 m (am_pc mid j + 3) cls (st.map (am_cv b ad))) := by
    intro H1 locs1 hP hS
    have h := kk H1 locs1 cls hl ⟨by rw [hws]; exact hP, by rw [h1]; exact hA.2.1, hwf, hS⟩
    rw [am_next (am_lt C) hc rfl] at h
    exact h
  show W p l e R s m args below meth c H locs cells slots Q (F0 m (am_pc mid j) cls (am_cv b ad w9 :: .ref (am_ad b ad a) :: st.map (am_cv b ad)))
  rw [am_ad_lt hp2]
  have hfl : r2 < ((List.range n).map (am_fv b ad M r1 a)).length := by rw [List.length_map, List.length_range]; omega
  cases hff : (T r2).2.2.2 with
  | false => exact va_put C.1 C.2.1 C.2.2.2.2.1 e5 ty hty hnm C.2.2.2.1 C.2.2.2.2.2.2.2.2.1.1 hA.1 (am_ws_D cy b ad M) hA.2.2.2 a he hcl r2 hkN hlink (fun _ z => z) hff hty2 hnar hfit hfl hd (fun H1 locs1 h7 _ h9 => go H1 locs1 h7 h9)
  | true =>
    rw [← (e6 r2 hkN).1, hff] at hfin
    simp only [Bool.or_eq_true, Bool.and_eq_true, beq_iff_eq] at hfin
    rcases hfin with hfin | ⟨f1, f2⟩
    · cases hfin
    · exact va_putF C.1 C.2.1 C.2.2.2.2.1 e5 ty hty hnm C.2.2.2.1 C.2.2.2.2.2.2.2.2.1.1 hA.1 (am_ws_D cy b ad M) hA.2.2.2 a he hcl r2 hkN hlink (fun _ z => z) hff (C.2.2.2.2.2.2.2.1 f1) (by rw [(e6 r2 hkN).2, e1, f2]) hty2 hnar hfit hfl hd (fun H1 locs1 h7 _ h9 => go H1 locs1 h7 h9)
theorem sd_iald {n : Nat} (C : am_Ctx b ad D cy X mid p s m args meth c) (hc : am_cd mid j = some (.iaload, q)) (ha : am_ln M a 100 = some n) (hi : am_ix x n = true) (kk : am_G p l e R s m args below meth c Q b ad D cy mid cells slots (j + 1) ls (.int (M.2.2.1 a x.toNatClampNeg) :: st) M) : am_G p l e R s m args below meth c Q b ad D cy mid cells slots j ls (.int x :: .ref a :: st) M := by
  intro H locs cls hl hA
  obtain ⟨hd, -⟩ := am_fact (am_lt C) hc
  have hn := am_ln_of ha
  obtain ⟨hp1, hp2⟩ := am_place hA.2.2.1 hn
  have hK := C.2.2.2.2.2.2.2.2.1.1
  have h := kk H locs cls hl hA
  rw [am_next (am_lt C) hc rfl] at h
  have he := am_ws_get (cy := cy) (b := b) (ad := ad) hp1
  rw [am_cell_int hn (Or.inl rfl)] at he
  show W p l e R s m args below meth c H locs cells slots Q (F0 m (am_pc mid j) cls (.int x :: .ref (am_ad b ad a) :: st.map (am_cv b ad)))
  rw [am_ad_lt hp2]
  exact va_iald C.1 C.2.1 hK hA.1 a 0 he rfl (am_ix_in hi) hd h
theorem sd_bald {n : Nat} (C : am_Ctx b ad D cy X mid p s m args meth c) (hc : am_cd mid j = some (.baload, q)) (ha : am_ln M a 101 = some n) (hi : am_ix x n = true) (kk : am_G p l e R s m args below meth c Q b ad D cy mid cells slots (j + 1) ls (.int (M.2.2.1 a x.toNatClampNeg) :: st) M) : am_G p l e R s m args below meth c Q b ad D cy mid cells slots j ls (.int x :: .ref a :: st) M := by
  intro H locs cls hl hA
  obtain ⟨hd, -⟩ := am_fact (am_lt C) hc
  have hn := am_ln_of ha
  obtain ⟨hp1, hp2⟩ := am_place hA.2.2.1 hn
  have hK := C.2.2.2.2.2.2.2.2.1.1
  have h := kk H locs cls hl hA
  rw [am_next (am_lt C) hc rfl] at h
  have he := am_ws_get (cy := cy) (b := b) (ad := ad) hp1
  rw [am_cell_int hn (Or.inr (Or.inl rfl))] at he
  show W p l e R s m args below meth c H locs cells slots Q (F0 m (am_pc mid j) cls (.int x :: .ref (am_ad b ad a) :: st.map (am_cv b ad)))
  rw [am_ad_lt hp2]
  exact va_bald C.1 C.2.1 hK hA.1 a 1 he rfl (am_ix_in hi) hd h
theorem sd_zald {n : Nat} (C : am_Ctx b ad D cy X mid p s m args meth c) (hc : am_cd mid j = some (.baload, q)) (ha : am_ln M a 102 = some n) (hi : am_ix x n = true) (kk : am_G p l e R s m args below meth c Q b ad D cy mid cells slots (j + 1) ls (.int (M.2.2.1 a x.toNatClampNeg) :: st) M) : am_G p l e R s m args below meth c Q b ad D cy mid cells slots j ls (.int x :: .ref a :: st) M := by
  intro H locs cls hl hA
  obtain ⟨hd, -⟩ := am_fact (am_lt C) hc
  have hn := am_ln_of ha
  obtain ⟨hp1, hp2⟩ := am_place hA.2.2.1 hn
  have hK := C.2.2.2.2.2.2.2.2.1.1
  have h := kk H locs cls hl hA
  rw [am_next (am_lt C) hc rfl] at h
  have he := am_ws_get (cy := cy) (b := b) (ad := ad) hp1
  rw [am_cell_int hn (Or.inr (Or.inr rfl))] at he
  show W p l e R s m args below meth c H locs cells slots Q (F0 m (am_pc mid j) cls (.int x :: .ref (am_ad b ad a) :: st.map (am_cv b ad)))
  rw [am_ad_lt hp2]
  exact va_zald C.1 C.2.1 hK hA.1 a 2 he rfl (am_ix_in hi) hd h
theorem sd_lald {n : Nat} (C : am_Ctx b ad D cy X mid p s m args meth c) (hc : am_cd mid j = some (.laload, q)) (ha : am_ln M a 103 = some n) (hi : am_ix x n = true) (kk : am_G p l e R s m args below meth c Q b ad D cy mid cells slots (j + 1) ls (.long (M.2.2.2 a x.toNatClampNeg) :: st) M) : am_G p l e R s m args below meth c Q b ad D cy mid cells slots j ls (.int x :: .ref a :: st) M := by
  intro H locs cls hl hA
  obtain ⟨hd, -⟩ := am_fact (am_lt C) hc
  have hn := am_ln_of ha
  obtain ⟨hp1, hp2⟩ := am_place hA.2.2.1 hn
  have hK := C.2.2.2.2.2.2.2.2.1.1
  have h := kk H locs cls hl hA
  rw [am_next (am_lt C) hc rfl] at h
  have he := am_ws_get (cy := cy) (b := b) (ad := ad) hp1
  rw [am_cell_long hn] at he
  show W p l e R s m args below meth c H locs cells slots Q (F0 m (am_pc mid j) cls (.int x :: .ref (am_ad b ad a) :: st.map (am_cv b ad)))
  rw [am_ad_lt hp2]
  exact va_lald C.1 C.2.1 hK hA.1 a 3 he rfl (am_ix_in hi) hd h
theorem am_rv_cv (b : Nat) (ad : Nat → Nat) (r : Option Nat) : am_cv b ad (am_rv r) = va_rf (r.map (am_ad b ad)) := by cases r <;> rfl
theorem sd_aald {n k9 : Nat} (C : am_Ctx b ad D cy X mid p s m args meth c) (hc : am_cd mid j = some (.aaload, q)) (hk9 : k9 = 104 ∨ k9 = 105) (ha : am_ln M a k9 = some n) (hi : am_ix x n = true) (kk : am_G p l e R s m args below meth c Q b ad D cy mid cells slots (j + 1) ls (am_rv (am_rd M.2.1 a x.toNatClampNeg) :: st) M) : am_G p l e R s m args below meth c Q b ad D cy mid cells slots j ls (.int x :: .ref a :: st) M := by
  intro H locs cls hl hA
  obtain ⟨hd, -⟩ := am_fact (am_lt C) hc
  have hn := am_ln_of ha
  obtain ⟨hp1, hp2⟩ := am_place hA.2.2.1 hn
  have hK := C.2.2.2.2.2.2.2.2.1.1
  have h := kk H locs cls hl hA
  rw [am_next (am_lt C) hc rfl, List.map_cons, am_rv_cv] at h
  have he := am_ws_get (cy := cy) (b := b) (ad := ad) hp1
  rw [am_cell_ref hn hk9] at he
  show W p l e R s m args below meth c H locs cells slots Q (F0 m (am_pc mid j) cls (.int x :: .ref (am_ad b ad a) :: st.map (am_cv b ad)))
  rw [am_ad_lt hp2]
  rcases hk9 with rfl | rfl
  · exact va_aldq C.1 C.2.1 hK hA.1 a 4 he rfl (am_ix_in hi) hd h
  · have hin := am_ix_in hi
    have hlt : x.toNatClampNeg < n := Nat.not_le.mp fun z => hin (Or.inr z)
    exact W.aald (ty := .array .int) C.1 C.2.1 (hA.1 a _ he) ((hK.2 5 _ rfl).1 n _) rfl (fun z => by cases z) (by show ¬ (x < 0 ∨ (arrV _ _ _).slots.size ≤ _); rw [arrV_size]; exact hin) (by show (arrV _ _ _).slots[_]? = _; rw [arrV_read _ _ hlt]) rfl rfl hd h
theorem sd_iast {n : Nat} (C : am_Ctx b ad D cy X mid p s m args meth c) (hc : am_cd mid j = some (.iastore, q)) (ha : am_ln M a 100 = some n) (hi : am_ix x n = true) (kk : am_G p l e R s m args below meth c Q b ad D cy mid cells slots (j + 1) ls st (M.1, M.2.1, u2 M.2.2.1 a x.toNatClampNeg y, M.2.2.2)) : am_G p l e R s m args below meth c Q b ad D cy mid cells slots j ls (.int y :: .int x :: .ref a :: st) M := by
  intro H locs cls hl hA
  obtain ⟨hd, -⟩ := am_fact (am_lt C) hc
  have hn := am_ln_of ha
  obtain ⟨hp1, hp2⟩ := am_place hA.2.2.1 hn
  have hK := C.2.2.2.2.2.2.2.2.1.1
  have he := am_ws_get (cy := cy) (b := b) (ad := ad) hp1
  rw [am_cell_int hn (Or.inl rfl)] at he
  have hws : am_ws cy b ad (M.1, M.2.1, u2 M.2.2.1 a x.toNatClampNeg y, M.2.2.2) = (am_ws cy b ad M).set a (b + a, .inl (cy 100, n, .inl (upd (M.2.2.1 a) x.toNatClampNeg y))) := by
    refine am_ws_set rfl (fun q9 hq9 => am_cell_congr rfl (u2_ne hq9) rfl (fun i9 => rfl)) ?_
    rw [am_cell_int (M := (M.1, M.2.1, u2 M.2.2.1 a x.toNatClampNeg y, M.2.2.2)) hn (Or.inl rfl)]
    dsimp only; rw [show u2 M.2.2.1 a x.toNatClampNeg y a = upd (M.2.2.1 a) x.toNatClampNeg y from u2_at]
  show W p l e R s m args below meth c H locs cells slots Q (F0 m (am_pc mid j) cls (.int y :: .int x :: .ref (am_ad b ad a) :: st.map (am_cv b ad)))
  rw [am_ad_lt hp2]
  refine va_iast C.1 C.2.1 hK hA.1 (am_ws_D cy b ad M) hA.2.2.2 a 0 he rfl (am_ix_in hi) hd (fun H1 locs1 h7 _ h9 => ?_)
  have h := kk H1 locs1 cls hl ⟨by rw [hws]; exact h7, hA.2.1, hA.2.2.1, h9⟩
  rw [am_next (am_lt C) hc rfl] at h
  exact h
theorem sd_bast {n : Nat} (C : am_Ctx b ad D cy X mid p s m args meth c) (hc : am_cd mid j = some (.bastore, q)) (ha : am_ln M a 101 = some n) (hi : am_ix x n = true) (kk : am_G p l e R s m args below meth c Q b ad D cy mid cells slots (j + 1) ls st (M.1, M.2.1, u2 M.2.2.1 a x.toNatClampNeg (vp_nar .byte y), M.2.2.2)) : am_G p l e R s m args below meth c Q b ad D cy mid cells slots j ls (.int y :: .int x :: .ref a :: st) M := by
  intro H locs cls hl hA
  obtain ⟨hd, -⟩ := am_fact (am_lt C) hc
  have hn := am_ln_of ha
  obtain ⟨hp1, hp2⟩ := am_place hA.2.2.1 hn
  have hK := C.2.2.2.2.2.2.2.2.1.1
  have he := am_ws_get (cy := cy) (b := b) (ad := ad) hp1
  rw [am_cell_int hn (Or.inr (Or.inl rfl))] at he
  have hws : am_ws cy b ad (M.1, M.2.1, u2 M.2.2.1 a x.toNatClampNeg (vp_nar .byte y), M.2.2.2) = (am_ws cy b ad M).set a (b + a, .inl (cy 101, n, .inl (upd (M.2.2.1 a) x.toNatClampNeg (vp_nar .byte y)))) := by
    refine am_ws_set rfl (fun q9 hq9 => am_cell_congr rfl (u2_ne hq9) rfl (fun i9 => rfl)) ?_
    rw [am_cell_int (M := (M.1, M.2.1, u2 M.2.2.1 a x.toNatClampNeg (vp_nar .byte y), M.2.2.2)) hn (Or.inr (Or.inl rfl))]
    dsimp only; rw [show u2 M.2.2.1 a x.toNatClampNeg (vp_nar .byte y) a = upd (M.2.2.1 a) x.toNatClampNeg (vp_nar .byte y) from u2_at]
  show W p l e R s m args below meth c H locs cells slots Q (F0 m (am_pc mid j) cls (.int y :: .int x :: .ref (am_ad b ad a) :: st.map (am_cv b ad)))
  rw [am_ad_lt hp2]
  refine va_bast C.1 C.2.1 hK hA.1 (am_ws_D cy b ad M) hA.2.2.2 a 1 he rfl (am_ix_in hi) hd (fun H1 locs1 h7 _ h9 => ?_)
  have h := kk H1 locs1 cls hl ⟨by rw [hws]; exact h7, hA.2.1, hA.2.2.1, h9⟩
  rw [am_next (am_lt C) hc rfl] at h
  exact h
theorem sd_zast {n : Nat} (C : am_Ctx b ad D cy X mid p s m args meth c) (hc : am_cd mid j = some (.bastore, q)) (ha : am_ln M a 102 = some n) (hi : am_ix x n = true) (kk : am_G p l e R s m args below meth c Q b ad D cy mid cells slots (j + 1) ls st (M.1, M.2.1, u2 M.2.2.1 a x.toNatClampNeg (vp_nar .boolean y), M.2.2.2)) : am_G p l e R s m args below meth c Q b ad D cy mid cells slots j ls (.int y :: .int x :: .ref a :: st) M := by
  intro H locs cls hl hA
  obtain ⟨hd, -⟩ := am_fact (am_lt C) hc
  have hn := am_ln_of ha
  obtain ⟨hp1, hp2⟩ := am_place hA.2.2.1 hn
  have hK := C.2.2.2.2.2.2.2.2.1.1
  have he := am_ws_get (cy := cy) (b := b) (ad := ad) hp1
  rw [am_cell_int hn (Or.inr (Or.inr rfl))] at he
  have hws : am_ws cy b ad (M.1, M.2.1, u2 M.2.2.1 a x.toNatClampNeg (vp_nar .boolean y), M.2.2.2) = (am_ws cy b ad M).set a (b + a, .inl (cy 102, n, .inl (upd (M.2.2.1 a) x.toNatClampNeg (vp_nar .boolean y)))) := by
    refine am_ws_set rfl (fun q9 hq9 => am_cell_congr rfl (u2_ne hq9) rfl (fun i9 => rfl)) ?_
    rw [am_cell_int (M := (M.1, M.2.1, u2 M.2.2.1 a x.toNatClampNeg (vp_nar .boolean y), M.2.2.2)) hn (Or.inr (Or.inr rfl))]
    dsimp only; rw [show u2 M.2.2.1 a x.toNatClampNeg (vp_nar .boolean y) a = upd (M.2.2.1 a) x.toNatClampNeg (vp_nar .boolean y) from u2_at]
  show W p l e R s m args below meth c H locs cells slots Q (F0 m (am_pc mid j) cls (.int y :: .int x :: .ref (am_ad b ad a) :: st.map (am_cv b ad)))
  rw [am_ad_lt hp2]
  refine va_zast C.1 C.2.1 hK hA.1 (am_ws_D cy b ad M) hA.2.2.2 a 2 he rfl (am_ix_in hi) hd (fun H1 locs1 h7 _ h9 => ?_)
  have h := kk H1 locs1 cls hl ⟨by rw [hws]; exact h7, hA.2.1, hA.2.2.1, h9⟩
  rw [am_next (am_lt C) hc rfl] at h
  exact h
theorem sd_last {n : Nat} (C : am_Ctx b ad D cy X mid p s m args meth c) (hc : am_cd mid j = some (.lastore, q)) (ha : am_ln M a 103 = some n) (hi : am_ix x n = true) (kk : am_G p l e R s m args below meth c Q b ad D cy mid cells slots (j + 1) ls st (M.1, M.2.1, M.2.2.1, u2 M.2.2.2 a x.toNatClampNeg ly)) : am_G p l e R s m args below meth c Q b ad D cy mid cells slots j ls (.long ly :: .int x :: .ref a :: st) M := by
  intro H locs cls hl hA
  obtain ⟨hd, -⟩ := am_fact (am_lt C) hc
  have hn := am_ln_of ha
  obtain ⟨hp1, hp2⟩ := am_place hA.2.2.1 hn
  have hK := C.2.2.2.2.2.2.2.2.1.1
  have he := am_ws_get (cy := cy) (b := b) (ad := ad) hp1
  rw [am_cell_long hn] at he
  have hws : am_ws cy b ad (M.1, M.2.1, M.2.2.1, u2 M.2.2.2 a x.toNatClampNeg ly) = (am_ws cy b ad M).set a (b + a, .inl (cy 103, n, .inr (.inl (vp_updL (M.2.2.2 a) x.toNatClampNeg ly)))) := by
    refine am_ws_set rfl (fun q9 hq9 => am_cell_congr rfl rfl (u2_ne hq9) (fun i9 => rfl)) ?_
    rw [am_cell_long (M := (M.1, M.2.1, M.2.2.1, u2 M.2.2.2 a x.toNatClampNeg ly)) hn]
    dsimp only; rw [show u2 M.2.2.2 a x.toNatClampNeg ly a = vp_updL (M.2.2.2 a) x.toNatClampNeg ly from u2_at]
  show W p l e R s m args below meth c H locs cells slots Q (F0 m (am_pc mid j) cls (.long ly :: .int x :: .ref (am_ad b ad a) :: st.map (am_cv b ad)))
  rw [am_ad_lt hp2]
  refine va_last C.1 C.2.1 hK hA.1 (am_ws_D cy b ad M) hA.2.2.2 a 3 he rfl (am_ix_in hi) hd (fun H1 locs1 h7 _ h9 => ?_)
  have h := kk H1 locs1 cls hl ⟨by rw [hws]; exact h7, hA.2.1, hA.2.2.1, h9⟩
  rw [am_next (am_lt C) hc rfl] at h
  exact h
theorem sd_aast {n v9 : Nat} (C : am_Ctx b ad D cy X mid p s m args meth c) (hc : am_cd mid j = some (.aastore, q)) (ha : am_ln M a 104 = some n) (hi : am_ix x n = true) (hv9 : am_kd M v9 = 8) (hr : x.toNatClampNeg < (M.2.1[a]?.getD []).length) (kk : am_G p l e R s m args below meth c Q b ad D cy mid cells slots (j + 1) ls st (M.1, am_wr M.2.1 a x.toNatClampNeg (some v9), M.2.2.1, M.2.2.2)) : am_G p l e R s m args below meth c Q b ad D cy mid cells slots j ls (.ref v9 :: .int x :: .ref a :: st) M := by
  intro H locs cls hl hA
  obtain ⟨hd, -⟩ := am_fact (am_lt C) hc
  have hn := am_ln_of ha
  obtain ⟨hp1, hp2⟩ := am_place hA.2.2.1 hn
  have hK := C.2.2.2.2.2.2.2.2.1.1
  have he := am_ws_get (cy := cy) (b := b) (ad := ad) hp1
  rw [am_cell_ref hn (Or.inl rfl)] at he
  obtain ⟨n2, hn2⟩ := am_kd_of hv9 (by omega)
  obtain ⟨hq1, hq2⟩ := am_place hA.2.2.1 hn2
  have he2 := am_ws_get (cy := cy) (b := b) (ad := ad) hq1
  rw [am_cell_obj hn2 (by omega)] at he2
  have hla : a < M.2.1.length := by rw [hA.2.2.1.1]; exact hp1
  have hws : am_ws cy b ad (M.1, am_wr M.2.1 a x.toNatClampNeg (some v9), M.2.2.1, M.2.2.2) = (am_ws cy b ad M).set a (b + a, .inl (cy 104, n, .inr (.inr (.inr (.inr (va_up (fun i => (am_rd M.2.1 a i).map (am_ad b ad)) x.toNatClampNeg (some (b + v9)))))))) := by
    refine am_ws_set rfl (fun q9 hq9 => am_cell_congr rfl rfl rfl (fun i9 => ?_)) ?_
    · rw [am_rd_wr hla hr, if_neg (fun z => hq9 z.1)]
    · rw [am_cell_ref (M := (M.1, am_wr M.2.1 a x.toNatClampNeg (some v9), M.2.2.1, M.2.2.2)) hn (Or.inl rfl)]
      congr 7
      funext i9
      show (am_rd (am_wr M.2.1 a x.toNatClampNeg (some v9)) a i9).map (am_ad b ad) = _
      rw [am_rd_wr hla hr]
      unfold va_up
      by_cases e9 : i9 = x.toNatClampNeg
      · rw [if_pos ⟨rfl, e9⟩, if_pos e9]
        show some (am_ad b ad v9) = _
        rw [am_ad_lt hq2]
      · rw [if_neg (fun z => e9 z.2), if_neg e9]
  have hwf : am_wf (M.1, am_wr M.2.1 a x.toNatClampNeg (some v9), M.2.2.1, M.2.2.2) := ⟨by show (am_wr M.2.1 a x.toNatClampNeg (some v9)).length = M.1.length; unfold am_wr; rw [List.length_set]; exact hA.2.2.1.1, hA.2.2.1.2⟩
  show W p l e R s m args below meth c H locs cells slots Q (F0 m (am_pc mid j) cls (.ref (am_ad b ad v9) :: .int x :: .ref (am_ad b ad a) :: st.map (am_cv b ad)))
  rw [am_ad_lt hp2, am_ad_lt hq2]
  refine va_astq C.1 C.2.1 hK hA.1 (am_ws_D cy b ad M) hA.2.2.2 a 4 v9 8 he (r := (RX8, TX8, 8)) rfl he2 rfl (am_ix_in hi) hd (fun H1 locs1 h7 _ h9 => ?_)
  have h := kk H1 locs1 cls hl ⟨by rw [hws]; exact h7, hA.2.1, hwf, h9⟩
  rw [am_next (am_lt C) hc rfl] at h
  exact h
theorem sd_ialdX (C : am_Ctx b ad D cy X mid p s m args meth c) (hc : am_cd mid j = some (.iaload, q)) (hi : am_ix x X.1 = true) (kk : am_G p l e R s m args below meth c Q b ad D cy mid cells slots (j + 1) ls (.int (X.2 x.toNatClampNeg) :: st) M) : am_G p l e R s m args below meth c Q b ad D cy mid cells slots j ls (.int x :: .ref 1000050 :: st) M := by
  intro H locs cls hl hA
  obtain ⟨hd, -⟩ := am_fact (am_lt C) hc
  have h := kk H locs cls hl hA
  rw [am_next (am_lt C) hc rfl] at h
  have hKc := C.2.2.2.2.2.2.2.2.1.2.2.2.2.2.2.2.2.2
  exact va_sld C.1 C.2.1 hKc.1 (Nat.lt_of_lt_of_le hKc.2 C.2.2.2.2.2.2.2.2.2.1) (fun z => absurd hKc.2 (Nat.not_lt.mpr z)) hA.2.2.2 (am_ix_in hi) hd h
theorem sd_alenX (C : am_Ctx b ad D cy X mid p s m args meth c) (hc : am_cd mid j = some (.arraylength, q)) (kk : am_G p l e R s m args below meth c Q b ad D cy mid cells slots (j + 1) ls (.int (Int32.ofNat X.1) :: st) M) : am_G p l e R s m args below meth c Q b ad D cy mid cells slots j ls (.ref 1000050 :: st) M := by
  intro H locs cls hl hA
  obtain ⟨hd, -⟩ := am_fact (am_lt C) hc
  have h := kk H locs cls hl hA
  rw [am_next (am_lt C) hc rfl] at h
  have hKc := C.2.2.2.2.2.2.2.2.1.2.2.2.2.2.2.2.2.2
  exact va_slen C.1 C.2.1 hKc.1 (Nat.lt_of_lt_of_le hKc.2 C.2.2.2.2.2.2.2.2.2.1) (fun z => absurd hKc.2 (Nat.not_lt.mpr z)) hA.2.2.2 hd h
theorem sd_ialdO (C : am_Ctx b ad D cy X mid p s m args meth c) (hc : am_cd mid j = some (.iaload, q)) (hi : am_ix x 8 = true) (kk : am_G p l e R s m args below meth c Q b ad D cy mid cells slots (j + 1) ls (.int (am_orders x.toNatClampNeg) :: st) M) : am_G p l e R s m args below meth c Q b ad D cy mid cells slots j ls (.int x :: .ref 1000040 :: st) M := by
  intro H locs cls hl hA
  obtain ⟨hd, -⟩ := am_fact (am_lt C) hc
  have h := kk H locs cls hl hA
  rw [am_next (am_lt C) hc rfl] at h
  have hKc := C.2.2.2.2.2.2.2.2.1.2.2.2.2.2.2.2.2.1
  exact va_ti C.1 C.2.1 hKc hA.2.2.2 (am_ix_in hi) rfl hd h
theorem sd_gets {ix p0 r1 r2 r3 : Nat} (C : am_Ctx b ad D cy X mid p s m args meth c) (hc : am_cd mid j = some (.getstatic ix, p0, r1, r2, r3)) (kk : am_G p l e R s m args below meth c Q b ad D cy mid cells slots (j + 1) ls (.ref 1000040 :: st) M) : am_G p l e R s m args below meth c Q b ad D cy mid cells slots j ls st M := by
  intro H locs cls hl hA
  obtain ⟨hd, hck⟩ := am_fact (am_lt C) hc
  have h := kk H locs cls hl hA
  rw [am_next (am_lt C) hc rfl] at h
  simp only [am_ck, Bool.and_eq_true] at hck
  have hlink := C.2.2.2.2.1 _ (am_lk_mem hck.2)
  exact va_gets C.1 C.2.1 C.2.2.2.2.2.2.2.2.1.2.2.2.2.2.2.2.1 hA.2.2.2 C.2.2.2.1 hlink (fun _ z => z) hd h
theorem sd_ldc2 {ix p0 r1 r2 r3 : Nat} (C : am_Ctx b ad D cy X mid p s m args meth c) (hc : am_cd mid j = some (.ldc2_w ix, p0, r1, r2, r3)) (kk : am_G p l e R s m args below meth c Q b ad D cy mid cells slots (j + 1) ls (.long (am_lcT.getD r1 0) :: st) M) : am_G p l e R s m args below meth c Q b ad D cy mid cells slots j ls st M := by
  intro H locs cls hl hA
  obtain ⟨hd, hck⟩ := am_fact (am_lt C) hc
  have h := kk H locs cls hl hA
  rw [am_next (am_lt C) hc rfl] at h
  simp only [am_ck, Bool.and_eq_true] at hck
  have hlink := C.2.2.2.2.1 _ (am_lk_mem hck.2)
  exact lv_ldc2 C.1 C.2.1 C.2.2.2.1 hlink hd h
theorem sd_ldc {ix p0 r1 r2 r3 : Nat} (C : am_Ctx b ad D cy X mid p s m args meth c) (hc : am_cd mid j = some (.ldc ix, p0, r1, r2, r3)) (kk : am_G p l e R s m args below meth c Q b ad D cy mid cells slots (j + 1) ls (.ref (1000000 + r1) :: st) M) : am_G p l e R s m args below meth c Q b ad D cy mid cells slots j ls st M := by
  intro H locs cls hl hA
  obtain ⟨hd, hck⟩ := am_fact (am_lt C) hc
  have h := kk H locs cls hl hA
  rw [am_next (am_lt C) hc rfl, List.map_cons] at h
  simp only [am_ck, Bool.and_eq_true, beq_iff_eq] at hck
  have hmem : (ix, r1) ∈ am_srT := by simpa using hck.2.2
  have hR := C.2.2.2.2.2.2.2.2.1.2.2.2.2.1 _ hmem
  have hown := C.2.2.2.1
  rw [hck.2.1] at hown
  refine va_ldcS C.1 C.2.1 (own := RX5) hown hR hd ?_
  have e9 : am_cv b ad (.ref (1000000 + r1)) = .ref (ad r1) := by
    show Value.ref (am_ad b ad (1000000 + r1)) = _
    unfold am_ad
    rw [if_neg (by omega), Nat.add_sub_cancel_left]
  rw [e9] at h
  exact h
end SN2
