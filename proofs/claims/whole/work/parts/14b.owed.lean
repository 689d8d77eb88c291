/-! ===== int[][] ===== -/
theorem am_outer {c9 : ClassId} {N9 h9 : Nat} {f : Nat → Option Nat} (hf : ∀ i, i < N9 → f i = some (h9 + 1 + i)) : Jvm.Free.Multi.outerC c9 N9 h9 N9 = arrV c9 N9 (fun k => va_rf (f k)) := by
  obtain ⟨e1, e2, e3⟩ := Jvm.Free.Multi.outerC_facts c9 N9 h9 N9
  have e4 := Jvm.Free.Multi.outerC_slot c9 N9 h9 N9
  generalize Jvm.Free.Multi.outerC c9 N9 h9 N9 = w9 at e1 e2 e3 e4
  obtain ⟨cc, ss, vv⟩ := w9
  dsimp only at e1 e2 e3 e4
  subst e1
  subst e2
  unfold arrV
  congr 1
  apply Array.ext
  · rw [e3, Array.size_ofFn]
  · intro i h1 h2
    rw [e3] at h1
    have h3 := e4 i h1
    rw [if_pos h1] at h3
    have h4 := (Array.getElem?_eq_some_iff.mp h3).2
    rw [h4, Array.getElem_ofFn, hf i h1]
    rfl
theorem am_grow2_at {M : am_M} {N9 K9 k9 : Nat} {t9 : Nat × Nat} (h : (M.1 ++ (105, N9) :: List.replicate N9 (100, K9))[k9]? = some t9) : (k9 < M.1.length ∧ M.1[k9]? = some t9) ∨ (k9 = M.1.length ∧ t9 = (105, N9)) ∨ (M.1.length < k9 ∧ k9 < M.1.length + 1 + N9 ∧ t9 = (100, K9)) := by
  by_cases hl : k9 < M.1.length
  · rw [List.getElem?_append_left hl] at h
    exact Or.inl ⟨hl, h⟩
  · rw [List.getElem?_append_right (by omega)] at h
    cases hz : k9 - M.1.length with
    | zero =>
      rw [hz] at h
      cases h
      exact Or.inr (Or.inl ⟨by omega, rfl⟩)
    | succ n8 =>
      rw [hz, List.getElem?_cons_succ, List.getElem?_replicate] at h
      split at h
      · cases h
        exact Or.inr (Or.inr ⟨by omega, by omega, rfl⟩)
      · cases h
section SN5
variable {p : Program} {l : Launch} {e : Env} {R : Room} {s : State} {m : MethodId} {args : Array Value} {below : List Frame} {meth : Method} {c : Code} {Q : State → Prop}
variable {b : Nat} {ad : Nat → Nat} {D : va_G} {cy : Nat → ClassId} {X : Nat × (Nat → Int32)} {mid cells slots j : Nat} {ls st : List Value} {M : am_M} {q : Nat × Nat × Nat × Nat} {x y : Int32} {lx ly : Int64} {a ix p0 r1 r2 r3 : Nat}

theorem sd_mna {n9 k9 : Nat} (C : am_Ctx b ad D cy X mid p s m args meth c) (hc : am_cd mid j = some (.multianewarray n9 k9, q)) (h7 : 0 ≤ y ∧ y.toNatClampNeg ≤ 4096 ∧ 0 ≤ x ∧ x.toNatClampNeg ≤ 4096) (hN : ((M.1 ++ (105, y.toNatClampNeg) :: List.replicate y.toNatClampNeg (100, x.toNatClampNeg), M.2.1 ++ ((List.range y.toNatClampNeg).map (fun i => some (M.1.length + 1 + i))) :: List.replicate y.toNatClampNeg [], (fun q i => if M.1.length ≤ q then 0 else M.2.2.1 q i), (fun q i => if M.1.length ≤ q then 0 else M.2.2.2 q i)) : am_M).1.length ≤ 1000000) (hcap : cells + (((M.1 ++ (105, y.toNatClampNeg) :: List.replicate y.toNatClampNeg (100, x.toNatClampNeg), M.2.1 ++ ((List.range y.toNatClampNeg).map (fun i => some (M.1.length + 1 + i))) :: List.replicate y.toNatClampNeg [], (fun q i => if M.1.length ≤ q then 0 else M.2.2.1 q i), (fun q i => if M.1.length ≤ q then 0 else M.2.2.2 q i)) : am_M).1.length - M.1.length) ≤ R.cells ∧ slots + (am_sz (M.1 ++ (105, y.toNatClampNeg) :: List.replicate y.toNatClampNeg (100, x.toNatClampNeg), M.2.1 ++ ((List.range y.toNatClampNeg).map (fun i => some (M.1.length + 1 + i))) :: List.replicate y.toNatClampNeg [], (fun q i => if M.1.length ≤ q then 0 else M.2.2.1 q i), (fun q i => if M.1.length ≤ q then 0 else M.2.2.2 q i)) - am_sz M) ≤ R.slots)
    (kk : ∀ c9 s9, c9 = cells + (((M.1 ++ (105, y.toNatClampNeg) :: List.replicate y.toNatClampNeg (100, x.toNatClampNeg), M.2.1 ++ ((List.range y.toNatClampNeg).map (fun i => some (M.1.length + 1 + i))) :: List.replicate y.toNatClampNeg [], (fun q i => if M.1.length ≤ q then 0 else M.2.2.1 q i), (fun q i => if M.1.length ≤ q then 0 else M.2.2.2 q i)) : am_M).1.length - M.1.length) → s9 = slots + (am_sz (M.1 ++ (105, y.toNatClampNeg) :: List.replicate y.toNatClampNeg (100, x.toNatClampNeg), M.2.1 ++ ((List.range y.toNatClampNeg).map (fun i => some (M.1.length + 1 + i))) :: List.replicate y.toNatClampNeg [], (fun q i => if M.1.length ≤ q then 0 else M.2.2.1 q i), (fun q i => if M.1.length ≤ q then 0 else M.2.2.2 q i)) - am_sz M) → am_G p l e R s m args below meth c Q b ad D cy mid c9 s9 (j + 1) ls (.ref M.1.length :: st) (M.1 ++ (105, y.toNatClampNeg) :: List.replicate y.toNatClampNeg (100, x.toNatClampNeg), M.2.1 ++ ((List.range y.toNatClampNeg).map (fun i => some (M.1.length + 1 + i))) :: List.replicate y.toNatClampNeg [], (fun q i => if M.1.length ≤ q then 0 else M.2.2.1 q i), (fun q i => if M.1.length ≤ q then 0 else M.2.2.2 q i))) : am_G p l e R s m args below meth c Q b ad D cy mid cells slots j ls (.int x :: .int y :: st) M := by
  intro H locs cls hl hA
  refine am_size C.2.2.2.2.2.2.2.2.2.1 hA (fun hsz => ?_)
  obtain ⟨hd, hck⟩ := am_fact (am_lt C) hc
  simp only [am_ck, Bool.and_eq_true, beq_iff_eq] at hck
  obtain ⟨-, hlk, h2⟩ := hck
  subst h2
  have hlink := C.2.2.2.2.1 _ (am_lk_mem hlk)
  have e1 : "[" ++ (FieldType.array .int).toString = "[[I" := by decide
  have e2 : (FieldType.array .int).toString = "[" ++ (FieldType.int).toString := by decide
  have hlink2 : (Cond.classLink (am_nm (am_k mid)) n9 ("[" ++ (FieldType.array .int).toString)).before args s = true := by rw [e1]; exact hlink
  have hK := C.2.2.2.2.2.2.2.2.1.1
  have hover : (Cond.arrayOver (.array .int)).before args s = true := C.2.2.2.2.2.2.2.2.1.2.2.2.1.2
  have harr := C.2.2.2.2.1 _ (am_wh_in (i9 := 13) rfl rfl)
  have hlen : ((M.1 ++ (105, y.toNatClampNeg) :: List.replicate y.toNatClampNeg (100, x.toNatClampNeg), M.2.1 ++ ((List.range y.toNatClampNeg).map (fun i => some (M.1.length + 1 + i))) :: List.replicate y.toNatClampNeg [], (fun q i => if M.1.length ≤ q then 0 else M.2.2.1 q i), (fun q i => if M.1.length ≤ q then 0 else M.2.2.2 q i)) : am_M).1.length = M.1.length + 1 + y.toNatClampNeg := by
    show (M.1 ++ (105, y.toNatClampNeg) :: List.replicate y.toNatClampNeg (100, x.toNatClampNeg)).length = _
    rw [List.length_append, List.length_cons, List.length_replicate]
    omega
  have hszz : am_sz (M.1 ++ (105, y.toNatClampNeg) :: List.replicate y.toNatClampNeg (100, x.toNatClampNeg), M.2.1 ++ ((List.range y.toNatClampNeg).map (fun i => some (M.1.length + 1 + i))) :: List.replicate y.toNatClampNeg [], (fun q i => if M.1.length ≤ q then 0 else M.2.2.1 q i), (fun q i => if M.1.length ≤ q then 0 else M.2.2.2 q i)) = am_sz M + y.toNatClampNeg + y.toNatClampNeg * x.toNatClampNeg := by
    show ((M.1 ++ (105, y.toNatClampNeg) :: List.replicate y.toNatClampNeg (100, x.toNatClampNeg)).map Prod.snd).sum = _
    rw [List.map_append, List.sum_append, List.map_cons, List.sum_cons, List.map_replicate, List.sum_replicate]
    show am_sz M + (y.toNatClampNeg + y.toNatClampNeg • x.toNatClampNeg) = _
    rw [smul_eq_mul]
    omega
  rw [hlen, hszz] at hcap
  intro T hT Y
  obtain ⟨vm1, cA, comp, hW, fA, fC, -, -, X', step⟩ := Y.multianewarray2F C.1 C.2.2.2.1 hlink2 hover harr (g := F0 m (am_pc mid j) cls (.int x :: .int y :: st.map (am_cv b ad))) rfl (by rw [C.2.1]; exact hd) rfl (Int32.not_lt.mpr h7.1) (Int32.not_lt.mpr h7.2.2.1) (by omega) (by show _ * componentBytes .int ≤ _; simp only [componentBytes]; omega) (by omega) rfl rfl (by omega) (by omega)
  have hcA : cA = cy 105 := by
    have h1 : s.vm.findClass ("[" ++ (FieldType.array .int).toString) = some (cy 105) := (hK.2 5 _ rfl).2
    exact Option.some.inj (fA.symm.trans h1)
  have hcI : comp = cy 100 := by
    have h1 : s.vm.findClass ("[" ++ (FieldType.int).toString) = some (cy 100) := (hK.2 0 _ rfl).2
    rw [e2] at fC
    exact Option.some.inj (fC.symm.trans h1)
  subst hcA
  subst hcI
  have hTh : (T.setVm vm1).heap = H := hT
  obtain ⟨f1, f2, -, -⟩ := Jvm.Free.Multi.fill_facts (T.setVm vm1) (cy 105) (cy 100) y.toNatClampNeg x.toNatClampNeg (defaultValue .int) y.toNatClampNeg
  have f3 : ∀ z9, z9 < H.size → _ := fun z9 hz9 => Jvm.Free.Multi.fill_old (T.setVm vm1) (cy 105) (cy 100) y.toNatClampNeg x.toNatClampNeg (defaultValue .int) (a := z9) (by rw [hTh]; exact hz9) y.toNatClampNeg
  have f4 := Jvm.Free.Multi.fill_inner (T.setVm vm1) (cy 105) (cy 100) y.toNatClampNeg x.toNatClampNeg (defaultValue .int) y.toNatClampNeg
  rw [hTh] at f1 f2
  simp only [hTh] at f3 f4
  generalize Jvm.Free.Multi.fill (T.setVm vm1) (cy 105) (cy 100) y.toNatClampNeg x.toNatClampNeg (defaultValue .int) y.toNatClampNeg = F9 at X' step f1 f2 f3 f4
  have hAt : am_At b ad D cy (M.1 ++ (105, y.toNatClampNeg) :: List.replicate y.toNatClampNeg (100, x.toNatClampNeg), M.2.1 ++ ((List.range y.toNatClampNeg).map (fun i => some (M.1.length + 1 + i))) :: List.replicate y.toNatClampNeg [], (fun q i => if M.1.length ≤ q then 0 else M.2.2.1 q i), (fun q i => if M.1.length ≤ q then 0 else M.2.2.2 q i)) s (cells + 1 + y.toNatClampNeg) F9.heap locs := by
    refine ⟨fun k8 q8 hk8 => ?_, ?_, ?_, ?_⟩
    · have hk9 : k8 < ((M.1 ++ (105, y.toNatClampNeg) :: List.replicate y.toNatClampNeg (100, x.toNatClampNeg), M.2.1 ++ ((List.range y.toNatClampNeg).map (fun i => some (M.1.length + 1 + i))) :: List.replicate y.toNatClampNeg [], (fun q i => if M.1.length ≤ q then 0 else M.2.2.1 q i), (fun q i => if M.1.length ≤ q then 0 else M.2.2.2 q i)) : am_M).1.length := by
        have := (List.getElem?_eq_some_iff.mp hk8).1
        rwa [am_ws_len] at this
      rw [am_ws_get hk9] at hk8
      cases hk8
      obtain ⟨t9, ht9⟩ : ∃ t9, ((M.1 ++ (105, y.toNatClampNeg) :: List.replicate y.toNatClampNeg (100, x.toNatClampNeg), M.2.1 ++ ((List.range y.toNatClampNeg).map (fun i => some (M.1.length + 1 + i))) :: List.replicate y.toNatClampNeg [], (fun q i => if M.1.length ≤ q then 0 else M.2.2.1 q i), (fun q i => if M.1.length ≤ q then 0 else M.2.2.2 q i)) : am_M).1[k8]? = some t9 := ⟨_, List.getElem?_eq_getElem hk9⟩
      rcases am_grow2_at ht9 with ⟨z1, z2⟩ | ⟨z1, z2⟩ | ⟨z1, z2, z3⟩
      · have hce : am_cell cy b ad (M.1 ++ (105, y.toNatClampNeg) :: List.replicate y.toNatClampNeg (100, x.toNatClampNeg), M.2.1 ++ ((List.range y.toNatClampNeg).map (fun i => some (M.1.length + 1 + i))) :: List.replicate y.toNatClampNeg [], (fun q i => if M.1.length ≤ q then 0 else M.2.2.1 q i), (fun q i => if M.1.length ≤ q then 0 else M.2.2.2 q i)) k8 = am_cell cy b ad M k8 := by
          refine am_cell_congr (by rw [ht9, z2]) ?_ ?_ (fun i9 => ?_)
          · funext i9
            exact if_neg (by omega)
          · funext i9
            exact if_neg (by omega)
          · unfold am_rd
            show (((M.2.1 ++ _)[k8]?.getD [])[i9]?).getD none = _
            rw [List.getElem?_append_left (by rw [hA.2.2.1.1]; exact z1)]
        rw [hce]
        have h1 := hA.1 k8 _ (am_ws_get (cy := cy) (b := b) (ad := ad) z1)
        exact h1.kept (f3 _ (by rw [hsz]; show b + k8 < _; omega))
      · subst z1
        rw [am_cell_ref (M := (M.1 ++ (105, y.toNatClampNeg) :: List.replicate y.toNatClampNeg (100, x.toNatClampNeg), M.2.1 ++ ((List.range y.toNatClampNeg).map (fun i => some (M.1.length + 1 + i))) :: List.replicate y.toNatClampNeg [], (fun q i => if M.1.length ≤ q then 0 else M.2.2.1 q i), (fun q i => if M.1.length ≤ q then 0 else M.2.2.2 q i))) (by rw [ht9, z2]) (Or.inr rfl)]
        show F9.heap[b + M.1.length]? = some (vp_cell _ _)
        rw [vp_cell_q, ← am_outer (h9 := H.size) (fun i9 hi9 => ?_), ← hsz]
        · exact f2
        · show (am_rd (M.2.1 ++ _) M.1.length i9).map (am_ad b ad) = _
          unfold am_rd
          rw [← hA.2.2.1.1, List.getElem?_append_right (Nat.le_refl _), Nat.sub_self, List.getElem?_cons_zero]
          simp only [Option.getD_some]
          rw [List.getElem?_map, List.getElem?_range hi9]
          show some (am_ad b ad (M.1.length + 1 + i9)) = _
          rw [am_ad_lt (by rw [hlen] at hN; omega), hsz]
          congr 1
          omega
      · rw [am_cell_int (M := (M.1 ++ (105, y.toNatClampNeg) :: List.replicate y.toNatClampNeg (100, x.toNatClampNeg), M.2.1 ++ ((List.range y.toNatClampNeg).map (fun i => some (M.1.length + 1 + i))) :: List.replicate y.toNatClampNeg [], (fun q i => if M.1.length ≤ q then 0 else M.2.2.1 q i), (fun q i => if M.1.length ≤ q then 0 else M.2.2.2 q i))) (by rw [ht9, z3]) (Or.inl rfl)]
        show F9.heap[b + k8]? = some (vp_cell _ _)
        have h1 := f4 (k8 - M.1.length - 1) (by omega)
        rw [show H.size + 1 + (k8 - M.1.length - 1) = b + k8 by omega] at h1
        rw [h1, vp_cell_i]
        unfold Jvm.Free.Multi.innerC
        rw [arrV_new]
        congr 2
        funext i9
        show Value.int 0 = Value.int (if M.1.length ≤ k8 then 0 else M.2.2.1 k8 i9)
        rw [if_pos (by omega)]
    · rw [hlen]
      have := hA.2.1
      omega
    · refine ⟨?_, hN, fun a9 k8 n8 h1 h2 => ?_, fun a9 k8 n8 h1 h2 => ?_⟩
      · rw [hlen]
        show (M.2.1 ++ _ :: List.replicate y.toNatClampNeg []).length = _
        rw [List.length_append, List.length_cons, List.length_replicate, hA.2.2.1.1]
        omega
      · rcases am_grow2_at h1 with ⟨z1, z2⟩ | ⟨z1, z2⟩ | ⟨z1, z2, z3⟩
        · exact hA.2.2.1.2.2.1 a9 k8 n8 z2 h2
        · cases z2; omega
        · cases z3; omega
      · rcases am_grow2_at h1 with ⟨z1, z2⟩ | ⟨z1, z2⟩ | ⟨z1, z2, z3⟩
        · exact hA.2.2.1.2.2.2 a9 k8 n8 z2 h2
        · cases z2; omega
        · cases z3; omega
    · exact ⟨Nat.le_trans hA.2.2.2.1 (by omega), fun z9 h1 h2 => (f3 z9 (Nat.lt_of_lt_of_le h1 hA.2.2.2.1)).trans (hA.2.2.2.2.1 z9 h1 h2), hA.2.2.2.2.2⟩
  have h := kk (cells + 1 + y.toNatClampNeg) (slots + y.toNatClampNeg + y.toNatClampNeg * x.toNatClampNeg) (by rw [hlen]; omega) (by rw [hszz]; omega) F9.heap locs cls hl hAt
  rw [am_next (am_lt C) hc rfl, List.map_cons, show am_cv b ad (.ref M.1.length) = .ref (b + M.1.length) from congrArg Value.ref (am_ad_lt (by rw [hlen] at hN; omega)), ← hsz] at h
  obtain ⟨t9, a1, b1⟩ := h F9 rfl X'
  refine ⟨t9, step t9 ?_, b1⟩
  rw [hT]
  exact a1
theorem sd_slen (C : am_Ctx b ad D cy X mid p s m args meth c) (hc : am_cd mid j = some (.invokevirtual ix, p0, 1006, r2, r3)) (hw : 1000000 ≤ a ∧ a < 1000010 ∧ am_low st = true) (hR : 8 ≤ R.frames ∧ 300 ≤ R.locals) (hcap : cells ≤ R.cells ∧ slots ≤ R.slots) (kk : am_G p l e R s m args below meth c Q b ad D cy mid cells slots (j + 1) ls (.int (Int32.ofNat (am_sbT.getD (a - 1000000) []).length) :: st) M) : am_G p l e R s m args below meth c Q b ad D cy mid cells slots j ls (.ref a :: st) M := by
  sorry
theorem sd_chat (C : am_Ctx b ad D cy X mid p s m args meth c) (hc : am_cd mid j = some (.invokevirtual ix, p0, 1007, r2, r3)) (hw : 1000000 ≤ a ∧ a < 1000010 ∧ am_low st = true ∧ am_ix x (am_sbT.getD (a - 1000000) []).length = true) (hR : 8 ≤ R.frames ∧ 300 ≤ R.locals) (hcap : cells ≤ R.cells ∧ slots ≤ R.slots) (kk : am_G p l e R s m args below meth c Q b ad D cy mid cells slots (j + 1) ls (.int (am_chr (a - 1000000) x.toNatClampNeg) :: st) M) : am_G p l e R s m args below meth c Q b ad D cy mid cells slots j ls (.int x :: .ref a :: st) M := by
  sorry
end SN5
