/-! ===== int[][] ===== -/
theorem am_outer {c9 : ClassId} {N9 h9 : Nat} {f : Nat → Option Nat} (hf : ∀ i, i < N9 → f i = some (h9 + 1 + i)) : am_oc c9 N9 h9 N9 = arrV c9 N9 (fun k => va_rf (f k)) := by
  unfold am_oc arrV
  congr 2
  funext i9
  rw [if_pos i9.isLt]
  show _ = va_rf (f i9.val)
  rw [hf _ i9.isLt]
  rfl
theorem am_sum_rep (n9 k9 : Nat) : (List.replicate n9 k9).sum = n9 * k9 := by
  induction n9 with
  | zero => rw [Nat.zero_mul]; rfl
  | succ n ih => rw [List.replicate_succ, List.sum_cons, ih, Nat.succ_mul]; omega
theorem am_grow2_at {M : am_M} {N9 K9 k9 : Nat} {t9 : Nat × Nat} (h : (M.1 ++ (105, N9) :: List.replicate N9 (100, K9))[k9]? = some t9) : (k9 < M.1.length ∧ M.1[k9]? = some t9) ∨ (k9 = M.1.length ∧ t9 = (105, N9)) ∨ (M.1.length < k9 ∧ k9 < M.1.length + 1 + N9 ∧ t9 = (100, K9)) := by
  by_cases hl : k9 < M.1.length
  · rw [List.getElem?_append_left hl] at h
    exact Or.inl ⟨hl, h⟩
  · rw [List.getElem?_append_right (by omega)] at h
    cases hz : k9 - M.1.length with
    | zero =>
      rw [hz] at h
      cases h
      exact Or.inr (Or.inl ⟨by omega, rfl⟩)
    | succ n8 =>
      rw [hz, List.getElem?_cons_succ, List.getElem?_replicate] at h
      split at h
      · cases h
        exact Or.inr (Or.inr ⟨by omega, by omega, rfl⟩)
      · cases h
section SN5
variable {p : Program} {l : Launch} {e : Env} {R : Room} {s : State} {m : MethodId} {args : Array Value} {below : List Frame} {meth : Method} {c : Code} {Q : State → Prop}
variable {b : Nat} {ad : Nat → Nat} {D : va_G} {cy : Nat → ClassId} {X : Nat × (Nat → Int32)} {mid cells slots j : Nat} {ls st : List Value} {M : am_M} {q : Nat × Nat × Nat × Nat} {x y : Int32} {lx ly : Int64} {a ix p0 r1 r2 r3 : Nat}

theorem sd_mna {n9 k9 : Nat} (C : am_Ctx b ad D cy X mid p s m args meth c) (hc : am_cd mid j = some (.multianewarray n9 k9, q)) (h7 : 0 ≤ y ∧ y.toNatClampNeg ≤ 4096 ∧ 0 ≤ x ∧ x.toNatClampNeg ≤ 4096) (hN : ((M.1 ++ (105, y.toNatClampNeg) :: List.replicate y.toNatClampNeg (100, x.toNatClampNeg), M.2.1 ++ ((List.range y.toNatClampNeg).map (fun i => some (M.1.length + 1 + i))) :: List.replicate y.toNatClampNeg [], (fun q i => if M.1.length ≤ q then 0 else M.2.2.1 q i), (fun q i => if M.1.length ≤ q then 0 else M.2.2.2 q i)) : am_M).1.length ≤ 1000000) (hcap : cells + (((M.1 ++ (105, y.toNatClampNeg) :: List.replicate y.toNatClampNeg (100, x.toNatClampNeg), M.2.1 ++ ((List.range y.toNatClampNeg).map (fun i => some (M.1.length + 1 + i))) :: List.replicate y.toNatClampNeg [], (fun q i => if M.1.length ≤ q then 0 else M.2.2.1 q i), (fun q i => if M.1.length ≤ q then 0 else M.2.2.2 q i)) : am_M).1.length - M.1.length) ≤ R.cells ∧ slots + (am_sz (M.1 ++ (105, y.toNatClampNeg) :: List.replicate y.toNatClampNeg (100, x.toNatClampNeg), M.2.1 ++ ((List.range y.toNatClampNeg).map (fun i => some (M.1.length + 1 + i))) :: List.replicate y.toNatClampNeg [], (fun q i => if M.1.length ≤ q then 0 else M.2.2.1 q i), (fun q i => if M.1.length ≤ q then 0 else M.2.2.2 q i)) - am_sz M) ≤ R.slots)
    (kk : ∀ c9 s9, c9 = cells + (((M.1 ++ (105, y.toNatClampNeg) :: List.replicate y.toNatClampNeg (100, x.toNatClampNeg), M.2.1 ++ ((List.range y.toNatClampNeg).map (fun i => some (M.1.length + 1 + i))) :: List.replicate y.toNatClampNeg [], (fun q i => if M.1.length ≤ q then 0 else M.2.2.1 q i), (fun q i => if M.1.length ≤ q then 0 else M.2.2.2 q i)) : am_M).1.length - M.1.length) → s9 = slots + (am_sz (M.1 ++ (105, y.toNatClampNeg) :: List.replicate y.toNatClampNeg (100, x.toNatClampNeg), M.2.1 ++ ((List.range y.toNatClampNeg).map (fun i => some (M.1.length + 1 + i))) :: List.replicate y.toNatClampNeg [], (fun q i => if M.1.length ≤ q then 0 else M.2.2.1 q i), (fun q i => if M.1.length ≤ q then 0 else M.2.2.2 q i)) - am_sz M) → am_G p l e R s m args below meth c Q b ad D cy mid c9 s9 (j + 1) ls (.ref M.1.length :: st) (M.1 ++ (105, y.toNatClampNeg) :: List.replicate y.toNatClampNeg (100, x.toNatClampNeg), M.2.1 ++ ((List.range y.toNatClampNeg).map (fun i => some (M.1.length + 1 + i))) :: List.replicate y.toNatClampNeg [], (fun q i => if M.1.length ≤ q then 0 else M.2.2.1 q i), (fun q i => if M.1.length ≤ q then 0 else M.2.2.2 q i))) : am_G p l e R s m args below meth c Q b ad D cy mid cells slots j ls (.int x :: .int y :: st) M := by
  intro H locs cls hl hA
  refine am_size C.2.2.2.2.2.2.2.2.2.1 hA (fun hsz => ?_)
  obtain ⟨hd, hck⟩ := am_fact (am_lt C) hc
  simp only [am_ck, Bool.and_eq_true, beq_iff_eq] at hck
  obtain ⟨-, hlk, h2⟩ := hck
  subst h2
  have hlink := C.2.2.2.2.1 _ (am_lk_mem hlk)
  have e1 : "[" ++ (FieldType.array .int).toString = "[[I" := by decide
  have e2 : (FieldType.array .int).toString = "[" ++ (FieldType.int).toString := by decide
  have hlink2 : (Cond.classLink (am_nm (am_k mid)) n9 ("[" ++ (FieldType.array .int).toString)).before args s = true := by rw [e1]; exact hlink
  have hK := C.2.2.2.2.2.2.2.2.1.1
  have harr := C.2.2.2.2.1 _ (am_wh_in (i9 := 13) rfl rfl)
  have hlen : ((M.1 ++ (105, y.toNatClampNeg) :: List.replicate y.toNatClampNeg (100, x.toNatClampNeg), M.2.1 ++ ((List.range y.toNatClampNeg).map (fun i => some (M.1.length + 1 + i))) :: List.replicate y.toNatClampNeg [], (fun q i => if M.1.length ≤ q then 0 else M.2.2.1 q i), (fun q i => if M.1.length ≤ q then 0 else M.2.2.2 q i)) : am_M).1.length = M.1.length + 1 + y.toNatClampNeg := by
    show (M.1 ++ (105, y.toNatClampNeg) :: List.replicate y.toNatClampNeg (100, x.toNatClampNeg)).length = _
    rw [List.length_append, List.length_cons, List.length_replicate]
    omega
  have hszz : am_sz (M.1 ++ (105, y.toNatClampNeg) :: List.replicate y.toNatClampNeg (100, x.toNatClampNeg), M.2.1 ++ ((List.range y.toNatClampNeg).map (fun i => some (M.1.length + 1 + i))) :: List.replicate y.toNatClampNeg [], (fun q i => if M.1.length ≤ q then 0 else M.2.2.1 q i), (fun q i => if M.1.length ≤ q then 0 else M.2.2.2 q i)) = am_sz M + y.toNatClampNeg + y.toNatClampNeg * x.toNatClampNeg := by
    show ((M.1 ++ (105, y.toNatClampNeg) :: List.replicate y.toNatClampNeg (100, x.toNatClampNeg)).map Prod.snd).sum = _
    rw [List.map_append, List.sum_append, List.map_cons, List.sum_cons, List.map_replicate, am_sum_rep]
    show am_sz M + (y.toNatClampNeg + y.toNatClampNeg * x.toNatClampNeg) = _
    omega
  rw [hlen, hszz] at hcap
  intro T hT Y
  obtain ⟨kA, hkA, hkindA⟩ := C.2.2.2.2.2.2.2.2.1.2.2.2.1
  have hfA : s.vm.findClass "[[I" = some (cy 105) := by rw [← e1]; exact (hK.2 5 _ rfl).2
  obtain ⟨c8, kI, cE, hfI, hkI, hkindI⟩ := Cond.arrayClass_spec harr
  have hcI : c8 = cy 100 := Option.some.inj (hfI.symm.trans (hK.2 0 _ rfl).2)
  subst hcI
  obtain ⟨vm1, X', step⟩ := am_mnaF Y C.1 C.2.2.2.1 hlink hfA hkA hkindA hkI hkindI (g9 := F0 m (am_pc mid j) cls (.int x :: .int y :: st.map (am_cv b ad))) rfl (by rw [C.2.1]; exact hd) rfl (Int32.not_lt.mpr h7.2.2.1) (Int32.not_lt.mpr h7.1) h7.2.2.2 h7.2.1 (by omega) (by omega)
  have hTh : (T.setVm vm1).heap = H := hT
  obtain ⟨f1, f2, f3, f4, -⟩ := am_fl_heap (T.setVm vm1) (cy 105) (cy 100) y.toNatClampNeg x.toNatClampNeg y.toNatClampNeg
  simp only [hTh] at f1 f2 f3 f4
  rw [hT] at step
  generalize am_fl (T.setVm vm1) (cy 105) (cy 100) y.toNatClampNeg x.toNatClampNeg y.toNatClampNeg = F9 at X' step f1 f2 f3 f4
  have hAt : am_At b ad D cy (M.1 ++ (105, y.toNatClampNeg) :: List.replicate y.toNatClampNeg (100, x.toNatClampNeg), M.2.1 ++ ((List.range y.toNatClampNeg).map (fun i => some (M.1.length + 1 + i))) :: List.replicate y.toNatClampNeg [], (fun q i => if M.1.length ≤ q then 0 else M.2.2.1 q i), (fun q i => if M.1.length ≤ q then 0 else M.2.2.2 q i)) s (cells + 1 + y.toNatClampNeg) F9.heap locs := by
    refine ⟨fun k8 q8 hk8 => ?_, ?_, ?_, ?_⟩
    · have hk9 : k8 < ((M.1 ++ (105, y.toNatClampNeg) :: List.replicate y.toNatClampNeg (100, x.toNatClampNeg), M.2.1 ++ ((List.range y.toNatClampNeg).map (fun i => some (M.1.length + 1 + i))) :: List.replicate y.toNatClampNeg [], (fun q i => if M.1.length ≤ q then 0 else M.2.2.1 q i), (fun q i => if M.1.length ≤ q then 0 else M.2.2.2 q i)) : am_M).1.length := by
        have := (List.getElem?_eq_some_iff.mp hk8).1
        rwa [am_ws_len] at this
      rw [am_ws_get hk9] at hk8
      cases hk8
      obtain ⟨t9, ht9⟩ : ∃ t9, ((M.1 ++ (105, y.toNatClampNeg) :: List.replicate y.toNatClampNeg (100, x.toNatClampNeg), M.2.1 ++ ((List.range y.toNatClampNeg).map (fun i => some (M.1.length + 1 + i))) :: List.replicate y.toNatClampNeg [], (fun q i => if M.1.length ≤ q then 0 else M.2.2.1 q i), (fun q i => if M.1.length ≤ q then 0 else M.2.2.2 q i)) : am_M).1[k8]? = some t9 := ⟨_, List.getElem?_eq_getElem hk9⟩
      rcases am_grow2_at ht9 with ⟨z1, z2⟩ | ⟨z1, z2⟩ | ⟨z1, z2, z3⟩
      · have hce : am_cell cy b ad (M.1 ++ (105, y.toNatClampNeg) :: List.replicate y.toNatClampNeg (100, x.toNatClampNeg), M.2.1 ++ ((List.range y.toNatClampNeg).map (fun i => some (M.1.length + 1 + i))) :: List.replicate y.toNatClampNeg [], (fun q i => if M.1.length ≤ q then 0 else M.2.2.1 q i), (fun q i => if M.1.length ≤ q then 0 else M.2.2.2 q i)) k8 = am_cell cy b ad M k8 := by
          refine am_cell_congr (by rw [ht9, z2]) ?_ ?_ (fun i9 => ?_)
          · funext i9
            exact if_neg (by omega)
          · funext i9
            exact if_neg (by omega)
          · unfold am_rd
            show (((M.2.1 ++ _)[k8]?.getD [])[i9]?).getD none = _
            rw [List.getElem?_append_left (by rw [hA.2.2.1.1]; exact z1)]
        rw [hce]
        have h1 := hA.1 k8 _ (am_ws_get (cy := cy) (b := b) (ad := ad) z1)
        exact h1.kept (f3 _ (by rw [hsz]; show b + k8 < _; omega))
      · subst z1
        rw [am_cell_ref (M := (M.1 ++ (105, y.toNatClampNeg) :: List.replicate y.toNatClampNeg (100, x.toNatClampNeg), M.2.1 ++ ((List.range y.toNatClampNeg).map (fun i => some (M.1.length + 1 + i))) :: List.replicate y.toNatClampNeg [], (fun q i => if M.1.length ≤ q then 0 else M.2.2.1 q i), (fun q i => if M.1.length ≤ q then 0 else M.2.2.2 q i))) (by rw [ht9, z2]) (Or.inr rfl)]
        show F9.heap[b + M.1.length]? = some (vp_cell _ _)
        rw [vp_cell_q, ← am_outer (h9 := H.size) (fun i9 hi9 => ?_), ← hsz]
        · exact f2
        · show (am_rd (M.2.1 ++ _) M.1.length i9).map (am_ad b ad) = _
          unfold am_rd
          rw [List.getElem?_append_right (by rw [hA.2.2.1.1]; exact Nat.le_refl _), hA.2.2.1.1, Nat.sub_self, List.getElem?_cons_zero]
          simp only [Option.getD_some]
          rw [List.getElem?_map, List.getElem?_range hi9]
          show some (am_ad b ad (M.1.length + 1 + i9)) = _
          rw [am_ad_lt (by rw [hlen] at hN; omega), hsz]
          congr 1
          omega
      · rw [am_cell_int (M := (M.1 ++ (105, y.toNatClampNeg) :: List.replicate y.toNatClampNeg (100, x.toNatClampNeg), M.2.1 ++ ((List.range y.toNatClampNeg).map (fun i => some (M.1.length + 1 + i))) :: List.replicate y.toNatClampNeg [], (fun q i => if M.1.length ≤ q then 0 else M.2.2.1 q i), (fun q i => if M.1.length ≤ q then 0 else M.2.2.2 q i))) (by rw [ht9, z3]) (Or.inl rfl)]
        show F9.heap[b + k8]? = some (vp_cell _ _)
        have h1 := f4 (k8 - M.1.length - 1) (by omega)
        rw [show H.size + 1 + (k8 - M.1.length - 1) = b + k8 by omega] at h1
        rw [h1, vp_cell_i]
        unfold am_ic
        rw [arrV_new]
        congr 2
        funext i9
        show Value.int 0 = Value.int (if M.1.length ≤ k8 then 0 else M.2.2.1 k8 i9)
        rw [if_pos (by omega)]
    · rw [hlen]
      have := hA.2.1
      omega
    · refine ⟨?_, hN, fun a9 k8 n8 h1 h2 => ?_, fun a9 k8 n8 h1 h2 => ?_⟩
      · rw [hlen]
        show (M.2.1 ++ _ :: List.replicate y.toNatClampNeg []).length = _
        rw [List.length_append, List.length_cons, List.length_replicate, hA.2.2.1.1]
        omega
      · rcases am_grow2_at h1 with ⟨z1, z2⟩ | ⟨z1, z2⟩ | ⟨z1, z2, z3⟩
        · exact hA.2.2.1.2.2.1 a9 k8 n8 z2 h2
        · cases z2; omega
        · cases z3; omega
      · rcases am_grow2_at h1 with ⟨z1, z2⟩ | ⟨z1, z2⟩ | ⟨z1, z2, z3⟩
        · exact hA.2.2.1.2.2.2 a9 k8 n8 z2 h2
        · cases z2; omega
        · cases z3; omega
    · exact ⟨Nat.le_trans hA.2.2.2.1 (by omega), fun z9 h1 h2 => (f3 z9 (Nat.lt_of_lt_of_le h1 hA.2.2.2.1)).trans (hA.2.2.2.2.1 z9 h1 h2), hA.2.2.2.2.2⟩
  have h := kk (cells + 1 + y.toNatClampNeg) (slots + y.toNatClampNeg + y.toNatClampNeg * x.toNatClampNeg) (by rw [hlen]; omega) (by rw [hszz]; omega) F9.heap locs cls hl hAt
  rw [am_next (am_lt C) hc rfl, List.map_cons, show am_cv b ad (.ref M.1.length) = .ref (b + M.1.length) from congrArg Value.ref (am_ad_lt (by rw [hlen] at hN; omega)), ← hsz] at h
  obtain ⟨t9, a1, b1⟩ := h F9 rfl X'
  exact ⟨t9, step t9 a1, b1⟩
theorem am_str_len : ∀ i9, i9 < 10 → am_slen.getD i9 0 = (am_sbT.getD i9 []).length := by decide
theorem am_str_small : ∀ i9, i9 < 10 → am_slen.getD i9 0 < 100 := by decide
theorem am_str_chr : ∀ i9, i9 < 10 → ∀ k9, k9 < am_slen.getD i9 0 → ((((am_sbT.getD i9 []).getD k9 0) &&& 255).toUInt32 % 65536).toInt32 = am_chr i9 k9 ∧ narrow .char (.int (am_chr i9 k9)) = .int (am_chr i9 k9) := by decide +kernel
theorem am_ix_iff {x9 : Int32} {n9 : Nat} : am_ix x9 n9 = true ↔ 0 ≤ x9 ∧ x9.toNatClampNeg < n9 := by
  unfold am_ix
  rw [Bool.and_eq_true, decide_eq_true_eq, decide_eq_true_eq]
theorem sd_slen (C : am_Ctx b ad D cy X mid p s m args meth c) (hc : am_cd mid j = some (.invokevirtual ix, p0, 1006, r2, r3)) (hw : 1000000 ≤ a ∧ a < 1000010 ∧ am_low st = true) (hR : 8 ≤ R.frames ∧ 300 ≤ R.locals) (hcap : cells ≤ R.cells ∧ slots ≤ R.slots) (kk : am_G p l e R s m args below meth c Q b ad D cy mid cells slots (j + 1) ls (.int (Int32.ofNat (am_sbT.getD (a - 1000000) []).length) :: st) M) : am_G p l e R s m args below meth c Q b ad D cy mid cells slots j ls (.ref a :: st) M := by
  intro H locs cls hl hA
  obtain ⟨hd, hck⟩ := am_fact (am_lt C) hc
  have h := kk H locs cls hl hA
  rw [am_next (am_lt C) hc rfl] at h
  simp only [am_ck, Bool.and_eq_true] at hck
  have hlink := am_call_lk hck.2.1 (by omega)
  have hlow := lv_room (m := m) (pc := am_pc mid j) (ls := cls) (rest := (.ref a :: st).map (am_cv b ad)) (am_low_of (b := b) (ad := ad) hw.2.2)
  obtain ⟨i9, hi9, ha9⟩ : ∃ i9, i9 < 10 ∧ a = 1000000 + i9 := ⟨a - 1000000, by omega, by omega⟩
  subst ha9
  have hsub : 1000000 + i9 - 1000000 = i9 := by omega
  have had : am_cv b ad (.ref (1000000 + i9)) = .ref (ad i9) := congrArg Value.ref ((if_neg (by omega)).trans (congrArg ad hsub))
  rw [hsub] at h
  have hK := C.2.2.2.2.2.2.2.2.1
  have hbs := C.2.2.2.2.2.2.2.2.2.1
  obtain ⟨adV, hVS⟩ := hK.2.2.2.2.2.1
  have hcw := cwV (rm := { frames := 1, cells := 0, slots := 0, locals := 40 }) (R := R) 0 C.2.2.2.2.1 (am_goodIn (ws := wsV (am_nm (am_k mid)) ix "java/lang/String" ys_length (Cond.code ys_length prog_15_method_54_code 1 (some .int) :: am_big)) (fun w9 hw9 => by
    unfold wsV at hw9
    rcases List.mem_append.mp hw9 with h9 | h9
    · simp only [List.mem_cons, List.not_mem_nil, or_false] at h9
      rcases h9 with rfl | rfl | rfl | rfl
      · exact hlink
      · exact am_stw_in (i9 := 19) rfl rfl
      · exact am_stw_in (i9 := 20) rfl rfl
      · exact am_stw_in (i9 := 6) rfl rfl
    · rcases List.mem_cons.mp h9 with rfl | h8
      · exact am_in ys_length_c rfl
      · exact h8)) rfl rfl rfl (by decide +kernel) ⟨by show 1 + 1 ≤ _; omega, by show 8 + (1 + 11) + 40 ≤ _; omega⟩
  refine am_contK (va_runV (As := []) (rest := st.map (am_cv b ad)) ⟨C.1, C.2.1, C.2.2.1, C.2.2.2.1, C.2.2.2.2.1⟩ (cs_length (l := l) (D := D) (cy := cy) (X := X) hi9) hcw ⟨am_blindK, vk_recv hVS hi9 hA.2.2.2, am_preK (vs := [.ref (ad i9)]) hK hbs hA.2.2.2⟩ rfl rfl hl.1 (by show (Value.ref (1000000 + i9) :: st).map (am_cv b ad) = _; rw [List.map_cons, had]; rfl) hlow hd hcap) ?_
  rw [List.map_cons] at h
  have e9 : am_slen.getD i9 0 = (am_sbT.getD i9 []).length := am_str_len i9 hi9
  rw [e9]
  exact h
theorem sd_chat (C : am_Ctx b ad D cy X mid p s m args meth c) (hc : am_cd mid j = some (.invokevirtual ix, p0, 1007, r2, r3)) (hw : 1000000 ≤ a ∧ a < 1000010 ∧ am_low st = true ∧ am_ix x (am_sbT.getD (a - 1000000) []).length = true) (hR : 8 ≤ R.frames ∧ 300 ≤ R.locals) (hcap : cells ≤ R.cells ∧ slots ≤ R.slots) (kk : am_G p l e R s m args below meth c Q b ad D cy mid cells slots (j + 1) ls (.int (am_chr (a - 1000000) x.toNatClampNeg) :: st) M) : am_G p l e R s m args below meth c Q b ad D cy mid cells slots j ls (.int x :: .ref a :: st) M := by
  intro H locs cls hl hA
  obtain ⟨hd, hck⟩ := am_fact (am_lt C) hc
  have h := kk H locs cls hl hA
  rw [am_next (am_lt C) hc rfl] at h
  simp only [am_ck, Bool.and_eq_true] at hck
  have hlink := am_call_lk hck.2.1 (by omega)
  have hlow := lv_room (m := m) (pc := am_pc mid j) (ls := cls) (rest := (.int x :: .ref a :: st).map (am_cv b ad)) (am_low_of (b := b) (ad := ad) hw.2.2.1)
  obtain ⟨i9, hi9, ha9⟩ : ∃ i9, i9 < 10 ∧ a = 1000000 + i9 := ⟨a - 1000000, by omega, by omega⟩
  subst ha9
  have hsub : 1000000 + i9 - 1000000 = i9 := by omega
  have had : am_cv b ad (.ref (1000000 + i9)) = .ref (ad i9) := congrArg Value.ref ((if_neg (by omega)).trans (congrArg ad hsub))
  rw [hsub] at h hw
  have hK := C.2.2.2.2.2.2.2.2.1
  have hbs := C.2.2.2.2.2.2.2.2.2.1
  obtain ⟨adV, hVS⟩ := hK.2.2.2.2.2.1
  have hcw := cwV (rm := { frames := 3, cells := 0, slots := 0, locals := 120 }) (R := R) 1 C.2.2.2.2.1 (am_goodIn (ws := wsV (am_nm (am_k mid)) ix "java/lang/String" ys_charAt (Cond.code ys_charAt prog_15_method_56_code 2 (some .char) :: am_big)) (fun w9 hw9 => by
    unfold wsV at hw9
    rcases List.mem_append.mp hw9 with h9 | h9
    · simp only [List.mem_cons, List.not_mem_nil, or_false] at h9
      rcases h9 with rfl | rfl | rfl | rfl
      · exact hlink
      · exact am_stw_in (i9 := 21) rfl rfl
      · exact am_stw_in (i9 := 22) rfl rfl
      · exact am_stw_in (i9 := 6) rfl rfl
    · rcases List.mem_cons.mp h9 with rfl | h8
      · exact am_in ys_charAt_c rfl
      · exact h8)) rfl rfl rfl (by decide +kernel) ⟨by show 3 + 1 ≤ _; omega, by show 8 + (2 + 11) + 120 ≤ _; omega⟩
  obtain ⟨hx1, hx2⟩ := (am_ix_iff).mp hw.2.2.2
  have e9 : am_slen.getD i9 0 = (am_sbT.getD i9 []).length := am_str_len i9 hi9
  obtain ⟨c1, c2⟩ := am_str_chr i9 hi9 x.toNatClampNeg (by rw [e9]; exact hx2)
  have hlen9 := am_str_small i9 hi9
  have hx3 : x < Int32.ofNat (am_slen.getD i9 0) := by
    rw [Int32.lt_iff_toInt_lt, Int32.toInt_ofNat_of_lt (by omega), e9]
    have z9 : x.toNatClampNeg = x.toInt.toNat := rfl
    omega
  have hnn : ¬ x < 0 := Int32.not_lt.mpr hx1
  refine am_contK (va_runV (As := [.int x]) (rest := st.map (am_cv b ad)) ⟨C.1, C.2.1, C.2.2.1, C.2.2.2.1, C.2.2.2.2.1⟩ (cs_charAt (l := l) (D := D) (cy := cy) (X := X) (i := i9) (k := x) hi9 hnn hx3 (fun h9 => h9.elim hnn (fun h8 => by rw [e9] at h8; omega)) (by rw [c1]; exact c2)) hcw ⟨am_blindK, vk_recv hVS hi9 hA.2.2.2, am_preK (vs := [.ref (ad i9), .int x]) hK hbs hA.2.2.2⟩ rfl rfl hl.1 (by show (Value.int x :: Value.ref (1000000 + i9) :: st).map (am_cv b ad) = _; rw [List.map_cons, List.map_cons, had]; rfl) hlow hd hcap) ?_
  rw [List.map_cons] at h
  rw [c1]
  exact h
end SN5
