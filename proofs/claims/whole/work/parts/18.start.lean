/-! ===== the law's entry: what the Statement gives is what the small machine needs; its run gives the claim ===== -/
theorem am_AA_of {args : Array Value} {s : State} (h : (Cond.arrayOver (.array .int)).before args s = true) : ∃ (comp c9 : ClassId) (k9 : Class), s.vm.findClass ("[" ++ (FieldType.int).toString) = some comp ∧ s.vm.classes[c9]? = some k9 ∧ k9.kind = .array comp (.array .int) ∧ s.vm.findClass ("[" ++ (FieldType.array .int).toString) = some c9 := by
  simp only [Cond.before, Cond.holds, Cond.value, beq_iff_eq, Option.bind_eq_some_iff, Option.map_eq_some_iff] at h
  obtain ⟨comp, h1, c9, h2, k9, h3, h4⟩ := h
  obtain ⟨hlt, hp, -⟩ := Array.findIdx?_eq_some_iff_getElem.mp h2
  have hkk : s.vm.classes[c9] = k9 := (Array.getElem?_eq_some_iff.mp h3).2
  rw [hkk] at hp
  cases hkind : k9.kind with
  | array comp2 ty9 =>
    rw [hkind] at h4 hp
    simp only [Bool.and_eq_true, decide_eq_true_eq, beq_iff_eq] at h4 hp
    exact ⟨comp, c9, k9, h1, h3, by rw [hkind, hp, h4.1], h4.2⟩
  | _ => rw [hkind] at h4; cases h4
def am_tm (i : Nat) : Term := .string RX5 (am_srT.getD i (0, 0)).1
def am_atoms : List Cond := flatC (Jvm.Cond.and given_1 narrow_1)
set_option maxRecDepth 100000 in
theorem am_at1 : ∀ i, i < 10 → Cond.exactly (am_tm i) "java/lang/String" ∈ am_atoms ∧ Cond.eq (.field (am_tm i) "java/lang/String" "coder" "B") (.int 0) ∈ am_atoms ∧ Cond.arrayOf (.field (am_tm i) "java/lang/String" "value" "[B") .byte ∈ am_atoms ∧ Cond.eq (.length (.field (am_tm i) "java/lang/String" "value" "[B")) (.int (Int32.ofNat (am_slen.getD i 0))) ∈ am_atoms ∧ am_slen.getD i 0 < 2 ^ 31 := by decide +kernel
set_option maxRecDepth 100000 in
theorem am_at2 : ∀ i, i < 10 → ∀ j, j < am_slen.getD i 0 → Cond.eq (.elem (.field (am_tm i) "java/lang/String" "value" "[B") (.int (Int32.ofNat j))) (.int ((am_sbT.getD i []).getD j 0)) ∈ am_atoms := by decide +kernel
set_option maxRecDepth 100000 in
theorem am_at3 : ∀ i, i < 10 → ∀ j, j < 10 → i ≠ j → Cond.not (Cond.eq (am_tm i) (am_tm j)) ∈ am_atoms ∨ Cond.not (Cond.eq (am_tm j) (am_tm i)) ∈ am_atoms := by decide +kernel
set_option maxRecDepth 100000 in
theorem am_at4 : ∀ j, j < 8 → Cond.eq (.elem (.static "PitchSquare$Season" "ORDERS" "[I") (.int (Int32.ofNat j))) (.int (am_orders j)) ∈ am_atoms := by decide +kernel
set_option maxRecDepth 100000 in
theorem am_at5 : Cond.eq (.static "java/lang/String" "COMPACT_STRINGS" "Z") (.int 1) ∈ am_atoms ∧ Cond.arrayOf (.static "PitchSquare$Season" "ORDERS" "[I") .int ∈ am_atoms ∧ Cond.eq (.length (.static "PitchSquare$Season" "ORDERS" "[I")) (.int (Int32.ofNat 8)) ∈ am_atoms := by decide +kernel
set_option maxRecDepth 100000 in
theorem am_at6 : (∀ q ∈ am_srT, Cond.stringRef RX5 q.1 (am_stT.getD q.2 "") ∈ lw_tbl ∧ q = ((am_srT.getD q.2 (0, 0)).1, q.2) ∧ q.2 < 10) ∧ (∀ q ∈ am_neT, Cond.methodLinkNest (am_nm q.1) q.2.1 (am_y q.2.2) "PitchSquare" ∈ lw_tbl) := by decide +kernel
set_option maxRecDepth 100000 in
theorem am_at7 : Cond.arrayOver (.object RX8) ∈ lw_tbl ∧ Cond.arrayOver (.array .int) ∈ lw_tbl ∧ Cond.arrayClass .int ∈ lw_tbl ∧ Cond.arrayClass .byte ∈ lw_tbl ∧ Cond.arrayClass .boolean ∈ lw_tbl ∧ Cond.arrayClass .long ∈ lw_tbl ∧ Cond.laysStatic "java/lang/String" "COMPACT_STRINGS" "Z" ∈ lw_tbl ∧ Cond.initialized "java/lang/String" ∈ lw_tbl ∧ Cond.laysStatic "PitchSquare$Season" "ORDERS" "[I" ∈ lw_tbl ∧ Cond.initialized "PitchSquare$Season" ∈ lw_tbl ∧ Cond.laysStatic "jdk/internal/util/Preconditions" "SIOOBE_FORMATTER" "Ljava/util/function/BiFunction;" ∈ lw_tbl ∧ Cond.initialized "jdk/internal/util/Preconditions" ∈ lw_tbl ∧ Cond.isRef (.static "jdk/internal/util/Preconditions" "SIOOBE_FORMATTER" "Ljava/util/function/BiFunction;") ∈ am_atoms := by decide +kernel
theorem am_arrOf {args : Array Value} {s : State} {ty : FieldType} (h : (Cond.arrayClass ty).before args s = true) : ∃ c9 : ClassId, ArrOfT s c9 ty ∧ s.vm.findClass ("[" ++ ty.toString) = some c9 := by
  obtain ⟨c9, k9, comp, h1, h2, h3⟩ := Cond.arrayClass_spec h
  exact ⟨c9, fun n z => ⟨fun k h => (by cases h), k9, h2, comp, h3⟩, h1⟩
theorem am_vkS {A : Nat → Prop} {s : State} {H : Heap} {adK ad adV : Nat → Nat} (h : vk_S 10 am_slen am_sbT adK adV A s H) (he : ∀ i, i < 10 → ad i = adK i) : vk_S 10 am_slen am_sbT ad adV A s H := by
  refine ⟨fun i hi => ?_, fun i j hi hj h1 => ?_⟩
  · rw [he i hi]
    exact h.1 i hi
  · rw [he i hi, he j hj] at h1
    exact h.2 i j hi hj h1
/-- the entry: the constants' addresses, the classes' numbers, and all that is known there -/
theorem am_entry {p : Program} {s : State} {m : MethodId} {meth : Method} {c : Code} {b L : Nat} {xs : Nat → Int32} (C0 : lw_At p s m meth c b L xs) : ∃ (ad : Nat → Nat) (D : va_G) (cy : Nat → ClassId), ad 50 = b ∧ am_Ctx s.heap.size ad D cy (L, xs) 204 p s m #[Value.ref b] meth c := by
  obtain ⟨hx, hb, hr, hml, hown, hts, hX, hbl, hlocks, hgv⟩ := C0
  have hat : ∀ w9 ∈ am_atoms, w9.before #[Value.ref b] s = true := flat_of_before _ hgv
  have hnA : ∀ a : Nat, a < s.heap.size → ¬ am_A s.heap.size a := fun a h1 h2 => absurd h1 (Nat.not_lt.mpr h2)
  obtain ⟨w1, w2, w3, w4, w5, w6, w7, w8, w9, w10, w11, w12, w13⟩ := am_at7
  obtain ⟨adK, adV, hS, hev⟩ := vk_Sof (args := #[Value.ref b]) (s := s) (N := 10) (tm := am_tm) (len := am_slen) (byt := am_sbT) (A := am_A s.heap.size) (fun i hi => (am_at1 i hi).2.2.2.2) (fun i hi => hat _ (am_at1 i hi).1) (fun i hi => hat _ (am_at1 i hi).2.1) (fun i hi => hat _ (am_at1 i hi).2.2.1) (fun i hi => hat _ (am_at1 i hi).2.2.2.1) (fun i hi j hj => hat _ (am_at2 i hi j hj))
    (fun i j hi hj hij => (am_at3 i hi j hj hij).elim (fun h => Or.inl (hat _ h)) (fun h => Or.inr (hat _ h))) hnA
  obtain ⟨tO, hO1, hO2⟩ := va_Tof (args := #[Value.ref b]) (s := s) (tm := .static "PitchSquare$Season" "ORDERS" "[I") (ty := .int) (N := 8) (f := fun k => .int (am_orders k)) (A := am_A s.heap.size) (by decide) (hat _ am_at5.2.1) (va_eqt (hat _ am_at5.2.2)) (fun j hj => va_eqt (hat _ (am_at4 j hj))) hnA
  obtain ⟨cI, a1, a2⟩ := am_arrOf (hts _ w3)
  obtain ⟨cB, b1, b2⟩ := am_arrOf (hts _ w4)
  obtain ⟨cZ, d1, d2⟩ := am_arrOf (hts _ w5)
  obtain ⟨cJ, f1, f2⟩ := am_arrOf (hts _ w6)
  obtain ⟨compT, cT, kT, g1, -, g3, g4, g5⟩ := Cond.arrayOver_spec (hts _ w1)
  obtain ⟨compA, cA, kA, i1, i2, i3, i4⟩ := am_AA_of (hts _ w2)
  have hcomp : compA = cI := Option.some.inj (i1.symm.trans a2)
  subst hcomp
  have hcls : ∀ c9 : Nat, ∃ q9 : ClassId × (Nat → Nat), ∀ r9 : vw_C, am_cl[c9]? = some r9 → u_Kn s r9.1 r9.2.1 r9.2.2 q9.1 q9.2 := by
    intro c9
    by_cases h12 : c9 < 12
    · obtain ⟨Cn, T, N, ty, hcl, -, -⟩ := am_class h12
      obtain ⟨e1, e2, e3, e4, e5, e6⟩ := am_cl_facts h12 hcl
      have hbig : ∀ z9 ∈ am_big, z9.before #[Value.ref b] s = true := fun z9 hz => hts z9 (List.mem_filter.mp hz).1
      obtain ⟨cC, iS, hk⟩ := u_known (args := #[Value.ref b]) (s := s) hbig e5 (hbig _ e2)
      refine ⟨(cC, iS), fun r9 hr9 => ?_⟩
      rw [hcl] at hr9
      cases hr9
      exact hk
    · refine ⟨(0, fun _ => 0), fun r9 hr9 => ?_⟩
      have := (List.getElem?_eq_some_iff.mp hr9).1
      have h3 : am_cl.length = 12 := rfl
      omega
  obtain ⟨DD, hDD⟩ := Classical.axiomOfChoice hcls
  have hother : ∀ k, k < 10 → (fun i => if i = 40 then tO else if i = 50 then b else adK i) k = adK k := fun k hk => by
    show (if k = 40 then tO else if k = 50 then b else adK k) = adK k
    rw [if_neg (by omega), if_neg (by omega)]
  refine ⟨fun i => if i = 40 then tO else if i = 50 then b else adK i, (fun c9 => (DD c9).1, fun c9 => (DD c9).2), fun k => if k = 100 then compA else if k = 101 then cB else if k = 102 then cZ else if k = 103 then cJ else if k = 104 then cT else cA, rfl, hx, hb, hml, hown, fun z9 hz => hts z9 (List.mem_filter.mp hz).1, hr, hlocks, fun z => absurd z (by decide), ?_, Nat.le_refl _, by omega⟩
  refine ⟨⟨fun c9 r9 hr9 => hDD c9 r9 hr9, fun k9 q9 hk9 => ?_⟩, fun q9 hq9 => va_Nw.of rfl (hts _ (am_at6.2 q9 hq9)), va_AO.of (hts _ w1), ⟨kA, i2, i3⟩, fun q9 hq9 => ?_, ⟨adV, am_vkS hS hother⟩, ⟨va_Zof (hts _ w7) (hts _ w8) (va_eqi (hat _ am_at5.1)) hnA, va_Zqof (hts _ w11) (hts _ w12) (hat _ w13) hnA⟩, va_Zof (hts _ w9) (hts _ w10) hO1 hnA, hO2, hX, hbl⟩
  · match k9, hk9 with
    | 0, hk9 => cases hk9; exact ⟨a1, a2⟩
    | 1, hk9 => cases hk9; exact ⟨b1, b2⟩
    | 2, hk9 => cases hk9; exact ⟨d1, d2⟩
    | 3, hk9 => cases hk9; exact ⟨f1, f2⟩
    | 4, hk9 => cases hk9; exact ⟨fun n z => ⟨fun k h => (by cases h), kT, g3, compT, g4⟩, kT, compT, g3, g4, g1, g5⟩
    | 5, hk9 => cases hk9; exact ⟨fun n z => ⟨fun k h => (by cases h), kA, i2, compA, i3⟩, i4⟩
    | n + 6, hk9 => cases hk9
  · obtain ⟨h1, h2, h3⟩ := am_at6.1 q9 hq9
    have h4 : (fun i => if i = 40 then tO else if i = 50 then b else adK i) q9.2 = adK q9.2 := hother q9.2 h3
    dsimp only at h4 ⊢
    rw [h4]
    have h5 := hev q9.2 h3
    have h6 : q9.1 = (am_srT.getD q9.2 (0, 0)).1 := by have h7 := congrArg Prod.fst h2; exact h7
    refine vk_R.of (hts _ h1) ?_
    rw [h6]
    exact h5
def am_M0 : am_M := ([], [], fun _ _ => 0, fun _ _ => 0)
/-- the run of the law in the small machine gives the walk of the law -/
theorem am_whole {p : Program} {e : Env} {s : State} {m : MethodId} {below : List Frame} {meth : Method} {c : Code} (l : Launch) {b L : Nat} {xs : Nat → Int32} (C0 : lw_At p s m meth c b L xs)
    (hrun : am_wp (L, xs) 30 204 0 [.ref 1000050, .retAddr 0, .retAddr 0, .retAddr 0] [] am_M0 (fun v M' => v = some (.int 1) ∧ M'.1.length ≤ 600000 ∧ am_sz M' ≤ 7302250)) :
    W p l e room_1 s m #[Value.ref b] below meth c s.heap [] 0 0 (lw_Z below #[Value.ref b] s) (entryFrame m ([Value.ref b] : List Value).toArray 4) := by
  obtain ⟨ad, D, cy, hb5, C⟩ := am_entry C0
  obtain ⟨n, v, M', hex, rfl, hM1, hM2⟩ := hrun
  have hret : ∀ (j' : Nat) (ls' : List Value) (c9 s9 : Nat), (am_cd 204 j').bind (fun e9 => am_step (L, xs) e9 j' ls' (some (Value.int 1)).toList M') = some (.inr (.inr (some (Value.int 1)))) → c9 = 0 + (M'.1.length - am_M0.1.length) → s9 = 0 + (am_sz M' - am_sz am_M0) → am_G p l e room_1 s m #[Value.ref b] below meth c (lw_Z below #[Value.ref b] s) s.heap.size ad D cy 204 c9 s9 j' ls' (some (Value.int 1)).toList M' := by
    intro j' ls' c9 s9 hs h1 h2 H locs cls hl hA
    have h0 : am_sz am_M0 = 0 := rfl
    have h00 : am_M0.1.length = 0 := rfl
    obtain ⟨e9, hc, hs⟩ := Option.bind_eq_some_iff.mp hs
    obtain ⟨hd, hck⟩ := am_fact (am_lt C) hc
    obtain ⟨-, hi⟩ := am_ret_st hs
    obtain ⟨i9, p0, r1, r2, r3⟩ := e9
    simp only at hi
    have hi9 : i9 = .ireturn := by
      rcases hi with rfl | rfl | rfl | rfl
      · rfl
      · simp only [am_ck, Bool.and_eq_true, decide_eq_true_eq] at hck
        exact absurd hck.2 (by decide)
      · simp only [am_ck, Bool.and_eq_true] at hck
        exact absurd hck.2 (by decide)
      · simp only [am_ck, Bool.and_eq_true, decide_eq_true_eq] at hck
        exact absurd hck.2 (by decide)
    subst hi9
    refine va_forget hA.2.2.2.2.2 (W.widen (k := 600000) (n := 7302250) (by omega) (by omega) ?_)
    exact lw_ret C0.1 C0.2.1 C0.2.2.1 C0.2.2.2.2.2.2.2.2.1 hd
  have h := am_sound l s.heap.size ad D cy (L, xs) n 30 204 0 _ [] am_M0 _ M' hex (by omega) p e room_1 s m #[Value.ref b] below meth c (lw_Z below #[Value.ref b] s) 0 0 C ⟨by decide, by decide⟩ ⟨by show 0 + (M'.1.length - 0) ≤ 600000; omega, by show 0 + (am_sz M' - 0) ≤ 7302250; omega⟩ hret
  have hent : am_ent 4 [.ref 1000050] = [.ref 1000050, .retAddr 0, .retAddr 0, .retAddr 0] := rfl
  have hl := am_ent_lr (b := s.heap.size) (ad := ad) (n := 4) (vs := [.ref 1000050]) rfl
  rw [hent] at hl
  have h2 := h s.heap [] _ hl ⟨fun k9 q9 hk9 => (by cases hk9), rfl, ⟨rfl, by decide, fun a k n z => (by cases z), fun a k n z => (by cases z)⟩, va_S.rf⟩
  rw [am_pc0 204 (by omega)] at h2
  rw [lg_entry_eq]
  have hcv : ([.ref 1000050] : List Value).map (am_cv s.heap.size ad) = [.ref b] := by
    show [Value.ref (ad 50)] = _
    rw [hb5]
  rw [hcv] at h2
  exact h2
