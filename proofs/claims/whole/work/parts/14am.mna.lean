/-! ===== int[][] : a making of n rows of k ints, over the machine's own multianewarray ===== -/
section MN
variable {E : CtlPost} {e : Env} {d : Bool} {acts : List Action} {s : State}
theorem am_newArr {c9 comp : ClassId} {n9 : Nat} {v9 : Value} {kA : Class} {ty9 : FieldType} {Q9 : Addr → Pre} (hk : s.vm.classes[c9]? = some kA) (hkind : kA.kind = .array comp ty9) (h1 : ¬ n9 > e.platform.arrayLengthLimit) (h2 : ¬ n9 * componentBytes ty9 > e.platform.maxHeapBytes) (hf : fits ty9 v9 = true) (hc : s.heap.size < e.platform.maxCells) (hs : s.slotsUsed + n9 ≤ e.platform.maxSlots)
    (hQ : ∀ d8 acts8, Q9 s.heap.size d8 acts8 (s.pushCell { cls := c9, slots := Array.replicate n9 v9, vm := .none })) : wp (Jvm.newArray c9 n9 v9) Q9 E e d acts s := by
  have hfit : ∀ i w, (Array.replicate n9 v9)[i]? = some w → s.fitsSlot c9 .none i w = true := by
    intro i w hw
    simp only [Array.getElem?_replicate] at hw
    split at hw
    · cases hw; simp [State.fitsSlot, State.slotType?, hk, hkind, hf]
    · cases hw
  have hn : ¬ n9 > e.platform.maxSlots := by omega
  simp only [Jvm.newArray, Jvm.arrayFits, wp_bind', W.ask, W.ite, h1, if_false, wp_pure', W.theClass, hk, Option.some.injEq, exists_eq_left', hkind, h2, hn, W.alloc, Array.size_replicate]
  exact ⟨hc, hs, hfit, hQ _ _⟩
/-- the outer array when i rows are made -/
def am_oc (cA : ClassId) (n9 h9 i9 : Nat) : Cell := { cls := cA, slots := Array.ofFn (fun j : Fin n9 => if j.val < i9 then Value.ref (h9 + 1 + j.val) else Value.null), vm := .none }
def am_ic (cI : ClassId) (k9 : Nat) : Cell := { cls := cI, slots := Array.replicate k9 (.int 0), vm := .none }
theorem am_oc_zero (cA : ClassId) (n9 h9 : Nat) : ({ cls := cA, slots := Array.replicate n9 .null, vm := .none } : Cell) = am_oc cA n9 h9 0 := by
  unfold am_oc
  congr 1
  apply Array.ext
  · rw [Array.size_replicate, Array.size_ofFn]
  · intro i h1 h2
    rw [Array.getElem_replicate, Array.getElem_ofFn, if_neg (Nat.not_lt_zero _)]
theorem am_oc_succ (cA : ClassId) (n9 h9 i9 : Nat) (hi : i9 < n9) : (am_oc cA n9 h9 i9).setSlot i9 (.ref (h9 + 1 + i9)) = am_oc cA n9 h9 (i9 + 1) := by
  unfold am_oc Cell.setSlot
  congr 1
  apply Array.ext
  · rw [Array.size_setIfInBounds, Array.size_ofFn, Array.size_ofFn]
  · intro i h1 h2
    rw [Array.size_ofFn] at h2
    have hr : (Array.ofFn (fun j : Fin n9 => if j.val < i9 + 1 then Value.ref (h9 + 1 + j.val) else Value.null))[i]'(by rw [Array.size_ofFn]; exact h2) = if i < i9 + 1 then Value.ref (h9 + 1 + i) else Value.null := Array.getElem_ofFn ..
    rw [hr, Array.getElem_setIfInBounds (by rw [Array.size_ofFn]; exact h2)]
    by_cases hq : i9 = i
    · rw [if_pos hq, if_pos (show i < i9 + 1 by omega), hq]
    · rw [if_neg hq, Array.getElem_ofFn]
      by_cases hw : i < i9
      · rw [if_pos hw, if_pos (show i < i9 + 1 by omega)]
      · rw [if_neg hw, if_neg (show ¬ i < i9 + 1 by omega)]
/-- the machine's state when i rows are made -/
def am_fl (T : State) (cA cI : ClassId) (n9 k9 : Nat) : Nat → State
  | 0 => T.pushCell (am_oc cA n9 T.heap.size 0)
  | i9 + 1 => ((am_fl T cA cI n9 k9 i9).pushCell (am_ic cI k9)).setCell T.heap.size (am_oc cA n9 T.heap.size (i9 + 1))
theorem am_fl_top (T : State) (cA cI : ClassId) (n9 k9 : Nat) (g9 : JFrame) (i9 : Nat) : am_fl (T.setTop g9) cA cI n9 k9 i9 = (am_fl T cA cI n9 k9 i9).setTop g9 := by
  induction i9 with
  | zero => rfl
  | succ i ih =>
    show ((am_fl (T.setTop g9) cA cI n9 k9 i).pushCell _).setCell _ _ = _
    rw [ih]
    rfl
theorem am_fl_vm (T : State) (cA cI : ClassId) (n9 k9 i9 : Nat) : (am_fl T cA cI n9 k9 i9).vm = T.vm := by
  induction i9 with
  | zero => rfl
  | succ i ih => exact ih
theorem am_fl_tj (T : State) (cA cI : ClassId) (n9 k9 i9 : Nat) : (am_fl T cA cI n9 k9 i9).topJava? = T.topJava? := by
  induction i9 with
  | zero => rfl
  | succ i ih => exact ih
theorem am_fl_heap (T : State) (cA cI : ClassId) (n9 k9 : Nat) : ∀ i9, (am_fl T cA cI n9 k9 i9).heap.size = T.heap.size + 1 + i9 ∧ (am_fl T cA cI n9 k9 i9).heap[T.heap.size]? = some (am_oc cA n9 T.heap.size i9) ∧ (∀ z, z < T.heap.size → (am_fl T cA cI n9 k9 i9).heap[z]? = T.heap[z]?) ∧ (∀ q, q < i9 → (am_fl T cA cI n9 k9 i9).heap[T.heap.size + 1 + q]? = some (am_ic cI k9)) ∧ (am_fl T cA cI n9 k9 i9).slotsUsed = T.slotsUsed + n9 + i9 * k9
  | 0 => by
    refine ⟨?_, ?_, fun z hz => ?_, fun q hq => absurd hq (Nat.not_lt_zero _), ?_⟩
    · show (T.heap.push _).size = _
      rw [Array.size_push]
    · show (T.heap.push _)[T.heap.size]? = _
      rw [Array.getElem?_push, if_pos rfl]
    · show (T.heap.push _)[z]? = _
      rw [Array.getElem?_push, if_neg (by omega)]
    · show T.slotsUsed + (am_oc cA n9 T.heap.size 0).slots.size = _
      unfold am_oc
      rw [Array.size_ofFn]; omega
  | i9 + 1 => by
    obtain ⟨h1, h2, h3, h4, h5⟩ := am_fl_heap T cA cI n9 k9 i9
    have hh : (am_fl T cA cI n9 k9 (i9 + 1)).heap = ((am_fl T cA cI n9 k9 i9).heap.push (am_ic cI k9)).setIfInBounds T.heap.size (am_oc cA n9 T.heap.size (i9 + 1)) := rfl
    have hz : ((am_fl T cA cI n9 k9 i9).heap.push (am_ic cI k9)).size = T.heap.size + 1 + i9 + 1 := by rw [Array.size_push, h1]
    refine ⟨?_, ?_, fun z hz9 => ?_, fun q hq => ?_, ?_⟩
    · rw [hh, Array.size_setIfInBounds, hz]; omega
    · rw [hh, Array.getElem?_setIfInBounds, if_pos rfl, if_pos (by rw [hz]; omega)]
    · rw [hh, Array.getElem?_setIfInBounds, if_neg (by omega), Array.getElem?_push, if_neg (by rw [h1]; omega)]
      exact h3 z hz9
    · rw [hh, Array.getElem?_setIfInBounds, if_neg (by omega), Array.getElem?_push]
      by_cases hw : T.heap.size + 1 + q = (am_fl T cA cI n9 k9 i9).heap.size
      · rw [if_pos hw]
      · rw [if_neg hw]
        exact h4 q (by omega)
    · show (am_fl T cA cI n9 k9 i9).slotsUsed + (am_ic cI k9).slots.size = _
      unfold am_ic
      rw [h5, Array.size_replicate, Nat.succ_mul]; omega
end MN
section MN2
variable {E : CtlPost} {e : Env} {d : Bool} {acts : List Action}
theorem am_fill {T : State} {cA cI cE : ClassId} {n9 k9 : Nat} {x9 : Int32} {kA kI : Class} {Q9 : PUnit → Pre} (hkA : T.vm.classes[cA]? = some kA) (hkindA : kA.kind = .array cI (.array .int)) (hkI : T.vm.classes[cI]? = some kI) (hkindI : kI.kind = .array cE .int) (hx : ¬ x9 < 0) (hxk : x9.toNatClampNeg = k9) (hl : ¬ k9 > e.platform.arrayLengthLimit) (hb : ¬ k9 * 4 > e.platform.maxHeapBytes)
    (hc : T.heap.size + 1 + n9 ≤ e.platform.maxCells) (hs : T.slotsUsed + n9 + n9 * k9 ≤ e.platform.maxSlots)
    (hQ : ∀ d8 acts8, Q9 PUnit.unit d8 acts8 (am_fl T cA cI n9 k9 n9)) :
    wp (forIn (List.range' 0 n9) PUnit.unit (fun i9 r9 => do
        let y9 ← Op.multianewarray.make cI [x9]
        writeLoc T.heap.size i9 (.ref y9)
        Pure.pure (ForInStep.yield PUnit.unit))) Q9 E e d acts (am_fl T cA cI n9 k9 0) := by
  refine wp_forIn_inv (fun r8 S8 => ∃ i8, i8 ≤ n9 ∧ r8 = List.range' i8 (n9 - i8) ∧ S8 = am_fl T cA cI n9 k9 i8) _ _ ⟨0, Nat.zero_le _, rfl, rfl⟩ (fun z8 r8 S8 d8 a8 Q8 h8 hq => ?_) (fun S8 d8 a8 h8 => ?_)
  · obtain ⟨i8, hi, hr, rfl⟩ := h8
    have hlt : i8 < n9 := by
      rcases Nat.lt_or_ge i8 n9 with h | h
      · exact h
      · rw [Nat.sub_eq_zero_of_le h] at hr
        exact absurd hr (by simp)
    rw [show n9 - i8 = (n9 - (i8 + 1)) + 1 by omega, List.range'_succ] at hr
    obtain ⟨hz, hr⟩ := List.cons.inj hr
    subst hz
    obtain ⟨f1, f2, f3, f4, f5⟩ := am_fl_heap T cA cI n9 k9 z8
    have hm : z8 * k9 + k9 ≤ n9 * k9 := by
      have := Nat.mul_le_mul_right k9 (show z8 + 1 ≤ n9 from hlt)
      rwa [Nat.succ_mul] at this
    simp only [Op.multianewarray.make, wp_bind', W.ite, hx, if_false, wp_pure', W.theClass, am_fl_vm, hkI, Option.some.injEq, exists_eq_left', hkindI]
    refine am_newArr (s := am_fl T cA cI n9 k9 z8) (comp := cE) (ty9 := .int) (by rw [am_fl_vm]; exact hkI) hkindI (by rw [hxk]; exact hl) (by rw [hxk]; exact hb) rfl (by rw [f1]; omega) (by rw [f5, hxk]; omega) (fun d7 a7 => ?_)
    rw [hxk]
    refine ⟨am_oc cA n9 T.heap.size z8, ?_, by unfold am_oc; simp, ?_, ?_, ?_⟩
    · show ((am_fl T cA cI n9 k9 z8).heap.push _)[T.heap.size]? = _
      rw [Array.getElem?_push, if_neg (by rw [f1]; omega)]
      exact f2
    · unfold am_oc
      rw [Array.size_ofFn]
      exact hlt
    · have hv : ((am_fl T cA cI n9 k9 z8).pushCell { cls := cI, slots := Array.replicate k9 (defaultValue .int), vm := .none }).vm = T.vm := am_fl_vm ..
      simp [State.fitsSlot, State.slotType?, State.vm_pushCell, am_fl_vm, am_oc, hkA, hkindA, fits]
    · have e9 : ((am_fl T cA cI n9 k9 z8).pushCell { cls := cI, slots := Array.replicate k9 (defaultValue .int), vm := .none }).setCell T.heap.size ((am_oc cA n9 T.heap.size z8).setSlot z8 (.ref (am_fl T cA cI n9 k9 z8).heap.size)) = am_fl T cA cI n9 k9 (z8 + 1) := by
        rw [f1, am_oc_succ cA n9 T.heap.size z8 hlt]
        rfl
      rw [e9]
      exact hq _ _ _ ⟨z8 + 1, hlt, hr, rfl⟩
  · obtain ⟨i8, hi, hr, rfl⟩ := h8
    have : i8 = n9 := by
      have h1 := congrArg List.length hr
      rw [List.length_range'] at h1
      simp at h1
      omega
    subst this
    exact hQ _ _
theorem am_mna_wp {T : State} {g9 : JFrame} {Q : Unit → Pre} {ix9 : Nat} {cA cI cE : ClassId} {x9 y9 : Int32} {kA kI : Class} {rest : List Value} (htop : T.topJava?.isSome) (hr : T.vm.classReady g9.method.cls ix9 cA) (hkA : T.vm.classes[cA]? = some kA) (hkindA : kA.kind = .array cI (.array .int)) (hkI : T.vm.classes[cI]? = some kI) (hkindI : kI.kind = .array cE .int) (hst : g9.stack = .int x9 :: .int y9 :: rest) (hx : ¬ x9 < 0) (hy : ¬ y9 < 0)
    (hl : ¬ x9.toNatClampNeg > e.platform.arrayLengthLimit) (hb : ¬ x9.toNatClampNeg * 4 > e.platform.maxHeapBytes) (hl2 : ¬ y9.toNatClampNeg > e.platform.arrayLengthLimit) (hb2 : ¬ y9.toNatClampNeg * 4 > e.platform.maxHeapBytes)
    (hc : T.heap.size + 1 + y9.toNatClampNeg ≤ e.platform.maxCells) (hs : T.slotsUsed + y9.toNatClampNeg + y9.toNatClampNeg * x9.toNatClampNeg ≤ e.platform.maxSlots)
    (hQ : ∀ d8 acts8, Q () d8 acts8 ((am_fl T cA cI y9.toNatClampNeg x9.toNatClampNeg y9.toNatClampNeg).setTop { g9 with stack := .ref T.heap.size :: rest })) :
    wp (Op.multianewarray.sem ix9 2) Q E e d acts (T.setTop g9) := by
  simp only [Op.multianewarray.sem, wp_bind', W.resolveClassAt_ready (s := T.setTop g9) (State.method?_setTop g9 htop) hr]
  refine (popN_top (args := [.int y9, .int x9]) (rest := rest) htop hst).mpr ?_
  simp only [List.mapM_cons, List.mapM_nil, wp_bind', wp_pure', pure_bind, bind_pure_comp, map_pure]
  rw [Op.multianewarray.make]
  simp only [wp_bind', W.ite, hy, if_false, wp_pure', W.theClass, State.vm_setTop, hkA, Option.some.injEq, exists_eq_left', hkindA]
  refine am_newArr (s := T.setTop { g9 with stack := rest }) (comp := cI) (ty9 := .array .int) hkA hkindA hl2 hb2 rfl (by show T.heap.size < _; omega) (by show T.slotsUsed + _ ≤ _; omega) (fun d7 a7 => ?_)
  have hfnd : List.find? (fun z => decide (z < 0)) [x9] = none := by simp [hx]
  simp only [hfnd, wp_pure', W.ite]
  rw [am_oc_zero cA y9.toNatClampNeg T.heap.size]
  have key : ∀ d6 a6 (Q6 : PUnit → Pre), (∀ d8 acts8, Q6 PUnit.unit d8 acts8 ((am_fl T cA cI y9.toNatClampNeg x9.toNatClampNeg y9.toNatClampNeg).setTop { g9 with stack := rest })) → wp (forIn (List.range' 0 y9.toNatClampNeg) PUnit.unit (fun i9 r9 => do
        let y9 ← Op.multianewarray.make cI [x9]
        writeLoc T.heap.size i9 (.ref y9)
        Pure.pure (ForInStep.yield PUnit.unit))) Q6 E e d6 a6 ((T.setTop { g9 with stack := rest }).pushCell (am_oc cA y9.toNatClampNeg T.heap.size 0)) := fun d6 a6 Q6 hQ6 =>
    am_fill (T := T.setTop { g9 with stack := rest }) (cE := cE) hkA hkindA hkI hkindI hx rfl hl hb hc hs (fun d8 a8 => by rw [am_fl_top]; exact hQ6 d8 a8)
  have fin : ∀ (d6 : Bool) (a6 : List Action), wp (forIn (List.range' 0 y9.toNatClampNeg) PUnit.unit (fun i9 r9 => do
        let y9 ← Op.multianewarray.make cI [x9]
        writeLoc T.heap.size i9 (.ref y9)
        Pure.pure (ForInStep.yield PUnit.unit))) (fun _ => wp (pushRef T.heap.size) Q E e) E e d6 a6 ((T.setTop { g9 with stack := rest }).pushCell (am_oc cA y9.toNatClampNeg T.heap.size 0)) := fun d6 a6 => key d6 a6 _ (fun d8 a8 => ⟨_, State.topJava?_setTop' _ (show (am_fl T cA cI y9.toNatClampNeg x9.toNatClampNeg y9.toNatClampNeg).topJava?.isSome by rw [am_fl_tj]; exact htop), by rw [State.setTop_setTop]; exact hQ _ _⟩)
  rw [ite_self, Std.Legacy.Range.forIn_eq_forIn_range']
  have hz : (Std.Legacy.Range.mk 0 y9.toNatClampNeg 1 Nat.one_pos).size = y9.toNatClampNeg := by simp [Std.Legacy.Range.size]
  simp only [wp_bind', wp_pure', W.mark, hz]
  exact fin _ _
theorem am_mna_cold {T : State} {g9 : JFrame} {Q : Unit → Pre} {ix9 cA : Nat} {vm9 : Vm} (hs : T.topJava?.isSome) (hg : (Jvm.resolveClass g9.method.cls ix9).Gives e.toSetting T.vm (.ok cA) vm9) (hr : vm9.classReady g9.method.cls ix9 cA) (hsz : vm9.classes.size ≤ T.vm.classes.size := by no_record) :
    wp (Op.multianewarray.sem ix9 2) Q E e d acts (T.setTop g9) ↔ wp (Op.multianewarray.sem ix9 2) Q E e d acts ((T.setVm vm9).setTop g9) := by
  simp only [Op.multianewarray.sem, wp_bind']
  exact W.resolveClassAt_transfer (s := T.setTop g9) (State.method?_setTop g9 hs) hg hr
end MN2
section MN3
variable {p : Program} {l : Launch} {e : Env} {R : Room} {s : State} {m : MethodId} {args : Array Value} {below : List Frame} {meth : Method} {c : Code} {T : State} {locs : List Loc} {cells slots : Nat}
theorem am_fl_stand (X : Stand p l e R s m args below meth c T locs cells slots) (cA cI : ClassId) (n9 k9 : Nat) : ∀ i9, i9 ≤ n9 → Stand p l e R s m args below meth c (am_fl T cA cI n9 k9 i9) locs (cells + 1 + i9) (slots + n9 + i9 * k9)
  | 0, _ => by
    have h := X.pushed (am_oc cA n9 T.heap.size 0)
    have e9 : (am_oc cA n9 T.heap.size 0).slots.size = n9 := by unfold am_oc; rw [Array.size_ofFn]
    rw [e9] at h
    rw [Nat.zero_mul]
    exact h
  | i9 + 1, hi => by
    have h := (am_fl_stand X cA cI n9 k9 i9 (by omega)).pushed (am_ic cI k9)
    have e9 : (am_ic cI k9).slots.size = k9 := by unfold am_ic; rw [Array.size_replicate]
    rw [e9] at h
    obtain ⟨f1, f2, -, -, -⟩ := am_fl_heap T cA cI n9 k9 i9
    have hc : ((am_fl T cA cI n9 k9 i9).pushCell (am_ic cI k9)).heap[T.heap.size]? = some (am_oc cA n9 T.heap.size i9) := by
      show ((am_fl T cA cI n9 k9 i9).heap.push _)[T.heap.size]? = _
      rw [Array.getElem?_push, if_neg (by rw [f1]; omega)]
      exact f2
    have h2 := h.stored hc i9 (.ref (T.heap.size + 1 + i9))
    have h3 := h2.dropFresh (fun x hx => by
      cases hx with
      | head => exact X.heapGrown
      | tail _ hx => cases hx)
    rw [am_oc_succ cA n9 T.heap.size i9 (by omega)] at h3
    rw [Nat.succ_mul, ← Nat.add_assoc (slots + n9), ← Nat.add_assoc (cells + 1)]
    exact h3
theorem am_mnaF (X : Stand p l e R s m args below meth c T locs cells slots) (hexec : p.tables.exec = Jvm.exec) {own : String} {ix9 : Nat} (hown : s.vm.findClass own = some m.cls) (hclink : (Cond.classLink own ix9 "[[I").before args s = true) {cA cI cE : ClassId} {kA kI : Class} (hfA : s.vm.findClass "[[I" = some cA) (hkA : s.vm.classes[cA]? = some kA) (hkindA : kA.kind = .array cI (.array .int)) (hkI : s.vm.classes[cI]? = some kI) (hkindI : kI.kind = .array cE .int)
    {g9 : JFrame} (hg : g9.method = m) (hdg : decode c.code g9.pc = .ok (.multianewarray ix9 2, 4)) {x9 y9 : Int32} {rest : List Value} (hst : g9.stack = .int x9 :: .int y9 :: rest) (hx : ¬ x9 < 0) (hy : ¬ y9 < 0) (hx2 : x9.toNatClampNeg ≤ 4096) (hy2 : y9.toNatClampNeg ≤ 4096) (hcells : cells + (1 + y9.toNatClampNeg) ≤ R.cells) (hslots : slots + (y9.toNatClampNeg + y9.toNatClampNeg * x9.toNatClampNeg) ≤ R.slots) :
    ∃ vm9 : Vm, Stand p l e R s m args below meth c (am_fl (T.setVm vm9) cA cI y9.toNatClampNeg x9.toNatClampNeg y9.toNatClampNeg) locs (cells + 1 + y9.toNatClampNeg) (slots + y9.toNatClampNeg + y9.toNatClampNeg * x9.toNatClampNeg) ∧
      ∀ target, Steps p.tables e below ((am_fl (T.setVm vm9) cA cI y9.toNatClampNeg x9.toNatClampNeg y9.toNatClampNeg).setTop { g9 with pc := g9.pc + 4, stack := .ref T.heap.size :: rest }) target → Steps p.tables e below (T.setTop g9) target := by
  subst hg
  have hpl : e.platform.magicAccessors = ({} : Platform).magicAccessors := by rw [X.admits.platform]
  obtain ⟨cc, hfcc, hcl⟩ := Cond.classLink_spec hown hclink e.platform hpl
  cases hfA.symm.trans hfcc
  obtain ⟨hg₁, hwarm₁, hready₁⟩ := State.classEntry (e := e) X.warmed hcl
  generalize T.vm.noted g9.method.cls ix9 (.cls cA) = vm₁ at hg₁ hwarm₁ hready₁
  have hal : s.vm.Alike vm₁ := hwarm₁.alike
  obtain ⟨kA₁, hkA₁, heA⟩ := hal.2.2 _ _ hkA
  obtain ⟨kI₁, hkI₁, heI⟩ := hal.2.2 _ _ hkI
  have hkindA₁ : kA₁.kind = .array cI (.array .int) := by rw [heA]; exact hkindA
  have hkindI₁ : kI₁.kind = .array cE .int := by rw [heI]; exact hkindI
  have l1 := Launch.admits_arrayLengthLimit X.admits
  have l2 := Launch.admits_maxHeapBytes X.admits
  obtain ⟨hr1, hr2⟩ := X.roomAbove hcells hslots
  refine ⟨vm₁, am_fl_stand (X.noted hwarm₁) cA cI _ _ _ (Nat.le_refl _), fun target hrest => ?_⟩
  jvm_step X.here [hexec, hdg, am_mna_cold (e := e) (T := T) (g9 := g9) X.here.top hg₁ hready₁]
  refine am_mna_wp (T := T.setVm vm₁) (cA := cA) (cI := cI) (cE := cE) X.here.top hready₁ hkA₁ hkindA₁ hkI₁ hkindI₁ hst hx hy (by rw [l1]; omega) (by rw [l2]; omega) (by rw [l1]; omega) (by rw [l2]; omega) (by show T.heap.size + 1 + _ ≤ _; omega) (by show T.slotsUsed + _ + _ ≤ _; omega) (fun d8 a8 => ?_)
  intro a7
  rw [afterInstr_ok]
  exact hrest
end MN3
