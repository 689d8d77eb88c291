/-! ===== the small machine's memory as cells of the machine's heap ===== -/
def am_ad (b : Nat) (ad : Nat → Nat) (a : Nat) : Nat := if a < 1000000 then b + a else ad (a - 1000000)
def am_cv (b : Nat) (ad : Nat → Nat) (v : Value) : Value := match v with
  | .ref a => .ref (am_ad b ad a)
  | v => v
theorem am_cv_cat (b : Nat) (ad : Nat → Nat) (v : Value) : (am_cv b ad v).category = v.category := by cases v <;> rfl
theorem am_cv_sum (b : Nat) (ad : Nat → Nat) (l : List Value) : ((l.map (am_cv b ad)).map fun v => v.category).sum = (l.map fun v => v.category).sum := by
  rw [List.map_map]
  congr 1
  exact List.map_congr_left (fun v _ => am_cv_cat b ad v)
def am_fv (b : Nat) (ad : Nat → Nat) (M : am_M) (ci a k : Nat) : Value := match (am_ftT.getD ci []).getD k 2 with
  | 0 => .int (M.2.2.1 a k)
  | 1 => .long (M.2.2.2 a k)
  | _ => va_rf ((am_rd M.2.1 a k).map (am_ad b ad))
def am_cell (cy : Nat → ClassId) (b : Nat) (ad : Nat → Nat) (M : am_M) (a : Nat) : va_E := match M.1[a]? with
  | none => .inr (0, [])
  | some (k, n) => if k < 100 then .inr (k, (List.range n).map (am_fv b ad M k a)) else if k = 103 then .inl (cy k, n, .inr (.inl (M.2.2.2 a))) else if k = 104 ∨ k = 105 then .inl (cy k, n, .inr (.inr (.inr (.inr (fun i => (am_rd M.2.1 a i).map (am_ad b ad)))))) else .inl (cy k, n, .inl (M.2.2.1 a))
def am_ws (cy : Nat → ClassId) (b : Nat) (ad : Nat → Nat) (M : am_M) : va_W := (List.range M.1.length).map (fun a => (b + a, am_cell cy b ad M a))
theorem am_ws_get {cy : Nat → ClassId} {b : Nat} {ad : Nat → Nat} {M : am_M} {a : Nat} (h : a < M.1.length) : (am_ws cy b ad M)[a]? = some (b + a, am_cell cy b ad M a) := by
  unfold am_ws
  rw [List.getElem?_map, List.getElem?_range h]
  rfl
theorem am_ws_len {cy : Nat → ClassId} {b : Nat} {ad : Nat → Nat} {M : am_M} : (am_ws cy b ad M).length = M.1.length := by
  unfold am_ws
  rw [List.length_map, List.length_range]
theorem am_ws_D (cy : Nat → ClassId) (b : Nat) (ad : Nat → Nat) (M : am_M) : va_D (fun q => b ≤ q) (am_ws cy b ad M) := by
  have key : ∀ (k : Nat) (q : Nat × va_E), (am_ws cy b ad M)[k]? = some q → q.1 = b + k := by
    intro k q hk
    have hl : k < M.1.length := by
      have := (List.getElem?_eq_some_iff.mp hk).1
      rwa [am_ws_len] at this
    rw [am_ws_get hl] at hk
    cases hk
    rfl
  refine ⟨fun i j x y hi hj hxy => ?_, fun k q hk => ?_⟩
  · rw [key i x hi, key j y hj] at hxy
    omega
  · rw [key k q hk]
    exact Nat.le_add_right b k
theorem am_ws_set {cy : Nat → ClassId} {b : Nat} {ad : Nat → Nat} {M M' : am_M} {a : Nat} {x : va_E} (hn : M'.1.length = M.1.length) (hc : ∀ q, q ≠ a → am_cell cy b ad M' q = am_cell cy b ad M q) (hx : am_cell cy b ad M' a = x) : am_ws cy b ad M' = (am_ws cy b ad M).set a (b + a, x) := by
  apply List.ext_getElem?
  intro i
  by_cases hi : i < M.1.length
  · rw [am_ws_get (by omega), List.getElem?_set]
    by_cases h : a = i
    · subst h
      rw [if_pos rfl, am_ws_len, if_pos hi, hx]
    · rw [if_neg h, am_ws_get hi, hc i (Ne.symm h)]
  · rw [List.getElem?_eq_none (by rw [am_ws_len]; omega), List.getElem?_eq_none (by rw [List.length_set, am_ws_len]; omega)]
theorem am_ws_push {cy : Nat → ClassId} {b : Nat} {ad : Nat → Nat} {M M' : am_M} {x : va_E} (hn : M'.1.length = M.1.length + 1) (hc : ∀ q, q < M.1.length → am_cell cy b ad M' q = am_cell cy b ad M q) (hx : am_cell cy b ad M' M.1.length = x) : am_ws cy b ad M' = am_ws cy b ad M ++ [(b + M.1.length, x)] := by
  apply List.ext_getElem?
  intro i
  by_cases hi : i < M.1.length
  · rw [am_ws_get (by omega), List.getElem?_append_left (by rw [am_ws_len]; exact hi), am_ws_get hi, hc i hi]
  · rw [List.getElem?_append_right (by rw [am_ws_len]; omega), am_ws_len]
    by_cases h : i = M.1.length
    · subst h
      rw [am_ws_get (by omega), Nat.sub_self, hx]
      rfl
    · rw [List.getElem?_eq_none (by rw [am_ws_len]; omega), List.getElem?_eq_none (by show ([_] : List _).length ≤ _; simp; omega)]
def am_wf (M : am_M) : Prop := M.2.1.length = M.1.length ∧ M.1.length ≤ 1000000 ∧ (∀ (a k n : Nat), M.1[a]? = some (k, n) → k < 100 → k < 12 ∧ n = (am_ftT.getD k []).length) ∧ ∀ (a k n : Nat), M.1[a]? = some (k, n) → 100 ≤ k → k ≤ 105
def am_sz (M : am_M) : Nat := (M.1.map Prod.snd).sum
/-- the words of the tables that go along with every call -/
def am_big : List Cond := lw_tbl.filter goodWord
theorem am_in {h : Nat} {w : Cond} (hw : lw_tbl[h]? = some w) (hg : goodWord w = true) : w ∈ am_big := List.mem_filter.mpr ⟨List.mem_of_getElem? hw, hg⟩
def am_tys (cy : Nat → ClassId) : List (ClassId × FieldType) := [(cy 100, .int), (cy 101, .byte), (cy 102, .boolean), (cy 103, .long), (cy 104, .object RX8), (cy 105, .array .int)]
def am_slen : List Nat := am_sbT.map List.length
def am_A (b : Nat) : Nat → Prop := fun q => b ≤ q
/-- what holds of the constants, beside the world: the String constants, String's static, ORDERS, the script -/
def am_Kc (b : Nat) (ad : Nat → Nat) (X : Nat × (Nat → Int32)) (s : State) (H : Heap) : Prop :=
  (∀ q ∈ am_srT, vk_R RX5 q.1 (am_stT.getD q.2 "") (ad q.2) s) ∧ (∃ adV, vk_S 10 am_slen am_sbT ad adV (am_A b) s H) ∧ (va_Z "java/lang/String" "COMPACT_STRINGS" "Z" (.int 1) (am_A b) s H ∧ va_Zq "jdk/internal/util/Preconditions" "SIOOBE_FORMATTER" "Ljava/util/function/BiFunction;" (am_A b) s H) ∧ va_Z "PitchSquare$Season" "ORDERS" "[I" (.ref (ad 40)) (am_A b) s H ∧ va_T .int (ad 40) 8 (fun k => .int (am_orders k)) (am_A b) s H ∧ va_X (ad 50) X.1 X.2 s H ∧ ad 50 < b
/-- int[][]: its class holds rows that are int[] -/
def am_AA (cy : Nat → ClassId) (s : State) : Prop := ∃ kA : Class, s.vm.classes[cy 105]? = some kA ∧ kA.kind = .array (cy 100) (.array .int)
def am_Kn (b : Nat) (ad : Nat → Nat) (D : va_G) (cy : Nat → ClassId) (X : Nat × (Nat → Int32)) (s : State) (H : Heap) : Prop :=
  va_K D am_cl (am_tys cy) s ∧ (∀ q ∈ am_neT, va_Nw (.methodLinkNest (am_nm q.1) q.2.1 (am_y q.2.2) "PitchSquare") s) ∧ va_AO RX8 s ∧ am_AA cy s ∧ am_Kc b ad X s H
def am_Ctx (b : Nat) (ad : Nat → Nat) (D : va_G) (cy : Nat → ClassId) (X : Nat × (Nat → Int32)) (mid : Nat) (p : Program) (s : State) (m : MethodId) (args : Array Value) (meth : Method) (c : Code) : Prop :=
  p.tables.exec = Jvm.exec ∧ c.code = am_b mid ∧ c.maxLocals = am_nL mid ∧ s.vm.findClass (am_nm (am_k mid)) = some m.cls ∧ (∀ w ∈ am_big, w.before args s = true) ∧ meth.sig.returnType = am_r mid ∧ meth.locks = false ∧ (am_yk mid = 2 → meth.name = "<init>") ∧ am_Kn b ad D cy X s s.heap ∧ b ≤ s.heap.size ∧ mid < 205
def am_At (b : Nat) (ad : Nat → Nat) (D : va_G) (cy : Nat → ClassId) (M : am_M) (s : State) (cells : Nat) (H : Heap) (locs : List Loc) : Prop := va_P D am_cl (am_ws cy b ad M) H ∧ b + M.1.length = s.heap.size + cells ∧ am_wf M ∧ va_S (am_A b) s.heap H locs
def am_lr (b : Nat) (ad : Nat → Nat) (ls : List Value) (cls : Array Slot) (n : Nat) : Prop := cls.size = n ∧ ls.length = n ∧ lv_wf cls ∧ ∀ (i : Nat) (v : Value), ls[i]? = some v → (∀ k, v ≠ Value.retAddr k) → cls[i]? = some (Slot.val (am_cv b ad v))
/-- from every heap that holds the memory M: the walk comes to Q -/
def am_G (p : Program) (l : Launch) (e : Env) (R : Room) (s : State) (m : MethodId) (args : Array Value) (below : List Frame) (meth : Method) (c : Code) (Q : State → Prop) (b : Nat) (ad : Nat → Nat) (D : va_G) (cy : Nat → ClassId) (mid : Nat) (cells slots j : Nat) (ls st : List Value) (M : am_M) : Prop :=
  ∀ (H : Heap) (locs : List Loc) (cls : Array Slot), am_lr b ad ls cls (am_nL mid) → am_At b ad D cy M s cells H locs → W p l e R s m args below meth c H locs cells slots Q (F0 m (am_pc mid j) cls (st.map (am_cv b ad)))
theorem am_cd_lt {mid j : Nat} {e : am_E} (h : am_cd mid j = some e) : j < (am_cT.getD mid []).length := by
  unfold am_cd at h
  have := (List.getElem?_eq_some_iff.mp h).1
  rwa [List.getD_eq_getElem?_getD]
theorem am_fact {mid j : Nat} {e : am_E} (hm : mid < 205) (h : am_cd mid j = some e) : decode (am_b mid) (am_pc mid j) = .ok (e.1, am_len e) ∧ am_ck mid j e = true := by
  have hl := am_cd_lt h
  have h1 := am_dk_ok mid hm
  have h2 := am_ck_ok mid hm
  unfold am_dkM at h1
  unfold am_ckM at h2
  have hp : am_pc mid j = e.2.1 := by unfold am_pc; rw [h]; rfl
  have hmem : e ∈ am_cT.getD mid [] := by
    unfold am_cd at h
    rw [List.getD_eq_getElem?_getD]
    exact List.mem_of_getElem? h
  have h3 := List.all_eq_true.mp h1 e hmem
  have h4 := List.all_eq_true.mp h2 j (List.mem_range.mpr hl)
  rw [h] at h4
  exact ⟨by rw [hp]; exact of_decide_eq_true h3, h4⟩
theorem am_next {mid j : Nat} {e : am_E} (hm : mid < 205) (h : am_cd mid j = some e) (hs : am_stop e.1 = false) : am_pc mid (j + 1) = am_pc mid j + am_len e := by
  have h2 := (am_fact hm h).2
  have hp : am_pc mid j = e.2.1 := by unfold am_pc; rw [h]; rfl
  unfold am_ck at h2
  rw [hs, Bool.false_or, Bool.and_eq_true] at h2
  rw [hp]
  exact eq_of_beq h2.1
/-- how large the heap is: all that was made is there, and no more -/
theorem am_size {p : Program} {l : Launch} {e : Env} {R : Room} {s : State} {m : MethodId} {args : Array Value} {below : List Frame} {meth : Method} {c : Code} {Q : State → Prop} {b : Nat} {ad : Nat → Nat} {D : va_G} {cy : Nat → ClassId} {cells slots : Nat} {M : am_M} {H : Heap} {locs : List Loc} {g : JFrame} (hb : b ≤ s.heap.size) (hA : am_At b ad D cy M s cells H locs) (k : H.size = b + M.1.length → W p l e R s m args below meth c H locs cells slots Q g) : W p l e R s m args below meth c H locs cells slots Q g := by
  intro T hT Y
  refine k ?_ T hT Y
  have h1 := Y.heapSize
  rw [hT] at h1
  have h2 := hA.2.1
  have h3 : b + M.1.length ≤ H.size := by
    cases hn : M.1.length with
    | zero => exact Nat.le_trans hb hA.2.2.2.1
    | succ k9 =>
      have h4 := (hA.1 k9 _ (am_ws_get (cy := cy) (b := b) (ad := ad) (M := M) (a := k9) (by omega))).lt
      have h5 : b + k9 < H.size := h4
      omega
  omega
