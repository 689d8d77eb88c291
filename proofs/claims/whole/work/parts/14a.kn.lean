/-! ===== what is known moves along; a call goes on ===== -/
theorem am_Kn_warm {b : Nat} {ad : Nat → Nat} {D : va_G} {cy : Nat → ClassId} {X : Nat × (Nat → Int32)} {s U : State} (h : am_Kn b ad D cy X s s.heap) (hW : s.WarmedH U.vm) (hb : b ≤ s.heap.size) (hq : ∀ q, q < b → U.heap[q]? = s.heap[q]?) : am_Kn b ad D cy X U U.heap := by
  have hk : ∀ a : Nat, a < s.heap.size → ¬ am_A b a → U.heap[a]? = s.heap[a]? := fun a _ h2 => hq a (Nat.not_le.mp h2)
  obtain ⟨h1, h2, h3, ⟨kA, h4, h5⟩, h6, ⟨adV, h7⟩, ⟨h8, h88⟩, h9, h10, h11, h12⟩ := h
  have hal := hW.alike
  refine ⟨va_K.moved hal h1, fun q hqq => va_Nw.warmM hW (h2 q hqq), va_AO.moved hal h3, ?_, fun q hqq => vk_R.warm hW (h6 q hqq), ⟨adV, (vk_S.kept (vk_S.moved hal h7) hk)⟩, ⟨(va_Z.kept (va_Z.moved hal h8) hk), (va_Zq.kept (va_Zq.moved hal h88) hk)⟩, (va_Z.kept (va_Z.moved hal h9) hk), (va_T.kept (va_T.moved hal h10) hk), (va_X.kept (va_X.moved hal h11) (hq _ h12)), h12⟩
  obtain ⟨k', hk', he⟩ := hal.2.2 _ _ h4
  exact ⟨k', hk', by rw [he]; exact h5⟩
theorem am_goodIn {ws : List Cond} (h : ∀ w9 ∈ ws, w9 ∈ am_big) : GoodIn am_big ws := fun w9 hw => ⟨h w9 hw, good_of_word (List.mem_filter.mp (h w9 hw)).2⟩
section KNC
variable {p : Program} {l : Launch} {e : Env} {R : Room} {s : State} {m : MethodId} {args : Array Value} {below : List Frame} {meth : Method} {c : Code} {Q : State → Prop} {cells slots : Nat}
theorem am_cont {H : Heap} {locs : List Loc} {mc ms pc : Nat} {cls : Array Slot} {st0 rest : List Value} {Qa : State → Outcome → State → Prop} {free : Addr → Prop} (hr : va_Run p l e R s m args below meth c H locs cells slots mc ms (F0 m pc cls st0) rest Qa free)
    (kk : ∀ (v : Option Value) (st₀ t : State) (L : List Loc), st₀.heap = H → Qa st₀ (.returned v) t → (∀ q ∈ L, free q.base) → W p l e R s m args below meth c t.heap (locs ++ L) (cells + mc) (slots + ms) Q (F0 m (pc + 3) cls (v.toList ++ rest))) : W p l e R s m args below meth c H locs cells slots Q (F0 m pc cls st0) := by
  intro T hT Y
  obtain ⟨v, st₀, t, T', L, h0, X', hL, e1, e2, hq, st⟩ := hr T hT Y
  obtain ⟨t2, a1, b1⟩ := kk v st₀ t L h0 hq hL T' e1 X'
  exact ⟨t2, st t2 a1, b1⟩
end KNC
def ys_length : MethodName := ⟨"java/lang/String", "length", "()I"⟩
set_option maxRecDepth 100000 in
theorem ys_length_c : lw_tbl[742]? = some (.code ys_length prog_15_method_54_code 1 (some .int)) := by decide +kernel
theorem ds_length_0 : decode prog_15_method_54_code 0 = .ok (.aload_n 0, 1) := by decide +kernel
theorem ds_length_1 : decode prog_15_method_54_code 1 = .ok (.getfield 9, 3) := by decide +kernel
theorem ds_length_4 : decode prog_15_method_54_code 4 = .ok (.arraylength, 1) := by decide +kernel
theorem ds_length_5 : decode prog_15_method_54_code 5 = .ok (.aload_n 0, 1) := by decide +kernel
theorem ds_length_6 : decode prog_15_method_54_code 6 = .ok (.invokevirtual 335, 3) := by decide +kernel
theorem ds_length_9 : decode prog_15_method_54_code 9 = .ok (.ishr, 1) := by decide +kernel
theorem ds_length_10 : decode prog_15_method_54_code 10 = .ok (.ireturn, 1) := by decide +kernel
def ys_coder : MethodName := ⟨"java/lang/String", "coder", "()B"⟩
set_option maxRecDepth 100000 in
theorem ys_coder_c : lw_tbl[746]? = some (.code ys_coder prog_15_method_152_code 1 (some .byte)) := by decide +kernel
theorem ds_coder_0 : decode prog_15_method_152_code 0 = .ok (.getstatic 38, 3) := by decide +kernel
theorem ds_coder_3 : decode prog_15_method_152_code 3 = .ok (.ifCond .eq 10, 3) := by decide +kernel
theorem ds_coder_6 : decode prog_15_method_152_code 6 = .ok (.aload_n 0, 1) := by decide +kernel
theorem ds_coder_7 : decode prog_15_method_152_code 7 = .ok (.getfield 15, 3) := by decide +kernel
theorem ds_coder_10 : decode prog_15_method_152_code 10 = .ok (.goto 4, 3) := by decide +kernel
theorem ds_coder_13 : decode prog_15_method_152_code 13 = .ok (.iconst 1, 1) := by decide +kernel
theorem ds_coder_14 : decode prog_15_method_152_code 14 = .ok (.ireturn, 1) := by decide +kernel
def ys_isLatin1 : MethodName := ⟨"java/lang/String", "isLatin1", "()Z"⟩
set_option maxRecDepth 100000 in
theorem ys_isLatin1_c : lw_tbl[756]? = some (.code ys_isLatin1 prog_15_method_154_code 1 (some .boolean)) := by decide +kernel
theorem ds_isLatin1_0 : decode prog_15_method_154_code 0 = .ok (.getstatic 38, 3) := by decide +kernel
theorem ds_isLatin1_3 : decode prog_15_method_154_code 3 = .ok (.ifCond .eq 14, 3) := by decide +kernel
theorem ds_isLatin1_6 : decode prog_15_method_154_code 6 = .ok (.aload_n 0, 1) := by decide +kernel
theorem ds_isLatin1_7 : decode prog_15_method_154_code 7 = .ok (.getfield 15, 3) := by decide +kernel
theorem ds_isLatin1_10 : decode prog_15_method_154_code 10 = .ok (.ifCond .ne 7, 3) := by decide +kernel
theorem ds_isLatin1_13 : decode prog_15_method_154_code 13 = .ok (.iconst 1, 1) := by decide +kernel
theorem ds_isLatin1_14 : decode prog_15_method_154_code 14 = .ok (.goto 4, 3) := by decide +kernel
theorem ds_isLatin1_17 : decode prog_15_method_154_code 17 = .ok (.iconst 0, 1) := by decide +kernel
theorem ds_isLatin1_18 : decode prog_15_method_154_code 18 = .ok (.ireturn, 1) := by decide +kernel
def ys_charAt : MethodName := ⟨"java/lang/String", "charAt", "(I)C"⟩
set_option maxRecDepth 100000 in
theorem ys_charAt_c : lw_tbl[752]? = some (.code ys_charAt prog_15_method_56_code 2 (some .char)) := by decide +kernel
theorem ds_charAt_0 : decode prog_15_method_56_code 0 = .ok (.aload_n 0, 1) := by decide +kernel
theorem ds_charAt_1 : decode prog_15_method_56_code 1 = .ok (.invokevirtual 492, 3) := by decide +kernel
theorem ds_charAt_4 : decode prog_15_method_56_code 4 = .ok (.ifCond .eq 12, 3) := by decide +kernel
theorem ds_charAt_7 : decode prog_15_method_56_code 7 = .ok (.aload_n 0, 1) := by decide +kernel
theorem ds_charAt_8 : decode prog_15_method_56_code 8 = .ok (.getfield 9, 3) := by decide +kernel
theorem ds_charAt_11 : decode prog_15_method_56_code 11 = .ok (.iload_n 1, 1) := by decide +kernel
theorem ds_charAt_12 : decode prog_15_method_56_code 12 = .ok (.invokestatic 495, 3) := by decide +kernel
theorem ds_charAt_15 : decode prog_15_method_56_code 15 = .ok (.ireturn, 1) := by decide +kernel
theorem ds_charAt_16 : decode prog_15_method_56_code 16 = .ok (.aload_n 0, 1) := by decide +kernel
theorem ds_charAt_17 : decode prog_15_method_56_code 17 = .ok (.getfield 9, 3) := by decide +kernel
theorem ds_charAt_20 : decode prog_15_method_56_code 20 = .ok (.iload_n 1, 1) := by decide +kernel
theorem ds_charAt_21 : decode prog_15_method_56_code 21 = .ok (.invokestatic 498, 3) := by decide +kernel
theorem ds_charAt_24 : decode prog_15_method_56_code 24 = .ok (.ireturn, 1) := by decide +kernel
def ys_lat : MethodName := ⟨"java/lang/StringLatin1", "charAt", "([BI)C"⟩
set_option maxRecDepth 100000 in
theorem ys_lat_c : lw_tbl[759]? = some (.code ys_lat prog_16_method_2_code 2 (some .char)) := by decide +kernel
theorem ds_lat_0 : decode prog_16_method_2_code 0 = .ok (.iload_n 1, 1) := by decide +kernel
theorem ds_lat_1 : decode prog_16_method_2_code 1 = .ok (.aload_n 0, 1) := by decide +kernel
theorem ds_lat_2 : decode prog_16_method_2_code 2 = .ok (.arraylength, 1) := by decide +kernel
theorem ds_lat_3 : decode prog_16_method_2_code 3 = .ok (.invokestatic 9, 3) := by decide +kernel
theorem ds_lat_6 : decode prog_16_method_2_code 6 = .ok (.aload_n 0, 1) := by decide +kernel
theorem ds_lat_7 : decode prog_16_method_2_code 7 = .ok (.iload_n 1, 1) := by decide +kernel
theorem ds_lat_8 : decode prog_16_method_2_code 8 = .ok (.baload, 1) := by decide +kernel
theorem ds_lat_9 : decode prog_16_method_2_code 9 = .ok (.sipush 255, 3) := by decide +kernel
theorem ds_lat_12 : decode prog_16_method_2_code 12 = .ok (.iand, 1) := by decide +kernel
theorem ds_lat_13 : decode prog_16_method_2_code 13 = .ok (.i2c, 1) := by decide +kernel
theorem ds_lat_14 : decode prog_16_method_2_code 14 = .ok (.ireturn, 1) := by decide +kernel
def ys_chk : MethodName := ⟨"java/lang/String", "checkIndex", "(II)V"⟩
set_option maxRecDepth 100000 in
theorem ys_chk_c : lw_tbl[762]? = some (.code ys_chk prog_15_method_155_code 2 none) := by decide +kernel
theorem ds_chk_0 : decode prog_15_method_155_code 0 = .ok (.iload_n 0, 1) := by decide +kernel
theorem ds_chk_1 : decode prog_15_method_155_code 1 = .ok (.iload_n 1, 1) := by decide +kernel
theorem ds_chk_2 : decode prog_15_method_155_code 2 = .ok (.getstatic 1053, 3) := by decide +kernel
theorem ds_chk_5 : decode prog_15_method_155_code 5 = .ok (.invokestatic 1059, 3) := by decide +kernel
theorem ds_chk_8 : decode prog_15_method_155_code 8 = .ok (.pop, 1) := by decide +kernel
theorem ds_chk_9 : decode prog_15_method_155_code 9 = .ok (.return_, 1) := by decide +kernel
def ys_pchk : MethodName := ⟨"jdk/internal/util/Preconditions", "checkIndex", "(IILjava/util/function/BiFunction;)I"⟩
set_option maxRecDepth 100000 in
theorem ys_pchk_c : lw_tbl[767]? = some (.code ys_pchk prog_18_method_11_code 3 (some .int)) := by decide +kernel
theorem ds_pchk_0 : decode prog_18_method_11_code 0 = .ok (.iload_n 0, 1) := by decide +kernel
theorem ds_pchk_1 : decode prog_18_method_11_code 1 = .ok (.ifCond .lt 8, 3) := by decide +kernel
theorem ds_pchk_4 : decode prog_18_method_11_code 4 = .ok (.iload_n 0, 1) := by decide +kernel
theorem ds_pchk_5 : decode prog_18_method_11_code 5 = .ok (.iload_n 1, 1) := by decide +kernel
theorem ds_pchk_6 : decode prog_18_method_11_code 6 = .ok (.if_icmp .lt 10, 3) := by decide +kernel
theorem ds_pchk_9 : decode prog_18_method_11_code 9 = .ok (.aload_n 2, 1) := by decide +kernel
theorem ds_pchk_10 : decode prog_18_method_11_code 10 = .ok (.iload_n 0, 1) := by decide +kernel
theorem ds_pchk_11 : decode prog_18_method_11_code 11 = .ok (.iload_n 1, 1) := by decide +kernel
theorem ds_pchk_12 : decode prog_18_method_11_code 12 = .ok (.invokestatic 95, 3) := by decide +kernel
theorem ds_pchk_15 : decode prog_18_method_11_code 15 = .ok (.athrow, 1) := by decide +kernel
theorem ds_pchk_16 : decode prog_18_method_11_code 16 = .ok (.iload_n 0, 1) := by decide +kernel
theorem ds_pchk_17 : decode prog_18_method_11_code 17 = .ok (.ireturn, 1) := by decide +kernel
def am_stw : List (Nat × Cond) := [(747, .fieldLink "java/lang/String" 38 "java/lang/String" "COMPACT_STRINGS" "Z"), (1452, .fieldLink "java/lang/String" 15 "java/lang/String" "coder" "B"), (1451, .fieldLink "java/lang/String" 9 "java/lang/String" "value" "[B"), (743, .methodLink "java/lang/String" 335 ys_coder), (744, .instanceMethod ys_coder), (745, .selects "java/lang/String" ys_coder ys_coder), (83, .initialized "java/lang/String"), (753, .methodLink "java/lang/String" 492 ys_isLatin1), (754, .instanceMethod ys_isLatin1), (755, .selects "java/lang/String" ys_isLatin1 ys_isLatin1), (757, .methodLink "java/lang/String" 495 ys_lat), (758, .static ys_lat), (84, .initialized "java/lang/StringLatin1"), (760, .methodLink "java/lang/StringLatin1" 9 ys_chk), (761, .static ys_chk), (763, .fieldLink "java/lang/String" 1053 "jdk/internal/util/Preconditions" "SIOOBE_FORMATTER" "Ljava/util/function/BiFunction;"), (765, .methodLink "java/lang/String" 1059 ys_pchk), (766, .static ys_pchk), (85, .initialized "jdk/internal/util/Preconditions"), (740, .instanceMethod ys_length), (741, .selects "java/lang/String" ys_length ys_length), (750, .instanceMethod ys_charAt), (751, .selects "java/lang/String" ys_charAt ys_charAt)]
set_option maxRecDepth 100000 in
theorem am_stw_ok : am_stw.all (fun q => decide (lw_tbl[q.1]? = some q.2)) = true := by decide +kernel
theorem am_stw_in {i9 : Nat} {t9 : Nat × Cond} (h : am_stw[i9]? = some t9) (hg : goodWord t9.2 = true) : t9.2 ∈ am_big := am_in (of_decide_eq_true (List.all_eq_true.mp am_stw_ok _ (List.mem_of_getElem? h))) hg
def am_PK (b : Nat) (ad : Nat → Nat) (D : va_G) (cy : Nat → ClassId) (X : Nat × (Nat → Int32)) (vs : List Value) : Array Value → State → Prop := fun a U => a = vs.toArray ∧ am_Kn b ad D cy X U U.heap ∧ b ≤ U.heap.size
def am_QK (r : Option Value) : Array Value → State → Outcome → State → Prop := fun _ st o t => o = .returned r ∧ t.heap = st.heap
theorem am_blindK {b : Nat} {ad : Nat → Nat} {D : va_G} {cy : Nat → ClassId} {X : Nat × (Nat → Int32)} {vs : List Value} : FrameBlind (am_PK b ad D cy X vs) := by
  intro a U g mk hp
  obtain ⟨h0, ⟨h1, h2, h3, ⟨kA, h4, h5⟩, h6, ⟨adV, h7⟩, ⟨h8, h88⟩, h9, h10, h11, h12⟩, hz⟩ := hp
  have hal : U.vm.Alike (U.calling g mk a).vm := Vm.Alike.refl U.vm
  exact ⟨h0, ⟨va_K.moved hal h1, fun q hqq => va_Nw.same rfl (rfl : U.vm = (U.calling g mk a).vm) (h2 q hqq), va_AO.moved hal h3, ⟨kA, h4, h5⟩, fun q hqq => vk_R.same (rfl : (U.calling g mk a).vm = U.vm) (h6 q hqq), ⟨adV, vk_S.moved hal h7⟩, ⟨va_Z.moved hal h8, va_Zq.moved hal h88⟩, va_Z.moved hal h9, va_T.moved hal h10, va_X.moved hal h11, h12⟩, hz⟩
/-- .. and a byte array is known -/
def am_PT (b : Nat) (ad : Nat → Nat) (D : va_G) (cy : Nat → ClassId) (X : Nat × (Nat → Int32)) (vs : List Value) (t9 n9 : Nat) (f9 : Nat → Value) : Array Value → State → Prop := fun a U => am_PK b ad D cy X vs a U ∧ va_T .byte t9 n9 f9 (am_A b) U U.heap
theorem am_blindT {b : Nat} {ad : Nat → Nat} {D : va_G} {cy : Nat → ClassId} {X : Nat × (Nat → Int32)} {vs : List Value} {t9 n9 : Nat} {f9 : Nat → Value} : FrameBlind (am_PT b ad D cy X vs t9 n9 f9) := by
  intro a U g mk hp
  exact ⟨am_blindK a U g mk hp.1, va_T.moved (Vm.Alike.refl U.vm) hp.2⟩
section KNR
variable {p : Program} {l : Launch} {e : Env} {R : Room} {s : State} {m : MethodId} {args : Array Value} {below : List Frame} {meth : Method} {c : Code} {Q : State → Prop} {cells slots : Nat}
/-- a call that changes nothing goes on -/
theorem am_contK {H : Heap} {locs : List Loc} {pc : Nat} {cls : Array Slot} {st0 rest : List Value} {r : Option Value} {a9 : Array Value} (hr : va_Run p l e R s m args below meth c H locs cells slots 0 0 (F0 m pc cls st0) rest (am_QK r a9) (fun _ => False)) (kk : W p l e R s m args below meth c H locs cells slots Q (F0 m (pc + 3) cls (r.toList ++ rest))) : W p l e R s m args below meth c H locs cells slots Q (F0 m pc cls st0) := by
  refine am_cont hr (fun v st₀ t L h0 hq hL => ?_)
  obtain ⟨q0, q1⟩ := hq
  cases q0
  have hLn : L = [] := by
    cases L with
    | nil => rfl
    | cons a l => exact (hL a List.mem_cons_self).elim
  subst hLn
  rw [q1, h0, List.append_nil]
  exact kk
theorem am_preK {b : Nat} {ad : Nat → Nat} {D : va_G} {cy : Nat → ClassId} {X : Nat × (Nat → Int32)} {vs : List Value} {H : Heap} {locs : List Loc} (hK : am_Kn b ad D cy X s s.heap) (hb : b ≤ s.heap.size) (hS : va_S (am_A b) s.heap H locs) : ∀ U : State, U.heap = H → s.WarmedH U.vm → am_PK b ad D cy X vs vs.toArray U := by
  intro U hU hW
  refine ⟨rfl, am_Kn_warm hK hW hb (fun q9 hq9 => ?_), ?_⟩
  · rw [hU]
    exact hS.2.1 q9 (Nat.lt_of_lt_of_le hq9 hb) (Nat.not_le.mpr hq9)
  · rw [hU]
    exact Nat.le_trans hb hS.1
theorem am_preT {b : Nat} {ad : Nat → Nat} {D : va_G} {cy : Nat → ClassId} {X : Nat × (Nat → Int32)} {vs : List Value} {t9 n9 : Nat} {f9 : Nat → Value} {H : Heap} {locs : List Loc} (hK : am_Kn b ad D cy X s s.heap) (hT : va_T .byte t9 n9 f9 (am_A b) s s.heap) (hb : b ≤ s.heap.size) (hS : va_S (am_A b) s.heap H locs) : ∀ U : State, U.heap = H → s.WarmedH U.vm → am_PT b ad D cy X vs t9 n9 f9 vs.toArray U := by
  intro U hU hW
  refine ⟨am_preK hK hb hS U hU hW, va_T.kept (va_T.moved hW.alike hT) (fun q9 h1 h2 => ?_)⟩
  rw [hU]
  exact hS.2.1 q9 h1 h2
end KNR
section STR
variable {l : Launch} {b : Nat} {ad : Nat → Nat} {D : va_G} {cy : Nat → ClassId} {X : Nat × (Nat → Int32)}
theorem cs_coder {i : Nat} (hi : i < 10) : Met l ys_coder (Cond.code ys_coder prog_15_method_152_code 1 (some .byte) :: am_big) ({ frames := 0, cells := 0, slots := 0, locals := 0 }) (am_PK b ad D cy X [.ref (ad i)]) (am_QK (some (.int 0))) 0 0 (fun _ => False) := by
  refine Met.ofW (cc := prog_15_method_152_code) (maxL := 1) (ret := (some .byte)) (by decide) rfl ?_
  intro p e s m args below meth c s₁ B hml hv
  obtain ⟨rfl, hK, hbs⟩ := hv
  have hx := B.exec
  have hb := B.bytes
  have hr := B.returns
  have hbig : ∀ w9 ∈ am_big, w9.before ([.ref (ad i)] : List Value).toArray s = true := fun w9 h9 => atoms_spec (ws := Cond.code ys_coder prog_15_method_152_code 1 (some .byte) :: am_big) B.pre w9 (List.mem_cons_of_mem _ h9)
  have hown : s.vm.findClass "java/lang/String" = some m.cls := findClass_of_methodNamed B.named
  have hlocks := B.notSynchronized
  have hS : va_S (am_A b) s.heap s.heap [] := va_S.rf
  obtain ⟨adV, hVS⟩ := hK.2.2.2.2.2.1
  have hl := lv_entry ([.ref (ad i)] : List Value) (n := 1) (Nat.le_of_ble_eq_true rfl)
  rw [lg_entry_eq]
  generalize (lg_sl ([.ref (ad i)]) ++ List.replicate (1 - (lg_sl ([.ref (ad i)])).length) Slot.unset).toArray = ls at hl ⊢
  have hl : lv_has ls 1 [(0, .ref (ad i))] := hl
  refine va_gets hx hb hK.2.2.2.2.2.2.1.1 hS hown (hbig _ (am_stw_in (i9 := 0) rfl rfl)) (fun _ z => z) ds_coder_0 ?_
  refine lv_if_eq hx hb ds_coder_3 (tgt := 13) rfl (fun h9 => absurd h9 (by decide)) (fun _ => ?_)
  refine lv_aload_n hx hb ds_coder_6 rfl (lv_at hl 0 rfl) ?_
  refine vk_getf hx hb (hVS.1 i hi).2.1 hS hown (hbig _ (am_stw_in (i9 := 1) rfl rfl)) (fun _ z => z) ds_coder_7 ?_
  refine lv_goto hx hb ds_coder_10 (tgt := 14) rfl ?_
  exact W.zret (ty := .byte) hx hb hr rfl (fun t ht _ => ⟨rfl, ht⟩) (fun _ h9 => (by cases h9)) ds_coder_14
theorem cs_isLatin1 {i : Nat} (hi : i < 10) : Met l ys_isLatin1 (Cond.code ys_isLatin1 prog_15_method_154_code 1 (some .boolean) :: am_big) ({ frames := 0, cells := 0, slots := 0, locals := 0 }) (am_PK b ad D cy X [.ref (ad i)]) (am_QK (some (.int 1))) 0 0 (fun _ => False) := by
  refine Met.ofW (cc := prog_15_method_154_code) (maxL := 1) (ret := (some .boolean)) (by decide) rfl ?_
  intro p e s m args below meth c s₁ B hml hv
  obtain ⟨rfl, hK, hbs⟩ := hv
  have hx := B.exec
  have hb := B.bytes
  have hr := B.returns
  have hbig : ∀ w9 ∈ am_big, w9.before ([.ref (ad i)] : List Value).toArray s = true := fun w9 h9 => atoms_spec (ws := Cond.code ys_isLatin1 prog_15_method_154_code 1 (some .boolean) :: am_big) B.pre w9 (List.mem_cons_of_mem _ h9)
  have hown : s.vm.findClass "java/lang/String" = some m.cls := findClass_of_methodNamed B.named
  have hlocks := B.notSynchronized
  have hS : va_S (am_A b) s.heap s.heap [] := va_S.rf
  obtain ⟨adV, hVS⟩ := hK.2.2.2.2.2.1
  have hl := lv_entry ([.ref (ad i)] : List Value) (n := 1) (Nat.le_of_ble_eq_true rfl)
  rw [lg_entry_eq]
  generalize (lg_sl ([.ref (ad i)]) ++ List.replicate (1 - (lg_sl ([.ref (ad i)])).length) Slot.unset).toArray = ls at hl ⊢
  have hl : lv_has ls 1 [(0, .ref (ad i))] := hl
  refine va_gets hx hb hK.2.2.2.2.2.2.1.1 hS hown (hbig _ (am_stw_in (i9 := 0) rfl rfl)) (fun _ z => z) ds_isLatin1_0 ?_
  refine lv_if_eq hx hb ds_isLatin1_3 (tgt := 17) rfl (fun h9 => absurd h9 (by decide)) (fun _ => ?_)
  refine lv_aload_n hx hb ds_isLatin1_6 rfl (lv_at hl 0 rfl) ?_
  refine vk_getf hx hb (hVS.1 i hi).2.1 hS hown (hbig _ (am_stw_in (i9 := 1) rfl rfl)) (fun _ z => z) ds_isLatin1_7 ?_
  refine lv_if_ne hx hb ds_isLatin1_10 (tgt := 17) rfl (fun h9 => absurd rfl h9) (fun _ => ?_)
  refine lv_iconst (v := 1) hx hb ds_isLatin1_13 (by decide) ?_
  refine lv_goto hx hb ds_isLatin1_14 (tgt := 18) rfl ?_
  exact W.zret (ty := .boolean) hx hb hr rfl (fun t ht _ => ⟨rfl, ht⟩) (fun _ h9 => (by cases h9)) ds_isLatin1_18
theorem cs_length {i : Nat} (hi : i < 10) : Met l ys_length (Cond.code ys_length prog_15_method_54_code 1 (some .int) :: am_big) ({ frames := 1, cells := 0, slots := 0, locals := 40 }) (am_PK b ad D cy X [.ref (ad i)]) (am_QK (some (.int (Int32.ofNat (am_slen.getD i 0))))) 0 0 (fun _ => False) := by
  refine Met.ofW (cc := prog_15_method_54_code) (maxL := 1) (ret := (some .int)) (by decide) rfl ?_
  intro p e s m args below meth c s₁ B hml hv
  obtain ⟨rfl, hK, hbs⟩ := hv
  have hx := B.exec
  have hb := B.bytes
  have hr := B.returns
  have hbig : ∀ w9 ∈ am_big, w9.before ([.ref (ad i)] : List Value).toArray s = true := fun w9 h9 => atoms_spec (ws := Cond.code ys_length prog_15_method_54_code 1 (some .int) :: am_big) B.pre w9 (List.mem_cons_of_mem _ h9)
  have hown : s.vm.findClass "java/lang/String" = some m.cls := findClass_of_methodNamed B.named
  have hlocks := B.notSynchronized
  have hS : va_S (am_A b) s.heap s.heap [] := va_S.rf
  obtain ⟨adV, hVS⟩ := hK.2.2.2.2.2.1
  have hl := lv_entry ([.ref (ad i)] : List Value) (n := 1) (Nat.le_of_ble_eq_true rfl)
  rw [lg_entry_eq]
  generalize (lg_sl ([.ref (ad i)]) ++ List.replicate (1 - (lg_sl ([.ref (ad i)])).length) Slot.unset).toArray = ls at hl ⊢
  have hl : lv_has ls 1 [(0, .ref (ad i))] := hl
  refine lv_aload_n hx hb ds_length_0 rfl (lv_at hl 0 rfl) ?_
  refine vk_getf hx hb (hVS.1 i hi).2.2.1 hS hown (hbig _ (am_stw_in (i9 := 2) rfl rfl)) (fun _ z => z) ds_length_1 ?_
  refine va_tlen hx hb (hVS.1 i hi).2.2.2 hS rfl ds_length_4 ?_
  refine lv_aload_n hx hb ds_length_5 rfl (lv_at hl 0 rfl) ?_
  refine am_contK (va_runV (As := []) (rest := [.int (Int32.ofNat (am_slen.getD i 0))]) ⟨hx, hb, hml, hown, hbig⟩ (cs_coder (l := l) (D := D) (cy := cy) (X := X) hi) (cwV 0 hbig (am_goodIn (ws := wsV "java/lang/String" 335 "java/lang/String" ys_coder (Cond.code ys_coder prog_15_method_152_code 1 (some .byte) :: am_big)) (fun w9 hw9 => by
    unfold wsV at hw9
    rcases List.mem_append.mp hw9 with h9 | h9
    · simp only [List.mem_cons, List.not_mem_nil, or_false] at h9
      rcases h9 with rfl | rfl | rfl | rfl
      · exact am_stw_in (i9 := 3) rfl rfl
      · exact am_stw_in (i9 := 4) rfl rfl
      · exact am_stw_in (i9 := 5) rfl rfl
      · exact am_stw_in (i9 := 6) rfl rfl
    · rcases List.mem_cons.mp h9 with rfl | h8
      · exact am_in ys_coder_c rfl
      · exact h8)) rfl rfl rfl (by decide +kernel) ⟨Nat.le_of_ble_eq_true rfl, Nat.le_of_ble_eq_true rfl⟩) ⟨am_blindK, vk_recv hVS hi hS, am_preK (vs := [.ref (ad i)]) hK hbs hS⟩ rfl rfl hl.1 rfl (lv_room (Nat.le_of_ble_eq_true rfl)) ds_length_6 ⟨Nat.le_refl _, Nat.le_refl _⟩) ?_
  refine lv_ishr hx hb ds_length_9 ?_
  rw [sb_shr0]
  exact W.iret hx hb hr (fun t ht _ => ⟨rfl, ht⟩) (fun _ h9 => (by cases h9)) ds_length_10
theorem cs_pchkN {k n : Int32} (h0 : ¬ k < 0) (h1 : k < n) : Met l ys_pchk (Cond.code ys_pchk prog_18_method_11_code 3 (some .int) :: am_big) ({ frames := 0, cells := 0, slots := 0, locals := 0 }) (am_PK b ad D cy X [.int k, .int n, .null]) (am_QK (some (.int k))) 0 0 (fun _ => False) := by
  refine Met.ofW (cc := prog_18_method_11_code) (maxL := 3) (ret := (some .int)) (by decide) rfl ?_
  intro p e s m args below meth c s₁ B hml hv
  obtain ⟨rfl, hK, hbs⟩ := hv
  have hx := B.exec
  have hb := B.bytes
  have hr := B.returns
  have hbig : ∀ w9 ∈ am_big, w9.before ([.int k, .int n, .null] : List Value).toArray s = true := fun w9 h9 => atoms_spec (ws := Cond.code ys_pchk prog_18_method_11_code 3 (some .int) :: am_big) B.pre w9 (List.mem_cons_of_mem _ h9)
  have hown : s.vm.findClass "jdk/internal/util/Preconditions" = some m.cls := findClass_of_methodNamed B.named
  have hlocks := B.notSynchronized
  have hS : va_S (am_A b) s.heap s.heap [] := va_S.rf
  obtain ⟨adV, hVS⟩ := hK.2.2.2.2.2.1
  have hl := lv_entry ([.int k, .int n, .null] : List Value) (n := 3) (Nat.le_of_ble_eq_true rfl)
  rw [lg_entry_eq]
  generalize (lg_sl ([.int k, .int n, .null]) ++ List.replicate (3 - (lg_sl ([.int k, .int n, .null])).length) Slot.unset).toArray = ls at hl ⊢
  have hl : lv_has ls 3 [(0, .int k), (1, .int n), (2, .null)] := hl
  refine lv_iload_n hx hb ds_pchk_0 rfl (lv_at hl 0 rfl) ?_
  refine lv_if_lt hx hb ds_pchk_1 (tgt := 9) rfl (fun h9 => absurd h9 h0) (fun _ => ?_)
  refine lv_iload_n hx hb ds_pchk_4 rfl (lv_at hl 0 rfl) ?_
  refine lv_iload_n hx hb ds_pchk_5 rfl (lv_at hl 1 rfl) ?_
  refine lv_icmp_lt hx hb ds_pchk_6 (tgt := 16) rfl (fun _ => ?_) (fun h9 => absurd h1 h9)
  refine lv_iload_n hx hb ds_pchk_16 rfl (lv_at hl 0 rfl) ?_
  exact W.iret hx hb hr (fun t ht _ => ⟨rfl, ht⟩) (fun _ h9 => (by cases h9)) ds_pchk_17
theorem cs_pchkR {u9 : Nat} {k n : Int32} (h0 : ¬ k < 0) (h1 : k < n) : Met l ys_pchk (Cond.code ys_pchk prog_18_method_11_code 3 (some .int) :: am_big) ({ frames := 0, cells := 0, slots := 0, locals := 0 }) (am_PK b ad D cy X [.int k, .int n, .ref u9]) (am_QK (some (.int k))) 0 0 (fun _ => False) := by
  refine Met.ofW (cc := prog_18_method_11_code) (maxL := 3) (ret := (some .int)) (by decide) rfl ?_
  intro p e s m args below meth c s₁ B hml hv
  obtain ⟨rfl, hK, hbs⟩ := hv
  have hx := B.exec
  have hb := B.bytes
  have hr := B.returns
  have hbig : ∀ w9 ∈ am_big, w9.before ([.int k, .int n, .ref u9] : List Value).toArray s = true := fun w9 h9 => atoms_spec (ws := Cond.code ys_pchk prog_18_method_11_code 3 (some .int) :: am_big) B.pre w9 (List.mem_cons_of_mem _ h9)
  have hown : s.vm.findClass "jdk/internal/util/Preconditions" = some m.cls := findClass_of_methodNamed B.named
  have hlocks := B.notSynchronized
  have hS : va_S (am_A b) s.heap s.heap [] := va_S.rf
  obtain ⟨adV, hVS⟩ := hK.2.2.2.2.2.1
  have hl := lv_entry ([.int k, .int n, .ref u9] : List Value) (n := 3) (Nat.le_of_ble_eq_true rfl)
  rw [lg_entry_eq]
  generalize (lg_sl ([.int k, .int n, .ref u9]) ++ List.replicate (3 - (lg_sl ([.int k, .int n, .ref u9])).length) Slot.unset).toArray = ls at hl ⊢
  have hl : lv_has ls 3 [(0, .int k), (1, .int n), (2, .ref u9)] := hl
  refine lv_iload_n hx hb ds_pchk_0 rfl (lv_at hl 0 rfl) ?_
  refine lv_if_lt hx hb ds_pchk_1 (tgt := 9) rfl (fun h9 => absurd h9 h0) (fun _ => ?_)
  refine lv_iload_n hx hb ds_pchk_4 rfl (lv_at hl 0 rfl) ?_
  refine lv_iload_n hx hb ds_pchk_5 rfl (lv_at hl 1 rfl) ?_
  refine lv_icmp_lt hx hb ds_pchk_6 (tgt := 16) rfl (fun _ => ?_) (fun h9 => absurd h1 h9)
  refine lv_iload_n hx hb ds_pchk_16 rfl (lv_at hl 0 rfl) ?_
  exact W.iret hx hb hr (fun t ht _ => ⟨rfl, ht⟩) (fun _ h9 => (by cases h9)) ds_pchk_17
theorem cs_chk {k n : Int32} (h0 : ¬ k < 0) (h1 : k < n) : Met l ys_chk (Cond.code ys_chk prog_15_method_155_code 2 none :: am_big) ({ frames := 1, cells := 0, slots := 0, locals := 40 }) (am_PK b ad D cy X [.int k, .int n]) (am_QK none) 0 0 (fun _ => False) := by
  refine Met.ofW (cc := prog_15_method_155_code) (maxL := 2) (ret := none) (by decide) rfl ?_
  intro p e s m args below meth c s₁ B hml hv
  obtain ⟨rfl, hK, hbs⟩ := hv
  have hx := B.exec
  have hb := B.bytes
  have hr := B.returns
  have hbig : ∀ w9 ∈ am_big, w9.before ([.int k, .int n] : List Value).toArray s = true := fun w9 h9 => atoms_spec (ws := Cond.code ys_chk prog_15_method_155_code 2 none :: am_big) B.pre w9 (List.mem_cons_of_mem _ h9)
  have hown : s.vm.findClass "java/lang/String" = some m.cls := findClass_of_methodNamed B.named
  have hlocks := B.notSynchronized
  have hS : va_S (am_A b) s.heap s.heap [] := va_S.rf
  obtain ⟨adV, hVS⟩ := hK.2.2.2.2.2.1
  have hl := lv_entry ([.int k, .int n] : List Value) (n := 2) (Nat.le_of_ble_eq_true rfl)
  rw [lg_entry_eq]
  generalize (lg_sl ([.int k, .int n]) ++ List.replicate (2 - (lg_sl ([.int k, .int n])).length) Slot.unset).toArray = ls at hl ⊢
  have hl : lv_has ls 2 [(0, .int k), (1, .int n)] := hl
  refine lv_iload_n hx hb ds_chk_0 rfl (lv_at hl 0 rfl) ?_
  refine lv_iload_n hx hb ds_chk_1 rfl (lv_at hl 1 rfl) ?_
  rcases hK.2.2.2.2.2.2.1.2 with hz | ⟨u9, hz⟩
  · refine va_gets hx hb hz hS hown (hbig _ (am_stw_in (i9 := 15) rfl rfl)) (fun _ z => z) ds_chk_2 ?_
    refine am_contK (va_runS (As := [.int k, .int n, .null]) (rest := []) ⟨hx, hb, hml, hown, hbig⟩ (cs_pchkN (l := l) (D := D) (cy := cy) (X := X) h0 h1) (va_cwS 3 hbig (am_goodIn (ws := va_wsS "java/lang/String" 1059 ys_pchk (Cond.code ys_pchk prog_18_method_11_code 3 (some .int) :: am_big)) (fun w9 hw9 => by
      unfold va_wsS at hw9
      rcases List.mem_append.mp hw9 with h9 | h9
      · simp only [List.mem_cons, List.not_mem_nil, or_false] at h9
        rcases h9 with rfl | rfl | rfl
        · exact am_stw_in (i9 := 16) rfl rfl
        · exact am_stw_in (i9 := 17) rfl rfl
        · exact am_stw_in (i9 := 18) rfl rfl
      · rcases List.mem_cons.mp h9 with rfl | h8
        · exact am_in ys_pchk_c rfl
        · exact h8)) rfl rfl rfl (by decide +kernel) ⟨Nat.le_of_ble_eq_true rfl, Nat.le_of_ble_eq_true rfl⟩) ⟨am_blindK, am_preK (vs := [.int k, .int n, .null]) hK hbs hS⟩ rfl rfl hl.1 rfl (lv_room (Nat.le_of_ble_eq_true rfl)) ds_chk_5 ⟨Nat.le_refl _, Nat.le_refl _⟩) ?_
    refine lv_pop hx hb ds_chk_8 rfl ?_
    exact W.vret hx hb hr (fun t ht _ => ⟨rfl, ht⟩) (fun _ h9 => (by cases h9)) ds_chk_9
  · refine va_gets hx hb hz hS hown (hbig _ (am_stw_in (i9 := 15) rfl rfl)) (fun _ z => z) ds_chk_2 ?_
    refine am_contK (va_runS (As := [.int k, .int n, .ref u9]) (rest := []) ⟨hx, hb, hml, hown, hbig⟩ (cs_pchkR (l := l) (D := D) (cy := cy) (X := X) h0 h1) (va_cwS 3 hbig (am_goodIn (ws := va_wsS "java/lang/String" 1059 ys_pchk (Cond.code ys_pchk prog_18_method_11_code 3 (some .int) :: am_big)) (fun w9 hw9 => by
      unfold va_wsS at hw9
      rcases List.mem_append.mp hw9 with h9 | h9
      · simp only [List.mem_cons, List.not_mem_nil, or_false] at h9
        rcases h9 with rfl | rfl | rfl
        · exact am_stw_in (i9 := 16) rfl rfl
        · exact am_stw_in (i9 := 17) rfl rfl
        · exact am_stw_in (i9 := 18) rfl rfl
      · rcases List.mem_cons.mp h9 with rfl | h8
        · exact am_in ys_pchk_c rfl
        · exact h8)) rfl rfl rfl (by decide +kernel) ⟨Nat.le_of_ble_eq_true rfl, Nat.le_of_ble_eq_true rfl⟩) ⟨am_blindK, am_preK (vs := [.int k, .int n, .ref u9]) hK hbs hS⟩ rfl rfl hl.1 rfl (lv_room (Nat.le_of_ble_eq_true rfl)) ds_chk_5 ⟨Nat.le_refl _, Nat.le_refl _⟩) ?_
    refine lv_pop hx hb ds_chk_8 rfl ?_
    exact W.vret hx hb hr (fun t ht _ => ⟨rfl, ht⟩) (fun _ h9 => (by cases h9)) ds_chk_9
theorem cs_lat {i : Nat} {k : Int32} {t9 : Nat} (h0 : ¬ k < 0) (h1 : k < Int32.ofNat (am_slen.getD i 0)) (hin : vp_in k (am_slen.getD i 0)) (hch : narrow .char (.int ((((am_sbT.getD i []).getD k.toNatClampNeg 0) &&& 255).toUInt32 % 65536).toInt32) = .int ((((am_sbT.getD i []).getD k.toNatClampNeg 0) &&& 255).toUInt32 % 65536).toInt32) : Met l ys_lat (Cond.code ys_lat prog_16_method_2_code 2 (some .char) :: am_big) ({ frames := 2, cells := 0, slots := 0, locals := 80 }) (am_PT b ad D cy X [.ref t9, .int k] t9 (am_slen.getD i 0) (fun z => .int ((am_sbT.getD i []).getD z 0))) (am_QK (some (.int ((((am_sbT.getD i []).getD k.toNatClampNeg 0) &&& 255).toUInt32 % 65536).toInt32))) 0 0 (fun _ => False) := by
  refine Met.ofW (cc := prog_16_method_2_code) (maxL := 2) (ret := (some .char)) (by decide) rfl ?_
  intro p e s m args below meth c s₁ B hml hv
  obtain ⟨⟨rfl, hK, hbs⟩, hT⟩ := hv
  have hx := B.exec
  have hb := B.bytes
  have hr := B.returns
  have hbig : ∀ w9 ∈ am_big, w9.before ([.ref t9, .int k] : List Value).toArray s = true := fun w9 h9 => atoms_spec (ws := Cond.code ys_lat prog_16_method_2_code 2 (some .char) :: am_big) B.pre w9 (List.mem_cons_of_mem _ h9)
  have hown : s.vm.findClass "java/lang/StringLatin1" = some m.cls := findClass_of_methodNamed B.named
  have hlocks := B.notSynchronized
  have hS : va_S (am_A b) s.heap s.heap [] := va_S.rf
  obtain ⟨adV, hVS⟩ := hK.2.2.2.2.2.1
  have hl := lv_entry ([.ref t9, .int k] : List Value) (n := 2) (Nat.le_of_ble_eq_true rfl)
  rw [lg_entry_eq]
  generalize (lg_sl ([.ref t9, .int k]) ++ List.replicate (2 - (lg_sl ([.ref t9, .int k])).length) Slot.unset).toArray = ls at hl ⊢
  have hl : lv_has ls 2 [(0, .ref t9), (1, .int k)] := hl
  refine lv_iload_n hx hb ds_lat_0 rfl (lv_at hl 1 rfl) ?_
  refine lv_aload_n hx hb ds_lat_1 rfl (lv_at hl 0 rfl) ?_
  refine va_tlen hx hb hT hS rfl ds_lat_2 ?_
  refine am_contK (va_runS (As := [.int k, .int (Int32.ofNat (am_slen.getD i 0))]) (rest := []) ⟨hx, hb, hml, hown, hbig⟩ (cs_chk (l := l) (D := D) (cy := cy) (X := X) h0 h1) (va_cwS 2 hbig (am_goodIn (ws := va_wsS "java/lang/StringLatin1" 9 ys_chk (Cond.code ys_chk prog_15_method_155_code 2 none :: am_big)) (fun w9 hw9 => by
    unfold va_wsS at hw9
    rcases List.mem_append.mp hw9 with h9 | h9
    · simp only [List.mem_cons, List.not_mem_nil, or_false] at h9
      rcases h9 with rfl | rfl | rfl
      · exact am_stw_in (i9 := 13) rfl rfl
      · exact am_stw_in (i9 := 14) rfl rfl
      · exact am_stw_in (i9 := 6) rfl rfl
    · rcases List.mem_cons.mp h9 with rfl | h8
      · exact am_in ys_chk_c rfl
      · exact h8)) rfl rfl rfl (by decide +kernel) ⟨Nat.le_of_ble_eq_true rfl, Nat.le_of_ble_eq_true rfl⟩) ⟨am_blindK, am_preK (vs := [.int k, .int (Int32.ofNat (am_slen.getD i 0))]) hK hbs hS⟩ rfl rfl hl.1 rfl (lv_room (Nat.le_of_ble_eq_true rfl)) ds_lat_3 ⟨Nat.le_refl _, Nat.le_refl _⟩) ?_
  refine lv_aload_n hx hb ds_lat_6 rfl (lv_at hl 0 rfl) ?_
  refine lv_iload_n hx hb ds_lat_7 rfl (lv_at hl 1 rfl) ?_
  refine va_tb hx hb hT hS hin rfl ds_lat_8 ?_
  refine lv_sipush (v := 255) hx hb ds_lat_9 (by decide) ?_
  refine lv_iand hx hb ds_lat_12 ?_
  refine lv_i2c hx hb ds_lat_13 rfl ?_
  exact W.zret (ty := .char) hx hb hr hch (fun t ht _ => ⟨rfl, ht⟩) (fun _ h9 => (by cases h9)) ds_lat_14
theorem cs_charAt {i : Nat} {k : Int32} (hi : i < 10) (h0 : ¬ k < 0) (h1 : k < Int32.ofNat (am_slen.getD i 0)) (hin : vp_in k (am_slen.getD i 0)) (hch : narrow .char (.int ((((am_sbT.getD i []).getD k.toNatClampNeg 0) &&& 255).toUInt32 % 65536).toInt32) = .int ((((am_sbT.getD i []).getD k.toNatClampNeg 0) &&& 255).toUInt32 % 65536).toInt32) : Met l ys_charAt (Cond.code ys_charAt prog_15_method_56_code 2 (some .char) :: am_big) ({ frames := 3, cells := 0, slots := 0, locals := 120 }) (am_PK b ad D cy X [.ref (ad i), .int k]) (am_QK (some (.int ((((am_sbT.getD i []).getD k.toNatClampNeg 0) &&& 255).toUInt32 % 65536).toInt32))) 0 0 (fun _ => False) := by
  refine Met.ofW (cc := prog_15_method_56_code) (maxL := 2) (ret := (some .char)) (by decide) rfl ?_
  intro p e s m args below meth c s₁ B hml hv
  obtain ⟨rfl, hK, hbs⟩ := hv
  have hx := B.exec
  have hb := B.bytes
  have hr := B.returns
  have hbig : ∀ w9 ∈ am_big, w9.before ([.ref (ad i), .int k] : List Value).toArray s = true := fun w9 h9 => atoms_spec (ws := Cond.code ys_charAt prog_15_method_56_code 2 (some .char) :: am_big) B.pre w9 (List.mem_cons_of_mem _ h9)
  have hown : s.vm.findClass "java/lang/String" = some m.cls := findClass_of_methodNamed B.named
  have hlocks := B.notSynchronized
  have hS : va_S (am_A b) s.heap s.heap [] := va_S.rf
  obtain ⟨adV, hVS⟩ := hK.2.2.2.2.2.1
  have hl := lv_entry ([.ref (ad i), .int k] : List Value) (n := 2) (Nat.le_of_ble_eq_true rfl)
  rw [lg_entry_eq]
  generalize (lg_sl ([.ref (ad i), .int k]) ++ List.replicate (2 - (lg_sl ([.ref (ad i), .int k])).length) Slot.unset).toArray = ls at hl ⊢
  have hl : lv_has ls 2 [(0, .ref (ad i)), (1, .int k)] := hl
  refine lv_aload_n hx hb ds_charAt_0 rfl (lv_at hl 0 rfl) ?_
  refine am_contK (va_runV (As := []) (rest := []) ⟨hx, hb, hml, hown, hbig⟩ (cs_isLatin1 (l := l) (D := D) (cy := cy) (X := X) hi) (cwV 0 hbig (am_goodIn (ws := wsV "java/lang/String" 492 "java/lang/String" ys_isLatin1 (Cond.code ys_isLatin1 prog_15_method_154_code 1 (some .boolean) :: am_big)) (fun w9 hw9 => by
    unfold wsV at hw9
    rcases List.mem_append.mp hw9 with h9 | h9
    · simp only [List.mem_cons, List.not_mem_nil, or_false] at h9
      rcases h9 with rfl | rfl | rfl | rfl
      · exact am_stw_in (i9 := 7) rfl rfl
      · exact am_stw_in (i9 := 8) rfl rfl
      · exact am_stw_in (i9 := 9) rfl rfl
      · exact am_stw_in (i9 := 6) rfl rfl
    · rcases List.mem_cons.mp h9 with rfl | h8
      · exact am_in ys_isLatin1_c rfl
      · exact h8)) rfl rfl rfl (by decide +kernel) ⟨Nat.le_of_ble_eq_true rfl, Nat.le_of_ble_eq_true rfl⟩) ⟨am_blindK, vk_recv hVS hi hS, am_preK (vs := [.ref (ad i)]) hK hbs hS⟩ rfl rfl hl.1 rfl (lv_room (Nat.le_of_ble_eq_true rfl)) ds_charAt_1 ⟨Nat.le_refl _, Nat.le_refl _⟩) ?_
  refine lv_if_eq hx hb ds_charAt_4 (tgt := 16) rfl (fun h9 => absurd h9 (by decide)) (fun _ => ?_)
  refine lv_aload_n hx hb ds_charAt_7 rfl (lv_at hl 0 rfl) ?_
  refine vk_getf hx hb (hVS.1 i hi).2.2.1 hS hown (hbig _ (am_stw_in (i9 := 2) rfl rfl)) (fun _ z => z) ds_charAt_8 ?_
  refine lv_iload_n hx hb ds_charAt_11 rfl (lv_at hl 1 rfl) ?_
  refine am_contK (va_runS (As := [.ref (adV i), .int k]) (rest := []) ⟨hx, hb, hml, hown, hbig⟩ (cs_lat (l := l) (D := D) (cy := cy) (X := X) (i := i) (t9 := adV i) h0 h1 hin hch) (va_cwS 2 hbig (am_goodIn (ws := va_wsS "java/lang/String" 495 ys_lat (Cond.code ys_lat prog_16_method_2_code 2 (some .char) :: am_big)) (fun w9 hw9 => by
    unfold va_wsS at hw9
    rcases List.mem_append.mp hw9 with h9 | h9
    · simp only [List.mem_cons, List.not_mem_nil, or_false] at h9
      rcases h9 with rfl | rfl | rfl
      · exact am_stw_in (i9 := 10) rfl rfl
      · exact am_stw_in (i9 := 11) rfl rfl
      · exact am_stw_in (i9 := 12) rfl rfl
    · rcases List.mem_cons.mp h9 with rfl | h8
      · exact am_in ys_lat_c rfl
      · exact h8)) rfl rfl rfl (by decide +kernel) ⟨Nat.le_of_ble_eq_true rfl, Nat.le_of_ble_eq_true rfl⟩) ⟨am_blindT, am_preT (vs := [.ref (adV i), .int k]) hK (hVS.1 i hi).2.2.2 hbs hS⟩ rfl rfl hl.1 rfl (lv_room (Nat.le_of_ble_eq_true rfl)) ds_charAt_12 ⟨Nat.le_refl _, Nat.le_refl _⟩) ?_
  exact W.zret (ty := .char) hx hb hr hch (fun t ht _ => ⟨rfl, ht⟩) (fun _ h9 => (by cases h9)) ds_charAt_15
end STR
