theorem am_split {f : Nat → Bool} {n a : Nat} (h : ((List.range n).map (fun k => k + a)).all f = true) {m : Nat} (h1 : a ≤ m) (h2 : m < a + n) : f m = true := List.all_eq_true.mp h m (List.mem_map.mpr ⟨m - a, List.mem_range.mpr (by omega), by omega⟩)
set_option maxRecDepth 100000 in
theorem am_ck_0 : ((List.range 22).map (fun k => k + 0)).all am_ckM = true := by decide +kernel
set_option maxRecDepth 100000 in
theorem am_dk_0 : ((List.range 22).map (fun k => k + 0)).all am_dkM = true := by decide +kernel
set_option maxRecDepth 100000 in
theorem am_ck_22 : ((List.range 25).map (fun k => k + 22)).all am_ckM = true := by decide +kernel
set_option maxRecDepth 100000 in
theorem am_dk_22 : ((List.range 25).map (fun k => k + 22)).all am_dkM = true := by decide +kernel
set_option maxRecDepth 100000 in
theorem am_ck_47 : ((List.range 30).map (fun k => k + 47)).all am_ckM = true := by decide +kernel
set_option maxRecDepth 100000 in
theorem am_dk_47 : ((List.range 30).map (fun k => k + 47)).all am_dkM = true := by decide +kernel
set_option maxRecDepth 100000 in
theorem am_ck_77 : ((List.range 29).map (fun k => k + 77)).all am_ckM = true := by decide +kernel
set_option maxRecDepth 100000 in
theorem am_dk_77 : ((List.range 29).map (fun k => k + 77)).all am_dkM = true := by decide +kernel
set_option maxRecDepth 100000 in
theorem am_ck_106 : ((List.range 19).map (fun k => k + 106)).all am_ckM = true := by decide +kernel
set_option maxRecDepth 100000 in
theorem am_dk_106 : ((List.range 19).map (fun k => k + 106)).all am_dkM = true := by decide +kernel
set_option maxRecDepth 100000 in
theorem am_ck_125 : ((List.range 29).map (fun k => k + 125)).all am_ckM = true := by decide +kernel
set_option maxRecDepth 100000 in
theorem am_dk_125 : ((List.range 29).map (fun k => k + 125)).all am_dkM = true := by decide +kernel
set_option maxRecDepth 100000 in
theorem am_ck_154 : ((List.range 12).map (fun k => k + 154)).all am_ckM = true := by decide +kernel
set_option maxRecDepth 100000 in
theorem am_dk_154 : ((List.range 12).map (fun k => k + 154)).all am_dkM = true := by decide +kernel
set_option maxRecDepth 100000 in
theorem am_ck_166 : ((List.range 12).map (fun k => k + 166)).all am_ckM = true := by decide +kernel
set_option maxRecDepth 100000 in
theorem am_dk_166 : ((List.range 12).map (fun k => k + 166)).all am_dkM = true := by decide +kernel
set_option maxRecDepth 100000 in
theorem am_ck_178 : ((List.range 9).map (fun k => k + 178)).all am_ckM = true := by decide +kernel
set_option maxRecDepth 100000 in
theorem am_dk_178 : ((List.range 9).map (fun k => k + 178)).all am_dkM = true := by decide +kernel
set_option maxRecDepth 100000 in
theorem am_ck_187 : ((List.range 13).map (fun k => k + 187)).all am_ckM = true := by decide +kernel
set_option maxRecDepth 100000 in
theorem am_dk_187 : ((List.range 13).map (fun k => k + 187)).all am_dkM = true := by decide +kernel
set_option maxRecDepth 100000 in
theorem am_ck_200 : ((List.range 4).map (fun k => k + 200)).all am_ckM = true := by decide +kernel
set_option maxRecDepth 100000 in
theorem am_dk_200 : ((List.range 4).map (fun k => k + 200)).all am_dkM = true := by decide +kernel
set_option maxRecDepth 100000 in
theorem am_ck_204 : ((List.range 1).map (fun k => k + 204)).all am_ckM = true := by decide +kernel
theorem am_ck_ok : ∀ m, m < 205 → am_ckM m = true := by
  intro m hm
  by_cases h0 : m < 22
  · exact am_split am_ck_0 (by omega) (by omega)
  by_cases h22 : m < 47
  · exact am_split am_ck_22 (by omega) (by omega)
  by_cases h47 : m < 77
  · exact am_split am_ck_47 (by omega) (by omega)
  by_cases h77 : m < 106
  · exact am_split am_ck_77 (by omega) (by omega)
  by_cases h106 : m < 125
  · exact am_split am_ck_106 (by omega) (by omega)
  by_cases h125 : m < 154
  · exact am_split am_ck_125 (by omega) (by omega)
  by_cases h154 : m < 166
  · exact am_split am_ck_154 (by omega) (by omega)
  by_cases h166 : m < 178
  · exact am_split am_ck_166 (by omega) (by omega)
  by_cases h178 : m < 187
  · exact am_split am_ck_178 (by omega) (by omega)
  by_cases h187 : m < 200
  · exact am_split am_ck_187 (by omega) (by omega)
  by_cases h200 : m < 204
  · exact am_split am_ck_200 (by omega) (by omega)
  exact am_split am_ck_204 (by omega) (by omega)
