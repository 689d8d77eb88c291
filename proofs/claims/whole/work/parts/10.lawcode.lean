set_option maxRecDepth 100000 in
theorem am_dl_0 : ((am_c204.drop 0).take 40).all (am_dk 204) = true := by decide +kernel
set_option maxRecDepth 100000 in
theorem am_dl_40 : ((am_c204.drop 40).take 40).all (am_dk 204) = true := by decide +kernel
set_option maxRecDepth 100000 in
theorem am_dl_80 : ((am_c204.drop 80).take 40).all (am_dk 204) = true := by decide +kernel
set_option maxRecDepth 100000 in
theorem am_dl_120 : ((am_c204.drop 120).take 40).all (am_dk 204) = true := by decide +kernel
set_option maxRecDepth 100000 in
theorem am_dl_160 : ((am_c204.drop 160).take 40).all (am_dk 204) = true := by decide +kernel
set_option maxRecDepth 100000 in
theorem am_dl_200 : ((am_c204.drop 200).take 40).all (am_dk 204) = true := by decide +kernel
set_option maxRecDepth 100000 in
theorem am_dl_240 : ((am_c204.drop 240).take 40).all (am_dk 204) = true := by decide +kernel
set_option maxRecDepth 100000 in
theorem am_dl_280 : ((am_c204.drop 280).take 40).all (am_dk 204) = true := by decide +kernel
set_option maxRecDepth 100000 in
theorem am_dl_320 : ((am_c204.drop 320).take 40).all (am_dk 204) = true := by decide +kernel
set_option maxRecDepth 100000 in
theorem am_dl_360 : ((am_c204.drop 360).take 40).all (am_dk 204) = true := by decide +kernel
set_option maxRecDepth 100000 in
theorem am_dl_400 : ((am_c204.drop 400).take 40).all (am_dk 204) = true := by decide +kernel
set_option maxRecDepth 100000 in
theorem am_dl_440 : ((am_c204.drop 440).take 40).all (am_dk 204) = true := by decide +kernel
set_option maxRecDepth 100000 in
theorem am_dl_480 : ((am_c204.drop 480).take 40).all (am_dk 204) = true := by decide +kernel
set_option maxRecDepth 100000 in
theorem am_dl_520 : ((am_c204.drop 520).take 40).all (am_dk 204) = true := by decide +kernel
set_option maxRecDepth 100000 in
theorem am_dl_560 : ((am_c204.drop 560).take 40).all (am_dk 204) = true := by decide +kernel
set_option maxRecDepth 100000 in
theorem am_dl_600 : ((am_c204.drop 600).take 40).all (am_dk 204) = true := by decide +kernel
set_option maxRecDepth 100000 in
theorem am_dl_640 : ((am_c204.drop 640).take 40).all (am_dk 204) = true := by decide +kernel
set_option maxRecDepth 100000 in
theorem am_dl_680 : ((am_c204.drop 680).take 40).all (am_dk 204) = true := by decide +kernel
set_option maxRecDepth 100000 in
theorem am_dl_720 : ((am_c204.drop 720).take 40).all (am_dk 204) = true := by decide +kernel
theorem am_dl_app {f : am_E → Bool} {l : List am_E} {a b : Nat} (h1 : (l.take a).all f = true) (h2 : ((l.drop a).take b).all f = true) : (l.take (a + b)).all f = true := by
  rw [List.take_add, List.all_append, h1, h2]
  rfl
theorem am_dm_0 : (am_c204.take 40).all (am_dk 204) = true := am_dl_0
theorem am_dm_40 : (am_c204.take 80).all (am_dk 204) = true := am_dl_app (f := am_dk 204) (l := am_c204) (a := 40) (b := 40) am_dm_0 am_dl_40
theorem am_dm_80 : (am_c204.take 120).all (am_dk 204) = true := am_dl_app (f := am_dk 204) (l := am_c204) (a := 80) (b := 40) am_dm_40 am_dl_80
theorem am_dm_120 : (am_c204.take 160).all (am_dk 204) = true := am_dl_app (f := am_dk 204) (l := am_c204) (a := 120) (b := 40) am_dm_80 am_dl_120
theorem am_dm_160 : (am_c204.take 200).all (am_dk 204) = true := am_dl_app (f := am_dk 204) (l := am_c204) (a := 160) (b := 40) am_dm_120 am_dl_160
theorem am_dm_200 : (am_c204.take 240).all (am_dk 204) = true := am_dl_app (f := am_dk 204) (l := am_c204) (a := 200) (b := 40) am_dm_160 am_dl_200
theorem am_dm_240 : (am_c204.take 280).all (am_dk 204) = true := am_dl_app (f := am_dk 204) (l := am_c204) (a := 240) (b := 40) am_dm_200 am_dl_240
theorem am_dm_280 : (am_c204.take 320).all (am_dk 204) = true := am_dl_app (f := am_dk 204) (l := am_c204) (a := 280) (b := 40) am_dm_240 am_dl_280
theorem am_dm_320 : (am_c204.take 360).all (am_dk 204) = true := am_dl_app (f := am_dk 204) (l := am_c204) (a := 320) (b := 40) am_dm_280 am_dl_320
theorem am_dm_360 : (am_c204.take 400).all (am_dk 204) = true := am_dl_app (f := am_dk 204) (l := am_c204) (a := 360) (b := 40) am_dm_320 am_dl_360
theorem am_dm_400 : (am_c204.take 440).all (am_dk 204) = true := am_dl_app (f := am_dk 204) (l := am_c204) (a := 400) (b := 40) am_dm_360 am_dl_400
theorem am_dm_440 : (am_c204.take 480).all (am_dk 204) = true := am_dl_app (f := am_dk 204) (l := am_c204) (a := 440) (b := 40) am_dm_400 am_dl_440
theorem am_dm_480 : (am_c204.take 520).all (am_dk 204) = true := am_dl_app (f := am_dk 204) (l := am_c204) (a := 480) (b := 40) am_dm_440 am_dl_480
theorem am_dm_520 : (am_c204.take 560).all (am_dk 204) = true := am_dl_app (f := am_dk 204) (l := am_c204) (a := 520) (b := 40) am_dm_480 am_dl_520
theorem am_dm_560 : (am_c204.take 600).all (am_dk 204) = true := am_dl_app (f := am_dk 204) (l := am_c204) (a := 560) (b := 40) am_dm_520 am_dl_560
theorem am_dm_600 : (am_c204.take 640).all (am_dk 204) = true := am_dl_app (f := am_dk 204) (l := am_c204) (a := 600) (b := 40) am_dm_560 am_dl_600
theorem am_dm_640 : (am_c204.take 680).all (am_dk 204) = true := am_dl_app (f := am_dk 204) (l := am_c204) (a := 640) (b := 40) am_dm_600 am_dl_640
theorem am_dm_680 : (am_c204.take 720).all (am_dk 204) = true := am_dl_app (f := am_dk 204) (l := am_c204) (a := 680) (b := 40) am_dm_640 am_dl_680
theorem am_dm_720 : (am_c204.take 760).all (am_dk 204) = true := am_dl_app (f := am_dk 204) (l := am_c204) (a := 720) (b := 40) am_dm_680 am_dl_720
set_option maxRecDepth 100000 in
theorem am_dkL : am_dkM 204 = true := by
  have h := am_dm_720
  rw [List.take_of_length_le (show am_c204.length ≤ 760 from Nat.le_of_ble_eq_true rfl)] at h
  exact h
theorem am_dk_ok : ∀ m, m < 205 → am_dkM m = true := by
  intro m hm
  by_cases h0 : m < 22
  · exact am_split am_dk_0 (by omega) (by omega)
  by_cases h22 : m < 47
  · exact am_split am_dk_22 (by omega) (by omega)
  by_cases h47 : m < 77
  · exact am_split am_dk_47 (by omega) (by omega)
  by_cases h77 : m < 106
  · exact am_split am_dk_77 (by omega) (by omega)
  by_cases h106 : m < 125
  · exact am_split am_dk_106 (by omega) (by omega)
  by_cases h125 : m < 154
  · exact am_split am_dk_125 (by omega) (by omega)
  by_cases h154 : m < 166
  · exact am_split am_dk_154 (by omega) (by omega)
  by_cases h166 : m < 178
  · exact am_split am_dk_166 (by omega) (by omega)
  by_cases h178 : m < 187
  · exact am_split am_dk_178 (by omega) (by omega)
  by_cases h187 : m < 200
  · exact am_split am_dk_187 (by omega) (by omega)
  by_cases h200 : m < 204
  · exact am_split am_dk_200 (by omega) (by omega)
  rw [show m = 204 by omega]
  exact am_dkL
