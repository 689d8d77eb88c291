/-! ===== places, numbers, accesses ===== -/
def bkR (b : Bool) : Nat := bif b then 31 else 97
def bkN (b : Bool) : Nat := bif b then 97 else 31
def mrL (b : Bool) : List (List (Option Nat)) := [[some 1, some 2, some 3, some 6, some 9, some 13, some 26, some 28, some 60, some 75, some 96, some (bkR b), none, none, none], [some 126, some 127, some 128, some 129, some 130, some 131, some 132, some 133], [none, none, none, none, none, none, none, none], [some 4, some 5], [], [], [some 7, some 8], [], [], [some 10, some 11, some 12, none], [], [], [], [some 14, some 15, some 16, some 17, some 18, none, none, none], [some 19, some 20, some 21, some 22, some 23, some 24, some 25], [], [], [], [], [none, none, none, none, none, none, none, none], [none, none, none, none, none, none, none, none], [none, none, none, none, none, none, none, none], [none, none, none, none, none, none, none, none], [none, none, none, none, none, none, none, none], [none, none, none, none, none, none, none, none], [none, none, none, none, none, none, none, none], [some 27, none], [], [some 29, some 30, some 26, some (bkN b), none, none, none, none, none, none, none, none, none], [], [], [some 32, some 33, some 42, some 51, none], [], [some 34, some 35, some 36, some 37, some 38, some 39, some 40, some 41], [], [], [], [], [], [], [], [], [some 43, some 44, some 45, some 46, some 47, some 48, some 49, some 50], [], [], [], [], [], [], [], [], [some 52, some 53, some 54, some 55, some 56, some 57, some 58, some 59], [], [], [], [], [], [], [], [], [some 61, some 62, some 63, none, none, none, some 72, some 73, some 74, none, none], [], [], [some 64, some 65, some 66, some 67, some 68, some 69, some 70, some 71], [], [], [], [], [], [], [], [], [], [], [], [some 76, some 85, some 94, some 95, none, none], [some 77, some 78, some 79, some 80, some 81, some 82, some 83, some 84], [], [], [], [], [], [], [], [], [some 86, some 87, some 88, some 89, some 90, some 91, some 92, some 93], [], [], [], [], [], [], [], [], [], [], [none, none], [some 98, some 99, some 108, some 117, none], [], [some 100, some 101, some 102, some 103, some 104, some 105, some 106, some 107], [], [], [], [], [], [], [], [], [some 109, some 110, some 111, some 112, some 113, some 114, some 115, some 116], [], [], [], [], [], [], [], [], [some 118, some 119, some 120, some 121, some 122, some 123, some 124, some 125], [], [], [], [], [], [], [], [], [none, none, none, none, none, none, none, none], [none, none, none, none, none, none, none, none], [none, none, none, none, none, none, none, none], [none, none, none, none, none, none, none, none], [none, none, none, none, none, none, none, none], [none, none, none, none, none, none, none, none], [none, none, none, none, none, none, none, none], [none, none, none, none, none, none, none, none], [none, none, none, none, none, none, some 135, some 136, some 137, some 138, some 139, some 140, some 141, some 142, none, some 143, some 144, some 145, some 146, some 147, none, none, none, none, some 148, some 149, some 150, some 151, some 152, some 153, none, some 154, some 155, some 156, some 157, none, none, none, none, none, none, none, none, none, none, none, none, none, none, some 158, some 159, some 160, some 161, some 162, some 163, some 164, some 165, some 166], [], [], [], [], [], [], [], [], [], [], [], [], [], [], [], [], [], [], [], [], [], [], [], [], [], [], [], [], [], [], [], []]
theorem mrL_false : mrL false = am_mrT := rfl
theorem kd_0 (mr : List (List (Option Nat))) (mi : Nat → Nat → Int32) (ml : Nat → Nat → Int64) : am_kd (am_shT, mr, mi, ml) 0 = 10 := rfl
theorem ln_1 (mr : List (List (Option Nat))) (mi : Nat → Nat → Int32) (ml : Nat → Nat → Int64) : am_ln (am_shT, mr, mi, ml) 1 104 = some 8 := rfl
theorem ra_1 (b : Bool) (q : Nat) (hq : q < 8) : am_rd (mrL b) 1 q = some (126 + q) := (show ∀ b : Bool, ∀ q, q < 8 → am_rd (mrL b) 1 q = some (126 + q) from by decide) b q hq
theorem kr_1 {q : Nat} (hq : q < 8) (mr : List (List (Option Nat))) (mi : Nat → Nat → Int32) (ml : Nat → Nat → Int64) : am_kd (am_shT, mr, mi, ml) (126 + q) = 8 := (show ∀ q, q < 8 → (am_shT[126 + q]?.map Prod.fst).getD 1000 = 8 from by decide) q hq
theorem kd_2 (mr : List (List (Option Nat))) (mi : Nat → Nat → Int32) (ml : Nat → Nat → Int64) : am_kd (am_shT, mr, mi, ml) 2 = 8 := rfl
theorem kd_3 (mr : List (List (Option Nat))) (mi : Nat → Nat → Int32) (ml : Nat → Nat → Int64) : am_kd (am_shT, mr, mi, ml) 3 = 9 := rfl
theorem ln_4 (mr : List (List (Option Nat))) (mi : Nat → Nat → Int32) (ml : Nat → Nat → Int64) : am_ln (am_shT, mr, mi, ml) 4 100 = some 1000 := rfl
theorem ln_5 (mr : List (List (Option Nat))) (mi : Nat → Nat → Int32) (ml : Nat → Nat → Int64) : am_ln (am_shT, mr, mi, ml) 5 100 = some 1000 := rfl
theorem kd_6 (mr : List (List (Option Nat))) (mi : Nat → Nat → Int32) (ml : Nat → Nat → Int64) : am_kd (am_shT, mr, mi, ml) 6 = 9 := rfl
theorem ln_7 (mr : List (List (Option Nat))) (mi : Nat → Nat → Int32) (ml : Nat → Nat → Int64) : am_ln (am_shT, mr, mi, ml) 7 100 = some 1000 := rfl
theorem ln_8 (mr : List (List (Option Nat))) (mi : Nat → Nat → Int32) (ml : Nat → Nat → Int64) : am_ln (am_shT, mr, mi, ml) 8 100 = some 1000 := rfl
theorem kd_9 (mr : List (List (Option Nat))) (mi : Nat → Nat → Int32) (ml : Nat → Nat → Int64) : am_kd (am_shT, mr, mi, ml) 9 = 2 := rfl
theorem ln_10 (mr : List (List (Option Nat))) (mi : Nat → Nat → Int32) (ml : Nat → Nat → Int64) : am_ln (am_shT, mr, mi, ml) 10 100 = some 200 := rfl
theorem ln_11 (mr : List (List (Option Nat))) (mi : Nat → Nat → Int32) (ml : Nat → Nat → Int64) : am_ln (am_shT, mr, mi, ml) 11 100 = some 200 := rfl
theorem ln_12 (mr : List (List (Option Nat))) (mi : Nat → Nat → Int32) (ml : Nat → Nat → Int64) : am_ln (am_shT, mr, mi, ml) 12 100 = some 200 := rfl
theorem kd_13 (mr : List (List (Option Nat))) (mi : Nat → Nat → Int32) (ml : Nat → Nat → Int64) : am_kd (am_shT, mr, mi, ml) 13 = 3 := rfl
theorem ln_14 (mr : List (List (Option Nat))) (mi : Nat → Nat → Int32) (ml : Nat → Nat → Int64) : am_ln (am_shT, mr, mi, ml) 14 104 = some 7 := rfl
theorem ra_14 (b : Bool) (q : Nat) (hq : q < 7) : am_rd (mrL b) 14 q = some (19 + q) := (show ∀ b : Bool, ∀ q, q < 7 → am_rd (mrL b) 14 q = some (19 + q) from by decide) b q hq
theorem kr_14 {q : Nat} (hq : q < 7) (mr : List (List (Option Nat))) (mi : Nat → Nat → Int32) (ml : Nat → Nat → Int64) : am_kd (am_shT, mr, mi, ml) (19 + q) = 8 := (show ∀ q, q < 7 → (am_shT[19 + q]?.map Prod.fst).getD 1000 = 8 from by decide) q hq
theorem ln_15 (mr : List (List (Option Nat))) (mi : Nat → Nat → Int32) (ml : Nat → Nat → Int64) : am_ln (am_shT, mr, mi, ml) 15 100 = some 6 := rfl
theorem ln_16 (mr : List (List (Option Nat))) (mi : Nat → Nat → Int32) (ml : Nat → Nat → Int64) : am_ln (am_shT, mr, mi, ml) 16 100 = some 6 := rfl
theorem ln_17 (mr : List (List (Option Nat))) (mi : Nat → Nat → Int32) (ml : Nat → Nat → Int64) : am_ln (am_shT, mr, mi, ml) 17 100 = some 6 := rfl
theorem ln_18 (mr : List (List (Option Nat))) (mi : Nat → Nat → Int32) (ml : Nat → Nat → Int64) : am_ln (am_shT, mr, mi, ml) 18 100 = some 6 := rfl
theorem kd_19 (mr : List (List (Option Nat))) (mi : Nat → Nat → Int32) (ml : Nat → Nat → Int64) : am_kd (am_shT, mr, mi, ml) 19 = 8 := rfl
theorem kd_20 (mr : List (List (Option Nat))) (mi : Nat → Nat → Int32) (ml : Nat → Nat → Int64) : am_kd (am_shT, mr, mi, ml) 20 = 8 := rfl
theorem kd_21 (mr : List (List (Option Nat))) (mi : Nat → Nat → Int32) (ml : Nat → Nat → Int64) : am_kd (am_shT, mr, mi, ml) 21 = 8 := rfl
theorem kd_22 (mr : List (List (Option Nat))) (mi : Nat → Nat → Int32) (ml : Nat → Nat → Int64) : am_kd (am_shT, mr, mi, ml) 22 = 8 := rfl
theorem kd_23 (mr : List (List (Option Nat))) (mi : Nat → Nat → Int32) (ml : Nat → Nat → Int64) : am_kd (am_shT, mr, mi, ml) 23 = 8 := rfl
theorem kd_24 (mr : List (List (Option Nat))) (mi : Nat → Nat → Int32) (ml : Nat → Nat → Int64) : am_kd (am_shT, mr, mi, ml) 24 = 8 := rfl
theorem kd_25 (mr : List (List (Option Nat))) (mi : Nat → Nat → Int32) (ml : Nat → Nat → Int64) : am_kd (am_shT, mr, mi, ml) 25 = 8 := rfl
theorem kd_26 (mr : List (List (Option Nat))) (mi : Nat → Nat → Int32) (ml : Nat → Nat → Int64) : am_kd (am_shT, mr, mi, ml) 26 = 7 := rfl
theorem ln_27 (mr : List (List (Option Nat))) (mi : Nat → Nat → Int32) (ml : Nat → Nat → Int64) : am_ln (am_shT, mr, mi, ml) 27 100 = some 400 := rfl
theorem kd_28 (mr : List (List (Option Nat))) (mi : Nat → Nat → Int32) (ml : Nat → Nat → Int64) : am_kd (am_shT, mr, mi, ml) 28 = 5 := rfl
theorem ln_29 (mr : List (List (Option Nat))) (mi : Nat → Nat → Int32) (ml : Nat → Nat → Int64) : am_ln (am_shT, mr, mi, ml) 29 100 = some 8 := rfl
theorem ln_30 (mr : List (List (Option Nat))) (mi : Nat → Nat → Int32) (ml : Nat → Nat → Int64) : am_ln (am_shT, mr, mi, ml) 30 100 = some 8 := rfl
theorem kd_31 (mr : List (List (Option Nat))) (mi : Nat → Nat → Int32) (ml : Nat → Nat → Int64) : am_kd (am_shT, mr, mi, ml) 31 = 4 := rfl
theorem ln_32 (mr : List (List (Option Nat))) (mi : Nat → Nat → Int32) (ml : Nat → Nat → Int64) : am_ln (am_shT, mr, mi, ml) 32 100 = some 8 := rfl
theorem ln_33 (mr : List (List (Option Nat))) (mi : Nat → Nat → Int32) (ml : Nat → Nat → Int64) : am_ln (am_shT, mr, mi, ml) 33 105 = some 8 := rfl
theorem ra_33 (b : Bool) (q : Nat) (hq : q < 8) : am_rd (mrL b) 33 q = some (34 + q) := (show ∀ b : Bool, ∀ q, q < 8 → am_rd (mrL b) 33 q = some (34 + q) from by decide) b q hq
theorem lr_33 {q : Nat} (hq : q < 8) (mr : List (List (Option Nat))) (mi : Nat → Nat → Int32) (ml : Nat → Nat → Int64) : am_ln (am_shT, mr, mi, ml) (34 + q) 100 = some 6 := by
  have h : am_shT[34 + q]? = some (100, 6) := (show ∀ q, q < 8 → am_shT[34 + q]? = some (100, 6) from by decide) q hq
  unfold am_ln
  simp only [h]
  rfl
theorem ln_34 (mr : List (List (Option Nat))) (mi : Nat → Nat → Int32) (ml : Nat → Nat → Int64) : am_ln (am_shT, mr, mi, ml) 34 100 = some 6 := rfl
theorem ln_35 (mr : List (List (Option Nat))) (mi : Nat → Nat → Int32) (ml : Nat → Nat → Int64) : am_ln (am_shT, mr, mi, ml) 35 100 = some 6 := rfl
theorem ln_36 (mr : List (List (Option Nat))) (mi : Nat → Nat → Int32) (ml : Nat → Nat → Int64) : am_ln (am_shT, mr, mi, ml) 36 100 = some 6 := rfl
theorem ln_37 (mr : List (List (Option Nat))) (mi : Nat → Nat → Int32) (ml : Nat → Nat → Int64) : am_ln (am_shT, mr, mi, ml) 37 100 = some 6 := rfl
theorem ln_38 (mr : List (List (Option Nat))) (mi : Nat → Nat → Int32) (ml : Nat → Nat → Int64) : am_ln (am_shT, mr, mi, ml) 38 100 = some 6 := rfl
theorem ln_39 (mr : List (List (Option Nat))) (mi : Nat → Nat → Int32) (ml : Nat → Nat → Int64) : am_ln (am_shT, mr, mi, ml) 39 100 = some 6 := rfl
theorem ln_40 (mr : List (List (Option Nat))) (mi : Nat → Nat → Int32) (ml : Nat → Nat → Int64) : am_ln (am_shT, mr, mi, ml) 40 100 = some 6 := rfl
theorem ln_41 (mr : List (List (Option Nat))) (mi : Nat → Nat → Int32) (ml : Nat → Nat → Int64) : am_ln (am_shT, mr, mi, ml) 41 100 = some 6 := rfl
theorem ln_42 (mr : List (List (Option Nat))) (mi : Nat → Nat → Int32) (ml : Nat → Nat → Int64) : am_ln (am_shT, mr, mi, ml) 42 105 = some 8 := rfl
theorem ra_42 (b : Bool) (q : Nat) (hq : q < 8) : am_rd (mrL b) 42 q = some (43 + q) := (show ∀ b : Bool, ∀ q, q < 8 → am_rd (mrL b) 42 q = some (43 + q) from by decide) b q hq
theorem lr_42 {q : Nat} (hq : q < 8) (mr : List (List (Option Nat))) (mi : Nat → Nat → Int32) (ml : Nat → Nat → Int64) : am_ln (am_shT, mr, mi, ml) (43 + q) 100 = some 6 := by
  have h : am_shT[43 + q]? = some (100, 6) := (show ∀ q, q < 8 → am_shT[43 + q]? = some (100, 6) from by decide) q hq
  unfold am_ln
  simp only [h]
  rfl
theorem ln_43 (mr : List (List (Option Nat))) (mi : Nat → Nat → Int32) (ml : Nat → Nat → Int64) : am_ln (am_shT, mr, mi, ml) 43 100 = some 6 := rfl
theorem ln_44 (mr : List (List (Option Nat))) (mi : Nat → Nat → Int32) (ml : Nat → Nat → Int64) : am_ln (am_shT, mr, mi, ml) 44 100 = some 6 := rfl
theorem ln_45 (mr : List (List (Option Nat))) (mi : Nat → Nat → Int32) (ml : Nat → Nat → Int64) : am_ln (am_shT, mr, mi, ml) 45 100 = some 6 := rfl
theorem ln_46 (mr : List (List (Option Nat))) (mi : Nat → Nat → Int32) (ml : Nat → Nat → Int64) : am_ln (am_shT, mr, mi, ml) 46 100 = some 6 := rfl
theorem ln_47 (mr : List (List (Option Nat))) (mi : Nat → Nat → Int32) (ml : Nat → Nat → Int64) : am_ln (am_shT, mr, mi, ml) 47 100 = some 6 := rfl
theorem ln_48 (mr : List (List (Option Nat))) (mi : Nat → Nat → Int32) (ml : Nat → Nat → Int64) : am_ln (am_shT, mr, mi, ml) 48 100 = some 6 := rfl
theorem ln_49 (mr : List (List (Option Nat))) (mi : Nat → Nat → Int32) (ml : Nat → Nat → Int64) : am_ln (am_shT, mr, mi, ml) 49 100 = some 6 := rfl
theorem ln_50 (mr : List (List (Option Nat))) (mi : Nat → Nat → Int32) (ml : Nat → Nat → Int64) : am_ln (am_shT, mr, mi, ml) 50 100 = some 6 := rfl
theorem ln_51 (mr : List (List (Option Nat))) (mi : Nat → Nat → Int32) (ml : Nat → Nat → Int64) : am_ln (am_shT, mr, mi, ml) 51 105 = some 8 := rfl
theorem ra_51 (b : Bool) (q : Nat) (hq : q < 8) : am_rd (mrL b) 51 q = some (52 + q) := (show ∀ b : Bool, ∀ q, q < 8 → am_rd (mrL b) 51 q = some (52 + q) from by decide) b q hq
theorem lr_51 {q : Nat} (hq : q < 8) (mr : List (List (Option Nat))) (mi : Nat → Nat → Int32) (ml : Nat → Nat → Int64) : am_ln (am_shT, mr, mi, ml) (52 + q) 100 = some 6 := by
  have h : am_shT[52 + q]? = some (100, 6) := (show ∀ q, q < 8 → am_shT[52 + q]? = some (100, 6) from by decide) q hq
  unfold am_ln
  simp only [h]
  rfl
theorem ln_52 (mr : List (List (Option Nat))) (mi : Nat → Nat → Int32) (ml : Nat → Nat → Int64) : am_ln (am_shT, mr, mi, ml) 52 100 = some 6 := rfl
theorem ln_53 (mr : List (List (Option Nat))) (mi : Nat → Nat → Int32) (ml : Nat → Nat → Int64) : am_ln (am_shT, mr, mi, ml) 53 100 = some 6 := rfl
theorem ln_54 (mr : List (List (Option Nat))) (mi : Nat → Nat → Int32) (ml : Nat → Nat → Int64) : am_ln (am_shT, mr, mi, ml) 54 100 = some 6 := rfl
theorem ln_55 (mr : List (List (Option Nat))) (mi : Nat → Nat → Int32) (ml : Nat → Nat → Int64) : am_ln (am_shT, mr, mi, ml) 55 100 = some 6 := rfl
theorem ln_56 (mr : List (List (Option Nat))) (mi : Nat → Nat → Int32) (ml : Nat → Nat → Int64) : am_ln (am_shT, mr, mi, ml) 56 100 = some 6 := rfl
theorem ln_57 (mr : List (List (Option Nat))) (mi : Nat → Nat → Int32) (ml : Nat → Nat → Int64) : am_ln (am_shT, mr, mi, ml) 57 100 = some 6 := rfl
theorem ln_58 (mr : List (List (Option Nat))) (mi : Nat → Nat → Int32) (ml : Nat → Nat → Int64) : am_ln (am_shT, mr, mi, ml) 58 100 = some 6 := rfl
theorem ln_59 (mr : List (List (Option Nat))) (mi : Nat → Nat → Int32) (ml : Nat → Nat → Int64) : am_ln (am_shT, mr, mi, ml) 59 100 = some 6 := rfl
theorem kd_60 (mr : List (List (Option Nat))) (mi : Nat → Nat → Int32) (ml : Nat → Nat → Int64) : am_kd (am_shT, mr, mi, ml) 60 = 6 := rfl
theorem ln_61 (mr : List (List (Option Nat))) (mi : Nat → Nat → Int32) (ml : Nat → Nat → Int64) : am_ln (am_shT, mr, mi, ml) 61 100 = some 8 := rfl
theorem ln_62 (mr : List (List (Option Nat))) (mi : Nat → Nat → Int32) (ml : Nat → Nat → Int64) : am_ln (am_shT, mr, mi, ml) 62 100 = some 8 := rfl
theorem ln_63 (mr : List (List (Option Nat))) (mi : Nat → Nat → Int32) (ml : Nat → Nat → Int64) : am_ln (am_shT, mr, mi, ml) 63 105 = some 8 := rfl
theorem ra_63 (b : Bool) (q : Nat) (hq : q < 8) : am_rd (mrL b) 63 q = some (64 + q) := (show ∀ b : Bool, ∀ q, q < 8 → am_rd (mrL b) 63 q = some (64 + q) from by decide) b q hq
theorem lr_63 {q : Nat} (hq : q < 8) (mr : List (List (Option Nat))) (mi : Nat → Nat → Int32) (ml : Nat → Nat → Int64) : am_ln (am_shT, mr, mi, ml) (64 + q) 100 = some 8 := by
  have h : am_shT[64 + q]? = some (100, 8) := (show ∀ q, q < 8 → am_shT[64 + q]? = some (100, 8) from by decide) q hq
  unfold am_ln
  simp only [h]
  rfl
theorem ln_64 (mr : List (List (Option Nat))) (mi : Nat → Nat → Int32) (ml : Nat → Nat → Int64) : am_ln (am_shT, mr, mi, ml) 64 100 = some 8 := rfl
theorem ln_65 (mr : List (List (Option Nat))) (mi : Nat → Nat → Int32) (ml : Nat → Nat → Int64) : am_ln (am_shT, mr, mi, ml) 65 100 = some 8 := rfl
theorem ln_66 (mr : List (List (Option Nat))) (mi : Nat → Nat → Int32) (ml : Nat → Nat → Int64) : am_ln (am_shT, mr, mi, ml) 66 100 = some 8 := rfl
theorem ln_67 (mr : List (List (Option Nat))) (mi : Nat → Nat → Int32) (ml : Nat → Nat → Int64) : am_ln (am_shT, mr, mi, ml) 67 100 = some 8 := rfl
theorem ln_68 (mr : List (List (Option Nat))) (mi : Nat → Nat → Int32) (ml : Nat → Nat → Int64) : am_ln (am_shT, mr, mi, ml) 68 100 = some 8 := rfl
theorem ln_69 (mr : List (List (Option Nat))) (mi : Nat → Nat → Int32) (ml : Nat → Nat → Int64) : am_ln (am_shT, mr, mi, ml) 69 100 = some 8 := rfl
theorem ln_70 (mr : List (List (Option Nat))) (mi : Nat → Nat → Int32) (ml : Nat → Nat → Int64) : am_ln (am_shT, mr, mi, ml) 70 100 = some 8 := rfl
theorem ln_71 (mr : List (List (Option Nat))) (mi : Nat → Nat → Int32) (ml : Nat → Nat → Int64) : am_ln (am_shT, mr, mi, ml) 71 100 = some 8 := rfl
theorem ln_72 (mr : List (List (Option Nat))) (mi : Nat → Nat → Int32) (ml : Nat → Nat → Int64) : am_ln (am_shT, mr, mi, ml) 72 102 = some 256 := rfl
theorem lz_72 (mr : List (List (Option Nat))) (mi : Nat → Nat → Int32) (ml : Nat → Nat → Int64) : am_ln (am_shT, mr, mi, ml) 72 101 = none := rfl
theorem ln_73 (mr : List (List (Option Nat))) (mi : Nat → Nat → Int32) (ml : Nat → Nat → Int64) : am_ln (am_shT, mr, mi, ml) 73 103 = some 256 := rfl
theorem ln_74 (mr : List (List (Option Nat))) (mi : Nat → Nat → Int32) (ml : Nat → Nat → Int64) : am_ln (am_shT, mr, mi, ml) 74 103 = some 256 := rfl
theorem kd_75 (mr : List (List (Option Nat))) (mi : Nat → Nat → Int32) (ml : Nat → Nat → Int64) : am_kd (am_shT, mr, mi, ml) 75 = 1 := rfl
theorem ln_76 (mr : List (List (Option Nat))) (mi : Nat → Nat → Int32) (ml : Nat → Nat → Int64) : am_ln (am_shT, mr, mi, ml) 76 105 = some 8 := rfl
theorem ra_76 (b : Bool) (q : Nat) (hq : q < 8) : am_rd (mrL b) 76 q = some (77 + q) := (show ∀ b : Bool, ∀ q, q < 8 → am_rd (mrL b) 76 q = some (77 + q) from by decide) b q hq
theorem lr_76 {q : Nat} (hq : q < 8) (mr : List (List (Option Nat))) (mi : Nat → Nat → Int32) (ml : Nat → Nat → Int64) : am_ln (am_shT, mr, mi, ml) (77 + q) 100 = some 3 := by
  have h : am_shT[77 + q]? = some (100, 3) := (show ∀ q, q < 8 → am_shT[77 + q]? = some (100, 3) from by decide) q hq
  unfold am_ln
  simp only [h]
  rfl
theorem ln_77 (mr : List (List (Option Nat))) (mi : Nat → Nat → Int32) (ml : Nat → Nat → Int64) : am_ln (am_shT, mr, mi, ml) 77 100 = some 3 := rfl
theorem ln_78 (mr : List (List (Option Nat))) (mi : Nat → Nat → Int32) (ml : Nat → Nat → Int64) : am_ln (am_shT, mr, mi, ml) 78 100 = some 3 := rfl
theorem ln_79 (mr : List (List (Option Nat))) (mi : Nat → Nat → Int32) (ml : Nat → Nat → Int64) : am_ln (am_shT, mr, mi, ml) 79 100 = some 3 := rfl
theorem ln_80 (mr : List (List (Option Nat))) (mi : Nat → Nat → Int32) (ml : Nat → Nat → Int64) : am_ln (am_shT, mr, mi, ml) 80 100 = some 3 := rfl
theorem ln_81 (mr : List (List (Option Nat))) (mi : Nat → Nat → Int32) (ml : Nat → Nat → Int64) : am_ln (am_shT, mr, mi, ml) 81 100 = some 3 := rfl
theorem ln_82 (mr : List (List (Option Nat))) (mi : Nat → Nat → Int32) (ml : Nat → Nat → Int64) : am_ln (am_shT, mr, mi, ml) 82 100 = some 3 := rfl
theorem ln_83 (mr : List (List (Option Nat))) (mi : Nat → Nat → Int32) (ml : Nat → Nat → Int64) : am_ln (am_shT, mr, mi, ml) 83 100 = some 3 := rfl
theorem ln_84 (mr : List (List (Option Nat))) (mi : Nat → Nat → Int32) (ml : Nat → Nat → Int64) : am_ln (am_shT, mr, mi, ml) 84 100 = some 3 := rfl
theorem ln_85 (mr : List (List (Option Nat))) (mi : Nat → Nat → Int32) (ml : Nat → Nat → Int64) : am_ln (am_shT, mr, mi, ml) 85 105 = some 8 := rfl
theorem ra_85 (b : Bool) (q : Nat) (hq : q < 8) : am_rd (mrL b) 85 q = some (86 + q) := (show ∀ b : Bool, ∀ q, q < 8 → am_rd (mrL b) 85 q = some (86 + q) from by decide) b q hq
theorem lr_85 {q : Nat} (hq : q < 8) (mr : List (List (Option Nat))) (mi : Nat → Nat → Int32) (ml : Nat → Nat → Int64) : am_ln (am_shT, mr, mi, ml) (86 + q) 100 = some 3 := by
  have h : am_shT[86 + q]? = some (100, 3) := (show ∀ q, q < 8 → am_shT[86 + q]? = some (100, 3) from by decide) q hq
  unfold am_ln
  simp only [h]
  rfl
theorem ln_86 (mr : List (List (Option Nat))) (mi : Nat → Nat → Int32) (ml : Nat → Nat → Int64) : am_ln (am_shT, mr, mi, ml) 86 100 = some 3 := rfl
theorem ln_87 (mr : List (List (Option Nat))) (mi : Nat → Nat → Int32) (ml : Nat → Nat → Int64) : am_ln (am_shT, mr, mi, ml) 87 100 = some 3 := rfl
theorem ln_88 (mr : List (List (Option Nat))) (mi : Nat → Nat → Int32) (ml : Nat → Nat → Int64) : am_ln (am_shT, mr, mi, ml) 88 100 = some 3 := rfl
theorem ln_89 (mr : List (List (Option Nat))) (mi : Nat → Nat → Int32) (ml : Nat → Nat → Int64) : am_ln (am_shT, mr, mi, ml) 89 100 = some 3 := rfl
theorem ln_90 (mr : List (List (Option Nat))) (mi : Nat → Nat → Int32) (ml : Nat → Nat → Int64) : am_ln (am_shT, mr, mi, ml) 90 100 = some 3 := rfl
theorem ln_91 (mr : List (List (Option Nat))) (mi : Nat → Nat → Int32) (ml : Nat → Nat → Int64) : am_ln (am_shT, mr, mi, ml) 91 100 = some 3 := rfl
theorem ln_92 (mr : List (List (Option Nat))) (mi : Nat → Nat → Int32) (ml : Nat → Nat → Int64) : am_ln (am_shT, mr, mi, ml) 92 100 = some 3 := rfl
theorem ln_93 (mr : List (List (Option Nat))) (mi : Nat → Nat → Int32) (ml : Nat → Nat → Int64) : am_ln (am_shT, mr, mi, ml) 93 100 = some 3 := rfl
theorem ln_94 (mr : List (List (Option Nat))) (mi : Nat → Nat → Int32) (ml : Nat → Nat → Int64) : am_ln (am_shT, mr, mi, ml) 94 103 = some 3 := rfl
theorem ln_95 (mr : List (List (Option Nat))) (mi : Nat → Nat → Int32) (ml : Nat → Nat → Int64) : am_ln (am_shT, mr, mi, ml) 95 103 = some 3 := rfl
theorem kd_96 (mr : List (List (Option Nat))) (mi : Nat → Nat → Int32) (ml : Nat → Nat → Int64) : am_kd (am_shT, mr, mi, ml) 96 = 0 := rfl
theorem kd_97 (mr : List (List (Option Nat))) (mi : Nat → Nat → Int32) (ml : Nat → Nat → Int64) : am_kd (am_shT, mr, mi, ml) 97 = 4 := rfl
theorem ln_98 (mr : List (List (Option Nat))) (mi : Nat → Nat → Int32) (ml : Nat → Nat → Int64) : am_ln (am_shT, mr, mi, ml) 98 100 = some 8 := rfl
theorem ln_99 (mr : List (List (Option Nat))) (mi : Nat → Nat → Int32) (ml : Nat → Nat → Int64) : am_ln (am_shT, mr, mi, ml) 99 105 = some 8 := rfl
theorem ra_99 (b : Bool) (q : Nat) (hq : q < 8) : am_rd (mrL b) 99 q = some (100 + q) := (show ∀ b : Bool, ∀ q, q < 8 → am_rd (mrL b) 99 q = some (100 + q) from by decide) b q hq
theorem lr_99 {q : Nat} (hq : q < 8) (mr : List (List (Option Nat))) (mi : Nat → Nat → Int32) (ml : Nat → Nat → Int64) : am_ln (am_shT, mr, mi, ml) (100 + q) 100 = some 6 := by
  have h : am_shT[100 + q]? = some (100, 6) := (show ∀ q, q < 8 → am_shT[100 + q]? = some (100, 6) from by decide) q hq
  unfold am_ln
  simp only [h]
  rfl
theorem ln_100 (mr : List (List (Option Nat))) (mi : Nat → Nat → Int32) (ml : Nat → Nat → Int64) : am_ln (am_shT, mr, mi, ml) 100 100 = some 6 := rfl
theorem ln_101 (mr : List (List (Option Nat))) (mi : Nat → Nat → Int32) (ml : Nat → Nat → Int64) : am_ln (am_shT, mr, mi, ml) 101 100 = some 6 := rfl
theorem ln_102 (mr : List (List (Option Nat))) (mi : Nat → Nat → Int32) (ml : Nat → Nat → Int64) : am_ln (am_shT, mr, mi, ml) 102 100 = some 6 := rfl
theorem ln_103 (mr : List (List (Option Nat))) (mi : Nat → Nat → Int32) (ml : Nat → Nat → Int64) : am_ln (am_shT, mr, mi, ml) 103 100 = some 6 := rfl
theorem ln_104 (mr : List (List (Option Nat))) (mi : Nat → Nat → Int32) (ml : Nat → Nat → Int64) : am_ln (am_shT, mr, mi, ml) 104 100 = some 6 := rfl
theorem ln_105 (mr : List (List (Option Nat))) (mi : Nat → Nat → Int32) (ml : Nat → Nat → Int64) : am_ln (am_shT, mr, mi, ml) 105 100 = some 6 := rfl
theorem ln_106 (mr : List (List (Option Nat))) (mi : Nat → Nat → Int32) (ml : Nat → Nat → Int64) : am_ln (am_shT, mr, mi, ml) 106 100 = some 6 := rfl
theorem ln_107 (mr : List (List (Option Nat))) (mi : Nat → Nat → Int32) (ml : Nat → Nat → Int64) : am_ln (am_shT, mr, mi, ml) 107 100 = some 6 := rfl
theorem ln_108 (mr : List (List (Option Nat))) (mi : Nat → Nat → Int32) (ml : Nat → Nat → Int64) : am_ln (am_shT, mr, mi, ml) 108 105 = some 8 := rfl
theorem ra_108 (b : Bool) (q : Nat) (hq : q < 8) : am_rd (mrL b) 108 q = some (109 + q) := (show ∀ b : Bool, ∀ q, q < 8 → am_rd (mrL b) 108 q = some (109 + q) from by decide) b q hq
theorem lr_108 {q : Nat} (hq : q < 8) (mr : List (List (Option Nat))) (mi : Nat → Nat → Int32) (ml : Nat → Nat → Int64) : am_ln (am_shT, mr, mi, ml) (109 + q) 100 = some 6 := by
  have h : am_shT[109 + q]? = some (100, 6) := (show ∀ q, q < 8 → am_shT[109 + q]? = some (100, 6) from by decide) q hq
  unfold am_ln
  simp only [h]
  rfl
theorem ln_109 (mr : List (List (Option Nat))) (mi : Nat → Nat → Int32) (ml : Nat → Nat → Int64) : am_ln (am_shT, mr, mi, ml) 109 100 = some 6 := rfl
theorem ln_110 (mr : List (List (Option Nat))) (mi : Nat → Nat → Int32) (ml : Nat → Nat → Int64) : am_ln (am_shT, mr, mi, ml) 110 100 = some 6 := rfl
theorem ln_111 (mr : List (List (Option Nat))) (mi : Nat → Nat → Int32) (ml : Nat → Nat → Int64) : am_ln (am_shT, mr, mi, ml) 111 100 = some 6 := rfl
theorem ln_112 (mr : List (List (Option Nat))) (mi : Nat → Nat → Int32) (ml : Nat → Nat → Int64) : am_ln (am_shT, mr, mi, ml) 112 100 = some 6 := rfl
theorem ln_113 (mr : List (List (Option Nat))) (mi : Nat → Nat → Int32) (ml : Nat → Nat → Int64) : am_ln (am_shT, mr, mi, ml) 113 100 = some 6 := rfl
theorem ln_114 (mr : List (List (Option Nat))) (mi : Nat → Nat → Int32) (ml : Nat → Nat → Int64) : am_ln (am_shT, mr, mi, ml) 114 100 = some 6 := rfl
theorem ln_115 (mr : List (List (Option Nat))) (mi : Nat → Nat → Int32) (ml : Nat → Nat → Int64) : am_ln (am_shT, mr, mi, ml) 115 100 = some 6 := rfl
theorem ln_116 (mr : List (List (Option Nat))) (mi : Nat → Nat → Int32) (ml : Nat → Nat → Int64) : am_ln (am_shT, mr, mi, ml) 116 100 = some 6 := rfl
theorem ln_117 (mr : List (List (Option Nat))) (mi : Nat → Nat → Int32) (ml : Nat → Nat → Int64) : am_ln (am_shT, mr, mi, ml) 117 105 = some 8 := rfl
theorem ra_117 (b : Bool) (q : Nat) (hq : q < 8) : am_rd (mrL b) 117 q = some (118 + q) := (show ∀ b : Bool, ∀ q, q < 8 → am_rd (mrL b) 117 q = some (118 + q) from by decide) b q hq
theorem lr_117 {q : Nat} (hq : q < 8) (mr : List (List (Option Nat))) (mi : Nat → Nat → Int32) (ml : Nat → Nat → Int64) : am_ln (am_shT, mr, mi, ml) (118 + q) 100 = some 6 := by
  have h : am_shT[118 + q]? = some (100, 6) := (show ∀ q, q < 8 → am_shT[118 + q]? = some (100, 6) from by decide) q hq
  unfold am_ln
  simp only [h]
  rfl
theorem ln_118 (mr : List (List (Option Nat))) (mi : Nat → Nat → Int32) (ml : Nat → Nat → Int64) : am_ln (am_shT, mr, mi, ml) 118 100 = some 6 := rfl
theorem ln_119 (mr : List (List (Option Nat))) (mi : Nat → Nat → Int32) (ml : Nat → Nat → Int64) : am_ln (am_shT, mr, mi, ml) 119 100 = some 6 := rfl
theorem ln_120 (mr : List (List (Option Nat))) (mi : Nat → Nat → Int32) (ml : Nat → Nat → Int64) : am_ln (am_shT, mr, mi, ml) 120 100 = some 6 := rfl
theorem ln_121 (mr : List (List (Option Nat))) (mi : Nat → Nat → Int32) (ml : Nat → Nat → Int64) : am_ln (am_shT, mr, mi, ml) 121 100 = some 6 := rfl
theorem ln_122 (mr : List (List (Option Nat))) (mi : Nat → Nat → Int32) (ml : Nat → Nat → Int64) : am_ln (am_shT, mr, mi, ml) 122 100 = some 6 := rfl
theorem ln_123 (mr : List (List (Option Nat))) (mi : Nat → Nat → Int32) (ml : Nat → Nat → Int64) : am_ln (am_shT, mr, mi, ml) 123 100 = some 6 := rfl
theorem ln_124 (mr : List (List (Option Nat))) (mi : Nat → Nat → Int32) (ml : Nat → Nat → Int64) : am_ln (am_shT, mr, mi, ml) 124 100 = some 6 := rfl
theorem ln_125 (mr : List (List (Option Nat))) (mi : Nat → Nat → Int32) (ml : Nat → Nat → Int64) : am_ln (am_shT, mr, mi, ml) 125 100 = some 6 := rfl
theorem kd_126 (mr : List (List (Option Nat))) (mi : Nat → Nat → Int32) (ml : Nat → Nat → Int64) : am_kd (am_shT, mr, mi, ml) 126 = 8 := rfl
theorem kd_127 (mr : List (List (Option Nat))) (mi : Nat → Nat → Int32) (ml : Nat → Nat → Int64) : am_kd (am_shT, mr, mi, ml) 127 = 8 := rfl
theorem kd_128 (mr : List (List (Option Nat))) (mi : Nat → Nat → Int32) (ml : Nat → Nat → Int64) : am_kd (am_shT, mr, mi, ml) 128 = 8 := rfl
theorem kd_129 (mr : List (List (Option Nat))) (mi : Nat → Nat → Int32) (ml : Nat → Nat → Int64) : am_kd (am_shT, mr, mi, ml) 129 = 8 := rfl
theorem kd_130 (mr : List (List (Option Nat))) (mi : Nat → Nat → Int32) (ml : Nat → Nat → Int64) : am_kd (am_shT, mr, mi, ml) 130 = 8 := rfl
theorem kd_131 (mr : List (List (Option Nat))) (mi : Nat → Nat → Int32) (ml : Nat → Nat → Int64) : am_kd (am_shT, mr, mi, ml) 131 = 8 := rfl
theorem kd_132 (mr : List (List (Option Nat))) (mi : Nat → Nat → Int32) (ml : Nat → Nat → Int64) : am_kd (am_shT, mr, mi, ml) 132 = 8 := rfl
theorem kd_133 (mr : List (List (Option Nat))) (mi : Nat → Nat → Int32) (ml : Nat → Nat → Int64) : am_kd (am_shT, mr, mi, ml) 133 = 8 := rfl
theorem kd_134 (mr : List (List (Option Nat))) (mi : Nat → Nat → Int32) (ml : Nat → Nat → Int64) : am_kd (am_shT, mr, mi, ml) 134 = 11 := rfl
theorem ln_135 (mr : List (List (Option Nat))) (mi : Nat → Nat → Int32) (ml : Nat → Nat → Int64) : am_ln (am_shT, mr, mi, ml) 135 100 = some 48 := rfl
theorem ln_136 (mr : List (List (Option Nat))) (mi : Nat → Nat → Int32) (ml : Nat → Nat → Int64) : am_ln (am_shT, mr, mi, ml) 136 100 = some 8 := rfl
theorem ln_137 (mr : List (List (Option Nat))) (mi : Nat → Nat → Int32) (ml : Nat → Nat → Int64) : am_ln (am_shT, mr, mi, ml) 137 100 = some 8 := rfl
theorem ln_138 (mr : List (List (Option Nat))) (mi : Nat → Nat → Int32) (ml : Nat → Nat → Int64) : am_ln (am_shT, mr, mi, ml) 138 100 = some 1000 := rfl
theorem ln_139 (mr : List (List (Option Nat))) (mi : Nat → Nat → Int32) (ml : Nat → Nat → Int64) : am_ln (am_shT, mr, mi, ml) 139 100 = some 1000 := rfl
theorem ln_140 (mr : List (List (Option Nat))) (mi : Nat → Nat → Int32) (ml : Nat → Nat → Int64) : am_ln (am_shT, mr, mi, ml) 140 100 = some 1000 := rfl
theorem ln_141 (mr : List (List (Option Nat))) (mi : Nat → Nat → Int32) (ml : Nat → Nat → Int64) : am_ln (am_shT, mr, mi, ml) 141 100 = some 1000 := rfl
theorem ln_142 (mr : List (List (Option Nat))) (mi : Nat → Nat → Int32) (ml : Nat → Nat → Int64) : am_ln (am_shT, mr, mi, ml) 142 100 = some 6 := rfl
theorem ln_143 (mr : List (List (Option Nat))) (mi : Nat → Nat → Int32) (ml : Nat → Nat → Int64) : am_ln (am_shT, mr, mi, ml) 143 100 = some 200 := rfl
theorem ln_144 (mr : List (List (Option Nat))) (mi : Nat → Nat → Int32) (ml : Nat → Nat → Int64) : am_ln (am_shT, mr, mi, ml) 144 100 = some 200 := rfl
theorem ln_145 (mr : List (List (Option Nat))) (mi : Nat → Nat → Int32) (ml : Nat → Nat → Int64) : am_ln (am_shT, mr, mi, ml) 145 100 = some 200 := rfl
theorem ln_146 (mr : List (List (Option Nat))) (mi : Nat → Nat → Int32) (ml : Nat → Nat → Int64) : am_ln (am_shT, mr, mi, ml) 146 100 = some 6 := rfl
theorem ln_147 (mr : List (List (Option Nat))) (mi : Nat → Nat → Int32) (ml : Nat → Nat → Int64) : am_ln (am_shT, mr, mi, ml) 147 100 = some 6 := rfl
theorem ln_148 (mr : List (List (Option Nat))) (mi : Nat → Nat → Int32) (ml : Nat → Nat → Int64) : am_ln (am_shT, mr, mi, ml) 148 100 = some 8 := rfl
theorem ln_149 (mr : List (List (Option Nat))) (mi : Nat → Nat → Int32) (ml : Nat → Nat → Int64) : am_ln (am_shT, mr, mi, ml) 149 100 = some 8 := rfl
theorem ln_150 (mr : List (List (Option Nat))) (mi : Nat → Nat → Int32) (ml : Nat → Nat → Int64) : am_ln (am_shT, mr, mi, ml) 150 100 = some 64 := rfl
theorem ln_151 (mr : List (List (Option Nat))) (mi : Nat → Nat → Int32) (ml : Nat → Nat → Int64) : am_ln (am_shT, mr, mi, ml) 151 100 = some 8 := rfl
theorem ln_152 (mr : List (List (Option Nat))) (mi : Nat → Nat → Int32) (ml : Nat → Nat → Int64) : am_ln (am_shT, mr, mi, ml) 152 100 = some 8 := rfl
theorem ln_153 (mr : List (List (Option Nat))) (mi : Nat → Nat → Int32) (ml : Nat → Nat → Int64) : am_ln (am_shT, mr, mi, ml) 153 100 = some 9 := rfl
theorem ln_154 (mr : List (List (Option Nat))) (mi : Nat → Nat → Int32) (ml : Nat → Nat → Int64) : am_ln (am_shT, mr, mi, ml) 154 100 = some 100 := rfl
theorem ln_155 (mr : List (List (Option Nat))) (mi : Nat → Nat → Int32) (ml : Nat → Nat → Int64) : am_ln (am_shT, mr, mi, ml) 155 100 = some 100 := rfl
theorem ln_156 (mr : List (List (Option Nat))) (mi : Nat → Nat → Int32) (ml : Nat → Nat → Int64) : am_ln (am_shT, mr, mi, ml) 156 100 = some 100 := rfl
theorem ln_157 (mr : List (List (Option Nat))) (mi : Nat → Nat → Int32) (ml : Nat → Nat → Int64) : am_ln (am_shT, mr, mi, ml) 157 101 = some 400 := rfl
theorem ln_158 (mr : List (List (Option Nat))) (mi : Nat → Nat → Int32) (ml : Nat → Nat → Int64) : am_ln (am_shT, mr, mi, ml) 158 100 = some 8 := rfl
theorem ln_159 (mr : List (List (Option Nat))) (mi : Nat → Nat → Int32) (ml : Nat → Nat → Int64) : am_ln (am_shT, mr, mi, ml) 159 100 = some 48 := rfl
theorem ln_160 (mr : List (List (Option Nat))) (mi : Nat → Nat → Int32) (ml : Nat → Nat → Int64) : am_ln (am_shT, mr, mi, ml) 160 100 = some 48 := rfl
theorem ln_161 (mr : List (List (Option Nat))) (mi : Nat → Nat → Int32) (ml : Nat → Nat → Int64) : am_ln (am_shT, mr, mi, ml) 161 100 = some 48 := rfl
theorem ln_162 (mr : List (List (Option Nat))) (mi : Nat → Nat → Int32) (ml : Nat → Nat → Int64) : am_ln (am_shT, mr, mi, ml) 162 100 = some 8 := rfl
theorem ln_163 (mr : List (List (Option Nat))) (mi : Nat → Nat → Int32) (ml : Nat → Nat → Int64) : am_ln (am_shT, mr, mi, ml) 163 100 = some 48 := rfl
theorem ln_164 (mr : List (List (Option Nat))) (mi : Nat → Nat → Int32) (ml : Nat → Nat → Int64) : am_ln (am_shT, mr, mi, ml) 164 100 = some 48 := rfl
theorem ln_165 (mr : List (List (Option Nat))) (mi : Nat → Nat → Int32) (ml : Nat → Nat → Int64) : am_ln (am_shT, mr, mi, ml) 165 100 = some 48 := rfl
theorem ln_166 (mr : List (List (Option Nat))) (mi : Nat → Nat → Int32) (ml : Nat → Nat → Int64) : am_ln (am_shT, mr, mi, ml) 166 103 = some 8 := rfl
theorem rd_0_0 (b : Bool) : am_rd (mrL b) 0 0 = some (1) := rfl
theorem rd_0_1 (b : Bool) : am_rd (mrL b) 0 1 = some (2) := rfl
theorem rd_0_2 (b : Bool) : am_rd (mrL b) 0 2 = some (3) := rfl
theorem rd_0_3 (b : Bool) : am_rd (mrL b) 0 3 = some (6) := rfl
theorem rd_0_4 (b : Bool) : am_rd (mrL b) 0 4 = some (9) := rfl
theorem rd_0_5 (b : Bool) : am_rd (mrL b) 0 5 = some (13) := rfl
theorem rd_0_6 (b : Bool) : am_rd (mrL b) 0 6 = some (26) := rfl
theorem rd_0_7 (b : Bool) : am_rd (mrL b) 0 7 = some (28) := rfl
theorem rd_0_8 (b : Bool) : am_rd (mrL b) 0 8 = some (60) := rfl
theorem rd_0_9 (b : Bool) : am_rd (mrL b) 0 9 = some (75) := rfl
theorem rd_0_10 (b : Bool) : am_rd (mrL b) 0 10 = some (96) := rfl
theorem rd_0_11 (b : Bool) : am_rd (mrL b) 0 11 = some (bkR b) := rfl
theorem rd_3_0 (b : Bool) : am_rd (mrL b) 3 0 = some (4) := rfl
theorem rd_3_1 (b : Bool) : am_rd (mrL b) 3 1 = some (5) := rfl
theorem rd_6_0 (b : Bool) : am_rd (mrL b) 6 0 = some (7) := rfl
theorem rd_6_1 (b : Bool) : am_rd (mrL b) 6 1 = some (8) := rfl
theorem rd_9_0 (b : Bool) : am_rd (mrL b) 9 0 = some (10) := rfl
theorem rd_9_1 (b : Bool) : am_rd (mrL b) 9 1 = some (11) := rfl
theorem rd_9_2 (b : Bool) : am_rd (mrL b) 9 2 = some (12) := rfl
theorem rd_13_0 (b : Bool) : am_rd (mrL b) 13 0 = some (14) := rfl
theorem rd_13_1 (b : Bool) : am_rd (mrL b) 13 1 = some (15) := rfl
theorem rd_13_2 (b : Bool) : am_rd (mrL b) 13 2 = some (16) := rfl
theorem rd_13_3 (b : Bool) : am_rd (mrL b) 13 3 = some (17) := rfl
theorem rd_13_4 (b : Bool) : am_rd (mrL b) 13 4 = some (18) := rfl
theorem rd_26_0 (b : Bool) : am_rd (mrL b) 26 0 = some (27) := rfl
theorem rd_28_0 (b : Bool) : am_rd (mrL b) 28 0 = some (29) := rfl
theorem rd_28_1 (b : Bool) : am_rd (mrL b) 28 1 = some (30) := rfl
theorem rd_28_2 (b : Bool) : am_rd (mrL b) 28 2 = some (26) := rfl
theorem rd_28_3 (b : Bool) : am_rd (mrL b) 28 3 = some (bkN b) := rfl
theorem rd_31_0 (b : Bool) : am_rd (mrL b) 31 0 = some (32) := rfl
theorem rd_31_1 (b : Bool) : am_rd (mrL b) 31 1 = some (33) := rfl
theorem rd_31_2 (b : Bool) : am_rd (mrL b) 31 2 = some (42) := rfl
theorem rd_31_3 (b : Bool) : am_rd (mrL b) 31 3 = some (51) := rfl
theorem rd_60_0 (b : Bool) : am_rd (mrL b) 60 0 = some (61) := rfl
theorem rd_60_1 (b : Bool) : am_rd (mrL b) 60 1 = some (62) := rfl
theorem rd_60_2 (b : Bool) : am_rd (mrL b) 60 2 = some (63) := rfl
theorem rd_60_6 (b : Bool) : am_rd (mrL b) 60 6 = some (72) := rfl
theorem rd_60_7 (b : Bool) : am_rd (mrL b) 60 7 = some (73) := rfl
theorem rd_60_8 (b : Bool) : am_rd (mrL b) 60 8 = some (74) := rfl
theorem rd_75_0 (b : Bool) : am_rd (mrL b) 75 0 = some (76) := rfl
theorem rd_75_1 (b : Bool) : am_rd (mrL b) 75 1 = some (85) := rfl
theorem rd_75_2 (b : Bool) : am_rd (mrL b) 75 2 = some (94) := rfl
theorem rd_75_3 (b : Bool) : am_rd (mrL b) 75 3 = some (95) := rfl
theorem rd_97_0 (b : Bool) : am_rd (mrL b) 97 0 = some (98) := rfl
theorem rd_97_1 (b : Bool) : am_rd (mrL b) 97 1 = some (99) := rfl
theorem rd_97_2 (b : Bool) : am_rd (mrL b) 97 2 = some (108) := rfl
theorem rd_97_3 (b : Bool) : am_rd (mrL b) 97 3 = some (117) := rfl
theorem rd_134_6 (b : Bool) : am_rd (mrL b) 134 6 = some (135) := rfl
theorem rd_134_7 (b : Bool) : am_rd (mrL b) 134 7 = some (136) := rfl
theorem rd_134_8 (b : Bool) : am_rd (mrL b) 134 8 = some (137) := rfl
theorem rd_134_9 (b : Bool) : am_rd (mrL b) 134 9 = some (138) := rfl
theorem rd_134_10 (b : Bool) : am_rd (mrL b) 134 10 = some (139) := rfl
theorem rd_134_11 (b : Bool) : am_rd (mrL b) 134 11 = some (140) := rfl
theorem rd_134_12 (b : Bool) : am_rd (mrL b) 134 12 = some (141) := rfl
theorem rd_134_13 (b : Bool) : am_rd (mrL b) 134 13 = some (142) := rfl
theorem rd_134_15 (b : Bool) : am_rd (mrL b) 134 15 = some (143) := rfl
theorem rd_134_16 (b : Bool) : am_rd (mrL b) 134 16 = some (144) := rfl
theorem rd_134_17 (b : Bool) : am_rd (mrL b) 134 17 = some (145) := rfl
theorem rd_134_18 (b : Bool) : am_rd (mrL b) 134 18 = some (146) := rfl
theorem rd_134_19 (b : Bool) : am_rd (mrL b) 134 19 = some (147) := rfl
theorem rd_134_24 (b : Bool) : am_rd (mrL b) 134 24 = some (148) := rfl
theorem rd_134_25 (b : Bool) : am_rd (mrL b) 134 25 = some (149) := rfl
theorem rd_134_26 (b : Bool) : am_rd (mrL b) 134 26 = some (150) := rfl
theorem rd_134_27 (b : Bool) : am_rd (mrL b) 134 27 = some (151) := rfl
theorem rd_134_28 (b : Bool) : am_rd (mrL b) 134 28 = some (152) := rfl
theorem rd_134_29 (b : Bool) : am_rd (mrL b) 134 29 = some (153) := rfl
theorem rd_134_31 (b : Bool) : am_rd (mrL b) 134 31 = some (154) := rfl
theorem rd_134_32 (b : Bool) : am_rd (mrL b) 134 32 = some (155) := rfl
theorem rd_134_33 (b : Bool) : am_rd (mrL b) 134 33 = some (156) := rfl
theorem rd_134_34 (b : Bool) : am_rd (mrL b) 134 34 = some (157) := rfl
theorem rd_134_49 (b : Bool) : am_rd (mrL b) 134 49 = some (158) := rfl
theorem rd_134_50 (b : Bool) : am_rd (mrL b) 134 50 = some (159) := rfl
theorem rd_134_51 (b : Bool) : am_rd (mrL b) 134 51 = some (160) := rfl
theorem rd_134_52 (b : Bool) : am_rd (mrL b) 134 52 = some (161) := rfl
theorem rd_134_53 (b : Bool) : am_rd (mrL b) 134 53 = some (162) := rfl
theorem rd_134_54 (b : Bool) : am_rd (mrL b) 134 54 = some (163) := rfl
theorem rd_134_55 (b : Bool) : am_rd (mrL b) 134 55 = some (164) := rfl
theorem rd_134_56 (b : Bool) : am_rd (mrL b) 134 56 = some (165) := rfl
theorem rd_134_57 (b : Bool) : am_rd (mrL b) 134 57 = some (166) := rfl
theorem kd_bkR (b : Bool) (mr : List (List (Option Nat))) (mi : Nat → Nat → Int32) (ml : Nat → Nat → Int64) : am_kd (am_shT, mr, mi, ml) (bkR b) = 4 := by cases b <;> rfl
theorem kd_bkN (b : Bool) (mr : List (List (Option Nat))) (mi : Nat → Nat → Int32) (ml : Nat → Nat → Int64) : am_kd (am_shT, mr, mi, ml) (bkN b) = 4 := by cases b <;> rfl
theorem i32_toInt {n : Nat} (h : n < 2147483648) : (Int32.ofNat n).toInt = n := Int32.toInt_ofNat_of_lt h
theorem cl_n {x : Int32} {q : Nat} (hx : x = Int32.ofNat q) (h : q < 2147483648) : x.toNatClampNeg = q := by
  subst hx
  show (Int32.ofNat q).toInt.toNat = q
  rw [i32_toInt h]
  rfl
theorem lt_n {x y : Int32} {a b : Nat} (hx : x = Int32.ofNat a) (hy : y = Int32.ofNat b) (ha : a < 2147483648) (hb : b < 2147483648) : x < y ↔ a < b := by
  subst hx; subst hy
  rw [Int32.lt_iff_toInt_lt, i32_toInt ha, i32_toInt hb]
  omega
theorem le_n {x y : Int32} {a b : Nat} (hx : x = Int32.ofNat a) (hy : y = Int32.ofNat b) (ha : a < 2147483648) (hb : b < 2147483648) : x ≤ y ↔ a ≤ b := by
  subst hx; subst hy
  rw [Int32.le_iff_toInt_le, i32_toInt ha, i32_toInt hb]
  omega
theorem eq_n {x y : Int32} {a b : Nat} (hx : x = Int32.ofNat a) (hy : y = Int32.ofNat b) (ha : a < 2147483648) (hb : b < 2147483648) : x = y ↔ a = b := by
  subst hx; subst hy
  rw [← Int32.toInt_inj, i32_toInt ha, i32_toInt hb]
  omega
theorem ne_n {x y : Int32} {a b : Nat} (hx : x = Int32.ofNat a) (hy : y = Int32.ofNat b) (ha : a < 2147483648) (hb : b < 2147483648) : (¬ x = y) ↔ a ≠ b := not_congr (eq_n hx hy ha hb)
theorem add_n {x y : Int32} {a b : Nat} (hx : x = Int32.ofNat a) (hy : y = Int32.ofNat b) : x + y = Int32.ofNat (a + b) := by
  subst hx; subst hy; exact (Int32.ofNat_add a b).symm
theorem mul_n {x y : Int32} {a b : Nat} (hx : x = Int32.ofNat a) (hy : y = Int32.ofNat b) : x * y = Int32.ofNat (a * b) := by
  subst hx; subst hy; exact (Int32.ofNat_mul a b).symm
theorem sub_n {x y : Int32} {a b : Nat} (hx : x = Int32.ofNat a) (hy : y = Int32.ofNat b) (h : b ≤ a) : x - y = Int32.ofNat (a - b) := by
  subst hx; subst hy
  have e : Int32.ofNat a = Int32.ofNat (a - b) + Int32.ofNat b := by rw [← Int32.ofNat_add]; congr 1; omega
  rw [e, Int32.add_sub_cancel]
theorem dec_n {x : Int32} {a : Nat} (hx : x = Int32.ofNat a) (h : 1 ≤ a) : x + Int32.ofInt (-1) = Int32.ofNat (a - 1) := by
  have e := sub_n hx (rfl : (1 : Int32) = Int32.ofNat 1) h
  rw [← e, Int32.sub_eq_add_neg]
  rfl
theorem ix_n {x : Int32} {q n : Nat} (hx : x = Int32.ofNat q) (hq : q < n) (hn : n ≤ 65536) : am_ix x n = true := by
  rw [am_ix_iff]
  refine ⟨(le_n (rfl : (0 : Int32) = Int32.ofNat 0) hx (by decide) (by omega)).mpr (Nat.zero_le _), ?_⟩
  rw [cl_n hx (by omega)]
  exact hq
/-- a number between 0 and n is one of ours -/
theorem nat_of {x : Int32} (h : 0 ≤ x.toInt) : ∃ q : Nat, x = Int32.ofNat q ∧ (q : Int) = x.toInt := by
  refine ⟨x.toInt.toNat, ?_, by omega⟩
  rw [← Int32.toInt_inj, i32_toInt (by have := x.toInt_lt; omega)]
  omega
section WN
variable {X : Nat × (Nat → Int32)} {d mid j : Nat} {ls st : List Value} {Q : Option Value → am_M → Prop} {p r1 r2 r3 ix : Nat} {x y v : Int32} {lv ly : Int64} {a b : Nat} {sh : List (Nat × Nat)} {mr : List (List (Option Nat))} {mi : Nat → Nat → Int32} {ml : Nat → Nat → Int64} {n q : Nat}
theorem wi_getIv (hc : am_cd mid j = some (.getfield ix, p, r1, r2, 0)) (hk : am_kd (sh, mr, mi, ml) a = r1) (hv : mi a r2 = v) (k : am_wp X d mid (j + 1) ls (.int v :: st) (sh, mr, mi, ml) Q) : am_wp X d mid j ls (.ref a :: st) (sh, mr, mi, ml) Q := wi_getI hc hk (by rw [hv]; exact k)
theorem wi_getLv (hc : am_cd mid j = some (.getfield ix, p, r1, r2, 1)) (hk : am_kd (sh, mr, mi, ml) a = r1) (hv : ml a r2 = lv) (k : am_wp X d mid (j + 1) ls (.long lv :: st) (sh, mr, mi, ml) Q) : am_wp X d mid j ls (.ref a :: st) (sh, mr, mi, ml) Q := wi_getL hc hk (by rw [hv]; exact k)
theorem wn_iaload (hc : am_cd mid j = some (.iaload, p, r1, r2, r3)) (ha : am_ln (sh, mr, mi, ml) a 100 = some n) (hx : x = Int32.ofNat q) (hq : q < n) (hn : n ≤ 65536) (h5 : ¬ a = 1000050) (h4 : ¬ a = 1000040) (hv : mi a q = v) (k : am_wp X d mid (j + 1) ls (.int v :: st) (sh, mr, mi, ml) Q) : am_wp X d mid j ls (.int x :: .ref a :: st) (sh, mr, mi, ml) Q := wi_iaload hc ha (ix_n hx hq hn) (cl_n hx (by omega)) h5 h4 (by rw [hv]; exact k)
theorem wn_ialoadO (hc : am_cd mid j = some (.iaload, p, r1, r2, r3)) (hx : x = Int32.ofNat q) (hq : q < 8) (k : am_wp X d mid (j + 1) ls (.int (am_orders q) :: st) (sh, mr, mi, ml) Q) : am_wp X d mid j ls (.int x :: .ref 1000040 :: st) (sh, mr, mi, ml) Q := wi_ialoadO hc (ix_n hx hq (by decide)) (cl_n hx (by omega)) k
theorem wn_baload (hc : am_cd mid j = some (.baload, p, r1, r2, r3)) (ha : am_ln (sh, mr, mi, ml) a 101 = some n ∨ am_ln (sh, mr, mi, ml) a 102 = some n) (hx : x = Int32.ofNat q) (hq : q < n) (hn : n ≤ 65536) (hv : mi a q = v) (k : am_wp X d mid (j + 1) ls (.int v :: st) (sh, mr, mi, ml) Q) : am_wp X d mid j ls (.int x :: .ref a :: st) (sh, mr, mi, ml) Q := wi_baload hc ha (ix_n hx hq hn) (cl_n hx (by omega)) (by rw [hv]; exact k)
theorem wn_laload (hc : am_cd mid j = some (.laload, p, r1, r2, r3)) (ha : am_ln (sh, mr, mi, ml) a 103 = some n) (hx : x = Int32.ofNat q) (hq : q < n) (hn : n ≤ 65536) (hv : ml a q = lv) (k : am_wp X d mid (j + 1) ls (.long lv :: st) (sh, mr, mi, ml) Q) : am_wp X d mid j ls (.int x :: .ref a :: st) (sh, mr, mi, ml) Q := wi_laload hc ha (ix_n hx hq hn) (cl_n hx (by omega)) (by rw [hv]; exact k)
theorem wn_aaload (hc : am_cd mid j = some (.aaload, p, r1, r2, r3)) (ha : am_ln (sh, mr, mi, ml) a 104 = some n ∨ am_ln (sh, mr, mi, ml) a 105 = some n) (hx : x = Int32.ofNat q) (hq : q < n) (hn : n ≤ 65536) (hr : am_rd mr a q = some b) (k : am_wp X d mid (j + 1) ls (.ref b :: st) (sh, mr, mi, ml) Q) : am_wp X d mid j ls (.int x :: .ref a :: st) (sh, mr, mi, ml) Q := wi_aaload hc ha (ix_n hx hq hn) (cl_n hx (by omega)) hr k
theorem wn_iastore (hc : am_cd mid j = some (.iastore, p, r1, r2, r3)) (ha : am_ln (sh, mr, mi, ml) a 100 = some n) (hx : x = Int32.ofNat q) (hq : q < n) (hn : n ≤ 65536) (k : am_wp X d mid (j + 1) ls st (sh, mr, u2 mi a q y, ml) Q) : am_wp X d mid j ls (.int y :: .int x :: .ref a :: st) (sh, mr, mi, ml) Q := wi_iastore hc ha (ix_n hx hq hn) (cl_n hx (by omega)) k
theorem wn_lastore (hc : am_cd mid j = some (.lastore, p, r1, r2, r3)) (ha : am_ln (sh, mr, mi, ml) a 103 = some n) (hx : x = Int32.ofNat q) (hq : q < n) (hn : n ≤ 65536) (k : am_wp X d mid (j + 1) ls st (sh, mr, mi, u2 ml a q ly) Q) : am_wp X d mid j ls (.long ly :: .int x :: .ref a :: st) (sh, mr, mi, ml) Q := wi_lastore hc ha (ix_n hx hq hn) (cl_n hx (by omega)) k
theorem wn_bastoreB (hc : am_cd mid j = some (.bastore, p, r1, r2, r3)) (ha : am_ln (sh, mr, mi, ml) a 101 = some n) (hx : x = Int32.ofNat q) (hq : q < n) (hn : n ≤ 65536) (k : am_wp X d mid (j + 1) ls st (sh, mr, u2 mi a q (vp_nar .byte y), ml) Q) : am_wp X d mid j ls (.int y :: .int x :: .ref a :: st) (sh, mr, mi, ml) Q := wi_bastoreB hc ha (ix_n hx hq hn) (cl_n hx (by omega)) rfl k
theorem wn_bastoreZ (hc : am_cd mid j = some (.bastore, p, r1, r2, r3)) (ha0 : am_ln (sh, mr, mi, ml) a 101 = none) (ha : am_ln (sh, mr, mi, ml) a 102 = some n) (hx : x = Int32.ofNat q) (hq : q < n) (hn : n ≤ 65536) (k : am_wp X d mid (j + 1) ls st (sh, mr, u2 mi a q (vp_nar .boolean y), ml) Q) : am_wp X d mid j ls (.int y :: .int x :: .ref a :: st) (sh, mr, mi, ml) Q := wi_bastoreZ hc ha0 ha (ix_n hx hq hn) (cl_n hx (by omega)) rfl k
theorem wn_iadd {z : Int32} {M : am_M} (hc : am_cd mid j = some (.iadd, p, r1, r2, r3)) (hz : x + y = z) (k : am_wp X d mid (j + 1) ls (.int z :: st) M Q) : am_wp X d mid j ls (.int y :: .int x :: st) M Q := wi_iadd hc (by rw [hz]; exact k)
theorem wn_isub {z : Int32} {M : am_M} (hc : am_cd mid j = some (.isub, p, r1, r2, r3)) (hz : x - y = z) (k : am_wp X d mid (j + 1) ls (.int z :: st) M Q) : am_wp X d mid j ls (.int y :: .int x :: st) M Q := wi_isub hc (by rw [hz]; exact k)
theorem wn_imul {z : Int32} {M : am_M} (hc : am_cd mid j = some (.imul, p, r1, r2, r3)) (hz : x * y = z) (k : am_wp X d mid (j + 1) ls (.int z :: st) M Q) : am_wp X d mid j ls (.int y :: .int x :: st) M Q := wi_imul hc (by rw [hz]; exact k)
end WN
