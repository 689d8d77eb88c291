/-! ===== the law, from its entry to its loop: both constructors ===== -/
def am_shT : List (Nat × Nat) := [(10, 15), (104, 8), (8, 8), (9, 2), (100, 1000), (100, 1000), (9, 2), (100, 1000), (100, 1000), (2, 4), (100, 200), (100, 200), (100, 200), (3, 8), (104, 7), (100, 6), (100, 6), (100, 6), (100, 6), (8, 8), (8, 8), (8, 8), (8, 8), (8, 8), (8, 8), (8, 8), (7, 2), (100, 400), (5, 13), (100, 8), (100, 8), (4, 5), (100, 8), (105, 8), (100, 6), (100, 6), (100, 6), (100, 6), (100, 6), (100, 6), (100, 6), (100, 6), (105, 8), (100, 6), (100, 6), (100, 6), (100, 6), (100, 6), (100, 6), (100, 6), (100, 6), (105, 8), (100, 6), (100, 6), (100, 6), (100, 6), (100, 6), (100, 6), (100, 6), (100, 6), (6, 11), (100, 8), (100, 8), (105, 8), (100, 8), (100, 8), (100, 8), (100, 8), (100, 8), (100, 8), (100, 8), (100, 8), (102, 256), (103, 256), (103, 256), (1, 6), (105, 8), (100, 3), (100, 3), (100, 3), (100, 3), (100, 3), (100, 3), (100, 3), (100, 3), (105, 8), (100, 3), (100, 3), (100, 3), (100, 3), (100, 3), (100, 3), (100, 3), (100, 3), (103, 3), (103, 3), (0, 2), (4, 5), (100, 8), (105, 8), (100, 6), (100, 6), (100, 6), (100, 6), (100, 6), (100, 6), (100, 6), (100, 6), (105, 8), (100, 6), (100, 6), (100, 6), (100, 6), (100, 6), (100, 6), (100, 6), (100, 6), (105, 8), (100, 6), (100, 6), (100, 6), (100, 6), (100, 6), (100, 6), (100, 6), (100, 6), (8, 8), (8, 8), (8, 8), (8, 8), (8, 8), (8, 8), (8, 8), (8, 8), (11, 58), (100, 48), (100, 8), (100, 8), (100, 1000), (100, 1000), (100, 1000), (100, 1000), (100, 6), (100, 200), (100, 200), (100, 200), (100, 6), (100, 6), (100, 8), (100, 8), (100, 64), (100, 8), (100, 8), (100, 9), (100, 100), (100, 100), (100, 100), (101, 400), (100, 8), (100, 48), (100, 48), (100, 48), (100, 8), (100, 48), (100, 48), (100, 48), (103, 8)]
def am_mr0 : List (List (Option Nat)) := [[some 1, some 2, none, none, none, none, none, none, none, none, none, none, none, none, none], [none, none, none, none, none, none, none, none], [none, none, none, none, none, none, none, none], [some 4, none], []]
def am_mr1 : List (List (Option Nat)) := [[some 1, some 2, some 3, none, none, none, none, none, none, none, none, none, none, none, none], [none, none, none, none, none, none, none, none], [none, none, none, none, none, none, none, none], [some 4, some 5], [], [], [some 7, some 8], [], []]
def am_mr2 : List (List (Option Nat)) := [[some 1, some 2, some 3, some 6, none, none, none, none, none, none, none, none, none, none, none], [none, none, none, none, none, none, none, none], [none, none, none, none, none, none, none, none], [some 4, some 5], [], [], [some 7, some 8], [], [], [some 10, some 11, some 12, none], [], [], []]
def am_mr3 : List (List (Option Nat)) := [[some 1, some 2, some 3, some 6, some 9, none, none, none, none, none, none, none, none, none, none], [none, none, none, none, none, none, none, none], [none, none, none, none, none, none, none, none], [some 4, some 5], [], [], [some 7, some 8], [], [], [some 10, some 11, some 12, none], [], [], [], [some 14, some 15, some 16, none, none, none, none, none], [none, none, none, none, none, none, none], [], []]
def am_mr4 : List (List (Option Nat)) := [[some 1, some 2, some 3, some 6, some 9, none, none, none, none, none, none, none, none, none, none], [none, none, none, none, none, none, none, none], [none, none, none, none, none, none, none, none], [some 4, some 5], [], [], [some 7, some 8], [], [], [some 10, some 11, some 12, none], [], [], [], [some 14, some 15, some 16, some 17, some 18, none, none, none], [some 19, some 20, none, none, none, none, none], [], [], [], [], [none, none, none, none, none, none, none, none], [none, none, none, none, none, none, none, none]]
def am_mr5 : List (List (Option Nat)) := [[some 1, some 2, some 3, some 6, some 9, none, none, none, none, none, none, none, none, none, none], [none, none, none, none, none, none, none, none], [none, none, none, none, none, none, none, none], [some 4, some 5], [], [], [some 7, some 8], [], [], [some 10, some 11, some 12, none], [], [], [], [some 14, some 15, some 16, some 17, some 18, none, none, none], [some 19, some 20, some 21, some 22, some 23, some 24, none], [], [], [], [], [none, none, none, none, none, none, none, none], [none, none, none, none, none, none, none, none], [none, none, none, none, none, none, none, none], [none, none, none, none, none, none, none, none], [none, none, none, none, none, none, none, none], [none, none, none, none, none, none, none, none]]
def am_mr6 : List (List (Option Nat)) := [[some 1, some 2, some 3, some 6, some 9, some 13, some 26, none, none, none, none, none, none, none, none], [none, none, none, none, none, none, none, none], [none, none, none, none, none, none, none, none], [some 4, some 5], [], [], [some 7, some 8], [], [], [some 10, some 11, some 12, none], [], [], [], [some 14, some 15, some 16, some 17, some 18, none, none, none], [some 19, some 20, some 21, some 22, some 23, some 24, some 25], [], [], [], [], [none, none, none, none, none, none, none, none], [none, none, none, none, none, none, none, none], [none, none, none, none, none, none, none, none], [none, none, none, none, none, none, none, none], [none, none, none, none, none, none, none, none], [none, none, none, none, none, none, none, none], [none, none, none, none, none, none, none, none], [some 27, none], [], [none, none, none, none, none, none, none, none, none, none, none, none, none]]
def am_mr7 : List (List (Option Nat)) := [[some 1, some 2, some 3, some 6, some 9, some 13, some 26, none, none, none, none, none, none, none, none], [none, none, none, none, none, none, none, none], [none, none, none, none, none, none, none, none], [some 4, some 5], [], [], [some 7, some 8], [], [], [some 10, some 11, some 12, none], [], [], [], [some 14, some 15, some 16, some 17, some 18, none, none, none], [some 19, some 20, some 21, some 22, some 23, some 24, some 25], [], [], [], [], [none, none, none, none, none, none, none, none], [none, none, none, none, none, none, none, none], [none, none, none, none, none, none, none, none], [none, none, none, none, none, none, none, none], [none, none, none, none, none, none, none, none], [none, none, none, none, none, none, none, none], [none, none, none, none, none, none, none, none], [some 27, none], [], [some 29, some 30, none, none, none, none, none, none, none, none, none, none, none], [], [], [some 32, none, none, none, none], [], [some 34, some 35, some 36, some 37, some 38, some 39, some 40, some 41], [], [], [], [], [], [], [], []]
def am_mr8 : List (List (Option Nat)) := [[some 1, some 2, some 3, some 6, some 9, some 13, some 26, none, none, none, none, none, none, none, none], [none, none, none, none, none, none, none, none], [none, none, none, none, none, none, none, none], [some 4, some 5], [], [], [some 7, some 8], [], [], [some 10, some 11, some 12, none], [], [], [], [some 14, some 15, some 16, some 17, some 18, none, none, none], [some 19, some 20, some 21, some 22, some 23, some 24, some 25], [], [], [], [], [none, none, none, none, none, none, none, none], [none, none, none, none, none, none, none, none], [none, none, none, none, none, none, none, none], [none, none, none, none, none, none, none, none], [none, none, none, none, none, none, none, none], [none, none, none, none, none, none, none, none], [none, none, none, none, none, none, none, none], [some 27, none], [], [some 29, some 30, none, none, none, none, none, none, none, none, none, none, none], [], [], [some 32, some 33, none, none, none], [], [some 34, some 35, some 36, some 37, some 38, some 39, some 40, some 41], [], [], [], [], [], [], [], [], [some 43, some 44, some 45, some 46, some 47, some 48, some 49, some 50], [], [], [], [], [], [], [], []]
def am_mr9 : List (List (Option Nat)) := [[some 1, some 2, some 3, some 6, some 9, some 13, some 26, none, none, none, none, none, none, none, none], [none, none, none, none, none, none, none, none], [none, none, none, none, none, none, none, none], [some 4, some 5], [], [], [some 7, some 8], [], [], [some 10, some 11, some 12, none], [], [], [], [some 14, some 15, some 16, some 17, some 18, none, none, none], [some 19, some 20, some 21, some 22, some 23, some 24, some 25], [], [], [], [], [none, none, none, none, none, none, none, none], [none, none, none, none, none, none, none, none], [none, none, none, none, none, none, none, none], [none, none, none, none, none, none, none, none], [none, none, none, none, none, none, none, none], [none, none, none, none, none, none, none, none], [none, none, none, none, none, none, none, none], [some 27, none], [], [some 29, some 30, none, none, none, none, none, none, none, none, none, none, none], [], [], [some 32, some 33, some 42, none, none], [], [some 34, some 35, some 36, some 37, some 38, some 39, some 40, some 41], [], [], [], [], [], [], [], [], [some 43, some 44, some 45, some 46, some 47, some 48, some 49, some 50], [], [], [], [], [], [], [], [], [some 52, some 53, some 54, some 55, some 56, some 57, some 58, some 59], [], [], [], [], [], [], [], []]
def am_mr10 : List (List (Option Nat)) := [[some 1, some 2, some 3, some 6, some 9, some 13, some 26, some 28, none, none, none, none, none, none, none], [none, none, none, none, none, none, none, none], [none, none, none, none, none, none, none, none], [some 4, some 5], [], [], [some 7, some 8], [], [], [some 10, some 11, some 12, none], [], [], [], [some 14, some 15, some 16, some 17, some 18, none, none, none], [some 19, some 20, some 21, some 22, some 23, some 24, some 25], [], [], [], [], [none, none, none, none, none, none, none, none], [none, none, none, none, none, none, none, none], [none, none, none, none, none, none, none, none], [none, none, none, none, none, none, none, none], [none, none, none, none, none, none, none, none], [none, none, none, none, none, none, none, none], [none, none, none, none, none, none, none, none], [some 27, none], [], [some 29, some 30, some 26, some 31, none, none, none, none, none, none, none, none, none], [], [], [some 32, some 33, some 42, some 51, none], [], [some 34, some 35, some 36, some 37, some 38, some 39, some 40, some 41], [], [], [], [], [], [], [], [], [some 43, some 44, some 45, some 46, some 47, some 48, some 49, some 50], [], [], [], [], [], [], [], [], [some 52, some 53, some 54, some 55, some 56, some 57, some 58, some 59], [], [], [], [], [], [], [], [], [some 61, none, none, none, none, none, none, none, none, none, none], [], []]
def am_mr11 : List (List (Option Nat)) := [[some 1, some 2, some 3, some 6, some 9, some 13, some 26, some 28, none, none, none, none, none, none, none], [none, none, none, none, none, none, none, none], [none, none, none, none, none, none, none, none], [some 4, some 5], [], [], [some 7, some 8], [], [], [some 10, some 11, some 12, none], [], [], [], [some 14, some 15, some 16, some 17, some 18, none, none, none], [some 19, some 20, some 21, some 22, some 23, some 24, some 25], [], [], [], [], [none, none, none, none, none, none, none, none], [none, none, none, none, none, none, none, none], [none, none, none, none, none, none, none, none], [none, none, none, none, none, none, none, none], [none, none, none, none, none, none, none, none], [none, none, none, none, none, none, none, none], [none, none, none, none, none, none, none, none], [some 27, none], [], [some 29, some 30, some 26, some 31, none, none, none, none, none, none, none, none, none], [], [], [some 32, some 33, some 42, some 51, none], [], [some 34, some 35, some 36, some 37, some 38, some 39, some 40, some 41], [], [], [], [], [], [], [], [], [some 43, some 44, some 45, some 46, some 47, some 48, some 49, some 50], [], [], [], [], [], [], [], [], [some 52, some 53, some 54, some 55, some 56, some 57, some 58, some 59], [], [], [], [], [], [], [], [], [some 61, some 62, none, none, none, none, none, none, none, none, none], [], [], [some 64, some 65, some 66, some 67, some 68, some 69, some 70, some 71], [], [], [], [], [], [], [], []]
def am_mr12 : List (List (Option Nat)) := [[some 1, some 2, some 3, some 6, some 9, some 13, some 26, some 28, some 60, none, none, none, none, none, none], [none, none, none, none, none, none, none, none], [none, none, none, none, none, none, none, none], [some 4, some 5], [], [], [some 7, some 8], [], [], [some 10, some 11, some 12, none], [], [], [], [some 14, some 15, some 16, some 17, some 18, none, none, none], [some 19, some 20, some 21, some 22, some 23, some 24, some 25], [], [], [], [], [none, none, none, none, none, none, none, none], [none, none, none, none, none, none, none, none], [none, none, none, none, none, none, none, none], [none, none, none, none, none, none, none, none], [none, none, none, none, none, none, none, none], [none, none, none, none, none, none, none, none], [none, none, none, none, none, none, none, none], [some 27, none], [], [some 29, some 30, some 26, some 31, none, none, none, none, none, none, none, none, none], [], [], [some 32, some 33, some 42, some 51, none], [], [some 34, some 35, some 36, some 37, some 38, some 39, some 40, some 41], [], [], [], [], [], [], [], [], [some 43, some 44, some 45, some 46, some 47, some 48, some 49, some 50], [], [], [], [], [], [], [], [], [some 52, some 53, some 54, some 55, some 56, some 57, some 58, some 59], [], [], [], [], [], [], [], [], [some 61, some 62, some 63, none, none, none, some 72, some 73, some 74, none, none], [], [], [some 64, some 65, some 66, some 67, some 68, some 69, some 70, some 71], [], [], [], [], [], [], [], [], [], [], []]
def am_mr13 : List (List (Option Nat)) := [[some 1, some 2, some 3, some 6, some 9, some 13, some 26, some 28, some 60, none, none, none, none, none, none], [none, none, none, none, none, none, none, none], [none, none, none, none, none, none, none, none], [some 4, some 5], [], [], [some 7, some 8], [], [], [some 10, some 11, some 12, none], [], [], [], [some 14, some 15, some 16, some 17, some 18, none, none, none], [some 19, some 20, some 21, some 22, some 23, some 24, some 25], [], [], [], [], [none, none, none, none, none, none, none, none], [none, none, none, none, none, none, none, none], [none, none, none, none, none, none, none, none], [none, none, none, none, none, none, none, none], [none, none, none, none, none, none, none, none], [none, none, none, none, none, none, none, none], [none, none, none, none, none, none, none, none], [some 27, none], [], [some 29, some 30, some 26, some 31, none, none, none, none, none, none, none, none, none], [], [], [some 32, some 33, some 42, some 51, none], [], [some 34, some 35, some 36, some 37, some 38, some 39, some 40, some 41], [], [], [], [], [], [], [], [], [some 43, some 44, some 45, some 46, some 47, some 48, some 49, some 50], [], [], [], [], [], [], [], [], [some 52, some 53, some 54, some 55, some 56, some 57, some 58, some 59], [], [], [], [], [], [], [], [], [some 61, some 62, some 63, none, none, none, some 72, some 73, some 74, none, none], [], [], [some 64, some 65, some 66, some 67, some 68, some 69, some 70, some 71], [], [], [], [], [], [], [], [], [], [], [], [none, none, none, none, none, none], [some 77, some 78, some 79, some 80, some 81, some 82, some 83, some 84], [], [], [], [], [], [], [], []]
def am_mr14 : List (List (Option Nat)) := [[some 1, some 2, some 3, some 6, some 9, some 13, some 26, some 28, some 60, none, none, none, none, none, none], [none, none, none, none, none, none, none, none], [none, none, none, none, none, none, none, none], [some 4, some 5], [], [], [some 7, some 8], [], [], [some 10, some 11, some 12, none], [], [], [], [some 14, some 15, some 16, some 17, some 18, none, none, none], [some 19, some 20, some 21, some 22, some 23, some 24, some 25], [], [], [], [], [none, none, none, none, none, none, none, none], [none, none, none, none, none, none, none, none], [none, none, none, none, none, none, none, none], [none, none, none, none, none, none, none, none], [none, none, none, none, none, none, none, none], [none, none, none, none, none, none, none, none], [none, none, none, none, none, none, none, none], [some 27, none], [], [some 29, some 30, some 26, some 31, none, none, none, none, none, none, none, none, none], [], [], [some 32, some 33, some 42, some 51, none], [], [some 34, some 35, some 36, some 37, some 38, some 39, some 40, some 41], [], [], [], [], [], [], [], [], [some 43, some 44, some 45, some 46, some 47, some 48, some 49, some 50], [], [], [], [], [], [], [], [], [some 52, some 53, some 54, some 55, some 56, some 57, some 58, some 59], [], [], [], [], [], [], [], [], [some 61, some 62, some 63, none, none, none, some 72, some 73, some 74, none, none], [], [], [some 64, some 65, some 66, some 67, some 68, some 69, some 70, some 71], [], [], [], [], [], [], [], [], [], [], [], [some 76, none, none, none, none, none], [some 77, some 78, some 79, some 80, some 81, some 82, some 83, some 84], [], [], [], [], [], [], [], [], [some 86, some 87, some 88, some 89, some 90, some 91, some 92, some 93], [], [], [], [], [], [], [], []]
def am_mr15 : List (List (Option Nat)) := [[some 1, some 2, some 3, some 6, some 9, some 13, some 26, some 28, some 60, some 75, some 96, none, none, none, none], [none, none, none, none, none, none, none, none], [none, none, none, none, none, none, none, none], [some 4, some 5], [], [], [some 7, some 8], [], [], [some 10, some 11, some 12, none], [], [], [], [some 14, some 15, some 16, some 17, some 18, none, none, none], [some 19, some 20, some 21, some 22, some 23, some 24, some 25], [], [], [], [], [none, none, none, none, none, none, none, none], [none, none, none, none, none, none, none, none], [none, none, none, none, none, none, none, none], [none, none, none, none, none, none, none, none], [none, none, none, none, none, none, none, none], [none, none, none, none, none, none, none, none], [none, none, none, none, none, none, none, none], [some 27, none], [], [some 29, some 30, some 26, some 31, none, none, none, none, none, none, none, none, none], [], [], [some 32, some 33, some 42, some 51, none], [], [some 34, some 35, some 36, some 37, some 38, some 39, some 40, some 41], [], [], [], [], [], [], [], [], [some 43, some 44, some 45, some 46, some 47, some 48, some 49, some 50], [], [], [], [], [], [], [], [], [some 52, some 53, some 54, some 55, some 56, some 57, some 58, some 59], [], [], [], [], [], [], [], [], [some 61, some 62, some 63, none, none, none, some 72, some 73, some 74, none, none], [], [], [some 64, some 65, some 66, some 67, some 68, some 69, some 70, some 71], [], [], [], [], [], [], [], [], [], [], [], [some 76, some 85, some 94, some 95, none, none], [some 77, some 78, some 79, some 80, some 81, some 82, some 83, some 84], [], [], [], [], [], [], [], [], [some 86, some 87, some 88, some 89, some 90, some 91, some 92, some 93], [], [], [], [], [], [], [], [], [], [], [none, none]]
def am_mr16 : List (List (Option Nat)) := [[some 1, some 2, some 3, some 6, some 9, some 13, some 26, some 28, some 60, some 75, some 96, none, none, none, none], [none, none, none, none, none, none, none, none], [none, none, none, none, none, none, none, none], [some 4, some 5], [], [], [some 7, some 8], [], [], [some 10, some 11, some 12, none], [], [], [], [some 14, some 15, some 16, some 17, some 18, none, none, none], [some 19, some 20, some 21, some 22, some 23, some 24, some 25], [], [], [], [], [none, none, none, none, none, none, none, none], [none, none, none, none, none, none, none, none], [none, none, none, none, none, none, none, none], [none, none, none, none, none, none, none, none], [none, none, none, none, none, none, none, none], [none, none, none, none, none, none, none, none], [none, none, none, none, none, none, none, none], [some 27, none], [], [some 29, some 30, some 26, some 31, none, none, none, none, none, none, none, none, none], [], [], [some 32, some 33, some 42, some 51, none], [], [some 34, some 35, some 36, some 37, some 38, some 39, some 40, some 41], [], [], [], [], [], [], [], [], [some 43, some 44, some 45, some 46, some 47, some 48, some 49, some 50], [], [], [], [], [], [], [], [], [some 52, some 53, some 54, some 55, some 56, some 57, some 58, some 59], [], [], [], [], [], [], [], [], [some 61, some 62, some 63, none, none, none, some 72, some 73, some 74, none, none], [], [], [some 64, some 65, some 66, some 67, some 68, some 69, some 70, some 71], [], [], [], [], [], [], [], [], [], [], [], [some 76, some 85, some 94, some 95, none, none], [some 77, some 78, some 79, some 80, some 81, some 82, some 83, some 84], [], [], [], [], [], [], [], [], [some 86, some 87, some 88, some 89, some 90, some 91, some 92, some 93], [], [], [], [], [], [], [], [], [], [], [none, none], [some 98, none, none, none, none], [], [some 100, some 101, some 102, some 103, some 104, some 105, some 106, some 107], [], [], [], [], [], [], [], []]
def am_mr17 : List (List (Option Nat)) := [[some 1, some 2, some 3, some 6, some 9, some 13, some 26, some 28, some 60, some 75, some 96, none, none, none, none], [none, none, none, none, none, none, none, none], [none, none, none, none, none, none, none, none], [some 4, some 5], [], [], [some 7, some 8], [], [], [some 10, some 11, some 12, none], [], [], [], [some 14, some 15, some 16, some 17, some 18, none, none, none], [some 19, some 20, some 21, some 22, some 23, some 24, some 25], [], [], [], [], [none, none, none, none, none, none, none, none], [none, none, none, none, none, none, none, none], [none, none, none, none, none, none, none, none], [none, none, none, none, none, none, none, none], [none, none, none, none, none, none, none, none], [none, none, none, none, none, none, none, none], [none, none, none, none, none, none, none, none], [some 27, none], [], [some 29, some 30, some 26, some 31, none, none, none, none, none, none, none, none, none], [], [], [some 32, some 33, some 42, some 51, none], [], [some 34, some 35, some 36, some 37, some 38, some 39, some 40, some 41], [], [], [], [], [], [], [], [], [some 43, some 44, some 45, some 46, some 47, some 48, some 49, some 50], [], [], [], [], [], [], [], [], [some 52, some 53, some 54, some 55, some 56, some 57, some 58, some 59], [], [], [], [], [], [], [], [], [some 61, some 62, some 63, none, none, none, some 72, some 73, some 74, none, none], [], [], [some 64, some 65, some 66, some 67, some 68, some 69, some 70, some 71], [], [], [], [], [], [], [], [], [], [], [], [some 76, some 85, some 94, some 95, none, none], [some 77, some 78, some 79, some 80, some 81, some 82, some 83, some 84], [], [], [], [], [], [], [], [], [some 86, some 87, some 88, some 89, some 90, some 91, some 92, some 93], [], [], [], [], [], [], [], [], [], [], [none, none], [some 98, some 99, none, none, none], [], [some 100, some 101, some 102, some 103, some 104, some 105, some 106, some 107], [], [], [], [], [], [], [], [], [some 109, some 110, some 111, some 112, some 113, some 114, some 115, some 116], [], [], [], [], [], [], [], []]
def am_mr18 : List (List (Option Nat)) := [[some 1, some 2, some 3, some 6, some 9, some 13, some 26, some 28, some 60, some 75, some 96, none, none, none, none], [none, none, none, none, none, none, none, none], [none, none, none, none, none, none, none, none], [some 4, some 5], [], [], [some 7, some 8], [], [], [some 10, some 11, some 12, none], [], [], [], [some 14, some 15, some 16, some 17, some 18, none, none, none], [some 19, some 20, some 21, some 22, some 23, some 24, some 25], [], [], [], [], [none, none, none, none, none, none, none, none], [none, none, none, none, none, none, none, none], [none, none, none, none, none, none, none, none], [none, none, none, none, none, none, none, none], [none, none, none, none, none, none, none, none], [none, none, none, none, none, none, none, none], [none, none, none, none, none, none, none, none], [some 27, none], [], [some 29, some 30, some 26, some 31, none, none, none, none, none, none, none, none, none], [], [], [some 32, some 33, some 42, some 51, none], [], [some 34, some 35, some 36, some 37, some 38, some 39, some 40, some 41], [], [], [], [], [], [], [], [], [some 43, some 44, some 45, some 46, some 47, some 48, some 49, some 50], [], [], [], [], [], [], [], [], [some 52, some 53, some 54, some 55, some 56, some 57, some 58, some 59], [], [], [], [], [], [], [], [], [some 61, some 62, some 63, none, none, none, some 72, some 73, some 74, none, none], [], [], [some 64, some 65, some 66, some 67, some 68, some 69, some 70, some 71], [], [], [], [], [], [], [], [], [], [], [], [some 76, some 85, some 94, some 95, none, none], [some 77, some 78, some 79, some 80, some 81, some 82, some 83, some 84], [], [], [], [], [], [], [], [], [some 86, some 87, some 88, some 89, some 90, some 91, some 92, some 93], [], [], [], [], [], [], [], [], [], [], [none, none], [some 98, some 99, some 108, none, none], [], [some 100, some 101, some 102, some 103, some 104, some 105, some 106, some 107], [], [], [], [], [], [], [], [], [some 109, some 110, some 111, some 112, some 113, some 114, some 115, some 116], [], [], [], [], [], [], [], [], [some 118, some 119, some 120, some 121, some 122, some 123, some 124, some 125], [], [], [], [], [], [], [], []]
def am_mr19 : List (List (Option Nat)) := [[some 1, some 2, some 3, some 6, some 9, some 13, some 26, some 28, some 60, some 75, some 96, some 97, none, none, none], [some 126, some 127, some 128, none, none, none, none, none], [none, none, none, none, none, none, none, none], [some 4, some 5], [], [], [some 7, some 8], [], [], [some 10, some 11, some 12, none], [], [], [], [some 14, some 15, some 16, some 17, some 18, none, none, none], [some 19, some 20, some 21, some 22, some 23, some 24, some 25], [], [], [], [], [none, none, none, none, none, none, none, none], [none, none, none, none, none, none, none, none], [none, none, none, none, none, none, none, none], [none, none, none, none, none, none, none, none], [none, none, none, none, none, none, none, none], [none, none, none, none, none, none, none, none], [none, none, none, none, none, none, none, none], [some 27, none], [], [some 29, some 30, some 26, some 31, none, none, none, none, none, none, none, none, none], [], [], [some 32, some 33, some 42, some 51, none], [], [some 34, some 35, some 36, some 37, some 38, some 39, some 40, some 41], [], [], [], [], [], [], [], [], [some 43, some 44, some 45, some 46, some 47, some 48, some 49, some 50], [], [], [], [], [], [], [], [], [some 52, some 53, some 54, some 55, some 56, some 57, some 58, some 59], [], [], [], [], [], [], [], [], [some 61, some 62, some 63, none, none, none, some 72, some 73, some 74, none, none], [], [], [some 64, some 65, some 66, some 67, some 68, some 69, some 70, some 71], [], [], [], [], [], [], [], [], [], [], [], [some 76, some 85, some 94, some 95, none, none], [some 77, some 78, some 79, some 80, some 81, some 82, some 83, some 84], [], [], [], [], [], [], [], [], [some 86, some 87, some 88, some 89, some 90, some 91, some 92, some 93], [], [], [], [], [], [], [], [], [], [], [none, none], [some 98, some 99, some 108, some 117, none], [], [some 100, some 101, some 102, some 103, some 104, some 105, some 106, some 107], [], [], [], [], [], [], [], [], [some 109, some 110, some 111, some 112, some 113, some 114, some 115, some 116], [], [], [], [], [], [], [], [], [some 118, some 119, some 120, some 121, some 122, some 123, some 124, some 125], [], [], [], [], [], [], [], [], [none, none, none, none, none, none, none, none], [none, none, none, none, none, none, none, none], [none, none, none, none, none, none, none, none]]
def am_mr20 : List (List (Option Nat)) := [[some 1, some 2, some 3, some 6, some 9, some 13, some 26, some 28, some 60, some 75, some 96, some 97, none, none, none], [some 126, some 127, some 128, some 129, some 130, some 131, some 132, none], [none, none, none, none, none, none, none, none], [some 4, some 5], [], [], [some 7, some 8], [], [], [some 10, some 11, some 12, none], [], [], [], [some 14, some 15, some 16, some 17, some 18, none, none, none], [some 19, some 20, some 21, some 22, some 23, some 24, some 25], [], [], [], [], [none, none, none, none, none, none, none, none], [none, none, none, none, none, none, none, none], [none, none, none, none, none, none, none, none], [none, none, none, none, none, none, none, none], [none, none, none, none, none, none, none, none], [none, none, none, none, none, none, none, none], [none, none, none, none, none, none, none, none], [some 27, none], [], [some 29, some 30, some 26, some 31, none, none, none, none, none, none, none, none, none], [], [], [some 32, some 33, some 42, some 51, none], [], [some 34, some 35, some 36, some 37, some 38, some 39, some 40, some 41], [], [], [], [], [], [], [], [], [some 43, some 44, some 45, some 46, some 47, some 48, some 49, some 50], [], [], [], [], [], [], [], [], [some 52, some 53, some 54, some 55, some 56, some 57, some 58, some 59], [], [], [], [], [], [], [], [], [some 61, some 62, some 63, none, none, none, some 72, some 73, some 74, none, none], [], [], [some 64, some 65, some 66, some 67, some 68, some 69, some 70, some 71], [], [], [], [], [], [], [], [], [], [], [], [some 76, some 85, some 94, some 95, none, none], [some 77, some 78, some 79, some 80, some 81, some 82, some 83, some 84], [], [], [], [], [], [], [], [], [some 86, some 87, some 88, some 89, some 90, some 91, some 92, some 93], [], [], [], [], [], [], [], [], [], [], [none, none], [some 98, some 99, some 108, some 117, none], [], [some 100, some 101, some 102, some 103, some 104, some 105, some 106, some 107], [], [], [], [], [], [], [], [], [some 109, some 110, some 111, some 112, some 113, some 114, some 115, some 116], [], [], [], [], [], [], [], [], [some 118, some 119, some 120, some 121, some 122, some 123, some 124, some 125], [], [], [], [], [], [], [], [], [none, none, none, none, none, none, none, none], [none, none, none, none, none, none, none, none], [none, none, none, none, none, none, none, none], [none, none, none, none, none, none, none, none], [none, none, none, none, none, none, none, none], [none, none, none, none, none, none, none, none], [none, none, none, none, none, none, none, none]]
def am_mr21 : List (List (Option Nat)) := [[some 1, some 2, some 3, some 6, some 9, some 13, some 26, some 28, some 60, some 75, some 96, some 97, none, none, none], [some 126, some 127, some 128, some 129, some 130, some 131, some 132, some 133], [none, none, none, none, none, none, none, none], [some 4, some 5], [], [], [some 7, some 8], [], [], [some 10, some 11, some 12, none], [], [], [], [some 14, some 15, some 16, some 17, some 18, none, none, none], [some 19, some 20, some 21, some 22, some 23, some 24, some 25], [], [], [], [], [none, none, none, none, none, none, none, none], [none, none, none, none, none, none, none, none], [none, none, none, none, none, none, none, none], [none, none, none, none, none, none, none, none], [none, none, none, none, none, none, none, none], [none, none, none, none, none, none, none, none], [none, none, none, none, none, none, none, none], [some 27, none], [], [some 29, some 30, some 26, some 31, none, none, none, none, none, none, none, none, none], [], [], [some 32, some 33, some 42, some 51, none], [], [some 34, some 35, some 36, some 37, some 38, some 39, some 40, some 41], [], [], [], [], [], [], [], [], [some 43, some 44, some 45, some 46, some 47, some 48, some 49, some 50], [], [], [], [], [], [], [], [], [some 52, some 53, some 54, some 55, some 56, some 57, some 58, some 59], [], [], [], [], [], [], [], [], [some 61, some 62, some 63, none, none, none, some 72, some 73, some 74, none, none], [], [], [some 64, some 65, some 66, some 67, some 68, some 69, some 70, some 71], [], [], [], [], [], [], [], [], [], [], [], [some 76, some 85, some 94, some 95, none, none], [some 77, some 78, some 79, some 80, some 81, some 82, some 83, some 84], [], [], [], [], [], [], [], [], [some 86, some 87, some 88, some 89, some 90, some 91, some 92, some 93], [], [], [], [], [], [], [], [], [], [], [none, none], [some 98, some 99, some 108, some 117, none], [], [some 100, some 101, some 102, some 103, some 104, some 105, some 106, some 107], [], [], [], [], [], [], [], [], [some 109, some 110, some 111, some 112, some 113, some 114, some 115, some 116], [], [], [], [], [], [], [], [], [some 118, some 119, some 120, some 121, some 122, some 123, some 124, some 125], [], [], [], [], [], [], [], [], [none, none, none, none, none, none, none, none], [none, none, none, none, none, none, none, none], [none, none, none, none, none, none, none, none], [none, none, none, none, none, none, none, none], [none, none, none, none, none, none, none, none], [none, none, none, none, none, none, none, none], [none, none, none, none, none, none, none, none], [none, none, none, none, none, none, none, none], [none, none, none, none, none, none, some 135, some 136, none, none, none, none, none, none, none, none, none, none, none, none, none, none, none, none, none, none, none, none, none, none, none, none, none, none, none, none, none, none, none, none, none, none, none, none, none, none, none, none, none, none, none, none, none, none, none, none, none, none], [], [], []]
def am_mr22 : List (List (Option Nat)) := [[some 1, some 2, some 3, some 6, some 9, some 13, some 26, some 28, some 60, some 75, some 96, some 97, none, none, none], [some 126, some 127, some 128, some 129, some 130, some 131, some 132, some 133], [none, none, none, none, none, none, none, none], [some 4, some 5], [], [], [some 7, some 8], [], [], [some 10, some 11, some 12, none], [], [], [], [some 14, some 15, some 16, some 17, some 18, none, none, none], [some 19, some 20, some 21, some 22, some 23, some 24, some 25], [], [], [], [], [none, none, none, none, none, none, none, none], [none, none, none, none, none, none, none, none], [none, none, none, none, none, none, none, none], [none, none, none, none, none, none, none, none], [none, none, none, none, none, none, none, none], [none, none, none, none, none, none, none, none], [none, none, none, none, none, none, none, none], [some 27, none], [], [some 29, some 30, some 26, some 31, none, none, none, none, none, none, none, none, none], [], [], [some 32, some 33, some 42, some 51, none], [], [some 34, some 35, some 36, some 37, some 38, some 39, some 40, some 41], [], [], [], [], [], [], [], [], [some 43, some 44, some 45, some 46, some 47, some 48, some 49, some 50], [], [], [], [], [], [], [], [], [some 52, some 53, some 54, some 55, some 56, some 57, some 58, some 59], [], [], [], [], [], [], [], [], [some 61, some 62, some 63, none, none, none, some 72, some 73, some 74, none, none], [], [], [some 64, some 65, some 66, some 67, some 68, some 69, some 70, some 71], [], [], [], [], [], [], [], [], [], [], [], [some 76, some 85, some 94, some 95, none, none], [some 77, some 78, some 79, some 80, some 81, some 82, some 83, some 84], [], [], [], [], [], [], [], [], [some 86, some 87, some 88, some 89, some 90, some 91, some 92, some 93], [], [], [], [], [], [], [], [], [], [], [none, none], [some 98, some 99, some 108, some 117, none], [], [some 100, some 101, some 102, some 103, some 104, some 105, some 106, some 107], [], [], [], [], [], [], [], [], [some 109, some 110, some 111, some 112, some 113, some 114, some 115, some 116], [], [], [], [], [], [], [], [], [some 118, some 119, some 120, some 121, some 122, some 123, some 124, some 125], [], [], [], [], [], [], [], [], [none, none, none, none, none, none, none, none], [none, none, none, none, none, none, none, none], [none, none, none, none, none, none, none, none], [none, none, none, none, none, none, none, none], [none, none, none, none, none, none, none, none], [none, none, none, none, none, none, none, none], [none, none, none, none, none, none, none, none], [none, none, none, none, none, none, none, none], [none, none, none, none, none, none, some 135, some 136, some 137, some 138, some 139, some 140, none, none, none, none, none, none, none, none, none, none, none, none, none, none, none, none, none, none, none, none, none, none, none, none, none, none, none, none, none, none, none, none, none, none, none, none, none, none, none, none, none, none, none, none, none, none], [], [], [], [], [], [], []]
def am_mr23 : List (List (Option Nat)) := [[some 1, some 2, some 3, some 6, some 9, some 13, some 26, some 28, some 60, some 75, some 96, some 97, none, none, none], [some 126, some 127, some 128, some 129, some 130, some 131, some 132, some 133], [none, none, none, none, none, none, none, none], [some 4, some 5], [], [], [some 7, some 8], [], [], [some 10, some 11, some 12, none], [], [], [], [some 14, some 15, some 16, some 17, some 18, none, none, none], [some 19, some 20, some 21, some 22, some 23, some 24, some 25], [], [], [], [], [none, none, none, none, none, none, none, none], [none, none, none, none, none, none, none, none], [none, none, none, none, none, none, none, none], [none, none, none, none, none, none, none, none], [none, none, none, none, none, none, none, none], [none, none, none, none, none, none, none, none], [none, none, none, none, none, none, none, none], [some 27, none], [], [some 29, some 30, some 26, some 31, none, none, none, none, none, none, none, none, none], [], [], [some 32, some 33, some 42, some 51, none], [], [some 34, some 35, some 36, some 37, some 38, some 39, some 40, some 41], [], [], [], [], [], [], [], [], [some 43, some 44, some 45, some 46, some 47, some 48, some 49, some 50], [], [], [], [], [], [], [], [], [some 52, some 53, some 54, some 55, some 56, some 57, some 58, some 59], [], [], [], [], [], [], [], [], [some 61, some 62, some 63, none, none, none, some 72, some 73, some 74, none, none], [], [], [some 64, some 65, some 66, some 67, some 68, some 69, some 70, some 71], [], [], [], [], [], [], [], [], [], [], [], [some 76, some 85, some 94, some 95, none, none], [some 77, some 78, some 79, some 80, some 81, some 82, some 83, some 84], [], [], [], [], [], [], [], [], [some 86, some 87, some 88, some 89, some 90, some 91, some 92, some 93], [], [], [], [], [], [], [], [], [], [], [none, none], [some 98, some 99, some 108, some 117, none], [], [some 100, some 101, some 102, some 103, some 104, some 105, some 106, some 107], [], [], [], [], [], [], [], [], [some 109, some 110, some 111, some 112, some 113, some 114, some 115, some 116], [], [], [], [], [], [], [], [], [some 118, some 119, some 120, some 121, some 122, some 123, some 124, some 125], [], [], [], [], [], [], [], [], [none, none, none, none, none, none, none, none], [none, none, none, none, none, none, none, none], [none, none, none, none, none, none, none, none], [none, none, none, none, none, none, none, none], [none, none, none, none, none, none, none, none], [none, none, none, none, none, none, none, none], [none, none, none, none, none, none, none, none], [none, none, none, none, none, none, none, none], [none, none, none, none, none, none, some 135, some 136, some 137, some 138, some 139, some 140, some 141, some 142, none, some 143, some 144, none, none, none, none, none, none, none, none, none, none, none, none, none, none, none, none, none, none, none, none, none, none, none, none, none, none, none, none, none, none, none, none, none, none, none, none, none, none, none, none, none], [], [], [], [], [], [], [], [], [], [], []]
def am_mr24 : List (List (Option Nat)) := [[some 1, some 2, some 3, some 6, some 9, some 13, some 26, some 28, some 60, some 75, some 96, some 97, none, none, none], [some 126, some 127, some 128, some 129, some 130, some 131, some 132, some 133], [none, none, none, none, none, none, none, none], [some 4, some 5], [], [], [some 7, some 8], [], [], [some 10, some 11, some 12, none], [], [], [], [some 14, some 15, some 16, some 17, some 18, none, none, none], [some 19, some 20, some 21, some 22, some 23, some 24, some 25], [], [], [], [], [none, none, none, none, none, none, none, none], [none, none, none, none, none, none, none, none], [none, none, none, none, none, none, none, none], [none, none, none, none, none, none, none, none], [none, none, none, none, none, none, none, none], [none, none, none, none, none, none, none, none], [none, none, none, none, none, none, none, none], [some 27, none], [], [some 29, some 30, some 26, some 31, none, none, none, none, none, none, none, none, none], [], [], [some 32, some 33, some 42, some 51, none], [], [some 34, some 35, some 36, some 37, some 38, some 39, some 40, some 41], [], [], [], [], [], [], [], [], [some 43, some 44, some 45, some 46, some 47, some 48, some 49, some 50], [], [], [], [], [], [], [], [], [some 52, some 53, some 54, some 55, some 56, some 57, some 58, some 59], [], [], [], [], [], [], [], [], [some 61, some 62, some 63, none, none, none, some 72, some 73, some 74, none, none], [], [], [some 64, some 65, some 66, some 67, some 68, some 69, some 70, some 71], [], [], [], [], [], [], [], [], [], [], [], [some 76, some 85, some 94, some 95, none, none], [some 77, some 78, some 79, some 80, some 81, some 82, some 83, some 84], [], [], [], [], [], [], [], [], [some 86, some 87, some 88, some 89, some 90, some 91, some 92, some 93], [], [], [], [], [], [], [], [], [], [], [none, none], [some 98, some 99, some 108, some 117, none], [], [some 100, some 101, some 102, some 103, some 104, some 105, some 106, some 107], [], [], [], [], [], [], [], [], [some 109, some 110, some 111, some 112, some 113, some 114, some 115, some 116], [], [], [], [], [], [], [], [], [some 118, some 119, some 120, some 121, some 122, some 123, some 124, some 125], [], [], [], [], [], [], [], [], [none, none, none, none, none, none, none, none], [none, none, none, none, none, none, none, none], [none, none, none, none, none, none, none, none], [none, none, none, none, none, none, none, none], [none, none, none, none, none, none, none, none], [none, none, none, none, none, none, none, none], [none, none, none, none, none, none, none, none], [none, none, none, none, none, none, none, none], [none, none, none, none, none, none, some 135, some 136, some 137, some 138, some 139, some 140, some 141, some 142, none, some 143, some 144, some 145, some 146, some 147, none, none, none, none, some 148, none, none, none, none, none, none, none, none, none, none, none, none, none, none, none, none, none, none, none, none, none, none, none, none, none, none, none, none, none, none, none, none, none], [], [], [], [], [], [], [], [], [], [], [], [], [], [], []]
def am_mr25 : List (List (Option Nat)) := [[some 1, some 2, some 3, some 6, some 9, some 13, some 26, some 28, some 60, some 75, some 96, some 97, none, none, none], [some 126, some 127, some 128, some 129, some 130, some 131, some 132, some 133], [none, none, none, none, none, none, none, none], [some 4, some 5], [], [], [some 7, some 8], [], [], [some 10, some 11, some 12, none], [], [], [], [some 14, some 15, some 16, some 17, some 18, none, none, none], [some 19, some 20, some 21, some 22, some 23, some 24, some 25], [], [], [], [], [none, none, none, none, none, none, none, none], [none, none, none, none, none, none, none, none], [none, none, none, none, none, none, none, none], [none, none, none, none, none, none, none, none], [none, none, none, none, none, none, none, none], [none, none, none, none, none, none, none, none], [none, none, none, none, none, none, none, none], [some 27, none], [], [some 29, some 30, some 26, some 31, none, none, none, none, none, none, none, none, none], [], [], [some 32, some 33, some 42, some 51, none], [], [some 34, some 35, some 36, some 37, some 38, some 39, some 40, some 41], [], [], [], [], [], [], [], [], [some 43, some 44, some 45, some 46, some 47, some 48, some 49, some 50], [], [], [], [], [], [], [], [], [some 52, some 53, some 54, some 55, some 56, some 57, some 58, some 59], [], [], [], [], [], [], [], [], [some 61, some 62, some 63, none, none, none, some 72, some 73, some 74, none, none], [], [], [some 64, some 65, some 66, some 67, some 68, some 69, some 70, some 71], [], [], [], [], [], [], [], [], [], [], [], [some 76, some 85, some 94, some 95, none, none], [some 77, some 78, some 79, some 80, some 81, some 82, some 83, some 84], [], [], [], [], [], [], [], [], [some 86, some 87, some 88, some 89, some 90, some 91, some 92, some 93], [], [], [], [], [], [], [], [], [], [], [none, none], [some 98, some 99, some 108, some 117, none], [], [some 100, some 101, some 102, some 103, some 104, some 105, some 106, some 107], [], [], [], [], [], [], [], [], [some 109, some 110, some 111, some 112, some 113, some 114, some 115, some 116], [], [], [], [], [], [], [], [], [some 118, some 119, some 120, some 121, some 122, some 123, some 124, some 125], [], [], [], [], [], [], [], [], [none, none, none, none, none, none, none, none], [none, none, none, none, none, none, none, none], [none, none, none, none, none, none, none, none], [none, none, none, none, none, none, none, none], [none, none, none, none, none, none, none, none], [none, none, none, none, none, none, none, none], [none, none, none, none, none, none, none, none], [none, none, none, none, none, none, none, none], [none, none, none, none, none, none, some 135, some 136, some 137, some 138, some 139, some 140, some 141, some 142, none, some 143, some 144, some 145, some 146, some 147, none, none, none, none, some 148, some 149, some 150, some 151, some 152, none, none, none, none, none, none, none, none, none, none, none, none, none, none, none, none, none, none, none, none, none, none, none, none, none, none, none, none, none], [], [], [], [], [], [], [], [], [], [], [], [], [], [], [], [], [], [], []]
def am_mr26 : List (List (Option Nat)) := [[some 1, some 2, some 3, some 6, some 9, some 13, some 26, some 28, some 60, some 75, some 96, some 97, none, none, none], [some 126, some 127, some 128, some 129, some 130, some 131, some 132, some 133], [none, none, none, none, none, none, none, none], [some 4, some 5], [], [], [some 7, some 8], [], [], [some 10, some 11, some 12, none], [], [], [], [some 14, some 15, some 16, some 17, some 18, none, none, none], [some 19, some 20, some 21, some 22, some 23, some 24, some 25], [], [], [], [], [none, none, none, none, none, none, none, none], [none, none, none, none, none, none, none, none], [none, none, none, none, none, none, none, none], [none, none, none, none, none, none, none, none], [none, none, none, none, none, none, none, none], [none, none, none, none, none, none, none, none], [none, none, none, none, none, none, none, none], [some 27, none], [], [some 29, some 30, some 26, some 31, none, none, none, none, none, none, none, none, none], [], [], [some 32, some 33, some 42, some 51, none], [], [some 34, some 35, some 36, some 37, some 38, some 39, some 40, some 41], [], [], [], [], [], [], [], [], [some 43, some 44, some 45, some 46, some 47, some 48, some 49, some 50], [], [], [], [], [], [], [], [], [some 52, some 53, some 54, some 55, some 56, some 57, some 58, some 59], [], [], [], [], [], [], [], [], [some 61, some 62, some 63, none, none, none, some 72, some 73, some 74, none, none], [], [], [some 64, some 65, some 66, some 67, some 68, some 69, some 70, some 71], [], [], [], [], [], [], [], [], [], [], [], [some 76, some 85, some 94, some 95, none, none], [some 77, some 78, some 79, some 80, some 81, some 82, some 83, some 84], [], [], [], [], [], [], [], [], [some 86, some 87, some 88, some 89, some 90, some 91, some 92, some 93], [], [], [], [], [], [], [], [], [], [], [none, none], [some 98, some 99, some 108, some 117, none], [], [some 100, some 101, some 102, some 103, some 104, some 105, some 106, some 107], [], [], [], [], [], [], [], [], [some 109, some 110, some 111, some 112, some 113, some 114, some 115, some 116], [], [], [], [], [], [], [], [], [some 118, some 119, some 120, some 121, some 122, some 123, some 124, some 125], [], [], [], [], [], [], [], [], [none, none, none, none, none, none, none, none], [none, none, none, none, none, none, none, none], [none, none, none, none, none, none, none, none], [none, none, none, none, none, none, none, none], [none, none, none, none, none, none, none, none], [none, none, none, none, none, none, none, none], [none, none, none, none, none, none, none, none], [none, none, none, none, none, none, none, none], [none, none, none, none, none, none, some 135, some 136, some 137, some 138, some 139, some 140, some 141, some 142, none, some 143, some 144, some 145, some 146, some 147, none, none, none, none, some 148, some 149, some 150, some 151, some 152, some 153, none, some 154, some 155, some 156, none, none, none, none, none, none, none, none, none, none, none, none, none, none, none, none, none, none, none, none, none, none, none, none], [], [], [], [], [], [], [], [], [], [], [], [], [], [], [], [], [], [], [], [], [], [], []]
def am_mr27 : List (List (Option Nat)) := [[some 1, some 2, some 3, some 6, some 9, some 13, some 26, some 28, some 60, some 75, some 96, some 97, none, none, none], [some 126, some 127, some 128, some 129, some 130, some 131, some 132, some 133], [none, none, none, none, none, none, none, none], [some 4, some 5], [], [], [some 7, some 8], [], [], [some 10, some 11, some 12, none], [], [], [], [some 14, some 15, some 16, some 17, some 18, none, none, none], [some 19, some 20, some 21, some 22, some 23, some 24, some 25], [], [], [], [], [none, none, none, none, none, none, none, none], [none, none, none, none, none, none, none, none], [none, none, none, none, none, none, none, none], [none, none, none, none, none, none, none, none], [none, none, none, none, none, none, none, none], [none, none, none, none, none, none, none, none], [none, none, none, none, none, none, none, none], [some 27, none], [], [some 29, some 30, some 26, some 31, none, none, none, none, none, none, none, none, none], [], [], [some 32, some 33, some 42, some 51, none], [], [some 34, some 35, some 36, some 37, some 38, some 39, some 40, some 41], [], [], [], [], [], [], [], [], [some 43, some 44, some 45, some 46, some 47, some 48, some 49, some 50], [], [], [], [], [], [], [], [], [some 52, some 53, some 54, some 55, some 56, some 57, some 58, some 59], [], [], [], [], [], [], [], [], [some 61, some 62, some 63, none, none, none, some 72, some 73, some 74, none, none], [], [], [some 64, some 65, some 66, some 67, some 68, some 69, some 70, some 71], [], [], [], [], [], [], [], [], [], [], [], [some 76, some 85, some 94, some 95, none, none], [some 77, some 78, some 79, some 80, some 81, some 82, some 83, some 84], [], [], [], [], [], [], [], [], [some 86, some 87, some 88, some 89, some 90, some 91, some 92, some 93], [], [], [], [], [], [], [], [], [], [], [none, none], [some 98, some 99, some 108, some 117, none], [], [some 100, some 101, some 102, some 103, some 104, some 105, some 106, some 107], [], [], [], [], [], [], [], [], [some 109, some 110, some 111, some 112, some 113, some 114, some 115, some 116], [], [], [], [], [], [], [], [], [some 118, some 119, some 120, some 121, some 122, some 123, some 124, some 125], [], [], [], [], [], [], [], [], [none, none, none, none, none, none, none, none], [none, none, none, none, none, none, none, none], [none, none, none, none, none, none, none, none], [none, none, none, none, none, none, none, none], [none, none, none, none, none, none, none, none], [none, none, none, none, none, none, none, none], [none, none, none, none, none, none, none, none], [none, none, none, none, none, none, none, none], [none, none, none, none, none, none, some 135, some 136, some 137, some 138, some 139, some 140, some 141, some 142, none, some 143, some 144, some 145, some 146, some 147, none, none, none, none, some 148, some 149, some 150, some 151, some 152, some 153, none, some 154, some 155, some 156, some 157, none, none, none, none, none, none, none, none, none, none, none, none, none, none, some 158, some 159, some 160, none, none, none, none, none, none], [], [], [], [], [], [], [], [], [], [], [], [], [], [], [], [], [], [], [], [], [], [], [], [], [], [], []]
def am_mr28 : List (List (Option Nat)) := [[some 1, some 2, some 3, some 6, some 9, some 13, some 26, some 28, some 60, some 75, some 96, some 97, none, none, none], [some 126, some 127, some 128, some 129, some 130, some 131, some 132, some 133], [none, none, none, none, none, none, none, none], [some 4, some 5], [], [], [some 7, some 8], [], [], [some 10, some 11, some 12, none], [], [], [], [some 14, some 15, some 16, some 17, some 18, none, none, none], [some 19, some 20, some 21, some 22, some 23, some 24, some 25], [], [], [], [], [none, none, none, none, none, none, none, none], [none, none, none, none, none, none, none, none], [none, none, none, none, none, none, none, none], [none, none, none, none, none, none, none, none], [none, none, none, none, none, none, none, none], [none, none, none, none, none, none, none, none], [none, none, none, none, none, none, none, none], [some 27, none], [], [some 29, some 30, some 26, some 31, none, none, none, none, none, none, none, none, none], [], [], [some 32, some 33, some 42, some 51, none], [], [some 34, some 35, some 36, some 37, some 38, some 39, some 40, some 41], [], [], [], [], [], [], [], [], [some 43, some 44, some 45, some 46, some 47, some 48, some 49, some 50], [], [], [], [], [], [], [], [], [some 52, some 53, some 54, some 55, some 56, some 57, some 58, some 59], [], [], [], [], [], [], [], [], [some 61, some 62, some 63, none, none, none, some 72, some 73, some 74, none, none], [], [], [some 64, some 65, some 66, some 67, some 68, some 69, some 70, some 71], [], [], [], [], [], [], [], [], [], [], [], [some 76, some 85, some 94, some 95, none, none], [some 77, some 78, some 79, some 80, some 81, some 82, some 83, some 84], [], [], [], [], [], [], [], [], [some 86, some 87, some 88, some 89, some 90, some 91, some 92, some 93], [], [], [], [], [], [], [], [], [], [], [none, none], [some 98, some 99, some 108, some 117, none], [], [some 100, some 101, some 102, some 103, some 104, some 105, some 106, some 107], [], [], [], [], [], [], [], [], [some 109, some 110, some 111, some 112, some 113, some 114, some 115, some 116], [], [], [], [], [], [], [], [], [some 118, some 119, some 120, some 121, some 122, some 123, some 124, some 125], [], [], [], [], [], [], [], [], [none, none, none, none, none, none, none, none], [none, none, none, none, none, none, none, none], [none, none, none, none, none, none, none, none], [none, none, none, none, none, none, none, none], [none, none, none, none, none, none, none, none], [none, none, none, none, none, none, none, none], [none, none, none, none, none, none, none, none], [none, none, none, none, none, none, none, none], [none, none, none, none, none, none, some 135, some 136, some 137, some 138, some 139, some 140, some 141, some 142, none, some 143, some 144, some 145, some 146, some 147, none, none, none, none, some 148, some 149, some 150, some 151, some 152, some 153, none, some 154, some 155, some 156, some 157, none, none, none, none, none, none, none, none, none, none, none, none, none, none, some 158, some 159, some 160, some 161, some 162, some 163, some 164, none, none], [], [], [], [], [], [], [], [], [], [], [], [], [], [], [], [], [], [], [], [], [], [], [], [], [], [], [], [], [], [], []]
def am_mr29 : List (List (Option Nat)) := [[some 1, some 2, some 3, some 6, some 9, some 13, some 26, some 28, some 60, some 75, some 96, some 97, none, none, none], [some 126, some 127, some 128, some 129, some 130, some 131, some 132, some 133], [none, none, none, none, none, none, none, none], [some 4, some 5], [], [], [some 7, some 8], [], [], [some 10, some 11, some 12, none], [], [], [], [some 14, some 15, some 16, some 17, some 18, none, none, none], [some 19, some 20, some 21, some 22, some 23, some 24, some 25], [], [], [], [], [none, none, none, none, none, none, none, none], [none, none, none, none, none, none, none, none], [none, none, none, none, none, none, none, none], [none, none, none, none, none, none, none, none], [none, none, none, none, none, none, none, none], [none, none, none, none, none, none, none, none], [none, none, none, none, none, none, none, none], [some 27, none], [], [some 29, some 30, some 26, some 31, none, none, none, none, none, none, none, none, none], [], [], [some 32, some 33, some 42, some 51, none], [], [some 34, some 35, some 36, some 37, some 38, some 39, some 40, some 41], [], [], [], [], [], [], [], [], [some 43, some 44, some 45, some 46, some 47, some 48, some 49, some 50], [], [], [], [], [], [], [], [], [some 52, some 53, some 54, some 55, some 56, some 57, some 58, some 59], [], [], [], [], [], [], [], [], [some 61, some 62, some 63, none, none, none, some 72, some 73, some 74, none, none], [], [], [some 64, some 65, some 66, some 67, some 68, some 69, some 70, some 71], [], [], [], [], [], [], [], [], [], [], [], [some 76, some 85, some 94, some 95, none, none], [some 77, some 78, some 79, some 80, some 81, some 82, some 83, some 84], [], [], [], [], [], [], [], [], [some 86, some 87, some 88, some 89, some 90, some 91, some 92, some 93], [], [], [], [], [], [], [], [], [], [], [none, none], [some 98, some 99, some 108, some 117, none], [], [some 100, some 101, some 102, some 103, some 104, some 105, some 106, some 107], [], [], [], [], [], [], [], [], [some 109, some 110, some 111, some 112, some 113, some 114, some 115, some 116], [], [], [], [], [], [], [], [], [some 118, some 119, some 120, some 121, some 122, some 123, some 124, some 125], [], [], [], [], [], [], [], [], [none, none, none, none, none, none, none, none], [none, none, none, none, none, none, none, none], [none, none, none, none, none, none, none, none], [none, none, none, none, none, none, none, none], [none, none, none, none, none, none, none, none], [none, none, none, none, none, none, none, none], [none, none, none, none, none, none, none, none], [none, none, none, none, none, none, none, none], [none, none, none, none, none, none, some 135, some 136, some 137, some 138, some 139, some 140, some 141, some 142, none, some 143, some 144, some 145, some 146, some 147, none, none, none, none, some 148, some 149, some 150, some 151, some 152, some 153, none, some 154, some 155, some 156, some 157, none, none, none, none, none, none, none, none, none, none, none, none, none, none, some 158, some 159, some 160, some 161, some 162, some 163, some 164, some 165, some 166], [], [], [], [], [], [], [], [], [], [], [], [], [], [], [], [], [], [], [], [], [], [], [], [], [], [], [], [], [], [], [], []]
abbrev am_mrT : List (List (Option Nat)) := am_mr29
def am_I0 (mi : Nat → Nat → Int32) (ml : Nat → Nat → Int64) : Prop := mi 0 12 = 0 ∧ mi 0 13 = 0 ∧ mi 0 14 = 0 ∧ mi 2 0 = 40 ∧ mi 2 1 = 40 ∧ mi 2 2 = 40 ∧ mi 2 3 = 12 ∧ mi 2 4 = 30 ∧ mi 2 5 = 0 ∧ mi 2 6 = 0 ∧ mi 2 7 = 0 ∧ (∀ k, mi 4 k = 0)
def am_I1 (mi : Nat → Nat → Int32) (ml : Nat → Nat → Int64) : Prop := (∀ k, mi 5 k = 0) ∧ (∀ k, mi 7 k = 0) ∧ (∀ k, mi 8 k = 0) ∧ mi 9 3 = 0 ∧ (∀ k, mi 10 k = 0) ∧ (∀ k, mi 11 k = 0) ∧ (∀ k, mi 12 k = 0) ∧ mi 13 5 = 0 ∧ mi 13 6 = (-1) ∧ mi 13 7 = 0 ∧ (∀ k, mi 15 k = 0) ∧ (∀ k, mi 16 k = 0)
def am_I2 (mi : Nat → Nat → Int32) (ml : Nat → Nat → Int64) : Prop := (∀ k, mi 17 k = 0) ∧ (∀ k, mi 18 k = 0) ∧ mi 19 0 = 40 ∧ mi 19 1 = 40 ∧ mi 19 2 = 40 ∧ mi 19 3 = 12 ∧ mi 19 4 = 30 ∧ mi 19 5 = 0 ∧ mi 19 6 = 0 ∧ mi 19 7 = 0 ∧ mi 20 0 = 40 ∧ mi 20 1 = 40
def am_I3 (mi : Nat → Nat → Int32) (ml : Nat → Nat → Int64) : Prop := mi 20 2 = 40 ∧ mi 20 3 = 12 ∧ mi 20 4 = 30 ∧ mi 20 5 = 0 ∧ mi 20 6 = 0 ∧ mi 20 7 = 0 ∧ mi 21 0 = 40 ∧ mi 21 1 = 40 ∧ mi 21 2 = 40 ∧ mi 21 3 = 12 ∧ mi 21 4 = 30 ∧ mi 21 5 = 0
def am_I4 (mi : Nat → Nat → Int32) (ml : Nat → Nat → Int64) : Prop := mi 21 6 = 0 ∧ mi 21 7 = 0 ∧ mi 22 0 = 40 ∧ mi 22 1 = 40 ∧ mi 22 2 = 40 ∧ mi 22 3 = 12 ∧ mi 22 4 = 30 ∧ mi 22 5 = 0 ∧ mi 22 6 = 0 ∧ mi 22 7 = 0 ∧ mi 23 0 = 40 ∧ mi 23 1 = 40
def am_I5 (mi : Nat → Nat → Int32) (ml : Nat → Nat → Int64) : Prop := mi 23 2 = 40 ∧ mi 23 3 = 12 ∧ mi 23 4 = 30 ∧ mi 23 5 = 0 ∧ mi 23 6 = 0 ∧ mi 23 7 = 0 ∧ mi 24 0 = 40 ∧ mi 24 1 = 40 ∧ mi 24 2 = 40 ∧ mi 24 3 = 12 ∧ mi 24 4 = 30 ∧ mi 24 5 = 0
def am_I6 (mi : Nat → Nat → Int32) (ml : Nat → Nat → Int64) : Prop := mi 24 6 = 0 ∧ mi 24 7 = 0 ∧ mi 25 0 = 40 ∧ mi 25 1 = 40 ∧ mi 25 2 = 40 ∧ mi 25 3 = 12 ∧ mi 25 4 = 30 ∧ mi 25 5 = 0 ∧ mi 25 6 = 0 ∧ mi 25 7 = 0 ∧ mi 26 1 = 0 ∧ (∀ k, mi 27 k = 0)
def am_I7 (mi : Nat → Nat → Int32) (ml : Nat → Nat → Int64) : Prop := mi 28 4 = 0 ∧ mi 28 5 = 0 ∧ mi 28 6 = 0 ∧ mi 28 7 = 0 ∧ mi 28 8 = 0 ∧ mi 28 9 = 0 ∧ mi 28 10 = 0 ∧ mi 28 11 = (-1) ∧ mi 28 12 = (-1) ∧ (∀ k, mi 29 k = 0) ∧ (∀ k, mi 30 k = 0) ∧ mi 31 4 = 0
def am_I8 (mi : Nat → Nat → Int32) (ml : Nat → Nat → Int64) : Prop := (∀ k, mi 32 k = 0) ∧ (∀ k, mi 34 k = 0) ∧ (∀ k, mi 35 k = 0) ∧ (∀ k, mi 36 k = 0) ∧ (∀ k, mi 37 k = 0) ∧ (∀ k, mi 38 k = 0) ∧ (∀ k, mi 39 k = 0) ∧ (∀ k, mi 40 k = 0) ∧ (∀ k, mi 41 k = 0) ∧ (∀ k, mi 43 k = 0) ∧ (∀ k, mi 44 k = 0) ∧ (∀ k, mi 45 k = 0)
def am_I9 (mi : Nat → Nat → Int32) (ml : Nat → Nat → Int64) : Prop := (∀ k, mi 46 k = 0) ∧ (∀ k, mi 47 k = 0) ∧ (∀ k, mi 48 k = 0) ∧ (∀ k, mi 49 k = 0) ∧ (∀ k, mi 50 k = 0) ∧ (∀ k, mi 52 k = 0) ∧ (∀ k, mi 53 k = 0) ∧ (∀ k, mi 54 k = 0) ∧ (∀ k, mi 55 k = 0) ∧ (∀ k, mi 56 k = 0) ∧ (∀ k, mi 57 k = 0) ∧ (∀ k, mi 58 k = 0)
def am_I10 (mi : Nat → Nat → Int32) (ml : Nat → Nat → Int64) : Prop := (∀ k, mi 59 k = 0) ∧ mi 60 3 = 0 ∧ mi 60 4 = 10 ∧ mi 60 5 = 20 ∧ ml 60 9 = (-1) ∧ mi 60 10 = (-1) ∧ (∀ k, mi 61 k = 0) ∧ (∀ k, mi 62 k = 0) ∧ (∀ k, k < 8 → mi 64 k = 50) ∧ (∀ k, k < 8 → mi 65 k = 50) ∧ (∀ k, k < 8 → mi 66 k = 50) ∧ (∀ k, k < 8 → mi 67 k = 50)
def am_I11 (mi : Nat → Nat → Int32) (ml : Nat → Nat → Int64) : Prop := (∀ k, k < 8 → mi 68 k = 50) ∧ (∀ k, k < 8 → mi 69 k = 50) ∧ (∀ k, k < 8 → mi 70 k = 50) ∧ (∀ k, k < 8 → mi 71 k = 50) ∧ (∀ k, mi 72 k = 0) ∧ (∀ k, ml 73 k = 0) ∧ (∀ k, ml 74 k = 0) ∧ ml 75 4 = 0 ∧ ml 75 5 = 0 ∧ (∀ k, mi 77 k = 0) ∧ (∀ k, mi 78 k = 0) ∧ (∀ k, mi 79 k = 0)
def am_I12 (mi : Nat → Nat → Int32) (ml : Nat → Nat → Int64) : Prop := (∀ k, mi 80 k = 0) ∧ (∀ k, mi 81 k = 0) ∧ (∀ k, mi 82 k = 0) ∧ (∀ k, mi 83 k = 0) ∧ (∀ k, mi 84 k = 0) ∧ (∀ k, mi 86 k = 0) ∧ (∀ k, mi 87 k = 0) ∧ (∀ k, mi 88 k = 0) ∧ (∀ k, mi 89 k = 0) ∧ (∀ k, mi 90 k = 0) ∧ (∀ k, mi 91 k = 0) ∧ (∀ k, mi 92 k = 0)
def am_I13 (mi : Nat → Nat → Int32) (ml : Nat → Nat → Int64) : Prop := (∀ k, mi 93 k = 0) ∧ (∀ k, ml 94 k = 0) ∧ (∀ k, ml 95 k = 0) ∧ ml 96 0 = 0 ∧ ml 96 1 = 1 ∧ mi 97 4 = 0 ∧ (∀ k, mi 98 k = 0) ∧ (∀ k, mi 100 k = 0) ∧ (∀ k, mi 101 k = 0) ∧ (∀ k, mi 102 k = 0) ∧ (∀ k, mi 103 k = 0) ∧ (∀ k, mi 104 k = 0)
def am_I14 (mi : Nat → Nat → Int32) (ml : Nat → Nat → Int64) : Prop := (∀ k, mi 105 k = 0) ∧ (∀ k, mi 106 k = 0) ∧ (∀ k, mi 107 k = 0) ∧ (∀ k, mi 109 k = 0) ∧ (∀ k, mi 110 k = 0) ∧ (∀ k, mi 111 k = 0) ∧ (∀ k, mi 112 k = 0) ∧ (∀ k, mi 113 k = 0) ∧ (∀ k, mi 114 k = 0) ∧ (∀ k, mi 115 k = 0) ∧ (∀ k, mi 116 k = 0) ∧ (∀ k, mi 118 k = 0)
def am_I15 (mi : Nat → Nat → Int32) (ml : Nat → Nat → Int64) : Prop := (∀ k, mi 119 k = 0) ∧ (∀ k, mi 120 k = 0) ∧ (∀ k, mi 121 k = 0) ∧ (∀ k, mi 122 k = 0) ∧ (∀ k, mi 123 k = 0) ∧ (∀ k, mi 124 k = 0) ∧ (∀ k, mi 125 k = 0) ∧ mi 126 0 = 40 ∧ mi 126 1 = 40 ∧ mi 126 2 = 40 ∧ mi 126 3 = 12 ∧ mi 126 4 = 30
def am_I16 (mi : Nat → Nat → Int32) (ml : Nat → Nat → Int64) : Prop := mi 126 5 = 0 ∧ mi 126 6 = 0 ∧ mi 126 7 = 0 ∧ mi 127 0 = 40 ∧ mi 127 1 = 40 ∧ mi 127 2 = 40 ∧ mi 127 3 = 12 ∧ mi 127 4 = 30 ∧ mi 127 5 = 0 ∧ mi 127 6 = 0 ∧ mi 127 7 = 0 ∧ mi 128 0 = 40
def am_I17 (mi : Nat → Nat → Int32) (ml : Nat → Nat → Int64) : Prop := mi 128 1 = 40 ∧ mi 128 2 = 40 ∧ mi 128 3 = 12 ∧ mi 128 4 = 30 ∧ mi 128 5 = 0 ∧ mi 128 6 = 0 ∧ mi 128 7 = 0 ∧ mi 129 0 = 40 ∧ mi 129 1 = 40 ∧ mi 129 2 = 40 ∧ mi 129 3 = 12 ∧ mi 129 4 = 30
def am_I18 (mi : Nat → Nat → Int32) (ml : Nat → Nat → Int64) : Prop := mi 129 5 = 0 ∧ mi 129 6 = 0 ∧ mi 129 7 = 0 ∧ mi 130 0 = 40 ∧ mi 130 1 = 40 ∧ mi 130 2 = 40 ∧ mi 130 3 = 12 ∧ mi 130 4 = 30 ∧ mi 130 5 = 0 ∧ mi 130 6 = 0 ∧ mi 130 7 = 0 ∧ mi 131 0 = 40
def am_I19 (mi : Nat → Nat → Int32) (ml : Nat → Nat → Int64) : Prop := mi 131 1 = 40 ∧ mi 131 2 = 40 ∧ mi 131 3 = 12 ∧ mi 131 4 = 30 ∧ mi 131 5 = 0 ∧ mi 131 6 = 0 ∧ mi 131 7 = 0 ∧ mi 132 0 = 40 ∧ mi 132 1 = 40 ∧ mi 132 2 = 40 ∧ mi 132 3 = 12 ∧ mi 132 4 = 30
def am_I20 (mi : Nat → Nat → Int32) (ml : Nat → Nat → Int64) : Prop := mi 132 5 = 0 ∧ mi 132 6 = 0 ∧ mi 132 7 = 0 ∧ mi 133 0 = 40 ∧ mi 133 1 = 40 ∧ mi 133 2 = 40 ∧ mi 133 3 = 12 ∧ mi 133 4 = 30 ∧ mi 133 5 = 0 ∧ mi 133 6 = 0 ∧ mi 133 7 = 0 ∧ mi 134 0 = 0
def am_I21 (mi : Nat → Nat → Int32) (ml : Nat → Nat → Int64) : Prop := mi 134 1 = 0 ∧ ml 134 2 = 0 ∧ ml 134 3 = 1 ∧ mi 134 4 = 0 ∧ mi 134 5 = 0 ∧ mi 134 14 = 0 ∧ mi 134 20 = 0 ∧ mi 134 21 = 0 ∧ mi 134 22 = 10 ∧ mi 134 23 = 20 ∧ mi 134 30 = 0 ∧ mi 134 35 = 0
def am_I22 (mi : Nat → Nat → Int32) (ml : Nat → Nat → Int64) : Prop := mi 134 36 = 0 ∧ mi 134 37 = (-1) ∧ mi 134 38 = (-1) ∧ mi 134 39 = 0 ∧ mi 134 40 = 0 ∧ mi 134 41 = 0 ∧ mi 134 42 = 0 ∧ mi 134 43 = 0 ∧ mi 134 44 = 0 ∧ mi 134 45 = 0 ∧ ml 134 46 = 0 ∧ mi 134 47 = 0
def am_I23 (mi : Nat → Nat → Int32) (ml : Nat → Nat → Int64) : Prop := mi 134 48 = 0 ∧ (∀ k, mi 135 k = 0) ∧ (∀ k, mi 136 k = 0) ∧ (∀ k, mi 137 k = 0) ∧ (∀ k, mi 138 k = 0) ∧ (∀ k, mi 139 k = 0) ∧ (∀ k, mi 140 k = 0) ∧ (∀ k, mi 141 k = 0) ∧ (∀ k, mi 142 k = 0) ∧ (∀ k, mi 143 k = 0) ∧ (∀ k, mi 144 k = 0) ∧ (∀ k, mi 145 k = 0)
def am_I24 (mi : Nat → Nat → Int32) (ml : Nat → Nat → Int64) : Prop := (∀ k, mi 146 k = 0) ∧ (∀ k, mi 147 k = 0) ∧ (∀ k, mi 148 k = 0) ∧ (∀ k, mi 149 k = 0) ∧ (∀ k, mi 150 k = 0) ∧ (∀ k, mi 151 k = 0) ∧ (∀ k, mi 152 k = 0) ∧ (∀ k, mi 153 k = 0) ∧ (∀ k, mi 154 k = 0) ∧ (∀ k, mi 155 k = 0) ∧ (∀ k, mi 156 k = 0) ∧ (∀ k, mi 157 k = 0)
def am_I25 (mi : Nat → Nat → Int32) (ml : Nat → Nat → Int64) : Prop := (∀ k, mi 158 k = 0) ∧ (∀ k, mi 159 k = 0) ∧ (∀ k, mi 160 k = 0) ∧ (∀ k, mi 161 k = 0) ∧ (∀ k, mi 162 k = 0) ∧ (∀ k, mi 163 k = 0) ∧ (∀ k, mi 164 k = 0) ∧ (∀ k, mi 165 k = 0) ∧ (∀ k, ml 166 k = 0)
def am_Init (mi : Nat → Nat → Int32) (ml : Nat → Nat → Int64) : Prop := am_I0 mi ml ∧ am_I1 mi ml ∧ am_I2 mi ml ∧ am_I3 mi ml ∧ am_I4 mi ml ∧ am_I5 mi ml ∧ am_I6 mi ml ∧ am_I7 mi ml ∧ am_I8 mi ml ∧ am_I9 mi ml ∧ am_I10 mi ml ∧ am_I11 mi ml ∧ am_I12 mi ml ∧ am_I13 mi ml ∧ am_I14 mi ml ∧ am_I15 mi ml ∧ am_I16 mi ml ∧ am_I17 mi ml ∧ am_I18 mi ml ∧ am_I19 mi ml ∧ am_I20 mi ml ∧ am_I21 mi ml ∧ am_I22 mi ml ∧ am_I23 mi ml ∧ am_I24 mi ml ∧ am_I25 mi ml
set_option maxRecDepth 100000 in
set_option maxHeartbeats 40000000 in
theorem am_ctor {X : Nat × (Nat → Int32)} {Q : Option Value → am_M → Prop} (hk : ∀ mi ml, am_Init mi ml → am_wp X 30 204 10 [.ref 1000050, .ref 0, .ref 134, .int 0] [] (am_shT, am_mrT, mi, ml) Q) : am_wp X 30 204 0 [.ref 1000050, .retAddr 0, .retAddr 0, .retAddr 0] [] am_M0 Q := by
  unfold am_M0
  refine am_norm (sh' := am_shT.take 0) (mr' := []) rfl rfl ?_
  refine wi_new rfl rfl (q := 0) rfl (n := 15) rfl ?_
  refine wi_dup rfl rfl ?_
  refine wi_callI0 rfl (by decide) (by decide) rfl rfl rfl rfl rfl ?_
  refine wi_aload_n rfl rfl ?_
  refine wi_obj rfl rfl ?_
  refine wi_aload_n rfl rfl ?_
  refine wi_bipush (x := 8) rfl rfl ?_
  refine wi_anewarray rfl ⟨by decide, by decide⟩ (n := 8) rfl (q := 1) rfl ?_
  refine wi_putR rfl ⟨rfl, Nat.le_of_ble_eq_true rfl, Nat.le_of_ble_eq_true rfl⟩ rfl ?_
  refine wi_aload_n rfl rfl ?_
  refine wi_new rfl rfl (q := 2) rfl (n := 8) rfl ?_
  refine wi_dup rfl rfl ?_
  refine wi_callI0 rfl (by decide) (by decide) rfl rfl rfl rfl rfl ?_
  refine wi_aload_n rfl rfl ?_
  refine wi_obj rfl rfl ?_
  refine wi_aload_n rfl rfl ?_
  refine wi_bipush (x := 40) rfl rfl ?_
  refine wi_putI rfl rfl ?_
  refine wi_aload_n rfl rfl ?_
  refine wi_bipush (x := 40) rfl rfl ?_
  refine wi_putI rfl rfl ?_
  refine wi_aload_n rfl rfl ?_
  refine wi_bipush (x := 40) rfl rfl ?_
  refine wi_putI rfl rfl ?_
  refine wi_aload_n rfl rfl ?_
  refine wi_bipush (x := 12) rfl rfl ?_
  refine wi_putI rfl rfl ?_
  refine wi_aload_n rfl rfl ?_
  refine wi_bipush (x := 30) rfl rfl ?_
  refine wi_putI rfl rfl ?_
  refine wi_aload_n rfl rfl ?_
  refine wi_iconst (x := 0) rfl rfl ?_
  refine wi_putI rfl rfl ?_
  refine wi_aload_n rfl rfl ?_
  refine wi_iconst (x := 0) rfl rfl ?_
  refine wi_putI rfl rfl ?_
  refine wi_aload_n rfl rfl ?_
  refine wi_iconst (x := 0) rfl rfl ?_
  refine wi_putI rfl rfl ?_
  refine wi_ret rfl ?_
  refine wi_putR rfl ⟨rfl, Nat.le_of_ble_eq_true rfl, Nat.le_of_ble_eq_true rfl⟩ rfl ?_
  refine wi_aload_n rfl rfl ?_
  refine wi_new rfl rfl (q := 3) rfl (n := 2) rfl ?_
  refine wi_dup rfl rfl ?_
  refine wi_callI0 rfl (by decide) (by decide) rfl rfl rfl rfl rfl ?_
  refine wi_aload_n rfl rfl ?_
  refine wi_obj rfl rfl ?_
  refine wi_aload_n rfl rfl ?_
  refine wi_sipush (x := 1000) rfl rfl ?_
  refine wi_newarray rfl ⟨by decide, by decide, by decide⟩ (t := 100) rfl (n := 1000) rfl (q := 4) rfl ?_
  refine wi_putR rfl ⟨rfl, Nat.le_of_ble_eq_true rfl, Nat.le_of_ble_eq_true rfl⟩ rfl ?_
  refine am_norm (sh' := am_shT.take 5) (mr' := am_mr0) rfl rfl ?_
  refine wi_aload_n rfl rfl ?_
  refine wi_sipush (x := 1000) rfl rfl ?_
  refine wi_newarray rfl ⟨by decide, by decide, by decide⟩ (t := 100) rfl (n := 1000) rfl (q := 5) rfl ?_
  refine wi_putR rfl ⟨rfl, Nat.le_of_ble_eq_true rfl, Nat.le_of_ble_eq_true rfl⟩ rfl ?_
  refine wi_ret rfl ?_
  refine wi_putR rfl ⟨rfl, Nat.le_of_ble_eq_true rfl, Nat.le_of_ble_eq_true rfl⟩ rfl ?_
  refine wi_aload_n rfl rfl ?_
  refine wi_new rfl rfl (q := 6) rfl (n := 2) rfl ?_
  refine wi_dup rfl rfl ?_
  refine wi_callI0 rfl (by decide) (by decide) rfl rfl rfl rfl rfl ?_
  refine wi_aload_n rfl rfl ?_
  refine wi_obj rfl rfl ?_
  refine wi_aload_n rfl rfl ?_
  refine wi_sipush (x := 1000) rfl rfl ?_
  refine wi_newarray rfl ⟨by decide, by decide, by decide⟩ (t := 100) rfl (n := 1000) rfl (q := 7) rfl ?_
  refine wi_putR rfl ⟨rfl, Nat.le_of_ble_eq_true rfl, Nat.le_of_ble_eq_true rfl⟩ rfl ?_
  refine wi_aload_n rfl rfl ?_
  refine wi_sipush (x := 1000) rfl rfl ?_
  refine wi_newarray rfl ⟨by decide, by decide, by decide⟩ (t := 100) rfl (n := 1000) rfl (q := 8) rfl ?_
  refine wi_putR rfl ⟨rfl, Nat.le_of_ble_eq_true rfl, Nat.le_of_ble_eq_true rfl⟩ rfl ?_
  refine am_norm (sh' := am_shT.take 9) (mr' := am_mr1) rfl rfl ?_
  refine wi_ret rfl ?_
  refine wi_putR rfl ⟨rfl, Nat.le_of_ble_eq_true rfl, Nat.le_of_ble_eq_true rfl⟩ rfl ?_
  refine wi_aload_n rfl rfl ?_
  refine wi_new rfl rfl (q := 9) rfl (n := 4) rfl ?_
  refine wi_dup rfl rfl ?_
  refine wi_callI0 rfl (by decide) (by decide) rfl rfl rfl rfl rfl ?_
  refine wi_aload_n rfl rfl ?_
  refine wi_obj rfl rfl ?_
  refine wi_aload_n rfl rfl ?_
  refine wi_sipush (x := 200) rfl rfl ?_
  refine wi_newarray rfl ⟨by decide, by decide, by decide⟩ (t := 100) rfl (n := 200) rfl (q := 10) rfl ?_
  refine wi_putR rfl ⟨rfl, Nat.le_of_ble_eq_true rfl, Nat.le_of_ble_eq_true rfl⟩ rfl ?_
  refine wi_aload_n rfl rfl ?_
  refine wi_sipush (x := 200) rfl rfl ?_
  refine wi_newarray rfl ⟨by decide, by decide, by decide⟩ (t := 100) rfl (n := 200) rfl (q := 11) rfl ?_
  refine wi_putR rfl ⟨rfl, Nat.le_of_ble_eq_true rfl, Nat.le_of_ble_eq_true rfl⟩ rfl ?_
  refine wi_aload_n rfl rfl ?_
  refine wi_sipush (x := 200) rfl rfl ?_
  refine wi_newarray rfl ⟨by decide, by decide, by decide⟩ (t := 100) rfl (n := 200) rfl (q := 12) rfl ?_
  refine wi_putR rfl ⟨rfl, Nat.le_of_ble_eq_true rfl, Nat.le_of_ble_eq_true rfl⟩ rfl ?_
  refine am_norm (sh' := am_shT.take 13) (mr' := am_mr2) rfl rfl ?_
  refine wi_aload_n rfl rfl ?_
  refine wi_iconst (x := 0) rfl rfl ?_
  refine wi_putI rfl rfl ?_
  refine wi_ret rfl ?_
  refine wi_putR rfl ⟨rfl, Nat.le_of_ble_eq_true rfl, Nat.le_of_ble_eq_true rfl⟩ rfl ?_
  refine wi_aload_n rfl rfl ?_
  refine wi_new rfl rfl (q := 13) rfl (n := 8) rfl ?_
  refine wi_dup rfl rfl ?_
  refine wi_callI0 rfl (by decide) (by decide) rfl rfl rfl rfl rfl ?_
  refine wi_aload_n rfl rfl ?_
  refine wi_obj rfl rfl ?_
  refine wi_aload_n rfl rfl ?_
  refine wi_bipush (x := 7) rfl rfl ?_
  refine wi_anewarray rfl ⟨by decide, by decide⟩ (n := 7) rfl (q := 14) rfl ?_
  refine wi_putR rfl ⟨rfl, Nat.le_of_ble_eq_true rfl, Nat.le_of_ble_eq_true rfl⟩ rfl ?_
  refine wi_aload_n rfl rfl ?_
  refine wi_bipush (x := 6) rfl rfl ?_
  refine wi_newarray rfl ⟨by decide, by decide, by decide⟩ (t := 100) rfl (n := 6) rfl (q := 15) rfl ?_
  refine wi_putR rfl ⟨rfl, Nat.le_of_ble_eq_true rfl, Nat.le_of_ble_eq_true rfl⟩ rfl ?_
  refine wi_aload_n rfl rfl ?_
  refine wi_bipush (x := 6) rfl rfl ?_
  refine wi_newarray rfl ⟨by decide, by decide, by decide⟩ (t := 100) rfl (n := 6) rfl (q := 16) rfl ?_
  refine wi_putR rfl ⟨rfl, Nat.le_of_ble_eq_true rfl, Nat.le_of_ble_eq_true rfl⟩ rfl ?_
  refine am_norm (sh' := am_shT.take 17) (mr' := am_mr3) rfl rfl ?_
  refine wi_aload_n rfl rfl ?_
  refine wi_bipush (x := 6) rfl rfl ?_
  refine wi_newarray rfl ⟨by decide, by decide, by decide⟩ (t := 100) rfl (n := 6) rfl (q := 17) rfl ?_
  refine wi_putR rfl ⟨rfl, Nat.le_of_ble_eq_true rfl, Nat.le_of_ble_eq_true rfl⟩ rfl ?_
  refine wi_aload_n rfl rfl ?_
  refine wi_bipush (x := 6) rfl rfl ?_
  refine wi_newarray rfl ⟨by decide, by decide, by decide⟩ (t := 100) rfl (n := 6) rfl (q := 18) rfl ?_
  refine wi_putR rfl ⟨rfl, Nat.le_of_ble_eq_true rfl, Nat.le_of_ble_eq_true rfl⟩ rfl ?_
  refine wi_aload_n rfl rfl ?_
  refine wi_iconst (x := 0) rfl rfl ?_
  refine wi_putI rfl rfl ?_
  refine wi_aload_n rfl rfl ?_
  refine wi_iconst (x := (-1)) rfl rfl ?_
  refine wi_putI rfl rfl ?_
  refine wi_aload_n rfl rfl ?_
  refine wi_iconst (x := 0) rfl rfl ?_
  refine wi_putI rfl rfl ?_
  refine wi_iconst (x := 0) rfl rfl ?_
  refine wi_istore_n rfl (Nat.le_of_ble_eq_true rfl) rfl rfl ?_
  refine wi_iload_n rfl rfl ?_
  refine wi_bipush (x := 6) rfl rfl ?_
  refine wi_brF rfl rfl ?_
  refine wi_aload_n rfl rfl ?_
  refine wi_getR rfl rfl rfl ?_
  refine wi_iload_n rfl rfl ?_
  refine wi_new rfl rfl (q := 19) rfl (n := 8) rfl ?_
  refine wi_dup rfl rfl ?_
  refine wi_callI0 rfl (by decide) (by decide) rfl rfl rfl rfl rfl ?_
  refine wi_aload_n rfl rfl ?_
  refine wi_obj rfl rfl ?_
  refine wi_aload_n rfl rfl ?_
  refine wi_bipush (x := 40) rfl rfl ?_
  refine wi_putI rfl rfl ?_
  refine wi_aload_n rfl rfl ?_
  refine wi_bipush (x := 40) rfl rfl ?_
  refine wi_putI rfl rfl ?_
  refine wi_aload_n rfl rfl ?_
  refine wi_bipush (x := 40) rfl rfl ?_
  refine wi_putI rfl rfl ?_
  refine wi_aload_n rfl rfl ?_
  refine wi_bipush (x := 12) rfl rfl ?_
  refine wi_putI rfl rfl ?_
  refine wi_aload_n rfl rfl ?_
  refine wi_bipush (x := 30) rfl rfl ?_
  refine wi_putI rfl rfl ?_
  refine wi_aload_n rfl rfl ?_
  refine wi_iconst (x := 0) rfl rfl ?_
  refine wi_putI rfl rfl ?_
  refine wi_aload_n rfl rfl ?_
  refine wi_iconst (x := 0) rfl rfl ?_
  refine wi_putI rfl rfl ?_
  refine wi_aload_n rfl rfl ?_
  refine wi_iconst (x := 0) rfl rfl ?_
  refine wi_putI rfl rfl ?_
  refine wi_ret rfl ?_
  refine wi_aastore rfl rfl rfl (q := 0) rfl ⟨rfl, by decide, by decide⟩ ?_
  refine wi_iinc (z := 1) rfl rfl rfl rfl rfl ?_
  refine wi_goto rfl ?_
  refine wi_iload_n rfl rfl ?_
  refine wi_bipush (x := 6) rfl rfl ?_
  refine wi_brF rfl rfl ?_
  refine wi_aload_n rfl rfl ?_
  refine wi_getR rfl rfl rfl ?_
  refine wi_iload_n rfl rfl ?_
  refine wi_new rfl rfl (q := 20) rfl (n := 8) rfl ?_
  refine wi_dup rfl rfl ?_
  refine wi_callI0 rfl (by decide) (by decide) rfl rfl rfl rfl rfl ?_
  refine wi_aload_n rfl rfl ?_
  refine wi_obj rfl rfl ?_
  refine wi_aload_n rfl rfl ?_
  refine wi_bipush (x := 40) rfl rfl ?_
  refine wi_putI rfl rfl ?_
  refine wi_aload_n rfl rfl ?_
  refine wi_bipush (x := 40) rfl rfl ?_
  refine wi_putI rfl rfl ?_
  refine wi_aload_n rfl rfl ?_
  refine wi_bipush (x := 40) rfl rfl ?_
  refine wi_putI rfl rfl ?_
  refine wi_aload_n rfl rfl ?_
  refine wi_bipush (x := 12) rfl rfl ?_
  refine wi_putI rfl rfl ?_
  refine wi_aload_n rfl rfl ?_
  refine wi_bipush (x := 30) rfl rfl ?_
  refine wi_putI rfl rfl ?_
  refine wi_aload_n rfl rfl ?_
  refine wi_iconst (x := 0) rfl rfl ?_
  refine wi_putI rfl rfl ?_
  refine wi_aload_n rfl rfl ?_
  refine wi_iconst (x := 0) rfl rfl ?_
  refine wi_putI rfl rfl ?_
  refine wi_aload_n rfl rfl ?_
  refine wi_iconst (x := 0) rfl rfl ?_
  refine wi_putI rfl rfl ?_
  refine wi_ret rfl ?_
  refine wi_aastore rfl rfl rfl (q := 1) rfl ⟨rfl, by decide, by decide⟩ ?_
  refine am_norm (sh' := am_shT.take 21) (mr' := am_mr4) rfl rfl ?_
  refine wi_iinc (z := 2) rfl rfl rfl rfl rfl ?_
  refine wi_goto rfl ?_
  refine wi_iload_n rfl rfl ?_
  refine wi_bipush (x := 6) rfl rfl ?_
  refine wi_brF rfl rfl ?_
  refine wi_aload_n rfl rfl ?_
  refine wi_getR rfl rfl rfl ?_
  refine wi_iload_n rfl rfl ?_
  refine wi_new rfl rfl (q := 21) rfl (n := 8) rfl ?_
  refine wi_dup rfl rfl ?_
  refine wi_callI0 rfl (by decide) (by decide) rfl rfl rfl rfl rfl ?_
  refine wi_aload_n rfl rfl ?_
  refine wi_obj rfl rfl ?_
  refine wi_aload_n rfl rfl ?_
  refine wi_bipush (x := 40) rfl rfl ?_
  refine wi_putI rfl rfl ?_
  refine wi_aload_n rfl rfl ?_
  refine wi_bipush (x := 40) rfl rfl ?_
  refine wi_putI rfl rfl ?_
  refine wi_aload_n rfl rfl ?_
  refine wi_bipush (x := 40) rfl rfl ?_
  refine wi_putI rfl rfl ?_
  refine wi_aload_n rfl rfl ?_
  refine wi_bipush (x := 12) rfl rfl ?_
  refine wi_putI rfl rfl ?_
  refine wi_aload_n rfl rfl ?_
  refine wi_bipush (x := 30) rfl rfl ?_
  refine wi_putI rfl rfl ?_
  refine wi_aload_n rfl rfl ?_
  refine wi_iconst (x := 0) rfl rfl ?_
  refine wi_putI rfl rfl ?_
  refine wi_aload_n rfl rfl ?_
  refine wi_iconst (x := 0) rfl rfl ?_
  refine wi_putI rfl rfl ?_
  refine wi_aload_n rfl rfl ?_
  refine wi_iconst (x := 0) rfl rfl ?_
  refine wi_putI rfl rfl ?_
  refine wi_ret rfl ?_
  refine wi_aastore rfl rfl rfl (q := 2) rfl ⟨rfl, by decide, by decide⟩ ?_
  refine wi_iinc (z := 3) rfl rfl rfl rfl rfl ?_
  refine wi_goto rfl ?_
  refine wi_iload_n rfl rfl ?_
  refine wi_bipush (x := 6) rfl rfl ?_
  refine wi_brF rfl rfl ?_
  refine wi_aload_n rfl rfl ?_
  refine wi_getR rfl rfl rfl ?_
  refine wi_iload_n rfl rfl ?_
  refine wi_new rfl rfl (q := 22) rfl (n := 8) rfl ?_
  refine wi_dup rfl rfl ?_
  refine wi_callI0 rfl (by decide) (by decide) rfl rfl rfl rfl rfl ?_
  refine wi_aload_n rfl rfl ?_
  refine wi_obj rfl rfl ?_
  refine wi_aload_n rfl rfl ?_
  refine wi_bipush (x := 40) rfl rfl ?_
  refine wi_putI rfl rfl ?_
  refine wi_aload_n rfl rfl ?_
  refine wi_bipush (x := 40) rfl rfl ?_
  refine wi_putI rfl rfl ?_
  refine wi_aload_n rfl rfl ?_
  refine wi_bipush (x := 40) rfl rfl ?_
  refine wi_putI rfl rfl ?_
  refine wi_aload_n rfl rfl ?_
  refine wi_bipush (x := 12) rfl rfl ?_
  refine wi_putI rfl rfl ?_
  refine wi_aload_n rfl rfl ?_
  refine wi_bipush (x := 30) rfl rfl ?_
  refine wi_putI rfl rfl ?_
  refine wi_aload_n rfl rfl ?_
  refine wi_iconst (x := 0) rfl rfl ?_
  refine wi_putI rfl rfl ?_
  refine wi_aload_n rfl rfl ?_
  refine wi_iconst (x := 0) rfl rfl ?_
  refine wi_putI rfl rfl ?_
  refine wi_aload_n rfl rfl ?_
  refine wi_iconst (x := 0) rfl rfl ?_
  refine wi_putI rfl rfl ?_
  refine wi_ret rfl ?_
  refine wi_aastore rfl rfl rfl (q := 3) rfl ⟨rfl, by decide, by decide⟩ ?_
  refine wi_iinc (z := 4) rfl rfl rfl rfl rfl ?_
  refine wi_goto rfl ?_
  refine wi_iload_n rfl rfl ?_
  refine wi_bipush (x := 6) rfl rfl ?_
  refine wi_brF rfl rfl ?_
  refine wi_aload_n rfl rfl ?_
  refine wi_getR rfl rfl rfl ?_
  refine wi_iload_n rfl rfl ?_
  refine wi_new rfl rfl (q := 23) rfl (n := 8) rfl ?_
  refine wi_dup rfl rfl ?_
  refine wi_callI0 rfl (by decide) (by decide) rfl rfl rfl rfl rfl ?_
  refine wi_aload_n rfl rfl ?_
  refine wi_obj rfl rfl ?_
  refine wi_aload_n rfl rfl ?_
  refine wi_bipush (x := 40) rfl rfl ?_
  refine wi_putI rfl rfl ?_
  refine wi_aload_n rfl rfl ?_
  refine wi_bipush (x := 40) rfl rfl ?_
  refine wi_putI rfl rfl ?_
  refine wi_aload_n rfl rfl ?_
  refine wi_bipush (x := 40) rfl rfl ?_
  refine wi_putI rfl rfl ?_
  refine wi_aload_n rfl rfl ?_
  refine wi_bipush (x := 12) rfl rfl ?_
  refine wi_putI rfl rfl ?_
  refine wi_aload_n rfl rfl ?_
  refine wi_bipush (x := 30) rfl rfl ?_
  refine wi_putI rfl rfl ?_
  refine wi_aload_n rfl rfl ?_
  refine wi_iconst (x := 0) rfl rfl ?_
  refine wi_putI rfl rfl ?_
  refine wi_aload_n rfl rfl ?_
  refine wi_iconst (x := 0) rfl rfl ?_
  refine wi_putI rfl rfl ?_
  refine wi_aload_n rfl rfl ?_
  refine wi_iconst (x := 0) rfl rfl ?_
  refine wi_putI rfl rfl ?_
  refine wi_ret rfl ?_
  refine wi_aastore rfl rfl rfl (q := 4) rfl ⟨rfl, by decide, by decide⟩ ?_
  refine wi_iinc (z := 5) rfl rfl rfl rfl rfl ?_
  refine wi_goto rfl ?_
  refine wi_iload_n rfl rfl ?_
  refine wi_bipush (x := 6) rfl rfl ?_
  refine wi_brF rfl rfl ?_
  refine wi_aload_n rfl rfl ?_
  refine wi_getR rfl rfl rfl ?_
  refine wi_iload_n rfl rfl ?_
  refine wi_new rfl rfl (q := 24) rfl (n := 8) rfl ?_
  refine wi_dup rfl rfl ?_
  refine wi_callI0 rfl (by decide) (by decide) rfl rfl rfl rfl rfl ?_
  refine wi_aload_n rfl rfl ?_
  refine wi_obj rfl rfl ?_
  refine wi_aload_n rfl rfl ?_
  refine wi_bipush (x := 40) rfl rfl ?_
  refine wi_putI rfl rfl ?_
  refine wi_aload_n rfl rfl ?_
  refine wi_bipush (x := 40) rfl rfl ?_
  refine wi_putI rfl rfl ?_
  refine wi_aload_n rfl rfl ?_
  refine wi_bipush (x := 40) rfl rfl ?_
  refine wi_putI rfl rfl ?_
  refine wi_aload_n rfl rfl ?_
  refine wi_bipush (x := 12) rfl rfl ?_
  refine wi_putI rfl rfl ?_
  refine wi_aload_n rfl rfl ?_
  refine wi_bipush (x := 30) rfl rfl ?_
  refine wi_putI rfl rfl ?_
  refine wi_aload_n rfl rfl ?_
  refine wi_iconst (x := 0) rfl rfl ?_
  refine wi_putI rfl rfl ?_
  refine wi_aload_n rfl rfl ?_
  refine wi_iconst (x := 0) rfl rfl ?_
  refine wi_putI rfl rfl ?_
  refine wi_aload_n rfl rfl ?_
  refine wi_iconst (x := 0) rfl rfl ?_
  refine wi_putI rfl rfl ?_
  refine wi_ret rfl ?_
  refine wi_aastore rfl rfl rfl (q := 5) rfl ⟨rfl, by decide, by decide⟩ ?_
  refine am_norm (sh' := am_shT.take 25) (mr' := am_mr5) rfl rfl ?_
  refine wi_iinc (z := 6) rfl rfl rfl rfl rfl ?_
  refine wi_goto rfl ?_
  refine wi_iload_n rfl rfl ?_
  refine wi_bipush (x := 6) rfl rfl ?_
  refine wi_brF rfl rfl ?_
  refine wi_aload_n rfl rfl ?_
  refine wi_getR rfl rfl rfl ?_
  refine wi_iload_n rfl rfl ?_
  refine wi_new rfl rfl (q := 25) rfl (n := 8) rfl ?_
  refine wi_dup rfl rfl ?_
  refine wi_callI0 rfl (by decide) (by decide) rfl rfl rfl rfl rfl ?_
  refine wi_aload_n rfl rfl ?_
  refine wi_obj rfl rfl ?_
  refine wi_aload_n rfl rfl ?_
  refine wi_bipush (x := 40) rfl rfl ?_
  refine wi_putI rfl rfl ?_
  refine wi_aload_n rfl rfl ?_
  refine wi_bipush (x := 40) rfl rfl ?_
  refine wi_putI rfl rfl ?_
  refine wi_aload_n rfl rfl ?_
  refine wi_bipush (x := 40) rfl rfl ?_
  refine wi_putI rfl rfl ?_
  refine wi_aload_n rfl rfl ?_
  refine wi_bipush (x := 12) rfl rfl ?_
  refine wi_putI rfl rfl ?_
  refine wi_aload_n rfl rfl ?_
  refine wi_bipush (x := 30) rfl rfl ?_
  refine wi_putI rfl rfl ?_
  refine wi_aload_n rfl rfl ?_
  refine wi_iconst (x := 0) rfl rfl ?_
  refine wi_putI rfl rfl ?_
  refine wi_aload_n rfl rfl ?_
  refine wi_iconst (x := 0) rfl rfl ?_
  refine wi_putI rfl rfl ?_
  refine wi_aload_n rfl rfl ?_
  refine wi_iconst (x := 0) rfl rfl ?_
  refine wi_putI rfl rfl ?_
  refine wi_ret rfl ?_
  refine wi_aastore rfl rfl rfl (q := 6) rfl ⟨rfl, by decide, by decide⟩ ?_
  refine wi_iinc (z := 7) rfl rfl rfl rfl rfl ?_
  refine wi_goto rfl ?_
  refine wi_iload_n rfl rfl ?_
  refine wi_bipush (x := 6) rfl rfl ?_
  refine wi_brT rfl rfl ?_
  refine wi_ret rfl ?_
  refine wi_putR rfl ⟨rfl, Nat.le_of_ble_eq_true rfl, Nat.le_of_ble_eq_true rfl⟩ rfl ?_
  refine wi_aload_n rfl rfl ?_
  refine wi_new rfl rfl (q := 26) rfl (n := 2) rfl ?_
  refine wi_dup rfl rfl ?_
  refine wi_callI0 rfl (by decide) (by decide) rfl rfl rfl rfl rfl ?_
  refine wi_aload_n rfl rfl ?_
  refine wi_obj rfl rfl ?_
  refine wi_aload_n rfl rfl ?_
  refine wi_sipush (x := 400) rfl rfl ?_
  refine wi_newarray rfl ⟨by decide, by decide, by decide⟩ (t := 100) rfl (n := 400) rfl (q := 27) rfl ?_
  refine wi_putR rfl ⟨rfl, Nat.le_of_ble_eq_true rfl, Nat.le_of_ble_eq_true rfl⟩ rfl ?_
  refine wi_aload_n rfl rfl ?_
  refine wi_iconst (x := 0) rfl rfl ?_
  refine wi_putI rfl rfl ?_
  refine wi_ret rfl ?_
  refine wi_putR rfl ⟨rfl, Nat.le_of_ble_eq_true rfl, Nat.le_of_ble_eq_true rfl⟩ rfl ?_
  refine wi_aload_n rfl rfl ?_
  refine wi_new rfl rfl (q := 28) rfl (n := 13) rfl ?_
  refine am_norm (sh' := am_shT.take 29) (mr' := am_mr6) rfl rfl ?_
  refine wi_dup rfl rfl ?_
  refine wi_aload_n rfl rfl ?_
  refine wi_getR rfl rfl rfl ?_
  refine wi_callI1 rfl (by decide) (by decide) rfl rfl rfl rfl rfl ?_
  refine wi_aload_n rfl rfl ?_
  refine wi_obj rfl rfl ?_
  refine wi_aload_n rfl rfl ?_
  refine wi_bipush (x := 8) rfl rfl ?_
  refine wi_newarray rfl ⟨by decide, by decide, by decide⟩ (t := 100) rfl (n := 8) rfl (q := 29) rfl ?_
  refine wi_putR rfl ⟨rfl, Nat.le_of_ble_eq_true rfl, Nat.le_of_ble_eq_true rfl⟩ rfl ?_
  refine wi_aload_n rfl rfl ?_
  refine wi_bipush (x := 8) rfl rfl ?_
  refine wi_newarray rfl ⟨by decide, by decide, by decide⟩ (t := 100) rfl (n := 8) rfl (q := 30) rfl ?_
  refine wi_putR rfl ⟨rfl, Nat.le_of_ble_eq_true rfl, Nat.le_of_ble_eq_true rfl⟩ rfl ?_
  refine wi_aload_n rfl rfl ?_
  refine wi_new rfl rfl (q := 31) rfl (n := 5) rfl ?_
  refine wi_dup rfl rfl ?_
  refine wi_callI0 rfl (by decide) (by decide) rfl rfl rfl rfl rfl ?_
  refine wi_aload_n rfl rfl ?_
  refine wi_obj rfl rfl ?_
  refine wi_aload_n rfl rfl ?_
  refine wi_bipush (x := 8) rfl rfl ?_
  refine wi_newarray rfl ⟨by decide, by decide, by decide⟩ (t := 100) rfl (n := 8) rfl (q := 32) rfl ?_
  refine wi_putR rfl ⟨rfl, Nat.le_of_ble_eq_true rfl, Nat.le_of_ble_eq_true rfl⟩ rfl ?_
  refine wi_aload_n rfl rfl ?_
  refine wi_bipush (x := 8) rfl rfl ?_
  refine wi_bipush (x := 6) rfl rfl ?_
  refine wi_mna rfl ⟨by decide, by decide, by decide, by decide⟩ (n := 8) rfl (m := 6) rfl (q := 33) rfl ?_
  refine am_norm (sh' := am_shT.take 42) (mr' := am_mr7) rfl rfl ?_
  refine wi_putR rfl ⟨rfl, Nat.le_of_ble_eq_true rfl, Nat.le_of_ble_eq_true rfl⟩ rfl ?_
  refine wi_aload_n rfl rfl ?_
  refine wi_bipush (x := 8) rfl rfl ?_
  refine wi_bipush (x := 6) rfl rfl ?_
  refine wi_mna rfl ⟨by decide, by decide, by decide, by decide⟩ (n := 8) rfl (m := 6) rfl (q := 42) rfl ?_
  refine am_norm (sh' := am_shT.take 51) (mr' := am_mr8) rfl rfl ?_
  refine wi_putR rfl ⟨rfl, Nat.le_of_ble_eq_true rfl, Nat.le_of_ble_eq_true rfl⟩ rfl ?_
  refine wi_aload_n rfl rfl ?_
  refine wi_bipush (x := 8) rfl rfl ?_
  refine wi_bipush (x := 6) rfl rfl ?_
  refine wi_mna rfl ⟨by decide, by decide, by decide, by decide⟩ (n := 8) rfl (m := 6) rfl (q := 51) rfl ?_
  refine am_norm (sh' := am_shT.take 60) (mr' := am_mr9) rfl rfl ?_
  refine wi_putR rfl ⟨rfl, Nat.le_of_ble_eq_true rfl, Nat.le_of_ble_eq_true rfl⟩ rfl ?_
  refine wi_aload_n rfl rfl ?_
  refine wi_iconst (x := 0) rfl rfl ?_
  refine wi_putI rfl rfl ?_
  refine wi_ret rfl ?_
  refine wi_putR rfl ⟨rfl, Nat.le_of_ble_eq_true rfl, Nat.le_of_ble_eq_true rfl⟩ rfl ?_
  refine wi_aload_n rfl rfl ?_
  refine wi_iconst (x := 0) rfl rfl ?_
  refine wi_putI rfl rfl ?_
  refine wi_aload_n rfl rfl ?_
  refine wi_iconst (x := 0) rfl rfl ?_
  refine wi_putI rfl rfl ?_
  refine wi_aload_n rfl rfl ?_
  refine wi_iconst (x := 0) rfl rfl ?_
  refine wi_putI rfl rfl ?_
  refine wi_aload_n rfl rfl ?_
  refine wi_iconst (x := 0) rfl rfl ?_
  refine wi_putI rfl rfl ?_
  refine wi_aload_n rfl rfl ?_
  refine wi_iconst (x := 0) rfl rfl ?_
  refine wi_putI rfl rfl ?_
  refine wi_aload_n rfl rfl ?_
  refine wi_iconst (x := 0) rfl rfl ?_
  refine wi_putI rfl rfl ?_
  refine wi_aload_n rfl rfl ?_
  refine wi_iconst (x := 0) rfl rfl ?_
  refine wi_putI rfl rfl ?_
  refine wi_aload_n rfl rfl ?_
  refine wi_iconst (x := (-1)) rfl rfl ?_
  refine wi_putI rfl rfl ?_
  refine wi_aload_n rfl rfl ?_
  refine wi_iconst (x := (-1)) rfl rfl ?_
  refine wi_putI rfl rfl ?_
  refine wi_aload_n rfl rfl ?_
  refine wi_aload_n rfl rfl ?_
  refine wi_putR rfl ⟨rfl, Nat.le_of_ble_eq_true rfl, Nat.le_of_ble_eq_true rfl⟩ rfl ?_
  refine wi_ret rfl ?_
  refine wi_putR rfl ⟨rfl, Nat.le_of_ble_eq_true rfl, Nat.le_of_ble_eq_true rfl⟩ rfl ?_
  refine wi_aload_n rfl rfl ?_
  refine wi_new rfl rfl (q := 60) rfl (n := 11) rfl ?_
  refine wi_dup rfl rfl ?_
  refine wi_callI0 rfl (by decide) (by decide) rfl rfl rfl rfl rfl ?_
  refine wi_aload_n rfl rfl ?_
  refine wi_obj rfl rfl ?_
  refine wi_aload_n rfl rfl ?_
  refine wi_bipush (x := 8) rfl rfl ?_
  refine wi_newarray rfl ⟨by decide, by decide, by decide⟩ (t := 100) rfl (n := 8) rfl (q := 61) rfl ?_
  refine wi_putR rfl ⟨rfl, Nat.le_of_ble_eq_true rfl, Nat.le_of_ble_eq_true rfl⟩ rfl ?_
  refine wi_aload_n rfl rfl ?_
  refine wi_bipush (x := 8) rfl rfl ?_
  refine wi_newarray rfl ⟨by decide, by decide, by decide⟩ (t := 100) rfl (n := 8) rfl (q := 62) rfl ?_
  refine am_norm (sh' := am_shT.take 63) (mr' := am_mr10) rfl rfl ?_
  refine wi_putR rfl ⟨rfl, Nat.le_of_ble_eq_true rfl, Nat.le_of_ble_eq_true rfl⟩ rfl ?_
  refine wi_aload_n rfl rfl ?_
  refine wi_bipush (x := 8) rfl rfl ?_
  refine wi_bipush (x := 8) rfl rfl ?_
  refine wi_mna rfl ⟨by decide, by decide, by decide, by decide⟩ (n := 8) rfl (m := 8) rfl (q := 63) rfl ?_
  refine am_norm (sh' := am_shT.take 72) (mr' := am_mr11) rfl rfl ?_
  refine wi_putR rfl ⟨rfl, Nat.le_of_ble_eq_true rfl, Nat.le_of_ble_eq_true rfl⟩ rfl ?_
  refine wi_aload_n rfl rfl ?_
  refine wi_iconst (x := 0) rfl rfl ?_
  refine wi_putI rfl rfl ?_
  refine wi_aload_n rfl rfl ?_
  refine wi_bipush (x := 10) rfl rfl ?_
  refine wi_putI rfl rfl ?_
  refine wi_aload_n rfl rfl ?_
  refine wi_bipush (x := 20) rfl rfl ?_
  refine wi_putI rfl rfl ?_
  refine wi_aload_n rfl rfl ?_
  refine wi_sipush (x := 256) rfl rfl ?_
  refine wi_newarray rfl ⟨by decide, by decide, by decide⟩ (t := 102) rfl (n := 256) rfl (q := 72) rfl ?_
  refine wi_putR rfl ⟨rfl, Nat.le_of_ble_eq_true rfl, Nat.le_of_ble_eq_true rfl⟩ rfl ?_
  refine wi_aload_n rfl rfl ?_
  refine wi_sipush (x := 256) rfl rfl ?_
  refine wi_newarray rfl ⟨by decide, by decide, by decide⟩ (t := 103) rfl (n := 256) rfl (q := 73) rfl ?_
  refine wi_putR rfl ⟨rfl, Nat.le_of_ble_eq_true rfl, Nat.le_of_ble_eq_true rfl⟩ rfl ?_
  refine wi_aload_n rfl rfl ?_
  refine wi_sipush (x := 256) rfl rfl ?_
  refine wi_newarray rfl ⟨by decide, by decide, by decide⟩ (t := 103) rfl (n := 256) rfl (q := 74) rfl ?_
  refine wi_putR rfl ⟨rfl, Nat.le_of_ble_eq_true rfl, Nat.le_of_ble_eq_true rfl⟩ rfl ?_
  refine wi_aload_n rfl rfl ?_
  refine wi_ldc2_w (lx := (-1)) rfl rfl ?_
  refine wi_putL rfl rfl ?_
  refine wi_aload_n rfl rfl ?_
  refine wi_iconst (x := (-1)) rfl rfl ?_
  refine wi_putI rfl rfl ?_
  refine wi_iconst (x := 0) rfl rfl ?_
  refine wi_istore_n rfl (Nat.le_of_ble_eq_true rfl) rfl rfl ?_
  refine wi_iload_n rfl rfl ?_
  refine wi_bipush (x := 8) rfl rfl ?_
  refine wi_brF rfl rfl ?_
  refine wi_iconst (x := 0) rfl rfl ?_
  refine wi_istore_n rfl (Nat.le_of_ble_eq_true rfl) rfl rfl ?_
  refine wi_iload_n rfl rfl ?_
  refine wi_bipush (x := 8) rfl rfl ?_
  refine wi_brF rfl rfl ?_
  refine wi_aload_n rfl rfl ?_
  refine wi_getR rfl rfl rfl ?_
  refine wi_iload_n rfl rfl ?_
  refine wi_aaload rfl (Or.inr rfl) rfl (q := 0) rfl rfl ?_
  refine wi_iload_n rfl rfl ?_
  refine wi_bipush (x := 50) rfl rfl ?_
  refine wi_iastore rfl rfl rfl (q := 0) rfl ?_
  refine wi_iinc (z := 1) rfl rfl rfl rfl rfl ?_
  refine wi_goto rfl ?_
  refine wi_iload_n rfl rfl ?_
  refine wi_bipush (x := 8) rfl rfl ?_
  refine wi_brF rfl rfl ?_
  refine wi_aload_n rfl rfl ?_
  refine wi_getR rfl rfl rfl ?_
  refine wi_iload_n rfl rfl ?_
  refine wi_aaload rfl (Or.inr rfl) rfl (q := 0) rfl rfl ?_
  refine wi_iload_n rfl rfl ?_
  refine wi_bipush (x := 50) rfl rfl ?_
  refine wi_iastore rfl rfl rfl (q := 1) rfl ?_
  refine wi_iinc (z := 2) rfl rfl rfl rfl rfl ?_
  refine wi_goto rfl ?_
  refine wi_iload_n rfl rfl ?_
  refine wi_bipush (x := 8) rfl rfl ?_
  refine wi_brF rfl rfl ?_
  refine wi_aload_n rfl rfl ?_
  refine wi_getR rfl rfl rfl ?_
  refine wi_iload_n rfl rfl ?_
  refine wi_aaload rfl (Or.inr rfl) rfl (q := 0) rfl rfl ?_
  refine wi_iload_n rfl rfl ?_
  refine wi_bipush (x := 50) rfl rfl ?_
  refine wi_iastore rfl rfl rfl (q := 2) rfl ?_
  refine wi_iinc (z := 3) rfl rfl rfl rfl rfl ?_
  refine wi_goto rfl ?_
  refine wi_iload_n rfl rfl ?_
  refine wi_bipush (x := 8) rfl rfl ?_
  refine wi_brF rfl rfl ?_
  refine wi_aload_n rfl rfl ?_
  refine wi_getR rfl rfl rfl ?_
  refine wi_iload_n rfl rfl ?_
  refine wi_aaload rfl (Or.inr rfl) rfl (q := 0) rfl rfl ?_
  refine wi_iload_n rfl rfl ?_
  refine wi_bipush (x := 50) rfl rfl ?_
  refine wi_iastore rfl rfl rfl (q := 3) rfl ?_
  refine wi_iinc (z := 4) rfl rfl rfl rfl rfl ?_
  refine wi_goto rfl ?_
  refine wi_iload_n rfl rfl ?_
  refine wi_bipush (x := 8) rfl rfl ?_
  refine wi_brF rfl rfl ?_
  refine wi_aload_n rfl rfl ?_
  refine wi_getR rfl rfl rfl ?_
  refine wi_iload_n rfl rfl ?_
  refine wi_aaload rfl (Or.inr rfl) rfl (q := 0) rfl rfl ?_
  refine wi_iload_n rfl rfl ?_
  refine wi_bipush (x := 50) rfl rfl ?_
  refine wi_iastore rfl rfl rfl (q := 4) rfl ?_
  refine wi_iinc (z := 5) rfl rfl rfl rfl rfl ?_
  refine wi_goto rfl ?_
  refine wi_iload_n rfl rfl ?_
  refine wi_bipush (x := 8) rfl rfl ?_
  refine wi_brF rfl rfl ?_
  refine wi_aload_n rfl rfl ?_
  refine wi_getR rfl rfl rfl ?_
  refine wi_iload_n rfl rfl ?_
  refine wi_aaload rfl (Or.inr rfl) rfl (q := 0) rfl rfl ?_
  refine wi_iload_n rfl rfl ?_
  refine wi_bipush (x := 50) rfl rfl ?_
  refine wi_iastore rfl rfl rfl (q := 5) rfl ?_
  refine wi_iinc (z := 6) rfl rfl rfl rfl rfl ?_
  refine wi_goto rfl ?_
  refine wi_iload_n rfl rfl ?_
  refine wi_bipush (x := 8) rfl rfl ?_
  refine wi_brF rfl rfl ?_
  refine wi_aload_n rfl rfl ?_
  refine wi_getR rfl rfl rfl ?_
  refine wi_iload_n rfl rfl ?_
  refine wi_aaload rfl (Or.inr rfl) rfl (q := 0) rfl rfl ?_
  refine wi_iload_n rfl rfl ?_
  refine wi_bipush (x := 50) rfl rfl ?_
  refine wi_iastore rfl rfl rfl (q := 6) rfl ?_
  refine wi_iinc (z := 7) rfl rfl rfl rfl rfl ?_
  refine wi_goto rfl ?_
  refine wi_iload_n rfl rfl ?_
  refine wi_bipush (x := 8) rfl rfl ?_
  refine wi_brF rfl rfl ?_
  refine wi_aload_n rfl rfl ?_
  refine wi_getR rfl rfl rfl ?_
  refine wi_iload_n rfl rfl ?_
  refine wi_aaload rfl (Or.inr rfl) rfl (q := 0) rfl rfl ?_
  refine wi_iload_n rfl rfl ?_
  refine wi_bipush (x := 50) rfl rfl ?_
  refine wi_iastore rfl rfl rfl (q := 7) rfl ?_
  refine wi_iinc (z := 8) rfl rfl rfl rfl rfl ?_
  refine wi_goto rfl ?_
  refine wi_iload_n rfl rfl ?_
  refine wi_bipush (x := 8) rfl rfl ?_
  refine wi_brT rfl rfl ?_
  refine wi_iinc (z := 1) rfl rfl rfl rfl rfl ?_
  refine wi_goto rfl ?_
  refine wi_iload_n rfl rfl ?_
  refine wi_bipush (x := 8) rfl rfl ?_
  refine wi_brF rfl rfl ?_
  refine wi_iconst (x := 0) rfl rfl ?_
  refine wi_istore_n rfl (Nat.le_of_ble_eq_true rfl) rfl rfl ?_
  refine wi_iload_n rfl rfl ?_
  refine wi_bipush (x := 8) rfl rfl ?_
  refine wi_brF rfl rfl ?_
  refine wi_aload_n rfl rfl ?_
  refine wi_getR rfl rfl rfl ?_
  refine wi_iload_n rfl rfl ?_
  refine wi_aaload rfl (Or.inr rfl) rfl (q := 1) rfl rfl ?_
  refine wi_iload_n rfl rfl ?_
  refine wi_bipush (x := 50) rfl rfl ?_
  refine wi_iastore rfl rfl rfl (q := 0) rfl ?_
  refine wi_iinc (z := 1) rfl rfl rfl rfl rfl ?_
  refine wi_goto rfl ?_
  refine wi_iload_n rfl rfl ?_
  refine wi_bipush (x := 8) rfl rfl ?_
  refine wi_brF rfl rfl ?_
  refine wi_aload_n rfl rfl ?_
  refine wi_getR rfl rfl rfl ?_
  refine wi_iload_n rfl rfl ?_
  refine wi_aaload rfl (Or.inr rfl) rfl (q := 1) rfl rfl ?_
  refine wi_iload_n rfl rfl ?_
  refine wi_bipush (x := 50) rfl rfl ?_
  refine wi_iastore rfl rfl rfl (q := 1) rfl ?_
  refine wi_iinc (z := 2) rfl rfl rfl rfl rfl ?_
  refine wi_goto rfl ?_
  refine wi_iload_n rfl rfl ?_
  refine wi_bipush (x := 8) rfl rfl ?_
  refine wi_brF rfl rfl ?_
  refine wi_aload_n rfl rfl ?_
  refine wi_getR rfl rfl rfl ?_
  refine wi_iload_n rfl rfl ?_
  refine wi_aaload rfl (Or.inr rfl) rfl (q := 1) rfl rfl ?_
  refine wi_iload_n rfl rfl ?_
  refine wi_bipush (x := 50) rfl rfl ?_
  refine wi_iastore rfl rfl rfl (q := 2) rfl ?_
  refine wi_iinc (z := 3) rfl rfl rfl rfl rfl ?_
  refine wi_goto rfl ?_
  refine wi_iload_n rfl rfl ?_
  refine wi_bipush (x := 8) rfl rfl ?_
  refine wi_brF rfl rfl ?_
  refine wi_aload_n rfl rfl ?_
  refine wi_getR rfl rfl rfl ?_
  refine wi_iload_n rfl rfl ?_
  refine wi_aaload rfl (Or.inr rfl) rfl (q := 1) rfl rfl ?_
  refine wi_iload_n rfl rfl ?_
  refine wi_bipush (x := 50) rfl rfl ?_
  refine wi_iastore rfl rfl rfl (q := 3) rfl ?_
  refine wi_iinc (z := 4) rfl rfl rfl rfl rfl ?_
  refine wi_goto rfl ?_
  refine wi_iload_n rfl rfl ?_
  refine wi_bipush (x := 8) rfl rfl ?_
  refine wi_brF rfl rfl ?_
  refine wi_aload_n rfl rfl ?_
  refine wi_getR rfl rfl rfl ?_
  refine wi_iload_n rfl rfl ?_
  refine wi_aaload rfl (Or.inr rfl) rfl (q := 1) rfl rfl ?_
  refine wi_iload_n rfl rfl ?_
  refine wi_bipush (x := 50) rfl rfl ?_
  refine wi_iastore rfl rfl rfl (q := 4) rfl ?_
  refine wi_iinc (z := 5) rfl rfl rfl rfl rfl ?_
  refine wi_goto rfl ?_
  refine wi_iload_n rfl rfl ?_
  refine wi_bipush (x := 8) rfl rfl ?_
  refine wi_brF rfl rfl ?_
  refine wi_aload_n rfl rfl ?_
  refine wi_getR rfl rfl rfl ?_
  refine wi_iload_n rfl rfl ?_
  refine wi_aaload rfl (Or.inr rfl) rfl (q := 1) rfl rfl ?_
  refine wi_iload_n rfl rfl ?_
  refine wi_bipush (x := 50) rfl rfl ?_
  refine wi_iastore rfl rfl rfl (q := 5) rfl ?_
  refine wi_iinc (z := 6) rfl rfl rfl rfl rfl ?_
  refine wi_goto rfl ?_
  refine wi_iload_n rfl rfl ?_
  refine wi_bipush (x := 8) rfl rfl ?_
  refine wi_brF rfl rfl ?_
  refine wi_aload_n rfl rfl ?_
  refine wi_getR rfl rfl rfl ?_
  refine wi_iload_n rfl rfl ?_
  refine wi_aaload rfl (Or.inr rfl) rfl (q := 1) rfl rfl ?_
  refine wi_iload_n rfl rfl ?_
  refine wi_bipush (x := 50) rfl rfl ?_
  refine wi_iastore rfl rfl rfl (q := 6) rfl ?_
  refine wi_iinc (z := 7) rfl rfl rfl rfl rfl ?_
  refine wi_goto rfl ?_
  refine wi_iload_n rfl rfl ?_
  refine wi_bipush (x := 8) rfl rfl ?_
  refine wi_brF rfl rfl ?_
  refine wi_aload_n rfl rfl ?_
  refine wi_getR rfl rfl rfl ?_
  refine wi_iload_n rfl rfl ?_
  refine wi_aaload rfl (Or.inr rfl) rfl (q := 1) rfl rfl ?_
  refine wi_iload_n rfl rfl ?_
  refine wi_bipush (x := 50) rfl rfl ?_
  refine wi_iastore rfl rfl rfl (q := 7) rfl ?_
  refine wi_iinc (z := 8) rfl rfl rfl rfl rfl ?_
  refine wi_goto rfl ?_
  refine wi_iload_n rfl rfl ?_
  refine wi_bipush (x := 8) rfl rfl ?_
  refine wi_brT rfl rfl ?_
  refine wi_iinc (z := 2) rfl rfl rfl rfl rfl ?_
  refine wi_goto rfl ?_
  refine wi_iload_n rfl rfl ?_
  refine wi_bipush (x := 8) rfl rfl ?_
  refine wi_brF rfl rfl ?_
  refine wi_iconst (x := 0) rfl rfl ?_
  refine wi_istore_n rfl (Nat.le_of_ble_eq_true rfl) rfl rfl ?_
  refine wi_iload_n rfl rfl ?_
  refine wi_bipush (x := 8) rfl rfl ?_
  refine wi_brF rfl rfl ?_
  refine wi_aload_n rfl rfl ?_
  refine wi_getR rfl rfl rfl ?_
  refine wi_iload_n rfl rfl ?_
  refine wi_aaload rfl (Or.inr rfl) rfl (q := 2) rfl rfl ?_
  refine wi_iload_n rfl rfl ?_
  refine wi_bipush (x := 50) rfl rfl ?_
  refine wi_iastore rfl rfl rfl (q := 0) rfl ?_
  refine wi_iinc (z := 1) rfl rfl rfl rfl rfl ?_
  refine wi_goto rfl ?_
  refine wi_iload_n rfl rfl ?_
  refine wi_bipush (x := 8) rfl rfl ?_
  refine wi_brF rfl rfl ?_
  refine wi_aload_n rfl rfl ?_
  refine wi_getR rfl rfl rfl ?_
  refine wi_iload_n rfl rfl ?_
  refine wi_aaload rfl (Or.inr rfl) rfl (q := 2) rfl rfl ?_
  refine wi_iload_n rfl rfl ?_
  refine wi_bipush (x := 50) rfl rfl ?_
  refine wi_iastore rfl rfl rfl (q := 1) rfl ?_
  refine wi_iinc (z := 2) rfl rfl rfl rfl rfl ?_
  refine wi_goto rfl ?_
  refine wi_iload_n rfl rfl ?_
  refine wi_bipush (x := 8) rfl rfl ?_
  refine wi_brF rfl rfl ?_
  refine wi_aload_n rfl rfl ?_
  refine wi_getR rfl rfl rfl ?_
  refine wi_iload_n rfl rfl ?_
  refine wi_aaload rfl (Or.inr rfl) rfl (q := 2) rfl rfl ?_
  refine wi_iload_n rfl rfl ?_
  refine wi_bipush (x := 50) rfl rfl ?_
  refine wi_iastore rfl rfl rfl (q := 2) rfl ?_
  refine wi_iinc (z := 3) rfl rfl rfl rfl rfl ?_
  refine wi_goto rfl ?_
  refine wi_iload_n rfl rfl ?_
  refine wi_bipush (x := 8) rfl rfl ?_
  refine wi_brF rfl rfl ?_
  refine wi_aload_n rfl rfl ?_
  refine wi_getR rfl rfl rfl ?_
  refine wi_iload_n rfl rfl ?_
  refine wi_aaload rfl (Or.inr rfl) rfl (q := 2) rfl rfl ?_
  refine wi_iload_n rfl rfl ?_
  refine wi_bipush (x := 50) rfl rfl ?_
  refine wi_iastore rfl rfl rfl (q := 3) rfl ?_
  refine wi_iinc (z := 4) rfl rfl rfl rfl rfl ?_
  refine wi_goto rfl ?_
  refine wi_iload_n rfl rfl ?_
  refine wi_bipush (x := 8) rfl rfl ?_
  refine wi_brF rfl rfl ?_
  refine wi_aload_n rfl rfl ?_
  refine wi_getR rfl rfl rfl ?_
  refine wi_iload_n rfl rfl ?_
  refine wi_aaload rfl (Or.inr rfl) rfl (q := 2) rfl rfl ?_
  refine wi_iload_n rfl rfl ?_
  refine wi_bipush (x := 50) rfl rfl ?_
  refine wi_iastore rfl rfl rfl (q := 4) rfl ?_
  refine wi_iinc (z := 5) rfl rfl rfl rfl rfl ?_
  refine wi_goto rfl ?_
  refine wi_iload_n rfl rfl ?_
  refine wi_bipush (x := 8) rfl rfl ?_
  refine wi_brF rfl rfl ?_
  refine wi_aload_n rfl rfl ?_
  refine wi_getR rfl rfl rfl ?_
  refine wi_iload_n rfl rfl ?_
  refine wi_aaload rfl (Or.inr rfl) rfl (q := 2) rfl rfl ?_
  refine wi_iload_n rfl rfl ?_
  refine wi_bipush (x := 50) rfl rfl ?_
  refine wi_iastore rfl rfl rfl (q := 5) rfl ?_
  refine wi_iinc (z := 6) rfl rfl rfl rfl rfl ?_
  refine wi_goto rfl ?_
  refine wi_iload_n rfl rfl ?_
  refine wi_bipush (x := 8) rfl rfl ?_
  refine wi_brF rfl rfl ?_
  refine wi_aload_n rfl rfl ?_
  refine wi_getR rfl rfl rfl ?_
  refine wi_iload_n rfl rfl ?_
  refine wi_aaload rfl (Or.inr rfl) rfl (q := 2) rfl rfl ?_
  refine wi_iload_n rfl rfl ?_
  refine wi_bipush (x := 50) rfl rfl ?_
  refine wi_iastore rfl rfl rfl (q := 6) rfl ?_
  refine wi_iinc (z := 7) rfl rfl rfl rfl rfl ?_
  refine wi_goto rfl ?_
  refine wi_iload_n rfl rfl ?_
  refine wi_bipush (x := 8) rfl rfl ?_
  refine wi_brF rfl rfl ?_
  refine wi_aload_n rfl rfl ?_
  refine wi_getR rfl rfl rfl ?_
  refine wi_iload_n rfl rfl ?_
  refine wi_aaload rfl (Or.inr rfl) rfl (q := 2) rfl rfl ?_
  refine wi_iload_n rfl rfl ?_
  refine wi_bipush (x := 50) rfl rfl ?_
  refine wi_iastore rfl rfl rfl (q := 7) rfl ?_
  refine wi_iinc (z := 8) rfl rfl rfl rfl rfl ?_
  refine wi_goto rfl ?_
  refine wi_iload_n rfl rfl ?_
  refine wi_bipush (x := 8) rfl rfl ?_
  refine wi_brT rfl rfl ?_
  refine wi_iinc (z := 3) rfl rfl rfl rfl rfl ?_
  refine wi_goto rfl ?_
  refine wi_iload_n rfl rfl ?_
  refine wi_bipush (x := 8) rfl rfl ?_
  refine wi_brF rfl rfl ?_
  refine wi_iconst (x := 0) rfl rfl ?_
  refine wi_istore_n rfl (Nat.le_of_ble_eq_true rfl) rfl rfl ?_
  refine wi_iload_n rfl rfl ?_
  refine wi_bipush (x := 8) rfl rfl ?_
  refine wi_brF rfl rfl ?_
  refine wi_aload_n rfl rfl ?_
  refine wi_getR rfl rfl rfl ?_
  refine wi_iload_n rfl rfl ?_
  refine wi_aaload rfl (Or.inr rfl) rfl (q := 3) rfl rfl ?_
  refine wi_iload_n rfl rfl ?_
  refine wi_bipush (x := 50) rfl rfl ?_
  refine wi_iastore rfl rfl rfl (q := 0) rfl ?_
  refine wi_iinc (z := 1) rfl rfl rfl rfl rfl ?_
  refine wi_goto rfl ?_
  refine wi_iload_n rfl rfl ?_
  refine wi_bipush (x := 8) rfl rfl ?_
  refine wi_brF rfl rfl ?_
  refine wi_aload_n rfl rfl ?_
  refine wi_getR rfl rfl rfl ?_
  refine wi_iload_n rfl rfl ?_
  refine wi_aaload rfl (Or.inr rfl) rfl (q := 3) rfl rfl ?_
  refine wi_iload_n rfl rfl ?_
  refine wi_bipush (x := 50) rfl rfl ?_
  refine wi_iastore rfl rfl rfl (q := 1) rfl ?_
  refine wi_iinc (z := 2) rfl rfl rfl rfl rfl ?_
  refine wi_goto rfl ?_
  refine wi_iload_n rfl rfl ?_
  refine wi_bipush (x := 8) rfl rfl ?_
  refine wi_brF rfl rfl ?_
  refine wi_aload_n rfl rfl ?_
  refine wi_getR rfl rfl rfl ?_
  refine wi_iload_n rfl rfl ?_
  refine wi_aaload rfl (Or.inr rfl) rfl (q := 3) rfl rfl ?_
  refine wi_iload_n rfl rfl ?_
  refine wi_bipush (x := 50) rfl rfl ?_
  refine wi_iastore rfl rfl rfl (q := 2) rfl ?_
  refine wi_iinc (z := 3) rfl rfl rfl rfl rfl ?_
  refine wi_goto rfl ?_
  refine wi_iload_n rfl rfl ?_
  refine wi_bipush (x := 8) rfl rfl ?_
  refine wi_brF rfl rfl ?_
  refine wi_aload_n rfl rfl ?_
  refine wi_getR rfl rfl rfl ?_
  refine wi_iload_n rfl rfl ?_
  refine wi_aaload rfl (Or.inr rfl) rfl (q := 3) rfl rfl ?_
  refine wi_iload_n rfl rfl ?_
  refine wi_bipush (x := 50) rfl rfl ?_
  refine wi_iastore rfl rfl rfl (q := 3) rfl ?_
  refine wi_iinc (z := 4) rfl rfl rfl rfl rfl ?_
  refine wi_goto rfl ?_
  refine wi_iload_n rfl rfl ?_
  refine wi_bipush (x := 8) rfl rfl ?_
  refine wi_brF rfl rfl ?_
  refine wi_aload_n rfl rfl ?_
  refine wi_getR rfl rfl rfl ?_
  refine wi_iload_n rfl rfl ?_
  refine wi_aaload rfl (Or.inr rfl) rfl (q := 3) rfl rfl ?_
  refine wi_iload_n rfl rfl ?_
  refine wi_bipush (x := 50) rfl rfl ?_
  refine wi_iastore rfl rfl rfl (q := 4) rfl ?_
  refine wi_iinc (z := 5) rfl rfl rfl rfl rfl ?_
  refine wi_goto rfl ?_
  refine wi_iload_n rfl rfl ?_
  refine wi_bipush (x := 8) rfl rfl ?_
  refine wi_brF rfl rfl ?_
  refine wi_aload_n rfl rfl ?_
  refine wi_getR rfl rfl rfl ?_
  refine wi_iload_n rfl rfl ?_
  refine wi_aaload rfl (Or.inr rfl) rfl (q := 3) rfl rfl ?_
  refine wi_iload_n rfl rfl ?_
  refine wi_bipush (x := 50) rfl rfl ?_
  refine wi_iastore rfl rfl rfl (q := 5) rfl ?_
  refine wi_iinc (z := 6) rfl rfl rfl rfl rfl ?_
  refine wi_goto rfl ?_
  refine wi_iload_n rfl rfl ?_
  refine wi_bipush (x := 8) rfl rfl ?_
  refine wi_brF rfl rfl ?_
  refine wi_aload_n rfl rfl ?_
  refine wi_getR rfl rfl rfl ?_
  refine wi_iload_n rfl rfl ?_
  refine wi_aaload rfl (Or.inr rfl) rfl (q := 3) rfl rfl ?_
  refine wi_iload_n rfl rfl ?_
  refine wi_bipush (x := 50) rfl rfl ?_
  refine wi_iastore rfl rfl rfl (q := 6) rfl ?_
  refine wi_iinc (z := 7) rfl rfl rfl rfl rfl ?_
  refine wi_goto rfl ?_
  refine wi_iload_n rfl rfl ?_
  refine wi_bipush (x := 8) rfl rfl ?_
  refine wi_brF rfl rfl ?_
  refine wi_aload_n rfl rfl ?_
  refine wi_getR rfl rfl rfl ?_
  refine wi_iload_n rfl rfl ?_
  refine wi_aaload rfl (Or.inr rfl) rfl (q := 3) rfl rfl ?_
  refine wi_iload_n rfl rfl ?_
  refine wi_bipush (x := 50) rfl rfl ?_
  refine wi_iastore rfl rfl rfl (q := 7) rfl ?_
  refine wi_iinc (z := 8) rfl rfl rfl rfl rfl ?_
  refine wi_goto rfl ?_
  refine wi_iload_n rfl rfl ?_
  refine wi_bipush (x := 8) rfl rfl ?_
  refine wi_brT rfl rfl ?_
  refine wi_iinc (z := 4) rfl rfl rfl rfl rfl ?_
  refine wi_goto rfl ?_
  refine wi_iload_n rfl rfl ?_
  refine wi_bipush (x := 8) rfl rfl ?_
  refine wi_brF rfl rfl ?_
  refine wi_iconst (x := 0) rfl rfl ?_
  refine wi_istore_n rfl (Nat.le_of_ble_eq_true rfl) rfl rfl ?_
  refine wi_iload_n rfl rfl ?_
  refine wi_bipush (x := 8) rfl rfl ?_
  refine wi_brF rfl rfl ?_
  refine wi_aload_n rfl rfl ?_
  refine wi_getR rfl rfl rfl ?_
  refine wi_iload_n rfl rfl ?_
  refine wi_aaload rfl (Or.inr rfl) rfl (q := 4) rfl rfl ?_
  refine wi_iload_n rfl rfl ?_
  refine wi_bipush (x := 50) rfl rfl ?_
  refine wi_iastore rfl rfl rfl (q := 0) rfl ?_
  refine wi_iinc (z := 1) rfl rfl rfl rfl rfl ?_
  refine wi_goto rfl ?_
  refine wi_iload_n rfl rfl ?_
  refine wi_bipush (x := 8) rfl rfl ?_
  refine wi_brF rfl rfl ?_
  refine wi_aload_n rfl rfl ?_
  refine wi_getR rfl rfl rfl ?_
  refine wi_iload_n rfl rfl ?_
  refine wi_aaload rfl (Or.inr rfl) rfl (q := 4) rfl rfl ?_
  refine wi_iload_n rfl rfl ?_
  refine wi_bipush (x := 50) rfl rfl ?_
  refine wi_iastore rfl rfl rfl (q := 1) rfl ?_
  refine wi_iinc (z := 2) rfl rfl rfl rfl rfl ?_
  refine wi_goto rfl ?_
  refine wi_iload_n rfl rfl ?_
  refine wi_bipush (x := 8) rfl rfl ?_
  refine wi_brF rfl rfl ?_
  refine wi_aload_n rfl rfl ?_
  refine wi_getR rfl rfl rfl ?_
  refine wi_iload_n rfl rfl ?_
  refine wi_aaload rfl (Or.inr rfl) rfl (q := 4) rfl rfl ?_
  refine wi_iload_n rfl rfl ?_
  refine wi_bipush (x := 50) rfl rfl ?_
  refine wi_iastore rfl rfl rfl (q := 2) rfl ?_
  refine wi_iinc (z := 3) rfl rfl rfl rfl rfl ?_
  refine wi_goto rfl ?_
  refine wi_iload_n rfl rfl ?_
  refine wi_bipush (x := 8) rfl rfl ?_
  refine wi_brF rfl rfl ?_
  refine wi_aload_n rfl rfl ?_
  refine wi_getR rfl rfl rfl ?_
  refine wi_iload_n rfl rfl ?_
  refine wi_aaload rfl (Or.inr rfl) rfl (q := 4) rfl rfl ?_
  refine wi_iload_n rfl rfl ?_
  refine wi_bipush (x := 50) rfl rfl ?_
  refine wi_iastore rfl rfl rfl (q := 3) rfl ?_
  refine wi_iinc (z := 4) rfl rfl rfl rfl rfl ?_
  refine wi_goto rfl ?_
  refine wi_iload_n rfl rfl ?_
  refine wi_bipush (x := 8) rfl rfl ?_
  refine wi_brF rfl rfl ?_
  refine wi_aload_n rfl rfl ?_
  refine wi_getR rfl rfl rfl ?_
  refine wi_iload_n rfl rfl ?_
  refine wi_aaload rfl (Or.inr rfl) rfl (q := 4) rfl rfl ?_
  refine wi_iload_n rfl rfl ?_
  refine wi_bipush (x := 50) rfl rfl ?_
  refine wi_iastore rfl rfl rfl (q := 4) rfl ?_
  refine wi_iinc (z := 5) rfl rfl rfl rfl rfl ?_
  refine wi_goto rfl ?_
  refine wi_iload_n rfl rfl ?_
  refine wi_bipush (x := 8) rfl rfl ?_
  refine wi_brF rfl rfl ?_
  refine wi_aload_n rfl rfl ?_
  refine wi_getR rfl rfl rfl ?_
  refine wi_iload_n rfl rfl ?_
  refine wi_aaload rfl (Or.inr rfl) rfl (q := 4) rfl rfl ?_
  refine wi_iload_n rfl rfl ?_
  refine wi_bipush (x := 50) rfl rfl ?_
  refine wi_iastore rfl rfl rfl (q := 5) rfl ?_
  refine wi_iinc (z := 6) rfl rfl rfl rfl rfl ?_
  refine wi_goto rfl ?_
  refine wi_iload_n rfl rfl ?_
  refine wi_bipush (x := 8) rfl rfl ?_
  refine wi_brF rfl rfl ?_
  refine wi_aload_n rfl rfl ?_
  refine wi_getR rfl rfl rfl ?_
  refine wi_iload_n rfl rfl ?_
  refine wi_aaload rfl (Or.inr rfl) rfl (q := 4) rfl rfl ?_
  refine wi_iload_n rfl rfl ?_
  refine wi_bipush (x := 50) rfl rfl ?_
  refine wi_iastore rfl rfl rfl (q := 6) rfl ?_
  refine wi_iinc (z := 7) rfl rfl rfl rfl rfl ?_
  refine wi_goto rfl ?_
  refine wi_iload_n rfl rfl ?_
  refine wi_bipush (x := 8) rfl rfl ?_
  refine wi_brF rfl rfl ?_
  refine wi_aload_n rfl rfl ?_
  refine wi_getR rfl rfl rfl ?_
  refine wi_iload_n rfl rfl ?_
  refine wi_aaload rfl (Or.inr rfl) rfl (q := 4) rfl rfl ?_
  refine wi_iload_n rfl rfl ?_
  refine wi_bipush (x := 50) rfl rfl ?_
  refine wi_iastore rfl rfl rfl (q := 7) rfl ?_
  refine wi_iinc (z := 8) rfl rfl rfl rfl rfl ?_
  refine wi_goto rfl ?_
  refine wi_iload_n rfl rfl ?_
  refine wi_bipush (x := 8) rfl rfl ?_
  refine wi_brT rfl rfl ?_
  refine wi_iinc (z := 5) rfl rfl rfl rfl rfl ?_
  refine wi_goto rfl ?_
  refine wi_iload_n rfl rfl ?_
  refine wi_bipush (x := 8) rfl rfl ?_
  refine wi_brF rfl rfl ?_
  refine wi_iconst (x := 0) rfl rfl ?_
  refine wi_istore_n rfl (Nat.le_of_ble_eq_true rfl) rfl rfl ?_
  refine wi_iload_n rfl rfl ?_
  refine wi_bipush (x := 8) rfl rfl ?_
  refine wi_brF rfl rfl ?_
  refine wi_aload_n rfl rfl ?_
  refine wi_getR rfl rfl rfl ?_
  refine wi_iload_n rfl rfl ?_
  refine wi_aaload rfl (Or.inr rfl) rfl (q := 5) rfl rfl ?_
  refine wi_iload_n rfl rfl ?_
  refine wi_bipush (x := 50) rfl rfl ?_
  refine wi_iastore rfl rfl rfl (q := 0) rfl ?_
  refine wi_iinc (z := 1) rfl rfl rfl rfl rfl ?_
  refine wi_goto rfl ?_
  refine wi_iload_n rfl rfl ?_
  refine wi_bipush (x := 8) rfl rfl ?_
  refine wi_brF rfl rfl ?_
  refine wi_aload_n rfl rfl ?_
  refine wi_getR rfl rfl rfl ?_
  refine wi_iload_n rfl rfl ?_
  refine wi_aaload rfl (Or.inr rfl) rfl (q := 5) rfl rfl ?_
  refine wi_iload_n rfl rfl ?_
  refine wi_bipush (x := 50) rfl rfl ?_
  refine wi_iastore rfl rfl rfl (q := 1) rfl ?_
  refine wi_iinc (z := 2) rfl rfl rfl rfl rfl ?_
  refine wi_goto rfl ?_
  refine wi_iload_n rfl rfl ?_
  refine wi_bipush (x := 8) rfl rfl ?_
  refine wi_brF rfl rfl ?_
  refine wi_aload_n rfl rfl ?_
  refine wi_getR rfl rfl rfl ?_
  refine wi_iload_n rfl rfl ?_
  refine wi_aaload rfl (Or.inr rfl) rfl (q := 5) rfl rfl ?_
  refine wi_iload_n rfl rfl ?_
  refine wi_bipush (x := 50) rfl rfl ?_
  refine wi_iastore rfl rfl rfl (q := 2) rfl ?_
  refine wi_iinc (z := 3) rfl rfl rfl rfl rfl ?_
  refine wi_goto rfl ?_
  refine wi_iload_n rfl rfl ?_
  refine wi_bipush (x := 8) rfl rfl ?_
  refine wi_brF rfl rfl ?_
  refine wi_aload_n rfl rfl ?_
  refine wi_getR rfl rfl rfl ?_
  refine wi_iload_n rfl rfl ?_
  refine wi_aaload rfl (Or.inr rfl) rfl (q := 5) rfl rfl ?_
  refine wi_iload_n rfl rfl ?_
  refine wi_bipush (x := 50) rfl rfl ?_
  refine wi_iastore rfl rfl rfl (q := 3) rfl ?_
  refine wi_iinc (z := 4) rfl rfl rfl rfl rfl ?_
  refine wi_goto rfl ?_
  refine wi_iload_n rfl rfl ?_
  refine wi_bipush (x := 8) rfl rfl ?_
  refine wi_brF rfl rfl ?_
  refine wi_aload_n rfl rfl ?_
  refine wi_getR rfl rfl rfl ?_
  refine wi_iload_n rfl rfl ?_
  refine wi_aaload rfl (Or.inr rfl) rfl (q := 5) rfl rfl ?_
  refine wi_iload_n rfl rfl ?_
  refine wi_bipush (x := 50) rfl rfl ?_
  refine wi_iastore rfl rfl rfl (q := 4) rfl ?_
  refine wi_iinc (z := 5) rfl rfl rfl rfl rfl ?_
  refine wi_goto rfl ?_
  refine wi_iload_n rfl rfl ?_
  refine wi_bipush (x := 8) rfl rfl ?_
  refine wi_brF rfl rfl ?_
  refine wi_aload_n rfl rfl ?_
  refine wi_getR rfl rfl rfl ?_
  refine wi_iload_n rfl rfl ?_
  refine wi_aaload rfl (Or.inr rfl) rfl (q := 5) rfl rfl ?_
  refine wi_iload_n rfl rfl ?_
  refine wi_bipush (x := 50) rfl rfl ?_
  refine wi_iastore rfl rfl rfl (q := 5) rfl ?_
  refine wi_iinc (z := 6) rfl rfl rfl rfl rfl ?_
  refine wi_goto rfl ?_
  refine wi_iload_n rfl rfl ?_
  refine wi_bipush (x := 8) rfl rfl ?_
  refine wi_brF rfl rfl ?_
  refine wi_aload_n rfl rfl ?_
  refine wi_getR rfl rfl rfl ?_
  refine wi_iload_n rfl rfl ?_
  refine wi_aaload rfl (Or.inr rfl) rfl (q := 5) rfl rfl ?_
  refine wi_iload_n rfl rfl ?_
  refine wi_bipush (x := 50) rfl rfl ?_
  refine wi_iastore rfl rfl rfl (q := 6) rfl ?_
  refine wi_iinc (z := 7) rfl rfl rfl rfl rfl ?_
  refine wi_goto rfl ?_
  refine wi_iload_n rfl rfl ?_
  refine wi_bipush (x := 8) rfl rfl ?_
  refine wi_brF rfl rfl ?_
  refine wi_aload_n rfl rfl ?_
  refine wi_getR rfl rfl rfl ?_
  refine wi_iload_n rfl rfl ?_
  refine wi_aaload rfl (Or.inr rfl) rfl (q := 5) rfl rfl ?_
  refine wi_iload_n rfl rfl ?_
  refine wi_bipush (x := 50) rfl rfl ?_
  refine wi_iastore rfl rfl rfl (q := 7) rfl ?_
  refine wi_iinc (z := 8) rfl rfl rfl rfl rfl ?_
  refine wi_goto rfl ?_
  refine wi_iload_n rfl rfl ?_
  refine wi_bipush (x := 8) rfl rfl ?_
  refine wi_brT rfl rfl ?_
  refine wi_iinc (z := 6) rfl rfl rfl rfl rfl ?_
  refine wi_goto rfl ?_
  refine wi_iload_n rfl rfl ?_
  refine wi_bipush (x := 8) rfl rfl ?_
  refine wi_brF rfl rfl ?_
  refine wi_iconst (x := 0) rfl rfl ?_
  refine wi_istore_n rfl (Nat.le_of_ble_eq_true rfl) rfl rfl ?_
  refine wi_iload_n rfl rfl ?_
  refine wi_bipush (x := 8) rfl rfl ?_
  refine wi_brF rfl rfl ?_
  refine wi_aload_n rfl rfl ?_
  refine wi_getR rfl rfl rfl ?_
  refine wi_iload_n rfl rfl ?_
  refine wi_aaload rfl (Or.inr rfl) rfl (q := 6) rfl rfl ?_
  refine wi_iload_n rfl rfl ?_
  refine wi_bipush (x := 50) rfl rfl ?_
  refine wi_iastore rfl rfl rfl (q := 0) rfl ?_
  refine wi_iinc (z := 1) rfl rfl rfl rfl rfl ?_
  refine wi_goto rfl ?_
  refine wi_iload_n rfl rfl ?_
  refine wi_bipush (x := 8) rfl rfl ?_
  refine wi_brF rfl rfl ?_
  refine wi_aload_n rfl rfl ?_
  refine wi_getR rfl rfl rfl ?_
  refine wi_iload_n rfl rfl ?_
  refine wi_aaload rfl (Or.inr rfl) rfl (q := 6) rfl rfl ?_
  refine wi_iload_n rfl rfl ?_
  refine wi_bipush (x := 50) rfl rfl ?_
  refine wi_iastore rfl rfl rfl (q := 1) rfl ?_
  refine wi_iinc (z := 2) rfl rfl rfl rfl rfl ?_
  refine wi_goto rfl ?_
  refine wi_iload_n rfl rfl ?_
  refine wi_bipush (x := 8) rfl rfl ?_
  refine wi_brF rfl rfl ?_
  refine wi_aload_n rfl rfl ?_
  refine wi_getR rfl rfl rfl ?_
  refine wi_iload_n rfl rfl ?_
  refine wi_aaload rfl (Or.inr rfl) rfl (q := 6) rfl rfl ?_
  refine wi_iload_n rfl rfl ?_
  refine wi_bipush (x := 50) rfl rfl ?_
  refine wi_iastore rfl rfl rfl (q := 2) rfl ?_
  refine wi_iinc (z := 3) rfl rfl rfl rfl rfl ?_
  refine wi_goto rfl ?_
  refine wi_iload_n rfl rfl ?_
  refine wi_bipush (x := 8) rfl rfl ?_
  refine wi_brF rfl rfl ?_
  refine wi_aload_n rfl rfl ?_
  refine wi_getR rfl rfl rfl ?_
  refine wi_iload_n rfl rfl ?_
  refine wi_aaload rfl (Or.inr rfl) rfl (q := 6) rfl rfl ?_
  refine wi_iload_n rfl rfl ?_
  refine wi_bipush (x := 50) rfl rfl ?_
  refine wi_iastore rfl rfl rfl (q := 3) rfl ?_
  refine wi_iinc (z := 4) rfl rfl rfl rfl rfl ?_
  refine wi_goto rfl ?_
  refine wi_iload_n rfl rfl ?_
  refine wi_bipush (x := 8) rfl rfl ?_
  refine wi_brF rfl rfl ?_
  refine wi_aload_n rfl rfl ?_
  refine wi_getR rfl rfl rfl ?_
  refine wi_iload_n rfl rfl ?_
  refine wi_aaload rfl (Or.inr rfl) rfl (q := 6) rfl rfl ?_
  refine wi_iload_n rfl rfl ?_
  refine wi_bipush (x := 50) rfl rfl ?_
  refine wi_iastore rfl rfl rfl (q := 4) rfl ?_
  refine wi_iinc (z := 5) rfl rfl rfl rfl rfl ?_
  refine wi_goto rfl ?_
  refine wi_iload_n rfl rfl ?_
  refine wi_bipush (x := 8) rfl rfl ?_
  refine wi_brF rfl rfl ?_
  refine wi_aload_n rfl rfl ?_
  refine wi_getR rfl rfl rfl ?_
  refine wi_iload_n rfl rfl ?_
  refine wi_aaload rfl (Or.inr rfl) rfl (q := 6) rfl rfl ?_
  refine wi_iload_n rfl rfl ?_
  refine wi_bipush (x := 50) rfl rfl ?_
  refine wi_iastore rfl rfl rfl (q := 5) rfl ?_
  refine wi_iinc (z := 6) rfl rfl rfl rfl rfl ?_
  refine wi_goto rfl ?_
  refine wi_iload_n rfl rfl ?_
  refine wi_bipush (x := 8) rfl rfl ?_
  refine wi_brF rfl rfl ?_
  refine wi_aload_n rfl rfl ?_
  refine wi_getR rfl rfl rfl ?_
  refine wi_iload_n rfl rfl ?_
  refine wi_aaload rfl (Or.inr rfl) rfl (q := 6) rfl rfl ?_
  refine wi_iload_n rfl rfl ?_
  refine wi_bipush (x := 50) rfl rfl ?_
  refine wi_iastore rfl rfl rfl (q := 6) rfl ?_
  refine wi_iinc (z := 7) rfl rfl rfl rfl rfl ?_
  refine wi_goto rfl ?_
  refine wi_iload_n rfl rfl ?_
  refine wi_bipush (x := 8) rfl rfl ?_
  refine wi_brF rfl rfl ?_
  refine wi_aload_n rfl rfl ?_
  refine wi_getR rfl rfl rfl ?_
  refine wi_iload_n rfl rfl ?_
  refine wi_aaload rfl (Or.inr rfl) rfl (q := 6) rfl rfl ?_
  refine wi_iload_n rfl rfl ?_
  refine wi_bipush (x := 50) rfl rfl ?_
  refine wi_iastore rfl rfl rfl (q := 7) rfl ?_
  refine wi_iinc (z := 8) rfl rfl rfl rfl rfl ?_
  refine wi_goto rfl ?_
  refine wi_iload_n rfl rfl ?_
  refine wi_bipush (x := 8) rfl rfl ?_
  refine wi_brT rfl rfl ?_
  refine wi_iinc (z := 7) rfl rfl rfl rfl rfl ?_
  refine wi_goto rfl ?_
  refine wi_iload_n rfl rfl ?_
  refine wi_bipush (x := 8) rfl rfl ?_
  refine wi_brF rfl rfl ?_
  refine wi_iconst (x := 0) rfl rfl ?_
  refine wi_istore_n rfl (Nat.le_of_ble_eq_true rfl) rfl rfl ?_
  refine wi_iload_n rfl rfl ?_
  refine wi_bipush (x := 8) rfl rfl ?_
  refine wi_brF rfl rfl ?_
  refine wi_aload_n rfl rfl ?_
  refine wi_getR rfl rfl rfl ?_
  refine wi_iload_n rfl rfl ?_
  refine wi_aaload rfl (Or.inr rfl) rfl (q := 7) rfl rfl ?_
  refine wi_iload_n rfl rfl ?_
  refine wi_bipush (x := 50) rfl rfl ?_
  refine wi_iastore rfl rfl rfl (q := 0) rfl ?_
  refine wi_iinc (z := 1) rfl rfl rfl rfl rfl ?_
  refine wi_goto rfl ?_
  refine wi_iload_n rfl rfl ?_
  refine wi_bipush (x := 8) rfl rfl ?_
  refine wi_brF rfl rfl ?_
  refine wi_aload_n rfl rfl ?_
  refine wi_getR rfl rfl rfl ?_
  refine wi_iload_n rfl rfl ?_
  refine wi_aaload rfl (Or.inr rfl) rfl (q := 7) rfl rfl ?_
  refine wi_iload_n rfl rfl ?_
  refine wi_bipush (x := 50) rfl rfl ?_
  refine wi_iastore rfl rfl rfl (q := 1) rfl ?_
  refine wi_iinc (z := 2) rfl rfl rfl rfl rfl ?_
  refine wi_goto rfl ?_
  refine wi_iload_n rfl rfl ?_
  refine wi_bipush (x := 8) rfl rfl ?_
  refine wi_brF rfl rfl ?_
  refine wi_aload_n rfl rfl ?_
  refine wi_getR rfl rfl rfl ?_
  refine wi_iload_n rfl rfl ?_
  refine wi_aaload rfl (Or.inr rfl) rfl (q := 7) rfl rfl ?_
  refine wi_iload_n rfl rfl ?_
  refine wi_bipush (x := 50) rfl rfl ?_
  refine wi_iastore rfl rfl rfl (q := 2) rfl ?_
  refine wi_iinc (z := 3) rfl rfl rfl rfl rfl ?_
  refine wi_goto rfl ?_
  refine wi_iload_n rfl rfl ?_
  refine wi_bipush (x := 8) rfl rfl ?_
  refine wi_brF rfl rfl ?_
  refine wi_aload_n rfl rfl ?_
  refine wi_getR rfl rfl rfl ?_
  refine wi_iload_n rfl rfl ?_
  refine wi_aaload rfl (Or.inr rfl) rfl (q := 7) rfl rfl ?_
  refine wi_iload_n rfl rfl ?_
  refine wi_bipush (x := 50) rfl rfl ?_
  refine wi_iastore rfl rfl rfl (q := 3) rfl ?_
  refine wi_iinc (z := 4) rfl rfl rfl rfl rfl ?_
  refine wi_goto rfl ?_
  refine wi_iload_n rfl rfl ?_
  refine wi_bipush (x := 8) rfl rfl ?_
  refine wi_brF rfl rfl ?_
  refine wi_aload_n rfl rfl ?_
  refine wi_getR rfl rfl rfl ?_
  refine wi_iload_n rfl rfl ?_
  refine wi_aaload rfl (Or.inr rfl) rfl (q := 7) rfl rfl ?_
  refine wi_iload_n rfl rfl ?_
  refine wi_bipush (x := 50) rfl rfl ?_
  refine wi_iastore rfl rfl rfl (q := 4) rfl ?_
  refine wi_iinc (z := 5) rfl rfl rfl rfl rfl ?_
  refine wi_goto rfl ?_
  refine wi_iload_n rfl rfl ?_
  refine wi_bipush (x := 8) rfl rfl ?_
  refine wi_brF rfl rfl ?_
  refine wi_aload_n rfl rfl ?_
  refine wi_getR rfl rfl rfl ?_
  refine wi_iload_n rfl rfl ?_
  refine wi_aaload rfl (Or.inr rfl) rfl (q := 7) rfl rfl ?_
  refine wi_iload_n rfl rfl ?_
  refine wi_bipush (x := 50) rfl rfl ?_
  refine wi_iastore rfl rfl rfl (q := 5) rfl ?_
  refine wi_iinc (z := 6) rfl rfl rfl rfl rfl ?_
  refine wi_goto rfl ?_
  refine wi_iload_n rfl rfl ?_
  refine wi_bipush (x := 8) rfl rfl ?_
  refine wi_brF rfl rfl ?_
  refine wi_aload_n rfl rfl ?_
  refine wi_getR rfl rfl rfl ?_
  refine wi_iload_n rfl rfl ?_
  refine wi_aaload rfl (Or.inr rfl) rfl (q := 7) rfl rfl ?_
  refine wi_iload_n rfl rfl ?_
  refine wi_bipush (x := 50) rfl rfl ?_
  refine wi_iastore rfl rfl rfl (q := 6) rfl ?_
  refine wi_iinc (z := 7) rfl rfl rfl rfl rfl ?_
  refine wi_goto rfl ?_
  refine wi_iload_n rfl rfl ?_
  refine wi_bipush (x := 8) rfl rfl ?_
  refine wi_brF rfl rfl ?_
  refine wi_aload_n rfl rfl ?_
  refine wi_getR rfl rfl rfl ?_
  refine wi_iload_n rfl rfl ?_
  refine wi_aaload rfl (Or.inr rfl) rfl (q := 7) rfl rfl ?_
  refine wi_iload_n rfl rfl ?_
  refine wi_bipush (x := 50) rfl rfl ?_
  refine wi_iastore rfl rfl rfl (q := 7) rfl ?_
  refine wi_iinc (z := 8) rfl rfl rfl rfl rfl ?_
  refine wi_goto rfl ?_
  refine wi_iload_n rfl rfl ?_
  refine wi_bipush (x := 8) rfl rfl ?_
  refine wi_brT rfl rfl ?_
  refine wi_iinc (z := 8) rfl rfl rfl rfl rfl ?_
  refine wi_goto rfl ?_
  refine wi_iload_n rfl rfl ?_
  refine wi_bipush (x := 8) rfl rfl ?_
  refine wi_brT rfl rfl ?_
  refine wi_ret rfl ?_
  refine wi_putR rfl ⟨rfl, Nat.le_of_ble_eq_true rfl, Nat.le_of_ble_eq_true rfl⟩ rfl ?_
  refine am_norm (sh' := am_shT.take 75) (mr' := am_mr12) rfl rfl ?_
  refine wi_aload_n rfl rfl ?_
  refine wi_new rfl rfl (q := 75) rfl (n := 6) rfl ?_
  refine wi_dup rfl rfl ?_
  refine wi_callI0 rfl (by decide) (by decide) rfl rfl rfl rfl rfl ?_
  refine wi_aload_n rfl rfl ?_
  refine wi_obj rfl rfl ?_
  refine wi_aload_n rfl rfl ?_
  refine wi_bipush (x := 8) rfl rfl ?_
  refine wi_iconst (x := 3) rfl rfl ?_
  refine wi_mna rfl ⟨by decide, by decide, by decide, by decide⟩ (n := 8) rfl (m := 3) rfl (q := 76) rfl ?_
  refine am_norm (sh' := am_shT.take 85) (mr' := am_mr13) rfl rfl ?_
  refine wi_putR rfl ⟨rfl, Nat.le_of_ble_eq_true rfl, Nat.le_of_ble_eq_true rfl⟩ rfl ?_
  refine wi_aload_n rfl rfl ?_
  refine wi_bipush (x := 8) rfl rfl ?_
  refine wi_iconst (x := 3) rfl rfl ?_
  refine wi_mna rfl ⟨by decide, by decide, by decide, by decide⟩ (n := 8) rfl (m := 3) rfl (q := 85) rfl ?_
  refine am_norm (sh' := am_shT.take 94) (mr' := am_mr14) rfl rfl ?_
  refine wi_putR rfl ⟨rfl, Nat.le_of_ble_eq_true rfl, Nat.le_of_ble_eq_true rfl⟩ rfl ?_
  refine wi_aload_n rfl rfl ?_
  refine wi_iconst (x := 3) rfl rfl ?_
  refine wi_newarray rfl ⟨by decide, by decide, by decide⟩ (t := 103) rfl (n := 3) rfl (q := 94) rfl ?_
  refine wi_putR rfl ⟨rfl, Nat.le_of_ble_eq_true rfl, Nat.le_of_ble_eq_true rfl⟩ rfl ?_
  refine wi_aload_n rfl rfl ?_
  refine wi_iconst (x := 3) rfl rfl ?_
  refine wi_newarray rfl ⟨by decide, by decide, by decide⟩ (t := 103) rfl (n := 3) rfl (q := 95) rfl ?_
  refine wi_putR rfl ⟨rfl, Nat.le_of_ble_eq_true rfl, Nat.le_of_ble_eq_true rfl⟩ rfl ?_
  refine wi_aload_n rfl rfl ?_
  refine wi_lconst (lx := 0) rfl rfl ?_
  refine wi_putL rfl rfl ?_
  refine wi_aload_n rfl rfl ?_
  refine wi_lconst (lx := 0) rfl rfl ?_
  refine wi_putL rfl rfl ?_
  refine wi_ret rfl ?_
  refine wi_putR rfl ⟨rfl, Nat.le_of_ble_eq_true rfl, Nat.le_of_ble_eq_true rfl⟩ rfl ?_
  refine wi_aload_n rfl rfl ?_
  refine wi_new rfl rfl (q := 96) rfl (n := 2) rfl ?_
  refine wi_dup rfl rfl ?_
  refine wi_callI0 rfl (by decide) (by decide) rfl rfl rfl rfl rfl ?_
  refine wi_aload_n rfl rfl ?_
  refine wi_obj rfl rfl ?_
  refine wi_aload_n rfl rfl ?_
  refine wi_lconst (lx := 0) rfl rfl ?_
  refine wi_putL rfl rfl ?_
  refine wi_aload_n rfl rfl ?_
  refine wi_lconst (lx := 1) rfl rfl ?_
  refine wi_putL rfl rfl ?_
  refine wi_ret rfl ?_
  refine wi_putR rfl ⟨rfl, Nat.le_of_ble_eq_true rfl, Nat.le_of_ble_eq_true rfl⟩ rfl ?_
  refine am_norm (sh' := am_shT.take 97) (mr' := am_mr15) rfl rfl ?_
  refine wi_aload_n rfl rfl ?_
  refine wi_new rfl rfl (q := 97) rfl (n := 5) rfl ?_
  refine wi_dup rfl rfl ?_
  refine wi_callI0 rfl (by decide) (by decide) rfl rfl rfl rfl rfl ?_
  refine wi_aload_n rfl rfl ?_
  refine wi_obj rfl rfl ?_
  refine wi_aload_n rfl rfl ?_
  refine wi_bipush (x := 8) rfl rfl ?_
  refine wi_newarray rfl ⟨by decide, by decide, by decide⟩ (t := 100) rfl (n := 8) rfl (q := 98) rfl ?_
  refine wi_putR rfl ⟨rfl, Nat.le_of_ble_eq_true rfl, Nat.le_of_ble_eq_true rfl⟩ rfl ?_
  refine wi_aload_n rfl rfl ?_
  refine wi_bipush (x := 8) rfl rfl ?_
  refine wi_bipush (x := 6) rfl rfl ?_
  refine wi_mna rfl ⟨by decide, by decide, by decide, by decide⟩ (n := 8) rfl (m := 6) rfl (q := 99) rfl ?_
  refine am_norm (sh' := am_shT.take 108) (mr' := am_mr16) rfl rfl ?_
  refine wi_putR rfl ⟨rfl, Nat.le_of_ble_eq_true rfl, Nat.le_of_ble_eq_true rfl⟩ rfl ?_
  refine wi_aload_n rfl rfl ?_
  refine wi_bipush (x := 8) rfl rfl ?_
  refine wi_bipush (x := 6) rfl rfl ?_
  refine wi_mna rfl ⟨by decide, by decide, by decide, by decide⟩ (n := 8) rfl (m := 6) rfl (q := 108) rfl ?_
  refine am_norm (sh' := am_shT.take 117) (mr' := am_mr17) rfl rfl ?_
  refine wi_putR rfl ⟨rfl, Nat.le_of_ble_eq_true rfl, Nat.le_of_ble_eq_true rfl⟩ rfl ?_
  refine wi_aload_n rfl rfl ?_
  refine wi_bipush (x := 8) rfl rfl ?_
  refine wi_bipush (x := 6) rfl rfl ?_
  refine wi_mna rfl ⟨by decide, by decide, by decide, by decide⟩ (n := 8) rfl (m := 6) rfl (q := 117) rfl ?_
  refine am_norm (sh' := am_shT.take 126) (mr' := am_mr18) rfl rfl ?_
  refine wi_putR rfl ⟨rfl, Nat.le_of_ble_eq_true rfl, Nat.le_of_ble_eq_true rfl⟩ rfl ?_
  refine wi_aload_n rfl rfl ?_
  refine wi_iconst (x := 0) rfl rfl ?_
  refine wi_putI rfl rfl ?_
  refine wi_ret rfl ?_
  refine wi_putR rfl ⟨rfl, Nat.le_of_ble_eq_true rfl, Nat.le_of_ble_eq_true rfl⟩ rfl ?_
  refine wi_aload_n rfl rfl ?_
  refine wi_iconst (x := 0) rfl rfl ?_
  refine wi_putI rfl rfl ?_
  refine wi_aload_n rfl rfl ?_
  refine wi_iconst (x := 0) rfl rfl ?_
  refine wi_putI rfl rfl ?_
  refine wi_aload_n rfl rfl ?_
  refine wi_iconst (x := 0) rfl rfl ?_
  refine wi_putI rfl rfl ?_
  refine wi_iconst (x := 0) rfl rfl ?_
  refine wi_istore_n rfl (Nat.le_of_ble_eq_true rfl) rfl rfl ?_
  refine wi_iload_n rfl rfl ?_
  refine wi_bipush (x := 8) rfl rfl ?_
  refine wi_brF rfl rfl ?_
  refine wi_aload_n rfl rfl ?_
  refine wi_getR rfl rfl rfl ?_
  refine wi_iload_n rfl rfl ?_
  refine wi_new rfl rfl (q := 126) rfl (n := 8) rfl ?_
  refine wi_dup rfl rfl ?_
  refine wi_callI0 rfl (by decide) (by decide) rfl rfl rfl rfl rfl ?_
  refine wi_aload_n rfl rfl ?_
  refine wi_obj rfl rfl ?_
  refine wi_aload_n rfl rfl ?_
  refine wi_bipush (x := 40) rfl rfl ?_
  refine wi_putI rfl rfl ?_
  refine wi_aload_n rfl rfl ?_
  refine wi_bipush (x := 40) rfl rfl ?_
  refine wi_putI rfl rfl ?_
  refine wi_aload_n rfl rfl ?_
  refine wi_bipush (x := 40) rfl rfl ?_
  refine wi_putI rfl rfl ?_
  refine wi_aload_n rfl rfl ?_
  refine wi_bipush (x := 12) rfl rfl ?_
  refine wi_putI rfl rfl ?_
  refine wi_aload_n rfl rfl ?_
  refine wi_bipush (x := 30) rfl rfl ?_
  refine wi_putI rfl rfl ?_
  refine wi_aload_n rfl rfl ?_
  refine wi_iconst (x := 0) rfl rfl ?_
  refine wi_putI rfl rfl ?_
  refine wi_aload_n rfl rfl ?_
  refine wi_iconst (x := 0) rfl rfl ?_
  refine wi_putI rfl rfl ?_
  refine wi_aload_n rfl rfl ?_
  refine wi_iconst (x := 0) rfl rfl ?_
  refine wi_putI rfl rfl ?_
  refine wi_ret rfl ?_
  refine wi_aastore rfl rfl rfl (q := 0) rfl ⟨rfl, by decide, by decide⟩ ?_
  refine wi_iinc (z := 1) rfl rfl rfl rfl rfl ?_
  refine wi_goto rfl ?_
  refine wi_iload_n rfl rfl ?_
  refine wi_bipush (x := 8) rfl rfl ?_
  refine wi_brF rfl rfl ?_
  refine wi_aload_n rfl rfl ?_
  refine wi_getR rfl rfl rfl ?_
  refine wi_iload_n rfl rfl ?_
  refine wi_new rfl rfl (q := 127) rfl (n := 8) rfl ?_
  refine wi_dup rfl rfl ?_
  refine wi_callI0 rfl (by decide) (by decide) rfl rfl rfl rfl rfl ?_
  refine wi_aload_n rfl rfl ?_
  refine wi_obj rfl rfl ?_
  refine wi_aload_n rfl rfl ?_
  refine wi_bipush (x := 40) rfl rfl ?_
  refine wi_putI rfl rfl ?_
  refine wi_aload_n rfl rfl ?_
  refine wi_bipush (x := 40) rfl rfl ?_
  refine wi_putI rfl rfl ?_
  refine wi_aload_n rfl rfl ?_
  refine wi_bipush (x := 40) rfl rfl ?_
  refine wi_putI rfl rfl ?_
  refine wi_aload_n rfl rfl ?_
  refine wi_bipush (x := 12) rfl rfl ?_
  refine wi_putI rfl rfl ?_
  refine wi_aload_n rfl rfl ?_
  refine wi_bipush (x := 30) rfl rfl ?_
  refine wi_putI rfl rfl ?_
  refine wi_aload_n rfl rfl ?_
  refine wi_iconst (x := 0) rfl rfl ?_
  refine wi_putI rfl rfl ?_
  refine wi_aload_n rfl rfl ?_
  refine wi_iconst (x := 0) rfl rfl ?_
  refine wi_putI rfl rfl ?_
  refine wi_aload_n rfl rfl ?_
  refine wi_iconst (x := 0) rfl rfl ?_
  refine wi_putI rfl rfl ?_
  refine wi_ret rfl ?_
  refine wi_aastore rfl rfl rfl (q := 1) rfl ⟨rfl, by decide, by decide⟩ ?_
  refine wi_iinc (z := 2) rfl rfl rfl rfl rfl ?_
  refine wi_goto rfl ?_
  refine wi_iload_n rfl rfl ?_
  refine wi_bipush (x := 8) rfl rfl ?_
  refine wi_brF rfl rfl ?_
  refine wi_aload_n rfl rfl ?_
  refine wi_getR rfl rfl rfl ?_
  refine wi_iload_n rfl rfl ?_
  refine wi_new rfl rfl (q := 128) rfl (n := 8) rfl ?_
  refine wi_dup rfl rfl ?_
  refine wi_callI0 rfl (by decide) (by decide) rfl rfl rfl rfl rfl ?_
  refine wi_aload_n rfl rfl ?_
  refine wi_obj rfl rfl ?_
  refine wi_aload_n rfl rfl ?_
  refine wi_bipush (x := 40) rfl rfl ?_
  refine wi_putI rfl rfl ?_
  refine wi_aload_n rfl rfl ?_
  refine wi_bipush (x := 40) rfl rfl ?_
  refine wi_putI rfl rfl ?_
  refine wi_aload_n rfl rfl ?_
  refine wi_bipush (x := 40) rfl rfl ?_
  refine wi_putI rfl rfl ?_
  refine wi_aload_n rfl rfl ?_
  refine wi_bipush (x := 12) rfl rfl ?_
  refine wi_putI rfl rfl ?_
  refine wi_aload_n rfl rfl ?_
  refine wi_bipush (x := 30) rfl rfl ?_
  refine wi_putI rfl rfl ?_
  refine wi_aload_n rfl rfl ?_
  refine wi_iconst (x := 0) rfl rfl ?_
  refine wi_putI rfl rfl ?_
  refine wi_aload_n rfl rfl ?_
  refine wi_iconst (x := 0) rfl rfl ?_
  refine wi_putI rfl rfl ?_
  refine wi_aload_n rfl rfl ?_
  refine wi_iconst (x := 0) rfl rfl ?_
  refine wi_putI rfl rfl ?_
  refine wi_ret rfl ?_
  refine wi_aastore rfl rfl rfl (q := 2) rfl ⟨rfl, by decide, by decide⟩ ?_
  refine am_norm (sh' := am_shT.take 129) (mr' := am_mr19) rfl rfl ?_
  refine wi_iinc (z := 3) rfl rfl rfl rfl rfl ?_
  refine wi_goto rfl ?_
  refine wi_iload_n rfl rfl ?_
  refine wi_bipush (x := 8) rfl rfl ?_
  refine wi_brF rfl rfl ?_
  refine wi_aload_n rfl rfl ?_
  refine wi_getR rfl rfl rfl ?_
  refine wi_iload_n rfl rfl ?_
  refine wi_new rfl rfl (q := 129) rfl (n := 8) rfl ?_
  refine wi_dup rfl rfl ?_
  refine wi_callI0 rfl (by decide) (by decide) rfl rfl rfl rfl rfl ?_
  refine wi_aload_n rfl rfl ?_
  refine wi_obj rfl rfl ?_
  refine wi_aload_n rfl rfl ?_
  refine wi_bipush (x := 40) rfl rfl ?_
  refine wi_putI rfl rfl ?_
  refine wi_aload_n rfl rfl ?_
  refine wi_bipush (x := 40) rfl rfl ?_
  refine wi_putI rfl rfl ?_
  refine wi_aload_n rfl rfl ?_
  refine wi_bipush (x := 40) rfl rfl ?_
  refine wi_putI rfl rfl ?_
  refine wi_aload_n rfl rfl ?_
  refine wi_bipush (x := 12) rfl rfl ?_
  refine wi_putI rfl rfl ?_
  refine wi_aload_n rfl rfl ?_
  refine wi_bipush (x := 30) rfl rfl ?_
  refine wi_putI rfl rfl ?_
  refine wi_aload_n rfl rfl ?_
  refine wi_iconst (x := 0) rfl rfl ?_
  refine wi_putI rfl rfl ?_
  refine wi_aload_n rfl rfl ?_
  refine wi_iconst (x := 0) rfl rfl ?_
  refine wi_putI rfl rfl ?_
  refine wi_aload_n rfl rfl ?_
  refine wi_iconst (x := 0) rfl rfl ?_
  refine wi_putI rfl rfl ?_
  refine wi_ret rfl ?_
  refine wi_aastore rfl rfl rfl (q := 3) rfl ⟨rfl, by decide, by decide⟩ ?_
  refine wi_iinc (z := 4) rfl rfl rfl rfl rfl ?_
  refine wi_goto rfl ?_
  refine wi_iload_n rfl rfl ?_
  refine wi_bipush (x := 8) rfl rfl ?_
  refine wi_brF rfl rfl ?_
  refine wi_aload_n rfl rfl ?_
  refine wi_getR rfl rfl rfl ?_
  refine wi_iload_n rfl rfl ?_
  refine wi_new rfl rfl (q := 130) rfl (n := 8) rfl ?_
  refine wi_dup rfl rfl ?_
  refine wi_callI0 rfl (by decide) (by decide) rfl rfl rfl rfl rfl ?_
  refine wi_aload_n rfl rfl ?_
  refine wi_obj rfl rfl ?_
  refine wi_aload_n rfl rfl ?_
  refine wi_bipush (x := 40) rfl rfl ?_
  refine wi_putI rfl rfl ?_
  refine wi_aload_n rfl rfl ?_
  refine wi_bipush (x := 40) rfl rfl ?_
  refine wi_putI rfl rfl ?_
  refine wi_aload_n rfl rfl ?_
  refine wi_bipush (x := 40) rfl rfl ?_
  refine wi_putI rfl rfl ?_
  refine wi_aload_n rfl rfl ?_
  refine wi_bipush (x := 12) rfl rfl ?_
  refine wi_putI rfl rfl ?_
  refine wi_aload_n rfl rfl ?_
  refine wi_bipush (x := 30) rfl rfl ?_
  refine wi_putI rfl rfl ?_
  refine wi_aload_n rfl rfl ?_
  refine wi_iconst (x := 0) rfl rfl ?_
  refine wi_putI rfl rfl ?_
  refine wi_aload_n rfl rfl ?_
  refine wi_iconst (x := 0) rfl rfl ?_
  refine wi_putI rfl rfl ?_
  refine wi_aload_n rfl rfl ?_
  refine wi_iconst (x := 0) rfl rfl ?_
  refine wi_putI rfl rfl ?_
  refine wi_ret rfl ?_
  refine wi_aastore rfl rfl rfl (q := 4) rfl ⟨rfl, by decide, by decide⟩ ?_
  refine wi_iinc (z := 5) rfl rfl rfl rfl rfl ?_
  refine wi_goto rfl ?_
  refine wi_iload_n rfl rfl ?_
  refine wi_bipush (x := 8) rfl rfl ?_
  refine wi_brF rfl rfl ?_
  refine wi_aload_n rfl rfl ?_
  refine wi_getR rfl rfl rfl ?_
  refine wi_iload_n rfl rfl ?_
  refine wi_new rfl rfl (q := 131) rfl (n := 8) rfl ?_
  refine wi_dup rfl rfl ?_
  refine wi_callI0 rfl (by decide) (by decide) rfl rfl rfl rfl rfl ?_
  refine wi_aload_n rfl rfl ?_
  refine wi_obj rfl rfl ?_
  refine wi_aload_n rfl rfl ?_
  refine wi_bipush (x := 40) rfl rfl ?_
  refine wi_putI rfl rfl ?_
  refine wi_aload_n rfl rfl ?_
  refine wi_bipush (x := 40) rfl rfl ?_
  refine wi_putI rfl rfl ?_
  refine wi_aload_n rfl rfl ?_
  refine wi_bipush (x := 40) rfl rfl ?_
  refine wi_putI rfl rfl ?_
  refine wi_aload_n rfl rfl ?_
  refine wi_bipush (x := 12) rfl rfl ?_
  refine wi_putI rfl rfl ?_
  refine wi_aload_n rfl rfl ?_
  refine wi_bipush (x := 30) rfl rfl ?_
  refine wi_putI rfl rfl ?_
  refine wi_aload_n rfl rfl ?_
  refine wi_iconst (x := 0) rfl rfl ?_
  refine wi_putI rfl rfl ?_
  refine wi_aload_n rfl rfl ?_
  refine wi_iconst (x := 0) rfl rfl ?_
  refine wi_putI rfl rfl ?_
  refine wi_aload_n rfl rfl ?_
  refine wi_iconst (x := 0) rfl rfl ?_
  refine wi_putI rfl rfl ?_
  refine wi_ret rfl ?_
  refine wi_aastore rfl rfl rfl (q := 5) rfl ⟨rfl, by decide, by decide⟩ ?_
  refine wi_iinc (z := 6) rfl rfl rfl rfl rfl ?_
  refine wi_goto rfl ?_
  refine wi_iload_n rfl rfl ?_
  refine wi_bipush (x := 8) rfl rfl ?_
  refine wi_brF rfl rfl ?_
  refine wi_aload_n rfl rfl ?_
  refine wi_getR rfl rfl rfl ?_
  refine wi_iload_n rfl rfl ?_
  refine wi_new rfl rfl (q := 132) rfl (n := 8) rfl ?_
  refine wi_dup rfl rfl ?_
  refine wi_callI0 rfl (by decide) (by decide) rfl rfl rfl rfl rfl ?_
  refine wi_aload_n rfl rfl ?_
  refine wi_obj rfl rfl ?_
  refine wi_aload_n rfl rfl ?_
  refine wi_bipush (x := 40) rfl rfl ?_
  refine wi_putI rfl rfl ?_
  refine wi_aload_n rfl rfl ?_
  refine wi_bipush (x := 40) rfl rfl ?_
  refine wi_putI rfl rfl ?_
  refine wi_aload_n rfl rfl ?_
  refine wi_bipush (x := 40) rfl rfl ?_
  refine wi_putI rfl rfl ?_
  refine wi_aload_n rfl rfl ?_
  refine wi_bipush (x := 12) rfl rfl ?_
  refine wi_putI rfl rfl ?_
  refine wi_aload_n rfl rfl ?_
  refine wi_bipush (x := 30) rfl rfl ?_
  refine wi_putI rfl rfl ?_
  refine wi_aload_n rfl rfl ?_
  refine wi_iconst (x := 0) rfl rfl ?_
  refine wi_putI rfl rfl ?_
  refine wi_aload_n rfl rfl ?_
  refine wi_iconst (x := 0) rfl rfl ?_
  refine wi_putI rfl rfl ?_
  refine wi_aload_n rfl rfl ?_
  refine wi_iconst (x := 0) rfl rfl ?_
  refine wi_putI rfl rfl ?_
  refine wi_ret rfl ?_
  refine wi_aastore rfl rfl rfl (q := 6) rfl ⟨rfl, by decide, by decide⟩ ?_
  refine am_norm (sh' := am_shT.take 133) (mr' := am_mr20) rfl rfl ?_
  refine wi_iinc (z := 7) rfl rfl rfl rfl rfl ?_
  refine wi_goto rfl ?_
  refine wi_iload_n rfl rfl ?_
  refine wi_bipush (x := 8) rfl rfl ?_
  refine wi_brF rfl rfl ?_
  refine wi_aload_n rfl rfl ?_
  refine wi_getR rfl rfl rfl ?_
  refine wi_iload_n rfl rfl ?_
  refine wi_new rfl rfl (q := 133) rfl (n := 8) rfl ?_
  refine wi_dup rfl rfl ?_
  refine wi_callI0 rfl (by decide) (by decide) rfl rfl rfl rfl rfl ?_
  refine wi_aload_n rfl rfl ?_
  refine wi_obj rfl rfl ?_
  refine wi_aload_n rfl rfl ?_
  refine wi_bipush (x := 40) rfl rfl ?_
  refine wi_putI rfl rfl ?_
  refine wi_aload_n rfl rfl ?_
  refine wi_bipush (x := 40) rfl rfl ?_
  refine wi_putI rfl rfl ?_
  refine wi_aload_n rfl rfl ?_
  refine wi_bipush (x := 40) rfl rfl ?_
  refine wi_putI rfl rfl ?_
  refine wi_aload_n rfl rfl ?_
  refine wi_bipush (x := 12) rfl rfl ?_
  refine wi_putI rfl rfl ?_
  refine wi_aload_n rfl rfl ?_
  refine wi_bipush (x := 30) rfl rfl ?_
  refine wi_putI rfl rfl ?_
  refine wi_aload_n rfl rfl ?_
  refine wi_iconst (x := 0) rfl rfl ?_
  refine wi_putI rfl rfl ?_
  refine wi_aload_n rfl rfl ?_
  refine wi_iconst (x := 0) rfl rfl ?_
  refine wi_putI rfl rfl ?_
  refine wi_aload_n rfl rfl ?_
  refine wi_iconst (x := 0) rfl rfl ?_
  refine wi_putI rfl rfl ?_
  refine wi_ret rfl ?_
  refine wi_aastore rfl rfl rfl (q := 7) rfl ⟨rfl, by decide, by decide⟩ ?_
  refine wi_iinc (z := 8) rfl rfl rfl rfl rfl ?_
  refine wi_goto rfl ?_
  refine wi_iload_n rfl rfl ?_
  refine wi_bipush (x := 8) rfl rfl ?_
  refine wi_brT rfl rfl ?_
  refine wi_ret rfl ?_
  refine wi_astore_n rfl (Nat.le_of_ble_eq_true rfl) rfl rfl ?_
  refine wi_new rfl rfl (q := 134) rfl (n := 58) rfl ?_
  refine wi_dup rfl rfl ?_
  refine wi_callI0 rfl (by decide) (by decide) rfl rfl rfl rfl rfl ?_
  refine wi_aload_n rfl rfl ?_
  refine wi_obj rfl rfl ?_
  refine wi_aload_n rfl rfl ?_
  refine wi_lconst (lx := 1) rfl rfl ?_
  refine wi_putL rfl rfl ?_
  refine wi_aload_n rfl rfl ?_
  refine wi_bipush (x := 48) rfl rfl ?_
  refine wi_newarray rfl ⟨by decide, by decide, by decide⟩ (t := 100) rfl (n := 48) rfl (q := 135) rfl ?_
  refine wi_putR rfl ⟨rfl, Nat.le_of_ble_eq_true rfl, Nat.le_of_ble_eq_true rfl⟩ rfl ?_
  refine wi_aload_n rfl rfl ?_
  refine wi_bipush (x := 8) rfl rfl ?_
  refine wi_newarray rfl ⟨by decide, by decide, by decide⟩ (t := 100) rfl (n := 8) rfl (q := 136) rfl ?_
  refine wi_putR rfl ⟨rfl, Nat.le_of_ble_eq_true rfl, Nat.le_of_ble_eq_true rfl⟩ rfl ?_
  refine wi_aload_n rfl rfl ?_
  refine wi_bipush (x := 8) rfl rfl ?_
  refine wi_newarray rfl ⟨by decide, by decide, by decide⟩ (t := 100) rfl (n := 8) rfl (q := 137) rfl ?_
  refine am_norm (sh' := am_shT.take 138) (mr' := am_mr21) rfl rfl ?_
  refine wi_putR rfl ⟨rfl, Nat.le_of_ble_eq_true rfl, Nat.le_of_ble_eq_true rfl⟩ rfl ?_
  refine wi_aload_n rfl rfl ?_
  refine wi_sipush (x := 1000) rfl rfl ?_
  refine wi_newarray rfl ⟨by decide, by decide, by decide⟩ (t := 100) rfl (n := 1000) rfl (q := 138) rfl ?_
  refine wi_putR rfl ⟨rfl, Nat.le_of_ble_eq_true rfl, Nat.le_of_ble_eq_true rfl⟩ rfl ?_
  refine wi_aload_n rfl rfl ?_
  refine wi_sipush (x := 1000) rfl rfl ?_
  refine wi_newarray rfl ⟨by decide, by decide, by decide⟩ (t := 100) rfl (n := 1000) rfl (q := 139) rfl ?_
  refine wi_putR rfl ⟨rfl, Nat.le_of_ble_eq_true rfl, Nat.le_of_ble_eq_true rfl⟩ rfl ?_
  refine wi_aload_n rfl rfl ?_
  refine wi_sipush (x := 1000) rfl rfl ?_
  refine wi_newarray rfl ⟨by decide, by decide, by decide⟩ (t := 100) rfl (n := 1000) rfl (q := 140) rfl ?_
  refine wi_putR rfl ⟨rfl, Nat.le_of_ble_eq_true rfl, Nat.le_of_ble_eq_true rfl⟩ rfl ?_
  refine wi_aload_n rfl rfl ?_
  refine wi_sipush (x := 1000) rfl rfl ?_
  refine wi_newarray rfl ⟨by decide, by decide, by decide⟩ (t := 100) rfl (n := 1000) rfl (q := 141) rfl ?_
  refine am_norm (sh' := am_shT.take 142) (mr' := am_mr22) rfl rfl ?_
  refine wi_putR rfl ⟨rfl, Nat.le_of_ble_eq_true rfl, Nat.le_of_ble_eq_true rfl⟩ rfl ?_
  refine wi_aload_n rfl rfl ?_
  refine wi_bipush (x := 6) rfl rfl ?_
  refine wi_newarray rfl ⟨by decide, by decide, by decide⟩ (t := 100) rfl (n := 6) rfl (q := 142) rfl ?_
  refine wi_putR rfl ⟨rfl, Nat.le_of_ble_eq_true rfl, Nat.le_of_ble_eq_true rfl⟩ rfl ?_
  refine wi_aload_n rfl rfl ?_
  refine wi_sipush (x := 200) rfl rfl ?_
  refine wi_newarray rfl ⟨by decide, by decide, by decide⟩ (t := 100) rfl (n := 200) rfl (q := 143) rfl ?_
  refine wi_putR rfl ⟨rfl, Nat.le_of_ble_eq_true rfl, Nat.le_of_ble_eq_true rfl⟩ rfl ?_
  refine wi_aload_n rfl rfl ?_
  refine wi_sipush (x := 200) rfl rfl ?_
  refine wi_newarray rfl ⟨by decide, by decide, by decide⟩ (t := 100) rfl (n := 200) rfl (q := 144) rfl ?_
  refine wi_putR rfl ⟨rfl, Nat.le_of_ble_eq_true rfl, Nat.le_of_ble_eq_true rfl⟩ rfl ?_
  refine wi_aload_n rfl rfl ?_
  refine wi_sipush (x := 200) rfl rfl ?_
  refine wi_newarray rfl ⟨by decide, by decide, by decide⟩ (t := 100) rfl (n := 200) rfl (q := 145) rfl ?_
  refine am_norm (sh' := am_shT.take 146) (mr' := am_mr23) rfl rfl ?_
  refine wi_putR rfl ⟨rfl, Nat.le_of_ble_eq_true rfl, Nat.le_of_ble_eq_true rfl⟩ rfl ?_
  refine wi_aload_n rfl rfl ?_
  refine wi_bipush (x := 6) rfl rfl ?_
  refine wi_newarray rfl ⟨by decide, by decide, by decide⟩ (t := 100) rfl (n := 6) rfl (q := 146) rfl ?_
  refine wi_putR rfl ⟨rfl, Nat.le_of_ble_eq_true rfl, Nat.le_of_ble_eq_true rfl⟩ rfl ?_
  refine wi_aload_n rfl rfl ?_
  refine wi_bipush (x := 6) rfl rfl ?_
  refine wi_newarray rfl ⟨by decide, by decide, by decide⟩ (t := 100) rfl (n := 6) rfl (q := 147) rfl ?_
  refine wi_putR rfl ⟨rfl, Nat.le_of_ble_eq_true rfl, Nat.le_of_ble_eq_true rfl⟩ rfl ?_
  refine wi_aload_n rfl rfl ?_
  refine wi_bipush (x := 10) rfl rfl ?_
  refine wi_putI rfl rfl ?_
  refine wi_aload_n rfl rfl ?_
  refine wi_bipush (x := 20) rfl rfl ?_
  refine wi_putI rfl rfl ?_
  refine wi_aload_n rfl rfl ?_
  refine wi_bipush (x := 8) rfl rfl ?_
  refine wi_newarray rfl ⟨by decide, by decide, by decide⟩ (t := 100) rfl (n := 8) rfl (q := 148) rfl ?_
  refine wi_putR rfl ⟨rfl, Nat.le_of_ble_eq_true rfl, Nat.le_of_ble_eq_true rfl⟩ rfl ?_
  refine wi_aload_n rfl rfl ?_
  refine wi_bipush (x := 8) rfl rfl ?_
  refine wi_newarray rfl ⟨by decide, by decide, by decide⟩ (t := 100) rfl (n := 8) rfl (q := 149) rfl ?_
  refine am_norm (sh' := am_shT.take 150) (mr' := am_mr24) rfl rfl ?_
  refine wi_putR rfl ⟨rfl, Nat.le_of_ble_eq_true rfl, Nat.le_of_ble_eq_true rfl⟩ rfl ?_
  refine wi_aload_n rfl rfl ?_
  refine wi_bipush (x := 64) rfl rfl ?_
  refine wi_newarray rfl ⟨by decide, by decide, by decide⟩ (t := 100) rfl (n := 64) rfl (q := 150) rfl ?_
  refine wi_putR rfl ⟨rfl, Nat.le_of_ble_eq_true rfl, Nat.le_of_ble_eq_true rfl⟩ rfl ?_
  refine wi_aload_n rfl rfl ?_
  refine wi_bipush (x := 8) rfl rfl ?_
  refine wi_newarray rfl ⟨by decide, by decide, by decide⟩ (t := 100) rfl (n := 8) rfl (q := 151) rfl ?_
  refine wi_putR rfl ⟨rfl, Nat.le_of_ble_eq_true rfl, Nat.le_of_ble_eq_true rfl⟩ rfl ?_
  refine wi_aload_n rfl rfl ?_
  refine wi_bipush (x := 8) rfl rfl ?_
  refine wi_newarray rfl ⟨by decide, by decide, by decide⟩ (t := 100) rfl (n := 8) rfl (q := 152) rfl ?_
  refine wi_putR rfl ⟨rfl, Nat.le_of_ble_eq_true rfl, Nat.le_of_ble_eq_true rfl⟩ rfl ?_
  refine wi_aload_n rfl rfl ?_
  refine wi_bipush (x := 9) rfl rfl ?_
  refine wi_newarray rfl ⟨by decide, by decide, by decide⟩ (t := 100) rfl (n := 9) rfl (q := 153) rfl ?_
  refine am_norm (sh' := am_shT.take 154) (mr' := am_mr25) rfl rfl ?_
  refine wi_putR rfl ⟨rfl, Nat.le_of_ble_eq_true rfl, Nat.le_of_ble_eq_true rfl⟩ rfl ?_
  refine wi_aload_n rfl rfl ?_
  refine wi_bipush (x := 100) rfl rfl ?_
  refine wi_newarray rfl ⟨by decide, by decide, by decide⟩ (t := 100) rfl (n := 100) rfl (q := 154) rfl ?_
  refine wi_putR rfl ⟨rfl, Nat.le_of_ble_eq_true rfl, Nat.le_of_ble_eq_true rfl⟩ rfl ?_
  refine wi_aload_n rfl rfl ?_
  refine wi_bipush (x := 100) rfl rfl ?_
  refine wi_newarray rfl ⟨by decide, by decide, by decide⟩ (t := 100) rfl (n := 100) rfl (q := 155) rfl ?_
  refine wi_putR rfl ⟨rfl, Nat.le_of_ble_eq_true rfl, Nat.le_of_ble_eq_true rfl⟩ rfl ?_
  refine wi_aload_n rfl rfl ?_
  refine wi_bipush (x := 100) rfl rfl ?_
  refine wi_newarray rfl ⟨by decide, by decide, by decide⟩ (t := 100) rfl (n := 100) rfl (q := 156) rfl ?_
  refine wi_putR rfl ⟨rfl, Nat.le_of_ble_eq_true rfl, Nat.le_of_ble_eq_true rfl⟩ rfl ?_
  refine wi_aload_n rfl rfl ?_
  refine wi_sipush (x := 400) rfl rfl ?_
  refine wi_newarray rfl ⟨by decide, by decide, by decide⟩ (t := 101) rfl (n := 400) rfl (q := 157) rfl ?_
  refine am_norm (sh' := am_shT.take 158) (mr' := am_mr26) rfl rfl ?_
  refine wi_putR rfl ⟨rfl, Nat.le_of_ble_eq_true rfl, Nat.le_of_ble_eq_true rfl⟩ rfl ?_
  refine wi_aload_n rfl rfl ?_
  refine wi_iconst (x := (-1)) rfl rfl ?_
  refine wi_putI rfl rfl ?_
  refine wi_aload_n rfl rfl ?_
  refine wi_iconst (x := (-1)) rfl rfl ?_
  refine wi_putI rfl rfl ?_
  refine wi_aload_n rfl rfl ?_
  refine wi_bipush (x := 8) rfl rfl ?_
  refine wi_newarray rfl ⟨by decide, by decide, by decide⟩ (t := 100) rfl (n := 8) rfl (q := 158) rfl ?_
  refine wi_putR rfl ⟨rfl, Nat.le_of_ble_eq_true rfl, Nat.le_of_ble_eq_true rfl⟩ rfl ?_
  refine wi_aload_n rfl rfl ?_
  refine wi_bipush (x := 48) rfl rfl ?_
  refine wi_newarray rfl ⟨by decide, by decide, by decide⟩ (t := 100) rfl (n := 48) rfl (q := 159) rfl ?_
  refine wi_putR rfl ⟨rfl, Nat.le_of_ble_eq_true rfl, Nat.le_of_ble_eq_true rfl⟩ rfl ?_
  refine wi_aload_n rfl rfl ?_
  refine wi_bipush (x := 48) rfl rfl ?_
  refine wi_newarray rfl ⟨by decide, by decide, by decide⟩ (t := 100) rfl (n := 48) rfl (q := 160) rfl ?_
  refine wi_putR rfl ⟨rfl, Nat.le_of_ble_eq_true rfl, Nat.le_of_ble_eq_true rfl⟩ rfl ?_
  refine wi_aload_n rfl rfl ?_
  refine wi_bipush (x := 48) rfl rfl ?_
  refine wi_newarray rfl ⟨by decide, by decide, by decide⟩ (t := 100) rfl (n := 48) rfl (q := 161) rfl ?_
  refine am_norm (sh' := am_shT.take 162) (mr' := am_mr27) rfl rfl ?_
  refine wi_putR rfl ⟨rfl, Nat.le_of_ble_eq_true rfl, Nat.le_of_ble_eq_true rfl⟩ rfl ?_
  refine wi_aload_n rfl rfl ?_
  refine wi_bipush (x := 8) rfl rfl ?_
  refine wi_newarray rfl ⟨by decide, by decide, by decide⟩ (t := 100) rfl (n := 8) rfl (q := 162) rfl ?_
  refine wi_putR rfl ⟨rfl, Nat.le_of_ble_eq_true rfl, Nat.le_of_ble_eq_true rfl⟩ rfl ?_
  refine wi_aload_n rfl rfl ?_
  refine wi_bipush (x := 48) rfl rfl ?_
  refine wi_newarray rfl ⟨by decide, by decide, by decide⟩ (t := 100) rfl (n := 48) rfl (q := 163) rfl ?_
  refine wi_putR rfl ⟨rfl, Nat.le_of_ble_eq_true rfl, Nat.le_of_ble_eq_true rfl⟩ rfl ?_
  refine wi_aload_n rfl rfl ?_
  refine wi_bipush (x := 48) rfl rfl ?_
  refine wi_newarray rfl ⟨by decide, by decide, by decide⟩ (t := 100) rfl (n := 48) rfl (q := 164) rfl ?_
  refine wi_putR rfl ⟨rfl, Nat.le_of_ble_eq_true rfl, Nat.le_of_ble_eq_true rfl⟩ rfl ?_
  refine wi_aload_n rfl rfl ?_
  refine wi_bipush (x := 48) rfl rfl ?_
  refine wi_newarray rfl ⟨by decide, by decide, by decide⟩ (t := 100) rfl (n := 48) rfl (q := 165) rfl ?_
  refine am_norm (sh' := am_shT.take 166) (mr' := am_mr28) rfl rfl ?_
  refine wi_putR rfl ⟨rfl, Nat.le_of_ble_eq_true rfl, Nat.le_of_ble_eq_true rfl⟩ rfl ?_
  refine wi_aload_n rfl rfl ?_
  refine wi_bipush (x := 8) rfl rfl ?_
  refine wi_newarray rfl ⟨by decide, by decide, by decide⟩ (t := 103) rfl (n := 8) rfl (q := 166) rfl ?_
  refine wi_putR rfl ⟨rfl, Nat.le_of_ble_eq_true rfl, Nat.le_of_ble_eq_true rfl⟩ rfl ?_
  refine wi_ret rfl ?_
  refine wi_astore_n rfl (Nat.le_of_ble_eq_true rfl) rfl rfl ?_
  refine wi_iconst (x := 0) rfl rfl ?_
  refine wi_istore_n rfl (Nat.le_of_ble_eq_true rfl) rfl rfl ?_
  refine am_norm (sh' := am_shT.take 167) (mr' := am_mr29) rfl rfl ?_
  refine am_norm (sh' := am_shT) (mr' := am_mrT) rfl rfl ?_
  exact hk _ _ ⟨⟨rfl, rfl, rfl, rfl, rfl, rfl, rfl, rfl, rfl, rfl, rfl, (fun k => rfl)⟩, ⟨(fun k => rfl), (fun k => rfl), (fun k => rfl), rfl, (fun k => rfl), (fun k => rfl), (fun k => rfl), rfl, rfl, rfl, (fun k => rfl), (fun k => rfl)⟩, ⟨(fun k => rfl), (fun k => rfl), rfl, rfl, rfl, rfl, rfl, rfl, rfl, rfl, rfl, rfl⟩, ⟨rfl, rfl, rfl, rfl, rfl, rfl, rfl, rfl, rfl, rfl, rfl, rfl⟩, ⟨rfl, rfl, rfl, rfl, rfl, rfl, rfl, rfl, rfl, rfl, rfl, rfl⟩, ⟨rfl, rfl, rfl, rfl, rfl, rfl, rfl, rfl, rfl, rfl, rfl, rfl⟩, ⟨rfl, rfl, rfl, rfl, rfl, rfl, rfl, rfl, rfl, rfl, rfl, (fun k => rfl)⟩, ⟨rfl, rfl, rfl, rfl, rfl, rfl, rfl, rfl, rfl, (fun k => rfl), (fun k => rfl), rfl⟩, ⟨(fun k => rfl), (fun k => rfl), (fun k => rfl), (fun k => rfl), (fun k => rfl), (fun k => rfl), (fun k => rfl), (fun k => rfl), (fun k => rfl), (fun k => rfl), (fun k => rfl), (fun k => rfl)⟩, ⟨(fun k => rfl), (fun k => rfl), (fun k => rfl), (fun k => rfl), (fun k => rfl), (fun k => rfl), (fun k => rfl), (fun k => rfl), (fun k => rfl), (fun k => rfl), (fun k => rfl), (fun k => rfl)⟩, ⟨(fun k => rfl), rfl, rfl, rfl, rfl, rfl, (fun k => rfl), (fun k => rfl), (fun k hk => by match k, hk with | 0, _ => rfl | 1, _ => rfl | 2, _ => rfl | 3, _ => rfl | 4, _ => rfl | 5, _ => rfl | 6, _ => rfl | 7, _ => rfl | n + 8, hk => omega), (fun k hk => by match k, hk with | 0, _ => rfl | 1, _ => rfl | 2, _ => rfl | 3, _ => rfl | 4, _ => rfl | 5, _ => rfl | 6, _ => rfl | 7, _ => rfl | n + 8, hk => omega), (fun k hk => by match k, hk with | 0, _ => rfl | 1, _ => rfl | 2, _ => rfl | 3, _ => rfl | 4, _ => rfl | 5, _ => rfl | 6, _ => rfl | 7, _ => rfl | n + 8, hk => omega), (fun k hk => by match k, hk with | 0, _ => rfl | 1, _ => rfl | 2, _ => rfl | 3, _ => rfl | 4, _ => rfl | 5, _ => rfl | 6, _ => rfl | 7, _ => rfl | n + 8, hk => omega)⟩, ⟨(fun k hk => by match k, hk with | 0, _ => rfl | 1, _ => rfl | 2, _ => rfl | 3, _ => rfl | 4, _ => rfl | 5, _ => rfl | 6, _ => rfl | 7, _ => rfl | n + 8, hk => omega), (fun k hk => by match k, hk with | 0, _ => rfl | 1, _ => rfl | 2, _ => rfl | 3, _ => rfl | 4, _ => rfl | 5, _ => rfl | 6, _ => rfl | 7, _ => rfl | n + 8, hk => omega), (fun k hk => by match k, hk with | 0, _ => rfl | 1, _ => rfl | 2, _ => rfl | 3, _ => rfl | 4, _ => rfl | 5, _ => rfl | 6, _ => rfl | 7, _ => rfl | n + 8, hk => omega), (fun k hk => by match k, hk with | 0, _ => rfl | 1, _ => rfl | 2, _ => rfl | 3, _ => rfl | 4, _ => rfl | 5, _ => rfl | 6, _ => rfl | 7, _ => rfl | n + 8, hk => omega), (fun k => rfl), (fun k => rfl), (fun k => rfl), rfl, rfl, (fun k => rfl), (fun k => rfl), (fun k => rfl)⟩, ⟨(fun k => rfl), (fun k => rfl), (fun k => rfl), (fun k => rfl), (fun k => rfl), (fun k => rfl), (fun k => rfl), (fun k => rfl), (fun k => rfl), (fun k => rfl), (fun k => rfl), (fun k => rfl)⟩, ⟨(fun k => rfl), (fun k => rfl), (fun k => rfl), rfl, rfl, rfl, (fun k => rfl), (fun k => rfl), (fun k => rfl), (fun k => rfl), (fun k => rfl), (fun k => rfl)⟩, ⟨(fun k => rfl), (fun k => rfl), (fun k => rfl), (fun k => rfl), (fun k => rfl), (fun k => rfl), (fun k => rfl), (fun k => rfl), (fun k => rfl), (fun k => rfl), (fun k => rfl), (fun k => rfl)⟩, ⟨(fun k => rfl), (fun k => rfl), (fun k => rfl), (fun k => rfl), (fun k => rfl), (fun k => rfl), (fun k => rfl), rfl, rfl, rfl, rfl, rfl⟩, ⟨rfl, rfl, rfl, rfl, rfl, rfl, rfl, rfl, rfl, rfl, rfl, rfl⟩, ⟨rfl, rfl, rfl, rfl, rfl, rfl, rfl, rfl, rfl, rfl, rfl, rfl⟩, ⟨rfl, rfl, rfl, rfl, rfl, rfl, rfl, rfl, rfl, rfl, rfl, rfl⟩, ⟨rfl, rfl, rfl, rfl, rfl, rfl, rfl, rfl, rfl, rfl, rfl, rfl⟩, ⟨rfl, rfl, rfl, rfl, rfl, rfl, rfl, rfl, rfl, rfl, rfl, rfl⟩, ⟨rfl, rfl, rfl, rfl, rfl, rfl, rfl, rfl, rfl, rfl, rfl, rfl⟩, ⟨rfl, rfl, rfl, rfl, rfl, rfl, rfl, rfl, rfl, rfl, rfl, rfl⟩, ⟨rfl, (fun k => rfl), (fun k => rfl), (fun k => rfl), (fun k => rfl), (fun k => rfl), (fun k => rfl), (fun k => rfl), (fun k => rfl), (fun k => rfl), (fun k => rfl), (fun k => rfl)⟩, ⟨(fun k => rfl), (fun k => rfl), (fun k => rfl), (fun k => rfl), (fun k => rfl), (fun k => rfl), (fun k => rfl), (fun k => rfl), (fun k => rfl), (fun k => rfl), (fun k => rfl), (fun k => rfl)⟩, ⟨(fun k => rfl), (fun k => rfl), (fun k => rfl), (fun k => rfl), (fun k => rfl), (fun k => rfl), (fun k => rfl), (fun k => rfl), (fun k => rfl)⟩⟩
