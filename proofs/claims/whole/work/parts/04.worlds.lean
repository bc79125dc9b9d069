def zz_tC : List ((Nat × List (Option Nat)) ⊕ (Nat × Nat)) := [.inl (8, [some 1, some 9, none, some 17, none, some 18, some 20, some 21, some 24, some 27, some 35, some 37, some 40]), .inl (0, [some 2, some 5, some 7]), .inl (7, [none, some 3, some 4]), .inr (0, 128), .inr (0, 64), .inl (1, [none, some 6]), .inr (0, 24), .inl (1, [none, some 8]), .inr (0, 24), .inl (0, [some 10, some 13, some 15]), .inl (7, [none, some 11, some 12]), .inr (0, 128), .inr (0, 64), .inl (1, [none, some 14]), .inr (0, 24), .inl (1, [none, some 16]), .inr (0, 24), .inr (0, 4), .inl (1, [none, some 19]), .inr (0, 30), .inr (0, 4), .inl (3, [some 22, some 23]), .inr (0, 3), .inr (0, 120), .inl (5, [none, none, none, some 25, none, some 26]), .inr (0, 5), .inr (1, 80), .inl (6, [none, some 28, some 29, some 30, some 31, some 32, some 33, some 34]), .inr (0, 85), .inr (0, 85), .inr (0, 85), .inr (0, 85), .inr (2, 85), .inr (0, 85), .inr (0, 16), .inl (2, [none, none, some 36]), .inr (0, 3), .inl (4, [none, some 38, some 39]), .inr (0, 8), .inr (0, 256), .inr (0, 40)]
def zKC : zz_Kd := fun k => zz_tC.getD k (.inr (0, 0))
abbrev zNC : Nat := 41
theorem kC_0 : zKC 0 = .inl (8, [some 1, some 9, none, some 17, none, some 18, some 20, some 21, some 24, some 27, some 35, some 37, some 40]) := rfl
theorem kC_1 : zKC 1 = .inl (0, [some 2, some 5, some 7]) := rfl
theorem kC_2 : zKC 2 = .inl (7, [none, some 3, some 4]) := rfl
theorem kC_3 : zKC 3 = .inr (0, 128) := rfl
theorem kC_4 : zKC 4 = .inr (0, 64) := rfl
theorem kC_5 : zKC 5 = .inl (1, [none, some 6]) := rfl
theorem kC_6 : zKC 6 = .inr (0, 24) := rfl
theorem kC_7 : zKC 7 = .inl (1, [none, some 8]) := rfl
theorem kC_8 : zKC 8 = .inr (0, 24) := rfl
theorem kC_9 : zKC 9 = .inl (0, [some 10, some 13, some 15]) := rfl
theorem kC_10 : zKC 10 = .inl (7, [none, some 11, some 12]) := rfl
theorem kC_11 : zKC 11 = .inr (0, 128) := rfl
theorem kC_12 : zKC 12 = .inr (0, 64) := rfl
theorem kC_13 : zKC 13 = .inl (1, [none, some 14]) := rfl
theorem kC_14 : zKC 14 = .inr (0, 24) := rfl
theorem kC_15 : zKC 15 = .inl (1, [none, some 16]) := rfl
theorem kC_16 : zKC 16 = .inr (0, 24) := rfl
theorem kC_17 : zKC 17 = .inr (0, 4) := rfl
theorem kC_18 : zKC 18 = .inl (1, [none, some 19]) := rfl
theorem kC_19 : zKC 19 = .inr (0, 30) := rfl
theorem kC_20 : zKC 20 = .inr (0, 4) := rfl
theorem kC_21 : zKC 21 = .inl (3, [some 22, some 23]) := rfl
theorem kC_22 : zKC 22 = .inr (0, 3) := rfl
theorem kC_23 : zKC 23 = .inr (0, 120) := rfl
theorem kC_24 : zKC 24 = .inl (5, [none, none, none, some 25, none, some 26]) := rfl
theorem kC_25 : zKC 25 = .inr (0, 5) := rfl
theorem kC_26 : zKC 26 = .inr (1, 80) := rfl
theorem kC_27 : zKC 27 = .inl (6, [none, some 28, some 29, some 30, some 31, some 32, some 33, some 34]) := rfl
theorem kC_28 : zKC 28 = .inr (0, 85) := rfl
theorem kC_29 : zKC 29 = .inr (0, 85) := rfl
theorem kC_30 : zKC 30 = .inr (0, 85) := rfl
theorem kC_31 : zKC 31 = .inr (0, 85) := rfl
theorem kC_32 : zKC 32 = .inr (2, 85) := rfl
theorem kC_33 : zKC 33 = .inr (0, 85) := rfl
theorem kC_34 : zKC 34 = .inr (0, 16) := rfl
theorem kC_35 : zKC 35 = .inl (2, [none, none, some 36]) := rfl
theorem kC_36 : zKC 36 = .inr (0, 3) := rfl
theorem kC_37 : zKC 37 = .inl (4, [none, some 38, some 39]) := rfl
theorem kC_38 : zKC 38 = .inr (0, 8) := rfl
theorem kC_39 : zKC 39 = .inr (0, 256) := rfl
theorem kC_40 : zKC 40 = .inr (0, 40) := rfl
def zz_tR : List ((Nat × List (Option Nat)) ⊕ (Nat × Nat)) := [.inl (9, [none, some 1, some 2, some 3, some 4, some 5, some 6, none, some 7, none, some 8, some 9, some 10, none, some 11, some 12, none, some 13, some 14, some 15, none, some 16, some 17, some 18, some 19, none, none, some 20, some 21, some 22, some 23, some 24, some 25, none, some 26, some 27, some 28, none, some 29, some 30, none, some 31, some 32, some 33, some 34, some 35, some 36, some 37, some 38, some 39, none, none, none, none, none, some 40, some 41, some 42]), .inr (0, 16), .inr (0, 64), .inr (0, 16), .inr (0, 16), .inr (0, 16), .inr (0, 16), .inr (0, 4), .inr (0, 8), .inr (0, 8), .inr (0, 8), .inr (0, 8), .inr (0, 8), .inr (0, 10), .inr (0, 10), .inr (0, 10), .inr (0, 80), .inr (0, 3), .inr (0, 120), .inr (0, 4), .inr (0, 16), .inr (0, 64), .inr (0, 16), .inr (0, 16), .inr (0, 16), .inr (0, 16), .inr (0, 8), .inr (0, 8), .inr (0, 8), .inr (0, 8), .inr (0, 8), .inr (0, 64), .inr (0, 64), .inr (0, 64), .inr (3, 64), .inr (3, 64), .inr (0, 16), .inr (0, 8), .inr (0, 8), .inr (0, 8), .inr (0, 27), .inr (0, 27), .inr (0, 135)]
def zKR : zz_Kd := fun k => zz_tR.getD k (.inr (0, 0))
abbrev zNR : Nat := 43
theorem kR_0 : zKR 0 = .inl (9, [none, some 1, some 2, some 3, some 4, some 5, some 6, none, some 7, none, some 8, some 9, some 10, none, some 11, some 12, none, some 13, some 14, some 15, none, some 16, some 17, some 18, some 19, none, none, some 20, some 21, some 22, some 23, some 24, some 25, none, some 26, some 27, some 28, none, some 29, some 30, none, some 31, some 32, some 33, some 34, some 35, some 36, some 37, some 38, some 39, none, none, none, none, none, some 40, some 41, some 42]) := rfl
theorem kR_1 : zKR 1 = .inr (0, 16) := rfl
theorem kR_2 : zKR 2 = .inr (0, 64) := rfl
theorem kR_3 : zKR 3 = .inr (0, 16) := rfl
theorem kR_4 : zKR 4 = .inr (0, 16) := rfl
theorem kR_5 : zKR 5 = .inr (0, 16) := rfl
theorem kR_6 : zKR 6 = .inr (0, 16) := rfl
theorem kR_7 : zKR 7 = .inr (0, 4) := rfl
theorem kR_8 : zKR 8 = .inr (0, 8) := rfl
theorem kR_9 : zKR 9 = .inr (0, 8) := rfl
theorem kR_10 : zKR 10 = .inr (0, 8) := rfl
theorem kR_11 : zKR 11 = .inr (0, 8) := rfl
theorem kR_12 : zKR 12 = .inr (0, 8) := rfl
theorem kR_13 : zKR 13 = .inr (0, 10) := rfl
theorem kR_14 : zKR 14 = .inr (0, 10) := rfl
theorem kR_15 : zKR 15 = .inr (0, 10) := rfl
theorem kR_16 : zKR 16 = .inr (0, 80) := rfl
theorem kR_17 : zKR 17 = .inr (0, 3) := rfl
theorem kR_18 : zKR 18 = .inr (0, 120) := rfl
theorem kR_19 : zKR 19 = .inr (0, 4) := rfl
theorem kR_20 : zKR 20 = .inr (0, 16) := rfl
theorem kR_21 : zKR 21 = .inr (0, 64) := rfl
theorem kR_22 : zKR 22 = .inr (0, 16) := rfl
theorem kR_23 : zKR 23 = .inr (0, 16) := rfl
theorem kR_24 : zKR 24 = .inr (0, 16) := rfl
theorem kR_25 : zKR 25 = .inr (0, 16) := rfl
theorem kR_26 : zKR 26 = .inr (0, 8) := rfl
theorem kR_27 : zKR 27 = .inr (0, 8) := rfl
theorem kR_28 : zKR 28 = .inr (0, 8) := rfl
theorem kR_29 : zKR 29 = .inr (0, 8) := rfl
theorem kR_30 : zKR 30 = .inr (0, 8) := rfl
theorem kR_31 : zKR 31 = .inr (0, 64) := rfl
theorem kR_32 : zKR 32 = .inr (0, 64) := rfl
theorem kR_33 : zKR 33 = .inr (0, 64) := rfl
theorem kR_34 : zKR 34 = .inr (3, 64) := rfl
theorem kR_35 : zKR 35 = .inr (3, 64) := rfl
theorem kR_36 : zKR 36 = .inr (0, 16) := rfl
theorem kR_37 : zKR 37 = .inr (0, 8) := rfl
theorem kR_38 : zKR 38 = .inr (0, 8) := rfl
theorem kR_39 : zKR 39 = .inr (0, 8) := rfl
theorem kR_40 : zKR 40 = .inr (0, 27) := rfl
theorem kR_41 : zKR 41 = .inr (0, 27) := rfl
theorem kR_42 : zKR 42 = .inr (0, 135) := rfl
