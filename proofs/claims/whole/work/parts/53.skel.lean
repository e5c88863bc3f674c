/-! THE REFERENCES, which stand fixed (but the two lands, the land of a journey, the text that is read) -/
def skL : List (Nat × Nat × Nat) := [(0, 0, 2), (0, 3, 16), (0, 4, 34), (0, 6, 45), (0, 7, 47), (0, 8, 49), (0, 9, 135), (0, 10, 137), (0, 11, 152), (0, 12, 157), (1, 0, 3), (3, 0, 5), (3, 1, 6), (3, 2, 7), (3, 3, 8), (3, 4, 9), (9, 0, 11), (9, 1, 12), (9, 2, 13), (9, 3, 14), (9, 4, 15), (15, 0, 17), (15, 1, 18), (16, 0, 19), (16, 1, 22), (16, 2, 25), (16, 3, 28), (16, 4, 31), (18, 0, 20), (18, 1, 21), (21, 0, 23), (21, 1, 24), (24, 0, 26), (24, 1, 27), (27, 0, 29), (27, 1, 30), (30, 0, 32), (30, 1, 33), (33, 0, 35), (33, 1, 37), (33, 2, 39), (33, 3, 41), (33, 4, 43), (34, 0, 36), (36, 0, 38), (38, 0, 40), (40, 0, 42), (42, 0, 44), (44, 0, 46), (46, 0, 48), (48, 0, 50), (48, 1, 51), (50, 0, 52), (49, 0, 53), (49, 1, 55), (49, 2, 57), (49, 3, 59), (49, 4, 61), (49, 5, 63), (49, 6, 65), (49, 7, 67), (49, 8, 69), (49, 9, 71), (49, 10, 73), (49, 11, 75), (49, 12, 77), (49, 13, 79), (49, 14, 81), (49, 15, 83), (49, 16, 85), (49, 17, 87), (49, 18, 89), (49, 19, 91), (49, 20, 93), (49, 21, 95), (49, 22, 97), (49, 23, 99), (49, 24, 101), (49, 25, 103), (49, 26, 105), (49, 27, 107), (49, 28, 109), (49, 29, 111), (49, 30, 113), (49, 31, 115), (49, 32, 117), (49, 33, 119), (49, 34, 121), (49, 35, 123), (49, 36, 125), (49, 37, 127), (49, 38, 129), (49, 39, 131), (49, 40, 133), (52, 0, 54), (54, 0, 56), (56, 0, 58), (58, 0, 60), (60, 0, 62), (62, 0, 64), (64, 0, 66), (66, 0, 68), (68, 0, 70), (70, 0, 72), (72, 0, 74), (74, 0, 76), (76, 0, 78), (78, 0, 80), (80, 0, 82), (82, 0, 84), (84, 0, 86), (86, 0, 88), (88, 0, 90), (90, 0, 92), (92, 0, 94), (94, 0, 96), (96, 0, 98), (98, 0, 100), (100, 0, 102), (102, 0, 104), (104, 0, 106), (106, 0, 108), (108, 0, 110), (110, 0, 112), (112, 0, 114), (114, 0, 116), (116, 0, 118), (118, 0, 120), (120, 0, 122), (122, 0, 124), (124, 0, 126), (126, 0, 128), (128, 0, 130), (130, 0, 132), (132, 0, 134), (134, 0, 136), (136, 0, 16), (136, 1, 135), (136, 10, 138), (136, 11, 139), (136, 12, 140), (136, 13, 141), (136, 14, 150), (136, 16, 151), (140, 0, 142), (140, 1, 143), (140, 2, 144), (140, 3, 145), (140, 4, 146), (140, 5, 147), (140, 6, 148), (140, 7, 149), (151, 0, 153), (151, 1, 154), (151, 3, 155), (151, 4, 156), (156, 0, 158), (156, 1, 159), (159, 1, 161), (159, 2, 162), (159, 3, 163), (159, 4, 164), (159, 15, 1006), (159, 16, 1001), (159, 18, 165), (159, 19, 166), (159, 20, 167), (159, 21, 168), (159, 22, 169), (159, 23, 170), (159, 24, 171), (159, 32, 172), (159, 33, 173), (159, 35, 174), (159, 36, 175), (159, 38, 176), (159, 39, 177), (159, 42, 178), (159, 45, 179), (159, 46, 180), (159, 47, 181), (159, 49, 182), (159, 50, 183), (159, 51, 184), (159, 52, 185), (159, 62, 186), (159, 66, 187), (159, 67, 188), (159, 68, 189), (159, 70, 190), (159, 71, 191), (159, 72, 192)]
def SK (ρ : Nat → Nat → Nat) : Prop := ∀ p ∈ skL, ρ p.1 p.2.1 = p.2.2
theorem SK_at {ρ : Nat → Nat → Nat} (h : SK ρ) (n : Nat) {a b c : Nat} (e : skL[n]? = some (a, b, c)) : ρ a b = c := h (a, b, c) (List.mem_of_getElem? e)
theorem sk_0_0 {ρ : Nat → Nat → Nat} (h : SK ρ) : ρ 0 0 = 2 := SK_at h 0 rfl
theorem sk_0_3 {ρ : Nat → Nat → Nat} (h : SK ρ) : ρ 0 3 = 16 := SK_at h 1 rfl
theorem sk_0_4 {ρ : Nat → Nat → Nat} (h : SK ρ) : ρ 0 4 = 34 := SK_at h 2 rfl
theorem sk_0_6 {ρ : Nat → Nat → Nat} (h : SK ρ) : ρ 0 6 = 45 := SK_at h 3 rfl
theorem sk_0_7 {ρ : Nat → Nat → Nat} (h : SK ρ) : ρ 0 7 = 47 := SK_at h 4 rfl
theorem sk_0_8 {ρ : Nat → Nat → Nat} (h : SK ρ) : ρ 0 8 = 49 := SK_at h 5 rfl
theorem sk_0_9 {ρ : Nat → Nat → Nat} (h : SK ρ) : ρ 0 9 = 135 := SK_at h 6 rfl
theorem sk_0_10 {ρ : Nat → Nat → Nat} (h : SK ρ) : ρ 0 10 = 137 := SK_at h 7 rfl
theorem sk_0_11 {ρ : Nat → Nat → Nat} (h : SK ρ) : ρ 0 11 = 152 := SK_at h 8 rfl
theorem sk_0_12 {ρ : Nat → Nat → Nat} (h : SK ρ) : ρ 0 12 = 157 := SK_at h 9 rfl
theorem sk_1_0 {ρ : Nat → Nat → Nat} (h : SK ρ) : ρ 1 0 = 3 := SK_at h 10 rfl
theorem sk_3_0 {ρ : Nat → Nat → Nat} (h : SK ρ) : ρ 3 0 = 5 := SK_at h 11 rfl
theorem sk_3_1 {ρ : Nat → Nat → Nat} (h : SK ρ) : ρ 3 1 = 6 := SK_at h 12 rfl
theorem sk_3_2 {ρ : Nat → Nat → Nat} (h : SK ρ) : ρ 3 2 = 7 := SK_at h 13 rfl
theorem sk_3_3 {ρ : Nat → Nat → Nat} (h : SK ρ) : ρ 3 3 = 8 := SK_at h 14 rfl
theorem sk_3_4 {ρ : Nat → Nat → Nat} (h : SK ρ) : ρ 3 4 = 9 := SK_at h 15 rfl
theorem sk_9_0 {ρ : Nat → Nat → Nat} (h : SK ρ) : ρ 9 0 = 11 := SK_at h 16 rfl
theorem sk_9_1 {ρ : Nat → Nat → Nat} (h : SK ρ) : ρ 9 1 = 12 := SK_at h 17 rfl
theorem sk_9_2 {ρ : Nat → Nat → Nat} (h : SK ρ) : ρ 9 2 = 13 := SK_at h 18 rfl
theorem sk_9_3 {ρ : Nat → Nat → Nat} (h : SK ρ) : ρ 9 3 = 14 := SK_at h 19 rfl
theorem sk_9_4 {ρ : Nat → Nat → Nat} (h : SK ρ) : ρ 9 4 = 15 := SK_at h 20 rfl
theorem sk_15_0 {ρ : Nat → Nat → Nat} (h : SK ρ) : ρ 15 0 = 17 := SK_at h 21 rfl
theorem sk_15_1 {ρ : Nat → Nat → Nat} (h : SK ρ) : ρ 15 1 = 18 := SK_at h 22 rfl
theorem sk_16_0 {ρ : Nat → Nat → Nat} (h : SK ρ) : ρ 16 0 = 19 := SK_at h 23 rfl
theorem sk_16_1 {ρ : Nat → Nat → Nat} (h : SK ρ) : ρ 16 1 = 22 := SK_at h 24 rfl
theorem sk_16_2 {ρ : Nat → Nat → Nat} (h : SK ρ) : ρ 16 2 = 25 := SK_at h 25 rfl
theorem sk_16_3 {ρ : Nat → Nat → Nat} (h : SK ρ) : ρ 16 3 = 28 := SK_at h 26 rfl
theorem sk_16_4 {ρ : Nat → Nat → Nat} (h : SK ρ) : ρ 16 4 = 31 := SK_at h 27 rfl
theorem sk_18_0 {ρ : Nat → Nat → Nat} (h : SK ρ) : ρ 18 0 = 20 := SK_at h 28 rfl
theorem sk_18_1 {ρ : Nat → Nat → Nat} (h : SK ρ) : ρ 18 1 = 21 := SK_at h 29 rfl
theorem sk_21_0 {ρ : Nat → Nat → Nat} (h : SK ρ) : ρ 21 0 = 23 := SK_at h 30 rfl
theorem sk_21_1 {ρ : Nat → Nat → Nat} (h : SK ρ) : ρ 21 1 = 24 := SK_at h 31 rfl
theorem sk_24_0 {ρ : Nat → Nat → Nat} (h : SK ρ) : ρ 24 0 = 26 := SK_at h 32 rfl
theorem sk_24_1 {ρ : Nat → Nat → Nat} (h : SK ρ) : ρ 24 1 = 27 := SK_at h 33 rfl
theorem sk_27_0 {ρ : Nat → Nat → Nat} (h : SK ρ) : ρ 27 0 = 29 := SK_at h 34 rfl
theorem sk_27_1 {ρ : Nat → Nat → Nat} (h : SK ρ) : ρ 27 1 = 30 := SK_at h 35 rfl
theorem sk_30_0 {ρ : Nat → Nat → Nat} (h : SK ρ) : ρ 30 0 = 32 := SK_at h 36 rfl
theorem sk_30_1 {ρ : Nat → Nat → Nat} (h : SK ρ) : ρ 30 1 = 33 := SK_at h 37 rfl
theorem sk_33_0 {ρ : Nat → Nat → Nat} (h : SK ρ) : ρ 33 0 = 35 := SK_at h 38 rfl
theorem sk_33_1 {ρ : Nat → Nat → Nat} (h : SK ρ) : ρ 33 1 = 37 := SK_at h 39 rfl
theorem sk_33_2 {ρ : Nat → Nat → Nat} (h : SK ρ) : ρ 33 2 = 39 := SK_at h 40 rfl
theorem sk_33_3 {ρ : Nat → Nat → Nat} (h : SK ρ) : ρ 33 3 = 41 := SK_at h 41 rfl
theorem sk_33_4 {ρ : Nat → Nat → Nat} (h : SK ρ) : ρ 33 4 = 43 := SK_at h 42 rfl
theorem sk_34_0 {ρ : Nat → Nat → Nat} (h : SK ρ) : ρ 34 0 = 36 := SK_at h 43 rfl
theorem sk_36_0 {ρ : Nat → Nat → Nat} (h : SK ρ) : ρ 36 0 = 38 := SK_at h 44 rfl
theorem sk_38_0 {ρ : Nat → Nat → Nat} (h : SK ρ) : ρ 38 0 = 40 := SK_at h 45 rfl
theorem sk_40_0 {ρ : Nat → Nat → Nat} (h : SK ρ) : ρ 40 0 = 42 := SK_at h 46 rfl
theorem sk_42_0 {ρ : Nat → Nat → Nat} (h : SK ρ) : ρ 42 0 = 44 := SK_at h 47 rfl
theorem sk_44_0 {ρ : Nat → Nat → Nat} (h : SK ρ) : ρ 44 0 = 46 := SK_at h 48 rfl
theorem sk_46_0 {ρ : Nat → Nat → Nat} (h : SK ρ) : ρ 46 0 = 48 := SK_at h 49 rfl
theorem sk_48_0 {ρ : Nat → Nat → Nat} (h : SK ρ) : ρ 48 0 = 50 := SK_at h 50 rfl
theorem sk_48_1 {ρ : Nat → Nat → Nat} (h : SK ρ) : ρ 48 1 = 51 := SK_at h 51 rfl
theorem sk_50_0 {ρ : Nat → Nat → Nat} (h : SK ρ) : ρ 50 0 = 52 := SK_at h 52 rfl
theorem sk_49_0 {ρ : Nat → Nat → Nat} (h : SK ρ) : ρ 49 0 = 53 := SK_at h 53 rfl
theorem sk_49_1 {ρ : Nat → Nat → Nat} (h : SK ρ) : ρ 49 1 = 55 := SK_at h 54 rfl
theorem sk_49_2 {ρ : Nat → Nat → Nat} (h : SK ρ) : ρ 49 2 = 57 := SK_at h 55 rfl
theorem sk_49_3 {ρ : Nat → Nat → Nat} (h : SK ρ) : ρ 49 3 = 59 := SK_at h 56 rfl
theorem sk_49_4 {ρ : Nat → Nat → Nat} (h : SK ρ) : ρ 49 4 = 61 := SK_at h 57 rfl
theorem sk_49_5 {ρ : Nat → Nat → Nat} (h : SK ρ) : ρ 49 5 = 63 := SK_at h 58 rfl
theorem sk_49_6 {ρ : Nat → Nat → Nat} (h : SK ρ) : ρ 49 6 = 65 := SK_at h 59 rfl
theorem sk_49_7 {ρ : Nat → Nat → Nat} (h : SK ρ) : ρ 49 7 = 67 := SK_at h 60 rfl
theorem sk_49_8 {ρ : Nat → Nat → Nat} (h : SK ρ) : ρ 49 8 = 69 := SK_at h 61 rfl
theorem sk_49_9 {ρ : Nat → Nat → Nat} (h : SK ρ) : ρ 49 9 = 71 := SK_at h 62 rfl
theorem sk_49_10 {ρ : Nat → Nat → Nat} (h : SK ρ) : ρ 49 10 = 73 := SK_at h 63 rfl
theorem sk_49_11 {ρ : Nat → Nat → Nat} (h : SK ρ) : ρ 49 11 = 75 := SK_at h 64 rfl
theorem sk_49_12 {ρ : Nat → Nat → Nat} (h : SK ρ) : ρ 49 12 = 77 := SK_at h 65 rfl
theorem sk_49_13 {ρ : Nat → Nat → Nat} (h : SK ρ) : ρ 49 13 = 79 := SK_at h 66 rfl
theorem sk_49_14 {ρ : Nat → Nat → Nat} (h : SK ρ) : ρ 49 14 = 81 := SK_at h 67 rfl
theorem sk_49_15 {ρ : Nat → Nat → Nat} (h : SK ρ) : ρ 49 15 = 83 := SK_at h 68 rfl
theorem sk_49_16 {ρ : Nat → Nat → Nat} (h : SK ρ) : ρ 49 16 = 85 := SK_at h 69 rfl
theorem sk_49_17 {ρ : Nat → Nat → Nat} (h : SK ρ) : ρ 49 17 = 87 := SK_at h 70 rfl
theorem sk_49_18 {ρ : Nat → Nat → Nat} (h : SK ρ) : ρ 49 18 = 89 := SK_at h 71 rfl
theorem sk_49_19 {ρ : Nat → Nat → Nat} (h : SK ρ) : ρ 49 19 = 91 := SK_at h 72 rfl
theorem sk_49_20 {ρ : Nat → Nat → Nat} (h : SK ρ) : ρ 49 20 = 93 := SK_at h 73 rfl
theorem sk_49_21 {ρ : Nat → Nat → Nat} (h : SK ρ) : ρ 49 21 = 95 := SK_at h 74 rfl
theorem sk_49_22 {ρ : Nat → Nat → Nat} (h : SK ρ) : ρ 49 22 = 97 := SK_at h 75 rfl
theorem sk_49_23 {ρ : Nat → Nat → Nat} (h : SK ρ) : ρ 49 23 = 99 := SK_at h 76 rfl
theorem sk_49_24 {ρ : Nat → Nat → Nat} (h : SK ρ) : ρ 49 24 = 101 := SK_at h 77 rfl
theorem sk_49_25 {ρ : Nat → Nat → Nat} (h : SK ρ) : ρ 49 25 = 103 := SK_at h 78 rfl
theorem sk_49_26 {ρ : Nat → Nat → Nat} (h : SK ρ) : ρ 49 26 = 105 := SK_at h 79 rfl
theorem sk_49_27 {ρ : Nat → Nat → Nat} (h : SK ρ) : ρ 49 27 = 107 := SK_at h 80 rfl
theorem sk_49_28 {ρ : Nat → Nat → Nat} (h : SK ρ) : ρ 49 28 = 109 := SK_at h 81 rfl
theorem sk_49_29 {ρ : Nat → Nat → Nat} (h : SK ρ) : ρ 49 29 = 111 := SK_at h 82 rfl
theorem sk_49_30 {ρ : Nat → Nat → Nat} (h : SK ρ) : ρ 49 30 = 113 := SK_at h 83 rfl
theorem sk_49_31 {ρ : Nat → Nat → Nat} (h : SK ρ) : ρ 49 31 = 115 := SK_at h 84 rfl
theorem sk_49_32 {ρ : Nat → Nat → Nat} (h : SK ρ) : ρ 49 32 = 117 := SK_at h 85 rfl
theorem sk_49_33 {ρ : Nat → Nat → Nat} (h : SK ρ) : ρ 49 33 = 119 := SK_at h 86 rfl
theorem sk_49_34 {ρ : Nat → Nat → Nat} (h : SK ρ) : ρ 49 34 = 121 := SK_at h 87 rfl
theorem sk_49_35 {ρ : Nat → Nat → Nat} (h : SK ρ) : ρ 49 35 = 123 := SK_at h 88 rfl
theorem sk_49_36 {ρ : Nat → Nat → Nat} (h : SK ρ) : ρ 49 36 = 125 := SK_at h 89 rfl
theorem sk_49_37 {ρ : Nat → Nat → Nat} (h : SK ρ) : ρ 49 37 = 127 := SK_at h 90 rfl
theorem sk_49_38 {ρ : Nat → Nat → Nat} (h : SK ρ) : ρ 49 38 = 129 := SK_at h 91 rfl
theorem sk_49_39 {ρ : Nat → Nat → Nat} (h : SK ρ) : ρ 49 39 = 131 := SK_at h 92 rfl
theorem sk_49_40 {ρ : Nat → Nat → Nat} (h : SK ρ) : ρ 49 40 = 133 := SK_at h 93 rfl
theorem sk_52_0 {ρ : Nat → Nat → Nat} (h : SK ρ) : ρ 52 0 = 54 := SK_at h 94 rfl
theorem sk_54_0 {ρ : Nat → Nat → Nat} (h : SK ρ) : ρ 54 0 = 56 := SK_at h 95 rfl
theorem sk_56_0 {ρ : Nat → Nat → Nat} (h : SK ρ) : ρ 56 0 = 58 := SK_at h 96 rfl
theorem sk_58_0 {ρ : Nat → Nat → Nat} (h : SK ρ) : ρ 58 0 = 60 := SK_at h 97 rfl
theorem sk_60_0 {ρ : Nat → Nat → Nat} (h : SK ρ) : ρ 60 0 = 62 := SK_at h 98 rfl
theorem sk_62_0 {ρ : Nat → Nat → Nat} (h : SK ρ) : ρ 62 0 = 64 := SK_at h 99 rfl
theorem sk_64_0 {ρ : Nat → Nat → Nat} (h : SK ρ) : ρ 64 0 = 66 := SK_at h 100 rfl
theorem sk_66_0 {ρ : Nat → Nat → Nat} (h : SK ρ) : ρ 66 0 = 68 := SK_at h 101 rfl
theorem sk_68_0 {ρ : Nat → Nat → Nat} (h : SK ρ) : ρ 68 0 = 70 := SK_at h 102 rfl
theorem sk_70_0 {ρ : Nat → Nat → Nat} (h : SK ρ) : ρ 70 0 = 72 := SK_at h 103 rfl
theorem sk_72_0 {ρ : Nat → Nat → Nat} (h : SK ρ) : ρ 72 0 = 74 := SK_at h 104 rfl
theorem sk_74_0 {ρ : Nat → Nat → Nat} (h : SK ρ) : ρ 74 0 = 76 := SK_at h 105 rfl
theorem sk_76_0 {ρ : Nat → Nat → Nat} (h : SK ρ) : ρ 76 0 = 78 := SK_at h 106 rfl
theorem sk_78_0 {ρ : Nat → Nat → Nat} (h : SK ρ) : ρ 78 0 = 80 := SK_at h 107 rfl
theorem sk_80_0 {ρ : Nat → Nat → Nat} (h : SK ρ) : ρ 80 0 = 82 := SK_at h 108 rfl
theorem sk_82_0 {ρ : Nat → Nat → Nat} (h : SK ρ) : ρ 82 0 = 84 := SK_at h 109 rfl
theorem sk_84_0 {ρ : Nat → Nat → Nat} (h : SK ρ) : ρ 84 0 = 86 := SK_at h 110 rfl
theorem sk_86_0 {ρ : Nat → Nat → Nat} (h : SK ρ) : ρ 86 0 = 88 := SK_at h 111 rfl
theorem sk_88_0 {ρ : Nat → Nat → Nat} (h : SK ρ) : ρ 88 0 = 90 := SK_at h 112 rfl
theorem sk_90_0 {ρ : Nat → Nat → Nat} (h : SK ρ) : ρ 90 0 = 92 := SK_at h 113 rfl
theorem sk_92_0 {ρ : Nat → Nat → Nat} (h : SK ρ) : ρ 92 0 = 94 := SK_at h 114 rfl
theorem sk_94_0 {ρ : Nat → Nat → Nat} (h : SK ρ) : ρ 94 0 = 96 := SK_at h 115 rfl
theorem sk_96_0 {ρ : Nat → Nat → Nat} (h : SK ρ) : ρ 96 0 = 98 := SK_at h 116 rfl
theorem sk_98_0 {ρ : Nat → Nat → Nat} (h : SK ρ) : ρ 98 0 = 100 := SK_at h 117 rfl
theorem sk_100_0 {ρ : Nat → Nat → Nat} (h : SK ρ) : ρ 100 0 = 102 := SK_at h 118 rfl
theorem sk_102_0 {ρ : Nat → Nat → Nat} (h : SK ρ) : ρ 102 0 = 104 := SK_at h 119 rfl
theorem sk_104_0 {ρ : Nat → Nat → Nat} (h : SK ρ) : ρ 104 0 = 106 := SK_at h 120 rfl
theorem sk_106_0 {ρ : Nat → Nat → Nat} (h : SK ρ) : ρ 106 0 = 108 := SK_at h 121 rfl
theorem sk_108_0 {ρ : Nat → Nat → Nat} (h : SK ρ) : ρ 108 0 = 110 := SK_at h 122 rfl
theorem sk_110_0 {ρ : Nat → Nat → Nat} (h : SK ρ) : ρ 110 0 = 112 := SK_at h 123 rfl
theorem sk_112_0 {ρ : Nat → Nat → Nat} (h : SK ρ) : ρ 112 0 = 114 := SK_at h 124 rfl
theorem sk_114_0 {ρ : Nat → Nat → Nat} (h : SK ρ) : ρ 114 0 = 116 := SK_at h 125 rfl
theorem sk_116_0 {ρ : Nat → Nat → Nat} (h : SK ρ) : ρ 116 0 = 118 := SK_at h 126 rfl
theorem sk_118_0 {ρ : Nat → Nat → Nat} (h : SK ρ) : ρ 118 0 = 120 := SK_at h 127 rfl
theorem sk_120_0 {ρ : Nat → Nat → Nat} (h : SK ρ) : ρ 120 0 = 122 := SK_at h 128 rfl
theorem sk_122_0 {ρ : Nat → Nat → Nat} (h : SK ρ) : ρ 122 0 = 124 := SK_at h 129 rfl
theorem sk_124_0 {ρ : Nat → Nat → Nat} (h : SK ρ) : ρ 124 0 = 126 := SK_at h 130 rfl
theorem sk_126_0 {ρ : Nat → Nat → Nat} (h : SK ρ) : ρ 126 0 = 128 := SK_at h 131 rfl
theorem sk_128_0 {ρ : Nat → Nat → Nat} (h : SK ρ) : ρ 128 0 = 130 := SK_at h 132 rfl
theorem sk_130_0 {ρ : Nat → Nat → Nat} (h : SK ρ) : ρ 130 0 = 132 := SK_at h 133 rfl
theorem sk_132_0 {ρ : Nat → Nat → Nat} (h : SK ρ) : ρ 132 0 = 134 := SK_at h 134 rfl
theorem sk_134_0 {ρ : Nat → Nat → Nat} (h : SK ρ) : ρ 134 0 = 136 := SK_at h 135 rfl
theorem sk_136_0 {ρ : Nat → Nat → Nat} (h : SK ρ) : ρ 136 0 = 16 := SK_at h 136 rfl
theorem sk_136_1 {ρ : Nat → Nat → Nat} (h : SK ρ) : ρ 136 1 = 135 := SK_at h 137 rfl
theorem sk_136_10 {ρ : Nat → Nat → Nat} (h : SK ρ) : ρ 136 10 = 138 := SK_at h 138 rfl
theorem sk_136_11 {ρ : Nat → Nat → Nat} (h : SK ρ) : ρ 136 11 = 139 := SK_at h 139 rfl
theorem sk_136_12 {ρ : Nat → Nat → Nat} (h : SK ρ) : ρ 136 12 = 140 := SK_at h 140 rfl
theorem sk_136_13 {ρ : Nat → Nat → Nat} (h : SK ρ) : ρ 136 13 = 141 := SK_at h 141 rfl
theorem sk_136_14 {ρ : Nat → Nat → Nat} (h : SK ρ) : ρ 136 14 = 150 := SK_at h 142 rfl
theorem sk_136_16 {ρ : Nat → Nat → Nat} (h : SK ρ) : ρ 136 16 = 151 := SK_at h 143 rfl
theorem sk_140_0 {ρ : Nat → Nat → Nat} (h : SK ρ) : ρ 140 0 = 142 := SK_at h 144 rfl
theorem sk_140_1 {ρ : Nat → Nat → Nat} (h : SK ρ) : ρ 140 1 = 143 := SK_at h 145 rfl
theorem sk_140_2 {ρ : Nat → Nat → Nat} (h : SK ρ) : ρ 140 2 = 144 := SK_at h 146 rfl
theorem sk_140_3 {ρ : Nat → Nat → Nat} (h : SK ρ) : ρ 140 3 = 145 := SK_at h 147 rfl
theorem sk_140_4 {ρ : Nat → Nat → Nat} (h : SK ρ) : ρ 140 4 = 146 := SK_at h 148 rfl
theorem sk_140_5 {ρ : Nat → Nat → Nat} (h : SK ρ) : ρ 140 5 = 147 := SK_at h 149 rfl
theorem sk_140_6 {ρ : Nat → Nat → Nat} (h : SK ρ) : ρ 140 6 = 148 := SK_at h 150 rfl
theorem sk_140_7 {ρ : Nat → Nat → Nat} (h : SK ρ) : ρ 140 7 = 149 := SK_at h 151 rfl
theorem sk_151_0 {ρ : Nat → Nat → Nat} (h : SK ρ) : ρ 151 0 = 153 := SK_at h 152 rfl
theorem sk_151_1 {ρ : Nat → Nat → Nat} (h : SK ρ) : ρ 151 1 = 154 := SK_at h 153 rfl
theorem sk_151_3 {ρ : Nat → Nat → Nat} (h : SK ρ) : ρ 151 3 = 155 := SK_at h 154 rfl
theorem sk_151_4 {ρ : Nat → Nat → Nat} (h : SK ρ) : ρ 151 4 = 156 := SK_at h 155 rfl
theorem sk_156_0 {ρ : Nat → Nat → Nat} (h : SK ρ) : ρ 156 0 = 158 := SK_at h 156 rfl
theorem sk_156_1 {ρ : Nat → Nat → Nat} (h : SK ρ) : ρ 156 1 = 159 := SK_at h 157 rfl
theorem sk_159_1 {ρ : Nat → Nat → Nat} (h : SK ρ) : ρ 159 1 = 161 := SK_at h 158 rfl
theorem sk_159_2 {ρ : Nat → Nat → Nat} (h : SK ρ) : ρ 159 2 = 162 := SK_at h 159 rfl
theorem sk_159_3 {ρ : Nat → Nat → Nat} (h : SK ρ) : ρ 159 3 = 163 := SK_at h 160 rfl
theorem sk_159_4 {ρ : Nat → Nat → Nat} (h : SK ρ) : ρ 159 4 = 164 := SK_at h 161 rfl
theorem sk_159_15 {ρ : Nat → Nat → Nat} (h : SK ρ) : ρ 159 15 = 1006 := SK_at h 162 rfl
theorem sk_159_16 {ρ : Nat → Nat → Nat} (h : SK ρ) : ρ 159 16 = 1001 := SK_at h 163 rfl
theorem sk_159_18 {ρ : Nat → Nat → Nat} (h : SK ρ) : ρ 159 18 = 165 := SK_at h 164 rfl
theorem sk_159_19 {ρ : Nat → Nat → Nat} (h : SK ρ) : ρ 159 19 = 166 := SK_at h 165 rfl
theorem sk_159_20 {ρ : Nat → Nat → Nat} (h : SK ρ) : ρ 159 20 = 167 := SK_at h 166 rfl
theorem sk_159_21 {ρ : Nat → Nat → Nat} (h : SK ρ) : ρ 159 21 = 168 := SK_at h 167 rfl
theorem sk_159_22 {ρ : Nat → Nat → Nat} (h : SK ρ) : ρ 159 22 = 169 := SK_at h 168 rfl
theorem sk_159_23 {ρ : Nat → Nat → Nat} (h : SK ρ) : ρ 159 23 = 170 := SK_at h 169 rfl
theorem sk_159_24 {ρ : Nat → Nat → Nat} (h : SK ρ) : ρ 159 24 = 171 := SK_at h 170 rfl
theorem sk_159_32 {ρ : Nat → Nat → Nat} (h : SK ρ) : ρ 159 32 = 172 := SK_at h 171 rfl
theorem sk_159_33 {ρ : Nat → Nat → Nat} (h : SK ρ) : ρ 159 33 = 173 := SK_at h 172 rfl
theorem sk_159_35 {ρ : Nat → Nat → Nat} (h : SK ρ) : ρ 159 35 = 174 := SK_at h 173 rfl
theorem sk_159_36 {ρ : Nat → Nat → Nat} (h : SK ρ) : ρ 159 36 = 175 := SK_at h 174 rfl
theorem sk_159_38 {ρ : Nat → Nat → Nat} (h : SK ρ) : ρ 159 38 = 176 := SK_at h 175 rfl
theorem sk_159_39 {ρ : Nat → Nat → Nat} (h : SK ρ) : ρ 159 39 = 177 := SK_at h 176 rfl
theorem sk_159_42 {ρ : Nat → Nat → Nat} (h : SK ρ) : ρ 159 42 = 178 := SK_at h 177 rfl
theorem sk_159_45 {ρ : Nat → Nat → Nat} (h : SK ρ) : ρ 159 45 = 179 := SK_at h 178 rfl
theorem sk_159_46 {ρ : Nat → Nat → Nat} (h : SK ρ) : ρ 159 46 = 180 := SK_at h 179 rfl
theorem sk_159_47 {ρ : Nat → Nat → Nat} (h : SK ρ) : ρ 159 47 = 181 := SK_at h 180 rfl
theorem sk_159_49 {ρ : Nat → Nat → Nat} (h : SK ρ) : ρ 159 49 = 182 := SK_at h 181 rfl
theorem sk_159_50 {ρ : Nat → Nat → Nat} (h : SK ρ) : ρ 159 50 = 183 := SK_at h 182 rfl
theorem sk_159_51 {ρ : Nat → Nat → Nat} (h : SK ρ) : ρ 159 51 = 184 := SK_at h 183 rfl
theorem sk_159_52 {ρ : Nat → Nat → Nat} (h : SK ρ) : ρ 159 52 = 185 := SK_at h 184 rfl
theorem sk_159_62 {ρ : Nat → Nat → Nat} (h : SK ρ) : ρ 159 62 = 186 := SK_at h 185 rfl
theorem sk_159_66 {ρ : Nat → Nat → Nat} (h : SK ρ) : ρ 159 66 = 187 := SK_at h 186 rfl
theorem sk_159_67 {ρ : Nat → Nat → Nat} (h : SK ρ) : ρ 159 67 = 188 := SK_at h 187 rfl
theorem sk_159_68 {ρ : Nat → Nat → Nat} (h : SK ρ) : ρ 159 68 = 189 := SK_at h 188 rfl
theorem sk_159_70 {ρ : Nat → Nat → Nat} (h : SK ρ) : ρ 159 70 = 190 := SK_at h 189 rfl
theorem sk_159_71 {ρ : Nat → Nat → Nat} (h : SK ρ) : ρ 159 71 = 191 := SK_at h 190 rfl
theorem sk_159_72 {ρ : Nat → Nat → Nat} (h : SK ρ) : ρ 159 72 = 192 := SK_at h 191 rfl
theorem SK_init : SK sa_init.2.1 := by
  unfold SK
  decide +kernel
theorem sh_0 : sa_sh 0 = some (.inl 11) := rfl
theorem sh_1 : sa_sh 1 = some (.inl 7) := rfl
theorem al_2 : sa_al (.int) 2 = 240 := rfl
theorem sh_3 : sa_sh 3 = some (.inl 1) := rfl
theorem al_4 : sa_al (.int) 4 = 4 := rfl
theorem al_5 : sa_al (.int) 5 = 240 := rfl
theorem al_6 : sa_al (.int) 6 = 64 := rfl
theorem al_7 : sa_al (.int) 7 = 64 := rfl
theorem al_8 : sa_al (.int) 8 = 64 := rfl
theorem sh_9 : sa_sh 9 = some (.inl 1) := rfl
theorem al_10 : sa_al (.int) 10 = 4 := rfl
theorem al_11 : sa_al (.int) 11 = 240 := rfl
theorem al_12 : sa_al (.int) 12 = 64 := rfl
theorem al_13 : sa_al (.int) 13 = 64 := rfl
theorem al_14 : sa_al (.int) 14 = 64 := rfl
theorem sh_15 : sa_sh 15 = some (.inl 3) := rfl
theorem al_16 : sa_al (.object "SaltArmy$Law") 16 = 5 := rfl
theorem al_17 : sa_al (.int) 17 = 5 := rfl
theorem sh_18 : sa_sh 18 = some (.inl 2) := rfl
theorem al_19 : sa_al (.int) 19 = 241 := rfl
theorem al_20 : sa_al (.int) 20 = 32 := rfl
theorem sh_21 : sa_sh 21 = some (.inl 2) := rfl
theorem al_22 : sa_al (.int) 22 = 241 := rfl
theorem al_23 : sa_al (.int) 23 = 32 := rfl
theorem sh_24 : sa_sh 24 = some (.inl 2) := rfl
theorem al_25 : sa_al (.int) 25 = 241 := rfl
theorem al_26 : sa_al (.int) 26 = 32 := rfl
theorem sh_27 : sa_sh 27 = some (.inl 2) := rfl
theorem al_28 : sa_al (.int) 28 = 241 := rfl
theorem al_29 : sa_al (.int) 29 = 32 := rfl
theorem sh_30 : sa_sh 30 = some (.inl 2) := rfl
theorem al_31 : sa_al (.int) 31 = 241 := rfl
theorem al_32 : sa_al (.int) 32 = 32 := rfl
theorem al_33 : sa_al (.object "SaltArmy$Orders") 33 = 5 := rfl
theorem sh_34 : sa_sh 34 = some (.inl 4) := rfl
theorem al_35 : sa_al (.int) 35 = 48 := rfl
theorem sh_36 : sa_sh 36 = some (.inl 4) := rfl
theorem al_37 : sa_al (.int) 37 = 48 := rfl
theorem sh_38 : sa_sh 38 = some (.inl 4) := rfl
theorem al_39 : sa_al (.int) 39 = 48 := rfl
theorem sh_40 : sa_sh 40 = some (.inl 4) := rfl
theorem al_41 : sa_al (.int) 41 = 48 := rfl
theorem sh_42 : sa_sh 42 = some (.inl 4) := rfl
theorem al_43 : sa_al (.int) 43 = 48 := rfl
theorem sh_44 : sa_sh 44 = some (.inl 0) := rfl
theorem al_45 : sa_al (.int) 45 = 259 := rfl
theorem sh_46 : sa_sh 46 = some (.inl 0) := rfl
theorem al_47 : sa_al (.int) 47 = 259 := rfl
theorem sh_48 : sa_sh 48 = some (.inl 5) := rfl
theorem al_49 : sa_al (.object "SaltArmy$Camp") 49 = 41 := rfl
theorem sh_50 : sa_sh 50 = some (.inl 0) := rfl
theorem al_51 : sa_al (.int) 51 = 259 := rfl
theorem sh_52 : sa_sh 52 = some (.inl 0) := rfl
theorem al_53 : sa_al (.int) 53 = 259 := rfl
theorem sh_54 : sa_sh 54 = some (.inl 0) := rfl
theorem al_55 : sa_al (.int) 55 = 259 := rfl
theorem sh_56 : sa_sh 56 = some (.inl 0) := rfl
theorem al_57 : sa_al (.int) 57 = 259 := rfl
theorem sh_58 : sa_sh 58 = some (.inl 0) := rfl
theorem al_59 : sa_al (.int) 59 = 259 := rfl
theorem sh_60 : sa_sh 60 = some (.inl 0) := rfl
theorem al_61 : sa_al (.int) 61 = 259 := rfl
theorem sh_62 : sa_sh 62 = some (.inl 0) := rfl
theorem al_63 : sa_al (.int) 63 = 259 := rfl
theorem sh_64 : sa_sh 64 = some (.inl 0) := rfl
theorem al_65 : sa_al (.int) 65 = 259 := rfl
theorem sh_66 : sa_sh 66 = some (.inl 0) := rfl
theorem al_67 : sa_al (.int) 67 = 259 := rfl
theorem sh_68 : sa_sh 68 = some (.inl 0) := rfl
theorem al_69 : sa_al (.int) 69 = 259 := rfl
theorem sh_70 : sa_sh 70 = some (.inl 0) := rfl
theorem al_71 : sa_al (.int) 71 = 259 := rfl
theorem sh_72 : sa_sh 72 = some (.inl 0) := rfl
theorem al_73 : sa_al (.int) 73 = 259 := rfl
theorem sh_74 : sa_sh 74 = some (.inl 0) := rfl
theorem al_75 : sa_al (.int) 75 = 259 := rfl
theorem sh_76 : sa_sh 76 = some (.inl 0) := rfl
theorem al_77 : sa_al (.int) 77 = 259 := rfl
theorem sh_78 : sa_sh 78 = some (.inl 0) := rfl
theorem al_79 : sa_al (.int) 79 = 259 := rfl
theorem sh_80 : sa_sh 80 = some (.inl 0) := rfl
theorem al_81 : sa_al (.int) 81 = 259 := rfl
theorem sh_82 : sa_sh 82 = some (.inl 0) := rfl
theorem al_83 : sa_al (.int) 83 = 259 := rfl
theorem sh_84 : sa_sh 84 = some (.inl 0) := rfl
theorem al_85 : sa_al (.int) 85 = 259 := rfl
theorem sh_86 : sa_sh 86 = some (.inl 0) := rfl
theorem al_87 : sa_al (.int) 87 = 259 := rfl
theorem sh_88 : sa_sh 88 = some (.inl 0) := rfl
theorem al_89 : sa_al (.int) 89 = 259 := rfl
theorem sh_90 : sa_sh 90 = some (.inl 0) := rfl
theorem al_91 : sa_al (.int) 91 = 259 := rfl
theorem sh_92 : sa_sh 92 = some (.inl 0) := rfl
theorem al_93 : sa_al (.int) 93 = 259 := rfl
theorem sh_94 : sa_sh 94 = some (.inl 0) := rfl
theorem al_95 : sa_al (.int) 95 = 259 := rfl
theorem sh_96 : sa_sh 96 = some (.inl 0) := rfl
theorem al_97 : sa_al (.int) 97 = 259 := rfl
theorem sh_98 : sa_sh 98 = some (.inl 0) := rfl
theorem al_99 : sa_al (.int) 99 = 259 := rfl
theorem sh_100 : sa_sh 100 = some (.inl 0) := rfl
theorem al_101 : sa_al (.int) 101 = 259 := rfl
theorem sh_102 : sa_sh 102 = some (.inl 0) := rfl
theorem al_103 : sa_al (.int) 103 = 259 := rfl
theorem sh_104 : sa_sh 104 = some (.inl 0) := rfl
theorem al_105 : sa_al (.int) 105 = 259 := rfl
theorem sh_106 : sa_sh 106 = some (.inl 0) := rfl
theorem al_107 : sa_al (.int) 107 = 259 := rfl
theorem sh_108 : sa_sh 108 = some (.inl 0) := rfl
theorem al_109 : sa_al (.int) 109 = 259 := rfl
theorem sh_110 : sa_sh 110 = some (.inl 0) := rfl
theorem al_111 : sa_al (.int) 111 = 259 := rfl
theorem sh_112 : sa_sh 112 = some (.inl 0) := rfl
theorem al_113 : sa_al (.int) 113 = 259 := rfl
theorem sh_114 : sa_sh 114 = some (.inl 0) := rfl
theorem al_115 : sa_al (.int) 115 = 259 := rfl
theorem sh_116 : sa_sh 116 = some (.inl 0) := rfl
theorem al_117 : sa_al (.int) 117 = 259 := rfl
theorem sh_118 : sa_sh 118 = some (.inl 0) := rfl
theorem al_119 : sa_al (.int) 119 = 259 := rfl
theorem sh_120 : sa_sh 120 = some (.inl 0) := rfl
theorem al_121 : sa_al (.int) 121 = 259 := rfl
theorem sh_122 : sa_sh 122 = some (.inl 0) := rfl
theorem al_123 : sa_al (.int) 123 = 259 := rfl
theorem sh_124 : sa_sh 124 = some (.inl 0) := rfl
theorem al_125 : sa_al (.int) 125 = 259 := rfl
theorem sh_126 : sa_sh 126 = some (.inl 0) := rfl
theorem al_127 : sa_al (.int) 127 = 259 := rfl
theorem sh_128 : sa_sh 128 = some (.inl 0) := rfl
theorem al_129 : sa_al (.int) 129 = 259 := rfl
theorem sh_130 : sa_sh 130 = some (.inl 0) := rfl
theorem al_131 : sa_al (.int) 131 = 259 := rfl
theorem sh_132 : sa_sh 132 = some (.inl 0) := rfl
theorem al_133 : sa_al (.int) 133 = 259 := rfl
theorem sh_134 : sa_sh 134 = some (.inl 6) := rfl
theorem al_135 : sa_al (.int) 135 = 200 := rfl
theorem sh_136 : sa_sh 136 = some (.inl 9) := rfl
theorem al_137 : sa_al (.int) 137 = 1600 := rfl
theorem al_138 : sa_al (.int) 138 = 200 := rfl
theorem al_139 : sa_al (.int) 139 = 8 := rfl
theorem al_140 : sa_al (.array .long) 140 = 8 := rfl
theorem al_141 : sa_al (.long) 141 = 100 := rfl
theorem al_142 : sa_al (.long) 142 = 100 := rfl
theorem al_143 : sa_al (.long) 143 = 100 := rfl
theorem al_144 : sa_al (.long) 144 = 100 := rfl
theorem al_145 : sa_al (.long) 145 = 100 := rfl
theorem al_146 : sa_al (.long) 146 = 100 := rfl
theorem al_147 : sa_al (.long) 147 = 100 := rfl
theorem al_148 : sa_al (.long) 148 = 100 := rfl
theorem al_149 : sa_al (.int) 149 = 8 := rfl
theorem al_150 : sa_al (.long) 150 = 100 := rfl
theorem sh_151 : sa_sh 151 = some (.inl 8) := rfl
theorem al_152 : sa_al (.int) 152 = 8 := rfl
theorem al_153 : sa_al (.int) 153 = 8 := rfl
theorem al_154 : sa_al (.int) 154 = 4096 := rfl
theorem al_155 : sa_al (.int) 155 = 4096 := rfl
theorem sh_156 : sa_sh 156 = some (.inl 10) := rfl
theorem al_157 : sa_al (.int) 157 = 8 := rfl
theorem al_158 : sa_al (.int) 158 = 7 := rfl
theorem sh_159 : sa_sh 159 = some (.inl 12) := rfl
theorem al_160 : sa_al (.byte) 160 = 240 := rfl
theorem al_161 : sa_al (.byte) 161 = 960 := rfl
theorem al_162 : sa_al (.int) 162 = 4 := rfl
theorem al_163 : sa_al (.int) 163 = 128 := rfl
theorem al_164 : sa_al (.int) 164 = 32 := rfl
theorem al_165 : sa_al (.int) 165 = 32 := rfl
theorem al_166 : sa_al (.int) 166 = 48 := rfl
theorem al_167 : sa_al (.int) 167 = 48 := rfl
theorem al_168 : sa_al (.int) 168 = 25 := rfl
theorem al_169 : sa_al (.int) 169 = 6 := rfl
theorem al_170 : sa_al (.int) 170 = 6 := rfl
theorem al_171 : sa_al (.int) 171 = 240 := rfl
theorem al_172 : sa_al (.int) 172 = 5 := rfl
theorem al_173 : sa_al (.int) 173 = 260 := rfl
theorem al_174 : sa_al (.int) 174 = 260 := rfl
theorem al_175 : sa_al (.long) 175 = 8191 := rfl
theorem al_176 : sa_al (.int) 176 = 8191 := rfl
theorem al_177 : sa_al (.int) 177 = 10400 := rfl
theorem al_178 : sa_al (.int) 178 = 16 := rfl
theorem al_179 : sa_al (.int) 179 = 16 := rfl
theorem al_180 : sa_al (.boolean) 180 = 16 := rfl
theorem al_181 : sa_al (.long) 181 = 100 := rfl
theorem al_182 : sa_al (.long) 182 = 100 := rfl
theorem al_183 : sa_al (.int) 183 = 9 := rfl
theorem al_184 : sa_al (.int) 184 = 9 := rfl
theorem al_185 : sa_al (.int) 185 = 8 := rfl
theorem al_186 : sa_al (.int) 186 = 8 := rfl
theorem al_187 : sa_al (.int) 187 = 8 := rfl
theorem al_188 : sa_al (.int) 188 = 8 := rfl
theorem al_189 : sa_al (.int) 189 = 64 := rfl
theorem al_190 : sa_al (.int) 190 = 8 := rfl
theorem al_191 : sa_al (.int) 191 = 260 := rfl
theorem al_192 : sa_al (.long) 192 = 1 := rfl
