section S_24
/-! the shape of the fixed cells; frames -/
def shT : List (Nat × Nat) := [(1, 60), (2, 60), (3, 61), (16, 10), (17, 4), (18, 8), (19, 21), (20, 2), (21, 20), (22, 2), (23, 20), (24, 20), (25, 3), (26, 20), (27, 9), (28, 3), (29, 20), (30, 5), (31, 20), (32, 5), (33, 20), (34, 1), (35, 20), (36, 20), (37, 20), (38, 1), (39, 20), (40, 20), (41, 5), (42, 20), (43, 7), (44, 20), (45, 35), (46, 34), (47, 11), (48, 20), (49, 20), (50, 20), (51, 20), (52, 20), (53, 22), (54, 20), (55, 20), (56, 20), (57, 20), (58, 20), (59, 22), (60, 20), (61, 20), (62, 20), (63, 22), (64, 20), (65, 20), (66, 20), (67, 20), (68, 20), (69, 20), (70, 20), (71, 20), (72, 20), (73, 20), (74, 20), (75, 20), (76, 20), (77, 20), (78, 20), (79, 20), (80, 20)]
def shN : List (Nat × Nat) := [(1, 19), (2, 19), (19, 400), (21, 4), (23, 3), (24, 6), (26, 8), (29, 8), (31, 24), (33, 24), (35, 4), (36, 3), (37, 11), (39, 4), (40, 3), (42, 24), (44, 432), (45, 24), (46, 16), (48, 400), (49, 8), (50, 48), (51, 192), (52, 576), (53, 384), (54, 384), (55, 192), (56, 24), (57, 24), (58, 72), (59, 24), (60, 24), (61, 24), (62, 264), (63, 24), (64, 24), (65, 16), (66, 384), (67, 384), (68, 384), (69, 384), (70, 19), (71, 4), (72, 3), (73, 11), (74, 8), (75, 400), (76, 4), (77, 3), (78, 200), (79, 200), (80, 200)]
def shR : List ((Nat × Nat) × Nat) := [((0, 34), 35), ((0, 38), 39), ((1, 34), 36), ((1, 38), 40), ((64, 20), 21), ((64, 22), 23), ((128, 25), 26), ((128, 28), 29), ((194, 17), 18), ((195, 17), 20), ((196, 17), 22), ((197, 17), 24), ((258, 30), 31), ((258, 32), 33), ((258, 41), 42), ((384, 43), 44), ((448, 18), 19), ((512, 27), 28), ((513, 27), 30), ((514, 27), 32), ((515, 27), 34), ((516, 27), 37), ((576, 16), 17), ((577, 16), 18), ((578, 16), 25), ((579, 16), 27), ((580, 16), 38), ((581, 16), 41), ((582, 16), 43), ((583, 16), 45), ((584, 16), 46), ((641, 47), 48), ((643, 47), 49), ((645, 47), 50), ((646, 47), 51), ((647, 47), 52), ((648, 47), 53), ((649, 47), 54), ((650, 47), 55), ((651, 47), 56), ((652, 47), 57), ((653, 47), 58), ((654, 47), 59), ((655, 47), 60), ((656, 47), 61), ((657, 47), 62), ((658, 47), 63), ((659, 47), 64), ((661, 47), 65), ((662, 47), 66), ((663, 47), 67), ((664, 47), 68), ((665, 47), 69), ((669, 47), 70), ((670, 47), 71), ((671, 47), 72), ((672, 47), 73), ((673, 47), 74), ((674, 47), 75), ((676, 47), 76), ((677, 47), 77), ((679, 47), 78), ((680, 47), 79), ((681, 47), 80)]
def SHc (T N : Nat → Nat) (R : Nat → Nat → Option Nat) : Prop := (∀ p ∈ shT, T p.1 = p.2) ∧ (∀ p ∈ shN, N p.1 = p.2) ∧ (∀ p ∈ shR, R p.1.1 p.1.2 = some p.2)
def SH (σ : jS) : Prop := SHc (jT σ) (jN σ) (jR σ)
theorem sT_1 {σ : jS} (h : SH σ) : jT σ 1 = 60 := h.1 (1, 60) (by decide)
theorem sT_2 {σ : jS} (h : SH σ) : jT σ 2 = 60 := h.1 (2, 60) (by decide)
theorem sT_3 {σ : jS} (h : SH σ) : jT σ 3 = 61 := h.1 (3, 61) (by decide)
theorem sT_16 {σ : jS} (h : SH σ) : jT σ 16 = 10 := h.1 (16, 10) (by decide)
theorem sT_17 {σ : jS} (h : SH σ) : jT σ 17 = 4 := h.1 (17, 4) (by decide)
theorem sT_18 {σ : jS} (h : SH σ) : jT σ 18 = 8 := h.1 (18, 8) (by decide)
theorem sT_19 {σ : jS} (h : SH σ) : jT σ 19 = 21 := h.1 (19, 21) (by decide)
theorem sT_20 {σ : jS} (h : SH σ) : jT σ 20 = 2 := h.1 (20, 2) (by decide)
theorem sT_21 {σ : jS} (h : SH σ) : jT σ 21 = 20 := h.1 (21, 20) (by decide)
theorem sT_22 {σ : jS} (h : SH σ) : jT σ 22 = 2 := h.1 (22, 2) (by decide)
theorem sT_23 {σ : jS} (h : SH σ) : jT σ 23 = 20 := h.1 (23, 20) (by decide)
theorem sT_24 {σ : jS} (h : SH σ) : jT σ 24 = 20 := h.1 (24, 20) (by decide)
theorem sT_25 {σ : jS} (h : SH σ) : jT σ 25 = 3 := h.1 (25, 3) (by decide)
theorem sT_26 {σ : jS} (h : SH σ) : jT σ 26 = 20 := h.1 (26, 20) (by decide)
theorem sT_27 {σ : jS} (h : SH σ) : jT σ 27 = 9 := h.1 (27, 9) (by decide)
theorem sT_28 {σ : jS} (h : SH σ) : jT σ 28 = 3 := h.1 (28, 3) (by decide)
theorem sT_29 {σ : jS} (h : SH σ) : jT σ 29 = 20 := h.1 (29, 20) (by decide)
theorem sT_30 {σ : jS} (h : SH σ) : jT σ 30 = 5 := h.1 (30, 5) (by decide)
theorem sT_31 {σ : jS} (h : SH σ) : jT σ 31 = 20 := h.1 (31, 20) (by decide)
theorem sT_32 {σ : jS} (h : SH σ) : jT σ 32 = 5 := h.1 (32, 5) (by decide)
theorem sT_33 {σ : jS} (h : SH σ) : jT σ 33 = 20 := h.1 (33, 20) (by decide)
theorem sT_34 {σ : jS} (h : SH σ) : jT σ 34 = 1 := h.1 (34, 1) (by decide)
theorem sT_35 {σ : jS} (h : SH σ) : jT σ 35 = 20 := h.1 (35, 20) (by decide)
theorem sT_36 {σ : jS} (h : SH σ) : jT σ 36 = 20 := h.1 (36, 20) (by decide)
theorem sT_37 {σ : jS} (h : SH σ) : jT σ 37 = 20 := h.1 (37, 20) (by decide)
theorem sT_38 {σ : jS} (h : SH σ) : jT σ 38 = 1 := h.1 (38, 1) (by decide)
theorem sT_39 {σ : jS} (h : SH σ) : jT σ 39 = 20 := h.1 (39, 20) (by decide)
theorem sT_40 {σ : jS} (h : SH σ) : jT σ 40 = 20 := h.1 (40, 20) (by decide)
theorem sT_41 {σ : jS} (h : SH σ) : jT σ 41 = 5 := h.1 (41, 5) (by decide)
theorem sT_42 {σ : jS} (h : SH σ) : jT σ 42 = 20 := h.1 (42, 20) (by decide)
theorem sT_43 {σ : jS} (h : SH σ) : jT σ 43 = 7 := h.1 (43, 7) (by decide)
theorem sT_44 {σ : jS} (h : SH σ) : jT σ 44 = 20 := h.1 (44, 20) (by decide)
theorem sT_45 {σ : jS} (h : SH σ) : jT σ 45 = 35 := h.1 (45, 35) (by decide)
theorem sT_46 {σ : jS} (h : SH σ) : jT σ 46 = 34 := h.1 (46, 34) (by decide)
theorem sT_47 {σ : jS} (h : SH σ) : jT σ 47 = 11 := h.1 (47, 11) (by decide)
theorem sT_48 {σ : jS} (h : SH σ) : jT σ 48 = 20 := h.1 (48, 20) (by decide)
theorem sT_49 {σ : jS} (h : SH σ) : jT σ 49 = 20 := h.1 (49, 20) (by decide)
theorem sT_50 {σ : jS} (h : SH σ) : jT σ 50 = 20 := h.1 (50, 20) (by decide)
theorem sT_51 {σ : jS} (h : SH σ) : jT σ 51 = 20 := h.1 (51, 20) (by decide)
theorem sT_52 {σ : jS} (h : SH σ) : jT σ 52 = 20 := h.1 (52, 20) (by decide)
theorem sT_53 {σ : jS} (h : SH σ) : jT σ 53 = 22 := h.1 (53, 22) (by decide)
theorem sT_54 {σ : jS} (h : SH σ) : jT σ 54 = 20 := h.1 (54, 20) (by decide)
theorem sT_55 {σ : jS} (h : SH σ) : jT σ 55 = 20 := h.1 (55, 20) (by decide)
theorem sT_56 {σ : jS} (h : SH σ) : jT σ 56 = 20 := h.1 (56, 20) (by decide)
theorem sT_57 {σ : jS} (h : SH σ) : jT σ 57 = 20 := h.1 (57, 20) (by decide)
theorem sT_58 {σ : jS} (h : SH σ) : jT σ 58 = 20 := h.1 (58, 20) (by decide)
theorem sT_59 {σ : jS} (h : SH σ) : jT σ 59 = 22 := h.1 (59, 22) (by decide)
theorem sT_60 {σ : jS} (h : SH σ) : jT σ 60 = 20 := h.1 (60, 20) (by decide)
theorem sT_61 {σ : jS} (h : SH σ) : jT σ 61 = 20 := h.1 (61, 20) (by decide)
theorem sT_62 {σ : jS} (h : SH σ) : jT σ 62 = 20 := h.1 (62, 20) (by decide)
theorem sT_63 {σ : jS} (h : SH σ) : jT σ 63 = 22 := h.1 (63, 22) (by decide)
theorem sT_64 {σ : jS} (h : SH σ) : jT σ 64 = 20 := h.1 (64, 20) (by decide)
theorem sT_65 {σ : jS} (h : SH σ) : jT σ 65 = 20 := h.1 (65, 20) (by decide)
theorem sT_66 {σ : jS} (h : SH σ) : jT σ 66 = 20 := h.1 (66, 20) (by decide)
theorem sT_67 {σ : jS} (h : SH σ) : jT σ 67 = 20 := h.1 (67, 20) (by decide)
theorem sT_68 {σ : jS} (h : SH σ) : jT σ 68 = 20 := h.1 (68, 20) (by decide)
theorem sT_69 {σ : jS} (h : SH σ) : jT σ 69 = 20 := h.1 (69, 20) (by decide)
theorem sT_70 {σ : jS} (h : SH σ) : jT σ 70 = 20 := h.1 (70, 20) (by decide)
theorem sT_71 {σ : jS} (h : SH σ) : jT σ 71 = 20 := h.1 (71, 20) (by decide)
theorem sT_72 {σ : jS} (h : SH σ) : jT σ 72 = 20 := h.1 (72, 20) (by decide)
theorem sT_73 {σ : jS} (h : SH σ) : jT σ 73 = 20 := h.1 (73, 20) (by decide)
theorem sT_74 {σ : jS} (h : SH σ) : jT σ 74 = 20 := h.1 (74, 20) (by decide)
theorem sT_75 {σ : jS} (h : SH σ) : jT σ 75 = 20 := h.1 (75, 20) (by decide)
theorem sT_76 {σ : jS} (h : SH σ) : jT σ 76 = 20 := h.1 (76, 20) (by decide)
theorem sT_77 {σ : jS} (h : SH σ) : jT σ 77 = 20 := h.1 (77, 20) (by decide)
theorem sT_78 {σ : jS} (h : SH σ) : jT σ 78 = 20 := h.1 (78, 20) (by decide)
theorem sT_79 {σ : jS} (h : SH σ) : jT σ 79 = 20 := h.1 (79, 20) (by decide)
theorem sT_80 {σ : jS} (h : SH σ) : jT σ 80 = 20 := h.1 (80, 20) (by decide)
theorem sN_1 {σ : jS} (h : SH σ) : jN σ 1 = 19 := h.2.1 (1, 19) (by decide)
theorem sN_2 {σ : jS} (h : SH σ) : jN σ 2 = 19 := h.2.1 (2, 19) (by decide)
theorem sN_19 {σ : jS} (h : SH σ) : jN σ 19 = 400 := h.2.1 (19, 400) (by decide)
theorem sN_21 {σ : jS} (h : SH σ) : jN σ 21 = 4 := h.2.1 (21, 4) (by decide)
theorem sN_23 {σ : jS} (h : SH σ) : jN σ 23 = 3 := h.2.1 (23, 3) (by decide)
theorem sN_24 {σ : jS} (h : SH σ) : jN σ 24 = 6 := h.2.1 (24, 6) (by decide)
theorem sN_26 {σ : jS} (h : SH σ) : jN σ 26 = 8 := h.2.1 (26, 8) (by decide)
theorem sN_29 {σ : jS} (h : SH σ) : jN σ 29 = 8 := h.2.1 (29, 8) (by decide)
theorem sN_31 {σ : jS} (h : SH σ) : jN σ 31 = 24 := h.2.1 (31, 24) (by decide)
theorem sN_33 {σ : jS} (h : SH σ) : jN σ 33 = 24 := h.2.1 (33, 24) (by decide)
theorem sN_35 {σ : jS} (h : SH σ) : jN σ 35 = 4 := h.2.1 (35, 4) (by decide)
theorem sN_36 {σ : jS} (h : SH σ) : jN σ 36 = 3 := h.2.1 (36, 3) (by decide)
theorem sN_37 {σ : jS} (h : SH σ) : jN σ 37 = 11 := h.2.1 (37, 11) (by decide)
theorem sN_39 {σ : jS} (h : SH σ) : jN σ 39 = 4 := h.2.1 (39, 4) (by decide)
theorem sN_40 {σ : jS} (h : SH σ) : jN σ 40 = 3 := h.2.1 (40, 3) (by decide)
theorem sN_42 {σ : jS} (h : SH σ) : jN σ 42 = 24 := h.2.1 (42, 24) (by decide)
theorem sN_44 {σ : jS} (h : SH σ) : jN σ 44 = 432 := h.2.1 (44, 432) (by decide)
theorem sN_45 {σ : jS} (h : SH σ) : jN σ 45 = 24 := h.2.1 (45, 24) (by decide)
theorem sN_46 {σ : jS} (h : SH σ) : jN σ 46 = 16 := h.2.1 (46, 16) (by decide)
theorem sN_48 {σ : jS} (h : SH σ) : jN σ 48 = 400 := h.2.1 (48, 400) (by decide)
theorem sN_49 {σ : jS} (h : SH σ) : jN σ 49 = 8 := h.2.1 (49, 8) (by decide)
theorem sN_50 {σ : jS} (h : SH σ) : jN σ 50 = 48 := h.2.1 (50, 48) (by decide)
theorem sN_51 {σ : jS} (h : SH σ) : jN σ 51 = 192 := h.2.1 (51, 192) (by decide)
theorem sN_52 {σ : jS} (h : SH σ) : jN σ 52 = 576 := h.2.1 (52, 576) (by decide)
theorem sN_53 {σ : jS} (h : SH σ) : jN σ 53 = 384 := h.2.1 (53, 384) (by decide)
theorem sN_54 {σ : jS} (h : SH σ) : jN σ 54 = 384 := h.2.1 (54, 384) (by decide)
theorem sN_55 {σ : jS} (h : SH σ) : jN σ 55 = 192 := h.2.1 (55, 192) (by decide)
theorem sN_56 {σ : jS} (h : SH σ) : jN σ 56 = 24 := h.2.1 (56, 24) (by decide)
theorem sN_57 {σ : jS} (h : SH σ) : jN σ 57 = 24 := h.2.1 (57, 24) (by decide)
theorem sN_58 {σ : jS} (h : SH σ) : jN σ 58 = 72 := h.2.1 (58, 72) (by decide)
theorem sN_59 {σ : jS} (h : SH σ) : jN σ 59 = 24 := h.2.1 (59, 24) (by decide)
theorem sN_60 {σ : jS} (h : SH σ) : jN σ 60 = 24 := h.2.1 (60, 24) (by decide)
theorem sN_61 {σ : jS} (h : SH σ) : jN σ 61 = 24 := h.2.1 (61, 24) (by decide)
theorem sN_62 {σ : jS} (h : SH σ) : jN σ 62 = 264 := h.2.1 (62, 264) (by decide)
theorem sN_63 {σ : jS} (h : SH σ) : jN σ 63 = 24 := h.2.1 (63, 24) (by decide)
theorem sN_64 {σ : jS} (h : SH σ) : jN σ 64 = 24 := h.2.1 (64, 24) (by decide)
theorem sN_65 {σ : jS} (h : SH σ) : jN σ 65 = 16 := h.2.1 (65, 16) (by decide)
theorem sN_66 {σ : jS} (h : SH σ) : jN σ 66 = 384 := h.2.1 (66, 384) (by decide)
theorem sN_67 {σ : jS} (h : SH σ) : jN σ 67 = 384 := h.2.1 (67, 384) (by decide)
theorem sN_68 {σ : jS} (h : SH σ) : jN σ 68 = 384 := h.2.1 (68, 384) (by decide)
theorem sN_69 {σ : jS} (h : SH σ) : jN σ 69 = 384 := h.2.1 (69, 384) (by decide)
theorem sN_70 {σ : jS} (h : SH σ) : jN σ 70 = 19 := h.2.1 (70, 19) (by decide)
theorem sN_71 {σ : jS} (h : SH σ) : jN σ 71 = 4 := h.2.1 (71, 4) (by decide)
theorem sN_72 {σ : jS} (h : SH σ) : jN σ 72 = 3 := h.2.1 (72, 3) (by decide)
theorem sN_73 {σ : jS} (h : SH σ) : jN σ 73 = 11 := h.2.1 (73, 11) (by decide)
theorem sN_74 {σ : jS} (h : SH σ) : jN σ 74 = 8 := h.2.1 (74, 8) (by decide)
theorem sN_75 {σ : jS} (h : SH σ) : jN σ 75 = 400 := h.2.1 (75, 400) (by decide)
theorem sN_76 {σ : jS} (h : SH σ) : jN σ 76 = 4 := h.2.1 (76, 4) (by decide)
theorem sN_77 {σ : jS} (h : SH σ) : jN σ 77 = 3 := h.2.1 (77, 3) (by decide)
theorem sN_78 {σ : jS} (h : SH σ) : jN σ 78 = 200 := h.2.1 (78, 200) (by decide)
theorem sN_79 {σ : jS} (h : SH σ) : jN σ 79 = 200 := h.2.1 (79, 200) (by decide)
theorem sN_80 {σ : jS} (h : SH σ) : jN σ 80 = 200 := h.2.1 (80, 200) (by decide)
theorem sR_0_34 {σ : jS} (h : SH σ) : jR σ 0 34 = some 35 := h.2.2 ((0, 34), 35) (by decide)
theorem sR_0_38 {σ : jS} (h : SH σ) : jR σ 0 38 = some 39 := h.2.2 ((0, 38), 39) (by decide)
theorem sR_1_34 {σ : jS} (h : SH σ) : jR σ 1 34 = some 36 := h.2.2 ((1, 34), 36) (by decide)
theorem sR_1_38 {σ : jS} (h : SH σ) : jR σ 1 38 = some 40 := h.2.2 ((1, 38), 40) (by decide)
theorem sR_64_20 {σ : jS} (h : SH σ) : jR σ 64 20 = some 21 := h.2.2 ((64, 20), 21) (by decide)
theorem sR_64_22 {σ : jS} (h : SH σ) : jR σ 64 22 = some 23 := h.2.2 ((64, 22), 23) (by decide)
theorem sR_128_25 {σ : jS} (h : SH σ) : jR σ 128 25 = some 26 := h.2.2 ((128, 25), 26) (by decide)
theorem sR_128_28 {σ : jS} (h : SH σ) : jR σ 128 28 = some 29 := h.2.2 ((128, 28), 29) (by decide)
theorem sR_194_17 {σ : jS} (h : SH σ) : jR σ 194 17 = some 18 := h.2.2 ((194, 17), 18) (by decide)
theorem sR_195_17 {σ : jS} (h : SH σ) : jR σ 195 17 = some 20 := h.2.2 ((195, 17), 20) (by decide)
theorem sR_196_17 {σ : jS} (h : SH σ) : jR σ 196 17 = some 22 := h.2.2 ((196, 17), 22) (by decide)
theorem sR_197_17 {σ : jS} (h : SH σ) : jR σ 197 17 = some 24 := h.2.2 ((197, 17), 24) (by decide)
theorem sR_258_30 {σ : jS} (h : SH σ) : jR σ 258 30 = some 31 := h.2.2 ((258, 30), 31) (by decide)
theorem sR_258_32 {σ : jS} (h : SH σ) : jR σ 258 32 = some 33 := h.2.2 ((258, 32), 33) (by decide)
theorem sR_258_41 {σ : jS} (h : SH σ) : jR σ 258 41 = some 42 := h.2.2 ((258, 41), 42) (by decide)
theorem sR_384_43 {σ : jS} (h : SH σ) : jR σ 384 43 = some 44 := h.2.2 ((384, 43), 44) (by decide)
theorem sR_448_18 {σ : jS} (h : SH σ) : jR σ 448 18 = some 19 := h.2.2 ((448, 18), 19) (by decide)
theorem sR_512_27 {σ : jS} (h : SH σ) : jR σ 512 27 = some 28 := h.2.2 ((512, 27), 28) (by decide)
theorem sR_513_27 {σ : jS} (h : SH σ) : jR σ 513 27 = some 30 := h.2.2 ((513, 27), 30) (by decide)
theorem sR_514_27 {σ : jS} (h : SH σ) : jR σ 514 27 = some 32 := h.2.2 ((514, 27), 32) (by decide)
theorem sR_515_27 {σ : jS} (h : SH σ) : jR σ 515 27 = some 34 := h.2.2 ((515, 27), 34) (by decide)
theorem sR_516_27 {σ : jS} (h : SH σ) : jR σ 516 27 = some 37 := h.2.2 ((516, 27), 37) (by decide)
theorem sR_576_16 {σ : jS} (h : SH σ) : jR σ 576 16 = some 17 := h.2.2 ((576, 16), 17) (by decide)
theorem sR_577_16 {σ : jS} (h : SH σ) : jR σ 577 16 = some 18 := h.2.2 ((577, 16), 18) (by decide)
theorem sR_578_16 {σ : jS} (h : SH σ) : jR σ 578 16 = some 25 := h.2.2 ((578, 16), 25) (by decide)
theorem sR_579_16 {σ : jS} (h : SH σ) : jR σ 579 16 = some 27 := h.2.2 ((579, 16), 27) (by decide)
theorem sR_580_16 {σ : jS} (h : SH σ) : jR σ 580 16 = some 38 := h.2.2 ((580, 16), 38) (by decide)
theorem sR_581_16 {σ : jS} (h : SH σ) : jR σ 581 16 = some 41 := h.2.2 ((581, 16), 41) (by decide)
theorem sR_582_16 {σ : jS} (h : SH σ) : jR σ 582 16 = some 43 := h.2.2 ((582, 16), 43) (by decide)
theorem sR_583_16 {σ : jS} (h : SH σ) : jR σ 583 16 = some 45 := h.2.2 ((583, 16), 45) (by decide)
theorem sR_584_16 {σ : jS} (h : SH σ) : jR σ 584 16 = some 46 := h.2.2 ((584, 16), 46) (by decide)
theorem sR_641_47 {σ : jS} (h : SH σ) : jR σ 641 47 = some 48 := h.2.2 ((641, 47), 48) (by decide)
theorem sR_643_47 {σ : jS} (h : SH σ) : jR σ 643 47 = some 49 := h.2.2 ((643, 47), 49) (by decide)
theorem sR_645_47 {σ : jS} (h : SH σ) : jR σ 645 47 = some 50 := h.2.2 ((645, 47), 50) (by decide)
theorem sR_646_47 {σ : jS} (h : SH σ) : jR σ 646 47 = some 51 := h.2.2 ((646, 47), 51) (by decide)
theorem sR_647_47 {σ : jS} (h : SH σ) : jR σ 647 47 = some 52 := h.2.2 ((647, 47), 52) (by decide)
theorem sR_648_47 {σ : jS} (h : SH σ) : jR σ 648 47 = some 53 := h.2.2 ((648, 47), 53) (by decide)
theorem sR_649_47 {σ : jS} (h : SH σ) : jR σ 649 47 = some 54 := h.2.2 ((649, 47), 54) (by decide)
theorem sR_650_47 {σ : jS} (h : SH σ) : jR σ 650 47 = some 55 := h.2.2 ((650, 47), 55) (by decide)
theorem sR_651_47 {σ : jS} (h : SH σ) : jR σ 651 47 = some 56 := h.2.2 ((651, 47), 56) (by decide)
theorem sR_652_47 {σ : jS} (h : SH σ) : jR σ 652 47 = some 57 := h.2.2 ((652, 47), 57) (by decide)
theorem sR_653_47 {σ : jS} (h : SH σ) : jR σ 653 47 = some 58 := h.2.2 ((653, 47), 58) (by decide)
theorem sR_654_47 {σ : jS} (h : SH σ) : jR σ 654 47 = some 59 := h.2.2 ((654, 47), 59) (by decide)
theorem sR_655_47 {σ : jS} (h : SH σ) : jR σ 655 47 = some 60 := h.2.2 ((655, 47), 60) (by decide)
theorem sR_656_47 {σ : jS} (h : SH σ) : jR σ 656 47 = some 61 := h.2.2 ((656, 47), 61) (by decide)
theorem sR_657_47 {σ : jS} (h : SH σ) : jR σ 657 47 = some 62 := h.2.2 ((657, 47), 62) (by decide)
theorem sR_658_47 {σ : jS} (h : SH σ) : jR σ 658 47 = some 63 := h.2.2 ((658, 47), 63) (by decide)
theorem sR_659_47 {σ : jS} (h : SH σ) : jR σ 659 47 = some 64 := h.2.2 ((659, 47), 64) (by decide)
theorem sR_661_47 {σ : jS} (h : SH σ) : jR σ 661 47 = some 65 := h.2.2 ((661, 47), 65) (by decide)
theorem sR_662_47 {σ : jS} (h : SH σ) : jR σ 662 47 = some 66 := h.2.2 ((662, 47), 66) (by decide)
theorem sR_663_47 {σ : jS} (h : SH σ) : jR σ 663 47 = some 67 := h.2.2 ((663, 47), 67) (by decide)
theorem sR_664_47 {σ : jS} (h : SH σ) : jR σ 664 47 = some 68 := h.2.2 ((664, 47), 68) (by decide)
theorem sR_665_47 {σ : jS} (h : SH σ) : jR σ 665 47 = some 69 := h.2.2 ((665, 47), 69) (by decide)
theorem sR_669_47 {σ : jS} (h : SH σ) : jR σ 669 47 = some 70 := h.2.2 ((669, 47), 70) (by decide)
theorem sR_670_47 {σ : jS} (h : SH σ) : jR σ 670 47 = some 71 := h.2.2 ((670, 47), 71) (by decide)
theorem sR_671_47 {σ : jS} (h : SH σ) : jR σ 671 47 = some 72 := h.2.2 ((671, 47), 72) (by decide)
theorem sR_672_47 {σ : jS} (h : SH σ) : jR σ 672 47 = some 73 := h.2.2 ((672, 47), 73) (by decide)
theorem sR_673_47 {σ : jS} (h : SH σ) : jR σ 673 47 = some 74 := h.2.2 ((673, 47), 74) (by decide)
theorem sR_674_47 {σ : jS} (h : SH σ) : jR σ 674 47 = some 75 := h.2.2 ((674, 47), 75) (by decide)
theorem sR_676_47 {σ : jS} (h : SH σ) : jR σ 676 47 = some 76 := h.2.2 ((676, 47), 76) (by decide)
theorem sR_677_47 {σ : jS} (h : SH σ) : jR σ 677 47 = some 77 := h.2.2 ((677, 47), 77) (by decide)
theorem sR_679_47 {σ : jS} (h : SH σ) : jR σ 679 47 = some 78 := h.2.2 ((679, 47), 78) (by decide)
theorem sR_680_47 {σ : jS} (h : SH σ) : jR σ 680 47 = some 79 := h.2.2 ((680, 47), 79) (by decide)
theorem sR_681_47 {σ : jS} (h : SH σ) : jR σ 681 47 = some 80 := h.2.2 ((681, 47), 80) (by decide)
theorem SH_I (σ : jS) (g a : Nat) (v : Int32) : SH (jsI σ g a v) = SH σ := id rfl
theorem SH_A (σ : jS) (a i : Nat) (v : Int32) : SH (jsA σ a i v) = SH σ := id rfl
theorem SH_G (σ : jS) (a i : Nat) (v : Option Nat) : SH (jsG σ a i v) = SH σ := id rfl
theorem SH_C (σ : jS) (p sp q dp x : Nat) : SH (jcp σ p sp q dp x) = SH σ := id rfl
theorem sh_lt : (shT.all (fun p => decide (p.1 < 81)) && shN.all (fun p => decide (p.1 < 81)) && shR.all (fun p => decide (p.1.2 < 81))) = true := by decide
theorem sh_ltT {p : Nat × Nat} (h : p ∈ shT) : p.1 < 81 := by
  have q := sh_lt
  simp only [Bool.and_eq_true] at q
  exact of_decide_eq_true (List.all_eq_true.mp q.1.1 p h)
theorem sh_ltN {p : Nat × Nat} (h : p ∈ shN) : p.1 < 81 := by
  have q := sh_lt
  simp only [Bool.and_eq_true] at q
  exact of_decide_eq_true (List.all_eq_true.mp q.1.2 p h)
theorem sh_ltR {p : (Nat × Nat) × Nat} (h : p ∈ shR) : p.1.2 < 81 := by
  have q := sh_lt
  simp only [Bool.and_eq_true] at q
  exact of_decide_eq_true (List.all_eq_true.mp q.2 p h)
theorem SHc_of {T T' N N' : Nat → Nat} {R R' : Nat → Nat → Option Nat} (hT : ∀ a, a < 81 → T' a = T a) (hN : ∀ a, a < 81 → N' a = N a) (hR : ∀ g a, a < 81 → R' g a = R g a) : SHc T' N' R' = SHc T N R := by
  apply propext
  constructor
  · intro h
    exact ⟨fun p hp => by rw [← hT _ (sh_ltT hp)]; exact h.1 p hp, fun p hp => by rw [← hN _ (sh_ltN hp)]; exact h.2.1 p hp, fun p hp => by rw [← hR _ _ (sh_ltR hp)]; exact h.2.2 p hp⟩
  · intro h
    exact ⟨fun p hp => by rw [hT _ (sh_ltT hp)]; exact h.1 p hp, fun p hp => by rw [hN _ (sh_ltN hp)]; exact h.2.1 p hp, fun p hp => by rw [hR _ _ (sh_ltR hp)]; exact h.2.2 p hp⟩
theorem SH_O {σ : jS} {c n : Nat} (h : 81 ≤ jnx σ) : SH (jnO σ c n) = SH σ := SHc_of (fun a ha => by rw [zO_T, if_neg (by omega)]) (fun a ha => by rw [zO_N]) (fun g a ha => by rw [zO_R, if_neg (by omega)])
theorem SH_B {σ : jS} {c n : Nat} (h : 81 ≤ jnx σ) : SH (jnA σ c n) = SH σ := SHc_of (fun a ha => by rw [zB_T, if_neg (by omega)]) (fun a ha => by rw [zB_N, if_neg (by omega)]) (fun g a ha => by rw [zB_R])
theorem SH_H {σ : jS} {c n : Nat} (h : 81 ≤ jnx σ) : SH (jnG σ c n) = SH σ := SHc_of (fun a ha => by rw [zH_T, if_neg (by omega)]) (fun a ha => by rw [zH_N, if_neg (by omega)]) (fun g a ha => by rw [zH_R])
theorem SH_R {σ : jS} {g a : Nat} {v : Option Nat} (h : 81 ≤ a) : SH (jsR σ g a v) = SH σ := SHc_of (fun b hb => by rw [zR_T]) (fun b hb => by rw [zR_N]) (fun g' b hb => by rw [zR_R, if_neg (by omega)])
/-- a cell stands as it stood -/
def jsm (σ σ' : jS) (a : Nat) : Prop := jT σ' a = jT σ a ∧ jN σ' a = jN σ a ∧ (∀ g, jI σ' g a = jI σ g a) ∧ (∀ g, jR σ' g a = jR σ g a) ∧ (∀ i, jA σ' a i = jA σ a i) ∧ (∀ i, jG σ' a i = jG σ a i)
theorem jsm.refl (σ : jS) (a : Nat) : jsm σ σ a := ⟨rfl, rfl, fun _ => rfl, fun _ => rfl, fun _ => rfl, fun _ => rfl⟩
theorem jsm.trans {σ τ υ : jS} {a : Nat} (h : jsm σ τ a) (k : jsm τ υ a) : jsm σ υ a :=
  ⟨k.1.trans h.1, k.2.1.trans h.2.1, fun g => (k.2.2.1 g).trans (h.2.2.1 g), fun g => (k.2.2.2.1 g).trans (h.2.2.2.1 g), fun i => (k.2.2.2.2.1 i).trans (h.2.2.2.2.1 i), fun i => (k.2.2.2.2.2 i).trans (h.2.2.2.2.2 i)⟩
theorem jsm.symm {σ τ : jS} {a : Nat} (h : jsm σ τ a) : jsm τ σ a :=
  ⟨h.1.symm, h.2.1.symm, fun g => (h.2.2.1 g).symm, fun g => (h.2.2.2.1 g).symm, fun i => (h.2.2.2.2.1 i).symm, fun i => (h.2.2.2.2.2 i).symm⟩
theorem jsm_I {σ : jS} {g q : Nat} {v : Int32} {a : Nat} (h : a ≠ q) : jsm σ (jsI σ g q v) a := ⟨rfl, rfl, fun g' => by rw [zI_I, if_neg (fun z => h z.2)], fun _ => rfl, fun _ => rfl, fun _ => rfl⟩
theorem jsm_R {σ : jS} {g q : Nat} {v : Option Nat} {a : Nat} (h : a ≠ q) : jsm σ (jsR σ g q v) a := ⟨rfl, rfl, fun _ => rfl, fun g' => by rw [zR_R, if_neg (fun z => h z.2)], fun _ => rfl, fun _ => rfl⟩
theorem jsm_A {σ : jS} {q i : Nat} {v : Int32} {a : Nat} (h : a ≠ q) : jsm σ (jsA σ q i v) a := ⟨rfl, rfl, fun _ => rfl, fun _ => rfl, fun j => by rw [zA_A, if_neg (fun z => h z.1)], fun _ => rfl⟩
theorem jsm_G {σ : jS} {q i : Nat} {v : Option Nat} {a : Nat} (h : a ≠ q) : jsm σ (jsG σ q i v) a := ⟨rfl, rfl, fun _ => rfl, fun _ => rfl, fun _ => rfl, fun j => by rw [zG_G, if_neg (fun z => h z.1)]⟩
theorem jsm_C {σ : jS} {p sp q dp x a : Nat} (h : a ≠ q) : jsm σ (jcp σ p sp q dp x) a := ⟨rfl, rfl, fun _ => rfl, fun _ => rfl, fun j => by rw [zC_A, if_neg h], fun _ => rfl⟩
theorem jsm_O {σ : jS} {c n a : Nat} (h : a ≠ jnx σ) : jsm σ (jnO σ c n) a := ⟨by rw [zO_T, if_neg h], rfl, fun g => by rw [zO_I, if_neg h], fun g => by rw [zO_R, if_neg h], fun _ => rfl, fun _ => rfl⟩
theorem jsm_B {σ : jS} {c n a : Nat} (h : a ≠ jnx σ) : jsm σ (jnA σ c n) a := ⟨by rw [zB_T, if_neg h], by rw [zB_N, if_neg h], fun _ => rfl, fun _ => rfl, fun i => by rw [zB_A, if_neg h], fun _ => rfl⟩
theorem jsm_H {σ : jS} {c n a : Nat} (h : a ≠ jnx σ) : jsm σ (jnG σ c n) a := ⟨by rw [zH_T, if_neg h], by rw [zH_N, if_neg h], fun _ => rfl, fun _ => rfl, fun _ => rfl, fun i => by rw [zH_G, if_neg h]⟩
/-- only the reference's cells may change, and what is new -/
def mC (a : Nat) : Prop := 47 ≤ a ∧ a ≤ 80
def FM (σ σ' : jS) : Prop := jnx σ ≤ jnx σ' ∧ jsl σ ≤ jsl σ' ∧ ∀ a, a < jnx σ → ¬ mC a → jsm σ σ' a
theorem FM.refl (σ : jS) : FM σ σ := ⟨Nat.le_refl _, Nat.le_refl _, fun a _ _ => jsm.refl σ a⟩
theorem FM.trans {σ τ υ : jS} (h : FM σ τ) (k : FM τ υ) : FM σ υ := ⟨Nat.le_trans h.1 k.1, Nat.le_trans h.2.1 k.2.1, fun a h1 h2 => (h.2.2 a h1 h2).trans (k.2.2 a (Nat.lt_of_lt_of_le h1 h.1) h2)⟩
theorem FM.I {σ τ : jS} {g q : Nat} {v : Int32} (h : FM σ τ) (hq : mC q) : FM σ (jsI τ g q v) := h.trans ⟨Nat.le_refl _, Nat.le_refl _, fun a _ h2 => jsm_I (fun z => h2 (z ▸ hq))⟩
theorem FM.A {σ τ : jS} {q i : Nat} {v : Int32} (h : FM σ τ) (hq : mC q) : FM σ (jsA τ q i v) := h.trans ⟨Nat.le_refl _, Nat.le_refl _, fun a _ h2 => jsm_A (fun z => h2 (z ▸ hq))⟩
theorem FM.B {σ τ : jS} {c n : Nat} (h : FM σ τ) : FM σ (jnA τ c n) := h.trans ⟨Nat.le_succ _, Nat.le_add_right _ _, fun a h1 _ => jsm_B (Nat.ne_of_lt h1)⟩
/-- only the class's cells may change, and what is new -/
def xC (a : Nat) : Prop := a < 16 ∨ mC a
def FX (σ σ' : jS) : Prop := jnx σ ≤ jnx σ' ∧ jsl σ ≤ jsl σ' ∧ ∀ a, xC a → a < jnx σ → jsm σ σ' a
theorem FX.refl (σ : jS) : FX σ σ := ⟨Nat.le_refl _, Nat.le_refl _, fun a _ _ => jsm.refl σ a⟩
theorem FX.trans {σ τ υ : jS} (h : FX σ τ) (k : FX τ υ) : FX σ υ := ⟨Nat.le_trans h.1 k.1, Nat.le_trans h.2.1 k.2.1, fun a h1 h2 => (h.2.2 a h1 h2).trans (k.2.2 a h1 (Nat.lt_of_lt_of_le h2 h.1))⟩
theorem FX.I {σ τ : jS} {g q : Nat} {v : Int32} (h : FX σ τ) (hq : ¬ xC q) : FX σ (jsI τ g q v) := h.trans ⟨Nat.le_refl _, Nat.le_refl _, fun a h1 _ => jsm_I (fun z => hq (z ▸ h1))⟩
theorem FX.A {σ τ : jS} {q i : Nat} {v : Int32} (h : FX σ τ) (hq : ¬ xC q) : FX σ (jsA τ q i v) := h.trans ⟨Nat.le_refl _, Nat.le_refl _, fun a h1 _ => jsm_A (fun z => hq (z ▸ h1))⟩
theorem FX.R {σ τ : jS} {g q : Nat} {v : Option Nat} (h : FX σ τ) (hq : ¬ xC q) : FX σ (jsR τ g q v) := h.trans ⟨Nat.le_refl _, Nat.le_refl _, fun a h1 _ => jsm_R (fun z => hq (z ▸ h1))⟩
theorem FX.G {σ τ : jS} {q i : Nat} {v : Option Nat} (h : FX σ τ) (hq : ¬ xC q) : FX σ (jsG τ q i v) := h.trans ⟨Nat.le_refl _, Nat.le_refl _, fun a h1 _ => jsm_G (fun z => hq (z ▸ h1))⟩
theorem FX.C {σ τ : jS} {p sp q dp x : Nat} (h : FX σ τ) (hq : ¬ xC q) : FX σ (jcp τ p sp q dp x) := h.trans ⟨Nat.le_refl _, Nat.le_refl _, fun a h1 _ => jsm_C (fun z => hq (z ▸ h1))⟩
theorem FX.O {σ τ : jS} {c n : Nat} (h : FX σ τ) : FX σ (jnO τ c n) := h.trans ⟨Nat.le_succ _, Nat.le_add_right _ _, fun a _ h1 => jsm_O (Nat.ne_of_lt h1)⟩
theorem FX.B {σ τ : jS} {c n : Nat} (h : FX σ τ) : FX σ (jnA τ c n) := h.trans ⟨Nat.le_succ _, Nat.le_add_right _ _, fun a _ h1 => jsm_B (Nat.ne_of_lt h1)⟩
/-! states that are the same -/
theorem jsI_jsI (σ : jS) (g a : Nat) (v w : Int32) : jsI (jsI σ g a v) g a w = jsI σ g a w := by
  have e : ju2 (ju2 (jI σ) g a v) g a w = ju2 (jI σ) g a w := by
    funext g' a'
    unfold ju2
    by_cases h : g' = g ∧ a' = a
    · rw [if_pos h, if_pos h]
    · rw [if_neg h, if_neg h, if_neg h]
  exact congrArg (fun I => ((jT σ, jN σ, I, jR σ, jA σ, jG σ, jnx σ, jsl σ) : jS)) e
theorem jsI_self (σ : jS) (g a : Nat) {v : Int32} (hv : jI σ g a = v) : jsI σ g a v = σ := by
  subst hv
  have e : ju2 (jI σ) g a (jI σ g a) = jI σ := by
    funext g' a'
    unfold ju2
    by_cases h : g' = g ∧ a' = a
    · rw [if_pos h, h.1, h.2]
    · rw [if_neg h]
  exact congrArg (fun I => ((jT σ, jN σ, I, jR σ, jA σ, jG σ, jnx σ, jsl σ) : jS)) e
theorem jsI_comm (σ : jS) {g a g2 a2 : Nat} (v w : Int32) (h : ¬ (g = g2 ∧ a = a2)) : jsI (jsI σ g a v) g2 a2 w = jsI (jsI σ g2 a2 w) g a v := by
  have e : ju2 (ju2 (jI σ) g a v) g2 a2 w = ju2 (ju2 (jI σ) g2 a2 w) g a v := by
    funext g' a'
    unfold ju2
    by_cases h1 : g' = g2 ∧ a' = a2
    · rw [if_pos h1, if_neg (fun z => h ⟨z.1.symm.trans h1.1, z.2.symm.trans h1.2⟩), if_pos h1]
    · rw [if_neg h1, if_neg h1]
  exact congrArg (fun I => ((jT σ, jN σ, I, jR σ, jA σ, jG σ, jnx σ, jsl σ) : jS)) e
theorem jsA_jsI (σ : jS) (g a : Nat) (v : Int32) (q i : Nat) (w : Int32) : jsA (jsI σ g a v) q i w = jsI (jsA σ q i w) g a v := rfl
/-! numbers -/
theorem n31 {a b : Nat} (ha : a < 2 ^ 31) (hb : b < 2 ^ 31) : (nI a < nI b) = (a < b) := by
  apply propext; rw [Int32.lt_iff_toInt_lt, nI_toInt ha, nI_toInt hb]; omega
theorem n31le {a b : Nat} (ha : a < 2 ^ 31) (hb : b < 2 ^ 31) : (nI a ≤ nI b) = (a ≤ b) := by
  apply propext; rw [Int32.le_iff_toInt_le, nI_toInt ha, nI_toInt hb]; omega
theorem n31eq {a b : Nat} (ha : a < 2 ^ 31) (hb : b < 2 ^ 31) : (nI a = nI b) = (a = b) := by
  apply propext; rw [← Int32.toInt_inj, nI_toInt ha, nI_toInt hb]; omega
theorem nadd (a b : Nat) : nI a + nI b = nI (a + b) := by unfold nI; exact (Int32.ofNat_add a b).symm
theorem nmul (a b : Nat) : nI a * nI b = nI (a * b) := by unfold nI; exact (Int32.ofNat_mul a b).symm
theorem nsub {a b : Nat} (h : b ≤ a) : nI a - nI b = nI (a - b) := by
  have e : nI a = nI (a - b) + nI b := by rw [nadd]; congr 1; omega
  rw [e, Int32.add_sub_cancel]
theorem nlit (k : Nat) : nI k = Int32.ofNat k := rfl
theorem jin_n {N k : Nat} (h : k < N) (hN : N < 2 ^ 31) : jin N (nI k) := nI_in h hN
theorem jin_eq (N : Nat) (i : Int32) : jin N i = (¬ i < 0 ∧ i.toNatClampNeg < N) := by
  unfold jin; rw [not_or, Nat.not_le]
end S_24
section S_25
/-! the small helpers of both sides, which leave the state as it is -/
abbrev isLo (b : Int32) : Prop := 97 ≤ b ∧ b ≤ 122
abbrev isUp (b : Int32) : Prop := 65 ≤ b ∧ b ≤ 90
abbrev isFg (b : Int32) : Prop := 48 ≤ b ∧ b ≤ 57
abbrev isSg (b : Int32) : Prop := b = 43 ∨ b = 45 ∨ b = 38 ∨ b = 124 ∨ b = 94
theorem nlt32 {a b : Int32} : (¬ a < b) = (b ≤ a) := propext Int32.not_lt
theorem nle32 {a b : Int32} : (¬ a ≤ b) = (b < a) := propext Int32.not_le
section HLP
variable {d : Nat} {σ : jS}
theorem c29 (b : Int32) : jx d 29 0 [some (.int b)] [] σ = some (some (.int (if isLo b ∨ isUp b then 1 else 0)), σ) := by
  by_cases h1 : b < 97 <;> by_cases h2 : b ≤ 122 <;> by_cases h3 : b < 65 <;> by_cases h4 : 90 < b <;>
    simp (decide := true) only [k29_0, k29_6, k29_12, k29_18, k29_24, k29_28, h1, h2, h3, h4, ← nlt32, ← nle32, Option.getD_some, ne_eq, reduceCtorEq, not_false_eq_true, not_true_eq_false, Option.bind_some, Option.toList_none, Option.toList_some, List.nil_append, List.cons_append, List.append_nil, ↓reduceIte, and_self, true_and, and_true, false_and, and_false, or_true, true_or, or_false, false_or, Nat.reduceEqDiff, Nat.reduceAdd, Int32.reduceMul, Int32.reduceAdd, Int32.reduceSub, Int32.reduceToNatClampNeg, Int32.reduceOfNat, Int32.reduceLT, Int32.reduceLE, va_rf, jin_eq] <;> simp only [isLo, isUp, ← nlt32, h1, h2, h3, h4, ← nle32, Option.getD_some, ne_eq, reduceCtorEq, not_false_eq_true, not_true_eq_false, Option.bind_some, Option.toList_none, Option.toList_some, List.nil_append, List.cons_append, List.append_nil, ↓reduceIte, and_self, true_and, and_true, false_and, and_false, or_true, true_or, or_false, false_or, Nat.reduceEqDiff, Nat.reduceAdd, Int32.reduceMul, Int32.reduceAdd, Int32.reduceSub, Int32.reduceToNatClampNeg, Int32.reduceOfNat, Int32.reduceLT, Int32.reduceLE, va_rf, jin_eq]
theorem c133 (b : Int32) : jx d 133 0 [some (.int b)] [] σ = some (some (.int (if isLo b then 1 else 0)), σ) := by
  by_cases h1 : b < 97 <;> by_cases h2 : 122 < b <;> simp (decide := true) only [k133_0, k133_6, k133_12, k133_16, isLo, h1, h2, ← nlt32, Option.getD_some, ne_eq, reduceCtorEq, not_false_eq_true, not_true_eq_false, Option.bind_some, Option.toList_none, Option.toList_some, List.nil_append, List.cons_append, List.append_nil, ↓reduceIte, and_self, true_and, and_true, false_and, and_false, or_true, true_or, or_false, false_or, Nat.reduceEqDiff, Nat.reduceAdd, Int32.reduceMul, Int32.reduceAdd, Int32.reduceSub, Int32.reduceToNatClampNeg, Int32.reduceOfNat, Int32.reduceLT, Int32.reduceLE, va_rf, jin_eq]
theorem c43 (b : Int32) : jx d 43 0 [some (.int b)] [] σ = some (some (.int (if isFg b then 1 else 0)), σ) := by
  by_cases h1 : b < 48 <;> by_cases h2 : 57 < b <;> simp (decide := true) only [k43_0, k43_6, k43_12, k43_16, isFg, h1, h2, ← nlt32, Option.getD_some, ne_eq, reduceCtorEq, not_false_eq_true, not_true_eq_false, Option.bind_some, Option.toList_none, Option.toList_some, List.nil_append, List.cons_append, List.append_nil, ↓reduceIte, and_self, true_and, and_true, false_and, and_false, or_true, true_or, or_false, false_or, Nat.reduceEqDiff, Nat.reduceAdd, Int32.reduceMul, Int32.reduceAdd, Int32.reduceSub, Int32.reduceToNatClampNeg, Int32.reduceOfNat, Int32.reduceLT, Int32.reduceLE, va_rf, jin_eq]
theorem c141 (b : Int32) : jx d 141 0 [some (.int b)] [] σ = some (some (.int (if isFg b then 1 else 0)), σ) := by
  by_cases h1 : b < 48 <;> by_cases h2 : 57 < b <;> simp (decide := true) only [k141_0, k141_6, k141_12, k141_16, isFg, h1, h2, ← nlt32, Option.getD_some, ne_eq, reduceCtorEq, not_false_eq_true, not_true_eq_false, Option.bind_some, Option.toList_none, Option.toList_some, List.nil_append, List.cons_append, List.append_nil, ↓reduceIte, and_self, true_and, and_true, false_and, and_false, or_true, true_or, or_false, false_or, Nat.reduceEqDiff, Nat.reduceAdd, Int32.reduceMul, Int32.reduceAdd, Int32.reduceSub, Int32.reduceToNatClampNeg, Int32.reduceOfNat, Int32.reduceLT, Int32.reduceLE, va_rf, jin_eq]
theorem c45 (b : Int32) : jx d 45 0 [some (.int b)] [] σ = some (some (.int (if isSg b then 1 else 0)), σ) := by
  by_cases h1 : b = 43
  · simp (decide := true) only [k45_0, k45_6, k45_12, k45_18, k45_24, k45_30, k45_34, isSg, h1, Option.getD_some, ne_eq, reduceCtorEq, not_false_eq_true, not_true_eq_false, Option.bind_some, Option.toList_none, Option.toList_some, List.nil_append, List.cons_append, List.append_nil, ↓reduceIte, and_self, true_and, and_true, false_and, and_false, or_true, true_or, or_false, false_or, Nat.reduceEqDiff, Nat.reduceAdd, Int32.reduceMul, Int32.reduceAdd, Int32.reduceSub, Int32.reduceToNatClampNeg, Int32.reduceOfNat, Int32.reduceLT, Int32.reduceLE, va_rf, jin_eq]
  by_cases h2 : b = 45
  · simp (decide := true) only [k45_0, k45_6, k45_12, k45_18, k45_24, k45_30, k45_34, isSg, h1, h2, Option.getD_some, ne_eq, reduceCtorEq, not_false_eq_true, not_true_eq_false, Option.bind_some, Option.toList_none, Option.toList_some, List.nil_append, List.cons_append, List.append_nil, ↓reduceIte, and_self, true_and, and_true, false_and, and_false, or_true, true_or, or_false, false_or, Nat.reduceEqDiff, Nat.reduceAdd, Int32.reduceMul, Int32.reduceAdd, Int32.reduceSub, Int32.reduceToNatClampNeg, Int32.reduceOfNat, Int32.reduceLT, Int32.reduceLE, va_rf, jin_eq]
  by_cases h3 : b = 38
  · simp (decide := true) only [k45_0, k45_6, k45_12, k45_18, k45_24, k45_30, k45_34, isSg, h1, h2, h3, Option.getD_some, ne_eq, reduceCtorEq, not_false_eq_true, not_true_eq_false, Option.bind_some, Option.toList_none, Option.toList_some, List.nil_append, List.cons_append, List.append_nil, ↓reduceIte, and_self, true_and, and_true, false_and, and_false, or_true, true_or, or_false, false_or, Nat.reduceEqDiff, Nat.reduceAdd, Int32.reduceMul, Int32.reduceAdd, Int32.reduceSub, Int32.reduceToNatClampNeg, Int32.reduceOfNat, Int32.reduceLT, Int32.reduceLE, va_rf, jin_eq]
  by_cases h4 : b = 124
  · simp (decide := true) only [k45_0, k45_6, k45_12, k45_18, k45_24, k45_30, k45_34, isSg, h1, h2, h3, h4, Option.getD_some, ne_eq, reduceCtorEq, not_false_eq_true, not_true_eq_false, Option.bind_some, Option.toList_none, Option.toList_some, List.nil_append, List.cons_append, List.append_nil, ↓reduceIte, and_self, true_and, and_true, false_and, and_false, or_true, true_or, or_false, false_or, Nat.reduceEqDiff, Nat.reduceAdd, Int32.reduceMul, Int32.reduceAdd, Int32.reduceSub, Int32.reduceToNatClampNeg, Int32.reduceOfNat, Int32.reduceLT, Int32.reduceLE, va_rf, jin_eq]
  by_cases h5 : b = 94
  · simp (decide := true) only [k45_0, k45_6, k45_12, k45_18, k45_24, k45_30, k45_34, isSg, h1, h2, h3, h4, h5, Option.getD_some, ne_eq, reduceCtorEq, not_false_eq_true, not_true_eq_false, Option.bind_some, Option.toList_none, Option.toList_some, List.nil_append, List.cons_append, List.append_nil, ↓reduceIte, and_self, true_and, and_true, false_and, and_false, or_true, true_or, or_false, false_or, Nat.reduceEqDiff, Nat.reduceAdd, Int32.reduceMul, Int32.reduceAdd, Int32.reduceSub, Int32.reduceToNatClampNeg, Int32.reduceOfNat, Int32.reduceLT, Int32.reduceLE, va_rf, jin_eq]
  simp (decide := true) only [k45_0, k45_6, k45_12, k45_18, k45_24, k45_30, k45_34, isSg, h1, h2, h3, h4, h5, Option.getD_some, ne_eq, reduceCtorEq, not_false_eq_true, not_true_eq_false, Option.bind_some, Option.toList_none, Option.toList_some, List.nil_append, List.cons_append, List.append_nil, ↓reduceIte, and_self, true_and, and_true, false_and, and_false, or_true, true_or, or_false, false_or, Nat.reduceEqDiff, Nat.reduceAdd, Int32.reduceMul, Int32.reduceAdd, Int32.reduceSub, Int32.reduceToNatClampNeg, Int32.reduceOfNat, Int32.reduceLT, Int32.reduceLE, va_rf, jin_eq]
theorem c147 (b : Int32) : jx d 147 0 [some (.int b)] [] σ = some (some (.int (if isSg b then 1 else 0)), σ) := by
  by_cases h1 : b = 43
  · simp (decide := true) only [k147_0, k147_6, k147_12, k147_18, k147_24, k147_30, k147_34, isSg, h1, Option.getD_some, ne_eq, reduceCtorEq, not_false_eq_true, not_true_eq_false, Option.bind_some, Option.toList_none, Option.toList_some, List.nil_append, List.cons_append, List.append_nil, ↓reduceIte, and_self, true_and, and_true, false_and, and_false, or_true, true_or, or_false, false_or, Nat.reduceEqDiff, Nat.reduceAdd, Int32.reduceMul, Int32.reduceAdd, Int32.reduceSub, Int32.reduceToNatClampNeg, Int32.reduceOfNat, Int32.reduceLT, Int32.reduceLE, va_rf, jin_eq]
  by_cases h2 : b = 45
  · simp (decide := true) only [k147_0, k147_6, k147_12, k147_18, k147_24, k147_30, k147_34, isSg, h1, h2, Option.getD_some, ne_eq, reduceCtorEq, not_false_eq_true, not_true_eq_false, Option.bind_some, Option.toList_none, Option.toList_some, List.nil_append, List.cons_append, List.append_nil, ↓reduceIte, and_self, true_and, and_true, false_and, and_false, or_true, true_or, or_false, false_or, Nat.reduceEqDiff, Nat.reduceAdd, Int32.reduceMul, Int32.reduceAdd, Int32.reduceSub, Int32.reduceToNatClampNeg, Int32.reduceOfNat, Int32.reduceLT, Int32.reduceLE, va_rf, jin_eq]
  by_cases h3 : b = 38
  · simp (decide := true) only [k147_0, k147_6, k147_12, k147_18, k147_24, k147_30, k147_34, isSg, h1, h2, h3, Option.getD_some, ne_eq, reduceCtorEq, not_false_eq_true, not_true_eq_false, Option.bind_some, Option.toList_none, Option.toList_some, List.nil_append, List.cons_append, List.append_nil, ↓reduceIte, and_self, true_and, and_true, false_and, and_false, or_true, true_or, or_false, false_or, Nat.reduceEqDiff, Nat.reduceAdd, Int32.reduceMul, Int32.reduceAdd, Int32.reduceSub, Int32.reduceToNatClampNeg, Int32.reduceOfNat, Int32.reduceLT, Int32.reduceLE, va_rf, jin_eq]
  by_cases h4 : b = 124
  · simp (decide := true) only [k147_0, k147_6, k147_12, k147_18, k147_24, k147_30, k147_34, isSg, h1, h2, h3, h4, Option.getD_some, ne_eq, reduceCtorEq, not_false_eq_true, not_true_eq_false, Option.bind_some, Option.toList_none, Option.toList_some, List.nil_append, List.cons_append, List.append_nil, ↓reduceIte, and_self, true_and, and_true, false_and, and_false, or_true, true_or, or_false, false_or, Nat.reduceEqDiff, Nat.reduceAdd, Int32.reduceMul, Int32.reduceAdd, Int32.reduceSub, Int32.reduceToNatClampNeg, Int32.reduceOfNat, Int32.reduceLT, Int32.reduceLE, va_rf, jin_eq]
  by_cases h5 : b = 94
  · simp (decide := true) only [k147_0, k147_6, k147_12, k147_18, k147_24, k147_30, k147_34, isSg, h1, h2, h3, h4, h5, Option.getD_some, ne_eq, reduceCtorEq, not_false_eq_true, not_true_eq_false, Option.bind_some, Option.toList_none, Option.toList_some, List.nil_append, List.cons_append, List.append_nil, ↓reduceIte, and_self, true_and, and_true, false_and, and_false, or_true, true_or, or_false, false_or, Nat.reduceEqDiff, Nat.reduceAdd, Int32.reduceMul, Int32.reduceAdd, Int32.reduceSub, Int32.reduceToNatClampNeg, Int32.reduceOfNat, Int32.reduceLT, Int32.reduceLE, va_rf, jin_eq]
  simp (decide := true) only [k147_0, k147_6, k147_12, k147_18, k147_24, k147_30, k147_34, isSg, h1, h2, h3, h4, h5, Option.getD_some, ne_eq, reduceCtorEq, not_false_eq_true, not_true_eq_false, Option.bind_some, Option.toList_none, Option.toList_some, List.nil_append, List.cons_append, List.append_nil, ↓reduceIte, and_self, true_and, and_true, false_and, and_false, or_true, true_or, or_false, false_or, Nat.reduceEqDiff, Nat.reduceAdd, Int32.reduceMul, Int32.reduceAdd, Int32.reduceSub, Int32.reduceToNatClampNeg, Int32.reduceOfNat, Int32.reduceLT, Int32.reduceLE, va_rf, jin_eq]
theorem c82 (b : Int32) (hb : b = 0 ∨ b = 1) : jx d 82 0 [some (.int b)] [] σ = some (some (.int b), σ) := by
  rcases hb with rfl | rfl <;> simp (decide := true) only [k82_0, k82_4, k82_8, Option.getD_some, ne_eq, reduceCtorEq, not_false_eq_true, not_true_eq_false, Option.bind_some, Option.toList_none, Option.toList_some, List.nil_append, List.cons_append, List.append_nil, ↓reduceIte, and_self, true_and, and_true, false_and, and_false, or_true, true_or, or_false, false_or, Nat.reduceEqDiff, Nat.reduceAdd, Int32.reduceMul, Int32.reduceAdd, Int32.reduceSub, Int32.reduceToNatClampNeg, Int32.reduceOfNat, Int32.reduceLT, Int32.reduceLE, va_rf, jin_eq]
/-! by the number of an order's kind -/
def regN (k : Nat) : Nat := [1, 2, 2, 2, 2, 2, 2, 2, 1, 1, 1, 1, 1, 1, 3, 1, 1, 0, 2].getD k 0
def priN (k : Nat) : Nat := [2, 2, 3, 3, 3, 3, 3, 6, 1, 1, 1, 2, 2, 2, 4, 4, 4, 1, 3].getD k 0
def numN (k : Nat) : Bool := k == 0 || k == 12 || k == 13 || k == 15 || k == 16
def celN (k : Nat) : Bool := k == 15 || k == 16
def nlnN (k : Nat) : Nat := if k = 5 then 2 else 3
theorem k19 {k : Nat} (h : k < 19) : k = 0 ∨ k = 1 ∨ k = 2 ∨ k = 3 ∨ k = 4 ∨ k = 5 ∨ k = 6 ∨ k = 7 ∨ k = 8 ∨ k = 9 ∨ k = 10 ∨ k = 11 ∨ k = 12 ∨ k = 13 ∨ k = 14 ∨ k = 15 ∨ k = 16 ∨ k = 17 ∨ k = 18 := by omega
/-- the static rows -/
def STc (A : Nat → Nat → Int32) : Prop := (∀ i, i < 19 → A 1 i = nI (regN i)) ∧ (∀ i, i < 19 → A 2 i = nI (priN i))
def ST (σ : jS) : Prop := STc (jA σ)
theorem c34 (hS : SH σ) (hT : ST σ) {k : Nat} (hk : k < 19) : jx d 34 0 [some (.int (nI k))] [] σ = some (some (.int (nI (regN k))), σ) := by
  have h1 : ¬ nI k < 0 := nI_pos (by omega)
  have h2 : ¬ (Int32.ofNat 19 ≤ nI k) := nI_ge hk (by decide)
  have h3 := hT.1 k hk
  have h4 : (nI k).toNatClampNeg = k := nI_clamp (by omega)
  have h5 : jin 19 (nI k) := jin_n hk (by decide)
  simp (decide := true) only [k34_0, k34_4, k34_12, k34_20, sT_3, sT_1, sN_1, hS, h1, h2, h3, h4, h5, Option.bind_some, ↓reduceIte, and_self]
theorem c75 (hS : SH σ) (hT : ST σ) {k : Nat} (hk : k < 19) : jx d 75 0 [some (.int (nI k))] [] σ = some (some (.int (nI (priN k))), σ) := by
  have h1 : ¬ nI k < 0 := nI_pos (by omega)
  have h2 : ¬ (Int32.ofNat 19 ≤ nI k) := nI_ge hk (by decide)
  have h3 := hT.2 k hk
  have h4 : (nI k).toNatClampNeg = k := nI_clamp (by omega)
  have h5 : jin 19 (nI k) := jin_n hk (by decide)
  simp (decide := true) only [k75_0, k75_4, k75_12, k75_20, sT_3, sT_2, sN_2, hS, h1, h2, h3, h4, h5, Option.bind_some, ↓reduceIte, and_self]
theorem c137 {k : Nat} (hk : k < 19) : jx d 137 0 [some (.int (nI k))] [] σ = some (some (.int (nI (regN k))), σ) := by
  rcases k19 hk with h | h | h | h | h | h | h | h | h | h | h | h | h | h | h | h | h | h | h <;> subst h <;> simp (decide := true) only [k137_0, k137_6, k137_10, k137_16, k137_20, k137_25, k137_31, k137_37, k137_41, Option.getD_some, ne_eq, reduceCtorEq, not_false_eq_true, not_true_eq_false, Option.bind_some, Option.toList_none, Option.toList_some, List.nil_append, List.cons_append, List.append_nil, ↓reduceIte, and_self, true_and, and_true, false_and, and_false, or_true, true_or, or_false, false_or, Nat.reduceEqDiff, Nat.reduceAdd, Int32.reduceMul, Int32.reduceAdd, Int32.reduceSub, Int32.reduceToNatClampNeg, Int32.reduceOfNat, Int32.reduceLT, Int32.reduceLE, va_rf, jin_eq] <;> rfl
theorem c167 {k : Nat} (hk : k < 19) : jx d 167 0 [some (.int (nI k))] [] σ = some (some (.int (nI (priN k))), σ) := by
  rcases k19 hk with h | h | h | h | h | h | h | h | h | h | h | h | h | h | h | h | h | h | h <;> subst h <;> simp (decide := true) only [k167_0, k167_88, k167_90, k167_93, k167_95, k167_97, jsw_7, Option.getD_some, ne_eq, reduceCtorEq, not_false_eq_true, not_true_eq_false, Option.bind_some, Option.toList_none, Option.toList_some, List.nil_append, List.cons_append, List.append_nil, ↓reduceIte, and_self, true_and, and_true, false_and, and_false, or_true, true_or, or_false, false_or, Nat.reduceEqDiff, Nat.reduceAdd, Int32.reduceMul, Int32.reduceAdd, Int32.reduceSub, Int32.reduceToNatClampNeg, Int32.reduceOfNat, Int32.reduceLT, Int32.reduceLE, va_rf, jin_eq] <;> rfl
theorem c41 {k : Nat} (hk : k < 19) : jx d 41 0 [some (.int (nI k))] [] σ = some (some (.int (if celN k then 1 else 0)), σ) := by
  rcases k19 hk with h | h | h | h | h | h | h | h | h | h | h | h | h | h | h | h | h | h | h <;> subst h <;> simp (decide := true) only [k41_0, k41_6, k41_12, k41_16, Option.getD_some, ne_eq, reduceCtorEq, not_false_eq_true, not_true_eq_false, Option.bind_some, Option.toList_none, Option.toList_some, List.nil_append, List.cons_append, List.append_nil, ↓reduceIte, and_self, true_and, and_true, false_and, and_false, or_true, true_or, or_false, false_or, Nat.reduceEqDiff, Nat.reduceAdd, Int32.reduceMul, Int32.reduceAdd, Int32.reduceSub, Int32.reduceToNatClampNeg, Int32.reduceOfNat, Int32.reduceLT, Int32.reduceLE, va_rf, jin_eq]
theorem c40 {k : Nat} (hk : k < 19) : jx (d + 1) 40 0 [some (.int (nI k))] [] σ = some (some (.int (if numN k then 1 else 0)), σ) := by
  rcases k19 hk with h | h | h | h | h | h | h | h | h | h | h | h | h | h | h | h | h | h | h <;> subst h <;> simp (decide := true) only [k40_0, k40_4, k40_10, k40_16, k40_20, k40_23, k40_27, k41_0, k41_6, k41_12, k41_16, Option.getD_some, ne_eq, reduceCtorEq, not_false_eq_true, not_true_eq_false, Option.bind_some, Option.toList_none, Option.toList_some, List.nil_append, List.cons_append, List.append_nil, ↓reduceIte, and_self, true_and, and_true, false_and, and_false, or_true, true_or, or_false, false_or, Nat.reduceEqDiff, Nat.reduceAdd, Int32.reduceMul, Int32.reduceAdd, Int32.reduceSub, Int32.reduceToNatClampNeg, Int32.reduceOfNat, Int32.reduceLT, Int32.reduceLE, va_rf, jin_eq]
theorem c143 {k : Nat} (hk : k < 19) : jx d 143 0 [some (.int (nI k))] [] σ = some (some (.int (if numN k then 1 else 0)), σ) := by
  rcases k19 hk with h | h | h | h | h | h | h | h | h | h | h | h | h | h | h | h | h | h | h <;> subst h <;> simp (decide := true) only [k143_0, k143_4, k143_10, k143_16, k143_22, k143_28, k143_32, Option.getD_some, ne_eq, reduceCtorEq, not_false_eq_true, not_true_eq_false, Option.bind_some, Option.toList_none, Option.toList_some, List.nil_append, List.cons_append, List.append_nil, ↓reduceIte, and_self, true_and, and_true, false_and, and_false, or_true, true_or, or_false, false_or, Nat.reduceEqDiff, Nat.reduceAdd, Int32.reduceMul, Int32.reduceAdd, Int32.reduceSub, Int32.reduceToNatClampNeg, Int32.reduceOfNat, Int32.reduceLT, Int32.reduceLE, va_rf, jin_eq]
theorem c31 {k : Nat} (hk : k < 19) : jx d 31 0 [some (.int (nI k))] [] σ = some (some (.int (nI (nlnN k))), σ) := by
  rcases k19 hk with h | h | h | h | h | h | h | h | h | h | h | h | h | h | h | h | h | h | h <;> subst h <;> simp (decide := true) only [k31_0, k31_5, k31_9, Option.getD_some, ne_eq, reduceCtorEq, not_false_eq_true, not_true_eq_false, Option.bind_some, Option.toList_none, Option.toList_some, List.nil_append, List.cons_append, List.append_nil, ↓reduceIte, and_self, true_and, and_true, false_and, and_false, or_true, true_or, or_false, false_or, Nat.reduceEqDiff, Nat.reduceAdd, Int32.reduceMul, Int32.reduceAdd, Int32.reduceSub, Int32.reduceToNatClampNeg, Int32.reduceOfNat, Int32.reduceLT, Int32.reduceLE, va_rf, jin_eq] <;> rfl
end HLP
end S_25
section S_26
/-! the tape of both sides -/
def tv (len : Nat) (b : Nat → Int32) (p : Nat) : Int32 := if p < len then b p else -1
def BY (len : Nat) (b : Nat → Int32) : Prop := ∀ i, i < len → 0 ≤ (b i).toInt ∧ (b i).toInt ≤ 255
def TX (σ : jS) (len : Nat) (b : Nat → Int32) : Prop := jI σ 449 18 = nI len ∧ len ≤ 400 ∧ ∀ i, i < len → jA σ 19 i &&& 255 = b i
def TM (σ : jS) (len : Nat) (b : Nat → Int32) : Prop := jI σ 642 47 = nI len ∧ len ≤ 400 ∧ ∀ i, i < len → jA σ 48 i = b i
theorem TX_I {σ : jS} {g a : Nat} {v : Int32} {len : Nat} {b : Nat → Int32} (h : ¬ g = 449) : TX (jsI σ g a v) len b = TX σ len b := by
  unfold TX
  rw [zI_I, if_neg (fun z => h z.1.symm), zI_A]
theorem TX_A {σ : jS} {a i : Nat} {v : Int32} {len : Nat} {b : Nat → Int32} (h : ¬ a = 19) : TX (jsA σ a i v) len b = TX σ len b := by
  unfold TX
  have e : ∀ j, jA (jsA σ a i v) 19 j = jA σ 19 j := fun j => by rw [zA_A, if_neg (fun z => h z.1.symm)]
  simp only [e, zA_I]
theorem TM_I {σ : jS} {g a : Nat} {v : Int32} {len : Nat} {b : Nat → Int32} (h : ¬ g = 642) : TM (jsI σ g a v) len b = TM σ len b := by
  unfold TM
  rw [zI_I, if_neg (fun z => h z.1.symm), zI_A]
theorem TM_A {σ : jS} {a i : Nat} {v : Int32} {len : Nat} {b : Nat → Int32} (h : ¬ a = 48) : TM (jsA σ a i v) len b = TM σ len b := by
  unfold TM
  have e : ∀ j, jA (jsA σ a i v) 48 j = jA σ 48 j := fun j => by rw [zA_A, if_neg (fun z => h z.1.symm)]
  simp only [e, zA_I]
def skF (t : Nat → Int32) : Nat → Nat → Nat
  | 0, p => p
  | f + 1, p => if t p = 32 then skF t f (p + 1) else p
def sk (len : Nat) (b : Nat → Int32) (p : Nat) : Nat := skF (tv len b) (len - p) p
theorem tv_in {len : Nat} {b : Nat → Int32} {p : Nat} (h : ¬ tv len b p = -1) : p < len := by
  rcases Nat.lt_or_ge p len with q | q
  · exact q
  · exact absurd (if_neg (Nat.not_lt.mpr q)) h
theorem tv_out {len : Nat} {b : Nat → Int32} {p : Nat} (h : len ≤ p) : tv len b p = -1 := if_neg (Nat.not_lt.mpr h)
theorem tv_lit {len : Nat} {b : Nat → Int32} {p : Nat} {c : Int32} (h : tv len b p = c) (hc : ¬ c = -1) : p < len := tv_in (by rw [h]; exact hc)
theorem sk_stop {len : Nat} {b : Nat → Int32} {p : Nat} (h : ¬ tv len b p = 32) : sk len b p = p := by
  unfold sk
  cases len - p with
  | zero => rfl
  | succ f => exact if_neg h
theorem sk_go {len : Nat} {b : Nat → Int32} {p : Nat} (h : tv len b p = 32) : sk len b p = sk len b (p + 1) := by
  have hl := tv_lit h (by decide)
  unfold sk
  rw [show len - p = (len - (p + 1)) + 1 by omega]
  exact if_pos h
theorem skF_le (t : Nat → Int32) : ∀ f p, p ≤ skF t f p ∧ skF t f p ≤ p + f := by
  intro f
  induction f with
  | zero => intro p; exact ⟨Nat.le_refl _, Nat.le_refl _⟩
  | succ f ih =>
    intro p
    unfold skF
    split
    · have := ih (p + 1); omega
    · omega
theorem sk_le {len : Nat} {b : Nat → Int32} {p : Nat} (h : p ≤ len) : p ≤ sk len b p ∧ sk len b p ≤ len := by
  have := skF_le (tv len b) (len - p) p
  unfold sk
  omega
/-- behind the blanks stands no blank -/
theorem sk_end {len : Nat} {b : Nat → Int32} {p : Nat} (h : p ≤ len) : ¬ tv len b (sk len b p) = 32 := by
  suffices H : ∀ n p, len - p = n → p ≤ len → ¬ tv len b (sk len b p) = 32 from H _ p rfl h
  intro n
  induction n with
  | zero =>
    intro p hn hp
    have : p = len := by omega
    subst this
    rw [sk_stop (by rw [tv_out (Nat.le_refl _)]; decide), tv_out (Nat.le_refl _)]
    decide
  | succ n ih =>
    intro p hn hp
    by_cases hb : tv len b p = 32
    · rw [sk_go hb]; exact ih (p + 1) (by omega) (by omega)
    · rw [sk_stop hb]; exact hb
section TAP
variable {d : Nat} {σ : jS} {len : Nat} {b : Nat → Int32}
theorem c25 (hS : SH σ) (hT : TX σ len b) {p : Nat} (hp : p < 2 ^ 31) : jx d 25 0 [some (.ref 18), some (.int (nI p))] [] σ = some (some (.int (tv len b p)), σ) := by
  obtain ⟨t1, t2, t3⟩ := hT
  have h1 : ¬ nI p < 0 := nI_pos hp
  by_cases h : p < len
  · have h2 : ¬ nI len ≤ nI p := nI_ge h (by omega)
    have h3 : ¬ ((400 : Int32) ≤ nI p) := nI_ge (b := 400) (by omega) (by decide)
    have h4 : jin 400 (nI p) := jin_n (by omega) (by decide)
    have h5 := nI_clamp hp
    have h6 := t3 p h
    have e : tv len b p = b p := if_pos h
    simp (decide := true) only [k25_0, k25_4, k25_12, k25_21, k25_34, sT_1, sT_2, sT_3, sT_16, sT_17, sT_18, sT_19, sT_20, sT_21, sT_22, sT_23, sT_24, sT_25, sT_26, sT_27, sT_28, sT_29, sT_30, sT_31, sT_32, sT_33, sT_34, sT_35, sT_36, sT_37, sT_38, sT_39, sT_40, sT_41, sT_42, sT_43, sT_44, sT_45, sT_46, sT_47, sT_48, sT_49, sT_50, sT_51, sT_52, sT_53, sT_54, sT_55, sT_56, sT_57, sT_58, sT_59, sT_60, sT_61, sT_62, sT_63, sT_64, sT_65, sT_66, sT_67, sT_68, sT_69, sT_70, sT_71, sT_72, sT_73, sT_74, sT_75, sT_76, sT_77, sT_78, sT_79, sT_80, sN_1, sN_2, sN_19, sN_21, sN_23, sN_24, sN_26, sN_29, sN_31, sN_33, sN_35, sN_36, sN_37, sN_39, sN_40, sN_42, sN_44, sN_45, sN_46, sN_48, sN_49, sN_50, sN_51, sN_52, sN_53, sN_54, sN_55, sN_56, sN_57, sN_58, sN_59, sN_60, sN_61, sN_62, sN_63, sN_64, sN_65, sN_66, sN_67, sN_68, sN_69, sN_70, sN_71, sN_72, sN_73, sN_74, sN_75, sN_76, sN_77, sN_78, sN_79, sN_80, sR_0_34, sR_0_38, sR_1_34, sR_1_38, sR_64_20, sR_64_22, sR_128_25, sR_128_28, sR_194_17, sR_195_17, sR_196_17, sR_197_17, sR_258_30, sR_258_32, sR_258_41, sR_384_43, sR_448_18, sR_512_27, sR_513_27, sR_514_27, sR_515_27, sR_516_27, sR_576_16, sR_577_16, sR_578_16, sR_579_16, sR_580_16, sR_581_16, sR_582_16, sR_583_16, sR_584_16, sR_641_47, sR_643_47, sR_645_47, sR_646_47, sR_647_47, sR_648_47, sR_649_47, sR_650_47, sR_651_47, sR_652_47, sR_653_47, sR_654_47, sR_655_47, sR_656_47, sR_657_47, sR_658_47, sR_659_47, sR_661_47, sR_662_47, sR_663_47, sR_664_47, sR_665_47, sR_669_47, sR_670_47, sR_671_47, sR_672_47, sR_673_47, sR_674_47, sR_676_47, sR_677_47, sR_679_47, sR_680_47, sR_681_47, SH_I, SH_A, SH_G, SH_C, hS, t1, h1, h2, h3, h4, h5, h6, e, Option.getD_some, ne_eq, reduceCtorEq, not_false_eq_true, not_true_eq_false, Option.bind_some, Option.toList_none, Option.toList_some, List.nil_append, List.cons_append, List.append_nil, ↓reduceIte, and_self, true_and, and_true, false_and, and_false, or_true, true_or, or_false, false_or, Nat.reduceEqDiff, Nat.reduceAdd, Int32.reduceMul, Int32.reduceAdd, Int32.reduceSub, Int32.reduceToNatClampNeg, Int32.reduceOfNat, Int32.reduceLT, Int32.reduceLE, va_rf]
  · have h2 : nI len ≤ nI p := nI_le (by omega) hp
    have e : tv len b p = -1 := if_neg h
    simp (decide := true) only [k25_0, k25_4, k25_12, k25_21, k25_34, sT_1, sT_2, sT_3, sT_16, sT_17, sT_18, sT_19, sT_20, sT_21, sT_22, sT_23, sT_24, sT_25, sT_26, sT_27, sT_28, sT_29, sT_30, sT_31, sT_32, sT_33, sT_34, sT_35, sT_36, sT_37, sT_38, sT_39, sT_40, sT_41, sT_42, sT_43, sT_44, sT_45, sT_46, sT_47, sT_48, sT_49, sT_50, sT_51, sT_52, sT_53, sT_54, sT_55, sT_56, sT_57, sT_58, sT_59, sT_60, sT_61, sT_62, sT_63, sT_64, sT_65, sT_66, sT_67, sT_68, sT_69, sT_70, sT_71, sT_72, sT_73, sT_74, sT_75, sT_76, sT_77, sT_78, sT_79, sT_80, sN_1, sN_2, sN_19, sN_21, sN_23, sN_24, sN_26, sN_29, sN_31, sN_33, sN_35, sN_36, sN_37, sN_39, sN_40, sN_42, sN_44, sN_45, sN_46, sN_48, sN_49, sN_50, sN_51, sN_52, sN_53, sN_54, sN_55, sN_56, sN_57, sN_58, sN_59, sN_60, sN_61, sN_62, sN_63, sN_64, sN_65, sN_66, sN_67, sN_68, sN_69, sN_70, sN_71, sN_72, sN_73, sN_74, sN_75, sN_76, sN_77, sN_78, sN_79, sN_80, sR_0_34, sR_0_38, sR_1_34, sR_1_38, sR_64_20, sR_64_22, sR_128_25, sR_128_28, sR_194_17, sR_195_17, sR_196_17, sR_197_17, sR_258_30, sR_258_32, sR_258_41, sR_384_43, sR_448_18, sR_512_27, sR_513_27, sR_514_27, sR_515_27, sR_516_27, sR_576_16, sR_577_16, sR_578_16, sR_579_16, sR_580_16, sR_581_16, sR_582_16, sR_583_16, sR_584_16, sR_641_47, sR_643_47, sR_645_47, sR_646_47, sR_647_47, sR_648_47, sR_649_47, sR_650_47, sR_651_47, sR_652_47, sR_653_47, sR_654_47, sR_655_47, sR_656_47, sR_657_47, sR_658_47, sR_659_47, sR_661_47, sR_662_47, sR_663_47, sR_664_47, sR_665_47, sR_669_47, sR_670_47, sR_671_47, sR_672_47, sR_673_47, sR_674_47, sR_676_47, sR_677_47, sR_679_47, sR_680_47, sR_681_47, SH_I, SH_A, SH_G, SH_C, hS, t1, h1, h2, e, Option.getD_some, ne_eq, reduceCtorEq, not_false_eq_true, not_true_eq_false, Option.bind_some, Option.toList_none, Option.toList_some, List.nil_append, List.cons_append, List.append_nil, ↓reduceIte, and_self, true_and, and_true, false_and, and_false, or_true, true_or, or_false, false_or, Nat.reduceEqDiff, Nat.reduceAdd, Int32.reduceMul, Int32.reduceAdd, Int32.reduceSub, Int32.reduceToNatClampNeg, Int32.reduceOfNat, Int32.reduceLT, Int32.reduceLE, va_rf]
theorem c130 (hS : SH σ) (hT : TM σ len b) {p : Nat} (hp : p < 2 ^ 31) (hat : jI σ 666 47 = nI p) : jx d 130 0 [some (.ref 47)] [] σ = some (some (.int (tv len b p)), σ) := by
  obtain ⟨t1, t2, t3⟩ := hT
  by_cases h : p < len
  · have h2 : ¬ nI len ≤ nI p := nI_ge h (by omega)
    have h4 : jin 400 (nI p) := jin_n (by omega) (by decide)
    have h5 := nI_clamp hp
    have h6 := t3 p h
    have e : tv len b p = b p := if_pos h
    simp (decide := true) only [k130_0, k130_11, k130_23, sT_1, sT_2, sT_3, sT_16, sT_17, sT_18, sT_19, sT_20, sT_21, sT_22, sT_23, sT_24, sT_25, sT_26, sT_27, sT_28, sT_29, sT_30, sT_31, sT_32, sT_33, sT_34, sT_35, sT_36, sT_37, sT_38, sT_39, sT_40, sT_41, sT_42, sT_43, sT_44, sT_45, sT_46, sT_47, sT_48, sT_49, sT_50, sT_51, sT_52, sT_53, sT_54, sT_55, sT_56, sT_57, sT_58, sT_59, sT_60, sT_61, sT_62, sT_63, sT_64, sT_65, sT_66, sT_67, sT_68, sT_69, sT_70, sT_71, sT_72, sT_73, sT_74, sT_75, sT_76, sT_77, sT_78, sT_79, sT_80, sN_1, sN_2, sN_19, sN_21, sN_23, sN_24, sN_26, sN_29, sN_31, sN_33, sN_35, sN_36, sN_37, sN_39, sN_40, sN_42, sN_44, sN_45, sN_46, sN_48, sN_49, sN_50, sN_51, sN_52, sN_53, sN_54, sN_55, sN_56, sN_57, sN_58, sN_59, sN_60, sN_61, sN_62, sN_63, sN_64, sN_65, sN_66, sN_67, sN_68, sN_69, sN_70, sN_71, sN_72, sN_73, sN_74, sN_75, sN_76, sN_77, sN_78, sN_79, sN_80, sR_0_34, sR_0_38, sR_1_34, sR_1_38, sR_64_20, sR_64_22, sR_128_25, sR_128_28, sR_194_17, sR_195_17, sR_196_17, sR_197_17, sR_258_30, sR_258_32, sR_258_41, sR_384_43, sR_448_18, sR_512_27, sR_513_27, sR_514_27, sR_515_27, sR_516_27, sR_576_16, sR_577_16, sR_578_16, sR_579_16, sR_580_16, sR_581_16, sR_582_16, sR_583_16, sR_584_16, sR_641_47, sR_643_47, sR_645_47, sR_646_47, sR_647_47, sR_648_47, sR_649_47, sR_650_47, sR_651_47, sR_652_47, sR_653_47, sR_654_47, sR_655_47, sR_656_47, sR_657_47, sR_658_47, sR_659_47, sR_661_47, sR_662_47, sR_663_47, sR_664_47, sR_665_47, sR_669_47, sR_670_47, sR_671_47, sR_672_47, sR_673_47, sR_674_47, sR_676_47, sR_677_47, sR_679_47, sR_680_47, sR_681_47, SH_I, SH_A, SH_G, SH_C, hS, t1, hat, h2, h4, h5, h6, e, Option.getD_some, ne_eq, reduceCtorEq, not_false_eq_true, not_true_eq_false, Option.bind_some, Option.toList_none, Option.toList_some, List.nil_append, List.cons_append, List.append_nil, ↓reduceIte, and_self, true_and, and_true, false_and, and_false, or_true, true_or, or_false, false_or, Nat.reduceEqDiff, Nat.reduceAdd, Int32.reduceMul, Int32.reduceAdd, Int32.reduceSub, Int32.reduceToNatClampNeg, Int32.reduceOfNat, Int32.reduceLT, Int32.reduceLE, va_rf]
  · have h2 : nI len ≤ nI p := nI_le (by omega) hp
    have e : tv len b p = -1 := if_neg h
    simp (decide := true) only [k130_0, k130_11, k130_23, sT_1, sT_2, sT_3, sT_16, sT_17, sT_18, sT_19, sT_20, sT_21, sT_22, sT_23, sT_24, sT_25, sT_26, sT_27, sT_28, sT_29, sT_30, sT_31, sT_32, sT_33, sT_34, sT_35, sT_36, sT_37, sT_38, sT_39, sT_40, sT_41, sT_42, sT_43, sT_44, sT_45, sT_46, sT_47, sT_48, sT_49, sT_50, sT_51, sT_52, sT_53, sT_54, sT_55, sT_56, sT_57, sT_58, sT_59, sT_60, sT_61, sT_62, sT_63, sT_64, sT_65, sT_66, sT_67, sT_68, sT_69, sT_70, sT_71, sT_72, sT_73, sT_74, sT_75, sT_76, sT_77, sT_78, sT_79, sT_80, sN_1, sN_2, sN_19, sN_21, sN_23, sN_24, sN_26, sN_29, sN_31, sN_33, sN_35, sN_36, sN_37, sN_39, sN_40, sN_42, sN_44, sN_45, sN_46, sN_48, sN_49, sN_50, sN_51, sN_52, sN_53, sN_54, sN_55, sN_56, sN_57, sN_58, sN_59, sN_60, sN_61, sN_62, sN_63, sN_64, sN_65, sN_66, sN_67, sN_68, sN_69, sN_70, sN_71, sN_72, sN_73, sN_74, sN_75, sN_76, sN_77, sN_78, sN_79, sN_80, sR_0_34, sR_0_38, sR_1_34, sR_1_38, sR_64_20, sR_64_22, sR_128_25, sR_128_28, sR_194_17, sR_195_17, sR_196_17, sR_197_17, sR_258_30, sR_258_32, sR_258_41, sR_384_43, sR_448_18, sR_512_27, sR_513_27, sR_514_27, sR_515_27, sR_516_27, sR_576_16, sR_577_16, sR_578_16, sR_579_16, sR_580_16, sR_581_16, sR_582_16, sR_583_16, sR_584_16, sR_641_47, sR_643_47, sR_645_47, sR_646_47, sR_647_47, sR_648_47, sR_649_47, sR_650_47, sR_651_47, sR_652_47, sR_653_47, sR_654_47, sR_655_47, sR_656_47, sR_657_47, sR_658_47, sR_659_47, sR_661_47, sR_662_47, sR_663_47, sR_664_47, sR_665_47, sR_669_47, sR_670_47, sR_671_47, sR_672_47, sR_673_47, sR_674_47, sR_676_47, sR_677_47, sR_679_47, sR_680_47, sR_681_47, SH_I, SH_A, SH_G, SH_C, hS, t1, hat, h2, e, Option.getD_some, ne_eq, reduceCtorEq, not_false_eq_true, not_true_eq_false, Option.bind_some, Option.toList_none, Option.toList_some, List.nil_append, List.cons_append, List.append_nil, ↓reduceIte, and_self, true_and, and_true, false_and, and_false, or_true, true_or, or_false, false_or, Nat.reduceEqDiff, Nat.reduceAdd, Int32.reduceMul, Int32.reduceAdd, Int32.reduceSub, Int32.reduceToNatClampNeg, Int32.reduceOfNat, Int32.reduceLT, Int32.reduceLE, va_rf]
theorem c24 (hS : SH σ) (hT : TX σ len b) {p : Nat} (hp : p ≤ len) (hat : jI σ 198 17 = nI p) : jx (d + 1) 24 0 [some (.ref 17)] [] σ = some (none, jsI σ 198 17 (nI (sk len b p))) := by
  suffices H : ∀ n (σ : jS) p, SH σ → TX σ len b → len - p = n → p ≤ len → jI σ 198 17 = nI p → jx (d + 1) 24 0 [some (.ref 17)] [] σ = some (none, jsI σ 198 17 (nI (sk len b p))) from H _ σ p hS hT rfl hp hat
  intro n
  induction n with
  | zero =>
    intro σ p hS hT hn hp hat
    have h2 : nI len ≤ nI p := nI_le (by omega) (by have := hT.2.1; omega)
    have e : sk len b p = p := by unfold sk; rw [hn]; rfl
    rw [e, jsI_self σ 198 17 hat]
    simp (decide := true) only [k24_0, k24_14, k24_25, k24_30, k24_43, sT_1, sT_2, sT_3, sT_16, sT_17, sT_18, sT_19, sT_20, sT_21, sT_22, sT_23, sT_24, sT_25, sT_26, sT_27, sT_28, sT_29, sT_30, sT_31, sT_32, sT_33, sT_34, sT_35, sT_36, sT_37, sT_38, sT_39, sT_40, sT_41, sT_42, sT_43, sT_44, sT_45, sT_46, sT_47, sT_48, sT_49, sT_50, sT_51, sT_52, sT_53, sT_54, sT_55, sT_56, sT_57, sT_58, sT_59, sT_60, sT_61, sT_62, sT_63, sT_64, sT_65, sT_66, sT_67, sT_68, sT_69, sT_70, sT_71, sT_72, sT_73, sT_74, sT_75, sT_76, sT_77, sT_78, sT_79, sT_80, sN_1, sN_2, sN_19, sN_21, sN_23, sN_24, sN_26, sN_29, sN_31, sN_33, sN_35, sN_36, sN_37, sN_39, sN_40, sN_42, sN_44, sN_45, sN_46, sN_48, sN_49, sN_50, sN_51, sN_52, sN_53, sN_54, sN_55, sN_56, sN_57, sN_58, sN_59, sN_60, sN_61, sN_62, sN_63, sN_64, sN_65, sN_66, sN_67, sN_68, sN_69, sN_70, sN_71, sN_72, sN_73, sN_74, sN_75, sN_76, sN_77, sN_78, sN_79, sN_80, sR_0_34, sR_0_38, sR_1_34, sR_1_38, sR_64_20, sR_64_22, sR_128_25, sR_128_28, sR_194_17, sR_195_17, sR_196_17, sR_197_17, sR_258_30, sR_258_32, sR_258_41, sR_384_43, sR_448_18, sR_512_27, sR_513_27, sR_514_27, sR_515_27, sR_516_27, sR_576_16, sR_577_16, sR_578_16, sR_579_16, sR_580_16, sR_581_16, sR_582_16, sR_583_16, sR_584_16, sR_641_47, sR_643_47, sR_645_47, sR_646_47, sR_647_47, sR_648_47, sR_649_47, sR_650_47, sR_651_47, sR_652_47, sR_653_47, sR_654_47, sR_655_47, sR_656_47, sR_657_47, sR_658_47, sR_659_47, sR_661_47, sR_662_47, sR_663_47, sR_664_47, sR_665_47, sR_669_47, sR_670_47, sR_671_47, sR_672_47, sR_673_47, sR_674_47, sR_676_47, sR_677_47, sR_679_47, sR_680_47, sR_681_47, SH_I, SH_A, SH_G, SH_C, hS, hT.1, hat, h2, Option.getD_some, ne_eq, reduceCtorEq, not_false_eq_true, not_true_eq_false, Option.bind_some, Option.toList_none, Option.toList_some, List.nil_append, List.cons_append, List.append_nil, ↓reduceIte, and_self, true_and, and_true, false_and, and_false, or_true, true_or, or_false, false_or, Nat.reduceEqDiff, Nat.reduceAdd, Int32.reduceMul, Int32.reduceAdd, Int32.reduceSub, Int32.reduceToNatClampNeg, Int32.reduceOfNat, Int32.reduceLT, Int32.reduceLE, va_rf]
  | succ n ih =>
    intro σ p hS hT hn hp hat
    have hl : len ≤ 400 := hT.2.1
    have h2 : ¬ nI len ≤ nI p := nI_ge (by omega) (by omega)
    rw [k24_0 (by simp (decide := true) only [sT_1, sT_2, sT_3, sT_16, sT_17, sT_18, sT_19, sT_20, sT_21, sT_22, sT_23, sT_24, sT_25, sT_26, sT_27, sT_28, sT_29, sT_30, sT_31, sT_32, sT_33, sT_34, sT_35, sT_36, sT_37, sT_38, sT_39, sT_40, sT_41, sT_42, sT_43, sT_44, sT_45, sT_46, sT_47, sT_48, sT_49, sT_50, sT_51, sT_52, sT_53, sT_54, sT_55, sT_56, sT_57, sT_58, sT_59, sT_60, sT_61, sT_62, sT_63, sT_64, sT_65, sT_66, sT_67, sT_68, sT_69, sT_70, sT_71, sT_72, sT_73, sT_74, sT_75, sT_76, sT_77, sT_78, sT_79, sT_80, sN_1, sN_2, sN_19, sN_21, sN_23, sN_24, sN_26, sN_29, sN_31, sN_33, sN_35, sN_36, sN_37, sN_39, sN_40, sN_42, sN_44, sN_45, sN_46, sN_48, sN_49, sN_50, sN_51, sN_52, sN_53, sN_54, sN_55, sN_56, sN_57, sN_58, sN_59, sN_60, sN_61, sN_62, sN_63, sN_64, sN_65, sN_66, sN_67, sN_68, sN_69, sN_70, sN_71, sN_72, sN_73, sN_74, sN_75, sN_76, sN_77, sN_78, sN_79, sN_80, sR_0_34, sR_0_38, sR_1_34, sR_1_38, sR_64_20, sR_64_22, sR_128_25, sR_128_28, sR_194_17, sR_195_17, sR_196_17, sR_197_17, sR_258_30, sR_258_32, sR_258_41, sR_384_43, sR_448_18, sR_512_27, sR_513_27, sR_514_27, sR_515_27, sR_516_27, sR_576_16, sR_577_16, sR_578_16, sR_579_16, sR_580_16, sR_581_16, sR_582_16, sR_583_16, sR_584_16, sR_641_47, sR_643_47, sR_645_47, sR_646_47, sR_647_47, sR_648_47, sR_649_47, sR_650_47, sR_651_47, sR_652_47, sR_653_47, sR_654_47, sR_655_47, sR_656_47, sR_657_47, sR_658_47, sR_659_47, sR_661_47, sR_662_47, sR_663_47, sR_664_47, sR_665_47, sR_669_47, sR_670_47, sR_671_47, sR_672_47, sR_673_47, sR_674_47, sR_676_47, sR_677_47, sR_679_47, sR_680_47, sR_681_47, SH_I, SH_A, SH_G, SH_C, hS, Option.getD_some, ne_eq, reduceCtorEq, not_false_eq_true, not_true_eq_false, Option.bind_some, Option.toList_none, Option.toList_some, List.nil_append, List.cons_append, List.append_nil, ↓reduceIte, and_self, true_and, and_true, false_and, and_false, or_true, true_or, or_false, false_or, Nat.reduceEqDiff, Nat.reduceAdd, Int32.reduceMul, Int32.reduceAdd, Int32.reduceSub, Int32.reduceToNatClampNeg, Int32.reduceOfNat, Int32.reduceLT, Int32.reduceLE, va_rf]) (by simp (decide := true) only [sT_1, sT_2, sT_3, sT_16, sT_17, sT_18, sT_19, sT_20, sT_21, sT_22, sT_23, sT_24, sT_25, sT_26, sT_27, sT_28, sT_29, sT_30, sT_31, sT_32, sT_33, sT_34, sT_35, sT_36, sT_37, sT_38, sT_39, sT_40, sT_41, sT_42, sT_43, sT_44, sT_45, sT_46, sT_47, sT_48, sT_49, sT_50, sT_51, sT_52, sT_53, sT_54, sT_55, sT_56, sT_57, sT_58, sT_59, sT_60, sT_61, sT_62, sT_63, sT_64, sT_65, sT_66, sT_67, sT_68, sT_69, sT_70, sT_71, sT_72, sT_73, sT_74, sT_75, sT_76, sT_77, sT_78, sT_79, sT_80, sN_1, sN_2, sN_19, sN_21, sN_23, sN_24, sN_26, sN_29, sN_31, sN_33, sN_35, sN_36, sN_37, sN_39, sN_40, sN_42, sN_44, sN_45, sN_46, sN_48, sN_49, sN_50, sN_51, sN_52, sN_53, sN_54, sN_55, sN_56, sN_57, sN_58, sN_59, sN_60, sN_61, sN_62, sN_63, sN_64, sN_65, sN_66, sN_67, sN_68, sN_69, sN_70, sN_71, sN_72, sN_73, sN_74, sN_75, sN_76, sN_77, sN_78, sN_79, sN_80, sR_0_34, sR_0_38, sR_1_34, sR_1_38, sR_64_20, sR_64_22, sR_128_25, sR_128_28, sR_194_17, sR_195_17, sR_196_17, sR_197_17, sR_258_30, sR_258_32, sR_258_41, sR_384_43, sR_448_18, sR_512_27, sR_513_27, sR_514_27, sR_515_27, sR_516_27, sR_576_16, sR_577_16, sR_578_16, sR_579_16, sR_580_16, sR_581_16, sR_582_16, sR_583_16, sR_584_16, sR_641_47, sR_643_47, sR_645_47, sR_646_47, sR_647_47, sR_648_47, sR_649_47, sR_650_47, sR_651_47, sR_652_47, sR_653_47, sR_654_47, sR_655_47, sR_656_47, sR_657_47, sR_658_47, sR_659_47, sR_661_47, sR_662_47, sR_663_47, sR_664_47, sR_665_47, sR_669_47, sR_670_47, sR_671_47, sR_672_47, sR_673_47, sR_674_47, sR_676_47, sR_677_47, sR_679_47, sR_680_47, sR_681_47, SH_I, SH_A, SH_G, SH_C, hS, Option.getD_some, ne_eq, reduceCtorEq, not_false_eq_true, not_true_eq_false, Option.bind_some, Option.toList_none, Option.toList_some, List.nil_append, List.cons_append, List.append_nil, ↓reduceIte, and_self, true_and, and_true, false_and, and_false, or_true, true_or, or_false, false_or, Nat.reduceEqDiff, Nat.reduceAdd, Int32.reduceMul, Int32.reduceAdd, Int32.reduceSub, Int32.reduceToNatClampNeg, Int32.reduceOfNat, Int32.reduceLT, Int32.reduceLE, va_rf]) (by simp (decide := true) only [sT_1, sT_2, sT_3, sT_16, sT_17, sT_18, sT_19, sT_20, sT_21, sT_22, sT_23, sT_24, sT_25, sT_26, sT_27, sT_28, sT_29, sT_30, sT_31, sT_32, sT_33, sT_34, sT_35, sT_36, sT_37, sT_38, sT_39, sT_40, sT_41, sT_42, sT_43, sT_44, sT_45, sT_46, sT_47, sT_48, sT_49, sT_50, sT_51, sT_52, sT_53, sT_54, sT_55, sT_56, sT_57, sT_58, sT_59, sT_60, sT_61, sT_62, sT_63, sT_64, sT_65, sT_66, sT_67, sT_68, sT_69, sT_70, sT_71, sT_72, sT_73, sT_74, sT_75, sT_76, sT_77, sT_78, sT_79, sT_80, sN_1, sN_2, sN_19, sN_21, sN_23, sN_24, sN_26, sN_29, sN_31, sN_33, sN_35, sN_36, sN_37, sN_39, sN_40, sN_42, sN_44, sN_45, sN_46, sN_48, sN_49, sN_50, sN_51, sN_52, sN_53, sN_54, sN_55, sN_56, sN_57, sN_58, sN_59, sN_60, sN_61, sN_62, sN_63, sN_64, sN_65, sN_66, sN_67, sN_68, sN_69, sN_70, sN_71, sN_72, sN_73, sN_74, sN_75, sN_76, sN_77, sN_78, sN_79, sN_80, sR_0_34, sR_0_38, sR_1_34, sR_1_38, sR_64_20, sR_64_22, sR_128_25, sR_128_28, sR_194_17, sR_195_17, sR_196_17, sR_197_17, sR_258_30, sR_258_32, sR_258_41, sR_384_43, sR_448_18, sR_512_27, sR_513_27, sR_514_27, sR_515_27, sR_516_27, sR_576_16, sR_577_16, sR_578_16, sR_579_16, sR_580_16, sR_581_16, sR_582_16, sR_583_16, sR_584_16, sR_641_47, sR_643_47, sR_645_47, sR_646_47, sR_647_47, sR_648_47, sR_649_47, sR_650_47, sR_651_47, sR_652_47, sR_653_47, sR_654_47, sR_655_47, sR_656_47, sR_657_47, sR_658_47, sR_659_47, sR_661_47, sR_662_47, sR_663_47, sR_664_47, sR_665_47, sR_669_47, sR_670_47, sR_671_47, sR_672_47, sR_673_47, sR_674_47, sR_676_47, sR_677_47, sR_679_47, sR_680_47, sR_681_47, SH_I, SH_A, SH_G, SH_C, hS, Option.getD_some, ne_eq, reduceCtorEq, not_false_eq_true, not_true_eq_false, Option.bind_some, Option.toList_none, Option.toList_some, List.nil_append, List.cons_append, List.append_nil, ↓reduceIte, and_self, true_and, and_true, false_and, and_false, or_true, true_or, or_false, false_or, Nat.reduceEqDiff, Nat.reduceAdd, Int32.reduceMul, Int32.reduceAdd, Int32.reduceSub, Int32.reduceToNatClampNeg, Int32.reduceOfNat, Int32.reduceLT, Int32.reduceLE, va_rf])]
    have c := c25 (d := d) hS hT (p := p) (by omega)
    by_cases h : tv len b p = 32
    · rw [sk_go h]
      have e := ih (jsI σ 198 17 (nI (p + 1))) (p + 1) (by rw [SH_I]; exact hS) (by rw [TX_I (by decide)]; exact hT) (by omega) (by omega) (by simp (decide := true) only [zI_I, Option.getD_some, ne_eq, reduceCtorEq, not_false_eq_true, not_true_eq_false, Option.bind_some, Option.toList_none, Option.toList_some, List.nil_append, List.cons_append, List.append_nil, ↓reduceIte, and_self, true_and, and_true, false_and, and_false, or_true, true_or, or_false, false_or, Nat.reduceEqDiff, Nat.reduceAdd, Int32.reduceMul, Int32.reduceAdd, Int32.reduceSub, Int32.reduceToNatClampNeg, Int32.reduceOfNat, Int32.reduceLT, Int32.reduceLE, va_rf])
      rw [jsI_jsI] at e
      rw [← e]
      simp (decide := true) only [k24_14, k24_25, k24_30, k24_43, sT_1, sT_2, sT_3, sT_16, sT_17, sT_18, sT_19, sT_20, sT_21, sT_22, sT_23, sT_24, sT_25, sT_26, sT_27, sT_28, sT_29, sT_30, sT_31, sT_32, sT_33, sT_34, sT_35, sT_36, sT_37, sT_38, sT_39, sT_40, sT_41, sT_42, sT_43, sT_44, sT_45, sT_46, sT_47, sT_48, sT_49, sT_50, sT_51, sT_52, sT_53, sT_54, sT_55, sT_56, sT_57, sT_58, sT_59, sT_60, sT_61, sT_62, sT_63, sT_64, sT_65, sT_66, sT_67, sT_68, sT_69, sT_70, sT_71, sT_72, sT_73, sT_74, sT_75, sT_76, sT_77, sT_78, sT_79, sT_80, sN_1, sN_2, sN_19, sN_21, sN_23, sN_24, sN_26, sN_29, sN_31, sN_33, sN_35, sN_36, sN_37, sN_39, sN_40, sN_42, sN_44, sN_45, sN_46, sN_48, sN_49, sN_50, sN_51, sN_52, sN_53, sN_54, sN_55, sN_56, sN_57, sN_58, sN_59, sN_60, sN_61, sN_62, sN_63, sN_64, sN_65, sN_66, sN_67, sN_68, sN_69, sN_70, sN_71, sN_72, sN_73, sN_74, sN_75, sN_76, sN_77, sN_78, sN_79, sN_80, sR_0_34, sR_0_38, sR_1_34, sR_1_38, sR_64_20, sR_64_22, sR_128_25, sR_128_28, sR_194_17, sR_195_17, sR_196_17, sR_197_17, sR_258_30, sR_258_32, sR_258_41, sR_384_43, sR_448_18, sR_512_27, sR_513_27, sR_514_27, sR_515_27, sR_516_27, sR_576_16, sR_577_16, sR_578_16, sR_579_16, sR_580_16, sR_581_16, sR_582_16, sR_583_16, sR_584_16, sR_641_47, sR_643_47, sR_645_47, sR_646_47, sR_647_47, sR_648_47, sR_649_47, sR_650_47, sR_651_47, sR_652_47, sR_653_47, sR_654_47, sR_655_47, sR_656_47, sR_657_47, sR_658_47, sR_659_47, sR_661_47, sR_662_47, sR_663_47, sR_664_47, sR_665_47, sR_669_47, sR_670_47, sR_671_47, sR_672_47, sR_673_47, sR_674_47, sR_676_47, sR_677_47, sR_679_47, sR_680_47, sR_681_47, SH_I, SH_A, SH_G, SH_C, hS, hT.1, hat, h2, c, h, nI_succ, Option.getD_some, ne_eq, reduceCtorEq, not_false_eq_true, not_true_eq_false, Option.bind_some, Option.toList_none, Option.toList_some, List.nil_append, List.cons_append, List.append_nil, ↓reduceIte, and_self, true_and, and_true, false_and, and_false, or_true, true_or, or_false, false_or, Nat.reduceEqDiff, Nat.reduceAdd, Int32.reduceMul, Int32.reduceAdd, Int32.reduceSub, Int32.reduceToNatClampNeg, Int32.reduceOfNat, Int32.reduceLT, Int32.reduceLE, va_rf]
    · rw [sk_stop h, jsI_self σ 198 17 hat]
      simp (decide := true) only [k24_14, k24_25, k24_30, k24_43, sT_1, sT_2, sT_3, sT_16, sT_17, sT_18, sT_19, sT_20, sT_21, sT_22, sT_23, sT_24, sT_25, sT_26, sT_27, sT_28, sT_29, sT_30, sT_31, sT_32, sT_33, sT_34, sT_35, sT_36, sT_37, sT_38, sT_39, sT_40, sT_41, sT_42, sT_43, sT_44, sT_45, sT_46, sT_47, sT_48, sT_49, sT_50, sT_51, sT_52, sT_53, sT_54, sT_55, sT_56, sT_57, sT_58, sT_59, sT_60, sT_61, sT_62, sT_63, sT_64, sT_65, sT_66, sT_67, sT_68, sT_69, sT_70, sT_71, sT_72, sT_73, sT_74, sT_75, sT_76, sT_77, sT_78, sT_79, sT_80, sN_1, sN_2, sN_19, sN_21, sN_23, sN_24, sN_26, sN_29, sN_31, sN_33, sN_35, sN_36, sN_37, sN_39, sN_40, sN_42, sN_44, sN_45, sN_46, sN_48, sN_49, sN_50, sN_51, sN_52, sN_53, sN_54, sN_55, sN_56, sN_57, sN_58, sN_59, sN_60, sN_61, sN_62, sN_63, sN_64, sN_65, sN_66, sN_67, sN_68, sN_69, sN_70, sN_71, sN_72, sN_73, sN_74, sN_75, sN_76, sN_77, sN_78, sN_79, sN_80, sR_0_34, sR_0_38, sR_1_34, sR_1_38, sR_64_20, sR_64_22, sR_128_25, sR_128_28, sR_194_17, sR_195_17, sR_196_17, sR_197_17, sR_258_30, sR_258_32, sR_258_41, sR_384_43, sR_448_18, sR_512_27, sR_513_27, sR_514_27, sR_515_27, sR_516_27, sR_576_16, sR_577_16, sR_578_16, sR_579_16, sR_580_16, sR_581_16, sR_582_16, sR_583_16, sR_584_16, sR_641_47, sR_643_47, sR_645_47, sR_646_47, sR_647_47, sR_648_47, sR_649_47, sR_650_47, sR_651_47, sR_652_47, sR_653_47, sR_654_47, sR_655_47, sR_656_47, sR_657_47, sR_658_47, sR_659_47, sR_661_47, sR_662_47, sR_663_47, sR_664_47, sR_665_47, sR_669_47, sR_670_47, sR_671_47, sR_672_47, sR_673_47, sR_674_47, sR_676_47, sR_677_47, sR_679_47, sR_680_47, sR_681_47, SH_I, SH_A, SH_G, SH_C, hS, hT.1, hat, h2, c, h, Option.getD_some, ne_eq, reduceCtorEq, not_false_eq_true, not_true_eq_false, Option.bind_some, Option.toList_none, Option.toList_some, List.nil_append, List.cons_append, List.append_nil, ↓reduceIte, and_self, true_and, and_true, false_and, and_false, or_true, true_or, or_false, false_or, Nat.reduceEqDiff, Nat.reduceAdd, Int32.reduceMul, Int32.reduceAdd, Int32.reduceSub, Int32.reduceToNatClampNeg, Int32.reduceOfNat, Int32.reduceLT, Int32.reduceLE, va_rf]
theorem c129 (hS : SH σ) (hT : TM σ len b) {p : Nat} (hp : p ≤ len) (hat : jI σ 666 47 = nI p) : jx (d + 1) 129 0 [some (.ref 47)] [] σ = some (none, jsI σ 666 47 (nI (sk len b p))) := by
  suffices H : ∀ n (σ : jS) p, SH σ → TM σ len b → len - p = n → p ≤ len → jI σ 666 47 = nI p → jx (d + 1) 129 0 [some (.ref 47)] [] σ = some (none, jsI σ 666 47 (nI (sk len b p))) from H _ σ p hS hT rfl hp hat
  intro n
  induction n with
  | zero =>
    intro σ p hS hT hn hp hat
    have hl : len ≤ 400 := hT.2.1
    have e : sk len b p = p := by unfold sk; rw [hn]; rfl
    have c := c130 (d := d) hS hT (p := p) (by omega) hat
    rw [tv_out (by omega)] at c
    rw [e, jsI_self σ 666 47 hat]
    simp (decide := true) only [k129_0, k129_4, k129_9, k129_22, sT_1, sT_2, sT_3, sT_16, sT_17, sT_18, sT_19, sT_20, sT_21, sT_22, sT_23, sT_24, sT_25, sT_26, sT_27, sT_28, sT_29, sT_30, sT_31, sT_32, sT_33, sT_34, sT_35, sT_36, sT_37, sT_38, sT_39, sT_40, sT_41, sT_42, sT_43, sT_44, sT_45, sT_46, sT_47, sT_48, sT_49, sT_50, sT_51, sT_52, sT_53, sT_54, sT_55, sT_56, sT_57, sT_58, sT_59, sT_60, sT_61, sT_62, sT_63, sT_64, sT_65, sT_66, sT_67, sT_68, sT_69, sT_70, sT_71, sT_72, sT_73, sT_74, sT_75, sT_76, sT_77, sT_78, sT_79, sT_80, sN_1, sN_2, sN_19, sN_21, sN_23, sN_24, sN_26, sN_29, sN_31, sN_33, sN_35, sN_36, sN_37, sN_39, sN_40, sN_42, sN_44, sN_45, sN_46, sN_48, sN_49, sN_50, sN_51, sN_52, sN_53, sN_54, sN_55, sN_56, sN_57, sN_58, sN_59, sN_60, sN_61, sN_62, sN_63, sN_64, sN_65, sN_66, sN_67, sN_68, sN_69, sN_70, sN_71, sN_72, sN_73, sN_74, sN_75, sN_76, sN_77, sN_78, sN_79, sN_80, sR_0_34, sR_0_38, sR_1_34, sR_1_38, sR_64_20, sR_64_22, sR_128_25, sR_128_28, sR_194_17, sR_195_17, sR_196_17, sR_197_17, sR_258_30, sR_258_32, sR_258_41, sR_384_43, sR_448_18, sR_512_27, sR_513_27, sR_514_27, sR_515_27, sR_516_27, sR_576_16, sR_577_16, sR_578_16, sR_579_16, sR_580_16, sR_581_16, sR_582_16, sR_583_16, sR_584_16, sR_641_47, sR_643_47, sR_645_47, sR_646_47, sR_647_47, sR_648_47, sR_649_47, sR_650_47, sR_651_47, sR_652_47, sR_653_47, sR_654_47, sR_655_47, sR_656_47, sR_657_47, sR_658_47, sR_659_47, sR_661_47, sR_662_47, sR_663_47, sR_664_47, sR_665_47, sR_669_47, sR_670_47, sR_671_47, sR_672_47, sR_673_47, sR_674_47, sR_676_47, sR_677_47, sR_679_47, sR_680_47, sR_681_47, SH_I, SH_A, SH_G, SH_C, hS, c, Option.getD_some, ne_eq, reduceCtorEq, not_false_eq_true, not_true_eq_false, Option.bind_some, Option.toList_none, Option.toList_some, List.nil_append, List.cons_append, List.append_nil, ↓reduceIte, and_self, true_and, and_true, false_and, and_false, or_true, true_or, or_false, false_or, Nat.reduceEqDiff, Nat.reduceAdd, Int32.reduceMul, Int32.reduceAdd, Int32.reduceSub, Int32.reduceToNatClampNeg, Int32.reduceOfNat, Int32.reduceLT, Int32.reduceLE, va_rf]
  | succ n ih =>
    intro σ p hS hT hn hp hat
    have hl : len ≤ 400 := hT.2.1
    have c := c130 (d := d) hS hT (p := p) (by omega) hat
    rw [k129_0 (by simp (decide := true) only [sT_1, sT_2, sT_3, sT_16, sT_17, sT_18, sT_19, sT_20, sT_21, sT_22, sT_23, sT_24, sT_25, sT_26, sT_27, sT_28, sT_29, sT_30, sT_31, sT_32, sT_33, sT_34, sT_35, sT_36, sT_37, sT_38, sT_39, sT_40, sT_41, sT_42, sT_43, sT_44, sT_45, sT_46, sT_47, sT_48, sT_49, sT_50, sT_51, sT_52, sT_53, sT_54, sT_55, sT_56, sT_57, sT_58, sT_59, sT_60, sT_61, sT_62, sT_63, sT_64, sT_65, sT_66, sT_67, sT_68, sT_69, sT_70, sT_71, sT_72, sT_73, sT_74, sT_75, sT_76, sT_77, sT_78, sT_79, sT_80, sN_1, sN_2, sN_19, sN_21, sN_23, sN_24, sN_26, sN_29, sN_31, sN_33, sN_35, sN_36, sN_37, sN_39, sN_40, sN_42, sN_44, sN_45, sN_46, sN_48, sN_49, sN_50, sN_51, sN_52, sN_53, sN_54, sN_55, sN_56, sN_57, sN_58, sN_59, sN_60, sN_61, sN_62, sN_63, sN_64, sN_65, sN_66, sN_67, sN_68, sN_69, sN_70, sN_71, sN_72, sN_73, sN_74, sN_75, sN_76, sN_77, sN_78, sN_79, sN_80, sR_0_34, sR_0_38, sR_1_34, sR_1_38, sR_64_20, sR_64_22, sR_128_25, sR_128_28, sR_194_17, sR_195_17, sR_196_17, sR_197_17, sR_258_30, sR_258_32, sR_258_41, sR_384_43, sR_448_18, sR_512_27, sR_513_27, sR_514_27, sR_515_27, sR_516_27, sR_576_16, sR_577_16, sR_578_16, sR_579_16, sR_580_16, sR_581_16, sR_582_16, sR_583_16, sR_584_16, sR_641_47, sR_643_47, sR_645_47, sR_646_47, sR_647_47, sR_648_47, sR_649_47, sR_650_47, sR_651_47, sR_652_47, sR_653_47, sR_654_47, sR_655_47, sR_656_47, sR_657_47, sR_658_47, sR_659_47, sR_661_47, sR_662_47, sR_663_47, sR_664_47, sR_665_47, sR_669_47, sR_670_47, sR_671_47, sR_672_47, sR_673_47, sR_674_47, sR_676_47, sR_677_47, sR_679_47, sR_680_47, sR_681_47, SH_I, SH_A, SH_G, SH_C, hS, Option.getD_some, ne_eq, reduceCtorEq, not_false_eq_true, not_true_eq_false, Option.bind_some, Option.toList_none, Option.toList_some, List.nil_append, List.cons_append, List.append_nil, ↓reduceIte, and_self, true_and, and_true, false_and, and_false, or_true, true_or, or_false, false_or, Nat.reduceEqDiff, Nat.reduceAdd, Int32.reduceMul, Int32.reduceAdd, Int32.reduceSub, Int32.reduceToNatClampNeg, Int32.reduceOfNat, Int32.reduceLT, Int32.reduceLE, va_rf]), c]
    by_cases h : tv len b p = 32
    · rw [sk_go h]
      have e := ih (jsI σ 666 47 (nI (p + 1))) (p + 1) (by rw [SH_I]; exact hS) (by rw [TM_I (by decide)]; exact hT) (by omega) (by omega) (by simp (decide := true) only [zI_I, Option.getD_some, ne_eq, reduceCtorEq, not_false_eq_true, not_true_eq_false, Option.bind_some, Option.toList_none, Option.toList_some, List.nil_append, List.cons_append, List.append_nil, ↓reduceIte, and_self, true_and, and_true, false_and, and_false, or_true, true_or, or_false, false_or, Nat.reduceEqDiff, Nat.reduceAdd, Int32.reduceMul, Int32.reduceAdd, Int32.reduceSub, Int32.reduceToNatClampNeg, Int32.reduceOfNat, Int32.reduceLT, Int32.reduceLE, va_rf])
      rw [jsI_jsI] at e
      rw [← e]
      simp (decide := true) only [k129_4, k129_9, k129_22, sT_1, sT_2, sT_3, sT_16, sT_17, sT_18, sT_19, sT_20, sT_21, sT_22, sT_23, sT_24, sT_25, sT_26, sT_27, sT_28, sT_29, sT_30, sT_31, sT_32, sT_33, sT_34, sT_35, sT_36, sT_37, sT_38, sT_39, sT_40, sT_41, sT_42, sT_43, sT_44, sT_45, sT_46, sT_47, sT_48, sT_49, sT_50, sT_51, sT_52, sT_53, sT_54, sT_55, sT_56, sT_57, sT_58, sT_59, sT_60, sT_61, sT_62, sT_63, sT_64, sT_65, sT_66, sT_67, sT_68, sT_69, sT_70, sT_71, sT_72, sT_73, sT_74, sT_75, sT_76, sT_77, sT_78, sT_79, sT_80, sN_1, sN_2, sN_19, sN_21, sN_23, sN_24, sN_26, sN_29, sN_31, sN_33, sN_35, sN_36, sN_37, sN_39, sN_40, sN_42, sN_44, sN_45, sN_46, sN_48, sN_49, sN_50, sN_51, sN_52, sN_53, sN_54, sN_55, sN_56, sN_57, sN_58, sN_59, sN_60, sN_61, sN_62, sN_63, sN_64, sN_65, sN_66, sN_67, sN_68, sN_69, sN_70, sN_71, sN_72, sN_73, sN_74, sN_75, sN_76, sN_77, sN_78, sN_79, sN_80, sR_0_34, sR_0_38, sR_1_34, sR_1_38, sR_64_20, sR_64_22, sR_128_25, sR_128_28, sR_194_17, sR_195_17, sR_196_17, sR_197_17, sR_258_30, sR_258_32, sR_258_41, sR_384_43, sR_448_18, sR_512_27, sR_513_27, sR_514_27, sR_515_27, sR_516_27, sR_576_16, sR_577_16, sR_578_16, sR_579_16, sR_580_16, sR_581_16, sR_582_16, sR_583_16, sR_584_16, sR_641_47, sR_643_47, sR_645_47, sR_646_47, sR_647_47, sR_648_47, sR_649_47, sR_650_47, sR_651_47, sR_652_47, sR_653_47, sR_654_47, sR_655_47, sR_656_47, sR_657_47, sR_658_47, sR_659_47, sR_661_47, sR_662_47, sR_663_47, sR_664_47, sR_665_47, sR_669_47, sR_670_47, sR_671_47, sR_672_47, sR_673_47, sR_674_47, sR_676_47, sR_677_47, sR_679_47, sR_680_47, sR_681_47, SH_I, SH_A, SH_G, SH_C, hS, hat, h, nI_succ, Option.getD_some, ne_eq, reduceCtorEq, not_false_eq_true, not_true_eq_false, Option.bind_some, Option.toList_none, Option.toList_some, List.nil_append, List.cons_append, List.append_nil, ↓reduceIte, and_self, true_and, and_true, false_and, and_false, or_true, true_or, or_false, false_or, Nat.reduceEqDiff, Nat.reduceAdd, Int32.reduceMul, Int32.reduceAdd, Int32.reduceSub, Int32.reduceToNatClampNeg, Int32.reduceOfNat, Int32.reduceLT, Int32.reduceLE, va_rf]
    · rw [sk_stop h, jsI_self σ 666 47 hat]
      simp (decide := true) only [k129_4, k129_9, k129_22, sT_1, sT_2, sT_3, sT_16, sT_17, sT_18, sT_19, sT_20, sT_21, sT_22, sT_23, sT_24, sT_25, sT_26, sT_27, sT_28, sT_29, sT_30, sT_31, sT_32, sT_33, sT_34, sT_35, sT_36, sT_37, sT_38, sT_39, sT_40, sT_41, sT_42, sT_43, sT_44, sT_45, sT_46, sT_47, sT_48, sT_49, sT_50, sT_51, sT_52, sT_53, sT_54, sT_55, sT_56, sT_57, sT_58, sT_59, sT_60, sT_61, sT_62, sT_63, sT_64, sT_65, sT_66, sT_67, sT_68, sT_69, sT_70, sT_71, sT_72, sT_73, sT_74, sT_75, sT_76, sT_77, sT_78, sT_79, sT_80, sN_1, sN_2, sN_19, sN_21, sN_23, sN_24, sN_26, sN_29, sN_31, sN_33, sN_35, sN_36, sN_37, sN_39, sN_40, sN_42, sN_44, sN_45, sN_46, sN_48, sN_49, sN_50, sN_51, sN_52, sN_53, sN_54, sN_55, sN_56, sN_57, sN_58, sN_59, sN_60, sN_61, sN_62, sN_63, sN_64, sN_65, sN_66, sN_67, sN_68, sN_69, sN_70, sN_71, sN_72, sN_73, sN_74, sN_75, sN_76, sN_77, sN_78, sN_79, sN_80, sR_0_34, sR_0_38, sR_1_34, sR_1_38, sR_64_20, sR_64_22, sR_128_25, sR_128_28, sR_194_17, sR_195_17, sR_196_17, sR_197_17, sR_258_30, sR_258_32, sR_258_41, sR_384_43, sR_448_18, sR_512_27, sR_513_27, sR_514_27, sR_515_27, sR_516_27, sR_576_16, sR_577_16, sR_578_16, sR_579_16, sR_580_16, sR_581_16, sR_582_16, sR_583_16, sR_584_16, sR_641_47, sR_643_47, sR_645_47, sR_646_47, sR_647_47, sR_648_47, sR_649_47, sR_650_47, sR_651_47, sR_652_47, sR_653_47, sR_654_47, sR_655_47, sR_656_47, sR_657_47, sR_658_47, sR_659_47, sR_661_47, sR_662_47, sR_663_47, sR_664_47, sR_665_47, sR_669_47, sR_670_47, sR_671_47, sR_672_47, sR_673_47, sR_674_47, sR_676_47, sR_677_47, sR_679_47, sR_680_47, sR_681_47, SH_I, SH_A, SH_G, SH_C, hS, hat, h, Option.getD_some, ne_eq, reduceCtorEq, not_false_eq_true, not_true_eq_false, Option.bind_some, Option.toList_none, Option.toList_some, List.nil_append, List.cons_append, List.append_nil, ↓reduceIte, and_self, true_and, and_true, false_and, and_false, or_true, true_or, or_false, false_or, Nat.reduceEqDiff, Nat.reduceAdd, Int32.reduceMul, Int32.reduceAdd, Int32.reduceSub, Int32.reduceToNatClampNeg, Int32.reduceOfNat, Int32.reduceLT, Int32.reduceLE, va_rf]
end TAP
end S_26
