def LAYL : List (Nat × Nat × Nat) := [(0, 0, 1), (0, 1, 5), (0, 2, 13), (0, 3, 65), (0, 4, 72), (0, 5, 73), (0, 6, 75), (0, 7, 77), (1, 0, 2), (1, 1, 3), (1, 2, 4), (5, 0, 6), (5, 1, 7), (5, 2, 8), (5, 3, 9), (5, 4, 10), (5, 5, 11), (5, 6, 12), (14, 0, 15), (14, 1, 17), (14, 2, 23), (14, 3, 24), (14, 4, 25), (14, 5, 26), (14, 6, 27), (14, 7, 28), (14, 8, 29), (14, 9, 30), (15, 9, 16), (17, 0, 18), (17, 1, 19), (17, 2, 20), (17, 3, 21), (17, 4, 22), (31, 0, 32), (31, 1, 34), (31, 2, 40), (31, 3, 41), (31, 4, 42), (31, 5, 43), (31, 6, 44), (31, 7, 45), (31, 8, 46), (31, 9, 47), (32, 9, 33), (34, 0, 35), (34, 1, 36), (34, 2, 37), (34, 3, 38), (34, 4, 39), (48, 0, 49), (48, 1, 51), (48, 2, 57), (48, 3, 58), (48, 4, 59), (48, 5, 60), (48, 6, 61), (48, 7, 62), (48, 8, 63), (48, 9, 64), (49, 9, 50), (51, 0, 52), (51, 1, 53), (51, 2, 54), (51, 3, 55), (51, 4, 56), (79, 0, 80), (79, 1, 82), (79, 2, 88), (79, 3, 89), (79, 4, 90), (79, 5, 91), (79, 6, 92), (79, 7, 93), (79, 8, 94), (79, 9, 95), (80, 9, 81), (82, 0, 83), (82, 1, 84), (82, 2, 85), (82, 3, 86), (82, 4, 87), (96, 0, 97), (96, 1, 99), (96, 2, 105), (96, 3, 106), (96, 4, 107), (96, 5, 108), (96, 6, 109), (96, 7, 110), (96, 8, 111), (96, 9, 112), (97, 9, 98), (99, 0, 100), (99, 1, 101), (99, 2, 102), (99, 3, 103), (99, 4, 104), (65, 0, 66), (65, 1, 67), (65, 2, 69), (65, 3, 70), (65, 4, 71), (67, 9, 68), (73, 0, 74), (75, 0, 76), (77, 0, 78), (113, 0, 114), (113, 1, 115), (113, 5, 116), (113, 6, 117), (113, 7, 118), (113, 8, 119), (113, 9, 120), (113, 20, 121), (113, 23, 122), (113, 24, 123), (113, 27, 124), (113, 28, 125), (113, 29, 126), (113, 34, 127), (113, 35, 128), (113, 36, 129), (13, 0, 14), (13, 1, 31), (13, 2, 48)]
/-- the world once made: all its cells, its final references -/
def Lay (h : HP) : Prop := h.1 = 130 ∧ ∀ q ∈ LAYL, hR h q.1 q.2.1 = q.2.2
theorem Lay.keep {h h' : HP} (hL : Lay h) (h1 : h'.1 = h.1) (h2 : hR h' = hR h) : Lay h' := ⟨h1.trans hL.1, fun q hq => by rw [h2]; exact hL.2 q hq⟩
theorem ly_0_0 {h : HP} (hL : Lay h) : hR h 0 0 = 1 := hL.2 (0, 0, 1) (List.mem_of_getElem? (i := 0) rfl)
theorem ly_0_1 {h : HP} (hL : Lay h) : hR h 0 1 = 5 := hL.2 (0, 1, 5) (List.mem_of_getElem? (i := 1) rfl)
theorem ly_0_2 {h : HP} (hL : Lay h) : hR h 0 2 = 13 := hL.2 (0, 2, 13) (List.mem_of_getElem? (i := 2) rfl)
theorem ly_0_3 {h : HP} (hL : Lay h) : hR h 0 3 = 65 := hL.2 (0, 3, 65) (List.mem_of_getElem? (i := 3) rfl)
theorem ly_0_4 {h : HP} (hL : Lay h) : hR h 0 4 = 72 := hL.2 (0, 4, 72) (List.mem_of_getElem? (i := 4) rfl)
theorem ly_0_5 {h : HP} (hL : Lay h) : hR h 0 5 = 73 := hL.2 (0, 5, 73) (List.mem_of_getElem? (i := 5) rfl)
theorem ly_0_6 {h : HP} (hL : Lay h) : hR h 0 6 = 75 := hL.2 (0, 6, 75) (List.mem_of_getElem? (i := 6) rfl)
theorem ly_0_7 {h : HP} (hL : Lay h) : hR h 0 7 = 77 := hL.2 (0, 7, 77) (List.mem_of_getElem? (i := 7) rfl)
theorem ly_1_0 {h : HP} (hL : Lay h) : hR h 1 0 = 2 := hL.2 (1, 0, 2) (List.mem_of_getElem? (i := 8) rfl)
theorem ly_1_1 {h : HP} (hL : Lay h) : hR h 1 1 = 3 := hL.2 (1, 1, 3) (List.mem_of_getElem? (i := 9) rfl)
theorem ly_1_2 {h : HP} (hL : Lay h) : hR h 1 2 = 4 := hL.2 (1, 2, 4) (List.mem_of_getElem? (i := 10) rfl)
theorem ly_5_0 {h : HP} (hL : Lay h) : hR h 5 0 = 6 := hL.2 (5, 0, 6) (List.mem_of_getElem? (i := 11) rfl)
theorem ly_5_1 {h : HP} (hL : Lay h) : hR h 5 1 = 7 := hL.2 (5, 1, 7) (List.mem_of_getElem? (i := 12) rfl)
theorem ly_5_2 {h : HP} (hL : Lay h) : hR h 5 2 = 8 := hL.2 (5, 2, 8) (List.mem_of_getElem? (i := 13) rfl)
theorem ly_5_3 {h : HP} (hL : Lay h) : hR h 5 3 = 9 := hL.2 (5, 3, 9) (List.mem_of_getElem? (i := 14) rfl)
theorem ly_5_4 {h : HP} (hL : Lay h) : hR h 5 4 = 10 := hL.2 (5, 4, 10) (List.mem_of_getElem? (i := 15) rfl)
theorem ly_5_5 {h : HP} (hL : Lay h) : hR h 5 5 = 11 := hL.2 (5, 5, 11) (List.mem_of_getElem? (i := 16) rfl)
theorem ly_5_6 {h : HP} (hL : Lay h) : hR h 5 6 = 12 := hL.2 (5, 6, 12) (List.mem_of_getElem? (i := 17) rfl)
theorem ly_14_0 {h : HP} (hL : Lay h) : hR h 14 0 = 15 := hL.2 (14, 0, 15) (List.mem_of_getElem? (i := 18) rfl)
theorem ly_14_1 {h : HP} (hL : Lay h) : hR h 14 1 = 17 := hL.2 (14, 1, 17) (List.mem_of_getElem? (i := 19) rfl)
theorem ly_14_2 {h : HP} (hL : Lay h) : hR h 14 2 = 23 := hL.2 (14, 2, 23) (List.mem_of_getElem? (i := 20) rfl)
theorem ly_14_3 {h : HP} (hL : Lay h) : hR h 14 3 = 24 := hL.2 (14, 3, 24) (List.mem_of_getElem? (i := 21) rfl)
theorem ly_14_4 {h : HP} (hL : Lay h) : hR h 14 4 = 25 := hL.2 (14, 4, 25) (List.mem_of_getElem? (i := 22) rfl)
theorem ly_14_5 {h : HP} (hL : Lay h) : hR h 14 5 = 26 := hL.2 (14, 5, 26) (List.mem_of_getElem? (i := 23) rfl)
theorem ly_14_6 {h : HP} (hL : Lay h) : hR h 14 6 = 27 := hL.2 (14, 6, 27) (List.mem_of_getElem? (i := 24) rfl)
theorem ly_14_7 {h : HP} (hL : Lay h) : hR h 14 7 = 28 := hL.2 (14, 7, 28) (List.mem_of_getElem? (i := 25) rfl)
theorem ly_14_8 {h : HP} (hL : Lay h) : hR h 14 8 = 29 := hL.2 (14, 8, 29) (List.mem_of_getElem? (i := 26) rfl)
theorem ly_14_9 {h : HP} (hL : Lay h) : hR h 14 9 = 30 := hL.2 (14, 9, 30) (List.mem_of_getElem? (i := 27) rfl)
theorem ly_15_9 {h : HP} (hL : Lay h) : hR h 15 9 = 16 := hL.2 (15, 9, 16) (List.mem_of_getElem? (i := 28) rfl)
theorem ly_17_0 {h : HP} (hL : Lay h) : hR h 17 0 = 18 := hL.2 (17, 0, 18) (List.mem_of_getElem? (i := 29) rfl)
theorem ly_17_1 {h : HP} (hL : Lay h) : hR h 17 1 = 19 := hL.2 (17, 1, 19) (List.mem_of_getElem? (i := 30) rfl)
theorem ly_17_2 {h : HP} (hL : Lay h) : hR h 17 2 = 20 := hL.2 (17, 2, 20) (List.mem_of_getElem? (i := 31) rfl)
theorem ly_17_3 {h : HP} (hL : Lay h) : hR h 17 3 = 21 := hL.2 (17, 3, 21) (List.mem_of_getElem? (i := 32) rfl)
theorem ly_17_4 {h : HP} (hL : Lay h) : hR h 17 4 = 22 := hL.2 (17, 4, 22) (List.mem_of_getElem? (i := 33) rfl)
theorem ly_31_0 {h : HP} (hL : Lay h) : hR h 31 0 = 32 := hL.2 (31, 0, 32) (List.mem_of_getElem? (i := 34) rfl)
theorem ly_31_1 {h : HP} (hL : Lay h) : hR h 31 1 = 34 := hL.2 (31, 1, 34) (List.mem_of_getElem? (i := 35) rfl)
theorem ly_31_2 {h : HP} (hL : Lay h) : hR h 31 2 = 40 := hL.2 (31, 2, 40) (List.mem_of_getElem? (i := 36) rfl)
theorem ly_31_3 {h : HP} (hL : Lay h) : hR h 31 3 = 41 := hL.2 (31, 3, 41) (List.mem_of_getElem? (i := 37) rfl)
theorem ly_31_4 {h : HP} (hL : Lay h) : hR h 31 4 = 42 := hL.2 (31, 4, 42) (List.mem_of_getElem? (i := 38) rfl)
theorem ly_31_5 {h : HP} (hL : Lay h) : hR h 31 5 = 43 := hL.2 (31, 5, 43) (List.mem_of_getElem? (i := 39) rfl)
theorem ly_31_6 {h : HP} (hL : Lay h) : hR h 31 6 = 44 := hL.2 (31, 6, 44) (List.mem_of_getElem? (i := 40) rfl)
theorem ly_31_7 {h : HP} (hL : Lay h) : hR h 31 7 = 45 := hL.2 (31, 7, 45) (List.mem_of_getElem? (i := 41) rfl)
theorem ly_31_8 {h : HP} (hL : Lay h) : hR h 31 8 = 46 := hL.2 (31, 8, 46) (List.mem_of_getElem? (i := 42) rfl)
theorem ly_31_9 {h : HP} (hL : Lay h) : hR h 31 9 = 47 := hL.2 (31, 9, 47) (List.mem_of_getElem? (i := 43) rfl)
theorem ly_32_9 {h : HP} (hL : Lay h) : hR h 32 9 = 33 := hL.2 (32, 9, 33) (List.mem_of_getElem? (i := 44) rfl)
theorem ly_34_0 {h : HP} (hL : Lay h) : hR h 34 0 = 35 := hL.2 (34, 0, 35) (List.mem_of_getElem? (i := 45) rfl)
theorem ly_34_1 {h : HP} (hL : Lay h) : hR h 34 1 = 36 := hL.2 (34, 1, 36) (List.mem_of_getElem? (i := 46) rfl)
theorem ly_34_2 {h : HP} (hL : Lay h) : hR h 34 2 = 37 := hL.2 (34, 2, 37) (List.mem_of_getElem? (i := 47) rfl)
theorem ly_34_3 {h : HP} (hL : Lay h) : hR h 34 3 = 38 := hL.2 (34, 3, 38) (List.mem_of_getElem? (i := 48) rfl)
theorem ly_34_4 {h : HP} (hL : Lay h) : hR h 34 4 = 39 := hL.2 (34, 4, 39) (List.mem_of_getElem? (i := 49) rfl)
theorem ly_48_0 {h : HP} (hL : Lay h) : hR h 48 0 = 49 := hL.2 (48, 0, 49) (List.mem_of_getElem? (i := 50) rfl)
theorem ly_48_1 {h : HP} (hL : Lay h) : hR h 48 1 = 51 := hL.2 (48, 1, 51) (List.mem_of_getElem? (i := 51) rfl)
theorem ly_48_2 {h : HP} (hL : Lay h) : hR h 48 2 = 57 := hL.2 (48, 2, 57) (List.mem_of_getElem? (i := 52) rfl)
theorem ly_48_3 {h : HP} (hL : Lay h) : hR h 48 3 = 58 := hL.2 (48, 3, 58) (List.mem_of_getElem? (i := 53) rfl)
theorem ly_48_4 {h : HP} (hL : Lay h) : hR h 48 4 = 59 := hL.2 (48, 4, 59) (List.mem_of_getElem? (i := 54) rfl)
theorem ly_48_5 {h : HP} (hL : Lay h) : hR h 48 5 = 60 := hL.2 (48, 5, 60) (List.mem_of_getElem? (i := 55) rfl)
theorem ly_48_6 {h : HP} (hL : Lay h) : hR h 48 6 = 61 := hL.2 (48, 6, 61) (List.mem_of_getElem? (i := 56) rfl)
theorem ly_48_7 {h : HP} (hL : Lay h) : hR h 48 7 = 62 := hL.2 (48, 7, 62) (List.mem_of_getElem? (i := 57) rfl)
theorem ly_48_8 {h : HP} (hL : Lay h) : hR h 48 8 = 63 := hL.2 (48, 8, 63) (List.mem_of_getElem? (i := 58) rfl)
theorem ly_48_9 {h : HP} (hL : Lay h) : hR h 48 9 = 64 := hL.2 (48, 9, 64) (List.mem_of_getElem? (i := 59) rfl)
theorem ly_49_9 {h : HP} (hL : Lay h) : hR h 49 9 = 50 := hL.2 (49, 9, 50) (List.mem_of_getElem? (i := 60) rfl)
theorem ly_51_0 {h : HP} (hL : Lay h) : hR h 51 0 = 52 := hL.2 (51, 0, 52) (List.mem_of_getElem? (i := 61) rfl)
theorem ly_51_1 {h : HP} (hL : Lay h) : hR h 51 1 = 53 := hL.2 (51, 1, 53) (List.mem_of_getElem? (i := 62) rfl)
theorem ly_51_2 {h : HP} (hL : Lay h) : hR h 51 2 = 54 := hL.2 (51, 2, 54) (List.mem_of_getElem? (i := 63) rfl)
theorem ly_51_3 {h : HP} (hL : Lay h) : hR h 51 3 = 55 := hL.2 (51, 3, 55) (List.mem_of_getElem? (i := 64) rfl)
theorem ly_51_4 {h : HP} (hL : Lay h) : hR h 51 4 = 56 := hL.2 (51, 4, 56) (List.mem_of_getElem? (i := 65) rfl)
theorem ly_79_0 {h : HP} (hL : Lay h) : hR h 79 0 = 80 := hL.2 (79, 0, 80) (List.mem_of_getElem? (i := 66) rfl)
theorem ly_79_1 {h : HP} (hL : Lay h) : hR h 79 1 = 82 := hL.2 (79, 1, 82) (List.mem_of_getElem? (i := 67) rfl)
theorem ly_79_2 {h : HP} (hL : Lay h) : hR h 79 2 = 88 := hL.2 (79, 2, 88) (List.mem_of_getElem? (i := 68) rfl)
theorem ly_79_3 {h : HP} (hL : Lay h) : hR h 79 3 = 89 := hL.2 (79, 3, 89) (List.mem_of_getElem? (i := 69) rfl)
theorem ly_79_4 {h : HP} (hL : Lay h) : hR h 79 4 = 90 := hL.2 (79, 4, 90) (List.mem_of_getElem? (i := 70) rfl)
theorem ly_79_5 {h : HP} (hL : Lay h) : hR h 79 5 = 91 := hL.2 (79, 5, 91) (List.mem_of_getElem? (i := 71) rfl)
theorem ly_79_6 {h : HP} (hL : Lay h) : hR h 79 6 = 92 := hL.2 (79, 6, 92) (List.mem_of_getElem? (i := 72) rfl)
theorem ly_79_7 {h : HP} (hL : Lay h) : hR h 79 7 = 93 := hL.2 (79, 7, 93) (List.mem_of_getElem? (i := 73) rfl)
theorem ly_79_8 {h : HP} (hL : Lay h) : hR h 79 8 = 94 := hL.2 (79, 8, 94) (List.mem_of_getElem? (i := 74) rfl)
theorem ly_79_9 {h : HP} (hL : Lay h) : hR h 79 9 = 95 := hL.2 (79, 9, 95) (List.mem_of_getElem? (i := 75) rfl)
theorem ly_80_9 {h : HP} (hL : Lay h) : hR h 80 9 = 81 := hL.2 (80, 9, 81) (List.mem_of_getElem? (i := 76) rfl)
theorem ly_82_0 {h : HP} (hL : Lay h) : hR h 82 0 = 83 := hL.2 (82, 0, 83) (List.mem_of_getElem? (i := 77) rfl)
theorem ly_82_1 {h : HP} (hL : Lay h) : hR h 82 1 = 84 := hL.2 (82, 1, 84) (List.mem_of_getElem? (i := 78) rfl)
theorem ly_82_2 {h : HP} (hL : Lay h) : hR h 82 2 = 85 := hL.2 (82, 2, 85) (List.mem_of_getElem? (i := 79) rfl)
theorem ly_82_3 {h : HP} (hL : Lay h) : hR h 82 3 = 86 := hL.2 (82, 3, 86) (List.mem_of_getElem? (i := 80) rfl)
theorem ly_82_4 {h : HP} (hL : Lay h) : hR h 82 4 = 87 := hL.2 (82, 4, 87) (List.mem_of_getElem? (i := 81) rfl)
theorem ly_96_0 {h : HP} (hL : Lay h) : hR h 96 0 = 97 := hL.2 (96, 0, 97) (List.mem_of_getElem? (i := 82) rfl)
theorem ly_96_1 {h : HP} (hL : Lay h) : hR h 96 1 = 99 := hL.2 (96, 1, 99) (List.mem_of_getElem? (i := 83) rfl)
theorem ly_96_2 {h : HP} (hL : Lay h) : hR h 96 2 = 105 := hL.2 (96, 2, 105) (List.mem_of_getElem? (i := 84) rfl)
theorem ly_96_3 {h : HP} (hL : Lay h) : hR h 96 3 = 106 := hL.2 (96, 3, 106) (List.mem_of_getElem? (i := 85) rfl)
theorem ly_96_4 {h : HP} (hL : Lay h) : hR h 96 4 = 107 := hL.2 (96, 4, 107) (List.mem_of_getElem? (i := 86) rfl)
theorem ly_96_5 {h : HP} (hL : Lay h) : hR h 96 5 = 108 := hL.2 (96, 5, 108) (List.mem_of_getElem? (i := 87) rfl)
theorem ly_96_6 {h : HP} (hL : Lay h) : hR h 96 6 = 109 := hL.2 (96, 6, 109) (List.mem_of_getElem? (i := 88) rfl)
theorem ly_96_7 {h : HP} (hL : Lay h) : hR h 96 7 = 110 := hL.2 (96, 7, 110) (List.mem_of_getElem? (i := 89) rfl)
theorem ly_96_8 {h : HP} (hL : Lay h) : hR h 96 8 = 111 := hL.2 (96, 8, 111) (List.mem_of_getElem? (i := 90) rfl)
theorem ly_96_9 {h : HP} (hL : Lay h) : hR h 96 9 = 112 := hL.2 (96, 9, 112) (List.mem_of_getElem? (i := 91) rfl)
theorem ly_97_9 {h : HP} (hL : Lay h) : hR h 97 9 = 98 := hL.2 (97, 9, 98) (List.mem_of_getElem? (i := 92) rfl)
theorem ly_99_0 {h : HP} (hL : Lay h) : hR h 99 0 = 100 := hL.2 (99, 0, 100) (List.mem_of_getElem? (i := 93) rfl)
theorem ly_99_1 {h : HP} (hL : Lay h) : hR h 99 1 = 101 := hL.2 (99, 1, 101) (List.mem_of_getElem? (i := 94) rfl)
theorem ly_99_2 {h : HP} (hL : Lay h) : hR h 99 2 = 102 := hL.2 (99, 2, 102) (List.mem_of_getElem? (i := 95) rfl)
theorem ly_99_3 {h : HP} (hL : Lay h) : hR h 99 3 = 103 := hL.2 (99, 3, 103) (List.mem_of_getElem? (i := 96) rfl)
theorem ly_99_4 {h : HP} (hL : Lay h) : hR h 99 4 = 104 := hL.2 (99, 4, 104) (List.mem_of_getElem? (i := 97) rfl)
theorem ly_65_0 {h : HP} (hL : Lay h) : hR h 65 0 = 66 := hL.2 (65, 0, 66) (List.mem_of_getElem? (i := 98) rfl)
theorem ly_65_1 {h : HP} (hL : Lay h) : hR h 65 1 = 67 := hL.2 (65, 1, 67) (List.mem_of_getElem? (i := 99) rfl)
theorem ly_65_2 {h : HP} (hL : Lay h) : hR h 65 2 = 69 := hL.2 (65, 2, 69) (List.mem_of_getElem? (i := 100) rfl)
theorem ly_65_3 {h : HP} (hL : Lay h) : hR h 65 3 = 70 := hL.2 (65, 3, 70) (List.mem_of_getElem? (i := 101) rfl)
theorem ly_65_4 {h : HP} (hL : Lay h) : hR h 65 4 = 71 := hL.2 (65, 4, 71) (List.mem_of_getElem? (i := 102) rfl)
theorem ly_67_9 {h : HP} (hL : Lay h) : hR h 67 9 = 68 := hL.2 (67, 9, 68) (List.mem_of_getElem? (i := 103) rfl)
theorem ly_73_0 {h : HP} (hL : Lay h) : hR h 73 0 = 74 := hL.2 (73, 0, 74) (List.mem_of_getElem? (i := 104) rfl)
theorem ly_75_0 {h : HP} (hL : Lay h) : hR h 75 0 = 76 := hL.2 (75, 0, 76) (List.mem_of_getElem? (i := 105) rfl)
theorem ly_77_0 {h : HP} (hL : Lay h) : hR h 77 0 = 78 := hL.2 (77, 0, 78) (List.mem_of_getElem? (i := 106) rfl)
theorem ly_113_0 {h : HP} (hL : Lay h) : hR h 113 0 = 114 := hL.2 (113, 0, 114) (List.mem_of_getElem? (i := 107) rfl)
theorem ly_113_1 {h : HP} (hL : Lay h) : hR h 113 1 = 115 := hL.2 (113, 1, 115) (List.mem_of_getElem? (i := 108) rfl)
theorem ly_113_5 {h : HP} (hL : Lay h) : hR h 113 5 = 116 := hL.2 (113, 5, 116) (List.mem_of_getElem? (i := 109) rfl)
theorem ly_113_6 {h : HP} (hL : Lay h) : hR h 113 6 = 117 := hL.2 (113, 6, 117) (List.mem_of_getElem? (i := 110) rfl)
theorem ly_113_7 {h : HP} (hL : Lay h) : hR h 113 7 = 118 := hL.2 (113, 7, 118) (List.mem_of_getElem? (i := 111) rfl)
theorem ly_113_8 {h : HP} (hL : Lay h) : hR h 113 8 = 119 := hL.2 (113, 8, 119) (List.mem_of_getElem? (i := 112) rfl)
theorem ly_113_9 {h : HP} (hL : Lay h) : hR h 113 9 = 120 := hL.2 (113, 9, 120) (List.mem_of_getElem? (i := 113) rfl)
theorem ly_113_20 {h : HP} (hL : Lay h) : hR h 113 20 = 121 := hL.2 (113, 20, 121) (List.mem_of_getElem? (i := 114) rfl)
theorem ly_113_23 {h : HP} (hL : Lay h) : hR h 113 23 = 122 := hL.2 (113, 23, 122) (List.mem_of_getElem? (i := 115) rfl)
theorem ly_113_24 {h : HP} (hL : Lay h) : hR h 113 24 = 123 := hL.2 (113, 24, 123) (List.mem_of_getElem? (i := 116) rfl)
theorem ly_113_27 {h : HP} (hL : Lay h) : hR h 113 27 = 124 := hL.2 (113, 27, 124) (List.mem_of_getElem? (i := 117) rfl)
theorem ly_113_28 {h : HP} (hL : Lay h) : hR h 113 28 = 125 := hL.2 (113, 28, 125) (List.mem_of_getElem? (i := 118) rfl)
theorem ly_113_29 {h : HP} (hL : Lay h) : hR h 113 29 = 126 := hL.2 (113, 29, 126) (List.mem_of_getElem? (i := 119) rfl)
theorem ly_113_34 {h : HP} (hL : Lay h) : hR h 113 34 = 127 := hL.2 (113, 34, 127) (List.mem_of_getElem? (i := 120) rfl)
theorem ly_113_35 {h : HP} (hL : Lay h) : hR h 113 35 = 128 := hL.2 (113, 35, 128) (List.mem_of_getElem? (i := 121) rfl)
theorem ly_113_36 {h : HP} (hL : Lay h) : hR h 113 36 = 129 := hL.2 (113, 36, 129) (List.mem_of_getElem? (i := 122) rfl)
theorem ly_13_0 {h : HP} (hL : Lay h) : hR h 13 0 = 14 := hL.2 (13, 0, 14) (List.mem_of_getElem? (i := 123) rfl)
theorem ly_13_1 {h : HP} (hL : Lay h) : hR h 13 1 = 31 := hL.2 (13, 1, 31) (List.mem_of_getElem? (i := 124) rfl)
theorem ly_13_2 {h : HP} (hL : Lay h) : hR h 13 2 = 48 := hL.2 (13, 2, 48) (List.mem_of_getElem? (i := 125) rfl)
def isT (t : Nat) : Prop := t = 14 ∨ t = 31 ∨ t = 48 ∨ t = 79 ∨ t = 96
def isH (t : Nat) : Prop := t = 15 ∨ t = 32 ∨ t = 49 ∨ t = 80 ∨ t = 97 ∨ t = 67
def isY (t : Nat) : Prop := t = 17 ∨ t = 34 ∨ t = 51 ∨ t = 82 ∨ t = 99
def isV (t : Nat) : Prop := t = 75 ∨ t = 77
theorem sT0 {t : Nat} (ht : isT t) : SHL[t]? = some (0, 5, 0) := by rcases ht with rfl | rfl | rfl | rfl | rfl <;> rfl
theorem sT1 {t : Nat} (ht : isT t) : SHL[t + 1]? = some (0, 1, 0) := by rcases ht with rfl | rfl | rfl | rfl | rfl <;> rfl
theorem sT2 {t : Nat} (ht : isT t) : SHL[t + 2]? = some (1, 0, 5) := by rcases ht with rfl | rfl | rfl | rfl | rfl <;> rfl
theorem sT3 {t : Nat} (ht : isT t) : SHL[t + 3]? = some (0, 8, 0) := by rcases ht with rfl | rfl | rfl | rfl | rfl <;> rfl
theorem sT4 {t : Nat} (ht : isT t) : SHL[t + 4]? = some (1, 0, 60) := by rcases ht with rfl | rfl | rfl | rfl | rfl <;> rfl
theorem sT5 {t : Nat} (ht : isT t) : SHL[t + 5]? = some (1, 0, 60) := by rcases ht with rfl | rfl | rfl | rfl | rfl <;> rfl
theorem sT6 {t : Nat} (ht : isT t) : SHL[t + 6]? = some (1, 0, 60) := by rcases ht with rfl | rfl | rfl | rfl | rfl <;> rfl
theorem sT7 {t : Nat} (ht : isT t) : SHL[t + 7]? = some (1, 0, 60) := by rcases ht with rfl | rfl | rfl | rfl | rfl <;> rfl
theorem sT8 {t : Nat} (ht : isT t) : SHL[t + 8]? = some (1, 0, 60) := by rcases ht with rfl | rfl | rfl | rfl | rfl <;> rfl
theorem sT9 {t : Nat} (ht : isT t) : SHL[t + 9]? = some (1, 1, 4) := by rcases ht with rfl | rfl | rfl | rfl | rfl <;> rfl
theorem sT10 {t : Nat} (ht : isT t) : SHL[t + 10]? = some (1, 0, 4) := by rcases ht with rfl | rfl | rfl | rfl | rfl <;> rfl
theorem sT11 {t : Nat} (ht : isT t) : SHL[t + 11]? = some (1, 0, 4) := by rcases ht with rfl | rfl | rfl | rfl | rfl <;> rfl
theorem sT12 {t : Nat} (ht : isT t) : SHL[t + 12]? = some (1, 1, 6) := by rcases ht with rfl | rfl | rfl | rfl | rfl <;> rfl
theorem sT13 {t : Nat} (ht : isT t) : SHL[t + 13]? = some (1, 0, 6) := by rcases ht with rfl | rfl | rfl | rfl | rfl <;> rfl
theorem sT14 {t : Nat} (ht : isT t) : SHL[t + 14]? = some (1, 0, 6) := by rcases ht with rfl | rfl | rfl | rfl | rfl <;> rfl
theorem sT15 {t : Nat} (ht : isT t) : SHL[t + 15]? = some (1, 0, 10) := by rcases ht with rfl | rfl | rfl | rfl | rfl <;> rfl
theorem sT16 {t : Nat} (ht : isT t) : SHL[t + 16]? = some (1, 0, 4) := by rcases ht with rfl | rfl | rfl | rfl | rfl <;> rfl
theorem sH0 {t : Nat} (ht : isH t) : SHL[t]? = some (0, 1, 0) := by rcases ht with rfl | rfl | rfl | rfl | rfl | rfl <;> rfl
theorem sH1 {t : Nat} (ht : isH t) : SHL[t + 1]? = some (1, 0, 5) := by rcases ht with rfl | rfl | rfl | rfl | rfl | rfl <;> rfl
theorem sY0 {t : Nat} (ht : isY t) : SHL[t]? = some (0, 8, 0) := by rcases ht with rfl | rfl | rfl | rfl | rfl <;> rfl
theorem sY1 {t : Nat} (ht : isY t) : SHL[t + 1]? = some (1, 0, 60) := by rcases ht with rfl | rfl | rfl | rfl | rfl <;> rfl
theorem sY2 {t : Nat} (ht : isY t) : SHL[t + 2]? = some (1, 0, 60) := by rcases ht with rfl | rfl | rfl | rfl | rfl <;> rfl
theorem sY3 {t : Nat} (ht : isY t) : SHL[t + 3]? = some (1, 0, 60) := by rcases ht with rfl | rfl | rfl | rfl | rfl <;> rfl
theorem sY4 {t : Nat} (ht : isY t) : SHL[t + 4]? = some (1, 0, 60) := by rcases ht with rfl | rfl | rfl | rfl | rfl <;> rfl
theorem sY5 {t : Nat} (ht : isY t) : SHL[t + 5]? = some (1, 0, 60) := by rcases ht with rfl | rfl | rfl | rfl | rfl <;> rfl
theorem sV0 {t : Nat} (ht : isV t) : SHL[t]? = some (0, 2, 0) := by rcases ht with rfl | rfl <;> rfl
theorem sV1 {t : Nat} (ht : isV t) : SHL[t + 1]? = some (1, 0, 60) := by rcases ht with rfl | rfl <;> rfl
theorem isT.H {t : Nat} (ht : isT t) : isH (t + 1) := by rcases ht with rfl | rfl | rfl | rfl | rfl <;> simp [isH]
theorem isT.Y {t : Nat} (ht : isT t) : isY (t + 3) := by rcases ht with rfl | rfl | rfl | rfl | rfl <;> simp [isY]
theorem rT_hill {h : HP} {t : Nat} (hL : Lay h) (ht : isT t) : hR h t 0 = t + 1 := by rcases ht with rfl | rfl | rfl | rfl | rfl <;> first | exact ly_14_0 hL | exact ly_31_0 hL | exact ly_48_0 hL | exact ly_79_0 hL | exact ly_96_0 hL
theorem rT_year {h : HP} {t : Nat} (hL : Lay h) (ht : isT t) : hR h t 1 = t + 3 := by rcases ht with rfl | rfl | rfl | rfl | rfl <;> first | exact ly_14_1 hL | exact ly_31_1 hL | exact ly_48_1 hL | exact ly_79_1 hL | exact ly_96_1 hL
theorem rT_ruleNames {h : HP} {t : Nat} (hL : Lay h) (ht : isT t) : hR h t 2 = t + 9 := by rcases ht with rfl | rfl | rfl | rfl | rfl <;> first | exact ly_14_2 hL | exact ly_31_2 hL | exact ly_48_2 hL | exact ly_79_2 hL | exact ly_96_2 hL
theorem rT_bornBy {h : HP} {t : Nat} (hL : Lay h) (ht : isT t) : hR h t 3 = t + 10 := by rcases ht with rfl | rfl | rfl | rfl | rfl <;> first | exact ly_14_3 hL | exact ly_31_3 hL | exact ly_48_3 hL | exact ly_79_3 hL | exact ly_96_3 hL
theorem rT_staysBy {h : HP} {t : Nat} (hL : Lay h) (ht : isT t) : hR h t 4 = t + 11 := by rcases ht with rfl | rfl | rfl | rfl | rfl <;> first | exact ly_14_4 hL | exact ly_31_4 hL | exact ly_48_4 hL | exact ly_79_4 hL | exact ly_96_4 hL
theorem rT_citizenNames {h : HP} {t : Nat} (hL : Lay h) (ht : isT t) : hR h t 5 = t + 12 := by rcases ht with rfl | rfl | rfl | rfl | rfl <;> first | exact ly_14_5 hL | exact ly_31_5 hL | exact ly_48_5 hL | exact ly_79_5 hL | exact ly_96_5 hL
theorem rT_least {h : HP} {t : Nat} (hL : Lay h) (ht : isT t) : hR h t 6 = t + 13 := by rcases ht with rfl | rfl | rfl | rfl | rfl <;> first | exact ly_14_6 hL | exact ly_31_6 hL | exact ly_48_6 hL | exact ly_79_6 hL | exact ly_96_6 hL
theorem rT_most {h : HP} {t : Nat} (hL : Lay h) (ht : isT t) : hR h t 7 = t + 14 := by rcases ht with rfl | rfl | rfl | rfl | rfl <;> first | exact ly_14_7 hL | exact ly_31_7 hL | exact ly_48_7 hL | exact ly_79_7 hL | exact ly_96_7 hL
theorem rT_seen {h : HP} {t : Nat} (hL : Lay h) (ht : isT t) : hR h t 8 = t + 15 := by rcases ht with rfl | rfl | rfl | rfl | rfl <;> first | exact ly_14_8 hL | exact ly_31_8 hL | exact ly_48_8 hL | exact ly_79_8 hL | exact ly_96_8 hL
theorem rT_litBy {h : HP} {t : Nat} (hL : Lay h) (ht : isT t) : hR h t 9 = t + 16 := by rcases ht with rfl | rfl | rfl | rfl | rfl <;> first | exact ly_14_9 hL | exact ly_31_9 hL | exact ly_48_9 hL | exact ly_79_9 hL | exact ly_96_9 hL
theorem rH_withLit {h : HP} {t : Nat} (hL : Lay h) (ht : isH t) : hR h t 9 = t + 1 := by rcases ht with rfl | rfl | rfl | rfl | rfl | rfl <;> first | exact ly_15_9 hL | exact ly_32_9 hL | exact ly_49_9 hL | exact ly_80_9 hL | exact ly_97_9 hL | exact ly_67_9 hL
theorem rY_words {h : HP} {t : Nat} (hL : Lay h) (ht : isY t) : hR h t 0 = t + 1 := by rcases ht with rfl | rfl | rfl | rfl | rfl <;> first | exact ly_17_0 hL | exact ly_34_0 hL | exact ly_51_0 hL | exact ly_82_0 hL | exact ly_99_0 hL
theorem rY_tests {h : HP} {t : Nat} (hL : Lay h) (ht : isY t) : hR h t 1 = t + 2 := by rcases ht with rfl | rfl | rfl | rfl | rfl <;> first | exact ly_17_1 hL | exact ly_34_1 hL | exact ly_51_1 hL | exact ly_82_1 hL | exact ly_99_1 hL
theorem rY_firsts {h : HP} {t : Nat} (hL : Lay h) (ht : isY t) : hR h t 2 = t + 3 := by rcases ht with rfl | rfl | rfl | rfl | rfl <;> first | exact ly_17_2 hL | exact ly_34_2 hL | exact ly_51_2 hL | exact ly_82_2 hL | exact ly_99_2 hL
theorem rY_seconds {h : HP} {t : Nat} (hL : Lay h) (ht : isY t) : hR h t 3 = t + 4 := by rcases ht with rfl | rfl | rfl | rfl | rfl <;> first | exact ly_17_3 hL | exact ly_34_3 hL | exact ly_51_3 hL | exact ly_82_3 hL | exact ly_99_3 hL
theorem rY_partners {h : HP} {t : Nat} (hL : Lay h) (ht : isY t) : hR h t 4 = t + 5 := by rcases ht with rfl | rfl | rfl | rfl | rfl <;> first | exact ly_17_4 hL | exact ly_34_4 hL | exact ly_51_4 hL | exact ly_82_4 hL | exact ly_99_4 hL
theorem rV_roundsLeft {h : HP} {t : Nat} (hL : Lay h) (ht : isV t) : hR h t 0 = t + 1 := by rcases ht with rfl | rfl <;> first | exact ly_75_0 hL | exact ly_77_0 hL
