/-! the pure part: the names of the pool's cells. 0 the ledger, 1 the reference, 2 the answer; 3-11 arrays of the reference; 12-21 parts of the ledger; 22 and 30 journals; 40, 80, 120, 160 businesses -/
def BB (b : Nat) : Prop := b = 40 ∨ b = 80 ∨ b = 120 ∨ b = 160
def JB (j : Nat) : Prop := j = 22 ∨ j = 30
def rtab : List (Nat × Nat × Nat) := [(1, 0, 3), (1, 1, 4), (1, 3, 5), (1, 4, 6), (1, 5, 7), (1, 6, 8), (1, 8, 9), (1, 17, 10), (1, 18, 11), (0, 0, 12), (0, 1, 14), (0, 2, 16), (0, 3, 20), (0, 4, 21), (12, 0, 13), (14, 0, 15), (16, 0, 17), (16, 1, 18), (16, 2, 19), (20, 0, 120), (20, 1, 160), (22, 0, 23), (22, 1, 24), (22, 2, 25), (22, 3, 26), (22, 4, 27), (22, 5, 28), (22, 6, 29), (30, 0, 31), (30, 1, 32), (30, 2, 33), (30, 3, 34), (30, 4, 35), (30, 5, 36), (30, 6, 37), (40, 0, 41), (40, 1, 42), (40, 2, 43), (40, 3, 44), (40, 4, 45), (40, 5, 46), (40, 6, 47), (41, 0, 48), (41, 1, 49), (41, 2, 50), (41, 3, 51), (42, 0, 52), (42, 1, 53), (42, 2, 54), (43, 0, 55), (43, 1, 56), (43, 2, 57), (43, 3, 58), (44, 0, 59), (44, 1, 60), (44, 2, 61), (44, 3, 62), (44, 4, 63), (44, 5, 64), (44, 6, 65), (44, 7, 66), (45, 0, 67), (45, 1, 68), (45, 2, 69), (45, 3, 70), (45, 4, 71), (45, 5, 72), (46, 0, 73), (46, 1, 74), (46, 2, 75), (46, 3, 76), (46, 4, 77), (46, 5, 78), (80, 0, 81), (80, 1, 82), (80, 2, 83), (80, 3, 84), (80, 4, 85), (80, 5, 86), (80, 6, 87), (81, 0, 88), (81, 1, 89), (81, 2, 90), (81, 3, 91), (82, 0, 92), (82, 1, 93), (82, 2, 94), (83, 0, 95), (83, 1, 96), (83, 2, 97), (83, 3, 98), (84, 0, 99), (84, 1, 100), (84, 2, 101), (84, 3, 102), (84, 4, 103), (84, 5, 104), (84, 6, 105), (84, 7, 106), (85, 0, 107), (85, 1, 108), (85, 2, 109), (85, 3, 110), (85, 4, 111), (85, 5, 112), (86, 0, 113), (86, 1, 114), (86, 2, 115), (86, 3, 116), (86, 4, 117), (86, 5, 118), (120, 0, 121), (120, 1, 122), (120, 2, 123), (120, 3, 124), (120, 4, 125), (120, 5, 126), (120, 6, 127), (121, 0, 128), (121, 1, 129), (121, 2, 130), (121, 3, 131), (122, 0, 132), (122, 1, 133), (122, 2, 134), (123, 0, 135), (123, 1, 136), (123, 2, 137), (123, 3, 138), (124, 0, 139), (124, 1, 140), (124, 2, 141), (124, 3, 142), (124, 4, 143), (124, 5, 144), (124, 6, 145), (124, 7, 146), (125, 0, 147), (125, 1, 148), (125, 2, 149), (125, 3, 150), (125, 4, 151), (125, 5, 152), (126, 0, 153), (126, 1, 154), (126, 2, 155), (126, 3, 156), (126, 4, 157), (126, 5, 158), (160, 0, 161), (160, 1, 162), (160, 2, 163), (160, 3, 164), (160, 4, 165), (160, 5, 166), (160, 6, 167), (161, 0, 168), (161, 1, 169), (161, 2, 170), (161, 3, 171), (162, 0, 172), (162, 1, 173), (162, 2, 174), (163, 0, 175), (163, 1, 176), (163, 2, 177), (163, 3, 178), (164, 0, 179), (164, 1, 180), (164, 2, 181), (164, 3, 182), (164, 4, 183), (164, 5, 184), (164, 6, 185), (164, 7, 186), (165, 0, 187), (165, 1, 188), (165, 2, 189), (165, 3, 190), (165, 4, 191), (165, 5, 192), (166, 0, 193), (166, 1, 194), (166, 2, 195), (166, 3, 196), (166, 4, 197), (166, 5, 198)]
def ntab : List (Nat × Nat) := [(3, 20216), (4, 2), (5, 900), (6, 900), (7, 7), (8, 300), (9, 1500), (10, 200), (11, 200), (13, 1500), (15, 256), (17, 900), (18, 900), (19, 900), (20, 2), (21, 2), (2, 1), (23, 40), (24, 40), (25, 40), (26, 40), (27, 40), (28, 40), (29, 40), (31, 40), (32, 40), (33, 40), (34, 40), (35, 40), (36, 40), (37, 40), (47, 7), (48, 4), (49, 4), (50, 20), (51, 20), (52, 900), (53, 900), (54, 900), (55, 16), (56, 16), (57, 16), (58, 16), (59, 80), (60, 8), (61, 8), (62, 8), (63, 8), (64, 8), (65, 8), (66, 8), (67, 8), (68, 8), (69, 8), (70, 8), (71, 8), (72, 8), (73, 480), (74, 3360), (75, 64), (76, 8), (77, 8), (78, 3), (87, 7), (88, 4), (89, 4), (90, 20), (91, 20), (92, 900), (93, 900), (94, 900), (95, 16), (96, 16), (97, 16), (98, 16), (99, 80), (100, 8), (101, 8), (102, 8), (103, 8), (104, 8), (105, 8), (106, 8), (107, 8), (108, 8), (109, 8), (110, 8), (111, 8), (112, 8), (113, 480), (114, 3360), (115, 64), (116, 8), (117, 8), (118, 3), (127, 7), (128, 4), (129, 4), (130, 20), (131, 20), (132, 900), (133, 900), (134, 900), (135, 16), (136, 16), (137, 16), (138, 16), (139, 80), (140, 8), (141, 8), (142, 8), (143, 8), (144, 8), (145, 8), (146, 8), (147, 8), (148, 8), (149, 8), (150, 8), (151, 8), (152, 8), (153, 480), (154, 3360), (155, 64), (156, 8), (157, 8), (158, 3), (167, 7), (168, 4), (169, 4), (170, 20), (171, 20), (172, 900), (173, 900), (174, 900), (175, 16), (176, 16), (177, 16), (178, 16), (179, 80), (180, 8), (181, 8), (182, 8), (183, 8), (184, 8), (185, 8), (186, 8), (187, 8), (188, 8), (189, 8), (190, 8), (191, 8), (192, 8), (193, 480), (194, 3360), (195, 64), (196, 8), (197, 8), (198, 3)]
def TR (S : St) (ad : Nat → Nat) : Prop := (∀ p q, ad p = ad q ↔ p = q) ∧ (∀ k p i c : Nat, rtab[k]? = some (p, i, c) → gR S (ad p) i = ad c) ∧ (∀ k p n : Nat, ntab[k]? = some (p, n) → gN S (ad p) = n)
theorem TR_SR0 {S S' : St} {ad : Nat → Nat} (h : SR0 S S') (t : TR S ad) : TR S' ad := ⟨t.1, fun k p i c e => (h.1 _ _).trans (t.2.1 k p i c e), fun k p n e => (h.2 _).trans (t.2.2 k p n e)⟩
theorem r_1_0 {S : St} {ad : Nat → Nat} (t : TR S ad) : gR S (ad 1) 0 = ad 3 := t.2.1 0 _ _ _ rfl
theorem r_1_1 {S : St} {ad : Nat → Nat} (t : TR S ad) : gR S (ad 1) 1 = ad 4 := t.2.1 1 _ _ _ rfl
theorem r_1_3 {S : St} {ad : Nat → Nat} (t : TR S ad) : gR S (ad 1) 3 = ad 5 := t.2.1 2 _ _ _ rfl
theorem r_1_4 {S : St} {ad : Nat → Nat} (t : TR S ad) : gR S (ad 1) 4 = ad 6 := t.2.1 3 _ _ _ rfl
theorem r_1_5 {S : St} {ad : Nat → Nat} (t : TR S ad) : gR S (ad 1) 5 = ad 7 := t.2.1 4 _ _ _ rfl
theorem r_1_6 {S : St} {ad : Nat → Nat} (t : TR S ad) : gR S (ad 1) 6 = ad 8 := t.2.1 5 _ _ _ rfl
theorem r_1_8 {S : St} {ad : Nat → Nat} (t : TR S ad) : gR S (ad 1) 8 = ad 9 := t.2.1 6 _ _ _ rfl
theorem r_1_17 {S : St} {ad : Nat → Nat} (t : TR S ad) : gR S (ad 1) 17 = ad 10 := t.2.1 7 _ _ _ rfl
theorem r_1_18 {S : St} {ad : Nat → Nat} (t : TR S ad) : gR S (ad 1) 18 = ad 11 := t.2.1 8 _ _ _ rfl
theorem r_0_0 {S : St} {ad : Nat → Nat} (t : TR S ad) : gR S (ad 0) 0 = ad 12 := t.2.1 9 _ _ _ rfl
theorem r_0_1 {S : St} {ad : Nat → Nat} (t : TR S ad) : gR S (ad 0) 1 = ad 14 := t.2.1 10 _ _ _ rfl
theorem r_0_2 {S : St} {ad : Nat → Nat} (t : TR S ad) : gR S (ad 0) 2 = ad 16 := t.2.1 11 _ _ _ rfl
theorem r_0_3 {S : St} {ad : Nat → Nat} (t : TR S ad) : gR S (ad 0) 3 = ad 20 := t.2.1 12 _ _ _ rfl
theorem r_0_4 {S : St} {ad : Nat → Nat} (t : TR S ad) : gR S (ad 0) 4 = ad 21 := t.2.1 13 _ _ _ rfl
theorem r_12_0 {S : St} {ad : Nat → Nat} (t : TR S ad) : gR S (ad 12) 0 = ad 13 := t.2.1 14 _ _ _ rfl
theorem r_14_0 {S : St} {ad : Nat → Nat} (t : TR S ad) : gR S (ad 14) 0 = ad 15 := t.2.1 15 _ _ _ rfl
theorem r_16_0 {S : St} {ad : Nat → Nat} (t : TR S ad) : gR S (ad 16) 0 = ad 17 := t.2.1 16 _ _ _ rfl
theorem r_16_1 {S : St} {ad : Nat → Nat} (t : TR S ad) : gR S (ad 16) 1 = ad 18 := t.2.1 17 _ _ _ rfl
theorem r_16_2 {S : St} {ad : Nat → Nat} (t : TR S ad) : gR S (ad 16) 2 = ad 19 := t.2.1 18 _ _ _ rfl
theorem r_20_0 {S : St} {ad : Nat → Nat} (t : TR S ad) : gR S (ad 20) 0 = ad 120 := t.2.1 19 _ _ _ rfl
theorem r_20_1 {S : St} {ad : Nat → Nat} (t : TR S ad) : gR S (ad 20) 1 = ad 160 := t.2.1 20 _ _ _ rfl
theorem n_3 {S : St} {ad : Nat → Nat} (t : TR S ad) : gN S (ad 3) = 20216 := t.2.2 0 _ _ rfl
theorem n_4 {S : St} {ad : Nat → Nat} (t : TR S ad) : gN S (ad 4) = 2 := t.2.2 1 _ _ rfl
theorem n_5 {S : St} {ad : Nat → Nat} (t : TR S ad) : gN S (ad 5) = 900 := t.2.2 2 _ _ rfl
theorem n_6 {S : St} {ad : Nat → Nat} (t : TR S ad) : gN S (ad 6) = 900 := t.2.2 3 _ _ rfl
theorem n_7 {S : St} {ad : Nat → Nat} (t : TR S ad) : gN S (ad 7) = 7 := t.2.2 4 _ _ rfl
theorem n_8 {S : St} {ad : Nat → Nat} (t : TR S ad) : gN S (ad 8) = 300 := t.2.2 5 _ _ rfl
theorem n_9 {S : St} {ad : Nat → Nat} (t : TR S ad) : gN S (ad 9) = 1500 := t.2.2 6 _ _ rfl
theorem n_10 {S : St} {ad : Nat → Nat} (t : TR S ad) : gN S (ad 10) = 200 := t.2.2 7 _ _ rfl
theorem n_11 {S : St} {ad : Nat → Nat} (t : TR S ad) : gN S (ad 11) = 200 := t.2.2 8 _ _ rfl
theorem n_13 {S : St} {ad : Nat → Nat} (t : TR S ad) : gN S (ad 13) = 1500 := t.2.2 9 _ _ rfl
theorem n_15 {S : St} {ad : Nat → Nat} (t : TR S ad) : gN S (ad 15) = 256 := t.2.2 10 _ _ rfl
theorem n_17 {S : St} {ad : Nat → Nat} (t : TR S ad) : gN S (ad 17) = 900 := t.2.2 11 _ _ rfl
theorem n_18 {S : St} {ad : Nat → Nat} (t : TR S ad) : gN S (ad 18) = 900 := t.2.2 12 _ _ rfl
theorem n_19 {S : St} {ad : Nat → Nat} (t : TR S ad) : gN S (ad 19) = 900 := t.2.2 13 _ _ rfl
theorem n_20 {S : St} {ad : Nat → Nat} (t : TR S ad) : gN S (ad 20) = 2 := t.2.2 14 _ _ rfl
theorem n_21 {S : St} {ad : Nat → Nat} (t : TR S ad) : gN S (ad 21) = 2 := t.2.2 15 _ _ rfl
theorem n_2 {S : St} {ad : Nat → Nat} (t : TR S ad) : gN S (ad 2) = 1 := t.2.2 16 _ _ rfl
theorem r_b0_0 {S : St} {ad : Nat → Nat} {b : Nat} (t : TR S ad) (hb : BB b) : gR S (ad b) 0 = ad (b + 1) := by
  rcases hb with rfl | rfl | rfl | rfl
  · exact t.2.1 35 _ _ _ rfl
  · exact t.2.1 73 _ _ _ rfl
  · exact t.2.1 111 _ _ _ rfl
  · exact t.2.1 149 _ _ _ rfl
theorem r_b0_1 {S : St} {ad : Nat → Nat} {b : Nat} (t : TR S ad) (hb : BB b) : gR S (ad b) 1 = ad (b + 2) := by
  rcases hb with rfl | rfl | rfl | rfl
  · exact t.2.1 36 _ _ _ rfl
  · exact t.2.1 74 _ _ _ rfl
  · exact t.2.1 112 _ _ _ rfl
  · exact t.2.1 150 _ _ _ rfl
theorem r_b0_2 {S : St} {ad : Nat → Nat} {b : Nat} (t : TR S ad) (hb : BB b) : gR S (ad b) 2 = ad (b + 3) := by
  rcases hb with rfl | rfl | rfl | rfl
  · exact t.2.1 37 _ _ _ rfl
  · exact t.2.1 75 _ _ _ rfl
  · exact t.2.1 113 _ _ _ rfl
  · exact t.2.1 151 _ _ _ rfl
theorem r_b0_3 {S : St} {ad : Nat → Nat} {b : Nat} (t : TR S ad) (hb : BB b) : gR S (ad b) 3 = ad (b + 4) := by
  rcases hb with rfl | rfl | rfl | rfl
  · exact t.2.1 38 _ _ _ rfl
  · exact t.2.1 76 _ _ _ rfl
  · exact t.2.1 114 _ _ _ rfl
  · exact t.2.1 152 _ _ _ rfl
theorem r_b0_4 {S : St} {ad : Nat → Nat} {b : Nat} (t : TR S ad) (hb : BB b) : gR S (ad b) 4 = ad (b + 5) := by
  rcases hb with rfl | rfl | rfl | rfl
  · exact t.2.1 39 _ _ _ rfl
  · exact t.2.1 77 _ _ _ rfl
  · exact t.2.1 115 _ _ _ rfl
  · exact t.2.1 153 _ _ _ rfl
theorem r_b0_5 {S : St} {ad : Nat → Nat} {b : Nat} (t : TR S ad) (hb : BB b) : gR S (ad b) 5 = ad (b + 6) := by
  rcases hb with rfl | rfl | rfl | rfl
  · exact t.2.1 40 _ _ _ rfl
  · exact t.2.1 78 _ _ _ rfl
  · exact t.2.1 116 _ _ _ rfl
  · exact t.2.1 154 _ _ _ rfl
theorem r_b0_6 {S : St} {ad : Nat → Nat} {b : Nat} (t : TR S ad) (hb : BB b) : gR S (ad b) 6 = ad (b + 7) := by
  rcases hb with rfl | rfl | rfl | rfl
  · exact t.2.1 41 _ _ _ rfl
  · exact t.2.1 79 _ _ _ rfl
  · exact t.2.1 117 _ _ _ rfl
  · exact t.2.1 155 _ _ _ rfl
theorem r_b1_0 {S : St} {ad : Nat → Nat} {b : Nat} (t : TR S ad) (hb : BB b) : gR S (ad (b + 1)) 0 = ad (b + 8) := by
  rcases hb with rfl | rfl | rfl | rfl
  · exact t.2.1 42 _ _ _ rfl
  · exact t.2.1 80 _ _ _ rfl
  · exact t.2.1 118 _ _ _ rfl
  · exact t.2.1 156 _ _ _ rfl
theorem r_b1_1 {S : St} {ad : Nat → Nat} {b : Nat} (t : TR S ad) (hb : BB b) : gR S (ad (b + 1)) 1 = ad (b + 9) := by
  rcases hb with rfl | rfl | rfl | rfl
  · exact t.2.1 43 _ _ _ rfl
  · exact t.2.1 81 _ _ _ rfl
  · exact t.2.1 119 _ _ _ rfl
  · exact t.2.1 157 _ _ _ rfl
theorem r_b1_2 {S : St} {ad : Nat → Nat} {b : Nat} (t : TR S ad) (hb : BB b) : gR S (ad (b + 1)) 2 = ad (b + 10) := by
  rcases hb with rfl | rfl | rfl | rfl
  · exact t.2.1 44 _ _ _ rfl
  · exact t.2.1 82 _ _ _ rfl
  · exact t.2.1 120 _ _ _ rfl
  · exact t.2.1 158 _ _ _ rfl
theorem r_b1_3 {S : St} {ad : Nat → Nat} {b : Nat} (t : TR S ad) (hb : BB b) : gR S (ad (b + 1)) 3 = ad (b + 11) := by
  rcases hb with rfl | rfl | rfl | rfl
  · exact t.2.1 45 _ _ _ rfl
  · exact t.2.1 83 _ _ _ rfl
  · exact t.2.1 121 _ _ _ rfl
  · exact t.2.1 159 _ _ _ rfl
theorem r_b2_0 {S : St} {ad : Nat → Nat} {b : Nat} (t : TR S ad) (hb : BB b) : gR S (ad (b + 2)) 0 = ad (b + 12) := by
  rcases hb with rfl | rfl | rfl | rfl
  · exact t.2.1 46 _ _ _ rfl
  · exact t.2.1 84 _ _ _ rfl
  · exact t.2.1 122 _ _ _ rfl
  · exact t.2.1 160 _ _ _ rfl
theorem r_b2_1 {S : St} {ad : Nat → Nat} {b : Nat} (t : TR S ad) (hb : BB b) : gR S (ad (b + 2)) 1 = ad (b + 13) := by
  rcases hb with rfl | rfl | rfl | rfl
  · exact t.2.1 47 _ _ _ rfl
  · exact t.2.1 85 _ _ _ rfl
  · exact t.2.1 123 _ _ _ rfl
  · exact t.2.1 161 _ _ _ rfl
theorem r_b2_2 {S : St} {ad : Nat → Nat} {b : Nat} (t : TR S ad) (hb : BB b) : gR S (ad (b + 2)) 2 = ad (b + 14) := by
  rcases hb with rfl | rfl | rfl | rfl
  · exact t.2.1 48 _ _ _ rfl
  · exact t.2.1 86 _ _ _ rfl
  · exact t.2.1 124 _ _ _ rfl
  · exact t.2.1 162 _ _ _ rfl
theorem r_b3_0 {S : St} {ad : Nat → Nat} {b : Nat} (t : TR S ad) (hb : BB b) : gR S (ad (b + 3)) 0 = ad (b + 15) := by
  rcases hb with rfl | rfl | rfl | rfl
  · exact t.2.1 49 _ _ _ rfl
  · exact t.2.1 87 _ _ _ rfl
  · exact t.2.1 125 _ _ _ rfl
  · exact t.2.1 163 _ _ _ rfl
theorem r_b3_1 {S : St} {ad : Nat → Nat} {b : Nat} (t : TR S ad) (hb : BB b) : gR S (ad (b + 3)) 1 = ad (b + 16) := by
  rcases hb with rfl | rfl | rfl | rfl
  · exact t.2.1 50 _ _ _ rfl
  · exact t.2.1 88 _ _ _ rfl
  · exact t.2.1 126 _ _ _ rfl
  · exact t.2.1 164 _ _ _ rfl
theorem r_b3_2 {S : St} {ad : Nat → Nat} {b : Nat} (t : TR S ad) (hb : BB b) : gR S (ad (b + 3)) 2 = ad (b + 17) := by
  rcases hb with rfl | rfl | rfl | rfl
  · exact t.2.1 51 _ _ _ rfl
  · exact t.2.1 89 _ _ _ rfl
  · exact t.2.1 127 _ _ _ rfl
  · exact t.2.1 165 _ _ _ rfl
theorem r_b3_3 {S : St} {ad : Nat → Nat} {b : Nat} (t : TR S ad) (hb : BB b) : gR S (ad (b + 3)) 3 = ad (b + 18) := by
  rcases hb with rfl | rfl | rfl | rfl
  · exact t.2.1 52 _ _ _ rfl
  · exact t.2.1 90 _ _ _ rfl
  · exact t.2.1 128 _ _ _ rfl
  · exact t.2.1 166 _ _ _ rfl
theorem r_b4_0 {S : St} {ad : Nat → Nat} {b : Nat} (t : TR S ad) (hb : BB b) : gR S (ad (b + 4)) 0 = ad (b + 19) := by
  rcases hb with rfl | rfl | rfl | rfl
  · exact t.2.1 53 _ _ _ rfl
  · exact t.2.1 91 _ _ _ rfl
  · exact t.2.1 129 _ _ _ rfl
  · exact t.2.1 167 _ _ _ rfl
theorem r_b4_1 {S : St} {ad : Nat → Nat} {b : Nat} (t : TR S ad) (hb : BB b) : gR S (ad (b + 4)) 1 = ad (b + 20) := by
  rcases hb with rfl | rfl | rfl | rfl
  · exact t.2.1 54 _ _ _ rfl
  · exact t.2.1 92 _ _ _ rfl
  · exact t.2.1 130 _ _ _ rfl
  · exact t.2.1 168 _ _ _ rfl
theorem r_b4_2 {S : St} {ad : Nat → Nat} {b : Nat} (t : TR S ad) (hb : BB b) : gR S (ad (b + 4)) 2 = ad (b + 21) := by
  rcases hb with rfl | rfl | rfl | rfl
  · exact t.2.1 55 _ _ _ rfl
  · exact t.2.1 93 _ _ _ rfl
  · exact t.2.1 131 _ _ _ rfl
  · exact t.2.1 169 _ _ _ rfl
theorem r_b4_3 {S : St} {ad : Nat → Nat} {b : Nat} (t : TR S ad) (hb : BB b) : gR S (ad (b + 4)) 3 = ad (b + 22) := by
  rcases hb with rfl | rfl | rfl | rfl
  · exact t.2.1 56 _ _ _ rfl
  · exact t.2.1 94 _ _ _ rfl
  · exact t.2.1 132 _ _ _ rfl
  · exact t.2.1 170 _ _ _ rfl
theorem r_b4_4 {S : St} {ad : Nat → Nat} {b : Nat} (t : TR S ad) (hb : BB b) : gR S (ad (b + 4)) 4 = ad (b + 23) := by
  rcases hb with rfl | rfl | rfl | rfl
  · exact t.2.1 57 _ _ _ rfl
  · exact t.2.1 95 _ _ _ rfl
  · exact t.2.1 133 _ _ _ rfl
  · exact t.2.1 171 _ _ _ rfl
theorem r_b4_5 {S : St} {ad : Nat → Nat} {b : Nat} (t : TR S ad) (hb : BB b) : gR S (ad (b + 4)) 5 = ad (b + 24) := by
  rcases hb with rfl | rfl | rfl | rfl
  · exact t.2.1 58 _ _ _ rfl
  · exact t.2.1 96 _ _ _ rfl
  · exact t.2.1 134 _ _ _ rfl
  · exact t.2.1 172 _ _ _ rfl
theorem r_b4_6 {S : St} {ad : Nat → Nat} {b : Nat} (t : TR S ad) (hb : BB b) : gR S (ad (b + 4)) 6 = ad (b + 25) := by
  rcases hb with rfl | rfl | rfl | rfl
  · exact t.2.1 59 _ _ _ rfl
  · exact t.2.1 97 _ _ _ rfl
  · exact t.2.1 135 _ _ _ rfl
  · exact t.2.1 173 _ _ _ rfl
theorem r_b4_7 {S : St} {ad : Nat → Nat} {b : Nat} (t : TR S ad) (hb : BB b) : gR S (ad (b + 4)) 7 = ad (b + 26) := by
  rcases hb with rfl | rfl | rfl | rfl
  · exact t.2.1 60 _ _ _ rfl
  · exact t.2.1 98 _ _ _ rfl
  · exact t.2.1 136 _ _ _ rfl
  · exact t.2.1 174 _ _ _ rfl
theorem r_b5_0 {S : St} {ad : Nat → Nat} {b : Nat} (t : TR S ad) (hb : BB b) : gR S (ad (b + 5)) 0 = ad (b + 27) := by
  rcases hb with rfl | rfl | rfl | rfl
  · exact t.2.1 61 _ _ _ rfl
  · exact t.2.1 99 _ _ _ rfl
  · exact t.2.1 137 _ _ _ rfl
  · exact t.2.1 175 _ _ _ rfl
theorem r_b5_1 {S : St} {ad : Nat → Nat} {b : Nat} (t : TR S ad) (hb : BB b) : gR S (ad (b + 5)) 1 = ad (b + 28) := by
  rcases hb with rfl | rfl | rfl | rfl
  · exact t.2.1 62 _ _ _ rfl
  · exact t.2.1 100 _ _ _ rfl
  · exact t.2.1 138 _ _ _ rfl
  · exact t.2.1 176 _ _ _ rfl
theorem r_b5_2 {S : St} {ad : Nat → Nat} {b : Nat} (t : TR S ad) (hb : BB b) : gR S (ad (b + 5)) 2 = ad (b + 29) := by
  rcases hb with rfl | rfl | rfl | rfl
  · exact t.2.1 63 _ _ _ rfl
  · exact t.2.1 101 _ _ _ rfl
  · exact t.2.1 139 _ _ _ rfl
  · exact t.2.1 177 _ _ _ rfl
theorem r_b5_3 {S : St} {ad : Nat → Nat} {b : Nat} (t : TR S ad) (hb : BB b) : gR S (ad (b + 5)) 3 = ad (b + 30) := by
  rcases hb with rfl | rfl | rfl | rfl
  · exact t.2.1 64 _ _ _ rfl
  · exact t.2.1 102 _ _ _ rfl
  · exact t.2.1 140 _ _ _ rfl
  · exact t.2.1 178 _ _ _ rfl
theorem r_b5_4 {S : St} {ad : Nat → Nat} {b : Nat} (t : TR S ad) (hb : BB b) : gR S (ad (b + 5)) 4 = ad (b + 31) := by
  rcases hb with rfl | rfl | rfl | rfl
  · exact t.2.1 65 _ _ _ rfl
  · exact t.2.1 103 _ _ _ rfl
  · exact t.2.1 141 _ _ _ rfl
  · exact t.2.1 179 _ _ _ rfl
theorem r_b5_5 {S : St} {ad : Nat → Nat} {b : Nat} (t : TR S ad) (hb : BB b) : gR S (ad (b + 5)) 5 = ad (b + 32) := by
  rcases hb with rfl | rfl | rfl | rfl
  · exact t.2.1 66 _ _ _ rfl
  · exact t.2.1 104 _ _ _ rfl
  · exact t.2.1 142 _ _ _ rfl
  · exact t.2.1 180 _ _ _ rfl
theorem r_b6_0 {S : St} {ad : Nat → Nat} {b : Nat} (t : TR S ad) (hb : BB b) : gR S (ad (b + 6)) 0 = ad (b + 33) := by
  rcases hb with rfl | rfl | rfl | rfl
  · exact t.2.1 67 _ _ _ rfl
  · exact t.2.1 105 _ _ _ rfl
  · exact t.2.1 143 _ _ _ rfl
  · exact t.2.1 181 _ _ _ rfl
theorem r_b6_1 {S : St} {ad : Nat → Nat} {b : Nat} (t : TR S ad) (hb : BB b) : gR S (ad (b + 6)) 1 = ad (b + 34) := by
  rcases hb with rfl | rfl | rfl | rfl
  · exact t.2.1 68 _ _ _ rfl
  · exact t.2.1 106 _ _ _ rfl
  · exact t.2.1 144 _ _ _ rfl
  · exact t.2.1 182 _ _ _ rfl
theorem r_b6_2 {S : St} {ad : Nat → Nat} {b : Nat} (t : TR S ad) (hb : BB b) : gR S (ad (b + 6)) 2 = ad (b + 35) := by
  rcases hb with rfl | rfl | rfl | rfl
  · exact t.2.1 69 _ _ _ rfl
  · exact t.2.1 107 _ _ _ rfl
  · exact t.2.1 145 _ _ _ rfl
  · exact t.2.1 183 _ _ _ rfl
theorem r_b6_3 {S : St} {ad : Nat → Nat} {b : Nat} (t : TR S ad) (hb : BB b) : gR S (ad (b + 6)) 3 = ad (b + 36) := by
  rcases hb with rfl | rfl | rfl | rfl
  · exact t.2.1 70 _ _ _ rfl
  · exact t.2.1 108 _ _ _ rfl
  · exact t.2.1 146 _ _ _ rfl
  · exact t.2.1 184 _ _ _ rfl
theorem r_b6_4 {S : St} {ad : Nat → Nat} {b : Nat} (t : TR S ad) (hb : BB b) : gR S (ad (b + 6)) 4 = ad (b + 37) := by
  rcases hb with rfl | rfl | rfl | rfl
  · exact t.2.1 71 _ _ _ rfl
  · exact t.2.1 109 _ _ _ rfl
  · exact t.2.1 147 _ _ _ rfl
  · exact t.2.1 185 _ _ _ rfl
theorem r_b6_5 {S : St} {ad : Nat → Nat} {b : Nat} (t : TR S ad) (hb : BB b) : gR S (ad (b + 6)) 5 = ad (b + 38) := by
  rcases hb with rfl | rfl | rfl | rfl
  · exact t.2.1 72 _ _ _ rfl
  · exact t.2.1 110 _ _ _ rfl
  · exact t.2.1 148 _ _ _ rfl
  · exact t.2.1 186 _ _ _ rfl
theorem n_b7 {S : St} {ad : Nat → Nat} {b : Nat} (t : TR S ad) (hb : BB b) : gN S (ad (b + 7)) = 7 := by
  rcases hb with rfl | rfl | rfl | rfl
  · exact t.2.2 31 _ _ rfl
  · exact t.2.2 63 _ _ rfl
  · exact t.2.2 95 _ _ rfl
  · exact t.2.2 127 _ _ rfl
theorem n_b8 {S : St} {ad : Nat → Nat} {b : Nat} (t : TR S ad) (hb : BB b) : gN S (ad (b + 8)) = 4 := by
  rcases hb with rfl | rfl | rfl | rfl
  · exact t.2.2 32 _ _ rfl
  · exact t.2.2 64 _ _ rfl
  · exact t.2.2 96 _ _ rfl
  · exact t.2.2 128 _ _ rfl
theorem n_b9 {S : St} {ad : Nat → Nat} {b : Nat} (t : TR S ad) (hb : BB b) : gN S (ad (b + 9)) = 4 := by
  rcases hb with rfl | rfl | rfl | rfl
  · exact t.2.2 33 _ _ rfl
  · exact t.2.2 65 _ _ rfl
  · exact t.2.2 97 _ _ rfl
  · exact t.2.2 129 _ _ rfl
theorem n_b10 {S : St} {ad : Nat → Nat} {b : Nat} (t : TR S ad) (hb : BB b) : gN S (ad (b + 10)) = 20 := by
  rcases hb with rfl | rfl | rfl | rfl
  · exact t.2.2 34 _ _ rfl
  · exact t.2.2 66 _ _ rfl
  · exact t.2.2 98 _ _ rfl
  · exact t.2.2 130 _ _ rfl
theorem n_b11 {S : St} {ad : Nat → Nat} {b : Nat} (t : TR S ad) (hb : BB b) : gN S (ad (b + 11)) = 20 := by
  rcases hb with rfl | rfl | rfl | rfl
  · exact t.2.2 35 _ _ rfl
  · exact t.2.2 67 _ _ rfl
  · exact t.2.2 99 _ _ rfl
  · exact t.2.2 131 _ _ rfl
theorem n_b12 {S : St} {ad : Nat → Nat} {b : Nat} (t : TR S ad) (hb : BB b) : gN S (ad (b + 12)) = 900 := by
  rcases hb with rfl | rfl | rfl | rfl
  · exact t.2.2 36 _ _ rfl
  · exact t.2.2 68 _ _ rfl
  · exact t.2.2 100 _ _ rfl
  · exact t.2.2 132 _ _ rfl
theorem n_b13 {S : St} {ad : Nat → Nat} {b : Nat} (t : TR S ad) (hb : BB b) : gN S (ad (b + 13)) = 900 := by
  rcases hb with rfl | rfl | rfl | rfl
  · exact t.2.2 37 _ _ rfl
  · exact t.2.2 69 _ _ rfl
  · exact t.2.2 101 _ _ rfl
  · exact t.2.2 133 _ _ rfl
theorem n_b14 {S : St} {ad : Nat → Nat} {b : Nat} (t : TR S ad) (hb : BB b) : gN S (ad (b + 14)) = 900 := by
  rcases hb with rfl | rfl | rfl | rfl
  · exact t.2.2 38 _ _ rfl
  · exact t.2.2 70 _ _ rfl
  · exact t.2.2 102 _ _ rfl
  · exact t.2.2 134 _ _ rfl
theorem n_b15 {S : St} {ad : Nat → Nat} {b : Nat} (t : TR S ad) (hb : BB b) : gN S (ad (b + 15)) = 16 := by
  rcases hb with rfl | rfl | rfl | rfl
  · exact t.2.2 39 _ _ rfl
  · exact t.2.2 71 _ _ rfl
  · exact t.2.2 103 _ _ rfl
  · exact t.2.2 135 _ _ rfl
theorem n_b16 {S : St} {ad : Nat → Nat} {b : Nat} (t : TR S ad) (hb : BB b) : gN S (ad (b + 16)) = 16 := by
  rcases hb with rfl | rfl | rfl | rfl
  · exact t.2.2 40 _ _ rfl
  · exact t.2.2 72 _ _ rfl
  · exact t.2.2 104 _ _ rfl
  · exact t.2.2 136 _ _ rfl
theorem n_b17 {S : St} {ad : Nat → Nat} {b : Nat} (t : TR S ad) (hb : BB b) : gN S (ad (b + 17)) = 16 := by
  rcases hb with rfl | rfl | rfl | rfl
  · exact t.2.2 41 _ _ rfl
  · exact t.2.2 73 _ _ rfl
  · exact t.2.2 105 _ _ rfl
  · exact t.2.2 137 _ _ rfl
theorem n_b18 {S : St} {ad : Nat → Nat} {b : Nat} (t : TR S ad) (hb : BB b) : gN S (ad (b + 18)) = 16 := by
  rcases hb with rfl | rfl | rfl | rfl
  · exact t.2.2 42 _ _ rfl
  · exact t.2.2 74 _ _ rfl
  · exact t.2.2 106 _ _ rfl
  · exact t.2.2 138 _ _ rfl
theorem n_b19 {S : St} {ad : Nat → Nat} {b : Nat} (t : TR S ad) (hb : BB b) : gN S (ad (b + 19)) = 80 := by
  rcases hb with rfl | rfl | rfl | rfl
  · exact t.2.2 43 _ _ rfl
  · exact t.2.2 75 _ _ rfl
  · exact t.2.2 107 _ _ rfl
  · exact t.2.2 139 _ _ rfl
theorem n_b20 {S : St} {ad : Nat → Nat} {b : Nat} (t : TR S ad) (hb : BB b) : gN S (ad (b + 20)) = 8 := by
  rcases hb with rfl | rfl | rfl | rfl
  · exact t.2.2 44 _ _ rfl
  · exact t.2.2 76 _ _ rfl
  · exact t.2.2 108 _ _ rfl
  · exact t.2.2 140 _ _ rfl
theorem n_b21 {S : St} {ad : Nat → Nat} {b : Nat} (t : TR S ad) (hb : BB b) : gN S (ad (b + 21)) = 8 := by
  rcases hb with rfl | rfl | rfl | rfl
  · exact t.2.2 45 _ _ rfl
  · exact t.2.2 77 _ _ rfl
  · exact t.2.2 109 _ _ rfl
  · exact t.2.2 141 _ _ rfl
theorem n_b22 {S : St} {ad : Nat → Nat} {b : Nat} (t : TR S ad) (hb : BB b) : gN S (ad (b + 22)) = 8 := by
  rcases hb with rfl | rfl | rfl | rfl
  · exact t.2.2 46 _ _ rfl
  · exact t.2.2 78 _ _ rfl
  · exact t.2.2 110 _ _ rfl
  · exact t.2.2 142 _ _ rfl
theorem n_b23 {S : St} {ad : Nat → Nat} {b : Nat} (t : TR S ad) (hb : BB b) : gN S (ad (b + 23)) = 8 := by
  rcases hb with rfl | rfl | rfl | rfl
  · exact t.2.2 47 _ _ rfl
  · exact t.2.2 79 _ _ rfl
  · exact t.2.2 111 _ _ rfl
  · exact t.2.2 143 _ _ rfl
theorem n_b24 {S : St} {ad : Nat → Nat} {b : Nat} (t : TR S ad) (hb : BB b) : gN S (ad (b + 24)) = 8 := by
  rcases hb with rfl | rfl | rfl | rfl
  · exact t.2.2 48 _ _ rfl
  · exact t.2.2 80 _ _ rfl
  · exact t.2.2 112 _ _ rfl
  · exact t.2.2 144 _ _ rfl
theorem n_b25 {S : St} {ad : Nat → Nat} {b : Nat} (t : TR S ad) (hb : BB b) : gN S (ad (b + 25)) = 8 := by
  rcases hb with rfl | rfl | rfl | rfl
  · exact t.2.2 49 _ _ rfl
  · exact t.2.2 81 _ _ rfl
  · exact t.2.2 113 _ _ rfl
  · exact t.2.2 145 _ _ rfl
theorem n_b26 {S : St} {ad : Nat → Nat} {b : Nat} (t : TR S ad) (hb : BB b) : gN S (ad (b + 26)) = 8 := by
  rcases hb with rfl | rfl | rfl | rfl
  · exact t.2.2 50 _ _ rfl
  · exact t.2.2 82 _ _ rfl
  · exact t.2.2 114 _ _ rfl
  · exact t.2.2 146 _ _ rfl
theorem n_b27 {S : St} {ad : Nat → Nat} {b : Nat} (t : TR S ad) (hb : BB b) : gN S (ad (b + 27)) = 8 := by
  rcases hb with rfl | rfl | rfl | rfl
  · exact t.2.2 51 _ _ rfl
  · exact t.2.2 83 _ _ rfl
  · exact t.2.2 115 _ _ rfl
  · exact t.2.2 147 _ _ rfl
theorem n_b28 {S : St} {ad : Nat → Nat} {b : Nat} (t : TR S ad) (hb : BB b) : gN S (ad (b + 28)) = 8 := by
  rcases hb with rfl | rfl | rfl | rfl
  · exact t.2.2 52 _ _ rfl
  · exact t.2.2 84 _ _ rfl
  · exact t.2.2 116 _ _ rfl
  · exact t.2.2 148 _ _ rfl
theorem n_b29 {S : St} {ad : Nat → Nat} {b : Nat} (t : TR S ad) (hb : BB b) : gN S (ad (b + 29)) = 8 := by
  rcases hb with rfl | rfl | rfl | rfl
  · exact t.2.2 53 _ _ rfl
  · exact t.2.2 85 _ _ rfl
  · exact t.2.2 117 _ _ rfl
  · exact t.2.2 149 _ _ rfl
theorem n_b30 {S : St} {ad : Nat → Nat} {b : Nat} (t : TR S ad) (hb : BB b) : gN S (ad (b + 30)) = 8 := by
  rcases hb with rfl | rfl | rfl | rfl
  · exact t.2.2 54 _ _ rfl
  · exact t.2.2 86 _ _ rfl
  · exact t.2.2 118 _ _ rfl
  · exact t.2.2 150 _ _ rfl
theorem n_b31 {S : St} {ad : Nat → Nat} {b : Nat} (t : TR S ad) (hb : BB b) : gN S (ad (b + 31)) = 8 := by
  rcases hb with rfl | rfl | rfl | rfl
  · exact t.2.2 55 _ _ rfl
  · exact t.2.2 87 _ _ rfl
  · exact t.2.2 119 _ _ rfl
  · exact t.2.2 151 _ _ rfl
theorem n_b32 {S : St} {ad : Nat → Nat} {b : Nat} (t : TR S ad) (hb : BB b) : gN S (ad (b + 32)) = 8 := by
  rcases hb with rfl | rfl | rfl | rfl
  · exact t.2.2 56 _ _ rfl
  · exact t.2.2 88 _ _ rfl
  · exact t.2.2 120 _ _ rfl
  · exact t.2.2 152 _ _ rfl
theorem n_b33 {S : St} {ad : Nat → Nat} {b : Nat} (t : TR S ad) (hb : BB b) : gN S (ad (b + 33)) = 480 := by
  rcases hb with rfl | rfl | rfl | rfl
  · exact t.2.2 57 _ _ rfl
  · exact t.2.2 89 _ _ rfl
  · exact t.2.2 121 _ _ rfl
  · exact t.2.2 153 _ _ rfl
theorem n_b34 {S : St} {ad : Nat → Nat} {b : Nat} (t : TR S ad) (hb : BB b) : gN S (ad (b + 34)) = 3360 := by
  rcases hb with rfl | rfl | rfl | rfl
  · exact t.2.2 58 _ _ rfl
  · exact t.2.2 90 _ _ rfl
  · exact t.2.2 122 _ _ rfl
  · exact t.2.2 154 _ _ rfl
theorem n_b35 {S : St} {ad : Nat → Nat} {b : Nat} (t : TR S ad) (hb : BB b) : gN S (ad (b + 35)) = 64 := by
  rcases hb with rfl | rfl | rfl | rfl
  · exact t.2.2 59 _ _ rfl
  · exact t.2.2 91 _ _ rfl
  · exact t.2.2 123 _ _ rfl
  · exact t.2.2 155 _ _ rfl
theorem n_b36 {S : St} {ad : Nat → Nat} {b : Nat} (t : TR S ad) (hb : BB b) : gN S (ad (b + 36)) = 8 := by
  rcases hb with rfl | rfl | rfl | rfl
  · exact t.2.2 60 _ _ rfl
  · exact t.2.2 92 _ _ rfl
  · exact t.2.2 124 _ _ rfl
  · exact t.2.2 156 _ _ rfl
theorem n_b37 {S : St} {ad : Nat → Nat} {b : Nat} (t : TR S ad) (hb : BB b) : gN S (ad (b + 37)) = 8 := by
  rcases hb with rfl | rfl | rfl | rfl
  · exact t.2.2 61 _ _ rfl
  · exact t.2.2 93 _ _ rfl
  · exact t.2.2 125 _ _ rfl
  · exact t.2.2 157 _ _ rfl
theorem n_b38 {S : St} {ad : Nat → Nat} {b : Nat} (t : TR S ad) (hb : BB b) : gN S (ad (b + 38)) = 3 := by
  rcases hb with rfl | rfl | rfl | rfl
  · exact t.2.2 62 _ _ rfl
  · exact t.2.2 94 _ _ rfl
  · exact t.2.2 126 _ _ rfl
  · exact t.2.2 158 _ _ rfl
theorem r_j_0 {S : St} {ad : Nat → Nat} {j : Nat} (t : TR S ad) (hj : JB j) : gR S (ad j) 0 = ad (j + 1) := by
  rcases hj with rfl | rfl
  · exact t.2.1 21 _ _ _ rfl
  · exact t.2.1 28 _ _ _ rfl
theorem n_j1 {S : St} {ad : Nat → Nat} {j : Nat} (t : TR S ad) (hj : JB j) : gN S (ad (j + 1)) = 40 := by
  rcases hj with rfl | rfl
  · exact t.2.2 17 _ _ rfl
  · exact t.2.2 24 _ _ rfl
theorem r_j_1 {S : St} {ad : Nat → Nat} {j : Nat} (t : TR S ad) (hj : JB j) : gR S (ad j) 1 = ad (j + 2) := by
  rcases hj with rfl | rfl
  · exact t.2.1 22 _ _ _ rfl
  · exact t.2.1 29 _ _ _ rfl
theorem n_j2 {S : St} {ad : Nat → Nat} {j : Nat} (t : TR S ad) (hj : JB j) : gN S (ad (j + 2)) = 40 := by
  rcases hj with rfl | rfl
  · exact t.2.2 18 _ _ rfl
  · exact t.2.2 25 _ _ rfl
theorem r_j_2 {S : St} {ad : Nat → Nat} {j : Nat} (t : TR S ad) (hj : JB j) : gR S (ad j) 2 = ad (j + 3) := by
  rcases hj with rfl | rfl
  · exact t.2.1 23 _ _ _ rfl
  · exact t.2.1 30 _ _ _ rfl
theorem n_j3 {S : St} {ad : Nat → Nat} {j : Nat} (t : TR S ad) (hj : JB j) : gN S (ad (j + 3)) = 40 := by
  rcases hj with rfl | rfl
  · exact t.2.2 19 _ _ rfl
  · exact t.2.2 26 _ _ rfl
theorem r_j_3 {S : St} {ad : Nat → Nat} {j : Nat} (t : TR S ad) (hj : JB j) : gR S (ad j) 3 = ad (j + 4) := by
  rcases hj with rfl | rfl
  · exact t.2.1 24 _ _ _ rfl
  · exact t.2.1 31 _ _ _ rfl
theorem n_j4 {S : St} {ad : Nat → Nat} {j : Nat} (t : TR S ad) (hj : JB j) : gN S (ad (j + 4)) = 40 := by
  rcases hj with rfl | rfl
  · exact t.2.2 20 _ _ rfl
  · exact t.2.2 27 _ _ rfl
theorem r_j_4 {S : St} {ad : Nat → Nat} {j : Nat} (t : TR S ad) (hj : JB j) : gR S (ad j) 4 = ad (j + 5) := by
  rcases hj with rfl | rfl
  · exact t.2.1 25 _ _ _ rfl
  · exact t.2.1 32 _ _ _ rfl
theorem n_j5 {S : St} {ad : Nat → Nat} {j : Nat} (t : TR S ad) (hj : JB j) : gN S (ad (j + 5)) = 40 := by
  rcases hj with rfl | rfl
  · exact t.2.2 21 _ _ rfl
  · exact t.2.2 28 _ _ rfl
theorem r_j_5 {S : St} {ad : Nat → Nat} {j : Nat} (t : TR S ad) (hj : JB j) : gR S (ad j) 5 = ad (j + 6) := by
  rcases hj with rfl | rfl
  · exact t.2.1 26 _ _ _ rfl
  · exact t.2.1 33 _ _ _ rfl
theorem n_j6 {S : St} {ad : Nat → Nat} {j : Nat} (t : TR S ad) (hj : JB j) : gN S (ad (j + 6)) = 40 := by
  rcases hj with rfl | rfl
  · exact t.2.2 22 _ _ rfl
  · exact t.2.2 29 _ _ rfl
theorem r_j_6 {S : St} {ad : Nat → Nat} {j : Nat} (t : TR S ad) (hj : JB j) : gR S (ad j) 6 = ad (j + 7) := by
  rcases hj with rfl | rfl
  · exact t.2.1 27 _ _ _ rfl
  · exact t.2.1 34 _ _ _ rfl
theorem n_j7 {S : St} {ad : Nat → Nat} {j : Nat} (t : TR S ad) (hj : JB j) : gN S (ad (j + 7)) = 40 := by
  rcases hj with rfl | rfl
  · exact t.2.2 23 _ _ rfl
  · exact t.2.2 30 _ _ rfl
theorem ad_ne {S : St} {ad : Nat → Nat} (t : TR S ad) {p q : Nat} (h : p ≠ q) : ad p ≠ ad q := fun e => h ((t.1 p q).mp e)
