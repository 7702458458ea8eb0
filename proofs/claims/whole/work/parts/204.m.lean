theorem cl_X12_264 : Cond.constantLong RX12 264 5 ∈ TT := TT_9 (i := 217) rfl rfl
theorem cl_X12_269 : Cond.constantLong RX12 269 31 ∈ TT := TT_10 (i := 20) rfl rfl
theorem cl_X12_274 : Cond.constantLong RX12 274 9 ∈ TT := TT_10 (i := 25) rfl rfl
theorem cl_X12_276 : Cond.constantLong RX12 276 10 ∈ TT := TT_10 (i := 26) rfl rfl
theorem cl_X12_282 : Cond.constantLong RX12 282 1024 ∈ TT := TT_10 (i := 14) rfl rfl
theorem cl_X12_284 : Cond.constantLong RX12 284 32768 ∈ TT := TT_10 (i := 15) rfl rfl
theorem cl_X12_305 : Cond.constantLong RX12 305 97 ∈ TT := TT_10 (i := 70) rfl rfl
theorem cl_X12_307 : Cond.constantLong RX12 307 122 ∈ TT := TT_10 (i := 71) rfl rfl
theorem cl_X12_309 : Cond.constantLong RX12 309 48 ∈ TT := TT_10 (i := 75) rfl rfl
theorem cl_X12_311 : Cond.constantLong RX12 311 57 ∈ TT := TT_10 (i := 76) rfl rfl
theorem cl_X12_335 : Cond.constantLong RX12 335 32 ∈ TT := TT_10 (i := 13) rfl rfl
theorem cl_X12_337 : Cond.constantLong RX12 337 96 ∈ TT := TT_10 (i := 12) rfl rfl
theorem cl_X12_351 : Cond.constantLong RX12 351 33554432 ∈ TT := TT_10 (i := 85) rfl rfl
theorem cl_X12_353 : Cond.constantLong RX12 353 116 ∈ TT := TT_10 (i := 86) rfl rfl
theorem cl_X12_359 : Cond.constantLong RX12 359 99999 ∈ TT := TT_10 (i := 103) rfl rfl
theorem cl_X12_364 : Cond.constantLong RX12 364 8 ∈ TT := TT_10 (i := 112) rfl rfl
theorem fl_X12_26 : FL RX12 26 11 6 2 := ⟨RX12, TX12, 22, rfl, by decide, uw_X12, TT_7 (i := 231) rfl rfl, rfl, rfl, by decide⟩
theorem fl_X12_30 : FL RX12 30 11 8 2 := ⟨RX12, TX12, 22, rfl, by decide, uw_X12, TT_7 (i := 233) rfl rfl, rfl, rfl, by decide⟩
theorem fl_X12_33 : FL RX12 33 11 12 0 := ⟨RX12, TX12, 22, rfl, by decide, uw_X12, TT_7 (i := 237) rfl rfl, rfl, rfl, by decide⟩
theorem fl_X12_41 : FL RX12 41 11 18 2 := ⟨RX12, TX12, 22, rfl, by decide, uw_X12, TT_8 (i := 3) rfl rfl, rfl, rfl, by decide⟩
theorem fl_X12_266 : FL RX12 266 11 7 0 := ⟨RX12, TX12, 22, rfl, by decide, uw_X12, TT_7 (i := 232) rfl rfl, rfl, rfl, by decide⟩
theorem fl_X12_296 : FL RX12 296 11 9 0 := ⟨RX12, TX12, 22, rfl, by decide, uw_X12, TT_7 (i := 234) rfl rfl, rfl, rfl, by decide⟩
theorem fl_X12_302 : FL RX12 302 11 11 0 := ⟨RX12, TX12, 22, rfl, by decide, uw_X12, TT_7 (i := 236) rfl rfl, rfl, rfl, by decide⟩
theorem fl_X12_313 : FL RX12 313 11 10 0 := ⟨RX12, TX12, 22, rfl, by decide, uw_X12, TT_7 (i := 235) rfl rfl, rfl, rfl, by decide⟩
theorem fl_X12_319 : FL RX12 319 11 14 0 := ⟨RX12, TX12, 22, rfl, by decide, uw_X12, TT_7 (i := 239) rfl rfl, rfl, rfl, by decide⟩
theorem fl_X12_322 : FL RX12 322 11 16 1 := ⟨RX12, TX12, 22, rfl, by decide, uw_X12, TT_8 (i := 1) rfl rfl, rfl, rfl, by decide⟩
theorem fl_X12_332 : FL RX12 332 11 13 0 := ⟨RX12, TX12, 22, rfl, by decide, uw_X12, TT_7 (i := 238) rfl rfl, rfl, rfl, by decide⟩
theorem fl_X12_342 : FL RX12 342 11 15 0 := ⟨RX12, TX12, 22, rfl, by decide, uw_X12, TT_8 (i := 0) rfl rfl, rfl, rfl, by decide⟩
theorem fp_X12_33 : FP RX12 33 11 12 0 := ⟨RX12, TX12, 22, tyX12, tyX12 12, rfl, by decide, uw_X12, TT_7 (i := 237) rfl rfl, rfl, rfl, by decide, tyX12_ok, nmX12, rfl, tyX12_ok 12 (by decide), fun h => rfl, fun h => absurd h (by decide), fun h => absurd h (by decide)⟩
theorem fp_X12_75 : FP RX12 75 11 19 0 := ⟨RX12, TX12, 22, tyX12, tyX12 19, rfl, by decide, uw_X12, TT_8 (i := 4) rfl rfl, rfl, rfl, by decide, tyX12_ok, nmX12, rfl, tyX12_ok 19 (by decide), fun h => rfl, fun h => absurd h (by decide), fun h => absurd h (by decide)⟩
theorem fp_X12_78 : FP RX12 78 11 20 0 := ⟨RX12, TX12, 22, tyX12, tyX12 20, rfl, by decide, uw_X12, TT_8 (i := 5) rfl rfl, rfl, rfl, by decide, tyX12_ok, nmX12, rfl, tyX12_ok 20 (by decide), fun h => rfl, fun h => absurd h (by decide), fun h => absurd h (by decide)⟩
theorem fp_X12_266 : FP RX12 266 11 7 0 := ⟨RX12, TX12, 22, tyX12, tyX12 7, rfl, by decide, uw_X12, TT_7 (i := 232) rfl rfl, rfl, rfl, by decide, tyX12_ok, nmX12, rfl, tyX12_ok 7 (by decide), fun h => rfl, fun h => absurd h (by decide), fun h => absurd h (by decide)⟩
theorem fp_X12_296 : FP RX12 296 11 9 0 := ⟨RX12, TX12, 22, tyX12, tyX12 9, rfl, by decide, uw_X12, TT_7 (i := 234) rfl rfl, rfl, rfl, by decide, tyX12_ok, nmX12, rfl, tyX12_ok 9 (by decide), fun h => rfl, fun h => absurd h (by decide), fun h => absurd h (by decide)⟩
theorem fp_X12_302 : FP RX12 302 11 11 0 := ⟨RX12, TX12, 22, tyX12, tyX12 11, rfl, by decide, uw_X12, TT_7 (i := 236) rfl rfl, rfl, rfl, by decide, tyX12_ok, nmX12, rfl, tyX12_ok 11 (by decide), fun h => rfl, fun h => absurd h (by decide), fun h => absurd h (by decide)⟩
theorem fp_X12_313 : FP RX12 313 11 10 0 := ⟨RX12, TX12, 22, tyX12, tyX12 10, rfl, by decide, uw_X12, TT_7 (i := 235) rfl rfl, rfl, rfl, by decide, tyX12_ok, nmX12, rfl, tyX12_ok 10 (by decide), fun h => rfl, fun h => absurd h (by decide), fun h => absurd h (by decide)⟩
theorem fp_X12_319 : FP RX12 319 11 14 0 := ⟨RX12, TX12, 22, tyX12, tyX12 14, rfl, by decide, uw_X12, TT_7 (i := 239) rfl rfl, rfl, rfl, by decide, tyX12_ok, nmX12, rfl, tyX12_ok 14 (by decide), fun h => rfl, fun h => absurd h (by decide), fun h => absurd h (by decide)⟩
theorem fp_X12_322 : FP RX12 322 11 16 1 := ⟨RX12, TX12, 22, tyX12, tyX12 16, rfl, by decide, uw_X12, TT_8 (i := 1) rfl rfl, rfl, rfl, by decide, tyX12_ok, nmX12, rfl, tyX12_ok 16 (by decide), fun h => absurd h (by decide), fun h => rfl, fun h => absurd h (by decide)⟩
theorem fp_X12_332 : FP RX12 332 11 13 0 := ⟨RX12, TX12, 22, tyX12, tyX12 13, rfl, by decide, uw_X12, TT_7 (i := 238) rfl rfl, rfl, rfl, by decide, tyX12_ok, nmX12, rfl, tyX12_ok 13 (by decide), fun h => rfl, fun h => absurd h (by decide), fun h => absurd h (by decide)⟩
theorem fp_X12_342 : FP RX12 342 11 15 0 := ⟨RX12, TX12, 22, tyX12, tyX12 15, rfl, by decide, uw_X12, TT_8 (i := 0) rfl rfl, rfl, rfl, by decide, tyX12_ok, nmX12, rfl, tyX12_ok 15 (by decide), fun h => rfl, fun h => absurd h (by decide), fun h => absurd h (by decide)⟩
theorem ms_X12_278 : MS RX12 278 yX12_pack cX12_pack 7 (some .long) 5 := ⟨TT_10 (i := 9) rfl rfl, TT_10 (i := 10) rfl rfl, TT_1 (i := 13) rfl rfl, TT_10 (i := 11) rfl rfl, ⟨by decide, by decide, by decide +kernel⟩⟩
theorem ms_X12_326 : MS RX12 326 yX12_isLetter cX12_isLetter 1 (some .boolean) 1 := ⟨TT_10 (i := 67) rfl rfl, TT_10 (i := 68) rfl rfl, TT_1 (i := 13) rfl rfl, TT_10 (i := 69) rfl rfl, ⟨by decide, by decide, by decide +kernel⟩⟩
theorem ms_X12_329 : MS RX12 329 yX12_isDigit cX12_isDigit 1 (some .boolean) 1 := ⟨TT_10 (i := 72) rfl rfl, TT_10 (i := 73) rfl rfl, TT_1 (i := 13) rfl rfl, TT_10 (i := 74) rfl rfl, ⟨by decide, by decide, by decide +kernel⟩⟩
theorem mv_X12_44 : MV RX12 44 yX12_clearBlock cX12_clearBlock 3 none 1 := ⟨TT_7 (i := 220) rfl rfl, TT_7 (i := 222) rfl rfl, TT_s (i := 30) (by decide +kernel) (by decide +kernel), TT_1 (i := 13) rfl rfl, TT_7 (i := 223) rfl rfl, ⟨by decide, by decide, by decide +kernel⟩⟩
theorem mv_X12_271 : MV RX12 271 yX12_append cX12_append 2 none 1 := ⟨TT_10 (i := 2) rfl rfl, TT_10 (i := 4) rfl rfl, TT_s (i := 73) (by decide +kernel) (by decide +kernel), TT_1 (i := 13) rfl rfl, TT_10 (i := 5) rfl rfl, ⟨by decide, by decide, by decide +kernel⟩⟩
theorem mv_X12_299 : MV RX12 299 yX12_appendBytes cX12_appendBytes 3 none 1 := ⟨TT_10 (i := 35) rfl rfl, TT_10 (i := 37) rfl rfl, TT_s (i := 76) (by decide +kernel) (by decide +kernel), TT_1 (i := 13) rfl rfl, TT_10 (i := 38) rfl rfl, ⟨by decide, by decide, by decide +kernel⟩⟩
theorem mv_X12_316 : MV RX12 316 yX12_byteAt cX12_byteAt 2 (some .int) 1 := ⟨TT_10 (i := 63) rfl rfl, TT_10 (i := 65) rfl rfl, TT_s (i := 79) (by decide +kernel) (by decide +kernel), TT_1 (i := 13) rfl rfl, TT_10 (i := 66) rfl rfl, ⟨by decide, by decide, by decide +kernel⟩⟩
theorem mv_X12_339 : MV RX12 339 yX12_fail cX12_fail 2 (some .boolean) 1 := ⟨TT_10 (i := 91) rfl rfl, TT_10 (i := 93) rfl rfl, TT_s (i := 83) (by decide +kernel) (by decide +kernel), TT_1 (i := 13) rfl rfl, TT_10 (i := 94) rfl rfl, ⟨by decide, by decide, by decide +kernel⟩⟩
theorem mv_X12_345 : MV RX12 345 yX12_advance cX12_advance 2 none 0 := ⟨TT_10 (i := 59) rfl rfl, TT_10 (i := 61) rfl rfl, TT_s (i := 78) (by decide +kernel) (by decide +kernel), TT_1 (i := 13) rfl rfl, TT_10 (i := 62) rfl rfl, ⟨by decide, by decide, by decide +kernel⟩⟩
theorem mv_X12_348 : MV RX12 348 yX12_readNumber cX12_readNumber 3 (some .boolean) 2 := ⟨TT_10 (i := 99) rfl rfl, TT_10 (i := 101) rfl rfl, TT_s (i := 85) (by decide +kernel) (by decide +kernel), TT_1 (i := 13) rfl rfl, TT_10 (i := 102) rfl rfl, ⟨by decide, by decide, by decide +kernel⟩⟩
theorem mv_X12_355 : MV RX12 355 yX12_readInto cX12_readInto 6 (some .boolean) 4 := ⟨TT_10 (i := 95) rfl rfl, TT_10 (i := 97) rfl rfl, TT_s (i := 84) (by decide +kernel) (by decide +kernel), TT_1 (i := 13) rfl rfl, TT_10 (i := 98) rfl rfl, ⟨by decide, by decide, by decide +kernel⟩⟩
theorem mv_X12_361 : MV RX12 361 yX12_readEnd cX12_readEnd 1 (some .boolean) 0 := ⟨TT_10 (i := 104) rfl rfl, TT_10 (i := 106) rfl rfl, TT_s (i := 86) (by decide +kernel) (by decide +kernel), TT_1 (i := 13) rfl rfl, TT_10 (i := 107) rfl rfl, ⟨by decide, by decide, by decide +kernel⟩⟩
theorem mv_X12_366 : MV RX12 366 yX12_statement cX12_statement 1 (some .int) 0 := ⟨TT_10 (i := 81) rfl rfl, TT_10 (i := 83) rfl rfl, TT_s (i := 81) (by decide +kernel) (by decide +kernel), TT_1 (i := 13) rfl rfl, TT_10 (i := 84) rfl rfl, ⟨by decide, by decide, by decide +kernel⟩⟩
theorem mv_X12_370 : MV RX12 370 yX12_named cX12_named 5 (some .int) 2 := ⟨TT_10 (i := 113) rfl rfl, TT_10 (i := 115) rfl rfl, TT_s (i := 88) (by decide +kernel) (by decide +kernel), TT_1 (i := 13) rfl rfl, TT_10 (i := 116) rfl rfl, ⟨by decide, by decide, by decide +kernel⟩⟩
theorem mv_X12_374 : MV RX12 374 yX12_readName cX12_readName 4 (some .int) 1 := ⟨TT_10 (i := 121) rfl rfl, TT_10 (i := 123) rfl rfl, TT_s (i := 90) (by decide +kernel) (by decide +kernel), TT_1 (i := 13) rfl rfl, TT_10 (i := 124) rfl rfl, ⟨by decide, by decide, by decide +kernel⟩⟩
theorem mv_X12_377 : MV RX12 377 yX12_hasOther cX12_hasOther 7 (some .boolean) 5 := ⟨TT_10 (i := 125) rfl rfl, TT_10 (i := 127) rfl rfl, TT_s (i := 91) (by decide +kernel) (by decide +kernel), TT_1 (i := 13) rfl rfl, TT_10 (i := 128) rfl rfl, ⟨by decide, by decide, by decide +kernel⟩⟩
theorem mv_X12_380 : MV RX12 380 yX12_hasOutletRead cX12_hasOutletRead 4 (some .boolean) 2 := ⟨TT_10 (i := 133) rfl rfl, TT_10 (i := 135) rfl rfl, TT_s (i := 93) (by decide +kernel) (by decide +kernel), TT_1 (i := 13) rfl rfl, TT_10 (i := 136) rfl rfl, ⟨by decide, by decide, by decide +kernel⟩⟩
theorem mv_X12_383 : MV RX12 383 yX12_readPlan cX12_readPlan 4 (some .boolean) 0 := ⟨TT_10 (i := 87) rfl rfl, TT_10 (i := 89) rfl rfl, TT_s (i := 82) (by decide +kernel) (by decide +kernel), TT_1 (i := 13) rfl rfl, TT_10 (i := 90) rfl rfl, ⟨by decide, by decide, by decide +kernel⟩⟩
theorem mv_X12_386 : MV RX12 386 yX12_readFranchisee cX12_readFranchisee 2 (some .boolean) 0 := ⟨TT_10 (i := 108) rfl rfl, TT_10 (i := 110) rfl rfl, TT_s (i := 87) (by decide +kernel) (by decide +kernel), TT_1 (i := 13) rfl rfl, TT_10 (i := 111) rfl rfl, ⟨by decide, by decide, by decide +kernel⟩⟩
theorem mv_X12_389 : MV RX12 389 yX12_readArea cX12_readArea 7 (some .boolean) 0 := ⟨TT_10 (i := 117) rfl rfl, TT_10 (i := 119) rfl rfl, TT_s (i := 89) (by decide +kernel) (by decide +kernel), TT_1 (i := 13) rfl rfl, TT_10 (i := 120) rfl rfl, ⟨by decide, by decide, by decide +kernel⟩⟩
theorem mv_X12_392 : MV RX12 392 yX12_readOutlet cX12_readOutlet 4 (some .boolean) 0 := ⟨TT_10 (i := 129) rfl rfl, TT_10 (i := 131) rfl rfl, TT_s (i := 92) (by decide +kernel) (by decide +kernel), TT_1 (i := 13) rfl rfl, TT_10 (i := 132) rfl rfl, ⟨by decide, by decide, by decide +kernel⟩⟩
theorem mv_X12_395 : MV RX12 395 yX12_readSetting cX12_readSetting 5 (some .boolean) 3 := ⟨TT_10 (i := 137) rfl rfl, TT_10 (i := 139) rfl rfl, TT_s (i := 94) (by decide +kernel) (by decide +kernel), TT_1 (i := 13) rfl rfl, TT_10 (i := 140) rfl rfl, ⟨by decide, by decide, by decide +kernel⟩⟩
theorem mv_X12_399 : MV RX12 399 yX12_beginText cX12_beginText 1 none 0 := ⟨TT_10 (i := 55) rfl rfl, TT_10 (i := 57) rfl rfl, TT_s (i := 77) (by decide +kernel) (by decide +kernel), TT_1 (i := 13) rfl rfl, TT_10 (i := 58) rfl rfl, ⟨by decide, by decide, by decide +kernel⟩⟩
theorem mv_X12_402 : MV RX12 402 yX12_readStatement cX12_readStatement 1 (some .boolean) 0 := ⟨TT_10 (i := 77) rfl rfl, TT_10 (i := 79) rfl rfl, TT_s (i := 80) (by decide +kernel) (by decide +kernel), TT_1 (i := 13) rfl rfl, TT_10 (i := 80) rfl rfl, ⟨by decide, by decide, by decide +kernel⟩⟩
def tab_X12_vote : List En := [(0, 8, 0, 0), (1, 0, 0, 0), (5, 8, 0, 0), (6, 8, 0, 0), (7, 4, 1, 0), (14, 0, 0, 1), (15, 41, 19, 0), (18, 0, 0, 0), (19, 0, 0, 1), (26, 8, 0, 0), (27, 4, 2, 0), (28, 31, 0, 0), (29, 3, 0, 0), (39, 0, 0, 1), (40, 41, 44, 0), (43, 0, 0, 0), (44, 0, 0, 2), (51, 0, 0, 0), (53, 8, 0, 0), (54, 4, 1, 0), (55, 1, 0, 9), (60, 3, 1, 0), (61, 40, 0, 0), (65, 8, 0, 0), (66, 4, 1, 0), (67, 1, 0, 13), (72, 4, 2, 0), (73, 35, 0, 0), (74, 3, 1, 0), (75, 26, 0, 0), (76, 3, 1, 0), (77, 40, 0, 0), (81, 0, 0, (-1)), (83, 8, 0, 0), (84, 4, 1, 0), (85, 1, 0, 13), (87, 3, 1, 0), (88, 4, 2, 0), (89, 34, 0, 0), (93, 8, 0, 0), (94, 4, 1, 0), (95, 4, 3, 0), (99, 1, 0, 14), (101, 41, 106, 0), (104, 1, 0, 15), (106, 3, 1, 0), (110, 8, 0, 0), (111, 4, 1, 0), (112, 1, 0, 14), (120, 40, 0, 0), (124, 8, 0, 0), (125, 4, 1, 0), (126, 1, 0, 9), (134, 8, 0, 0), (135, 4, 1, 0), (136, 1, 0, 15), (144, 40, 0, 0), (148, 8, 0, 0), (149, 4, 1, 0), (150, 1, 0, 9), (158, 8, 0, 0), (159, 4, 1, 0), (160, 1, 0, 9), (165, 32, 0, 0)]
theorem ok_X12_vote : tab_X12_vote.all (okE cX12_vote) = true := by decide +kernel
def ed_X12_vote : List (Nat × Instr × Nat) := [(2, .putfield 50, 3), (8, .invokevirtual 85, 3), (11, .ifCond .ne 7, 3), (20, .invokevirtual 81, 3), (23, .ifCond .ne 28, 3), (30, .ldc2_w 222, 3), (33, .invokestatic 53, 3), (36, .ifCond .ne 7, 3), (45, .invokevirtual 81, 3), (48, .ifCond .eq 5, 3), (52, .ireturn, 1), (57, .invokevirtual 63, 3), (62, .ifCond .ne 19, 3), (69, .invokevirtual 63, 3), (78, .ifCond .ne 5, 3), (82, .ireturn, 1), (90, .invokevirtual 224, 3), (96, .ifCond .eq 8, 3), (107, .invokevirtual 224, 3), (114, .invokevirtual 63, 3), (117, .ldc2_w 244, 3), (121, .ifCond .ne 13, 3), (128, .ldc2_w 220, 3), (131, .invokevirtual 183, 3), (138, .invokevirtual 63, 3), (141, .ldc2_w 244, 3), (145, .ifCond .ne 13, 3), (152, .ldc2_w 244, 3), (155, .invokevirtual 183, 3), (162, .invokevirtual 63, 3), (166, .ireturn, 1)]
theorem okd_X12_vote : ed_X12_vote.all (okD cX12_vote) = true := by decide +kernel
def f_X12_vote (S : St) (p0 : Nat) (p1 : Int32) (p2 : Int32) (p3 : Int32) : Option (Int32 × St) := lt (uI S p0 2 0) fun (S1 : St) => cl (f_X12_isFranchisee S1 p0 p1) fun (v2 : Int32) => jn (κ := Int32 → Option (Int32 × St)) (fun x3 => cl (f_X12_throwsIf S1 p0 x3 1) fun (o6 : Int32 × St) => if o6.1 = 0 then (cl (f_X12_inRange o6.2 (Int32.toInt64 p2) 0 4) fun (v7 : Int32) => jn (κ := Int32 → Option (Int32 × St)) (fun x8 => cl (f_X12_throwsIf o6.2 p0 x8 2) fun (o11 : Int32 × St) => if o11.1 = 0 then (cl (f_X12_of o11.2 p0 p1 9) fun (v12 : Int64) => if v12 = 1 then (cl (f_X12_of o11.2 p0 p1 13) fun (v13 : Int64) => if ((v13 >>> ((Int32.toInt64 p2) &&& 63)) &&& 1) = 1 then (some ((-1), o11.2)) else (cl (f_X12_add o11.2 p0 p1 13 (1 <<< ((Int32.toInt64 p2) &&& 63))) fun (S14 : St) => jn (κ := Int32 → Option (Int32 × St)) (fun x15 => cl (f_X12_add S14 p0 p1 x15 1) fun (S18 : St) => cl (f_X12_of S18 p0 p1 14) fun (v19 : Int64) => jn (κ := St → Option (Int32 × St)) (fun S20 => cl (f_X12_of S20 p0 p1 15) fun (v23 : Int64) => jn (κ := St → Option (Int32 × St)) (fun S24 => cl (f_X12_of S24 p0 p1 9) fun (v27 : Int64) => some ((Int64.toInt32 v27), S24)) fun k25 => if v23 = 3 then (cl (f_X12_set S20 p0 p1 9 3) fun (S28 : St) => k25 S28) else (k25 S20)) fun k21 => if v19 = 3 then (cl (f_X12_set S18 p0 p1 9 2) fun (S29 : St) => k21 S29) else (k21 S18)) fun k16 => if p3 = 0 then (k16 15) else (k16 14))) else (some ((-1), o11.2))) else (some (0, o11.2))) fun k9 => if v7 = 0 then (k9 1) else (k9 0)) else (some (0, o6.2))) fun k4 => if v2 = 0 then (k4 1) else (k4 0)
set_option maxHeartbeats 4000000 in
set_option maxRecDepth 100000 in
theorem c_X12_vote (S : St) (p0 : Nat) (p1 : Int32) (p2 : Int32) (p3 : Int32) : Ct yX12_vote cX12_vote 4 (some .int) 2 46 [.ref p0, .int p1, .int p2, .int p3] [(p0, 11)] S (f_X12_vote S p0 p1 p2 p3) oIS sS := by
  refine Ct_of RX12 rfl (by decide) (Nat.le_of_ble_eq_true rfl) 0 (vs := [some (.ref p0), some (.int p1), some (.int p2), some (.int p3)]) rfl (fun C X E hr ht => ?_)
  have t0_ : tT C p0 11 := ht (p0, 11) (by simp)
  unfold f_X12_vote
  refine s_run X ok_X12_vote 0 2 (pc' := 2) (vs' := [some (.ref p0), some (.int p1), some (.int p2), some (.int p3)]) (st' := [.int 0, .ref p0]) rfl ?_
  refine s_putI X fp_X12_50 t0_ (dk okd_X12_vote 0 rfl) (fun S1 => ?_)
  refine s_run X ok_X12_vote 2 3 (pc' := 8) (vs' := [some (.ref p0), some (.int p1), some (.int p2), some (.int p3)]) (st' := [.int p1, .ref p0, .ref p0]) rfl ?_
  refine s_callV (rest := [.ref p0]) X E mv_X12_85 (c_X12_isFranchisee S1 p0 p1) (ta1 t0_) rfl (by decide) t0_ rfl rfl (Nat.le_of_ble_eq_true rfl) (Nat.le_of_ble_eq_true rfl) (Nat.le_of_ble_eq_true rfl) (dk okd_X12_vote 1 rfl) (st' := fun v2 => [.int v2, .ref p0]) (fun _ => rfl) (fun v2 => ?_)
  refine s_jn (κ := Int32 → Option (Int32 × St)) (fun k4 => ∀ (x3 : Int32), Jd C 4 (QJ C oIS sS) S1 19 [some (.ref p0), some (.int p1), some (.int p2), some (.int p3)] [.int x3, .ref p0] (k4 x3)) (fun x3 => ?_) (fun k4 h5 => ?_)
  · refine s_run X ok_X12_vote 8 1 (pc' := 20) (vs' := [some (.ref p0), some (.int p1), some (.int p2), some (.int p3)]) (st' := [.int 1, .int x3, .ref p0]) rfl ?_
    refine s_callV (rest := []) X E mv_X12_81 (c_X12_throwsIf S1 p0 x3 1) (ta1 t0_) rfl (by decide) t0_ rfl rfl (Nat.le_of_ble_eq_true rfl) (Nat.le_of_ble_eq_true rfl) (Nat.le_of_ble_eq_true rfl) (dk okd_X12_vote 3 rfl) (st' := fun o6 => [.int o6.1]) (fun _ => rfl) (fun o6 => ?_)
    refine s_if_ne (tgt := 51) X (dk okd_X12_vote 4 rfl) (by decide) ?_ ?_
    · refine s_run X ok_X12_vote 17 1 (pc' := 52) (vs' := [some (.ref p0), some (.int p1), some (.int p2), some (.int p3)]) (st' := [.int 0]) rfl ?_
      exact s_iret X hr (dk okd_X12_vote 10 rfl) rfl rfl
    · refine s_run X ok_X12_vote 9 4 (pc' := 30) (vs' := [some (.ref p0), some (.int p1), some (.int p2), some (.int p3)]) (st' := [.long 0, .long (Int32.toInt64 p2), .ref p0]) rfl ?_
      refine s_ldc2 X cl_X12_222 (dk okd_X12_vote 5 rfl) ?_
      refine s_callS (rest := [.ref p0]) X E ms_X12_53 (c_X12_inRange o6.2 (Int32.toInt64 p2) 0 4) (ta0) rfl rfl (Nat.le_of_ble_eq_true rfl) (Nat.le_of_ble_eq_true rfl) (Nat.le_of_ble_eq_true rfl) (dk okd_X12_vote 6 rfl) (st' := fun v7 => [.int v7, .ref p0]) (fun _ => rfl) (fun v7 => ?_)
      refine s_jn (κ := Int32 → Option (Int32 × St)) (fun k9 => ∀ (x8 : Int32), Jd C 4 (QJ C oIS sS) o6.2 44 [some (.ref p0), some (.int p1), some (.int p2), some (.int p3)] [.int x8, .ref p0] (k9 x8)) (fun x8 => ?_) (fun k9 h10 => ?_)
      · refine s_run X ok_X12_vote 16 1 (pc' := 45) (vs' := [some (.ref p0), some (.int p1), some (.int p2), some (.int p3)]) (st' := [.int 2, .int x8, .ref p0]) rfl ?_
        refine s_callV (rest := []) X E mv_X12_81 (c_X12_throwsIf o6.2 p0 x8 2) (ta1 t0_) rfl (by decide) t0_ rfl rfl (Nat.le_of_ble_eq_true rfl) (Nat.le_of_ble_eq_true rfl) (Nat.le_of_ble_eq_true rfl) (dk okd_X12_vote 8 rfl) (st' := fun o11 => [.int o11.1]) (fun _ => rfl) (fun o11 => ?_)
        refine s_if_eq (tgt := 53) X (dk okd_X12_vote 9 rfl) (by decide) ?_ ?_
        · refine s_run X ok_X12_vote 18 3 (pc' := 57) (vs' := [some (.ref p0), some (.int p1), some (.int p2), some (.int p3)]) (st' := [.int 9, .int p1, .ref p0]) rfl ?_
          refine s_callV (rest := []) X E mv_X12_63 (c_X12_of o11.2 p0 p1 9) (ta1 t0_) rfl (by decide) t0_ rfl rfl (Nat.le_of_ble_eq_true rfl) (Nat.le_of_ble_eq_true rfl) (Nat.le_of_ble_eq_true rfl) (dk okd_X12_vote 11 rfl) (st' := fun v12 => [.long v12]) (fun _ => rfl) (fun v12 => ?_)
          refine s_run X ok_X12_vote 21 2 (pc' := 62) (vs' := [some (.ref p0), some (.int p1), some (.int p2), some (.int p3)]) (st' := [.int (lg_cmp v12 1)]) rfl ?_
          refine s_lif_ne (tgt := 81) X (dk okd_X12_vote 12 rfl) (by decide) ?_ ?_
          · refine s_run X ok_X12_vote 32 1 (pc' := 82) (vs' := [some (.ref p0), some (.int p1), some (.int p2), some (.int p3)]) (st' := [.int (-1)]) rfl ?_
            exact s_iret X hr (dk okd_X12_vote 15 rfl) rfl rfl
          · refine s_run X ok_X12_vote 23 3 (pc' := 69) (vs' := [some (.ref p0), some (.int p1), some (.int p2), some (.int p3)]) (st' := [.int 13, .int p1, .ref p0]) rfl ?_
            refine s_callV (rest := []) X E mv_X12_63 (c_X12_of o11.2 p0 p1 13) (ta1 t0_) rfl (by decide) t0_ rfl rfl (Nat.le_of_ble_eq_true rfl) (Nat.le_of_ble_eq_true rfl) (Nat.le_of_ble_eq_true rfl) (dk okd_X12_vote 13 rfl) (st' := fun v13 => [.long v13]) (fun _ => rfl) (fun v13 => ?_)
            refine s_run X ok_X12_vote 26 6 (pc' := 78) (vs' := [some (.ref p0), some (.int p1), some (.int p2), some (.int p3)]) (st' := [.int (lg_cmp ((v13 >>> ((Int32.toInt64 p2) &&& 63)) &&& 1) 1)]) rfl ?_
            refine s_lif_ne (tgt := 83) X (dk okd_X12_vote 14 rfl) (by decide) ?_ ?_
            · refine s_run X ok_X12_vote 33 6 (pc' := 90) (vs' := [some (.ref p0), some (.int p1), some (.int p2), some (.int p3)]) (st' := [.long (1 <<< ((Int32.toInt64 p2) &&& 63)), .int 13, .int p1, .ref p0]) rfl ?_
              refine s_callV (rest := []) X E mv_X12_224 (c_X12_add o11.2 p0 p1 13 (1 <<< ((Int32.toInt64 p2) &&& 63))) (ta1 t0_) rfl (by decide) t0_ rfl rfl (Nat.le_of_ble_eq_true rfl) (Nat.le_of_ble_eq_true rfl) (Nat.le_of_ble_eq_true rfl) (dk okd_X12_vote 16 rfl) (st' := fun S14 => []) (fun _ => rfl) (fun S14 => ?_)
              refine s_run X ok_X12_vote 39 3 (pc' := 96) (vs' := [some (.ref p0), some (.int p1), some (.int p2), some (.int p3)]) (st' := [.int p3, .int p1, .ref p0]) rfl ?_
              refine s_jn (κ := Int32 → Option (Int32 × St)) (fun k16 => ∀ (x15 : Int32), Jd C 4 (QJ C oIS sS) S14 106 [some (.ref p0), some (.int p1), none, none] [.int x15, .int p1, .ref p0] (k16 x15)) (fun x15 => ?_) (fun k16 h17 => ?_)
              · refine s_run X ok_X12_vote 45 1 (pc' := 107) (vs' := [some (.ref p0), some (.int p1), none, none]) (st' := [.long 1, .int x15, .int p1, .ref p0]) rfl ?_
                refine s_callV (rest := []) X E mv_X12_224 (c_X12_add S14 p0 p1 x15 1) (ta1 t0_) rfl (by decide) t0_ rfl rfl (Nat.le_of_ble_eq_true rfl) (Nat.le_of_ble_eq_true rfl) (Nat.le_of_ble_eq_true rfl) (dk okd_X12_vote 18 rfl) (st' := fun S18 => []) (fun _ => rfl) (fun S18 => ?_)
                refine s_run X ok_X12_vote 46 3 (pc' := 114) (vs' := [some (.ref p0), some (.int p1), none, none]) (st' := [.int 14, .int p1, .ref p0]) rfl ?_
                refine s_callV (rest := []) X E mv_X12_63 (c_X12_of S18 p0 p1 14) (ta1 t0_) rfl (by decide) t0_ rfl rfl (Nat.le_of_ble_eq_true rfl) (Nat.le_of_ble_eq_true rfl) (Nat.le_of_ble_eq_true rfl) (dk okd_X12_vote 19 rfl) (st' := fun v19 => [.long v19]) (fun _ => rfl) (fun v19 => ?_)
                refine s_ldc2 X cl_X12_244 (dk okd_X12_vote 20 rfl) ?_
                refine s_run X ok_X12_vote 49 1 (pc' := 121) (vs' := [some (.ref p0), some (.int p1), none, none]) (st' := [.int (lg_cmp v19 3)]) rfl ?_
                refine s_jn (κ := St → Option (Int32 × St)) (fun k21 => ∀ (S20 : St), Jd C 4 (QJ C oIS sS) S20 134 [some (.ref p0), some (.int p1), none, none] [] (k21 S20)) (fun S20 => ?_) (fun k21 h22 => ?_)
                · refine s_run X ok_X12_vote 53 3 (pc' := 138) (vs' := [some (.ref p0), some (.int p1), none, none]) (st' := [.int 15, .int p1, .ref p0]) rfl ?_
                  refine s_callV (rest := []) X E mv_X12_63 (c_X12_of S20 p0 p1 15) (ta1 t0_) rfl (by decide) t0_ rfl rfl (Nat.le_of_ble_eq_true rfl) (Nat.le_of_ble_eq_true rfl) (Nat.le_of_ble_eq_true rfl) (dk okd_X12_vote 24 rfl) (st' := fun v23 => [.long v23]) (fun _ => rfl) (fun v23 => ?_)
                  refine s_ldc2 X cl_X12_244 (dk okd_X12_vote 25 rfl) ?_
                  refine s_run X ok_X12_vote 56 1 (pc' := 145) (vs' := [some (.ref p0), some (.int p1), none, none]) (st' := [.int (lg_cmp v23 3)]) rfl ?_
                  refine s_jn (κ := St → Option (Int32 × St)) (fun k25 => ∀ (S24 : St), Jd C 4 (QJ C oIS sS) S24 158 [some (.ref p0), some (.int p1), none, none] [] (k25 S24)) (fun S24 => ?_) (fun k25 h26 => ?_)
                  · refine s_run X ok_X12_vote 60 3 (pc' := 162) (vs' := [some (.ref p0), some (.int p1), none, none]) (st' := [.int 9, .int p1, .ref p0]) rfl ?_
                    refine s_callV (rest := []) X E mv_X12_63 (c_X12_of S24 p0 p1 9) (ta1 t0_) rfl (by decide) t0_ rfl rfl (Nat.le_of_ble_eq_true rfl) (Nat.le_of_ble_eq_true rfl) (Nat.le_of_ble_eq_true rfl) (dk okd_X12_vote 29 rfl) (st' := fun v27 => [.long v27]) (fun _ => rfl) (fun v27 => ?_)
                    refine s_run X ok_X12_vote 63 1 (pc' := 166) (vs' := [some (.ref p0), some (.int p1), none, none]) (st' := [.int (Int64.toInt32 v27)]) rfl ?_
                    exact s_iret X hr (dk okd_X12_vote 30 rfl) rfl rfl
                  · refine s_lif_ne (tgt := 158) X (dk okd_X12_vote 26 rfl) (by decide) ?_ ?_
                    · exact h26 S20
                    · refine s_run X ok_X12_vote 57 3 (pc' := 152) (vs' := [some (.ref p0), some (.int p1), none, none]) (st' := [.int 9, .int p1, .ref p0]) rfl ?_
                      refine s_ldc2 X cl_X12_244 (dk okd_X12_vote 27 rfl) ?_
                      refine s_callV (rest := []) X E mv_X12_183 (c_X12_set S20 p0 p1 9 3) (ta1 t0_) rfl (by decide) t0_ rfl rfl (Nat.le_of_ble_eq_true rfl) (Nat.le_of_ble_eq_true rfl) (Nat.le_of_ble_eq_true rfl) (dk okd_X12_vote 28 rfl) (st' := fun S28 => []) (fun _ => rfl) (fun S28 => ?_)
                      exact h26 S28
                · refine s_lif_ne (tgt := 134) X (dk okd_X12_vote 21 rfl) (by decide) ?_ ?_
                  · exact h22 S18
                  · refine s_run X ok_X12_vote 50 3 (pc' := 128) (vs' := [some (.ref p0), some (.int p1), none, none]) (st' := [.int 9, .int p1, .ref p0]) rfl ?_
                    refine s_ldc2 X cl_X12_220 (dk okd_X12_vote 22 rfl) ?_
                    refine s_callV (rest := []) X E mv_X12_183 (c_X12_set S18 p0 p1 9 2) (ta1 t0_) rfl (by decide) t0_ rfl rfl (Nat.le_of_ble_eq_true rfl) (Nat.le_of_ble_eq_true rfl) (Nat.le_of_ble_eq_true rfl) (dk okd_X12_vote 23 rfl) (st' := fun S29 => []) (fun _ => rfl) (fun S29 => ?_)
                    exact h22 S29
              · refine s_if_eq (tgt := 104) X (dk okd_X12_vote 17 rfl) (by decide) ?_ ?_
                · refine s_run X ok_X12_vote 44 1 (pc' := 106) (vs' := [some (.ref p0), some (.int p1), some (.int p2), some (.int p3)]) (st' := [.int 15, .int p1, .ref p0]) rfl ?_
                  exact s_less [true, true, false, false] rfl (h17 15)
                · refine s_run X ok_X12_vote 42 2 (pc' := 106) (vs' := [some (.ref p0), some (.int p1), some (.int p2), some (.int p3)]) (st' := [.int 14, .int p1, .ref p0]) rfl ?_
                  exact s_less [true, true, false, false] rfl (h17 14)
            · refine s_run X ok_X12_vote 32 1 (pc' := 82) (vs' := [some (.ref p0), some (.int p1), some (.int p2), some (.int p3)]) (st' := [.int (-1)]) rfl ?_
              exact s_iret X hr (dk okd_X12_vote 15 rfl) rfl rfl
        · refine s_run X ok_X12_vote 17 1 (pc' := 52) (vs' := [some (.ref p0), some (.int p1), some (.int p2), some (.int p3)]) (st' := [.int 0]) rfl ?_
          exact s_iret X hr (dk okd_X12_vote 10 rfl) rfl rfl
      · refine s_if_ne (tgt := 43) X (dk okd_X12_vote 7 rfl) (by decide) ?_ ?_
        · refine s_run X ok_X12_vote 15 1 (pc' := 44) (vs' := [some (.ref p0), some (.int p1), some (.int p2), some (.int p3)]) (st' := [.int 0, .ref p0]) rfl ?_
          exact h10 0
        · refine s_run X ok_X12_vote 13 2 (pc' := 44) (vs' := [some (.ref p0), some (.int p1), some (.int p2), some (.int p3)]) (st' := [.int 1, .ref p0]) rfl ?_
          exact h10 1
  · refine s_if_ne (tgt := 18) X (dk okd_X12_vote 2 rfl) (by decide) ?_ ?_
    · refine s_run X ok_X12_vote 7 1 (pc' := 19) (vs' := [some (.ref p0), some (.int p1), some (.int p2), some (.int p3)]) (st' := [.int 0, .ref p0]) rfl ?_
      exact h5 0
    · refine s_run X ok_X12_vote 5 2 (pc' := 19) (vs' := [some (.ref p0), some (.int p1), some (.int p2), some (.int p3)]) (st' := [.int 1, .ref p0]) rfl ?_
      exact h5 1
def tab_X12_exercise : List En := [(0, 8, 0, 0), (1, 0, 0, 0), (5, 8, 0, 0), (6, 8, 0, 0), (7, 4, 1, 0), (14, 0, 0, 1), (15, 41, 19, 0), (18, 0, 0, 0), (19, 0, 0, 1), (26, 8, 0, 0), (27, 4, 1, 0), (34, 8, 0, 0), (35, 4, 1, 0), (42, 0, 0, 0), (44, 8, 0, 0), (45, 4, 1, 0), (46, 0, 0, 3), (53, 8, 0, 0), (54, 4, 1, 0), (55, 1, 0, 9), (63, 8, 0, 0), (64, 4, 1, 0), (65, 0, 0, 4), (66, 8, 0, 0), (67, 4, 1, 0), (68, 1, 0, 11), (73, 28, 0, 0), (77, 0, 0, 1)]
theorem ok_X12_exercise : tab_X12_exercise.all (okE cX12_exercise) = true := by decide +kernel
def ed_X12_exercise : List (Nat × Instr × Nat) := [(2, .putfield 50, 3), (8, .invokevirtual 85, 3), (11, .ifCond .ne 7, 3), (20, .invokevirtual 81, 3), (23, .ifCond .ne 19, 3), (28, .invokevirtual 246, 3), (31, .ifCond .eq 11, 3), (36, .invokevirtual 234, 3), (39, .ifCond .eq 5, 3), (43, .ireturn, 1), (47, .ldc2_w 220, 3), (50, .invokevirtual 183, 3), (57, .ldc2_w 264, 3), (60, .invokevirtual 183, 3), (70, .invokevirtual 63, 3), (74, .invokevirtual 224, 3), (78, .ireturn, 1)]
theorem okd_X12_exercise : ed_X12_exercise.all (okD cX12_exercise) = true := by decide +kernel
def f_X12_exercise (S : St) (p0 : Nat) (p1 : Int32) : Option (Int32 × St) := lt (uI S p0 2 0) fun (S1 : St) => cl (f_X12_isFranchisee S1 p0 p1) fun (v2 : Int32) => jn (κ := Int32 → Option (Int32 × St)) (fun x3 => cl (f_X12_throwsIf S1 p0 x3 1) fun (o6 : Int32 × St) => if o6.1 = 0 then (cl (f_X12_isOpenTransfer o6.2 p0 p1) fun (v7 : Int32) => if v7 = 0 then (some (0, o6.2)) else (cl (f_X12_isDelayOver o6.2 p0 p1) fun (v8 : Int32) => if v8 = 0 then (cl (f_X12_set o6.2 p0 p1 3 2) fun (S9 : St) => cl (f_X12_set S9 p0 p1 9 5) fun (S10 : St) => cl (f_X12_of S10 p0 p1 11) fun (v11 : Int64) => cl (f_X12_add S10 p0 p1 4 (-v11)) fun (S12 : St) => some (1, S12)) else (some (0, o6.2)))) else (some (0, o6.2))) fun k4 => if v2 = 0 then (k4 1) else (k4 0)
set_option maxHeartbeats 4000000 in
set_option maxRecDepth 100000 in
theorem c_X12_exercise (S : St) (p0 : Nat) (p1 : Int32) : Ct yX12_exercise cX12_exercise 2 (some .boolean) 2 46 [.ref p0, .int p1] [(p0, 11)] S (f_X12_exercise S p0 p1) oIS sS := by
  refine Ct_of RX12 rfl (by decide) (Nat.le_of_ble_eq_true rfl) 0 (vs := [some (.ref p0), some (.int p1)]) rfl (fun C X E hr ht => ?_)
  have t0_ : tT C p0 11 := ht (p0, 11) (by simp)
  unfold f_X12_exercise
  refine s_run X ok_X12_exercise 0 2 (pc' := 2) (vs' := [some (.ref p0), some (.int p1)]) (st' := [.int 0, .ref p0]) rfl ?_
  refine s_putI X fp_X12_50 t0_ (dk okd_X12_exercise 0 rfl) (fun S1 => ?_)
  refine s_run X ok_X12_exercise 2 3 (pc' := 8) (vs' := [some (.ref p0), some (.int p1)]) (st' := [.int p1, .ref p0, .ref p0]) rfl ?_
  refine s_callV (rest := [.ref p0]) X E mv_X12_85 (c_X12_isFranchisee S1 p0 p1) (ta1 t0_) rfl (by decide) t0_ rfl rfl (Nat.le_of_ble_eq_true rfl) (Nat.le_of_ble_eq_true rfl) (Nat.le_of_ble_eq_true rfl) (dk okd_X12_exercise 1 rfl) (st' := fun v2 => [.int v2, .ref p0]) (fun _ => rfl) (fun v2 => ?_)
  refine s_jn (κ := Int32 → Option (Int32 × St)) (fun k4 => ∀ (x3 : Int32), Jd C 2 (QJ C oIS sS) S1 19 [some (.ref p0), some (.int p1)] [.int x3, .ref p0] (k4 x3)) (fun x3 => ?_) (fun k4 h5 => ?_)
  · refine s_run X ok_X12_exercise 8 1 (pc' := 20) (vs' := [some (.ref p0), some (.int p1)]) (st' := [.int 1, .int x3, .ref p0]) rfl ?_
    refine s_callV (rest := []) X E mv_X12_81 (c_X12_throwsIf S1 p0 x3 1) (ta1 t0_) rfl (by decide) t0_ rfl rfl (Nat.le_of_ble_eq_true rfl) (Nat.le_of_ble_eq_true rfl) (Nat.le_of_ble_eq_true rfl) (dk okd_X12_exercise 3 rfl) (st' := fun o6 => [.int o6.1]) (fun _ => rfl) (fun o6 => ?_)
    refine s_if_ne (tgt := 42) X (dk okd_X12_exercise 4 rfl) (by decide) ?_ ?_
    · refine s_run X ok_X12_exercise 13 1 (pc' := 43) (vs' := [some (.ref p0), some (.int p1)]) (st' := [.int 0]) rfl ?_
      exact s_zret0 X hr (dk okd_X12_exercise 9 rfl) (by decide) rfl rfl
    · refine s_run X ok_X12_exercise 9 2 (pc' := 28) (vs' := [some (.ref p0), some (.int p1)]) (st' := [.int p1, .ref p0]) rfl ?_
      refine s_callV (rest := []) X E mv_X12_246 (c_X12_isOpenTransfer o6.2 p0 p1) (ta1 t0_) rfl (by decide) t0_ rfl rfl (Nat.le_of_ble_eq_true rfl) (Nat.le_of_ble_eq_true rfl) (Nat.le_of_ble_eq_true rfl) (dk okd_X12_exercise 5 rfl) (st' := fun v7 => [.int v7]) (fun _ => rfl) (fun v7 => ?_)
      refine s_if_eq (tgt := 42) X (dk okd_X12_exercise 6 rfl) (by decide) ?_ ?_
      · refine s_run X ok_X12_exercise 13 1 (pc' := 43) (vs' := [some (.ref p0), some (.int p1)]) (st' := [.int 0]) rfl ?_
        exact s_zret0 X hr (dk okd_X12_exercise 9 rfl) (by decide) rfl rfl
      · refine s_run X ok_X12_exercise 11 2 (pc' := 36) (vs' := [some (.ref p0), some (.int p1)]) (st' := [.int p1, .ref p0]) rfl ?_
        refine s_callV (rest := []) X E mv_X12_234 (c_X12_isDelayOver o6.2 p0 p1) (ta1 t0_) rfl (by decide) t0_ rfl rfl (Nat.le_of_ble_eq_true rfl) (Nat.le_of_ble_eq_true rfl) (Nat.le_of_ble_eq_true rfl) (dk okd_X12_exercise 7 rfl) (st' := fun v8 => [.int v8]) (fun _ => rfl) (fun v8 => ?_)
        refine s_if_eq (tgt := 44) X (dk okd_X12_exercise 8 rfl) (by decide) ?_ ?_
        · refine s_run X ok_X12_exercise 14 3 (pc' := 47) (vs' := [some (.ref p0), some (.int p1)]) (st' := [.int 3, .int p1, .ref p0]) rfl ?_
          refine s_ldc2 X cl_X12_220 (dk okd_X12_exercise 10 rfl) ?_
          refine s_callV (rest := []) X E mv_X12_183 (c_X12_set o6.2 p0 p1 3 2) (ta1 t0_) rfl (by decide) t0_ rfl rfl (Nat.le_of_ble_eq_true rfl) (Nat.le_of_ble_eq_true rfl) (Nat.le_of_ble_eq_true rfl) (dk okd_X12_exercise 11 rfl) (st' := fun S9 => []) (fun _ => rfl) (fun S9 => ?_)
          refine s_run X ok_X12_exercise 17 3 (pc' := 57) (vs' := [some (.ref p0), some (.int p1)]) (st' := [.int 9, .int p1, .ref p0]) rfl ?_
          refine s_ldc2 X cl_X12_264 (dk okd_X12_exercise 12 rfl) ?_
          refine s_callV (rest := []) X E mv_X12_183 (c_X12_set S9 p0 p1 9 5) (ta1 t0_) rfl (by decide) t0_ rfl rfl (Nat.le_of_ble_eq_true rfl) (Nat.le_of_ble_eq_true rfl) (Nat.le_of_ble_eq_true rfl) (dk okd_X12_exercise 13 rfl) (st' := fun S10 => []) (fun _ => rfl) (fun S10 => ?_)
          refine s_run X ok_X12_exercise 20 6 (pc' := 70) (vs' := [some (.ref p0), some (.int p1)]) (st' := [.int 11, .int p1, .ref p0, .int 4, .int p1, .ref p0]) rfl ?_
          refine s_callV (rest := [.int 4, .int p1, .ref p0]) X E mv_X12_63 (c_X12_of S10 p0 p1 11) (ta1 t0_) rfl (by decide) t0_ rfl rfl (Nat.le_of_ble_eq_true rfl) (Nat.le_of_ble_eq_true rfl) (Nat.le_of_ble_eq_true rfl) (dk okd_X12_exercise 14 rfl) (st' := fun v11 => [.long v11, .int 4, .int p1, .ref p0]) (fun _ => rfl) (fun v11 => ?_)
          refine s_run X ok_X12_exercise 26 1 (pc' := 74) (vs' := [some (.ref p0), some (.int p1)]) (st' := [.long (-v11), .int 4, .int p1, .ref p0]) rfl ?_
          refine s_callV (rest := []) X E mv_X12_224 (c_X12_add S10 p0 p1 4 (-v11)) (ta1 t0_) rfl (by decide) t0_ rfl rfl (Nat.le_of_ble_eq_true rfl) (Nat.le_of_ble_eq_true rfl) (Nat.le_of_ble_eq_true rfl) (dk okd_X12_exercise 15 rfl) (st' := fun S12 => []) (fun _ => rfl) (fun S12 => ?_)
          refine s_run X ok_X12_exercise 27 1 (pc' := 78) (vs' := [some (.ref p0), some (.int p1)]) (st' := [.int 1]) rfl ?_
          exact s_zret0 X hr (dk okd_X12_exercise 16 rfl) (by decide) rfl rfl
        · refine s_run X ok_X12_exercise 13 1 (pc' := 43) (vs' := [some (.ref p0), some (.int p1)]) (st' := [.int 0]) rfl ?_
          exact s_zret0 X hr (dk okd_X12_exercise 9 rfl) (by decide) rfl rfl
  · refine s_if_ne (tgt := 18) X (dk okd_X12_exercise 2 rfl) (by decide) ?_ ?_
    · refine s_run X ok_X12_exercise 7 1 (pc' := 19) (vs' := [some (.ref p0), some (.int p1)]) (st' := [.int 0, .ref p0]) rfl ?_
      exact h5 0
    · refine s_run X ok_X12_exercise 5 2 (pc' := 19) (vs' := [some (.ref p0), some (.int p1)]) (st' := [.int 1, .ref p0]) rfl ?_
      exact h5 1
def tab_X12_withdraw : List En := [(0, 8, 0, 0), (1, 0, 0, 0), (5, 8, 0, 0), (6, 8, 0, 0), (7, 4, 1, 0), (14, 0, 0, 1), (15, 41, 19, 0), (18, 0, 0, 0), (19, 0, 0, 1), (26, 8, 0, 0), (27, 4, 1, 0), (34, 0, 0, 0), (36, 8, 0, 0), (37, 4, 1, 0), (38, 1, 0, 9), (40, 3, 0, 0), (44, 0, 0, 1)]
theorem ok_X12_withdraw : tab_X12_withdraw.all (okE cX12_withdraw) = true := by decide +kernel
def ed_X12_withdraw : List (Nat × Instr × Nat) := [(2, .putfield 50, 3), (8, .invokevirtual 85, 3), (11, .ifCond .ne 7, 3), (20, .invokevirtual 81, 3), (23, .ifCond .ne 11, 3), (28, .invokevirtual 246, 3), (31, .ifCond .ne 5, 3), (35, .ireturn, 1), (41, .invokevirtual 183, 3), (45, .ireturn, 1)]
theorem okd_X12_withdraw : ed_X12_withdraw.all (okD cX12_withdraw) = true := by decide +kernel
def f_X12_withdraw (S : St) (p0 : Nat) (p1 : Int32) : Option (Int32 × St) := lt (uI S p0 2 0) fun (S1 : St) => cl (f_X12_isFranchisee S1 p0 p1) fun (v2 : Int32) => jn (κ := Int32 → Option (Int32 × St)) (fun x3 => cl (f_X12_throwsIf S1 p0 x3 1) fun (o6 : Int32 × St) => if o6.1 = 0 then (cl (f_X12_isOpenTransfer o6.2 p0 p1) fun (v7 : Int32) => if v7 = 0 then (some (0, o6.2)) else (cl (f_X12_set o6.2 p0 p1 9 0) fun (S8 : St) => some (1, S8))) else (some (0, o6.2))) fun k4 => if v2 = 0 then (k4 1) else (k4 0)
set_option maxHeartbeats 4000000 in
set_option maxRecDepth 100000 in
theorem c_X12_withdraw (S : St) (p0 : Nat) (p1 : Int32) : Ct yX12_withdraw cX12_withdraw 2 (some .boolean) 2 46 [.ref p0, .int p1] [(p0, 11)] S (f_X12_withdraw S p0 p1) oIS sS := by
  refine Ct_of RX12 rfl (by decide) (Nat.le_of_ble_eq_true rfl) 0 (vs := [some (.ref p0), some (.int p1)]) rfl (fun C X E hr ht => ?_)
  have t0_ : tT C p0 11 := ht (p0, 11) (by simp)
  unfold f_X12_withdraw
  refine s_run X ok_X12_withdraw 0 2 (pc' := 2) (vs' := [some (.ref p0), some (.int p1)]) (st' := [.int 0, .ref p0]) rfl ?_
  refine s_putI X fp_X12_50 t0_ (dk okd_X12_withdraw 0 rfl) (fun S1 => ?_)
  refine s_run X ok_X12_withdraw 2 3 (pc' := 8) (vs' := [some (.ref p0), some (.int p1)]) (st' := [.int p1, .ref p0, .ref p0]) rfl ?_
  refine s_callV (rest := [.ref p0]) X E mv_X12_85 (c_X12_isFranchisee S1 p0 p1) (ta1 t0_) rfl (by decide) t0_ rfl rfl (Nat.le_of_ble_eq_true rfl) (Nat.le_of_ble_eq_true rfl) (Nat.le_of_ble_eq_true rfl) (dk okd_X12_withdraw 1 rfl) (st' := fun v2 => [.int v2, .ref p0]) (fun _ => rfl) (fun v2 => ?_)
  refine s_jn (κ := Int32 → Option (Int32 × St)) (fun k4 => ∀ (x3 : Int32), Jd C 2 (QJ C oIS sS) S1 19 [some (.ref p0), some (.int p1)] [.int x3, .ref p0] (k4 x3)) (fun x3 => ?_) (fun k4 h5 => ?_)
  · refine s_run X ok_X12_withdraw 8 1 (pc' := 20) (vs' := [some (.ref p0), some (.int p1)]) (st' := [.int 1, .int x3, .ref p0]) rfl ?_
    refine s_callV (rest := []) X E mv_X12_81 (c_X12_throwsIf S1 p0 x3 1) (ta1 t0_) rfl (by decide) t0_ rfl rfl (Nat.le_of_ble_eq_true rfl) (Nat.le_of_ble_eq_true rfl) (Nat.le_of_ble_eq_true rfl) (dk okd_X12_withdraw 3 rfl) (st' := fun o6 => [.int o6.1]) (fun _ => rfl) (fun o6 => ?_)
    refine s_if_ne (tgt := 34) X (dk okd_X12_withdraw 4 rfl) (by decide) ?_ ?_
    · refine s_run X ok_X12_withdraw 11 1 (pc' := 35) (vs' := [some (.ref p0), some (.int p1)]) (st' := [.int 0]) rfl ?_
      exact s_zret0 X hr (dk okd_X12_withdraw 7 rfl) (by decide) rfl rfl
    · refine s_run X ok_X12_withdraw 9 2 (pc' := 28) (vs' := [some (.ref p0), some (.int p1)]) (st' := [.int p1, .ref p0]) rfl ?_
      refine s_callV (rest := []) X E mv_X12_246 (c_X12_isOpenTransfer o6.2 p0 p1) (ta1 t0_) rfl (by decide) t0_ rfl rfl (Nat.le_of_ble_eq_true rfl) (Nat.le_of_ble_eq_true rfl) (Nat.le_of_ble_eq_true rfl) (dk okd_X12_withdraw 5 rfl) (st' := fun v7 => [.int v7]) (fun _ => rfl) (fun v7 => ?_)
      refine s_if_ne (tgt := 36) X (dk okd_X12_withdraw 6 rfl) (by decide) ?_ ?_
      · refine s_run X ok_X12_withdraw 12 4 (pc' := 41) (vs' := [some (.ref p0), some (.int p1)]) (st' := [.long 0, .int 9, .int p1, .ref p0]) rfl ?_
        refine s_callV (rest := []) X E mv_X12_183 (c_X12_set o6.2 p0 p1 9 0) (ta1 t0_) rfl (by decide) t0_ rfl rfl (Nat.le_of_ble_eq_true rfl) (Nat.le_of_ble_eq_true rfl) (Nat.le_of_ble_eq_true rfl) (dk okd_X12_withdraw 8 rfl) (st' := fun S8 => []) (fun _ => rfl) (fun S8 => ?_)
        refine s_run X ok_X12_withdraw 16 1 (pc' := 45) (vs' := [some (.ref p0), some (.int p1)]) (st' := [.int 1]) rfl ?_
        exact s_zret0 X hr (dk okd_X12_withdraw 9 rfl) (by decide) rfl rfl
      · refine s_run X ok_X12_withdraw 11 1 (pc' := 35) (vs' := [some (.ref p0), some (.int p1)]) (st' := [.int 0]) rfl ?_
        exact s_zret0 X hr (dk okd_X12_withdraw 7 rfl) (by decide) rfl rfl
  · refine s_if_ne (tgt := 18) X (dk okd_X12_withdraw 2 rfl) (by decide) ?_ ?_
    · refine s_run X ok_X12_withdraw 7 1 (pc' := 19) (vs' := [some (.ref p0), some (.int p1)]) (st' := [.int 0, .ref p0]) rfl ?_
      exact h5 0
    · refine s_run X ok_X12_withdraw 5 2 (pc' := 19) (vs' := [some (.ref p0), some (.int p1)]) (st' := [.int 1, .ref p0]) rfl ?_
      exact h5 1
def tab_X12_transferState : List En := [(0, 8, 0, 0), (1, 0, 0, 0), (5, 8, 0, 0), (6, 8, 0, 0), (7, 4, 1, 0), (14, 0, 0, 1), (15, 41, 19, 0), (18, 0, 0, 0), (19, 0, 0, 1), (26, 0, 0, 0), (27, 41, 38, 0), (30, 8, 0, 0), (31, 4, 1, 0), (32, 1, 0, 9), (37, 32, 0, 0)]
theorem ok_X12_transferState : tab_X12_transferState.all (okE cX12_transferState) = true := by decide +kernel
def ed_X12_transferState : List (Nat × Instr × Nat) := [(2, .putfield 50, 3), (8, .invokevirtual 85, 3), (11, .ifCond .ne 7, 3), (20, .invokevirtual 81, 3), (23, .ifCond .eq 7, 3), (34, .invokevirtual 63, 3), (38, .ireturn, 1)]
theorem okd_X12_transferState : ed_X12_transferState.all (okD cX12_transferState) = true := by decide +kernel
def f_X12_transferState (S : St) (p0 : Nat) (p1 : Int32) : Option (Int32 × St) := lt (uI S p0 2 0) fun (S1 : St) => cl (f_X12_isFranchisee S1 p0 p1) fun (v2 : Int32) => jn (κ := Int32 → Option (Int32 × St)) (fun x3 => cl (f_X12_throwsIf S1 p0 x3 1) fun (o6 : Int32 × St) => if o6.1 = 0 then (cl (f_X12_of o6.2 p0 p1 9) fun (v7 : Int64) => some ((Int64.toInt32 v7), o6.2)) else (some (0, o6.2))) fun k4 => if v2 = 0 then (k4 1) else (k4 0)
set_option maxHeartbeats 4000000 in
set_option maxRecDepth 100000 in
theorem c_X12_transferState (S : St) (p0 : Nat) (p1 : Int32) : Ct yX12_transferState cX12_transferState 2 (some .int) 2 46 [.ref p0, .int p1] [(p0, 11)] S (f_X12_transferState S p0 p1) oIS sS := by
  refine Ct_of RX12 rfl (by decide) (Nat.le_of_ble_eq_true rfl) 0 (vs := [some (.ref p0), some (.int p1)]) rfl (fun C X E hr ht => ?_)
  have t0_ : tT C p0 11 := ht (p0, 11) (by simp)
  unfold f_X12_transferState
  refine s_run X ok_X12_transferState 0 2 (pc' := 2) (vs' := [some (.ref p0), some (.int p1)]) (st' := [.int 0, .ref p0]) rfl ?_
  refine s_putI X fp_X12_50 t0_ (dk okd_X12_transferState 0 rfl) (fun S1 => ?_)
  refine s_run X ok_X12_transferState 2 3 (pc' := 8) (vs' := [some (.ref p0), some (.int p1)]) (st' := [.int p1, .ref p0, .ref p0]) rfl ?_
  refine s_callV (rest := [.ref p0]) X E mv_X12_85 (c_X12_isFranchisee S1 p0 p1) (ta1 t0_) rfl (by decide) t0_ rfl rfl (Nat.le_of_ble_eq_true rfl) (Nat.le_of_ble_eq_true rfl) (Nat.le_of_ble_eq_true rfl) (dk okd_X12_transferState 1 rfl) (st' := fun v2 => [.int v2, .ref p0]) (fun _ => rfl) (fun v2 => ?_)
  refine s_jn (κ := Int32 → Option (Int32 × St)) (fun k4 => ∀ (x3 : Int32), Jd C 2 (QJ C oIS sS) S1 19 [some (.ref p0), some (.int p1)] [.int x3, .ref p0] (k4 x3)) (fun x3 => ?_) (fun k4 h5 => ?_)
  · refine s_run X ok_X12_transferState 8 1 (pc' := 20) (vs' := [some (.ref p0), some (.int p1)]) (st' := [.int 1, .int x3, .ref p0]) rfl ?_
    refine s_callV (rest := []) X E mv_X12_81 (c_X12_throwsIf S1 p0 x3 1) (ta1 t0_) rfl (by decide) t0_ rfl rfl (Nat.le_of_ble_eq_true rfl) (Nat.le_of_ble_eq_true rfl) (Nat.le_of_ble_eq_true rfl) (dk okd_X12_transferState 3 rfl) (st' := fun o6 => [.int o6.1]) (fun _ => rfl) (fun o6 => ?_)
    refine s_if_eq (tgt := 30) X (dk okd_X12_transferState 4 rfl) (by decide) ?_ ?_
    · refine s_run X ok_X12_transferState 11 3 (pc' := 34) (vs' := [some (.ref p0), some (.int p1)]) (st' := [.int 9, .int p1, .ref p0]) rfl ?_
      refine s_callV (rest := []) X E mv_X12_63 (c_X12_of o6.2 p0 p1 9) (ta1 t0_) rfl (by decide) t0_ rfl rfl (Nat.le_of_ble_eq_true rfl) (Nat.le_of_ble_eq_true rfl) (Nat.le_of_ble_eq_true rfl) (dk okd_X12_transferState 5 rfl) (st' := fun v7 => [.long v7]) (fun _ => rfl) (fun v7 => ?_)
      refine s_run X ok_X12_transferState 14 1 (pc' := 38) (vs' := [some (.ref p0), some (.int p1)]) (st' := [.int (Int64.toInt32 v7)]) rfl ?_
      exact s_iret X hr (dk okd_X12_transferState 6 rfl) rfl rfl
    · refine s_run X ok_X12_transferState 9 2 (pc' := 38) (vs' := [some (.ref p0), some (.int p1)]) (st' := [.int 0]) rfl ?_
      exact s_iret X hr (dk okd_X12_transferState 6 rfl) rfl rfl
  · refine s_if_ne (tgt := 18) X (dk okd_X12_transferState 2 rfl) (by decide) ?_ ?_
    · refine s_run X ok_X12_transferState 7 1 (pc' := 19) (vs' := [some (.ref p0), some (.int p1)]) (st' := [.int 0, .ref p0]) rfl ?_
      exact h5 0
    · refine s_run X ok_X12_transferState 5 2 (pc' := 19) (vs' := [some (.ref p0), some (.int p1)]) (st' := [.int 1, .ref p0]) rfl ?_
      exact h5 1
def tab_X12_transferWait : List En := [(0, 8, 0, 0), (1, 0, 0, 0), (5, 8, 0, 0), (6, 8, 0, 0), (7, 4, 1, 0), (14, 0, 0, 1), (15, 41, 19, 0), (18, 0, 0, 0), (19, 0, 0, 1), (26, 0, 0, 0), (28, 8, 0, 0), (29, 4, 1, 0), (36, 0, 0, (-1)), (38, 8, 0, 0), (39, 4, 1, 0), (46, 0, 0, 0), (47, 41, 73, 0), (50, 8, 0, 0), (54, 1, 0, 9), (57, 8, 0, 0), (61, 0, 0, 0), (63, 24, 0, 0), (64, 8, 0, 0), (65, 4, 1, 0), (66, 1, 0, 12), (71, 23, 0, 0), (72, 32, 0, 0)]
theorem ok_X12_transferWait : tab_X12_transferWait.all (okE cX12_transferWait) = true := by decide +kernel
def ed_X12_transferWait : List (Nat × Instr × Nat) := [(2, .putfield 50, 3), (8, .invokevirtual 85, 3), (11, .ifCond .ne 7, 3), (20, .invokevirtual 81, 3), (23, .ifCond .eq 5, 3), (27, .ireturn, 1), (30, .invokevirtual 246, 3), (33, .ifCond .ne 5, 3), (37, .ireturn, 1), (40, .invokevirtual 234, 3), (43, .ifCond .eq 7, 3), (51, .getfield 9, 3), (56, .laload, 1), (58, .getfield 9, 3), (62, .laload, 1), (68, .invokevirtual 63, 3), (73, .ireturn, 1)]
theorem okd_X12_transferWait : ed_X12_transferWait.all (okD cX12_transferWait) = true := by decide +kernel
def f_X12_transferWait (S : St) (p0 : Nat) (p1 : Int32) : Option (Int32 × St) := lt (uI S p0 2 0) fun (S1 : St) => cl (f_X12_isFranchisee S1 p0 p1) fun (v2 : Int32) => jn (κ := Int32 → Option (Int32 × St)) (fun x3 => cl (f_X12_throwsIf S1 p0 x3 1) fun (o6 : Int32 × St) => if o6.1 = 0 then (cl (f_X12_isOpenTransfer o6.2 p0 p1) fun (v7 : Int32) => if v7 = 0 then (some ((-1), o6.2)) else (cl (f_X12_isDelayOver o6.2 p0 p1) fun (v8 : Int32) => if v8 = 0 then (lt (gR o6.2 p0 0) fun (a9 : Nat) => ldJ o6.2 a9 9 fun (v11 : Int64) => lt (gR o6.2 p0 0) fun (a12 : Nat) => ldJ o6.2 a12 0 fun (v14 : Int64) => cl (f_X12_of o6.2 p0 p1 12) fun (v15 : Int64) => some ((Int64.toInt32 ((v11 - v14) + v15)), o6.2)) else (some (0, o6.2)))) else (some (0, o6.2))) fun k4 => if v2 = 0 then (k4 1) else (k4 0)
set_option maxHeartbeats 4000000 in
set_option maxRecDepth 100000 in
theorem c_X12_transferWait (S : St) (p0 : Nat) (p1 : Int32) : Ct yX12_transferWait cX12_transferWait 2 (some .int) 2 46 [.ref p0, .int p1] [(p0, 11)] S (f_X12_transferWait S p0 p1) oIS sS := by
  refine Ct_of RX12 rfl (by decide) (Nat.le_of_ble_eq_true rfl) 0 (vs := [some (.ref p0), some (.int p1)]) rfl (fun C X E hr ht => ?_)
  have t0_ : tT C p0 11 := ht (p0, 11) (by simp)
  unfold f_X12_transferWait
  refine s_run X ok_X12_transferWait 0 2 (pc' := 2) (vs' := [some (.ref p0), some (.int p1)]) (st' := [.int 0, .ref p0]) rfl ?_
  refine s_putI X fp_X12_50 t0_ (dk okd_X12_transferWait 0 rfl) (fun S1 => ?_)
  refine s_run X ok_X12_transferWait 2 3 (pc' := 8) (vs' := [some (.ref p0), some (.int p1)]) (st' := [.int p1, .ref p0, .ref p0]) rfl ?_
  refine s_callV (rest := [.ref p0]) X E mv_X12_85 (c_X12_isFranchisee S1 p0 p1) (ta1 t0_) rfl (by decide) t0_ rfl rfl (Nat.le_of_ble_eq_true rfl) (Nat.le_of_ble_eq_true rfl) (Nat.le_of_ble_eq_true rfl) (dk okd_X12_transferWait 1 rfl) (st' := fun v2 => [.int v2, .ref p0]) (fun _ => rfl) (fun v2 => ?_)
  refine s_jn (κ := Int32 → Option (Int32 × St)) (fun k4 => ∀ (x3 : Int32), Jd C 2 (QJ C oIS sS) S1 19 [some (.ref p0), some (.int p1)] [.int x3, .ref p0] (k4 x3)) (fun x3 => ?_) (fun k4 h5 => ?_)
  · refine s_run X ok_X12_transferWait 8 1 (pc' := 20) (vs' := [some (.ref p0), some (.int p1)]) (st' := [.int 1, .int x3, .ref p0]) rfl ?_
    refine s_callV (rest := []) X E mv_X12_81 (c_X12_throwsIf S1 p0 x3 1) (ta1 t0_) rfl (by decide) t0_ rfl rfl (Nat.le_of_ble_eq_true rfl) (Nat.le_of_ble_eq_true rfl) (Nat.le_of_ble_eq_true rfl) (dk okd_X12_transferWait 3 rfl) (st' := fun o6 => [.int o6.1]) (fun _ => rfl) (fun o6 => ?_)
    refine s_if_eq (tgt := 28) X (dk okd_X12_transferWait 4 rfl) (by decide) ?_ ?_
    · refine s_run X ok_X12_transferWait 10 2 (pc' := 30) (vs' := [some (.ref p0), some (.int p1)]) (st' := [.int p1, .ref p0]) rfl ?_
      refine s_callV (rest := []) X E mv_X12_246 (c_X12_isOpenTransfer o6.2 p0 p1) (ta1 t0_) rfl (by decide) t0_ rfl rfl (Nat.le_of_ble_eq_true rfl) (Nat.le_of_ble_eq_true rfl) (Nat.le_of_ble_eq_true rfl) (dk okd_X12_transferWait 6 rfl) (st' := fun v7 => [.int v7]) (fun _ => rfl) (fun v7 => ?_)
      refine s_if_ne (tgt := 38) X (dk okd_X12_transferWait 7 rfl) (by decide) ?_ ?_
      · refine s_run X ok_X12_transferWait 13 2 (pc' := 40) (vs' := [some (.ref p0), some (.int p1)]) (st' := [.int p1, .ref p0]) rfl ?_
        refine s_callV (rest := []) X E mv_X12_234 (c_X12_isDelayOver o6.2 p0 p1) (ta1 t0_) rfl (by decide) t0_ rfl rfl (Nat.le_of_ble_eq_true rfl) (Nat.le_of_ble_eq_true rfl) (Nat.le_of_ble_eq_true rfl) (dk okd_X12_transferWait 9 rfl) (st' := fun v8 => [.int v8]) (fun _ => rfl) (fun v8 => ?_)
        refine s_if_eq (tgt := 50) X (dk okd_X12_transferWait 10 rfl) (by decide) ?_ ?_
        · refine s_run X ok_X12_transferWait 17 1 (pc' := 51) (vs' := [some (.ref p0), some (.int p1)]) (st' := [.ref p0]) rfl ?_
          refine s_getR X fl_X12_9 t0_ (dk okd_X12_transferWait 11 rfl) (fun a9 (t10 : tT C a9 14) => ?_)
          refine s_run X ok_X12_transferWait 18 1 (pc' := 56) (vs' := [some (.ref p0), some (.int p1)]) (st' := [.int 9, .ref a9]) rfl ?_
          refine s_lald X t10 (dk okd_X12_transferWait 12 rfl) (fun v11 => ?_)
          refine s_run X ok_X12_transferWait 19 1 (pc' := 58) (vs' := [some (.ref p0), some (.int p1)]) (st' := [.ref p0, .long v11]) rfl ?_
          refine s_getR X fl_X12_9 t0_ (dk okd_X12_transferWait 13 rfl) (fun a12 (t13 : tT C a12 14) => ?_)
          refine s_run X ok_X12_transferWait 20 1 (pc' := 62) (vs' := [some (.ref p0), some (.int p1)]) (st' := [.int 0, .ref a12, .long v11]) rfl ?_
          refine s_lald X t13 (dk okd_X12_transferWait 14 rfl) (fun v14 => ?_)
          refine s_run X ok_X12_transferWait 21 4 (pc' := 68) (vs' := [some (.ref p0), some (.int p1)]) (st' := [.int 12, .int p1, .ref p0, .long (v11 - v14)]) rfl ?_
          refine s_callV (rest := [.long (v11 - v14)]) X E mv_X12_63 (c_X12_of o6.2 p0 p1 12) (ta1 t0_) rfl (by decide) t0_ rfl rfl (Nat.le_of_ble_eq_true rfl) (Nat.le_of_ble_eq_true rfl) (Nat.le_of_ble_eq_true rfl) (dk okd_X12_transferWait 15 rfl) (st' := fun v15 => [.long v15, .long (v11 - v14)]) (fun _ => rfl) (fun v15 => ?_)
          refine s_run X ok_X12_transferWait 25 2 (pc' := 73) (vs' := [some (.ref p0), some (.int p1)]) (st' := [.int (Int64.toInt32 ((v11 - v14) + v15))]) rfl ?_
          exact s_iret X hr (dk okd_X12_transferWait 16 rfl) rfl rfl
        · refine s_run X ok_X12_transferWait 15 2 (pc' := 73) (vs' := [some (.ref p0), some (.int p1)]) (st' := [.int 0]) rfl ?_
          exact s_iret X hr (dk okd_X12_transferWait 16 rfl) rfl rfl
      · refine s_run X ok_X12_transferWait 12 1 (pc' := 37) (vs' := [some (.ref p0), some (.int p1)]) (st' := [.int (-1)]) rfl ?_
        exact s_iret X hr (dk okd_X12_transferWait 8 rfl) rfl rfl
    · refine s_run X ok_X12_transferWait 9 1 (pc' := 27) (vs' := [some (.ref p0), some (.int p1)]) (st' := [.int 0]) rfl ?_
      exact s_iret X hr (dk okd_X12_transferWait 5 rfl) rfl rfl
  · refine s_if_ne (tgt := 18) X (dk okd_X12_transferWait 2 rfl) (by decide) ?_ ?_
    · refine s_run X ok_X12_transferWait 7 1 (pc' := 19) (vs' := [some (.ref p0), some (.int p1)]) (st' := [.int 0, .ref p0]) rfl ?_
      exact h5 0
    · refine s_run X ok_X12_transferWait 5 2 (pc' := 19) (vs' := [some (.ref p0), some (.int p1)]) (st' := [.int 1, .ref p0]) rfl ?_
      exact h5 1
def tab_X12_generation : List En := [(0, 8, 0, 0), (1, 0, 0, 0), (5, 8, 0, 0), (6, 8, 0, 0), (7, 4, 1, 0), (14, 0, 0, 1), (15, 41, 19, 0), (18, 0, 0, 0), (19, 0, 0, 1), (26, 0, 0, 0), (27, 41, 37, 0), (30, 8, 0, 0), (31, 4, 1, 0), (32, 0, 0, 5), (36, 32, 0, 0)]
theorem ok_X12_generation : tab_X12_generation.all (okE cX12_generation) = true := by decide +kernel
def ed_X12_generation : List (Nat × Instr × Nat) := [(2, .putfield 50, 3), (8, .invokevirtual 85, 3), (11, .ifCond .ne 7, 3), (20, .invokevirtual 81, 3), (23, .ifCond .eq 7, 3), (33, .invokevirtual 63, 3), (37, .ireturn, 1)]
theorem okd_X12_generation : ed_X12_generation.all (okD cX12_generation) = true := by decide +kernel
def f_X12_generation (S : St) (p0 : Nat) (p1 : Int32) : Option (Int32 × St) := lt (uI S p0 2 0) fun (S1 : St) => cl (f_X12_isFranchisee S1 p0 p1) fun (v2 : Int32) => jn (κ := Int32 → Option (Int32 × St)) (fun x3 => cl (f_X12_throwsIf S1 p0 x3 1) fun (o6 : Int32 × St) => if o6.1 = 0 then (cl (f_X12_of o6.2 p0 p1 5) fun (v7 : Int64) => some ((Int64.toInt32 v7), o6.2)) else (some (0, o6.2))) fun k4 => if v2 = 0 then (k4 1) else (k4 0)
set_option maxHeartbeats 4000000 in
set_option maxRecDepth 100000 in
theorem c_X12_generation (S : St) (p0 : Nat) (p1 : Int32) : Ct yX12_generation cX12_generation 2 (some .int) 2 46 [.ref p0, .int p1] [(p0, 11)] S (f_X12_generation S p0 p1) oIS sS := by
  refine Ct_of RX12 rfl (by decide) (Nat.le_of_ble_eq_true rfl) 0 (vs := [some (.ref p0), some (.int p1)]) rfl (fun C X E hr ht => ?_)
  have t0_ : tT C p0 11 := ht (p0, 11) (by simp)
  unfold f_X12_generation
  refine s_run X ok_X12_generation 0 2 (pc' := 2) (vs' := [some (.ref p0), some (.int p1)]) (st' := [.int 0, .ref p0]) rfl ?_
  refine s_putI X fp_X12_50 t0_ (dk okd_X12_generation 0 rfl) (fun S1 => ?_)
  refine s_run X ok_X12_generation 2 3 (pc' := 8) (vs' := [some (.ref p0), some (.int p1)]) (st' := [.int p1, .ref p0, .ref p0]) rfl ?_
  refine s_callV (rest := [.ref p0]) X E mv_X12_85 (c_X12_isFranchisee S1 p0 p1) (ta1 t0_) rfl (by decide) t0_ rfl rfl (Nat.le_of_ble_eq_true rfl) (Nat.le_of_ble_eq_true rfl) (Nat.le_of_ble_eq_true rfl) (dk okd_X12_generation 1 rfl) (st' := fun v2 => [.int v2, .ref p0]) (fun _ => rfl) (fun v2 => ?_)
  refine s_jn (κ := Int32 → Option (Int32 × St)) (fun k4 => ∀ (x3 : Int32), Jd C 2 (QJ C oIS sS) S1 19 [some (.ref p0), some (.int p1)] [.int x3, .ref p0] (k4 x3)) (fun x3 => ?_) (fun k4 h5 => ?_)
  · refine s_run X ok_X12_generation 8 1 (pc' := 20) (vs' := [some (.ref p0), some (.int p1)]) (st' := [.int 1, .int x3, .ref p0]) rfl ?_
    refine s_callV (rest := []) X E mv_X12_81 (c_X12_throwsIf S1 p0 x3 1) (ta1 t0_) rfl (by decide) t0_ rfl rfl (Nat.le_of_ble_eq_true rfl) (Nat.le_of_ble_eq_true rfl) (Nat.le_of_ble_eq_true rfl) (dk okd_X12_generation 3 rfl) (st' := fun o6 => [.int o6.1]) (fun _ => rfl) (fun o6 => ?_)
    refine s_if_eq (tgt := 30) X (dk okd_X12_generation 4 rfl) (by decide) ?_ ?_
    · refine s_run X ok_X12_generation 11 3 (pc' := 33) (vs' := [some (.ref p0), some (.int p1)]) (st' := [.int 5, .int p1, .ref p0]) rfl ?_
      refine s_callV (rest := []) X E mv_X12_63 (c_X12_of o6.2 p0 p1 5) (ta1 t0_) rfl (by decide) t0_ rfl rfl (Nat.le_of_ble_eq_true rfl) (Nat.le_of_ble_eq_true rfl) (Nat.le_of_ble_eq_true rfl) (dk okd_X12_generation 5 rfl) (st' := fun v7 => [.long v7]) (fun _ => rfl) (fun v7 => ?_)
      refine s_run X ok_X12_generation 14 1 (pc' := 37) (vs' := [some (.ref p0), some (.int p1)]) (st' := [.int (Int64.toInt32 v7)]) rfl ?_
      exact s_iret X hr (dk okd_X12_generation 6 rfl) rfl rfl
    · refine s_run X ok_X12_generation 9 2 (pc' := 37) (vs' := [some (.ref p0), some (.int p1)]) (st' := [.int 0]) rfl ?_
      exact s_iret X hr (dk okd_X12_generation 6 rfl) rfl rfl
  · refine s_if_ne (tgt := 18) X (dk okd_X12_generation 2 rfl) (by decide) ?_ ?_
    · refine s_run X ok_X12_generation 7 1 (pc' := 19) (vs' := [some (.ref p0), some (.int p1)]) (st' := [.int 0, .ref p0]) rfl ?_
      exact h5 0
    · refine s_run X ok_X12_generation 5 2 (pc' := 19) (vs' := [some (.ref p0), some (.int p1)]) (st' := [.int 1, .ref p0]) rfl ?_
      exact h5 1
def tab_X12_worth : List En := [(0, 8, 0, 0), (1, 0, 0, 0), (5, 8, 0, 0), (6, 8, 0, 0), (7, 4, 1, 0), (14, 0, 0, 1), (15, 41, 19, 0), (18, 0, 0, 0), (19, 0, 0, 1), (26, 0, 0, 0), (27, 41, 37, 0), (30, 8, 0, 0), (31, 4, 1, 0), (32, 0, 0, 2), (36, 32, 0, 0)]
theorem ok_X12_worth : tab_X12_worth.all (okE cX12_worth) = true := by decide +kernel
def ed_X12_worth : List (Nat × Instr × Nat) := [(2, .putfield 50, 3), (8, .invokevirtual 85, 3), (11, .ifCond .ne 7, 3), (20, .invokevirtual 81, 3), (23, .ifCond .eq 7, 3), (33, .invokevirtual 63, 3), (37, .ireturn, 1)]
theorem okd_X12_worth : ed_X12_worth.all (okD cX12_worth) = true := by decide +kernel
def f_X12_worth (S : St) (p0 : Nat) (p1 : Int32) : Option (Int32 × St) := lt (uI S p0 2 0) fun (S1 : St) => cl (f_X12_isFranchisee S1 p0 p1) fun (v2 : Int32) => jn (κ := Int32 → Option (Int32 × St)) (fun x3 => cl (f_X12_throwsIf S1 p0 x3 1) fun (o6 : Int32 × St) => if o6.1 = 0 then (cl (f_X12_of o6.2 p0 p1 2) fun (v7 : Int64) => some ((Int64.toInt32 v7), o6.2)) else (some (0, o6.2))) fun k4 => if v2 = 0 then (k4 1) else (k4 0)
set_option maxHeartbeats 4000000 in
set_option maxRecDepth 100000 in
theorem c_X12_worth (S : St) (p0 : Nat) (p1 : Int32) : Ct yX12_worth cX12_worth 2 (some .int) 2 46 [.ref p0, .int p1] [(p0, 11)] S (f_X12_worth S p0 p1) oIS sS := by
  refine Ct_of RX12 rfl (by decide) (Nat.le_of_ble_eq_true rfl) 0 (vs := [some (.ref p0), some (.int p1)]) rfl (fun C X E hr ht => ?_)
  have t0_ : tT C p0 11 := ht (p0, 11) (by simp)
  unfold f_X12_worth
  refine s_run X ok_X12_worth 0 2 (pc' := 2) (vs' := [some (.ref p0), some (.int p1)]) (st' := [.int 0, .ref p0]) rfl ?_
  refine s_putI X fp_X12_50 t0_ (dk okd_X12_worth 0 rfl) (fun S1 => ?_)
  refine s_run X ok_X12_worth 2 3 (pc' := 8) (vs' := [some (.ref p0), some (.int p1)]) (st' := [.int p1, .ref p0, .ref p0]) rfl ?_
  refine s_callV (rest := [.ref p0]) X E mv_X12_85 (c_X12_isFranchisee S1 p0 p1) (ta1 t0_) rfl (by decide) t0_ rfl rfl (Nat.le_of_ble_eq_true rfl) (Nat.le_of_ble_eq_true rfl) (Nat.le_of_ble_eq_true rfl) (dk okd_X12_worth 1 rfl) (st' := fun v2 => [.int v2, .ref p0]) (fun _ => rfl) (fun v2 => ?_)
  refine s_jn (κ := Int32 → Option (Int32 × St)) (fun k4 => ∀ (x3 : Int32), Jd C 2 (QJ C oIS sS) S1 19 [some (.ref p0), some (.int p1)] [.int x3, .ref p0] (k4 x3)) (fun x3 => ?_) (fun k4 h5 => ?_)
  · refine s_run X ok_X12_worth 8 1 (pc' := 20) (vs' := [some (.ref p0), some (.int p1)]) (st' := [.int 1, .int x3, .ref p0]) rfl ?_
    refine s_callV (rest := []) X E mv_X12_81 (c_X12_throwsIf S1 p0 x3 1) (ta1 t0_) rfl (by decide) t0_ rfl rfl (Nat.le_of_ble_eq_true rfl) (Nat.le_of_ble_eq_true rfl) (Nat.le_of_ble_eq_true rfl) (dk okd_X12_worth 3 rfl) (st' := fun o6 => [.int o6.1]) (fun _ => rfl) (fun o6 => ?_)
    refine s_if_eq (tgt := 30) X (dk okd_X12_worth 4 rfl) (by decide) ?_ ?_
    · refine s_run X ok_X12_worth 11 3 (pc' := 33) (vs' := [some (.ref p0), some (.int p1)]) (st' := [.int 2, .int p1, .ref p0]) rfl ?_
      refine s_callV (rest := []) X E mv_X12_63 (c_X12_of o6.2 p0 p1 2) (ta1 t0_) rfl (by decide) t0_ rfl rfl (Nat.le_of_ble_eq_true rfl) (Nat.le_of_ble_eq_true rfl) (Nat.le_of_ble_eq_true rfl) (dk okd_X12_worth 5 rfl) (st' := fun v7 => [.long v7]) (fun _ => rfl) (fun v7 => ?_)
      refine s_run X ok_X12_worth 14 1 (pc' := 37) (vs' := [some (.ref p0), some (.int p1)]) (st' := [.int (Int64.toInt32 v7)]) rfl ?_
      exact s_iret X hr (dk okd_X12_worth 6 rfl) rfl rfl
    · refine s_run X ok_X12_worth 9 2 (pc' := 37) (vs' := [some (.ref p0), some (.int p1)]) (st' := [.int 0]) rfl ?_
      exact s_iret X hr (dk okd_X12_worth 6 rfl) rfl rfl
  · refine s_if_ne (tgt := 18) X (dk okd_X12_worth 2 rfl) (by decide) ?_ ?_
    · refine s_run X ok_X12_worth 7 1 (pc' := 19) (vs' := [some (.ref p0), some (.int p1)]) (st' := [.int 0, .ref p0]) rfl ?_
      exact h5 0
    · refine s_run X ok_X12_worth 5 2 (pc' := 19) (vs' := [some (.ref p0), some (.int p1)]) (st' := [.int 1, .ref p0]) rfl ?_
      exact h5 1
def tab_X12_append : List En := [(0, 8, 0, 0), (4, 8, 0, 0), (8, 4, 1, 0), (9, 33, 0, 0), (11, 8, 0, 0), (12, 36, 0, 0), (16, 0, 0, 1), (17, 17, 0, 0)]
theorem ok_X12_append : tab_X12_append.all (okE cX12_append) = true := by decide +kernel
def ed_X12_append : List (Nat × Instr × Nat) := [(1, .getfield 26, 3), (5, .getfield 266, 3), (10, .bastore, 1), (13, .getfield 266, 3), (18, .putfield 266, 3), (21, .return_, 1)]
theorem okd_X12_append : ed_X12_append.all (okD cX12_append) = true := by decide +kernel
def f_X12_append (S : St) (p0 : Nat) (p1 : Int32) : Option (St) := lt (gR S p0 6) fun (a1 : Nat) => lt (gI S p0 7) fun (v3 : Int32) => stI S a1 v3 (vp_nar .byte (Int8.toInt32 (Int32.toInt8 p1))) fun (S4 : St) => lt (gI S4 p0 7) fun (v5 : Int32) => lt (uI S4 p0 7 (v5 + 1)) fun (S6 : St) => some S6
set_option maxHeartbeats 4000000 in
set_option maxRecDepth 100000 in
theorem c_X12_append (S : St) (p0 : Nat) (p1 : Int32) : Ct yX12_append cX12_append 2 none 0 0 [.ref p0, .int p1] [(p0, 11)] S (f_X12_append S p0 p1) oV sV := by
  refine Ct_of RX12 rfl (by decide) (Nat.le_of_ble_eq_true rfl) 0 (vs := [some (.ref p0), some (.int p1)]) rfl (fun C X E hr ht => ?_)
  have t0_ : tT C p0 11 := ht (p0, 11) (by simp)
  unfold f_X12_append
  refine s_run X ok_X12_append 0 1 (pc' := 1) (vs' := [some (.ref p0), some (.int p1)]) (st' := [.ref p0]) rfl ?_
  refine s_getR X fl_X12_26 t0_ (dk okd_X12_append 0 rfl) (fun a1 (t2 : tT C a1 12) => ?_)
  refine s_run X ok_X12_append 1 1 (pc' := 5) (vs' := [some (.ref p0), some (.int p1)]) (st' := [.ref p0, .ref a1]) rfl ?_
  refine s_getI X fl_X12_266 t0_ (dk okd_X12_append 1 rfl) (fun v3 => ?_)
  refine s_run X ok_X12_append 2 2 (pc' := 10) (vs' := [some (.ref p0), some (.int p1)]) (st' := [.int (Int8.toInt32 (Int32.toInt8 p1)), .int v3, .ref a1]) rfl ?_
  refine s_bast X t2 (dk okd_X12_append 2 rfl) (fun S4 => ?_)
  refine s_run X ok_X12_append 4 2 (pc' := 13) (vs' := [some (.ref p0), some (.int p1)]) (st' := [.ref p0, .ref p0]) rfl ?_
  refine s_getI X fl_X12_266 t0_ (dk okd_X12_append 3 rfl) (fun v5 => ?_)
  refine s_run X ok_X12_append 6 2 (pc' := 18) (vs' := [some (.ref p0), some (.int p1)]) (st' := [.int (v5 + 1), .ref p0]) rfl ?_
  refine s_putI X fp_X12_266 t0_ (dk okd_X12_append 4 rfl) (fun S6 => ?_)
  exact s_vret X hr (dk okd_X12_append 5 rfl) rfl rfl
def tab_X12_appendWord : List En := [(0, 1, 0, 45), (2, 10, 3, 0), (3, 4, 3, 0), (7, 6, 1, 0), (8, 4, 3, 0), (9, 35, 0, 0), (13, 26, 0, 0), (14, 3, 0, 0), (15, 40, 0, 0), (19, 8, 0, 0), (20, 1, 0, 96), (22, 6, 1, 0), (23, 4, 3, 0), (24, 35, 0, 0), (28, 26, 0, 0), (29, 32, 0, 0), (30, 17, 0, 0), (34, 16, 3, (-5)), (37, 41, 3, 0), (40, 8, 0, 0), (41, 1, 0, 32)]
theorem ok_X12_appendWord : tab_X12_appendWord.all (okE cX12_appendWord) = true := by decide +kernel
def ed_X12_appendWord : List (Nat × Instr × Nat) := [(4, .ifCond .lt 36, 3), (10, .ldc2_w 269, 3), (16, .ifCond .le 18, 3), (25, .ldc2_w 269, 3), (31, .invokevirtual 271, 3), (43, .invokevirtual 271, 3), (46, .return_, 1)]
theorem okd_X12_appendWord : ed_X12_appendWord.all (okD cX12_appendWord) = true := by decide +kernel
def f_X12_appendWord (S : St) (p0 : Nat) (p1 : Int64) : Option (St) := jn (κ := St → Option (St)) (fun S1 => cl (f_X12_append S1 p0 32) fun (S4 : St) => some S4) fun k2 => lp (κ := Int32 → St → Option (St)) (fun _ _ => none) (fun k7 x5 S6 => if x5 < 0 then (k2 S6) else (jn (κ := St → Option (St)) (fun S9 => k7 (x5 + (-5)) S9) fun k10 => if ((p1 >>> ((Int32.toInt64 x5) &&& 63)) &&& 31) ≤ 0 then (k10 S6) else (cl (f_X12_append S6 p0 (96 + (Int64.toInt32 ((p1 >>> ((Int32.toInt64 x5) &&& 63)) &&& 31)))) fun (S12 : St) => k10 S12))) FU 45 S
set_option maxHeartbeats 4000000 in
set_option maxRecDepth 100000 in
theorem c_X12_appendWord (S : St) (p0 : Nat) (p1 : Int64) : Ct yX12_appendWord cX12_appendWord 4 none 1 21 [.ref p0, .long p1] [(p0, 11)] S (f_X12_appendWord S p0 p1) oV sV := by
  refine Ct_of RX12 rfl (by decide) (Nat.le_of_ble_eq_true rfl) 1 (vs := [some (.ref p0), some (.long p1), none, none]) rfl (fun C X E hr ht => ?_)
  have t0_ : tT C p0 11 := ht (p0, 11) (by simp)
  unfold f_X12_appendWord
  refine s_run X ok_X12_appendWord 0 2 (pc' := 3) (vs' := [some (.ref p0), some (.long p1), none, some (.int 45)]) (st' := []) rfl ?_
  refine s_jn (κ := St → Option (St)) (fun k2 => ∀ (S1 : St), Jd C 4 (QJ C oV sV) S1 40 [some (.ref p0), none, none, none] [] (k2 S1)) (fun S1 => ?_) (fun k2 h3 => ?_)
  · refine s_run X ok_X12_appendWord 19 2 (pc' := 43) (vs' := [some (.ref p0), none, none, none]) (st' := [.int 32, .ref p0]) rfl ?_
    refine s_callV (rest := []) X E mv_X12_271 (c_X12_append S1 p0 32) (ta1 t0_) rfl (by decide) t0_ rfl rfl (Nat.le_of_ble_eq_true rfl) (Nat.le_of_ble_eq_true rfl) (Nat.le_of_ble_eq_true rfl) (dk okd_X12_appendWord 5 rfl) (st' := fun S4 => []) (fun _ => rfl) (fun S4 => ?_)
    exact s_vret X hr (dk okd_X12_appendWord 6 rfl) rfl rfl
  · refine s_lp (κ := Int32 → St → Option (St)) (fun k7 => ∀ (x5 : Int32) (S6 : St), Jd C 4 (QJ C oV sV) S6 3 [some (.ref p0), some (.long p1), none, some (.int x5)] [] (k7 x5 S6)) (fun _ _ => s_none) (fun k7 h8 x5 S6 => ?_) FU 45 S
    refine s_run X ok_X12_appendWord 2 1 (pc' := 4) (vs' := [some (.ref p0), some (.long p1), none, some (.int x5)]) (st' := [.int x5]) rfl ?_
    refine s_if_lt (tgt := 40) X (dk okd_X12_appendWord 0 rfl) (by decide) ?_ ?_
    · exact s_less [true, false, false, false] rfl (h3 S6)
    · refine s_run X ok_X12_appendWord 3 3 (pc' := 10) (vs' := [some (.ref p0), some (.long p1), none, some (.int x5)]) (st' := [.long (p1 >>> ((Int32.toInt64 x5) &&& 63))]) rfl ?_
      refine s_ldc2 X cl_X12_269 (dk okd_X12_appendWord 1 rfl) ?_
      refine s_run X ok_X12_appendWord 6 3 (pc' := 16) (vs' := [some (.ref p0), some (.long p1), none, some (.int x5)]) (st' := [.int (lg_cmp ((p1 >>> ((Int32.toInt64 x5) &&& 63)) &&& 31) 0)]) rfl ?_
      refine s_jn (κ := St → Option (St)) (fun k10 => ∀ (S9 : St), Jd C 4 (QJ C oV sV) S9 34 [some (.ref p0), some (.long p1), none, some (.int x5)] [] (k10 S9)) (fun S9 => ?_) (fun k10 h11 => ?_)
      · refine s_run X ok_X12_appendWord 17 2 (pc' := 3) (vs' := [some (.ref p0), some (.long p1), none, some (.int (x5 + (-5)))]) (st' := []) rfl ?_
        exact h8 (x5 + (-5)) S9
      · refine s_lif_le (tgt := 34) X (dk okd_X12_appendWord 2 rfl) (by decide) ?_ ?_
        · exact h11 S6
        · refine s_run X ok_X12_appendWord 9 5 (pc' := 25) (vs' := [some (.ref p0), some (.long p1), none, some (.int x5)]) (st' := [.long (p1 >>> ((Int32.toInt64 x5) &&& 63)), .int 96, .ref p0]) rfl ?_
          refine s_ldc2 X cl_X12_269 (dk okd_X12_appendWord 3 rfl) ?_
          refine s_run X ok_X12_appendWord 14 3 (pc' := 31) (vs' := [some (.ref p0), some (.long p1), none, some (.int x5)]) (st' := [.int (96 + (Int64.toInt32 ((p1 >>> ((Int32.toInt64 x5) &&& 63)) &&& 31))), .ref p0]) rfl ?_
          refine s_callV (rest := []) X E mv_X12_271 (c_X12_append S6 p0 (96 + (Int64.toInt32 ((p1 >>> ((Int32.toInt64 x5) &&& 63)) &&& 31)))) (ta1 t0_) rfl (by decide) t0_ rfl rfl (Nat.le_of_ble_eq_true rfl) (Nat.le_of_ble_eq_true rfl) (Nat.le_of_ble_eq_true rfl) (dk okd_X12_appendWord 4 rfl) (st' := fun S12 => []) (fun _ => rfl) (fun S12 => ?_)
          exact h11 S12
def tab_X12_appendAmount : List En := [(0, 6, 1, 0), (1, 3, 0, 0), (2, 40, 0, 0), (6, 8, 0, 0), (7, 1, 0, 45), (12, 6, 1, 0), (13, 3, 0, 0), (14, 40, 0, 0), (18, 6, 1, 0), (19, 28, 0, 0), (20, 41, 24, 0), (23, 6, 1, 0), (24, 12, 3, 0), (28, 13, 5, 0), (30, 6, 3, 0), (31, 7, 5, 0), (37, 40, 0, 0), (41, 7, 5, 0), (46, 25, 0, 0), (47, 13, 5, 0), (49, 41, 30, 0), (52, 7, 5, 0), (54, 3, 0, 0), (55, 40, 0, 0), (59, 8, 0, 0), (60, 1, 0, 48), (62, 6, 3, 0), (63, 7, 5, 0), (70, 32, 0, 0), (71, 17, 0, 0), (75, 7, 5, 0), (80, 40, 0, 0), (84, 8, 0, 0), (85, 1, 0, 46), (90, 7, 5, 0), (96, 13, 5, 0), (98, 41, 52, 0)]
theorem ok_X12_appendAmount : tab_X12_appendAmount.all (okE cX12_appendAmount) = true := by decide +kernel
def ed_X12_appendAmount : List (Nat × Instr × Nat) := [(3, .ifCond .ge 9, 3), (9, .invokevirtual 271, 3), (15, .ifCond .ge 8, 3), (25, .ldc2_w 144, 3), (33, .ldiv, 1), (34, .ldc2_w 274, 3), (38, .ifCond .le 14, 3), (43, .ldc2_w 276, 3), (56, .ifCond .le 45, 3), (65, .ldiv, 1), (66, .ldc2_w 276, 3), (69, .lrem, 1), (72, .invokevirtual 271, 3), (77, .ldc2_w 144, 3), (81, .ifCond .ne 9, 3), (87, .invokevirtual 271, 3), (92, .ldc2_w 276, 3), (95, .ldiv, 1), (101, .return_, 1)]
theorem okd_X12_appendAmount : ed_X12_appendAmount.all (okD cX12_appendAmount) = true := by decide +kernel
def f_X12_appendAmount (S : St) (p0 : Nat) (p1 : Int64) : Option (St) := jn (κ := St → Option (St)) (fun S1 => jn (κ := Int64 → Option (St)) (fun x4 => jn (κ := Int64 → Option (St)) (fun x7 => lp (κ := Int64 → St → Option (St)) (fun _ _ => none) (fun k12 x10 S11 => if x10 ≤ 0 then (some S11) else (nzL x10 <| cl (f_X12_append S11 p0 (48 + (Int64.toInt32 ((x4 / x10) - (x4 / x10) / 10 * 10)))) fun (S14 : St) => jn (κ := St → Option (St)) (fun S15 => lt (x10 / 10) fun (v18 : Int64) => k12 v18 S15) fun k16 => if x10 = 100 then (cl (f_X12_append S14 p0 46) fun (S19 : St) => k16 S19) else (k16 S14))) FU x7 S1) fun k8 => lp (κ := Int64 → Option (St)) (fun _ => none) (fun k21 x20 => nzL x20 <| if (x4 / x20) ≤ 9 then (k8 x20) else (lt (x20 * 10) fun (v23 : Int64) => k21 v23)) FU 100) fun k5 => if 0 ≤ p1 then (k5 p1) else (k5 (-p1))) fun k2 => if 0 ≤ p1 then (k2 S) else (cl (f_X12_append S p0 45) fun (S24 : St) => k2 S24)
set_option maxHeartbeats 4000000 in
set_option maxRecDepth 100000 in
theorem c_X12_appendAmount (S : St) (p0 : Nat) (p1 : Int64) : Ct yX12_appendAmount cX12_appendAmount 7 none 1 21 [.ref p0, .long p1] [(p0, 11)] S (f_X12_appendAmount S p0 p1) oV sV := by
  refine Ct_of RX12 rfl (by decide) (Nat.le_of_ble_eq_true rfl) 4 (vs := [some (.ref p0), some (.long p1), none, none, none, none, none]) rfl (fun C X E hr ht => ?_)
  have t0_ : tT C p0 11 := ht (p0, 11) (by simp)
  unfold f_X12_appendAmount
  refine s_run X ok_X12_appendAmount 0 3 (pc' := 3) (vs' := [some (.ref p0), some (.long p1), none, none, none, none, none]) (st' := [.int (lg_cmp p1 0)]) rfl ?_
  refine s_jn (κ := St → Option (St)) (fun k2 => ∀ (S1 : St), Jd C 7 (QJ C oV sV) S1 12 [some (.ref p0), some (.long p1), none, none, none, none, none] [] (k2 S1)) (fun S1 => ?_) (fun k2 h3 => ?_)
  · refine s_run X ok_X12_appendAmount 5 3 (pc' := 15) (vs' := [some (.ref p0), some (.long p1), none, none, none, none, none]) (st' := [.int (lg_cmp p1 0)]) rfl ?_
    refine s_jn (κ := Int64 → Option (St)) (fun k5 => ∀ (x4 : Int64), Jd C 7 (QJ C oV sV) S1 24 [some (.ref p0), none, none, none, none, none, none] [.long x4] (k5 x4)) (fun x4 => ?_) (fun k5 h6 => ?_)
    · refine s_run X ok_X12_appendAmount 12 1 (pc' := 25) (vs' := [some (.ref p0), none, none, some (.long x4), none, none, none]) (st' := []) rfl ?_
      refine s_ldc2 X cl_X12_144 (dk okd_X12_appendAmount 3 rfl) ?_
      refine s_run X ok_X12_appendAmount 13 1 (pc' := 30) (vs' := [some (.ref p0), none, none, some (.long x4), none, some (.long 100), none]) (st' := []) rfl ?_
      refine s_jn (κ := Int64 → Option (St)) (fun k8 => ∀ (x7 : Int64), Jd C 7 (QJ C oV sV) S1 52 [some (.ref p0), none, none, some (.long x4), none, some (.long x7), none] [] (k8 x7)) (fun x7 => ?_) (fun k8 h9 => ?_)
      · refine s_lp (κ := Int64 → St → Option (St)) (fun k12 => ∀ (x10 : Int64) (S11 : St), Jd C 7 (QJ C oV sV) S11 52 [some (.ref p0), none, none, some (.long x4), none, some (.long x10), none] [] (k12 x10 S11)) (fun _ _ => s_none) (fun k12 h13 x10 S11 => ?_) FU x7 S1
        refine s_run X ok_X12_appendAmount 21 3 (pc' := 56) (vs' := [some (.ref p0), none, none, some (.long x4), none, some (.long x10), none]) (st' := [.int (lg_cmp x10 0)]) rfl ?_
        refine s_lif_le (tgt := 101) X (dk okd_X12_appendAmount 8 rfl) (by decide) ?_ ?_
        · exact s_vret X hr (dk okd_X12_appendAmount 18 rfl) rfl rfl
        · refine s_run X ok_X12_appendAmount 24 4 (pc' := 65) (vs' := [some (.ref p0), none, none, some (.long x4), none, some (.long x10), none]) (st' := [.long x10, .long x4, .int 48, .ref p0]) rfl ?_
          refine s_ldiv X (dk okd_X12_appendAmount 9 rfl) ?_
          refine s_ldc2 X cl_X12_276 (dk okd_X12_appendAmount 10 rfl) ?_
          refine s_lrem0 X (dk okd_X12_appendAmount 11 rfl) (by decide) ?_
          refine s_run X ok_X12_appendAmount 28 2 (pc' := 72) (vs' := [some (.ref p0), none, none, some (.long x4), none, some (.long x10), none]) (st' := [.int (48 + (Int64.toInt32 ((x4 / x10) - (x4 / x10) / 10 * 10))), .ref p0]) rfl ?_
          refine s_callV (rest := []) X E mv_X12_271 (c_X12_append S11 p0 (48 + (Int64.toInt32 ((x4 / x10) - (x4 / x10) / 10 * 10)))) (ta1 t0_) rfl (by decide) t0_ rfl rfl (Nat.le_of_ble_eq_true rfl) (Nat.le_of_ble_eq_true rfl) (Nat.le_of_ble_eq_true rfl) (dk okd_X12_appendAmount 12 rfl) (st' := fun S14 => []) (fun _ => rfl) (fun S14 => ?_)
          refine s_run X ok_X12_appendAmount 30 1 (pc' := 77) (vs' := [some (.ref p0), none, none, some (.long x4), none, some (.long x10), none]) (st' := [.long x10]) rfl ?_
          refine s_ldc2 X cl_X12_144 (dk okd_X12_appendAmount 13 rfl) ?_
          refine s_run X ok_X12_appendAmount 31 1 (pc' := 81) (vs' := [some (.ref p0), none, none, some (.long x4), none, some (.long x10), none]) (st' := [.int (lg_cmp x10 100)]) rfl ?_
          refine s_jn (κ := St → Option (St)) (fun k16 => ∀ (S15 : St), Jd C 7 (QJ C oV sV) S15 90 [some (.ref p0), none, none, some (.long x4), none, some (.long x10), none] [] (k16 S15)) (fun S15 => ?_) (fun k16 h17 => ?_)
          · refine s_run X ok_X12_appendAmount 34 1 (pc' := 92) (vs' := [some (.ref p0), none, none, some (.long x4), none, some (.long x10), none]) (st' := [.long x10]) rfl ?_
            refine s_ldc2 X cl_X12_276 (dk okd_X12_appendAmount 16 rfl) ?_
            refine s_ldiv0 X (dk okd_X12_appendAmount 17 rfl) (by decide) ?_
            refine s_nmJ (fun v18 => ?_)
            refine s_run X ok_X12_appendAmount 35 2 (pc' := 52) (vs' := [some (.ref p0), none, none, some (.long x4), none, some (.long v18), none]) (st' := []) rfl ?_
            exact h13 v18 S15
          · refine s_lif_ne (tgt := 90) X (dk okd_X12_appendAmount 14 rfl) (by decide) ?_ ?_
            · exact h17 S14
            · refine s_run X ok_X12_appendAmount 32 2 (pc' := 87) (vs' := [some (.ref p0), none, none, some (.long x4), none, some (.long x10), none]) (st' := [.int 46, .ref p0]) rfl ?_
              refine s_callV (rest := []) X E mv_X12_271 (c_X12_append S14 p0 46) (ta1 t0_) rfl (by decide) t0_ rfl rfl (Nat.le_of_ble_eq_true rfl) (Nat.le_of_ble_eq_true rfl) (Nat.le_of_ble_eq_true rfl) (dk okd_X12_appendAmount 15 rfl) (st' := fun S19 => []) (fun _ => rfl) (fun S19 => ?_)
              exact h17 S19
      · refine s_lp (κ := Int64 → Option (St)) (fun k21 => ∀ (x20 : Int64), Jd C 7 (QJ C oV sV) S1 30 [some (.ref p0), none, none, some (.long x4), none, some (.long x20), none] [] (k21 x20)) (fun _ => s_none) (fun k21 h22 x20 => ?_) FU 100
        refine s_run X ok_X12_appendAmount 14 2 (pc' := 33) (vs' := [some (.ref p0), none, none, some (.long x4), none, some (.long x20), none]) (st' := [.long x20, .long x4]) rfl ?_
        refine s_ldiv X (dk okd_X12_appendAmount 4 rfl) ?_
        refine s_ldc2 X cl_X12_274 (dk okd_X12_appendAmount 5 rfl) ?_
        refine s_run X ok_X12_appendAmount 16 1 (pc' := 38) (vs' := [some (.ref p0), none, none, some (.long x4), none, some (.long x20), none]) (st' := [.int (lg_cmp (x4 / x20) 9)]) rfl ?_
        refine s_lif_le (tgt := 52) X (dk okd_X12_appendAmount 6 rfl) (by decide) ?_ ?_
        · exact h9 x20
        · refine s_run X ok_X12_appendAmount 17 1 (pc' := 43) (vs' := [some (.ref p0), none, none, some (.long x4), none, some (.long x20), none]) (st' := [.long x20]) rfl ?_
          refine s_ldc2 X cl_X12_276 (dk okd_X12_appendAmount 7 rfl) ?_
          refine s_run X ok_X12_appendAmount 18 1 (pc' := 47) (vs' := [some (.ref p0), none, none, some (.long x4), none, some (.long x20), none]) (st' := [.long (x20 * 10)]) rfl ?_
          refine s_nmJ (fun v23 => ?_)
          refine s_run X ok_X12_appendAmount 19 2 (pc' := 30) (vs' := [some (.ref p0), none, none, some (.long x4), none, some (.long v23), none]) (st' := []) rfl ?_
          exact h22 v23
    · refine s_lif_ge (tgt := 23) X (dk okd_X12_appendAmount 2 rfl) (by decide) ?_ ?_
      · refine s_run X ok_X12_appendAmount 11 1 (pc' := 24) (vs' := [some (.ref p0), some (.long p1), none, none, none, none, none]) (st' := [.long p1]) rfl ?_
        exact s_less [true, false, false, false, false, false, false] rfl (h6 p1)
      · refine s_run X ok_X12_appendAmount 8 3 (pc' := 24) (vs' := [some (.ref p0), some (.long p1), none, none, none, none, none]) (st' := [.long (-p1)]) rfl ?_
        exact s_less [true, false, false, false, false, false, false] rfl (h6 (-p1))
  · refine s_lif_ge (tgt := 12) X (dk okd_X12_appendAmount 0 rfl) (by decide) ?_ ?_
    · exact h3 S
    · refine s_run X ok_X12_appendAmount 3 2 (pc' := 9) (vs' := [some (.ref p0), some (.long p1), none, none, none, none, none]) (st' := [.int 45, .ref p0]) rfl ?_
      refine s_callV (rest := []) X E mv_X12_271 (c_X12_append S p0 45) (ta1 t0_) rfl (by decide) t0_ rfl rfl (Nat.le_of_ble_eq_true rfl) (Nat.le_of_ble_eq_true rfl) (Nat.le_of_ble_eq_true rfl) (dk okd_X12_appendAmount 1 rfl) (st' := fun S24 => []) (fun _ => rfl) (fun S24 => ?_)
      exact h3 S24
def tab_X12_formattedByte : List En := [(0, 8, 0, 0), (1, 0, 0, 0), (5, 4, 1, 0), (6, 31, 0, 0), (7, 3, 0, 0), (8, 8, 0, 0), (12, 0, 0, 1), (13, 18, 0, 0), (14, 31, 0, 0), (21, 8, 0, 0), (25, 4, 1, 0), (27, 41, 31, 0), (30, 0, 0, (-1))]
theorem ok_X12_formattedByte : tab_X12_formattedByte.all (okE cX12_formattedByte) = true := by decide +kernel
def ed_X12_formattedByte : List (Nat × Instr × Nat) := [(2, .putfield 50, 3), (9, .getfield 266, 3), (15, .invokestatic 53, 3), (18, .ifCond .eq 12, 3), (22, .getfield 26, 3), (26, .baload, 1), (31, .ireturn, 1)]
theorem okd_X12_formattedByte : ed_X12_formattedByte.all (okD cX12_formattedByte) = true := by decide +kernel
def f_X12_formattedByte (S : St) (p0 : Nat) (p1 : Int32) : Option (Int32 × St) := lt (uI S p0 2 0) fun (S1 : St) => lt (gI S1 p0 7) fun (v2 : Int32) => cl (f_X12_inRange S1 (Int32.toInt64 p1) 0 (Int32.toInt64 (v2 - 1))) fun (v3 : Int32) => if v3 = 0 then (some ((-1), S1)) else (lt (gR S1 p0 6) fun (a4 : Nat) => ldI S1 a4 p1 fun (v6 : Int32) => some (v6, S1))
set_option maxHeartbeats 4000000 in
set_option maxRecDepth 100000 in
theorem c_X12_formattedByte (S : St) (p0 : Nat) (p1 : Int32) : Ct yX12_formattedByte cX12_formattedByte 2 (some .int) 1 25 [.ref p0, .int p1] [(p0, 11)] S (f_X12_formattedByte S p0 p1) oIS sS := by
  refine Ct_of RX12 rfl (by decide) (Nat.le_of_ble_eq_true rfl) 0 (vs := [some (.ref p0), some (.int p1)]) rfl (fun C X E hr ht => ?_)
  have t0_ : tT C p0 11 := ht (p0, 11) (by simp)
  unfold f_X12_formattedByte
  refine s_run X ok_X12_formattedByte 0 2 (pc' := 2) (vs' := [some (.ref p0), some (.int p1)]) (st' := [.int 0, .ref p0]) rfl ?_
  refine s_putI X fp_X12_50 t0_ (dk okd_X12_formattedByte 0 rfl) (fun S1 => ?_)
  refine s_run X ok_X12_formattedByte 2 4 (pc' := 9) (vs' := [some (.ref p0), some (.int p1)]) (st' := [.ref p0, .long 0, .long (Int32.toInt64 p1)]) rfl ?_
  refine s_getI X fl_X12_266 t0_ (dk okd_X12_formattedByte 1 rfl) (fun v2 => ?_)
  refine s_run X ok_X12_formattedByte 6 3 (pc' := 15) (vs' := [some (.ref p0), some (.int p1)]) (st' := [.long (Int32.toInt64 (v2 - 1)), .long 0, .long (Int32.toInt64 p1)]) rfl ?_
  refine s_callS (rest := []) X E ms_X12_53 (c_X12_inRange S1 (Int32.toInt64 p1) 0 (Int32.toInt64 (v2 - 1))) (ta0) rfl rfl (Nat.le_of_ble_eq_true rfl) (Nat.le_of_ble_eq_true rfl) (Nat.le_of_ble_eq_true rfl) (dk okd_X12_formattedByte 2 rfl) (st' := fun v3 => [.int v3]) (fun _ => rfl) (fun v3 => ?_)
  refine s_if_eq (tgt := 30) X (dk okd_X12_formattedByte 3 rfl) (by decide) ?_ ?_
  · refine s_run X ok_X12_formattedByte 12 1 (pc' := 31) (vs' := [some (.ref p0), some (.int p1)]) (st' := [.int (-1)]) rfl ?_
    exact s_iret X hr (dk okd_X12_formattedByte 6 rfl) rfl rfl
  · refine s_run X ok_X12_formattedByte 9 1 (pc' := 22) (vs' := [some (.ref p0), some (.int p1)]) (st' := [.ref p0]) rfl ?_
    refine s_getR X fl_X12_26 t0_ (dk okd_X12_formattedByte 4 rfl) (fun a4 (t5 : tT C a4 12) => ?_)
    refine s_run X ok_X12_formattedByte 10 1 (pc' := 26) (vs' := [some (.ref p0), some (.int p1)]) (st' := [.int p1, .ref a4]) rfl ?_
    refine s_bald X t5 (dk okd_X12_formattedByte 5 rfl) (fun v6 => ?_)
    refine s_run X ok_X12_formattedByte 11 1 (pc' := 31) (vs' := [some (.ref p0), some (.int p1)]) (st' := [.int v6]) rfl ?_
    exact s_iret X hr (dk okd_X12_formattedByte 6 rfl) rfl rfl
def tab_X12_appendBytes : List En := [(0, 1, 0, 24), (2, 10, 2, 0), (3, 4, 2, 0), (7, 8, 0, 0), (11, 8, 0, 0), (15, 4, 1, 0), (16, 4, 2, 0), (17, 30, 0, 0), (18, 33, 0, 0), (20, 8, 0, 0), (21, 36, 0, 0), (25, 0, 0, 1), (26, 17, 0, 0), (30, 16, 2, (-8)), (33, 41, 3, 0)]
theorem ok_X12_appendBytes : tab_X12_appendBytes.all (okE cX12_appendBytes) = true := by decide +kernel
def ed_X12_appendBytes : List (Nat × Instr × Nat) := [(4, .ifCond .lt 32, 3), (8, .getfield 30, 3), (12, .getfield 296, 3), (19, .bastore, 1), (22, .getfield 296, 3), (27, .putfield 296, 3), (36, .return_, 1)]
theorem okd_X12_appendBytes : ed_X12_appendBytes.all (okD cX12_appendBytes) = true := by decide +kernel
def f_X12_appendBytes (S : St) (p0 : Nat) (p1 : Int32) : Option (St) := lp (κ := Int32 → St → Option (St)) (fun _ _ => none) (fun k3 x1 S2 => if x1 < 0 then (some S2) else (lt (gR S2 p0 8) fun (a5 : Nat) => lt (gI S2 p0 9) fun (v7 : Int32) => stI S2 a5 v7 (vp_nar .byte (Int8.toInt32 (Int32.toInt8 (p1 >>> (x1 &&& 31))))) fun (S8 : St) => lt (gI S8 p0 9) fun (v9 : Int32) => lt (uI S8 p0 9 (v9 + 1)) fun (S10 : St) => k3 (x1 + (-8)) S10)) FU 24 S
set_option maxHeartbeats 4000000 in
set_option maxRecDepth 100000 in
theorem c_X12_appendBytes (S : St) (p0 : Nat) (p1 : Int32) : Ct yX12_appendBytes cX12_appendBytes 3 none 0 0 [.ref p0, .int p1] [(p0, 11)] S (f_X12_appendBytes S p0 p1) oV sV := by
  refine Ct_of RX12 rfl (by decide) (Nat.le_of_ble_eq_true rfl) 1 (vs := [some (.ref p0), some (.int p1), none]) rfl (fun C X E hr ht => ?_)
  have t0_ : tT C p0 11 := ht (p0, 11) (by simp)
  unfold f_X12_appendBytes
  refine s_run X ok_X12_appendBytes 0 2 (pc' := 3) (vs' := [some (.ref p0), some (.int p1), some (.int 24)]) (st' := []) rfl ?_
  refine s_lp (κ := Int32 → St → Option (St)) (fun k3 => ∀ (x1 : Int32) (S2 : St), Jd C 3 (QJ C oV sV) S2 3 [some (.ref p0), some (.int p1), some (.int x1)] [] (k3 x1 S2)) (fun _ _ => s_none) (fun k3 h4 x1 S2 => ?_) FU 24 S
  refine s_run X ok_X12_appendBytes 2 1 (pc' := 4) (vs' := [some (.ref p0), some (.int p1), some (.int x1)]) (st' := [.int x1]) rfl ?_
  refine s_if_lt (tgt := 36) X (dk okd_X12_appendBytes 0 rfl) (by decide) ?_ ?_
  · exact s_vret X hr (dk okd_X12_appendBytes 6 rfl) rfl rfl
  · refine s_run X ok_X12_appendBytes 3 1 (pc' := 8) (vs' := [some (.ref p0), some (.int p1), some (.int x1)]) (st' := [.ref p0]) rfl ?_
    refine s_getR X fl_X12_30 t0_ (dk okd_X12_appendBytes 1 rfl) (fun a5 (t6 : tT C a5 12) => ?_)
    refine s_run X ok_X12_appendBytes 4 1 (pc' := 12) (vs' := [some (.ref p0), some (.int p1), some (.int x1)]) (st' := [.ref p0, .ref a5]) rfl ?_
    refine s_getI X fl_X12_296 t0_ (dk okd_X12_appendBytes 2 rfl) (fun v7 => ?_)
    refine s_run X ok_X12_appendBytes 5 4 (pc' := 19) (vs' := [some (.ref p0), some (.int p1), some (.int x1)]) (st' := [.int (Int8.toInt32 (Int32.toInt8 (p1 >>> (x1 &&& 31)))), .int v7, .ref a5]) rfl ?_
    refine s_bast X t6 (dk okd_X12_appendBytes 3 rfl) (fun S8 => ?_)
    refine s_run X ok_X12_appendBytes 9 2 (pc' := 22) (vs' := [some (.ref p0), some (.int p1), some (.int x1)]) (st' := [.ref p0, .ref p0]) rfl ?_
    refine s_getI X fl_X12_296 t0_ (dk okd_X12_appendBytes 4 rfl) (fun v9 => ?_)
    refine s_run X ok_X12_appendBytes 11 2 (pc' := 27) (vs' := [some (.ref p0), some (.int p1), some (.int x1)]) (st' := [.int (v9 + 1), .ref p0]) rfl ?_
    refine s_putI X fp_X12_296 t0_ (dk okd_X12_appendBytes 5 rfl) (fun S10 => ?_)
    refine s_run X ok_X12_appendBytes 13 2 (pc' := 3) (vs' := [some (.ref p0), some (.int p1), some (.int (x1 + (-8)))]) (st' := []) rfl ?_
    exact h4 (x1 + (-8)) S10
def tab_X12_appendInput : List En := [(0, 8, 0, 0), (1, 0, 0, 0), (5, 8, 0, 0), (9, 1, 0, 20), (11, 17, 0, 0), (12, 2, 0, 1500), (18, 0, 0, (-1)), (20, 8, 0, 0), (21, 4, 1, 0), (25, 8, 0, 0), (26, 4, 2, 0), (30, 8, 0, 0), (31, 4, 3, 0), (35, 8, 0, 0), (36, 5, 4, 0), (41, 8, 0, 0), (42, 5, 5, 0), (47, 8, 0, 0)]
theorem ok_X12_appendInput : tab_X12_appendInput.all (okE cX12_appendInput) = true := by decide +kernel
def ed_X12_appendInput : List (Nat × Instr × Nat) := [(2, .putfield 50, 3), (6, .getfield 296, 3), (15, .if_icmp .le 5, 3), (19, .ireturn, 1), (22, .invokevirtual 299, 3), (27, .invokevirtual 299, 3), (32, .invokevirtual 299, 3), (38, .invokevirtual 299, 3), (44, .invokevirtual 299, 3), (48, .getfield 296, 3), (51, .ireturn, 1)]
theorem okd_X12_appendInput : ed_X12_appendInput.all (okD cX12_appendInput) = true := by decide +kernel
def f_X12_appendInput (S : St) (p0 : Nat) (p1 : Int32) (p2 : Int32) (p3 : Int32) (p4 : Int32) (p5 : Int32) : Option (Int32 × St) := lt (uI S p0 2 0) fun (S1 : St) => lt (gI S1 p0 9) fun (v2 : Int32) => if (v2 + 20) ≤ 1500 then (cl (f_X12_appendBytes S1 p0 p1) fun (S3 : St) => cl (f_X12_appendBytes S3 p0 p2) fun (S4 : St) => cl (f_X12_appendBytes S4 p0 p3) fun (S5 : St) => cl (f_X12_appendBytes S5 p0 p4) fun (S6 : St) => cl (f_X12_appendBytes S6 p0 p5) fun (S7 : St) => lt (gI S7 p0 9) fun (v8 : Int32) => some (v8, S7)) else (some ((-1), S1))
set_option maxHeartbeats 4000000 in
set_option maxRecDepth 100000 in
theorem c_X12_appendInput (S : St) (p0 : Nat) (p1 : Int32) (p2 : Int32) (p3 : Int32) (p4 : Int32) (p5 : Int32) : Ct yX12_appendInput cX12_appendInput 6 (some .int) 1 22 [.ref p0, .int p1, .int p2, .int p3, .int p4, .int p5] [(p0, 11)] S (f_X12_appendInput S p0 p1 p2 p3 p4 p5) oIS sS := by
  refine Ct_of RX12 rfl (by decide) (Nat.le_of_ble_eq_true rfl) 0 (vs := [some (.ref p0), some (.int p1), some (.int p2), some (.int p3), some (.int p4), some (.int p5)]) rfl (fun C X E hr ht => ?_)
  have t0_ : tT C p0 11 := ht (p0, 11) (by simp)
  unfold f_X12_appendInput
  refine s_run X ok_X12_appendInput 0 2 (pc' := 2) (vs' := [some (.ref p0), some (.int p1), some (.int p2), some (.int p3), some (.int p4), some (.int p5)]) (st' := [.int 0, .ref p0]) rfl ?_
  refine s_putI X fp_X12_50 t0_ (dk okd_X12_appendInput 0 rfl) (fun S1 => ?_)
  refine s_run X ok_X12_appendInput 2 1 (pc' := 6) (vs' := [some (.ref p0), some (.int p1), some (.int p2), some (.int p3), some (.int p4), some (.int p5)]) (st' := [.ref p0]) rfl ?_
  refine s_getI X fl_X12_296 t0_ (dk okd_X12_appendInput 1 rfl) (fun v2 => ?_)
  refine s_run X ok_X12_appendInput 3 3 (pc' := 15) (vs' := [some (.ref p0), some (.int p1), some (.int p2), some (.int p3), some (.int p4), some (.int p5)]) (st' := [.int 1500, .int (v2 + 20)]) rfl ?_
  refine s_icmp_le (tgt := 20) X (dk okd_X12_appendInput 2 rfl) (by decide) ?_ ?_
  · refine s_run X ok_X12_appendInput 7 2 (pc' := 22) (vs' := [some (.ref p0), some (.int p1), some (.int p2), some (.int p3), some (.int p4), some (.int p5)]) (st' := [.int p1, .ref p0]) rfl ?_
    refine s_callV (rest := []) X E mv_X12_299 (c_X12_appendBytes S1 p0 p1) (ta1 t0_) rfl (by decide) t0_ rfl rfl (Nat.le_of_ble_eq_true rfl) (Nat.le_of_ble_eq_true rfl) (Nat.le_of_ble_eq_true rfl) (dk okd_X12_appendInput 4 rfl) (st' := fun S3 => []) (fun _ => rfl) (fun S3 => ?_)
    refine s_run X ok_X12_appendInput 9 2 (pc' := 27) (vs' := [some (.ref p0), some (.int p1), some (.int p2), some (.int p3), some (.int p4), some (.int p5)]) (st' := [.int p2, .ref p0]) rfl ?_
    refine s_callV (rest := []) X E mv_X12_299 (c_X12_appendBytes S3 p0 p2) (ta1 t0_) rfl (by decide) t0_ rfl rfl (Nat.le_of_ble_eq_true rfl) (Nat.le_of_ble_eq_true rfl) (Nat.le_of_ble_eq_true rfl) (dk okd_X12_appendInput 5 rfl) (st' := fun S4 => []) (fun _ => rfl) (fun S4 => ?_)
    refine s_run X ok_X12_appendInput 11 2 (pc' := 32) (vs' := [some (.ref p0), some (.int p1), some (.int p2), some (.int p3), some (.int p4), some (.int p5)]) (st' := [.int p3, .ref p0]) rfl ?_
    refine s_callV (rest := []) X E mv_X12_299 (c_X12_appendBytes S4 p0 p3) (ta1 t0_) rfl (by decide) t0_ rfl rfl (Nat.le_of_ble_eq_true rfl) (Nat.le_of_ble_eq_true rfl) (Nat.le_of_ble_eq_true rfl) (dk okd_X12_appendInput 6 rfl) (st' := fun S5 => []) (fun _ => rfl) (fun S5 => ?_)
    refine s_run X ok_X12_appendInput 13 2 (pc' := 38) (vs' := [some (.ref p0), some (.int p1), some (.int p2), some (.int p3), some (.int p4), some (.int p5)]) (st' := [.int p4, .ref p0]) rfl ?_
    refine s_callV (rest := []) X E mv_X12_299 (c_X12_appendBytes S5 p0 p4) (ta1 t0_) rfl (by decide) t0_ rfl rfl (Nat.le_of_ble_eq_true rfl) (Nat.le_of_ble_eq_true rfl) (Nat.le_of_ble_eq_true rfl) (dk okd_X12_appendInput 7 rfl) (st' := fun S6 => []) (fun _ => rfl) (fun S6 => ?_)
    refine s_run X ok_X12_appendInput 15 2 (pc' := 44) (vs' := [some (.ref p0), some (.int p1), some (.int p2), some (.int p3), some (.int p4), some (.int p5)]) (st' := [.int p5, .ref p0]) rfl ?_
    refine s_callV (rest := []) X E mv_X12_299 (c_X12_appendBytes S6 p0 p5) (ta1 t0_) rfl (by decide) t0_ rfl rfl (Nat.le_of_ble_eq_true rfl) (Nat.le_of_ble_eq_true rfl) (Nat.le_of_ble_eq_true rfl) (dk okd_X12_appendInput 8 rfl) (st' := fun S7 => []) (fun _ => rfl) (fun S7 => ?_)
    refine s_run X ok_X12_appendInput 17 1 (pc' := 48) (vs' := [some (.ref p0), some (.int p1), some (.int p2), some (.int p3), some (.int p4), some (.int p5)]) (st' := [.ref p0]) rfl ?_
    refine s_getI X fl_X12_296 t0_ (dk okd_X12_appendInput 9 rfl) (fun v8 => ?_)
    exact s_iret X hr (dk okd_X12_appendInput 10 rfl) rfl rfl
  · refine s_run X ok_X12_appendInput 6 1 (pc' := 19) (vs' := [some (.ref p0), some (.int p1), some (.int p2), some (.int p3), some (.int p4), some (.int p5)]) (st' := [.int (-1)]) rfl ?_
    exact s_iret X hr (dk okd_X12_appendInput 3 rfl) rfl rfl
def tab_X12_truncateInput : List En := [(0, 8, 0, 0), (1, 0, 0, 0), (5, 4, 1, 0), (6, 31, 0, 0), (7, 3, 0, 0), (8, 8, 0, 0), (12, 31, 0, 0), (19, 0, 0, (-1)), (21, 8, 0, 0), (22, 4, 1, 0), (26, 4, 1, 0)]
theorem ok_X12_truncateInput : tab_X12_truncateInput.all (okE cX12_truncateInput) = true := by decide +kernel
def ed_X12_truncateInput : List (Nat × Instr × Nat) := [(2, .putfield 50, 3), (9, .getfield 296, 3), (13, .invokestatic 53, 3), (16, .ifCond .ne 5, 3), (20, .ireturn, 1), (23, .putfield 296, 3), (27, .ireturn, 1)]
theorem okd_X12_truncateInput : ed_X12_truncateInput.all (okD cX12_truncateInput) = true := by decide +kernel
def f_X12_truncateInput (S : St) (p0 : Nat) (p1 : Int32) : Option (Int32 × St) := lt (uI S p0 2 0) fun (S1 : St) => lt (gI S1 p0 9) fun (v2 : Int32) => cl (f_X12_inRange S1 (Int32.toInt64 p1) 0 (Int32.toInt64 v2)) fun (v3 : Int32) => if v3 = 0 then (some ((-1), S1)) else (lt (uI S1 p0 9 p1) fun (S4 : St) => some (p1, S4))
set_option maxHeartbeats 4000000 in
set_option maxRecDepth 100000 in
theorem c_X12_truncateInput (S : St) (p0 : Nat) (p1 : Int32) : Ct yX12_truncateInput cX12_truncateInput 2 (some .int) 1 25 [.ref p0, .int p1] [(p0, 11)] S (f_X12_truncateInput S p0 p1) oIS sS := by
  refine Ct_of RX12 rfl (by decide) (Nat.le_of_ble_eq_true rfl) 0 (vs := [some (.ref p0), some (.int p1)]) rfl (fun C X E hr ht => ?_)
  have t0_ : tT C p0 11 := ht (p0, 11) (by simp)
  unfold f_X12_truncateInput
  refine s_run X ok_X12_truncateInput 0 2 (pc' := 2) (vs' := [some (.ref p0), some (.int p1)]) (st' := [.int 0, .ref p0]) rfl ?_
  refine s_putI X fp_X12_50 t0_ (dk okd_X12_truncateInput 0 rfl) (fun S1 => ?_)
  refine s_run X ok_X12_truncateInput 2 4 (pc' := 9) (vs' := [some (.ref p0), some (.int p1)]) (st' := [.ref p0, .long 0, .long (Int32.toInt64 p1)]) rfl ?_
  refine s_getI X fl_X12_296 t0_ (dk okd_X12_truncateInput 1 rfl) (fun v2 => ?_)
  refine s_run X ok_X12_truncateInput 6 1 (pc' := 13) (vs' := [some (.ref p0), some (.int p1)]) (st' := [.long (Int32.toInt64 v2), .long 0, .long (Int32.toInt64 p1)]) rfl ?_
  refine s_callS (rest := []) X E ms_X12_53 (c_X12_inRange S1 (Int32.toInt64 p1) 0 (Int32.toInt64 v2)) (ta0) rfl rfl (Nat.le_of_ble_eq_true rfl) (Nat.le_of_ble_eq_true rfl) (Nat.le_of_ble_eq_true rfl) (dk okd_X12_truncateInput 2 rfl) (st' := fun v3 => [.int v3]) (fun _ => rfl) (fun v3 => ?_)
  refine s_if_ne (tgt := 21) X (dk okd_X12_truncateInput 3 rfl) (by decide) ?_ ?_
  · refine s_run X ok_X12_truncateInput 8 2 (pc' := 23) (vs' := [some (.ref p0), some (.int p1)]) (st' := [.int p1, .ref p0]) rfl ?_
    refine s_putI X fp_X12_296 t0_ (dk okd_X12_truncateInput 5 rfl) (fun S4 => ?_)
    refine s_run X ok_X12_truncateInput 10 1 (pc' := 27) (vs' := [some (.ref p0), some (.int p1)]) (st' := [.int p1]) rfl ?_
    exact s_iret X hr (dk okd_X12_truncateInput 6 rfl) rfl rfl
  · refine s_run X ok_X12_truncateInput 7 1 (pc' := 20) (vs' := [some (.ref p0), some (.int p1)]) (st' := [.int (-1)]) rfl ?_
    exact s_iret X hr (dk okd_X12_truncateInput 4 rfl) rfl rfl
def tab_X12_errorCode : List En := [(0, 8, 0, 0), (1, 0, 0, 0), (5, 8, 0, 0)]
theorem ok_X12_errorCode : tab_X12_errorCode.all (okE cX12_errorCode) = true := by decide +kernel
def ed_X12_errorCode : List (Nat × Instr × Nat) := [(2, .putfield 50, 3), (6, .getfield 302, 3), (9, .ireturn, 1)]
theorem okd_X12_errorCode : ed_X12_errorCode.all (okD cX12_errorCode) = true := by decide +kernel
def f_X12_errorCode (S : St) (p0 : Nat) : Option (Int32 × St) := lt (uI S p0 2 0) fun (S1 : St) => lt (gI S1 p0 11) fun (v2 : Int32) => some (v2, S1)
set_option maxHeartbeats 4000000 in
set_option maxRecDepth 100000 in
theorem c_X12_errorCode (S : St) (p0 : Nat) : Ct yX12_errorCode cX12_errorCode 1 (some .int) 0 0 [.ref p0] [(p0, 11)] S (f_X12_errorCode S p0) oIS sS := by
  refine Ct_of RX12 rfl (by decide) (Nat.le_of_ble_eq_true rfl) 0 (vs := [some (.ref p0)]) rfl (fun C X E hr ht => ?_)
  have t0_ : tT C p0 11 := ht (p0, 11) (by simp)
  unfold f_X12_errorCode
  refine s_run X ok_X12_errorCode 0 2 (pc' := 2) (vs' := [some (.ref p0)]) (st' := [.int 0, .ref p0]) rfl ?_
  refine s_putI X fp_X12_50 t0_ (dk okd_X12_errorCode 0 rfl) (fun S1 => ?_)
  refine s_run X ok_X12_errorCode 2 1 (pc' := 6) (vs' := [some (.ref p0)]) (st' := [.ref p0]) rfl ?_
  refine s_getI X fl_X12_302 t0_ (dk okd_X12_errorCode 1 rfl) (fun v2 => ?_)
  exact s_iret X hr (dk okd_X12_errorCode 2 rfl) rfl rfl
def tab_X12_errorPosition : List En := [(0, 8, 0, 0), (1, 0, 0, 0), (5, 8, 0, 0)]
theorem ok_X12_errorPosition : tab_X12_errorPosition.all (okE cX12_errorPosition) = true := by decide +kernel
def ed_X12_errorPosition : List (Nat × Instr × Nat) := [(2, .putfield 50, 3), (6, .getfield 33, 3), (9, .ireturn, 1)]
theorem okd_X12_errorPosition : ed_X12_errorPosition.all (okD cX12_errorPosition) = true := by decide +kernel
def f_X12_errorPosition (S : St) (p0 : Nat) : Option (Int32 × St) := lt (uI S p0 2 0) fun (S1 : St) => lt (gI S1 p0 12) fun (v2 : Int32) => some (v2, S1)
set_option maxHeartbeats 4000000 in
set_option maxRecDepth 100000 in
theorem c_X12_errorPosition (S : St) (p0 : Nat) : Ct yX12_errorPosition cX12_errorPosition 1 (some .int) 0 0 [.ref p0] [(p0, 11)] S (f_X12_errorPosition S p0) oIS sS := by
  refine Ct_of RX12 rfl (by decide) (Nat.le_of_ble_eq_true rfl) 0 (vs := [some (.ref p0)]) rfl (fun C X E hr ht => ?_)
  have t0_ : tT C p0 11 := ht (p0, 11) (by simp)
  unfold f_X12_errorPosition
  refine s_run X ok_X12_errorPosition 0 2 (pc' := 2) (vs' := [some (.ref p0)]) (st' := [.int 0, .ref p0]) rfl ?_
  refine s_putI X fp_X12_50 t0_ (dk okd_X12_errorPosition 0 rfl) (fun S1 => ?_)
  refine s_run X ok_X12_errorPosition 2 1 (pc' := 6) (vs' := [some (.ref p0)]) (st' := [.ref p0]) rfl ?_
  refine s_getI X fl_X12_33 t0_ (dk okd_X12_errorPosition 1 rfl) (fun v2 => ?_)
  exact s_iret X hr (dk okd_X12_errorPosition 2 rfl) rfl rfl
def tab_X12_byteAt : List En := [(0, 4, 1, 0), (1, 8, 0, 0), (8, 8, 0, 0), (12, 4, 1, 0), (14, 2, 0, 255), (17, 20, 0, 0), (18, 41, 22, 0), (21, 0, 0, (-1))]
theorem ok_X12_byteAt : tab_X12_byteAt.all (okE cX12_byteAt) = true := by decide +kernel
def ed_X12_byteAt : List (Nat × Instr × Nat) := [(2, .getfield 296, 3), (5, .if_icmp .ge 16, 3), (9, .getfield 30, 3), (13, .baload, 1), (22, .ireturn, 1)]
theorem okd_X12_byteAt : ed_X12_byteAt.all (okD cX12_byteAt) = true := by decide +kernel
def f_X12_byteAt (S : St) (p0 : Nat) (p1 : Int32) : Option (Int32) := lt (gI S p0 9) fun (v1 : Int32) => if v1 ≤ p1 then (some (-1)) else (lt (gR S p0 8) fun (a2 : Nat) => ldI S a2 p1 fun (v4 : Int32) => some (v4 &&& 255))
set_option maxHeartbeats 4000000 in
set_option maxRecDepth 100000 in
theorem c_X12_byteAt (S : St) (p0 : Nat) (p1 : Int32) : Ct yX12_byteAt cX12_byteAt 2 (some .int) 0 0 [.ref p0, .int p1] [(p0, 11)] S (f_X12_byteAt S p0 p1) oI (fun _ => S) := by
  refine Ct_of RX12 rfl (by decide) (Nat.le_of_ble_eq_true rfl) 0 (vs := [some (.ref p0), some (.int p1)]) rfl (fun C X E hr ht => ?_)
  have t0_ : tT C p0 11 := ht (p0, 11) (by simp)
  unfold f_X12_byteAt
  refine s_run X ok_X12_byteAt 0 2 (pc' := 2) (vs' := [some (.ref p0), some (.int p1)]) (st' := [.ref p0, .int p1]) rfl ?_
  refine s_getI X fl_X12_296 t0_ (dk okd_X12_byteAt 0 rfl) (fun v1 => ?_)
  refine s_icmp_ge (tgt := 21) X (dk okd_X12_byteAt 1 rfl) (by decide) ?_ ?_
  · refine s_run X ok_X12_byteAt 7 1 (pc' := 22) (vs' := [some (.ref p0), some (.int p1)]) (st' := [.int (-1)]) rfl ?_
    exact s_iret X hr (dk okd_X12_byteAt 4 rfl) rfl rfl
  · refine s_run X ok_X12_byteAt 2 1 (pc' := 9) (vs' := [some (.ref p0), some (.int p1)]) (st' := [.ref p0]) rfl ?_
    refine s_getR X fl_X12_30 t0_ (dk okd_X12_byteAt 2 rfl) (fun a2 (t3 : tT C a2 12) => ?_)
    refine s_run X ok_X12_byteAt 3 1 (pc' := 13) (vs' := [some (.ref p0), some (.int p1)]) (st' := [.int p1, .ref a2]) rfl ?_
    refine s_bald X t3 (dk okd_X12_byteAt 3 rfl) (fun v4 => ?_)
    refine s_run X ok_X12_byteAt 4 3 (pc' := 22) (vs' := [some (.ref p0), some (.int p1)]) (st' := [.int (v4 &&& 255)]) rfl ?_
    exact s_iret X hr (dk okd_X12_byteAt 4 rfl) rfl rfl
def tab_X12_isLetter : List En := [(0, 4, 0, 0), (1, 31, 0, 0)]
theorem ok_X12_isLetter : tab_X12_isLetter.all (okE cX12_isLetter) = true := by decide +kernel
def ed_X12_isLetter : List (Nat × Instr × Nat) := [(2, .ldc2_w 305, 3), (5, .ldc2_w 307, 3), (8, .invokestatic 53, 3), (11, .ireturn, 1)]
theorem okd_X12_isLetter : ed_X12_isLetter.all (okD cX12_isLetter) = true := by decide +kernel
def f_X12_isLetter (S : St) (p0 : Int32) : Option (Int32) := cl (f_X12_inRange S (Int32.toInt64 p0) 97 122) fun (v1 : Int32) => zc v1 (some v1)
set_option maxHeartbeats 4000000 in
set_option maxRecDepth 100000 in
theorem c_X12_isLetter (S : St) (p0 : Int32) : Ct yX12_isLetter cX12_isLetter 1 (some .boolean) 1 25 [.int p0] [] S (f_X12_isLetter S p0) oI (fun _ => S) := by
  refine Ct_of RX12 rfl (by decide) (Nat.le_of_ble_eq_true rfl) 0 (vs := [some (.int p0)]) rfl (fun C X E hr ht => ?_)
  unfold f_X12_isLetter
  refine s_run X ok_X12_isLetter 0 2 (pc' := 2) (vs' := [some (.int p0)]) (st' := [.long (Int32.toInt64 p0)]) rfl ?_
  refine s_ldc2 X cl_X12_305 (dk okd_X12_isLetter 0 rfl) ?_
  refine s_ldc2 X cl_X12_307 (dk okd_X12_isLetter 1 rfl) ?_
  refine s_callS (rest := []) X E ms_X12_53 (c_X12_inRange S (Int32.toInt64 p0) 97 122) (ta0) rfl rfl (Nat.le_of_ble_eq_true rfl) (Nat.le_of_ble_eq_true rfl) (Nat.le_of_ble_eq_true rfl) (dk okd_X12_isLetter 2 rfl) (st' := fun v1 => [.int v1]) (fun _ => rfl) (fun v1 => ?_)
  exact s_zret X hr (dk okd_X12_isLetter 3 rfl) rfl rfl
def tab_X12_isDigit : List En := [(0, 4, 0, 0), (1, 31, 0, 0)]
theorem ok_X12_isDigit : tab_X12_isDigit.all (okE cX12_isDigit) = true := by decide +kernel
def ed_X12_isDigit : List (Nat × Instr × Nat) := [(2, .ldc2_w 309, 3), (5, .ldc2_w 311, 3), (8, .invokestatic 53, 3), (11, .ireturn, 1)]
theorem okd_X12_isDigit : ed_X12_isDigit.all (okD cX12_isDigit) = true := by decide +kernel
def f_X12_isDigit (S : St) (p0 : Int32) : Option (Int32) := cl (f_X12_inRange S (Int32.toInt64 p0) 48 57) fun (v1 : Int32) => zc v1 (some v1)
set_option maxHeartbeats 4000000 in
set_option maxRecDepth 100000 in
theorem c_X12_isDigit (S : St) (p0 : Int32) : Ct yX12_isDigit cX12_isDigit 1 (some .boolean) 1 25 [.int p0] [] S (f_X12_isDigit S p0) oI (fun _ => S) := by
  refine Ct_of RX12 rfl (by decide) (Nat.le_of_ble_eq_true rfl) 0 (vs := [some (.int p0)]) rfl (fun C X E hr ht => ?_)
  unfold f_X12_isDigit
  refine s_run X ok_X12_isDigit 0 2 (pc' := 2) (vs' := [some (.int p0)]) (st' := [.long (Int32.toInt64 p0)]) rfl ?_
  refine s_ldc2 X cl_X12_309 (dk okd_X12_isDigit 0 rfl) ?_
  refine s_ldc2 X cl_X12_311 (dk okd_X12_isDigit 1 rfl) ?_
  refine s_callS (rest := []) X E ms_X12_53 (c_X12_inRange S (Int32.toInt64 p0) 48 57) (ta0) rfl rfl (Nat.le_of_ble_eq_true rfl) (Nat.le_of_ble_eq_true rfl) (Nat.le_of_ble_eq_true rfl) (dk okd_X12_isDigit 2 rfl) (st' := fun v1 => [.int v1]) (fun _ => rfl) (fun v1 => ?_)
  exact s_zret X hr (dk okd_X12_isDigit 3 rfl) rfl rfl
def tab_X12_advance : List En := [(0, 8, 0, 0), (1, 8, 0, 0), (8, 1, 0, 32), (13, 8, 0, 0), (14, 8, 0, 0), (21, 1, 0, 10), (26, 8, 0, 0), (27, 36, 0, 0), (31, 0, 0, 1), (32, 17, 0, 0), (36, 41, 0, 0), (39, 8, 0, 0), (40, 8, 0, 0), (47, 8, 0, 0), (48, 3, 0, 0), (52, 8, 0, 0), (53, 8, 0, 0), (60, 10, 1, 0), (61, 8, 0, 0), (62, 4, 1, 0), (63, 0, 0, (-1)), (67, 0, 0, 0), (68, 41, 104, 0), (71, 4, 1, 0), (78, 0, 0, 1), (79, 41, 104, 0), (82, 4, 1, 0), (89, 0, 0, 2), (90, 41, 104, 0), (93, 4, 1, 0), (94, 1, 0, 59), (99, 0, 0, 3), (100, 41, 104, 0), (103, 0, 0, 4), (107, 8, 0, 0), (111, 0, 0, 3), (115, 8, 0, 0), (119, 0, 0, 4), (123, 8, 0, 0), (124, 36, 0, 0), (128, 0, 0, 1), (129, 17, 0, 0), (133, 8, 0, 0), (137, 0, 0, 1), (141, 8, 0, 0), (142, 8, 0, 0), (155, 8, 0, 0), (159, 8, 0, 0), (163, 18, 0, 0), (164, 1, 0, 10), (169, 8, 0, 0), (170, 8, 0, 0), (177, 25, 0, 0), (178, 8, 0, 0), (179, 8, 0, 0), (186, 31, 0, 0), (187, 23, 0, 0), (191, 24, 0, 0), (195, 8, 0, 0), (196, 36, 0, 0), (200, 0, 0, 1), (201, 17, 0, 0), (205, 41, 133, 0), (208, 8, 0, 0), (212, 0, 0, 2), (216, 8, 0, 0), (217, 8, 0, 0), (230, 8, 0, 0), (234, 8, 0, 0), (238, 18, 0, 0), (239, 1, 0, 6), (244, 8, 0, 0), (245, 8, 0, 0), (252, 25, 0, 0), (253, 8, 0, 0), (254, 8, 0, 0), (261, 31, 0, 0), (262, 23, 0, 0), (266, 24, 0, 0), (270, 8, 0, 0), (271, 36, 0, 0), (275, 0, 0, 1), (276, 17, 0, 0), (280, 41, 208, 0), (283, 8, 0, 0), (287, 0, 0, 1), (291, 8, 0, 0), (295, 8, 0, 0), (299, 18, 0, 0), (300, 1, 0, 10), (305, 8, 0, 0), (309, 0, 0, 2), (313, 8, 0, 0), (317, 8, 0, 0), (321, 18, 0, 0), (322, 1, 0, 6), (327, 8, 0, 0), (328, 0, 0, 4)]
theorem ok_X12_advance : tab_X12_advance.all (okE cX12_advance) = true := by decide +kernel
def ed_X12_advance : List (Nat × Instr × Nat) := [(2, .getfield 313, 3), (5, .invokevirtual 316, 3), (10, .if_icmp .eq 16, 3), (15, .getfield 313, 3), (18, .invokevirtual 316, 3), (23, .if_icmp .ne 16, 3), (28, .getfield 313, 3), (33, .putfield 313, 3), (41, .getfield 313, 3), (44, .putfield 319, 3), (49, .putfield 322, 3), (54, .getfield 319, 3), (57, .invokevirtual 316, 3), (64, .if_icmp .ne 7, 3), (72, .invokestatic 326, 3), (75, .ifCond .eq 7, 3), (83, .invokestatic 329, 3), (86, .ifCond .eq 7, 3), (96, .if_icmp .ne 7, 3), (104, .putfield 332, 3), (108, .getfield 332, 3), (112, .if_icmp .eq 11, 3), (116, .getfield 332, 3), (120, .if_icmp .ne 13, 3), (125, .getfield 313, 3), (130, .putfield 313, 3), (134, .getfield 332, 3), (138, .if_icmp .ne 70, 3), (143, .getfield 313, 3), (146, .invokevirtual 316, 3), (149, .invokestatic 326, 3), (152, .ifCond .eq 56, 3), (156, .getfield 313, 3), (160, .getfield 319, 3), (166, .if_icmp .ge 29, 3), (171, .getfield 322, 3), (174, .ldc2_w 335, 3), (180, .getfield 313, 3), (183, .invokevirtual 316, 3), (188, .ldc2_w 337, 3), (192, .putfield 322, 3), (197, .getfield 313, 3), (202, .putfield 313, 3), (209, .getfield 332, 3), (213, .if_icmp .ne 70, 3), (218, .getfield 313, 3), (221, .invokevirtual 316, 3), (224, .invokestatic 329, 3), (227, .ifCond .eq 56, 3), (231, .getfield 313, 3), (235, .getfield 319, 3), (241, .if_icmp .ge 29, 3), (246, .getfield 322, 3), (249, .ldc2_w 276, 3), (255, .getfield 313, 3), (258, .invokevirtual 316, 3), (263, .ldc2_w 309, 3), (267, .putfield 322, 3), (272, .getfield 313, 3), (277, .putfield 313, 3), (284, .getfield 332, 3), (288, .if_icmp .ne 17, 3), (292, .getfield 313, 3), (296, .getfield 319, 3), (302, .if_icmp .gt 25, 3), (306, .getfield 332, 3), (310, .if_icmp .ne 22, 3), (314, .getfield 313, 3), (318, .getfield 319, 3), (324, .if_icmp .le 8, 3), (329, .putfield 332, 3), (332, .return_, 1)]
theorem okd_X12_advance : ed_X12_advance.all (okD cX12_advance) = true := by decide +kernel
def f_X12_advance (S : St) (p0 : Nat) : Option (St) := jn (κ := St → Option (St)) (fun S1 => lt (gI S1 p0 10) fun (v4 : Int32) => lt (uI S1 p0 14 v4) fun (S5 : St) => lt (uJ S5 p0 16 0) fun (S6 : St) => lt (gI S6 p0 14) fun (v7 : Int32) => cl (f_X12_byteAt S6 p0 v7) fun (v8 : Int32) => jn (κ := Int32 → Option (St)) (fun x9 => lt (uI S6 p0 13 x9) fun (S12 : St) => lt (gI S12 p0 13) fun (v13 : Int32) => jn (κ := St → Option (St)) (fun S14 => jn (κ := St → Option (St)) (fun S17 => jn (κ := St → Option (St)) (fun S20 => lt (gI S20 p0 13) fun (v23 : Int32) => jn (κ := Option (St)) (lt (uI S20 p0 13 4) fun (S26 : St) => some S26) fun k24 => jn (κ := Option (St)) (lt (gI S20 p0 13) fun (v29 : Int32) => if v29 = 2 then (lt (gI S20 p0 10) fun (v30 : Int32) => lt (gI S20 p0 14) fun (v31 : Int32) => if (v30 - v31) ≤ 6 then (some S20) else (k24)) else (some S20)) fun k27 => if v23 = 1 then (lt (gI S20 p0 10) fun (v32 : Int32) => lt (gI S20 p0 14) fun (v33 : Int32) => if 10 < (v32 - v33) then (k24) else (k27)) else (k27)) fun k21 => lp (κ := St → Option (St)) (fun _ => none) (fun k35 S34 => lt (gI S34 p0 13) fun (v37 : Int32) => if v37 = 2 then (lt (gI S34 p0 10) fun (v38 : Int32) => cl (f_X12_byteAt S34 p0 v38) fun (v39 : Int32) => cl (f_X12_isDigit S34 v39) fun (v40 : Int32) => if v40 = 0 then (k21 S34) else (lt (gI S34 p0 10) fun (v41 : Int32) => lt (gI S34 p0 14) fun (v42 : Int32) => jn (κ := St → Option (St)) (fun S43 => lt (gI S43 p0 10) fun (v46 : Int32) => lt (uI S43 p0 10 (v46 + 1)) fun (S47 : St) => k35 S47) fun k44 => if 6 ≤ (v41 - v42) then (k44 S34) else (lt (gJ S34 p0 16) fun (v48 : Int64) => lt (gI S34 p0 10) fun (v49 : Int32) => cl (f_X12_byteAt S34 p0 v49) fun (v50 : Int32) => lt (uJ S34 p0 16 (((v48 * 10) + (Int32.toInt64 v50)) - 48)) fun (S51 : St) => k44 S51))) else (k21 S34)) FU S17) fun k18 => lp (κ := St → Option (St)) (fun _ => none) (fun k53 S52 => lt (gI S52 p0 13) fun (v55 : Int32) => if v55 = 1 then (lt (gI S52 p0 10) fun (v56 : Int32) => cl (f_X12_byteAt S52 p0 v56) fun (v57 : Int32) => cl (f_X12_isLetter S52 v57) fun (v58 : Int32) => if v58 = 0 then (k18 S52) else (lt (gI S52 p0 10) fun (v59 : Int32) => lt (gI S52 p0 14) fun (v60 : Int32) => jn (κ := St → Option (St)) (fun S61 => lt (gI S61 p0 10) fun (v64 : Int32) => lt (uI S61 p0 10 (v64 + 1)) fun (S65 : St) => k53 S65) fun k62 => if 10 ≤ (v59 - v60) then (k62 S52) else (lt (gJ S52 p0 16) fun (v66 : Int64) => lt (gI S52 p0 10) fun (v67 : Int32) => cl (f_X12_byteAt S52 p0 v67) fun (v68 : Int32) => lt (uJ S52 p0 16 (((v66 * 32) + (Int32.toInt64 v68)) - 96)) fun (S69 : St) => k62 S69))) else (k18 S52)) FU S14) fun k15 => jn (κ := Option (St)) (lt (gI S12 p0 10) fun (v72 : Int32) => lt (uI S12 p0 10 (v72 + 1)) fun (S73 : St) => k15 S73) fun k70 => if v13 = 3 then (k70) else (lt (gI S12 p0 13) fun (v74 : Int32) => if v74 = 4 then (k70) else (k15 S12))) fun k10 => if v8 = (-1) then (k10 0) else (cl (f_X12_isLetter S6 v8) fun (v75 : Int32) => if v75 = 0 then (cl (f_X12_isDigit S6 v8) fun (v76 : Int32) => if v76 = 0 then (if v8 = 59 then (k10 3) else (k10 4)) else (k10 2)) else (k10 1))) fun k2 => lp (κ := St → Option (St)) (fun _ => none) (fun k78 S77 => lt (gI S77 p0 10) fun (v80 : Int32) => cl (f_X12_byteAt S77 p0 v80) fun (v81 : Int32) => jn (κ := Option (St)) (lt (gI S77 p0 10) fun (v84 : Int32) => lt (uI S77 p0 10 (v84 + 1)) fun (S85 : St) => k78 S85) fun k82 => if v81 = 32 then (k82) else (lt (gI S77 p0 10) fun (v86 : Int32) => cl (f_X12_byteAt S77 p0 v86) fun (v87 : Int32) => if v87 = 10 then (k82) else (k2 S77))) FU S
set_option maxHeartbeats 4000000 in
set_option maxRecDepth 100000 in
theorem c_X12_advance (S : St) (p0 : Nat) : Ct yX12_advance cX12_advance 2 none 2 45 [.ref p0] [(p0, 11)] S (f_X12_advance S p0) oV sV := by
  refine Ct_of RX12 rfl (by decide) (Nat.le_of_ble_eq_true rfl) 1 (vs := [some (.ref p0), none]) rfl (fun C X E hr ht => ?_)
  have t0_ : tT C p0 11 := ht (p0, 11) (by simp)
  unfold f_X12_advance
  refine s_jn (κ := St → Option (St)) (fun k2 => ∀ (S1 : St), Jd C 2 (QJ C oV sV) S1 39 [some (.ref p0), none] [] (k2 S1)) (fun S1 => ?_) (fun k2 h3 => ?_)
  · refine s_run X ok_X12_advance 11 2 (pc' := 41) (vs' := [some (.ref p0), none]) (st' := [.ref p0, .ref p0]) rfl ?_
    refine s_getI X fl_X12_313 t0_ (dk okd_X12_advance 8 rfl) (fun v4 => ?_)
    refine s_putI X fp_X12_319 t0_ (dk okd_X12_advance 9 rfl) (fun S5 => ?_)
    refine s_run X ok_X12_advance 13 2 (pc' := 49) (vs' := [some (.ref p0), none]) (st' := [.long 0, .ref p0]) rfl ?_
    refine s_putJ X fp_X12_322 t0_ (dk okd_X12_advance 10 rfl) (fun S6 => ?_)
    refine s_run X ok_X12_advance 15 2 (pc' := 54) (vs' := [some (.ref p0), none]) (st' := [.ref p0, .ref p0]) rfl ?_
    refine s_getI X fl_X12_319 t0_ (dk okd_X12_advance 11 rfl) (fun v7 => ?_)
    refine s_callV (rest := []) X E mv_X12_316 (c_X12_byteAt S6 p0 v7) (ta1 t0_) rfl (by decide) t0_ rfl rfl (Nat.le_of_ble_eq_true rfl) (Nat.le_of_ble_eq_true rfl) (Nat.le_of_ble_eq_true rfl) (dk okd_X12_advance 12 rfl) (st' := fun v8 => [.int v8]) (fun _ => rfl) (fun v8 => ?_)
    refine s_run X ok_X12_advance 17 4 (pc' := 64) (vs' := [some (.ref p0), some (.int v8)]) (st' := [.int (-1), .int v8, .ref p0]) rfl ?_
    refine s_jn (κ := Int32 → Option (St)) (fun k10 => ∀ (x9 : Int32), Jd C 2 (QJ C oV sV) S6 104 [some (.ref p0), none] [.int x9, .ref p0] (k10 x9)) (fun x9 => ?_) (fun k10 h11 => ?_)
    · refine s_putI X fp_X12_332 t0_ (dk okd_X12_advance 19 rfl) (fun S12 => ?_)
      refine s_run X ok_X12_advance 34 1 (pc' := 108) (vs' := [some (.ref p0), none]) (st' := [.ref p0]) rfl ?_
      refine s_getI X fl_X12_332 t0_ (dk okd_X12_advance 20 rfl) (fun v13 => ?_)
      refine s_run X ok_X12_advance 35 1 (pc' := 112) (vs' := [some (.ref p0), none]) (st' := [.int 3, .int v13]) rfl ?_
      refine s_jn (κ := St → Option (St)) (fun k15 => ∀ (S14 : St), Jd C 2 (QJ C oV sV) S14 133 [some (.ref p0), none] [] (k15 S14)) (fun S14 => ?_) (fun k15 h16 => ?_)
      · refine s_jn (κ := St → Option (St)) (fun k18 => ∀ (S17 : St), Jd C 2 (QJ C oV sV) S17 208 [some (.ref p0), none] [] (k18 S17)) (fun S17 => ?_) (fun k18 h19 => ?_)
        · refine s_jn (κ := St → Option (St)) (fun k21 => ∀ (S20 : St), Jd C 2 (QJ C oV sV) S20 283 [some (.ref p0), none] [] (k21 S20)) (fun S20 => ?_) (fun k21 h22 => ?_)
          · refine s_run X ok_X12_advance 84 1 (pc' := 284) (vs' := [some (.ref p0), none]) (st' := [.ref p0]) rfl ?_
            refine s_getI X fl_X12_332 t0_ (dk okd_X12_advance 60 rfl) (fun v23 => ?_)
            refine s_run X ok_X12_advance 85 1 (pc' := 288) (vs' := [some (.ref p0), none]) (st' := [.int 1, .int v23]) rfl ?_
            refine s_jn (κ := Option (St)) (fun k24 => Jd C 2 (QJ C oV sV) S20 327 [some (.ref p0), none] [] k24) ?_ (fun k24 h25 => ?_)
            · refine s_run X ok_X12_advance 96 2 (pc' := 329) (vs' := [some (.ref p0), none]) (st' := [.int 4, .ref p0]) rfl ?_
              refine s_putI X fp_X12_332 t0_ (dk okd_X12_advance 70 rfl) (fun S26 => ?_)
              exact s_vret X hr (dk okd_X12_advance 71 rfl) rfl rfl
            · refine s_jn (κ := Option (St)) (fun k27 => Jd C 2 (QJ C oV sV) S20 305 [some (.ref p0), none] [] k27) ?_ (fun k27 h28 => ?_)
              · refine s_run X ok_X12_advance 90 1 (pc' := 306) (vs' := [some (.ref p0), none]) (st' := [.ref p0]) rfl ?_
                refine s_getI X fl_X12_332 t0_ (dk okd_X12_advance 65 rfl) (fun v29 => ?_)
                refine s_run X ok_X12_advance 91 1 (pc' := 310) (vs' := [some (.ref p0), none]) (st' := [.int 2, .int v29]) rfl ?_
                refine s_icmp_ne (tgt := 332) X (dk okd_X12_advance 66 rfl) (by decide) ?_ ?_
                · exact s_vret X hr (dk okd_X12_advance 71 rfl) rfl rfl
                · refine s_run X ok_X12_advance 92 1 (pc' := 314) (vs' := [some (.ref p0), none]) (st' := [.ref p0]) rfl ?_
                  refine s_getI X fl_X12_313 t0_ (dk okd_X12_advance 67 rfl) (fun v30 => ?_)
                  refine s_run X ok_X12_advance 93 1 (pc' := 318) (vs' := [some (.ref p0), none]) (st' := [.ref p0, .int v30]) rfl ?_
                  refine s_getI X fl_X12_319 t0_ (dk okd_X12_advance 68 rfl) (fun v31 => ?_)
                  refine s_run X ok_X12_advance 94 2 (pc' := 324) (vs' := [some (.ref p0), none]) (st' := [.int 6, .int (v30 - v31)]) rfl ?_
                  refine s_icmp_le (tgt := 332) X (dk okd_X12_advance 69 rfl) (by decide) ?_ ?_
                  · exact s_vret X hr (dk okd_X12_advance 71 rfl) rfl rfl
                  · exact h25
              · refine s_icmp_ne (tgt := 305) X (dk okd_X12_advance 61 rfl) (by decide) ?_ ?_
                · exact h28
                · refine s_run X ok_X12_advance 86 1 (pc' := 292) (vs' := [some (.ref p0), none]) (st' := [.ref p0]) rfl ?_
                  refine s_getI X fl_X12_313 t0_ (dk okd_X12_advance 62 rfl) (fun v32 => ?_)
                  refine s_run X ok_X12_advance 87 1 (pc' := 296) (vs' := [some (.ref p0), none]) (st' := [.ref p0, .int v32]) rfl ?_
                  refine s_getI X fl_X12_319 t0_ (dk okd_X12_advance 63 rfl) (fun v33 => ?_)
                  refine s_run X ok_X12_advance 88 2 (pc' := 302) (vs' := [some (.ref p0), none]) (st' := [.int 10, .int (v32 - v33)]) rfl ?_
                  refine s_icmp_gt (tgt := 327) X (dk okd_X12_advance 64 rfl) (by decide) ?_ ?_
                  · exact h25
                  · exact h28
          · refine s_lp (κ := St → Option (St)) (fun k35 => ∀ (S34 : St), Jd C 2 (QJ C oV sV) S34 208 [some (.ref p0), none] [] (k35 S34)) (fun _ => s_none) (fun k35 h36 S34 => ?_) FU S17
            refine s_run X ok_X12_advance 63 1 (pc' := 209) (vs' := [some (.ref p0), none]) (st' := [.ref p0]) rfl ?_
            refine s_getI X fl_X12_332 t0_ (dk okd_X12_advance 43 rfl) (fun v37 => ?_)
            refine s_run X ok_X12_advance 64 1 (pc' := 213) (vs' := [some (.ref p0), none]) (st' := [.int 2, .int v37]) rfl ?_
            refine s_icmp_ne (tgt := 283) X (dk okd_X12_advance 44 rfl) (by decide) ?_ ?_
            · exact h22 S34
            · refine s_run X ok_X12_advance 65 2 (pc' := 218) (vs' := [some (.ref p0), none]) (st' := [.ref p0, .ref p0]) rfl ?_
              refine s_getI X fl_X12_313 t0_ (dk okd_X12_advance 45 rfl) (fun v38 => ?_)
              refine s_callV (rest := []) X E mv_X12_316 (c_X12_byteAt S34 p0 v38) (ta1 t0_) rfl (by decide) t0_ rfl rfl (Nat.le_of_ble_eq_true rfl) (Nat.le_of_ble_eq_true rfl) (Nat.le_of_ble_eq_true rfl) (dk okd_X12_advance 46 rfl) (st' := fun v39 => [.int v39]) (fun _ => rfl) (fun v39 => ?_)
              refine s_callS (rest := []) X E ms_X12_329 (c_X12_isDigit S34 v39) (ta0) rfl rfl (Nat.le_of_ble_eq_true rfl) (Nat.le_of_ble_eq_true rfl) (Nat.le_of_ble_eq_true rfl) (dk okd_X12_advance 47 rfl) (st' := fun v40 => [.int v40]) (fun _ => rfl) (fun v40 => ?_)
              refine s_if_eq (tgt := 283) X (dk okd_X12_advance 48 rfl) (by decide) ?_ ?_
              · exact h22 S34
              · refine s_run X ok_X12_advance 67 1 (pc' := 231) (vs' := [some (.ref p0), none]) (st' := [.ref p0]) rfl ?_
                refine s_getI X fl_X12_313 t0_ (dk okd_X12_advance 49 rfl) (fun v41 => ?_)
                refine s_run X ok_X12_advance 68 1 (pc' := 235) (vs' := [some (.ref p0), none]) (st' := [.ref p0, .int v41]) rfl ?_
                refine s_getI X fl_X12_319 t0_ (dk okd_X12_advance 50 rfl) (fun v42 => ?_)
                refine s_run X ok_X12_advance 69 2 (pc' := 241) (vs' := [some (.ref p0), none]) (st' := [.int 6, .int (v41 - v42)]) rfl ?_
                refine s_jn (κ := St → Option (St)) (fun k44 => ∀ (S43 : St), Jd C 2 (QJ C oV sV) S43 270 [some (.ref p0), none] [] (k44 S43)) (fun S43 => ?_) (fun k44 h45 => ?_)
                · refine s_run X ok_X12_advance 79 2 (pc' := 272) (vs' := [some (.ref p0), none]) (st' := [.ref p0, .ref p0]) rfl ?_
                  refine s_getI X fl_X12_313 t0_ (dk okd_X12_advance 58 rfl) (fun v46 => ?_)
                  refine s_run X ok_X12_advance 81 2 (pc' := 277) (vs' := [some (.ref p0), none]) (st' := [.int (v46 + 1), .ref p0]) rfl ?_
                  refine s_putI X fp_X12_313 t0_ (dk okd_X12_advance 59 rfl) (fun S47 => ?_)
                  refine s_run X ok_X12_advance 83 1 (pc' := 208) (vs' := [some (.ref p0), none]) (st' := []) rfl ?_
                  exact h36 S47
                · refine s_icmp_ge (tgt := 270) X (dk okd_X12_advance 51 rfl) (by decide) ?_ ?_
                  · exact h45 S34
                  · refine s_run X ok_X12_advance 71 2 (pc' := 246) (vs' := [some (.ref p0), none]) (st' := [.ref p0, .ref p0]) rfl ?_
                    refine s_getJ X fl_X12_322 t0_ (dk okd_X12_advance 52 rfl) (fun v48 => ?_)
                    refine s_ldc2 X cl_X12_276 (dk okd_X12_advance 53 rfl) ?_
                    refine s_run X ok_X12_advance 73 3 (pc' := 255) (vs' := [some (.ref p0), none]) (st' := [.ref p0, .ref p0, .long (v48 * 10), .ref p0]) rfl ?_
                    refine s_getI X fl_X12_313 t0_ (dk okd_X12_advance 54 rfl) (fun v49 => ?_)
                    refine s_callV (rest := [.long (v48 * 10), .ref p0]) X E mv_X12_316 (c_X12_byteAt S34 p0 v49) (ta1 t0_) rfl (by decide) t0_ rfl rfl (Nat.le_of_ble_eq_true rfl) (Nat.le_of_ble_eq_true rfl) (Nat.le_of_ble_eq_true rfl) (dk okd_X12_advance 55 rfl) (st' := fun v50 => [.int v50, .long (v48 * 10), .ref p0]) (fun _ => rfl) (fun v50 => ?_)
                    refine s_run X ok_X12_advance 76 2 (pc' := 263) (vs' := [some (.ref p0), none]) (st' := [.long ((v48 * 10) + (Int32.toInt64 v50)), .ref p0]) rfl ?_
                    refine s_ldc2 X cl_X12_309 (dk okd_X12_advance 56 rfl) ?_
                    refine s_run X ok_X12_advance 78 1 (pc' := 267) (vs' := [some (.ref p0), none]) (st' := [.long (((v48 * 10) + (Int32.toInt64 v50)) - 48), .ref p0]) rfl ?_
                    refine s_putJ X fp_X12_322 t0_ (dk okd_X12_advance 57 rfl) (fun S51 => ?_)
                    exact h45 S51
        · refine s_lp (κ := St → Option (St)) (fun k53 => ∀ (S52 : St), Jd C 2 (QJ C oV sV) S52 133 [some (.ref p0), none] [] (k53 S52)) (fun _ => s_none) (fun k53 h54 S52 => ?_) FU S14
          refine s_run X ok_X12_advance 42 1 (pc' := 134) (vs' := [some (.ref p0), none]) (st' := [.ref p0]) rfl ?_
          refine s_getI X fl_X12_332 t0_ (dk okd_X12_advance 26 rfl) (fun v55 => ?_)
          refine s_run X ok_X12_advance 43 1 (pc' := 138) (vs' := [some (.ref p0), none]) (st' := [.int 1, .int v55]) rfl ?_
          refine s_icmp_ne (tgt := 208) X (dk okd_X12_advance 27 rfl) (by decide) ?_ ?_
          · exact h19 S52
          · refine s_run X ok_X12_advance 44 2 (pc' := 143) (vs' := [some (.ref p0), none]) (st' := [.ref p0, .ref p0]) rfl ?_
            refine s_getI X fl_X12_313 t0_ (dk okd_X12_advance 28 rfl) (fun v56 => ?_)
            refine s_callV (rest := []) X E mv_X12_316 (c_X12_byteAt S52 p0 v56) (ta1 t0_) rfl (by decide) t0_ rfl rfl (Nat.le_of_ble_eq_true rfl) (Nat.le_of_ble_eq_true rfl) (Nat.le_of_ble_eq_true rfl) (dk okd_X12_advance 29 rfl) (st' := fun v57 => [.int v57]) (fun _ => rfl) (fun v57 => ?_)
            refine s_callS (rest := []) X E ms_X12_326 (c_X12_isLetter S52 v57) (ta0) rfl rfl (Nat.le_of_ble_eq_true rfl) (Nat.le_of_ble_eq_true rfl) (Nat.le_of_ble_eq_true rfl) (dk okd_X12_advance 30 rfl) (st' := fun v58 => [.int v58]) (fun _ => rfl) (fun v58 => ?_)
            refine s_if_eq (tgt := 208) X (dk okd_X12_advance 31 rfl) (by decide) ?_ ?_
            · exact h19 S52
            · refine s_run X ok_X12_advance 46 1 (pc' := 156) (vs' := [some (.ref p0), none]) (st' := [.ref p0]) rfl ?_
              refine s_getI X fl_X12_313 t0_ (dk okd_X12_advance 32 rfl) (fun v59 => ?_)
              refine s_run X ok_X12_advance 47 1 (pc' := 160) (vs' := [some (.ref p0), none]) (st' := [.ref p0, .int v59]) rfl ?_
              refine s_getI X fl_X12_319 t0_ (dk okd_X12_advance 33 rfl) (fun v60 => ?_)
              refine s_run X ok_X12_advance 48 2 (pc' := 166) (vs' := [some (.ref p0), none]) (st' := [.int 10, .int (v59 - v60)]) rfl ?_
              refine s_jn (κ := St → Option (St)) (fun k62 => ∀ (S61 : St), Jd C 2 (QJ C oV sV) S61 195 [some (.ref p0), none] [] (k62 S61)) (fun S61 => ?_) (fun k62 h63 => ?_)
              · refine s_run X ok_X12_advance 58 2 (pc' := 197) (vs' := [some (.ref p0), none]) (st' := [.ref p0, .ref p0]) rfl ?_
                refine s_getI X fl_X12_313 t0_ (dk okd_X12_advance 41 rfl) (fun v64 => ?_)
                refine s_run X ok_X12_advance 60 2 (pc' := 202) (vs' := [some (.ref p0), none]) (st' := [.int (v64 + 1), .ref p0]) rfl ?_
                refine s_putI X fp_X12_313 t0_ (dk okd_X12_advance 42 rfl) (fun S65 => ?_)
                refine s_run X ok_X12_advance 62 1 (pc' := 133) (vs' := [some (.ref p0), none]) (st' := []) rfl ?_
                exact h54 S65
              · refine s_icmp_ge (tgt := 195) X (dk okd_X12_advance 34 rfl) (by decide) ?_ ?_
                · exact h63 S52
                · refine s_run X ok_X12_advance 50 2 (pc' := 171) (vs' := [some (.ref p0), none]) (st' := [.ref p0, .ref p0]) rfl ?_
                  refine s_getJ X fl_X12_322 t0_ (dk okd_X12_advance 35 rfl) (fun v66 => ?_)
                  refine s_ldc2 X cl_X12_335 (dk okd_X12_advance 36 rfl) ?_
                  refine s_run X ok_X12_advance 52 3 (pc' := 180) (vs' := [some (.ref p0), none]) (st' := [.ref p0, .ref p0, .long (v66 * 32), .ref p0]) rfl ?_
                  refine s_getI X fl_X12_313 t0_ (dk okd_X12_advance 37 rfl) (fun v67 => ?_)
                  refine s_callV (rest := [.long (v66 * 32), .ref p0]) X E mv_X12_316 (c_X12_byteAt S52 p0 v67) (ta1 t0_) rfl (by decide) t0_ rfl rfl (Nat.le_of_ble_eq_true rfl) (Nat.le_of_ble_eq_true rfl) (Nat.le_of_ble_eq_true rfl) (dk okd_X12_advance 38 rfl) (st' := fun v68 => [.int v68, .long (v66 * 32), .ref p0]) (fun _ => rfl) (fun v68 => ?_)
                  refine s_run X ok_X12_advance 55 2 (pc' := 188) (vs' := [some (.ref p0), none]) (st' := [.long ((v66 * 32) + (Int32.toInt64 v68)), .ref p0]) rfl ?_
                  refine s_ldc2 X cl_X12_337 (dk okd_X12_advance 39 rfl) ?_
                  refine s_run X ok_X12_advance 57 1 (pc' := 192) (vs' := [some (.ref p0), none]) (st' := [.long (((v66 * 32) + (Int32.toInt64 v68)) - 96), .ref p0]) rfl ?_
                  refine s_putJ X fp_X12_322 t0_ (dk okd_X12_advance 40 rfl) (fun S69 => ?_)
                  exact h63 S69
      · refine s_jn (κ := Option (St)) (fun k70 => Jd C 2 (QJ C oV sV) S12 123 [some (.ref p0), none] [] k70) ?_ (fun k70 h71 => ?_)
        · refine s_run X ok_X12_advance 38 2 (pc' := 125) (vs' := [some (.ref p0), none]) (st' := [.ref p0, .ref p0]) rfl ?_
          refine s_getI X fl_X12_313 t0_ (dk okd_X12_advance 24 rfl) (fun v72 => ?_)
          refine s_run X ok_X12_advance 40 2 (pc' := 130) (vs' := [some (.ref p0), none]) (st' := [.int (v72 + 1), .ref p0]) rfl ?_
          refine s_putI X fp_X12_313 t0_ (dk okd_X12_advance 25 rfl) (fun S73 => ?_)
          exact h16 S73
        · refine s_icmp_eq (tgt := 123) X (dk okd_X12_advance 21 rfl) (by decide) ?_ ?_
          · exact h71
          · refine s_run X ok_X12_advance 36 1 (pc' := 116) (vs' := [some (.ref p0), none]) (st' := [.ref p0]) rfl ?_
            refine s_getI X fl_X12_332 t0_ (dk okd_X12_advance 22 rfl) (fun v74 => ?_)
            refine s_run X ok_X12_advance 37 1 (pc' := 120) (vs' := [some (.ref p0), none]) (st' := [.int 4, .int v74]) rfl ?_
            refine s_icmp_ne (tgt := 133) X (dk okd_X12_advance 23 rfl) (by decide) ?_ ?_
            · exact h16 S12
            · exact h71
    · refine s_icmp_ne (tgt := 71) X (dk okd_X12_advance 13 rfl) (by decide) ?_ ?_
      · refine s_run X ok_X12_advance 23 1 (pc' := 72) (vs' := [some (.ref p0), some (.int v8)]) (st' := [.int v8, .ref p0]) rfl ?_
        refine s_callS (rest := [.ref p0]) X E ms_X12_326 (c_X12_isLetter S6 v8) (ta0) rfl rfl (Nat.le_of_ble_eq_true rfl) (Nat.le_of_ble_eq_true rfl) (Nat.le_of_ble_eq_true rfl) (dk okd_X12_advance 14 rfl) (st' := fun v75 => [.int v75, .ref p0]) (fun _ => rfl) (fun v75 => ?_)
        refine s_if_eq (tgt := 82) X (dk okd_X12_advance 15 rfl) (by decide) ?_ ?_
        · refine s_run X ok_X12_advance 26 1 (pc' := 83) (vs' := [some (.ref p0), some (.int v8)]) (st' := [.int v8, .ref p0]) rfl ?_
          refine s_callS (rest := [.ref p0]) X E ms_X12_329 (c_X12_isDigit S6 v8) (ta0) rfl rfl (Nat.le_of_ble_eq_true rfl) (Nat.le_of_ble_eq_true rfl) (Nat.le_of_ble_eq_true rfl) (dk okd_X12_advance 16 rfl) (st' := fun v76 => [.int v76, .ref p0]) (fun _ => rfl) (fun v76 => ?_)
          refine s_if_eq (tgt := 93) X (dk okd_X12_advance 17 rfl) (by decide) ?_ ?_
          · refine s_run X ok_X12_advance 29 2 (pc' := 96) (vs' := [some (.ref p0), some (.int v8)]) (st' := [.int 59, .int v8, .ref p0]) rfl ?_
            refine s_icmp_ne (tgt := 103) X (dk okd_X12_advance 18 rfl) (by decide) ?_ ?_
            · refine s_run X ok_X12_advance 33 1 (pc' := 104) (vs' := [some (.ref p0), some (.int v8)]) (st' := [.int 4, .ref p0]) rfl ?_
              exact s_less [true, false] rfl (h11 4)
            · refine s_run X ok_X12_advance 31 2 (pc' := 104) (vs' := [some (.ref p0), some (.int v8)]) (st' := [.int 3, .ref p0]) rfl ?_
              exact s_less [true, false] rfl (h11 3)
          · refine s_run X ok_X12_advance 27 2 (pc' := 104) (vs' := [some (.ref p0), some (.int v8)]) (st' := [.int 2, .ref p0]) rfl ?_
            exact s_less [true, false] rfl (h11 2)
        · refine s_run X ok_X12_advance 24 2 (pc' := 104) (vs' := [some (.ref p0), some (.int v8)]) (st' := [.int 1, .ref p0]) rfl ?_
          exact s_less [true, false] rfl (h11 1)
      · refine s_run X ok_X12_advance 21 2 (pc' := 104) (vs' := [some (.ref p0), some (.int v8)]) (st' := [.int 0, .ref p0]) rfl ?_
        exact s_less [true, false] rfl (h11 0)
  · refine s_lp (κ := St → Option (St)) (fun k78 => ∀ (S77 : St), Jd C 2 (QJ C oV sV) S77 0 [some (.ref p0), none] [] (k78 S77)) (fun _ => s_none) (fun k78 h79 S77 => ?_) FU S
    refine s_run X ok_X12_advance 0 2 (pc' := 2) (vs' := [some (.ref p0), none]) (st' := [.ref p0, .ref p0]) rfl ?_
    refine s_getI X fl_X12_313 t0_ (dk okd_X12_advance 0 rfl) (fun v80 => ?_)
    refine s_callV (rest := []) X E mv_X12_316 (c_X12_byteAt S77 p0 v80) (ta1 t0_) rfl (by decide) t0_ rfl rfl (Nat.le_of_ble_eq_true rfl) (Nat.le_of_ble_eq_true rfl) (Nat.le_of_ble_eq_true rfl) (dk okd_X12_advance 1 rfl) (st' := fun v81 => [.int v81]) (fun _ => rfl) (fun v81 => ?_)
    refine s_run X ok_X12_advance 2 1 (pc' := 10) (vs' := [some (.ref p0), none]) (st' := [.int 32, .int v81]) rfl ?_
    refine s_jn (κ := Option (St)) (fun k82 => Jd C 2 (QJ C oV sV) S77 26 [some (.ref p0), none] [] k82) ?_ (fun k82 h83 => ?_)
    · refine s_run X ok_X12_advance 6 2 (pc' := 28) (vs' := [some (.ref p0), none]) (st' := [.ref p0, .ref p0]) rfl ?_
      refine s_getI X fl_X12_313 t0_ (dk okd_X12_advance 6 rfl) (fun v84 => ?_)
      refine s_run X ok_X12_advance 8 2 (pc' := 33) (vs' := [some (.ref p0), none]) (st' := [.int (v84 + 1), .ref p0]) rfl ?_
      refine s_putI X fp_X12_313 t0_ (dk okd_X12_advance 7 rfl) (fun S85 => ?_)
      refine s_run X ok_X12_advance 10 1 (pc' := 0) (vs' := [some (.ref p0), none]) (st' := []) rfl ?_
      exact h79 S85
    · refine s_icmp_eq (tgt := 26) X (dk okd_X12_advance 2 rfl) (by decide) ?_ ?_
      · exact h83
      · refine s_run X ok_X12_advance 3 2 (pc' := 15) (vs' := [some (.ref p0), none]) (st' := [.ref p0, .ref p0]) rfl ?_
        refine s_getI X fl_X12_313 t0_ (dk okd_X12_advance 3 rfl) (fun v86 => ?_)
        refine s_callV (rest := []) X E mv_X12_316 (c_X12_byteAt S77 p0 v86) (ta1 t0_) rfl (by decide) t0_ rfl rfl (Nat.le_of_ble_eq_true rfl) (Nat.le_of_ble_eq_true rfl) (Nat.le_of_ble_eq_true rfl) (dk okd_X12_advance 4 rfl) (st' := fun v87 => [.int v87]) (fun _ => rfl) (fun v87 => ?_)
        refine s_run X ok_X12_advance 5 1 (pc' := 23) (vs' := [some (.ref p0), none]) (st' := [.int 10, .int v87]) rfl ?_
        refine s_icmp_ne (tgt := 39) X (dk okd_X12_advance 5 rfl) (by decide) ?_ ?_
        · exact h3 S77
        · exact h83
def tab_X12_fail : List En := [(0, 8, 0, 0), (1, 4, 1, 0), (5, 8, 0, 0), (6, 8, 0, 0), (13, 0, 0, 0)]
theorem ok_X12_fail : tab_X12_fail.all (okE cX12_fail) = true := by decide +kernel
def ed_X12_fail : List (Nat × Instr × Nat) := [(2, .putfield 302, 3), (7, .getfield 319, 3), (10, .putfield 33, 3), (14, .ireturn, 1)]
theorem okd_X12_fail : ed_X12_fail.all (okD cX12_fail) = true := by decide +kernel
def f_X12_fail (S : St) (p0 : Nat) (p1 : Int32) : Option (Int32 × St) := lt (uI S p0 11 p1) fun (S1 : St) => lt (gI S1 p0 14) fun (v2 : Int32) => lt (uI S1 p0 12 v2) fun (S3 : St) => some (0, S3)
set_option maxHeartbeats 4000000 in
set_option maxRecDepth 100000 in
theorem c_X12_fail (S : St) (p0 : Nat) (p1 : Int32) : Ct yX12_fail cX12_fail 2 (some .boolean) 0 0 [.ref p0, .int p1] [(p0, 11)] S (f_X12_fail S p0 p1) oIS sS := by
  refine Ct_of RX12 rfl (by decide) (Nat.le_of_ble_eq_true rfl) 0 (vs := [some (.ref p0), some (.int p1)]) rfl (fun C X E hr ht => ?_)
  have t0_ : tT C p0 11 := ht (p0, 11) (by simp)
  unfold f_X12_fail
  refine s_run X ok_X12_fail 0 2 (pc' := 2) (vs' := [some (.ref p0), some (.int p1)]) (st' := [.int p1, .ref p0]) rfl ?_
  refine s_putI X fp_X12_302 t0_ (dk okd_X12_fail 0 rfl) (fun S1 => ?_)
  refine s_run X ok_X12_fail 2 2 (pc' := 7) (vs' := [some (.ref p0), some (.int p1)]) (st' := [.ref p0, .ref p0]) rfl ?_
  refine s_getI X fl_X12_319 t0_ (dk okd_X12_fail 1 rfl) (fun v2 => ?_)
  refine s_putI X fp_X12_33 t0_ (dk okd_X12_fail 2 rfl) (fun S3 => ?_)
  refine s_run X ok_X12_fail 4 1 (pc' := 14) (vs' := [some (.ref p0), some (.int p1)]) (st' := [.int 0]) rfl ?_
  exact s_zret0 X hr (dk okd_X12_fail 3 rfl) (by decide) rfl rfl
def tab_X12_readNumber : List En := [(0, 8, 0, 0), (4, 0, 0, 2), (8, 8, 0, 0), (9, 0, 0, 1), (14, 8, 0, 0), (18, 4, 1, 0), (19, 31, 0, 0), (20, 4, 2, 0), (21, 31, 0, 0), (28, 8, 0, 0), (29, 0, 0, 2), (34, 8, 0, 0), (35, 8, 0, 0), (39, 32, 0, 0), (43, 8, 0, 0), (47, 0, 0, 1)]
theorem ok_X12_readNumber : tab_X12_readNumber.all (okE cX12_readNumber) = true := by decide +kernel
def ed_X12_readNumber : List (Nat × Instr × Nat) := [(1, .getfield 332, 3), (5, .if_icmp .eq 9, 3), (10, .invokevirtual 339, 3), (13, .ireturn, 1), (15, .getfield 322, 3), (22, .invokestatic 53, 3), (25, .ifCond .ne 9, 3), (30, .invokevirtual 339, 3), (33, .ireturn, 1), (36, .getfield 322, 3), (40, .putfield 342, 3), (44, .invokevirtual 345, 3), (48, .ireturn, 1)]
theorem okd_X12_readNumber : ed_X12_readNumber.all (okD cX12_readNumber) = true := by decide +kernel
def f_X12_readNumber (S : St) (p0 : Nat) (p1 : Int32) (p2 : Int32) : Option (Int32 × St) := lt (gI S p0 13) fun (v1 : Int32) => if v1 = 2 then (lt (gJ S p0 16) fun (v2 : Int64) => cl (f_X12_inRange S v2 (Int32.toInt64 p1) (Int32.toInt64 p2)) fun (v3 : Int32) => if v3 = 0 then (cl (f_X12_fail S p0 2) fun (o7 : Int32 × St) => zc o7.1 (some (o7.1, o7.2))) else (lt (gJ S p0 16) fun (v4 : Int64) => lt (uI S p0 15 (Int64.toInt32 v4)) fun (S5 : St) => cl (f_X12_advance S5 p0) fun (S6 : St) => some (1, S6))) else (cl (f_X12_fail S p0 1) fun (o8 : Int32 × St) => zc o8.1 (some (o8.1, o8.2)))
set_option maxHeartbeats 4000000 in
set_option maxRecDepth 100000 in
theorem c_X12_readNumber (S : St) (p0 : Nat) (p1 : Int32) (p2 : Int32) : Ct yX12_readNumber cX12_readNumber 3 (some .boolean) 3 66 [.ref p0, .int p1, .int p2] [(p0, 11)] S (f_X12_readNumber S p0 p1 p2) oIS sS := by
  refine Ct_of RX12 rfl (by decide) (Nat.le_of_ble_eq_true rfl) 0 (vs := [some (.ref p0), some (.int p1), some (.int p2)]) rfl (fun C X E hr ht => ?_)
  have t0_ : tT C p0 11 := ht (p0, 11) (by simp)
  unfold f_X12_readNumber
  refine s_run X ok_X12_readNumber 0 1 (pc' := 1) (vs' := [some (.ref p0), some (.int p1), some (.int p2)]) (st' := [.ref p0]) rfl ?_
  refine s_getI X fl_X12_332 t0_ (dk okd_X12_readNumber 0 rfl) (fun v1 => ?_)
  refine s_run X ok_X12_readNumber 1 1 (pc' := 5) (vs' := [some (.ref p0), some (.int p1), some (.int p2)]) (st' := [.int 2, .int v1]) rfl ?_
  refine s_icmp_eq (tgt := 14) X (dk okd_X12_readNumber 1 rfl) (by decide) ?_ ?_
  · refine s_run X ok_X12_readNumber 4 1 (pc' := 15) (vs' := [some (.ref p0), some (.int p1), some (.int p2)]) (st' := [.ref p0]) rfl ?_
    refine s_getJ X fl_X12_322 t0_ (dk okd_X12_readNumber 4 rfl) (fun v2 => ?_)
    refine s_run X ok_X12_readNumber 5 4 (pc' := 22) (vs' := [some (.ref p0), some (.int p1), some (.int p2)]) (st' := [.long (Int32.toInt64 p2), .long (Int32.toInt64 p1), .long v2]) rfl ?_
    refine s_callS (rest := []) X E ms_X12_53 (c_X12_inRange S v2 (Int32.toInt64 p1) (Int32.toInt64 p2)) (ta0) rfl rfl (Nat.le_of_ble_eq_true rfl) (Nat.le_of_ble_eq_true rfl) (Nat.le_of_ble_eq_true rfl) (dk okd_X12_readNumber 5 rfl) (st' := fun v3 => [.int v3]) (fun _ => rfl) (fun v3 => ?_)
    refine s_if_ne (tgt := 34) X (dk okd_X12_readNumber 6 rfl) (by decide) ?_ ?_
    · refine s_run X ok_X12_readNumber 11 2 (pc' := 36) (vs' := [some (.ref p0), some (.int p1), some (.int p2)]) (st' := [.ref p0, .ref p0]) rfl ?_
      refine s_getJ X fl_X12_322 t0_ (dk okd_X12_readNumber 9 rfl) (fun v4 => ?_)
      refine s_run X ok_X12_readNumber 13 1 (pc' := 40) (vs' := [some (.ref p0), some (.int p1), some (.int p2)]) (st' := [.int (Int64.toInt32 v4), .ref p0]) rfl ?_
      refine s_putI X fp_X12_342 t0_ (dk okd_X12_readNumber 10 rfl) (fun S5 => ?_)
      refine s_run X ok_X12_readNumber 14 1 (pc' := 44) (vs' := [some (.ref p0), some (.int p1), some (.int p2)]) (st' := [.ref p0]) rfl ?_
      refine s_callV (rest := []) X E mv_X12_345 (c_X12_advance S5 p0) (ta1 t0_) rfl (by decide) t0_ rfl rfl (Nat.le_of_ble_eq_true rfl) (Nat.le_of_ble_eq_true rfl) (Nat.le_of_ble_eq_true rfl) (dk okd_X12_readNumber 11 rfl) (st' := fun S6 => []) (fun _ => rfl) (fun S6 => ?_)
      refine s_run X ok_X12_readNumber 15 1 (pc' := 48) (vs' := [some (.ref p0), some (.int p1), some (.int p2)]) (st' := [.int 1]) rfl ?_
      exact s_zret0 X hr (dk okd_X12_readNumber 12 rfl) (by decide) rfl rfl
    · refine s_run X ok_X12_readNumber 9 2 (pc' := 30) (vs' := [some (.ref p0), some (.int p1), some (.int p2)]) (st' := [.int 2, .ref p0]) rfl ?_
      refine s_callV (rest := []) X E mv_X12_339 (c_X12_fail S p0 2) (ta1 t0_) rfl (by decide) t0_ rfl rfl (Nat.le_of_ble_eq_true rfl) (Nat.le_of_ble_eq_true rfl) (Nat.le_of_ble_eq_true rfl) (dk okd_X12_readNumber 7 rfl) (st' := fun o7 => [.int o7.1]) (fun _ => rfl) (fun o7 => ?_)
      exact s_zret X hr (dk okd_X12_readNumber 8 rfl) rfl rfl
  · refine s_run X ok_X12_readNumber 2 2 (pc' := 10) (vs' := [some (.ref p0), some (.int p1), some (.int p2)]) (st' := [.int 1, .ref p0]) rfl ?_
    refine s_callV (rest := []) X E mv_X12_339 (c_X12_fail S p0 1) (ta1 t0_) rfl (by decide) t0_ rfl rfl (Nat.le_of_ble_eq_true rfl) (Nat.le_of_ble_eq_true rfl) (Nat.le_of_ble_eq_true rfl) (dk okd_X12_readNumber 2 rfl) (st' := fun o8 => [.int o8.1]) (fun _ => rfl) (fun o8 => ?_)
    exact s_zret X hr (dk okd_X12_readNumber 3 rfl) rfl rfl
def tab_X12_readInto : List En := [(0, 8, 0, 0), (1, 4, 2, 0), (2, 4, 3, 0), (9, 0, 0, 0), (11, 8, 0, 0), (15, 4, 1, 0), (16, 8, 0, 0), (20, 31, 0, 0), (21, 7, 4, 0), (23, 25, 0, 0), (25, 0, 0, 1)]
theorem ok_X12_readInto : tab_X12_readInto.all (okE cX12_readInto) = true := by decide +kernel
def ed_X12_readInto : List (Nat × Instr × Nat) := [(3, .invokevirtual 348, 3), (6, .ifCond .ne 5, 3), (10, .ireturn, 1), (12, .getfield 9, 3), (17, .getfield 342, 3), (24, .lastore, 1), (26, .ireturn, 1)]
theorem okd_X12_readInto : ed_X12_readInto.all (okD cX12_readInto) = true := by decide +kernel
def f_X12_readInto (S : St) (p0 : Nat) (p1 : Int32) (p2 : Int32) (p3 : Int32) (p4 : Int64) : Option (Int32 × St) := cl (f_X12_readNumber S p0 p2 p3) fun (o1 : Int32 × St) => if o1.1 = 0 then (some (0, o1.2)) else (lt (gR o1.2 p0 0) fun (a2 : Nat) => lt (gI o1.2 p0 15) fun (v4 : Int32) => stJ o1.2 a2 p1 ((Int32.toInt64 v4) * p4) fun (S5 : St) => some (1, S5))
set_option maxHeartbeats 4000000 in
set_option maxRecDepth 100000 in
theorem c_X12_readInto (S : St) (p0 : Nat) (p1 : Int32) (p2 : Int32) (p3 : Int32) (p4 : Int64) : Ct yX12_readInto cX12_readInto 6 (some .boolean) 4 88 [.ref p0, .int p1, .int p2, .int p3, .long p4] [(p0, 11)] S (f_X12_readInto S p0 p1 p2 p3 p4) oIS sS := by
  refine Ct_of RX12 rfl (by decide) (Nat.le_of_ble_eq_true rfl) 0 (vs := [some (.ref p0), some (.int p1), some (.int p2), some (.int p3), some (.long p4), none]) rfl (fun C X E hr ht => ?_)
  have t0_ : tT C p0 11 := ht (p0, 11) (by simp)
  unfold f_X12_readInto
  refine s_run X ok_X12_readInto 0 3 (pc' := 3) (vs' := [some (.ref p0), some (.int p1), some (.int p2), some (.int p3), some (.long p4), none]) (st' := [.int p3, .int p2, .ref p0]) rfl ?_
  refine s_callV (rest := []) X E mv_X12_348 (c_X12_readNumber S p0 p2 p3) (ta1 t0_) rfl (by decide) t0_ rfl rfl (Nat.le_of_ble_eq_true rfl) (Nat.le_of_ble_eq_true rfl) (Nat.le_of_ble_eq_true rfl) (dk okd_X12_readInto 0 rfl) (st' := fun o1 => [.int o1.1]) (fun _ => rfl) (fun o1 => ?_)
  refine s_if_ne (tgt := 11) X (dk okd_X12_readInto 1 rfl) (by decide) ?_ ?_
  · refine s_run X ok_X12_readInto 4 1 (pc' := 12) (vs' := [some (.ref p0), some (.int p1), some (.int p2), some (.int p3), some (.long p4), none]) (st' := [.ref p0]) rfl ?_
    refine s_getR X fl_X12_9 t0_ (dk okd_X12_readInto 3 rfl) (fun a2 (t3 : tT C a2 14) => ?_)
    refine s_run X ok_X12_readInto 5 2 (pc' := 17) (vs' := [some (.ref p0), some (.int p1), some (.int p2), some (.int p3), some (.long p4), none]) (st' := [.ref p0, .int p1, .ref a2]) rfl ?_
    refine s_getI X fl_X12_342 t0_ (dk okd_X12_readInto 4 rfl) (fun v4 => ?_)
    refine s_run X ok_X12_readInto 7 3 (pc' := 24) (vs' := [some (.ref p0), some (.int p1), some (.int p2), some (.int p3), some (.long p4), none]) (st' := [.long ((Int32.toInt64 v4) * p4), .int p1, .ref a2]) rfl ?_
    refine s_last X t3 (dk okd_X12_readInto 5 rfl) (fun S5 => ?_)
    refine s_run X ok_X12_readInto 10 1 (pc' := 26) (vs' := [some (.ref p0), some (.int p1), some (.int p2), some (.int p3), some (.long p4), none]) (st' := [.int 1]) rfl ?_
    exact s_zret0 X hr (dk okd_X12_readInto 6 rfl) (by decide) rfl rfl
  · refine s_run X ok_X12_readInto 3 1 (pc' := 10) (vs' := [some (.ref p0), some (.int p1), some (.int p2), some (.int p3), some (.long p4), none]) (st' := [.int 0]) rfl ?_
    exact s_zret0 X hr (dk okd_X12_readInto 2 rfl) (by decide) rfl rfl
def tab_X12_readEnd : List En := [(0, 8, 0, 0), (4, 0, 0, 3), (8, 8, 0, 0), (9, 0, 0, 1), (14, 8, 0, 0), (18, 0, 0, 1)]
theorem ok_X12_readEnd : tab_X12_readEnd.all (okE cX12_readEnd) = true := by decide +kernel
def ed_X12_readEnd : List (Nat × Instr × Nat) := [(1, .getfield 332, 3), (5, .if_icmp .eq 9, 3), (10, .invokevirtual 339, 3), (13, .ireturn, 1), (15, .invokevirtual 345, 3), (19, .ireturn, 1)]
theorem okd_X12_readEnd : ed_X12_readEnd.all (okD cX12_readEnd) = true := by decide +kernel
def f_X12_readEnd (S : St) (p0 : Nat) : Option (Int32 × St) := lt (gI S p0 13) fun (v1 : Int32) => if v1 = 3 then (cl (f_X12_advance S p0) fun (S2 : St) => some (1, S2)) else (cl (f_X12_fail S p0 1) fun (o3 : Int32 × St) => zc o3.1 (some (o3.1, o3.2)))
set_option maxHeartbeats 4000000 in
set_option maxRecDepth 100000 in
theorem c_X12_readEnd (S : St) (p0 : Nat) : Ct yX12_readEnd cX12_readEnd 1 (some .boolean) 3 66 [.ref p0] [(p0, 11)] S (f_X12_readEnd S p0) oIS sS := by
  refine Ct_of RX12 rfl (by decide) (Nat.le_of_ble_eq_true rfl) 0 (vs := [some (.ref p0)]) rfl (fun C X E hr ht => ?_)
  have t0_ : tT C p0 11 := ht (p0, 11) (by simp)
  unfold f_X12_readEnd
  refine s_run X ok_X12_readEnd 0 1 (pc' := 1) (vs' := [some (.ref p0)]) (st' := [.ref p0]) rfl ?_
  refine s_getI X fl_X12_332 t0_ (dk okd_X12_readEnd 0 rfl) (fun v1 => ?_)
  refine s_run X ok_X12_readEnd 1 1 (pc' := 5) (vs' := [some (.ref p0)]) (st' := [.int 3, .int v1]) rfl ?_
  refine s_icmp_eq (tgt := 14) X (dk okd_X12_readEnd 1 rfl) (by decide) ?_ ?_
  · refine s_run X ok_X12_readEnd 4 1 (pc' := 15) (vs' := [some (.ref p0)]) (st' := [.ref p0]) rfl ?_
    refine s_callV (rest := []) X E mv_X12_345 (c_X12_advance S p0) (ta1 t0_) rfl (by decide) t0_ rfl rfl (Nat.le_of_ble_eq_true rfl) (Nat.le_of_ble_eq_true rfl) (Nat.le_of_ble_eq_true rfl) (dk okd_X12_readEnd 4 rfl) (st' := fun S2 => []) (fun _ => rfl) (fun S2 => ?_)
    refine s_run X ok_X12_readEnd 5 1 (pc' := 19) (vs' := [some (.ref p0)]) (st' := [.int 1]) rfl ?_
    exact s_zret0 X hr (dk okd_X12_readEnd 5 rfl) (by decide) rfl rfl
  · refine s_run X ok_X12_readEnd 2 2 (pc' := 10) (vs' := [some (.ref p0)]) (st' := [.int 1, .ref p0]) rfl ?_
    refine s_callV (rest := []) X E mv_X12_339 (c_X12_fail S p0 1) (ta1 t0_) rfl (by decide) t0_ rfl rfl (Nat.le_of_ble_eq_true rfl) (Nat.le_of_ble_eq_true rfl) (Nat.le_of_ble_eq_true rfl) (dk okd_X12_readEnd 2 rfl) (st' := fun o3 => [.int o3.1]) (fun _ => rfl) (fun o3 => ?_)
    exact s_zret X hr (dk okd_X12_readEnd 3 rfl) rfl rfl
def tab_X12_pack : List En := [(0, 4, 0, 0), (1, 31, 0, 0), (5, 24, 0, 0), (9, 25, 0, 0), (10, 4, 1, 0), (11, 31, 0, 0), (12, 23, 0, 0), (16, 24, 0, 0), (17, 13, 5, 0), (19, 4, 2, 0), (23, 7, 5, 0), (25, 41, 41, 0), (28, 7, 5, 0), (33, 25, 0, 0), (34, 4, 2, 0), (35, 31, 0, 0), (36, 23, 0, 0), (40, 24, 0, 0), (41, 13, 5, 0), (43, 4, 3, 0), (47, 7, 5, 0), (49, 41, 65, 0), (52, 7, 5, 0), (57, 25, 0, 0), (58, 4, 3, 0), (59, 31, 0, 0), (60, 23, 0, 0), (64, 24, 0, 0), (65, 13, 5, 0), (67, 5, 4, 0), (72, 7, 5, 0), (74, 41, 91, 0), (77, 7, 5, 0), (82, 25, 0, 0), (83, 5, 4, 0), (85, 31, 0, 0), (86, 23, 0, 0), (90, 24, 0, 0)]
theorem ok_X12_pack : tab_X12_pack.all (okE cX12_pack) = true := by decide +kernel
def ed_X12_pack : List (Nat × Instr × Nat) := [(2, .ldc2_w 337, 3), (6, .ldc2_w 335, 3), (13, .ldc2_w 337, 3), (20, .ifCond .ne 8, 3), (30, .ldc2_w 335, 3), (37, .ldc2_w 337, 3), (44, .ifCond .ne 8, 3), (54, .ldc2_w 335, 3), (61, .ldc2_w 337, 3), (69, .ifCond .ne 8, 3), (79, .ldc2_w 335, 3), (87, .ldc2_w 337, 3), (91, .lreturn, 1)]
theorem okd_X12_pack : ed_X12_pack.all (okD cX12_pack) = true := by decide +kernel
def f_X12_pack (S : St) (p0 : Int32) (p1 : Int32) (p2 : Int32) (p3 : Int32) (p4 : Int32) : Option (Int64) := lt (((((Int32.toInt64 p0) - 96) * 32) + (Int32.toInt64 p1)) - 96) fun (v1 : Int64) => jn (κ := Int64 → Option (Int64)) (fun x2 => jn (κ := Int64 → Option (Int64)) (fun x5 => if p4 = 0 then (some x5) else (some (((x5 * 32) + (Int32.toInt64 p4)) - 96))) fun k6 => if p3 = 0 then (k6 x2) else (k6 (((x2 * 32) + (Int32.toInt64 p3)) - 96))) fun k3 => if p2 = 0 then (k3 v1) else (k3 (((v1 * 32) + (Int32.toInt64 p2)) - 96))
set_option maxHeartbeats 4000000 in
set_option maxRecDepth 100000 in
theorem c_X12_pack (S : St) (p0 : Int32) (p1 : Int32) (p2 : Int32) (p3 : Int32) (p4 : Int32) : Ct yX12_pack cX12_pack 7 (some .long) 0 0 [.int p0, .int p1, .int p2, .int p3, .int p4] [] S (f_X12_pack S p0 p1 p2 p3 p4) oL (fun _ => S) := by
  refine Ct_of RX12 rfl (by decide) (Nat.le_of_ble_eq_true rfl) 2 (vs := [some (.int p0), some (.int p1), some (.int p2), some (.int p3), some (.int p4), none, none]) rfl (fun C X E hr ht => ?_)
  unfold f_X12_pack
  refine s_run X ok_X12_pack 0 2 (pc' := 2) (vs' := [some (.int p0), some (.int p1), some (.int p2), some (.int p3), some (.int p4), none, none]) (st' := [.long (Int32.toInt64 p0)]) rfl ?_
  refine s_ldc2 X cl_X12_337 (dk okd_X12_pack 0 rfl) ?_
  refine s_run X ok_X12_pack 2 1 (pc' := 6) (vs' := [some (.int p0), some (.int p1), some (.int p2), some (.int p3), some (.int p4), none, none]) (st' := [.long ((Int32.toInt64 p0) - 96)]) rfl ?_
  refine s_ldc2 X cl_X12_335 (dk okd_X12_pack 1 rfl) ?_
  refine s_run X ok_X12_pack 3 4 (pc' := 13) (vs' := [some (.int p0), some (.int p1), some (.int p2), some (.int p3), some (.int p4), none, none]) (st' := [.long ((((Int32.toInt64 p0) - 96) * 32) + (Int32.toInt64 p1))]) rfl ?_
  refine s_ldc2 X cl_X12_337 (dk okd_X12_pack 2 rfl) ?_
  refine s_run X ok_X12_pack 7 1 (pc' := 17) (vs' := [some (.int p0), some (.int p1), some (.int p2), some (.int p3), some (.int p4), none, none]) (st' := [.long (((((Int32.toInt64 p0) - 96) * 32) + (Int32.toInt64 p1)) - 96)]) rfl ?_
  refine s_nmJ (fun v1 => ?_)
  refine s_run X ok_X12_pack 8 2 (pc' := 20) (vs' := [some (.int p0), some (.int p1), some (.int p2), some (.int p3), some (.int p4), some (.long v1), none]) (st' := [.int p2]) rfl ?_
  refine s_jn (κ := Int64 → Option (Int64)) (fun k3 => ∀ (x2 : Int64), Jd C 7 (QJ C oL (fun _ => S)) S 41 [none, none, none, some (.int p3), some (.int p4), none, none] [.long x2] (k3 x2)) (fun x2 => ?_) (fun k3 h4 => ?_)
  · refine s_run X ok_X12_pack 18 2 (pc' := 44) (vs' := [none, none, none, some (.int p3), some (.int p4), some (.long x2), none]) (st' := [.int p3]) rfl ?_
    refine s_jn (κ := Int64 → Option (Int64)) (fun k6 => ∀ (x5 : Int64), Jd C 7 (QJ C oL (fun _ => S)) S 65 [none, none, none, none, some (.int p4), none, none] [.long x5] (k6 x5)) (fun x5 => ?_) (fun k6 h7 => ?_)
    · refine s_run X ok_X12_pack 28 2 (pc' := 69) (vs' := [none, none, none, none, some (.int p4), some (.long x5), none]) (st' := [.int p4]) rfl ?_
      refine s_if_ne (tgt := 77) X (dk okd_X12_pack 9 rfl) (by decide) ?_ ?_
      · refine s_run X ok_X12_pack 32 1 (pc' := 79) (vs' := [none, none, none, none, some (.int p4), some (.long x5), none]) (st' := [.long x5]) rfl ?_
        refine s_ldc2 X cl_X12_335 (dk okd_X12_pack 10 rfl) ?_
        refine s_run X ok_X12_pack 33 4 (pc' := 87) (vs' := [none, none, none, none, some (.int p4), some (.long x5), none]) (st' := [.long ((x5 * 32) + (Int32.toInt64 p4))]) rfl ?_
        refine s_ldc2 X cl_X12_337 (dk okd_X12_pack 11 rfl) ?_
        refine s_run X ok_X12_pack 37 1 (pc' := 91) (vs' := [none, none, none, none, some (.int p4), some (.long x5), none]) (st' := [.long (((x5 * 32) + (Int32.toInt64 p4)) - 96)]) rfl ?_
        exact s_lret X hr (dk okd_X12_pack 12 rfl) rfl rfl
      · refine s_run X ok_X12_pack 30 2 (pc' := 91) (vs' := [none, none, none, none, some (.int p4), some (.long x5), none]) (st' := [.long x5]) rfl ?_
        exact s_lret X hr (dk okd_X12_pack 12 rfl) rfl rfl
    · refine s_if_ne (tgt := 52) X (dk okd_X12_pack 6 rfl) (by decide) ?_ ?_
      · refine s_run X ok_X12_pack 22 1 (pc' := 54) (vs' := [none, none, none, some (.int p3), some (.int p4), some (.long x2), none]) (st' := [.long x2]) rfl ?_
        refine s_ldc2 X cl_X12_335 (dk okd_X12_pack 7 rfl) ?_
        refine s_run X ok_X12_pack 23 4 (pc' := 61) (vs' := [none, none, none, some (.int p3), some (.int p4), some (.long x2), none]) (st' := [.long ((x2 * 32) + (Int32.toInt64 p3))]) rfl ?_
        refine s_ldc2 X cl_X12_337 (dk okd_X12_pack 8 rfl) ?_
        refine s_run X ok_X12_pack 27 1 (pc' := 65) (vs' := [none, none, none, some (.int p3), some (.int p4), some (.long x2), none]) (st' := [.long (((x2 * 32) + (Int32.toInt64 p3)) - 96)]) rfl ?_
        exact s_less [false, false, false, false, true, false, false] rfl (h7 (((x2 * 32) + (Int32.toInt64 p3)) - 96))
      · refine s_run X ok_X12_pack 20 2 (pc' := 65) (vs' := [none, none, none, some (.int p3), some (.int p4), some (.long x2), none]) (st' := [.long x2]) rfl ?_
        exact s_less [false, false, false, false, true, false, false] rfl (h7 x2)
  · refine s_if_ne (tgt := 28) X (dk okd_X12_pack 3 rfl) (by decide) ?_ ?_
    · refine s_run X ok_X12_pack 12 1 (pc' := 30) (vs' := [some (.int p0), some (.int p1), some (.int p2), some (.int p3), some (.int p4), some (.long v1), none]) (st' := [.long v1]) rfl ?_
      refine s_ldc2 X cl_X12_335 (dk okd_X12_pack 4 rfl) ?_
      refine s_run X ok_X12_pack 13 4 (pc' := 37) (vs' := [some (.int p0), some (.int p1), some (.int p2), some (.int p3), some (.int p4), some (.long v1), none]) (st' := [.long ((v1 * 32) + (Int32.toInt64 p2))]) rfl ?_
      refine s_ldc2 X cl_X12_337 (dk okd_X12_pack 5 rfl) ?_
      refine s_run X ok_X12_pack 17 1 (pc' := 41) (vs' := [some (.int p0), some (.int p1), some (.int p2), some (.int p3), some (.int p4), some (.long v1), none]) (st' := [.long (((v1 * 32) + (Int32.toInt64 p2)) - 96)]) rfl ?_
      exact s_less [false, false, false, true, true, false, false] rfl (h4 (((v1 * 32) + (Int32.toInt64 p2)) - 96))
    · refine s_run X ok_X12_pack 10 2 (pc' := 41) (vs' := [some (.int p0), some (.int p1), some (.int p2), some (.int p3), some (.int p4), some (.long v1), none]) (st' := [.long v1]) rfl ?_
      exact s_less [false, false, false, true, true, false, false] rfl (h4 v1)
def tab_X12_statement : List En := [(0, 8, 0, 0), (4, 0, 0, 1), (8, 0, 0, (-1)), (10, 8, 0, 0), (14, 1, 0, 112), (16, 1, 0, 108), (18, 1, 0, 97), (20, 1, 0, 110), (22, 0, 0, 0), (26, 40, 0, 0), (30, 0, 0, 0), (32, 8, 0, 0), (36, 1, 0, 102), (38, 1, 0, 114), (40, 1, 0, 97), (42, 1, 0, 110), (44, 1, 0, 99), (52, 25, 0, 0), (53, 1, 0, 104), (55, 1, 0, 105), (57, 1, 0, 115), (59, 1, 0, 101), (61, 1, 0, 101), (66, 23, 0, 0), (67, 40, 0, 0), (71, 0, 0, 1), (73, 8, 0, 0), (77, 1, 0, 97), (79, 1, 0, 114), (81, 1, 0, 101), (83, 1, 0, 97), (85, 0, 0, 0), (89, 40, 0, 0), (93, 0, 0, 2), (95, 8, 0, 0), (99, 1, 0, 111), (101, 1, 0, 117), (103, 1, 0, 116), (105, 1, 0, 108), (107, 1, 0, 101), (115, 25, 0, 0), (119, 23, 0, 0), (123, 24, 0, 0), (124, 40, 0, 0), (128, 0, 0, 3), (130, 8, 0, 0), (134, 1, 0, 99), (136, 1, 0, 114), (138, 1, 0, 101), (140, 1, 0, 100), (142, 1, 0, 105), (150, 25, 0, 0), (154, 23, 0, 0), (158, 24, 0, 0), (159, 40, 0, 0), (163, 0, 0, 4), (165, 8, 0, 0), (169, 1, 0, 105), (171, 1, 0, 110), (173, 1, 0, 116), (175, 1, 0, 101), (177, 1, 0, 114), (185, 25, 0, 0), (186, 1, 0, 101), (188, 1, 0, 115), (190, 1, 0, 116), (192, 0, 0, 0), (193, 0, 0, 0), (197, 23, 0, 0), (198, 40, 0, 0), (202, 0, 0, 5), (204, 8, 0, 0), (208, 1, 0, 97), (210, 1, 0, 100), (212, 1, 0, 109), (214, 1, 0, 105), (216, 1, 0, 110), (221, 40, 0, 0), (225, 1, 0, 6), (228, 8, 0, 0), (232, 1, 0, 102), (234, 1, 0, 101), (236, 1, 0, 101), (238, 0, 0, 0), (239, 0, 0, 0), (243, 40, 0, 0), (247, 1, 0, 7), (250, 8, 0, 0), (254, 1, 0, 100), (256, 1, 0, 101), (258, 1, 0, 108), (260, 1, 0, 97), (262, 1, 0, 121), (267, 40, 0, 0), (271, 1, 0, 8), (274, 8, 0, 0), (278, 1, 0, 119), (280, 1, 0, 111), (282, 1, 0, 114), (284, 1, 0, 116), (286, 1, 0, 104), (291, 40, 0, 0), (295, 1, 0, 9), (297, 41, 301, 0), (300, 0, 0, (-1))]
theorem ok_X12_statement : tab_X12_statement.all (okE cX12_statement) = true := by decide +kernel
def ed_X12_statement : List (Nat × Instr × Nat) := [(1, .getfield 332, 3), (5, .if_icmp .eq 5, 3), (9, .ireturn, 1), (11, .getfield 322, 3), (23, .invokestatic 278, 3), (27, .ifCond .ne 5, 3), (31, .ireturn, 1), (33, .getfield 322, 3), (46, .invokestatic 278, 3), (49, .ldc2_w 351, 3), (63, .invokestatic 278, 3), (68, .ifCond .ne 5, 3), (72, .ireturn, 1), (74, .getfield 322, 3), (86, .invokestatic 278, 3), (90, .ifCond .ne 5, 3), (94, .ireturn, 1), (96, .getfield 322, 3), (109, .invokestatic 278, 3), (112, .ldc2_w 335, 3), (116, .ldc2_w 353, 3), (120, .ldc2_w 337, 3), (125, .ifCond .ne 5, 3), (129, .ireturn, 1), (131, .getfield 322, 3), (144, .invokestatic 278, 3), (147, .ldc2_w 335, 3), (151, .ldc2_w 353, 3), (155, .ldc2_w 337, 3), (160, .ifCond .ne 5, 3), (164, .ireturn, 1), (166, .getfield 322, 3), (179, .invokestatic 278, 3), (182, .ldc2_w 284, 3), (194, .invokestatic 278, 3), (199, .ifCond .ne 5, 3), (203, .ireturn, 1), (205, .getfield 322, 3), (218, .invokestatic 278, 3), (222, .ifCond .ne 6, 3), (227, .ireturn, 1), (229, .getfield 322, 3), (240, .invokestatic 278, 3), (244, .ifCond .ne 6, 3), (249, .ireturn, 1), (251, .getfield 322, 3), (264, .invokestatic 278, 3), (268, .ifCond .ne 6, 3), (273, .ireturn, 1), (275, .getfield 322, 3), (288, .invokestatic 278, 3), (292, .ifCond .ne 8, 3), (301, .ireturn, 1)]
theorem okd_X12_statement : ed_X12_statement.all (okD cX12_statement) = true := by decide +kernel
def f_X12_statement (S : St) (p0 : Nat) : Option (Int32) := lt (gI S p0 13) fun (v1 : Int32) => if v1 = 1 then (lt (gJ S p0 16) fun (v2 : Int64) => cl (f_X12_pack S 112 108 97 110 0) fun (v3 : Int64) => if v2 = v3 then (some 0) else (lt (gJ S p0 16) fun (v4 : Int64) => cl (f_X12_pack S 102 114 97 110 99) fun (v5 : Int64) => cl (f_X12_pack S 104 105 115 101 101) fun (v6 : Int64) => if v4 = ((v5 * 33554432) + v6) then (some 1) else (lt (gJ S p0 16) fun (v7 : Int64) => cl (f_X12_pack S 97 114 101 97 0) fun (v8 : Int64) => if v7 = v8 then (some 2) else (lt (gJ S p0 16) fun (v9 : Int64) => cl (f_X12_pack S 111 117 116 108 101) fun (v10 : Int64) => if v9 = (((v10 * 32) + 116) - 96) then (some 3) else (lt (gJ S p0 16) fun (v11 : Int64) => cl (f_X12_pack S 99 114 101 100 105) fun (v12 : Int64) => if v11 = (((v12 * 32) + 116) - 96) then (some 4) else (lt (gJ S p0 16) fun (v13 : Int64) => cl (f_X12_pack S 105 110 116 101 114) fun (v14 : Int64) => cl (f_X12_pack S 101 115 116 0 0) fun (v15 : Int64) => if v13 = ((v14 * 32768) + v15) then (some 5) else (lt (gJ S p0 16) fun (v16 : Int64) => cl (f_X12_pack S 97 100 109 105 110) fun (v17 : Int64) => if v16 = v17 then (some 6) else (lt (gJ S p0 16) fun (v18 : Int64) => cl (f_X12_pack S 102 101 101 0 0) fun (v19 : Int64) => if v18 = v19 then (some 7) else (lt (gJ S p0 16) fun (v20 : Int64) => cl (f_X12_pack S 100 101 108 97 121) fun (v21 : Int64) => if v20 = v21 then (some 8) else (lt (gJ S p0 16) fun (v22 : Int64) => cl (f_X12_pack S 119 111 114 116 104) fun (v23 : Int64) => if v22 = v23 then (some 9) else (some (-1)))))))))))) else (some (-1))
set_option maxHeartbeats 4000000 in
set_option maxRecDepth 100000 in
theorem c_X12_statement (S : St) (p0 : Nat) : Ct yX12_statement cX12_statement 1 (some .int) 1 26 [.ref p0] [(p0, 11)] S (f_X12_statement S p0) oI (fun _ => S) := by
  refine Ct_of RX12 rfl (by decide) (Nat.le_of_ble_eq_true rfl) 0 (vs := [some (.ref p0)]) rfl (fun C X E hr ht => ?_)
  have t0_ : tT C p0 11 := ht (p0, 11) (by simp)
  unfold f_X12_statement
  refine s_run X ok_X12_statement 0 1 (pc' := 1) (vs' := [some (.ref p0)]) (st' := [.ref p0]) rfl ?_
  refine s_getI X fl_X12_332 t0_ (dk okd_X12_statement 0 rfl) (fun v1 => ?_)
  refine s_run X ok_X12_statement 1 1 (pc' := 5) (vs' := [some (.ref p0)]) (st' := [.int 1, .int v1]) rfl ?_
  refine s_icmp_eq (tgt := 10) X (dk okd_X12_statement 1 rfl) (by decide) ?_ ?_
  · refine s_run X ok_X12_statement 3 1 (pc' := 11) (vs' := [some (.ref p0)]) (st' := [.ref p0]) rfl ?_
    refine s_getJ X fl_X12_322 t0_ (dk okd_X12_statement 3 rfl) (fun v2 => ?_)
    refine s_run X ok_X12_statement 4 5 (pc' := 23) (vs' := [some (.ref p0)]) (st' := [.int 0, .int 110, .int 97, .int 108, .int 112, .long v2]) rfl ?_
    refine s_callS (rest := [.long v2]) X E ms_X12_278 (c_X12_pack S 112 108 97 110 0) (ta0) rfl rfl (Nat.le_of_ble_eq_true rfl) (Nat.le_of_ble_eq_true rfl) (Nat.le_of_ble_eq_true rfl) (dk okd_X12_statement 4 rfl) (st' := fun v3 => [.long v3, .long v2]) (fun _ => rfl) (fun v3 => ?_)
    refine s_run X ok_X12_statement 9 1 (pc' := 27) (vs' := [some (.ref p0)]) (st' := [.int (lg_cmp v2 v3)]) rfl ?_
    refine s_lif_ne (tgt := 32) X (dk okd_X12_statement 5 rfl) (by decide) ?_ ?_
    · refine s_run X ok_X12_statement 11 1 (pc' := 33) (vs' := [some (.ref p0)]) (st' := [.ref p0]) rfl ?_
      refine s_getJ X fl_X12_322 t0_ (dk okd_X12_statement 7 rfl) (fun v4 => ?_)
      refine s_run X ok_X12_statement 12 5 (pc' := 46) (vs' := [some (.ref p0)]) (st' := [.int 99, .int 110, .int 97, .int 114, .int 102, .long v4]) rfl ?_
      refine s_callS (rest := [.long v4]) X E ms_X12_278 (c_X12_pack S 102 114 97 110 99) (ta0) rfl rfl (Nat.le_of_ble_eq_true rfl) (Nat.le_of_ble_eq_true rfl) (Nat.le_of_ble_eq_true rfl) (dk okd_X12_statement 8 rfl) (st' := fun v5 => [.long v5, .long v4]) (fun _ => rfl) (fun v5 => ?_)
      refine s_ldc2 X cl_X12_351 (dk okd_X12_statement 9 rfl) ?_
      refine s_run X ok_X12_statement 17 6 (pc' := 63) (vs' := [some (.ref p0)]) (st' := [.int 101, .int 101, .int 115, .int 105, .int 104, .long (v5 * 33554432), .long v4]) rfl ?_
      refine s_callS (rest := [.long (v5 * 33554432), .long v4]) X E ms_X12_278 (c_X12_pack S 104 105 115 101 101) (ta0) rfl rfl (Nat.le_of_ble_eq_true rfl) (Nat.le_of_ble_eq_true rfl) (Nat.le_of_ble_eq_true rfl) (dk okd_X12_statement 10 rfl) (st' := fun v6 => [.long v6, .long (v5 * 33554432), .long v4]) (fun _ => rfl) (fun v6 => ?_)
      refine s_run X ok_X12_statement 23 2 (pc' := 68) (vs' := [some (.ref p0)]) (st' := [.int (lg_cmp v4 ((v5 * 33554432) + v6))]) rfl ?_
      refine s_lif_ne (tgt := 73) X (dk okd_X12_statement 11 rfl) (by decide) ?_ ?_
      · refine s_run X ok_X12_statement 26 1 (pc' := 74) (vs' := [some (.ref p0)]) (st' := [.ref p0]) rfl ?_
        refine s_getJ X fl_X12_322 t0_ (dk okd_X12_statement 13 rfl) (fun v7 => ?_)
        refine s_run X ok_X12_statement 27 5 (pc' := 86) (vs' := [some (.ref p0)]) (st' := [.int 0, .int 97, .int 101, .int 114, .int 97, .long v7]) rfl ?_
        refine s_callS (rest := [.long v7]) X E ms_X12_278 (c_X12_pack S 97 114 101 97 0) (ta0) rfl rfl (Nat.le_of_ble_eq_true rfl) (Nat.le_of_ble_eq_true rfl) (Nat.le_of_ble_eq_true rfl) (dk okd_X12_statement 14 rfl) (st' := fun v8 => [.long v8, .long v7]) (fun _ => rfl) (fun v8 => ?_)
        refine s_run X ok_X12_statement 32 1 (pc' := 90) (vs' := [some (.ref p0)]) (st' := [.int (lg_cmp v7 v8)]) rfl ?_
        refine s_lif_ne (tgt := 95) X (dk okd_X12_statement 15 rfl) (by decide) ?_ ?_
        · refine s_run X ok_X12_statement 34 1 (pc' := 96) (vs' := [some (.ref p0)]) (st' := [.ref p0]) rfl ?_
          refine s_getJ X fl_X12_322 t0_ (dk okd_X12_statement 17 rfl) (fun v9 => ?_)
          refine s_run X ok_X12_statement 35 5 (pc' := 109) (vs' := [some (.ref p0)]) (st' := [.int 101, .int 108, .int 116, .int 117, .int 111, .long v9]) rfl ?_
          refine s_callS (rest := [.long v9]) X E ms_X12_278 (c_X12_pack S 111 117 116 108 101) (ta0) rfl rfl (Nat.le_of_ble_eq_true rfl) (Nat.le_of_ble_eq_true rfl) (Nat.le_of_ble_eq_true rfl) (dk okd_X12_statement 18 rfl) (st' := fun v10 => [.long v10, .long v9]) (fun _ => rfl) (fun v10 => ?_)
          refine s_ldc2 X cl_X12_335 (dk okd_X12_statement 19 rfl) ?_
          refine s_run X ok_X12_statement 40 1 (pc' := 116) (vs' := [some (.ref p0)]) (st' := [.long (v10 * 32), .long v9]) rfl ?_
          refine s_ldc2 X cl_X12_353 (dk okd_X12_statement 20 rfl) ?_
          refine s_run X ok_X12_statement 41 1 (pc' := 120) (vs' := [some (.ref p0)]) (st' := [.long ((v10 * 32) + 116), .long v9]) rfl ?_
          refine s_ldc2 X cl_X12_337 (dk okd_X12_statement 21 rfl) ?_
          refine s_run X ok_X12_statement 42 2 (pc' := 125) (vs' := [some (.ref p0)]) (st' := [.int (lg_cmp v9 (((v10 * 32) + 116) - 96))]) rfl ?_
          refine s_lif_ne (tgt := 130) X (dk okd_X12_statement 22 rfl) (by decide) ?_ ?_
          · refine s_run X ok_X12_statement 45 1 (pc' := 131) (vs' := [some (.ref p0)]) (st' := [.ref p0]) rfl ?_
            refine s_getJ X fl_X12_322 t0_ (dk okd_X12_statement 24 rfl) (fun v11 => ?_)
            refine s_run X ok_X12_statement 46 5 (pc' := 144) (vs' := [some (.ref p0)]) (st' := [.int 105, .int 100, .int 101, .int 114, .int 99, .long v11]) rfl ?_
            refine s_callS (rest := [.long v11]) X E ms_X12_278 (c_X12_pack S 99 114 101 100 105) (ta0) rfl rfl (Nat.le_of_ble_eq_true rfl) (Nat.le_of_ble_eq_true rfl) (Nat.le_of_ble_eq_true rfl) (dk okd_X12_statement 25 rfl) (st' := fun v12 => [.long v12, .long v11]) (fun _ => rfl) (fun v12 => ?_)
            refine s_ldc2 X cl_X12_335 (dk okd_X12_statement 26 rfl) ?_
            refine s_run X ok_X12_statement 51 1 (pc' := 151) (vs' := [some (.ref p0)]) (st' := [.long (v12 * 32), .long v11]) rfl ?_
            refine s_ldc2 X cl_X12_353 (dk okd_X12_statement 27 rfl) ?_
            refine s_run X ok_X12_statement 52 1 (pc' := 155) (vs' := [some (.ref p0)]) (st' := [.long ((v12 * 32) + 116), .long v11]) rfl ?_
            refine s_ldc2 X cl_X12_337 (dk okd_X12_statement 28 rfl) ?_
            refine s_run X ok_X12_statement 53 2 (pc' := 160) (vs' := [some (.ref p0)]) (st' := [.int (lg_cmp v11 (((v12 * 32) + 116) - 96))]) rfl ?_
            refine s_lif_ne (tgt := 165) X (dk okd_X12_statement 29 rfl) (by decide) ?_ ?_
            · refine s_run X ok_X12_statement 56 1 (pc' := 166) (vs' := [some (.ref p0)]) (st' := [.ref p0]) rfl ?_
              refine s_getJ X fl_X12_322 t0_ (dk okd_X12_statement 31 rfl) (fun v13 => ?_)
              refine s_run X ok_X12_statement 57 5 (pc' := 179) (vs' := [some (.ref p0)]) (st' := [.int 114, .int 101, .int 116, .int 110, .int 105, .long v13]) rfl ?_
              refine s_callS (rest := [.long v13]) X E ms_X12_278 (c_X12_pack S 105 110 116 101 114) (ta0) rfl rfl (Nat.le_of_ble_eq_true rfl) (Nat.le_of_ble_eq_true rfl) (Nat.le_of_ble_eq_true rfl) (dk okd_X12_statement 32 rfl) (st' := fun v14 => [.long v14, .long v13]) (fun _ => rfl) (fun v14 => ?_)
              refine s_ldc2 X cl_X12_284 (dk okd_X12_statement 33 rfl) ?_
              refine s_run X ok_X12_statement 62 6 (pc' := 194) (vs' := [some (.ref p0)]) (st' := [.int 0, .int 0, .int 116, .int 115, .int 101, .long (v14 * 32768), .long v13]) rfl ?_
              refine s_callS (rest := [.long (v14 * 32768), .long v13]) X E ms_X12_278 (c_X12_pack S 101 115 116 0 0) (ta0) rfl rfl (Nat.le_of_ble_eq_true rfl) (Nat.le_of_ble_eq_true rfl) (Nat.le_of_ble_eq_true rfl) (dk okd_X12_statement 34 rfl) (st' := fun v15 => [.long v15, .long (v14 * 32768), .long v13]) (fun _ => rfl) (fun v15 => ?_)
              refine s_run X ok_X12_statement 68 2 (pc' := 199) (vs' := [some (.ref p0)]) (st' := [.int (lg_cmp v13 ((v14 * 32768) + v15))]) rfl ?_
              refine s_lif_ne (tgt := 204) X (dk okd_X12_statement 35 rfl) (by decide) ?_ ?_
              · refine s_run X ok_X12_statement 71 1 (pc' := 205) (vs' := [some (.ref p0)]) (st' := [.ref p0]) rfl ?_
                refine s_getJ X fl_X12_322 t0_ (dk okd_X12_statement 37 rfl) (fun v16 => ?_)
                refine s_run X ok_X12_statement 72 5 (pc' := 218) (vs' := [some (.ref p0)]) (st' := [.int 110, .int 105, .int 109, .int 100, .int 97, .long v16]) rfl ?_
                refine s_callS (rest := [.long v16]) X E ms_X12_278 (c_X12_pack S 97 100 109 105 110) (ta0) rfl rfl (Nat.le_of_ble_eq_true rfl) (Nat.le_of_ble_eq_true rfl) (Nat.le_of_ble_eq_true rfl) (dk okd_X12_statement 38 rfl) (st' := fun v17 => [.long v17, .long v16]) (fun _ => rfl) (fun v17 => ?_)
                refine s_run X ok_X12_statement 77 1 (pc' := 222) (vs' := [some (.ref p0)]) (st' := [.int (lg_cmp v16 v17)]) rfl ?_
                refine s_lif_ne (tgt := 228) X (dk okd_X12_statement 39 rfl) (by decide) ?_ ?_
                · refine s_run X ok_X12_statement 79 1 (pc' := 229) (vs' := [some (.ref p0)]) (st' := [.ref p0]) rfl ?_
                  refine s_getJ X fl_X12_322 t0_ (dk okd_X12_statement 41 rfl) (fun v18 => ?_)
                  refine s_run X ok_X12_statement 80 5 (pc' := 240) (vs' := [some (.ref p0)]) (st' := [.int 0, .int 0, .int 101, .int 101, .int 102, .long v18]) rfl ?_
                  refine s_callS (rest := [.long v18]) X E ms_X12_278 (c_X12_pack S 102 101 101 0 0) (ta0) rfl rfl (Nat.le_of_ble_eq_true rfl) (Nat.le_of_ble_eq_true rfl) (Nat.le_of_ble_eq_true rfl) (dk okd_X12_statement 42 rfl) (st' := fun v19 => [.long v19, .long v18]) (fun _ => rfl) (fun v19 => ?_)
                  refine s_run X ok_X12_statement 85 1 (pc' := 244) (vs' := [some (.ref p0)]) (st' := [.int (lg_cmp v18 v19)]) rfl ?_
                  refine s_lif_ne (tgt := 250) X (dk okd_X12_statement 43 rfl) (by decide) ?_ ?_
                  · refine s_run X ok_X12_statement 87 1 (pc' := 251) (vs' := [some (.ref p0)]) (st' := [.ref p0]) rfl ?_
                    refine s_getJ X fl_X12_322 t0_ (dk okd_X12_statement 45 rfl) (fun v20 => ?_)
                    refine s_run X ok_X12_statement 88 5 (pc' := 264) (vs' := [some (.ref p0)]) (st' := [.int 121, .int 97, .int 108, .int 101, .int 100, .long v20]) rfl ?_
                    refine s_callS (rest := [.long v20]) X E ms_X12_278 (c_X12_pack S 100 101 108 97 121) (ta0) rfl rfl (Nat.le_of_ble_eq_true rfl) (Nat.le_of_ble_eq_true rfl) (Nat.le_of_ble_eq_true rfl) (dk okd_X12_statement 46 rfl) (st' := fun v21 => [.long v21, .long v20]) (fun _ => rfl) (fun v21 => ?_)
                    refine s_run X ok_X12_statement 93 1 (pc' := 268) (vs' := [some (.ref p0)]) (st' := [.int (lg_cmp v20 v21)]) rfl ?_
                    refine s_lif_ne (tgt := 274) X (dk okd_X12_statement 47 rfl) (by decide) ?_ ?_
                    · refine s_run X ok_X12_statement 95 1 (pc' := 275) (vs' := [some (.ref p0)]) (st' := [.ref p0]) rfl ?_
                      refine s_getJ X fl_X12_322 t0_ (dk okd_X12_statement 49 rfl) (fun v22 => ?_)
                      refine s_run X ok_X12_statement 96 5 (pc' := 288) (vs' := [some (.ref p0)]) (st' := [.int 104, .int 116, .int 114, .int 111, .int 119, .long v22]) rfl ?_
                      refine s_callS (rest := [.long v22]) X E ms_X12_278 (c_X12_pack S 119 111 114 116 104) (ta0) rfl rfl (Nat.le_of_ble_eq_true rfl) (Nat.le_of_ble_eq_true rfl) (Nat.le_of_ble_eq_true rfl) (dk okd_X12_statement 50 rfl) (st' := fun v23 => [.long v23, .long v22]) (fun _ => rfl) (fun v23 => ?_)
                      refine s_run X ok_X12_statement 101 1 (pc' := 292) (vs' := [some (.ref p0)]) (st' := [.int (lg_cmp v22 v23)]) rfl ?_
                      refine s_lif_ne (tgt := 300) X (dk okd_X12_statement 51 rfl) (by decide) ?_ ?_
                      · refine s_run X ok_X12_statement 104 1 (pc' := 301) (vs' := [some (.ref p0)]) (st' := [.int (-1)]) rfl ?_
                        exact s_iret X hr (dk okd_X12_statement 52 rfl) rfl rfl
                      · refine s_run X ok_X12_statement 102 2 (pc' := 301) (vs' := [some (.ref p0)]) (st' := [.int 9]) rfl ?_
                        exact s_iret X hr (dk okd_X12_statement 52 rfl) rfl rfl
                    · refine s_run X ok_X12_statement 94 1 (pc' := 273) (vs' := [some (.ref p0)]) (st' := [.int 8]) rfl ?_
                      exact s_iret X hr (dk okd_X12_statement 48 rfl) rfl rfl
                  · refine s_run X ok_X12_statement 86 1 (pc' := 249) (vs' := [some (.ref p0)]) (st' := [.int 7]) rfl ?_
                    exact s_iret X hr (dk okd_X12_statement 44 rfl) rfl rfl
                · refine s_run X ok_X12_statement 78 1 (pc' := 227) (vs' := [some (.ref p0)]) (st' := [.int 6]) rfl ?_
                  exact s_iret X hr (dk okd_X12_statement 40 rfl) rfl rfl
              · refine s_run X ok_X12_statement 70 1 (pc' := 203) (vs' := [some (.ref p0)]) (st' := [.int 5]) rfl ?_
                exact s_iret X hr (dk okd_X12_statement 36 rfl) rfl rfl
            · refine s_run X ok_X12_statement 55 1 (pc' := 164) (vs' := [some (.ref p0)]) (st' := [.int 4]) rfl ?_
              exact s_iret X hr (dk okd_X12_statement 30 rfl) rfl rfl
          · refine s_run X ok_X12_statement 44 1 (pc' := 129) (vs' := [some (.ref p0)]) (st' := [.int 3]) rfl ?_
            exact s_iret X hr (dk okd_X12_statement 23 rfl) rfl rfl
        · refine s_run X ok_X12_statement 33 1 (pc' := 94) (vs' := [some (.ref p0)]) (st' := [.int 2]) rfl ?_
          exact s_iret X hr (dk okd_X12_statement 16 rfl) rfl rfl
      · refine s_run X ok_X12_statement 25 1 (pc' := 72) (vs' := [some (.ref p0)]) (st' := [.int 1]) rfl ?_
        exact s_iret X hr (dk okd_X12_statement 12 rfl) rfl rfl
    · refine s_run X ok_X12_statement 10 1 (pc' := 31) (vs' := [some (.ref p0)]) (st' := [.int 0]) rfl ?_
      exact s_iret X hr (dk okd_X12_statement 6 rfl) rfl rfl
  · refine s_run X ok_X12_statement 2 1 (pc' := 9) (vs' := [some (.ref p0)]) (st' := [.int (-1)]) rfl ?_
    exact s_iret X hr (dk okd_X12_statement 2 rfl) rfl rfl
def tab_X12_named : List En := [(0, 0, 0, 0), (1, 11, 4, 0), (3, 5, 4, 0), (5, 31, 0, 0), (6, 8, 0, 0), (10, 2, 0, 5054), (13, 4, 1, 0), (14, 19, 0, 0), (15, 0, 0, 2), (16, 17, 0, 0), (18, 40, 0, 0), (22, 8, 0, 0), (26, 2, 0, 5054), (29, 4, 1, 0), (30, 19, 0, 0), (31, 1, 0, 58), (33, 17, 0, 0), (34, 1, 0, 16), (36, 5, 4, 0), (38, 19, 0, 0), (39, 17, 0, 0), (40, 0, 0, 0), (41, 17, 0, 0), (43, 6, 2, 0), (44, 40, 0, 0), (48, 5, 4, 0), (51, 16, 4, 1), (54, 41, 3, 0), (57, 0, 0, (-1))]
theorem ok_X12_named : tab_X12_named.all (okE cX12_named) = true := by decide +kernel
def ed_X12_named : List (Nat × Instr × Nat) := [(7, .getfield 9, 3), (17, .laload, 1), (19, .ifCond .ge 38, 3), (23, .getfield 9, 3), (42, .laload, 1), (45, .ifCond .ne 6, 3), (50, .ireturn, 1), (58, .ireturn, 1)]
theorem okd_X12_named : ed_X12_named.all (okD cX12_named) = true := by decide +kernel
def f_X12_named (S : St) (p0 : Nat) (p1 : Int32) (p2 : Int64) : Option (Int32) := jn (κ := Int32 → Option (Int32)) (fun x1 => some x1) fun k2 => lp (κ := Int32 → Option (Int32)) (fun _ => none) (fun k5 x4 => lt (gR S p0 0) fun (a7 : Nat) => ldJ S a7 ((5054 * p1) + 2) fun (v9 : Int64) => if v9 ≤ (Int32.toInt64 x4) then (some (-1)) else (lt (gR S p0 0) fun (a10 : Nat) => ldJ S a10 ((((5054 * p1) + 58) + (16 * x4)) + 0) fun (v12 : Int64) => if v12 = p2 then (k2 x4) else (k5 (x4 + 1)))) FU 0
set_option maxHeartbeats 4000000 in
set_option maxRecDepth 100000 in
theorem c_X12_named (S : St) (p0 : Nat) (p1 : Int32) (p2 : Int64) : Ct yX12_named cX12_named 5 (some .int) 0 0 [.ref p0, .int p1, .long p2] [(p0, 11)] S (f_X12_named S p0 p1 p2) oI (fun _ => S) := by
  refine Ct_of RX12 rfl (by decide) (Nat.le_of_ble_eq_true rfl) 1 (vs := [some (.ref p0), some (.int p1), some (.long p2), none, none]) rfl (fun C X E hr ht => ?_)
  have t0_ : tT C p0 11 := ht (p0, 11) (by simp)
  unfold f_X12_named
  refine s_run X ok_X12_named 0 2 (pc' := 3) (vs' := [some (.ref p0), some (.int p1), some (.long p2), none, some (.int 0)]) (st' := []) rfl ?_
  refine s_jn (κ := Int32 → Option (Int32)) (fun k2 => ∀ (x1 : Int32), Jd C 5 (QJ C oI (fun _ => S)) S 48 [none, none, none, none, some (.int x1)] [] (k2 x1)) (fun x1 => ?_) (fun k2 h3 => ?_)
  · refine s_run X ok_X12_named 25 1 (pc' := 50) (vs' := [none, none, none, none, some (.int x1)]) (st' := [.int x1]) rfl ?_
    exact s_iret X hr (dk okd_X12_named 6 rfl) rfl rfl
  · refine s_lp (κ := Int32 → Option (Int32)) (fun k5 => ∀ (x4 : Int32), Jd C 5 (QJ C oI (fun _ => S)) S 3 [some (.ref p0), some (.int p1), some (.long p2), none, some (.int x4)] [] (k5 x4)) (fun _ => s_none) (fun k5 h6 x4 => ?_) FU 0
    refine s_run X ok_X12_named 2 3 (pc' := 7) (vs' := [some (.ref p0), some (.int p1), some (.long p2), none, some (.int x4)]) (st' := [.ref p0, .long (Int32.toInt64 x4)]) rfl ?_
    refine s_getR X fl_X12_9 t0_ (dk okd_X12_named 0 rfl) (fun a7 (t8 : tT C a7 14) => ?_)
    refine s_run X ok_X12_named 5 5 (pc' := 17) (vs' := [some (.ref p0), some (.int p1), some (.long p2), none, some (.int x4)]) (st' := [.int ((5054 * p1) + 2), .ref a7, .long (Int32.toInt64 x4)]) rfl ?_
    refine s_lald X t8 (dk okd_X12_named 1 rfl) (fun v9 => ?_)
    refine s_run X ok_X12_named 10 1 (pc' := 19) (vs' := [some (.ref p0), some (.int p1), some (.long p2), none, some (.int x4)]) (st' := [.int (lg_cmp (Int32.toInt64 x4) v9)]) rfl ?_
    refine s_lif_ge (tgt := 57) X (dk okd_X12_named 2 rfl) (by decide) ?_ ?_
    · refine s_run X ok_X12_named 28 1 (pc' := 58) (vs' := [some (.ref p0), some (.int p1), some (.long p2), none, some (.int x4)]) (st' := [.int (-1)]) rfl ?_
      exact s_iret X hr (dk okd_X12_named 7 rfl) rfl rfl
    · refine s_run X ok_X12_named 11 1 (pc' := 23) (vs' := [some (.ref p0), some (.int p1), some (.long p2), none, some (.int x4)]) (st' := [.ref p0]) rfl ?_
      refine s_getR X fl_X12_9 t0_ (dk okd_X12_named 3 rfl) (fun a10 (t11 : tT C a10 14) => ?_)
      refine s_run X ok_X12_named 12 11 (pc' := 42) (vs' := [some (.ref p0), some (.int p1), some (.long p2), none, some (.int x4)]) (st' := [.int ((((5054 * p1) + 58) + (16 * x4)) + 0), .ref a10]) rfl ?_
      refine s_lald X t11 (dk okd_X12_named 4 rfl) (fun v12 => ?_)
      refine s_run X ok_X12_named 23 2 (pc' := 45) (vs' := [some (.ref p0), some (.int p1), some (.long p2), none, some (.int x4)]) (st' := [.int (lg_cmp v12 p2)]) rfl ?_
      refine s_lif_ne (tgt := 51) X (dk okd_X12_named 5 rfl) (by decide) ?_ ?_
      · refine s_run X ok_X12_named 26 2 (pc' := 3) (vs' := [some (.ref p0), some (.int p1), some (.long p2), none, some (.int (x4 + 1))]) (st' := []) rfl ?_
        exact h6 (x4 + 1)
      · exact s_less [false, false, false, false, true] rfl (h3 x4)
def tab_X12_readPlan : List En := [(0, 8, 0, 0), (4, 2, 0, 15163), (11, 40, 0, 0), (15, 8, 0, 0), (16, 0, 0, 4), (21, 8, 0, 0), (25, 2, 0, 15176), (28, 1, 0, 11), (30, 8, 0, 0), (34, 2, 0, 15163), (38, 32, 0, 0), (39, 19, 0, 0), (40, 17, 0, 0), (41, 10, 1, 0), (42, 8, 0, 0), (43, 4, 1, 0), (44, 0, 0, 0), (45, 17, 0, 0), (46, 0, 0, 0), (47, 2, 0, 1000), (50, 3, 1, 0), (57, 8, 0, 0), (58, 4, 1, 0), (59, 0, 0, 1), (60, 17, 0, 0), (61, 0, 0, 0), (62, 2, 0, 3000), (65, 3, 1, 0), (72, 0, 0, 0), (74, 0, 0, 1), (75, 10, 2, 0), (76, 0, 0, 0), (77, 10, 3, 0), (78, 8, 0, 0), (82, 0, 0, 2), (86, 8, 0, 0), (90, 4, 2, 0), (91, 31, 0, 0), (101, 8, 0, 0), (102, 0, 0, 2), (107, 4, 3, 0), (108, 0, 0, 4), (112, 8, 0, 0), (113, 0, 0, 4), (118, 8, 0, 0), (122, 32, 0, 0), (123, 0, 0, 1), (124, 17, 0, 0), (125, 10, 2, 0), (126, 8, 0, 0), (130, 4, 1, 0), (131, 0, 0, 3), (132, 17, 0, 0), (133, 4, 3, 0), (134, 17, 0, 0), (135, 8, 0, 0), (142, 25, 0, 0), (144, 8, 0, 0), (148, 8, 0, 0), (149, 4, 1, 0), (150, 1, 0, 7), (152, 17, 0, 0), (153, 4, 3, 0), (154, 17, 0, 0), (155, 0, 0, 0), (156, 2, 0, 3000), (159, 3, 1, 0), (166, 0, 0, 0), (168, 8, 0, 0), (172, 4, 1, 0), (173, 0, 0, 2), (174, 17, 0, 0), (175, 37, 0, 0), (177, 3, 1, 0), (178, 23, 0, 0), (180, 16, 3, 1), (183, 41, 78, 0), (186, 8, 0, 0), (190, 2, 0, 15163), (193, 37, 0, 0), (195, 3, 1, 0), (196, 23, 0, 0), (198, 8, 0, 0)]
theorem ok_X12_readPlan : tab_X12_readPlan.all (okE cX12_readPlan) = true := by decide +kernel
def ed_X12_readPlan : List (Nat × Instr × Nat) := [(1, .getfield 9, 3), (7, .laload, 1), (8, .ldc2_w 222, 3), (12, .ifCond .ne 9, 3), (17, .invokevirtual 339, 3), (20, .ireturn, 1), (22, .invokevirtual 345, 3), (31, .getfield 9, 3), (37, .laload, 1), (51, .invokevirtual 355, 3), (54, .ifCond .eq 18, 3), (66, .invokevirtual 355, 3), (69, .ifCond .ne 5, 3), (73, .ireturn, 1), (79, .getfield 332, 3), (83, .if_icmp .ne 103, 3), (87, .getfield 322, 3), (92, .ldc2_w 359, 3), (95, .invokestatic 53, 3), (98, .ifCond .ne 9, 3), (103, .invokevirtual 339, 3), (106, .ireturn, 1), (109, .if_icmp .ne 9, 3), (114, .invokevirtual 339, 3), (117, .ireturn, 1), (119, .getfield 322, 3), (127, .getfield 9, 3), (136, .getfield 322, 3), (139, .ldc2_w 144, 3), (143, .lastore, 1), (145, .invokevirtual 345, 3), (160, .invokevirtual 355, 3), (163, .ifCond .ne 5, 3), (167, .ireturn, 1), (169, .getfield 9, 3), (176, .laload, 1), (179, .lastore, 1), (187, .getfield 9, 3), (194, .laload, 1), (197, .lastore, 1), (199, .invokevirtual 361, 3), (202, .ireturn, 1)]
theorem okd_X12_readPlan : ed_X12_readPlan.all (okD cX12_readPlan) = true := by decide +kernel
def f_X12_readPlan (S : St) (p0 : Nat) : Option (Int32 × St) := lt (gR S p0 0) fun (a1 : Nat) => ldJ S a1 15163 fun (v3 : Int64) => if v3 = 4 then (cl (f_X12_fail S p0 4) fun (o47 : Int32 × St) => zc o47.1 (some (o47.1, o47.2))) else (cl (f_X12_advance S p0) fun (S4 : St) => lt (gR S4 p0 0) fun (a5 : Nat) => ldJ S4 a5 15163 fun (v7 : Int64) => lt (15176 + (11 * (Int64.toInt32 v7))) fun (v8 : Int32) => cl (f_X12_readInto S4 p0 (v8 + 0) 0 1000 1) fun (o9 : Int32 × St) => if o9.1 = 0 then (some (0, o9.2)) else (cl (f_X12_readInto o9.2 p0 (v8 + 1) 0 3000 1) fun (o10 : Int32 × St) => if o10.1 = 0 then (some (0, o10.2)) else (jn (κ := St → Option (Int32 × St)) (fun S11 => cl (f_X12_fail S11 p0 4) fun (o14 : Int32 × St) => zc o14.1 (some (o14.1, o14.2))) fun k12 => jn (κ := St → Option (Int32 × St)) (fun S15 => lt (gR S15 p0 0) fun (a18 : Nat) => ldJ S15 a18 15163 fun (v20 : Int64) => stJ S15 a18 15163 (v20 + 1) fun (S21 : St) => cl (f_X12_readEnd S21 p0) fun (o22 : Int32 × St) => zc o22.1 (some (o22.1, o22.2))) fun k16 => jn (κ := St → Option (Int32 × St)) (fun S23 => cl (f_X12_fail S23 p0 2) fun (o26 : Int32 × St) => zc o26.1 (some (o26.1, o26.2))) fun k24 => lp (κ := Int32 → Int32 → St → Option (Int32 × St)) (fun _ _ _ => none) (fun k30 x27 x28 S29 => lt (gI S29 p0 13) fun (v32 : Int32) => if v32 = 2 then (lt (gJ S29 p0 16) fun (v33 : Int64) => cl (f_X12_inRange S29 v33 (Int32.toInt64 x27) 99999) fun (v34 : Int32) => if v34 = 0 then (k24 S29) else (if x28 = 4 then (k12 S29) else (lt (gJ S29 p0 16) fun (v35 : Int64) => lt ((Int64.toInt32 v35) + 1) fun (v36 : Int32) => lt (gR S29 p0 0) fun (a37 : Nat) => lt (gJ S29 p0 16) fun (v39 : Int64) => stJ S29 a37 ((v8 + 3) + x28) (v39 * 100) fun (S40 : St) => cl (f_X12_advance S40 p0) fun (S41 : St) => cl (f_X12_readInto S41 p0 ((v8 + 7) + x28) 0 3000 1) fun (o42 : Int32 × St) => if o42.1 = 0 then (some (0, o42.2)) else (lt (gR o42.2 p0 0) fun (a43 : Nat) => ldJ o42.2 a43 (v8 + 2) fun (v45 : Int64) => stJ o42.2 a43 (v8 + 2) (v45 + 1) fun (S46 : St) => k30 v36 (x28 + 1) S46)))) else (k16 S29)) FU 1 0 o10.2)))
set_option maxHeartbeats 4000000 in
set_option maxRecDepth 100000 in
theorem c_X12_readPlan (S : St) (p0 : Nat) : Ct yX12_readPlan cX12_readPlan 4 (some .boolean) 5 113 [.ref p0] [(p0, 11)] S (f_X12_readPlan S p0) oIS sS := by
  refine Ct_of RX12 rfl (by decide) (Nat.le_of_ble_eq_true rfl) 3 (vs := [some (.ref p0), none, none, none]) rfl (fun C X E hr ht => ?_)
  have t0_ : tT C p0 11 := ht (p0, 11) (by simp)
  unfold f_X12_readPlan
  refine s_run X ok_X12_readPlan 0 1 (pc' := 1) (vs' := [some (.ref p0), none, none, none]) (st' := [.ref p0]) rfl ?_
  refine s_getR X fl_X12_9 t0_ (dk okd_X12_readPlan 0 rfl) (fun a1 (t2 : tT C a1 14) => ?_)
  refine s_run X ok_X12_readPlan 1 1 (pc' := 7) (vs' := [some (.ref p0), none, none, none]) (st' := [.int 15163, .ref a1]) rfl ?_
  refine s_lald X t2 (dk okd_X12_readPlan 1 rfl) (fun v3 => ?_)
  refine s_ldc2 X cl_X12_222 (dk okd_X12_readPlan 2 rfl) ?_
  refine s_run X ok_X12_readPlan 2 1 (pc' := 12) (vs' := [some (.ref p0), none, none, none]) (st' := [.int (lg_cmp v3 4)]) rfl ?_
  refine s_lif_ne (tgt := 21) X (dk okd_X12_readPlan 3 rfl) (by decide) ?_ ?_
  · refine s_run X ok_X12_readPlan 5 1 (pc' := 22) (vs' := [some (.ref p0), none, none, none]) (st' := [.ref p0]) rfl ?_
    refine s_callV (rest := []) X E mv_X12_345 (c_X12_advance S p0) (ta1 t0_) rfl (by decide) t0_ rfl rfl (Nat.le_of_ble_eq_true rfl) (Nat.le_of_ble_eq_true rfl) (Nat.le_of_ble_eq_true rfl) (dk okd_X12_readPlan 6 rfl) (st' := fun S4 => []) (fun _ => rfl) (fun S4 => ?_)
    refine s_run X ok_X12_readPlan 6 3 (pc' := 31) (vs' := [some (.ref p0), none, none, none]) (st' := [.ref p0, .int 11, .int 15176]) rfl ?_
    refine s_getR X fl_X12_9 t0_ (dk okd_X12_readPlan 7 rfl) (fun a5 (t6 : tT C a5 14) => ?_)
    refine s_run X ok_X12_readPlan 9 1 (pc' := 37) (vs' := [some (.ref p0), none, none, none]) (st' := [.int 15163, .ref a5, .int 11, .int 15176]) rfl ?_
    refine s_lald X t6 (dk okd_X12_readPlan 8 rfl) (fun v7 => ?_)
    refine s_run X ok_X12_readPlan 10 3 (pc' := 41) (vs' := [some (.ref p0), none, none, none]) (st' := [.int (15176 + (11 * (Int64.toInt32 v7)))]) rfl ?_
    refine s_nmI (fun v8 => ?_)
    refine s_run X ok_X12_readPlan 13 8 (pc' := 51) (vs' := [some (.ref p0), some (.int v8), none, none]) (st' := [.long 1, .int 1000, .int 0, .int (v8 + 0), .ref p0]) rfl ?_
    refine s_callV (rest := []) X E mv_X12_355 (c_X12_readInto S4 p0 (v8 + 0) 0 1000 1) (ta1 t0_) rfl (by decide) t0_ rfl rfl (Nat.le_of_ble_eq_true rfl) (Nat.le_of_ble_eq_true rfl) (Nat.le_of_ble_eq_true rfl) (dk okd_X12_readPlan 9 rfl) (st' := fun o9 => [.int o9.1]) (fun _ => rfl) (fun o9 => ?_)
    refine s_if_eq (tgt := 72) X (dk okd_X12_readPlan 10 rfl) (by decide) ?_ ?_
    · refine s_run X ok_X12_readPlan 28 1 (pc' := 73) (vs' := [some (.ref p0), some (.int v8), none, none]) (st' := [.int 0]) rfl ?_
      exact s_zret0 X hr (dk okd_X12_readPlan 13 rfl) (by decide) rfl rfl
    · refine s_run X ok_X12_readPlan 21 7 (pc' := 66) (vs' := [some (.ref p0), some (.int v8), none, none]) (st' := [.long 1, .int 3000, .int 0, .int (v8 + 1), .ref p0]) rfl ?_
      refine s_callV (rest := []) X E mv_X12_355 (c_X12_readInto o9.2 p0 (v8 + 1) 0 3000 1) (ta1 t0_) rfl (by decide) t0_ rfl rfl (Nat.le_of_ble_eq_true rfl) (Nat.le_of_ble_eq_true rfl) (Nat.le_of_ble_eq_true rfl) (dk okd_X12_readPlan 11 rfl) (st' := fun o10 => [.int o10.1]) (fun _ => rfl) (fun o10 => ?_)
      refine s_if_ne (tgt := 74) X (dk okd_X12_readPlan 12 rfl) (by decide) ?_ ?_
      · refine s_run X ok_X12_readPlan 29 4 (pc' := 78) (vs' := [some (.ref p0), some (.int v8), some (.int 1), some (.int 0)]) (st' := []) rfl ?_
        refine s_jn (κ := St → Option (Int32 × St)) (fun k12 => ∀ (S11 : St), Jd C 4 (QJ C oIS sS) S11 112 [some (.ref p0), none, none, none] [] (k12 S11)) (fun S11 => ?_) (fun k12 h13 => ?_)
        · refine s_run X ok_X12_readPlan 42 2 (pc' := 114) (vs' := [some (.ref p0), none, none, none]) (st' := [.int 4, .ref p0]) rfl ?_
          refine s_callV (rest := []) X E mv_X12_339 (c_X12_fail S11 p0 4) (ta1 t0_) rfl (by decide) t0_ rfl rfl (Nat.le_of_ble_eq_true rfl) (Nat.le_of_ble_eq_true rfl) (Nat.le_of_ble_eq_true rfl) (dk okd_X12_readPlan 23 rfl) (st' := fun o14 => [.int o14.1]) (fun _ => rfl) (fun o14 => ?_)
          exact s_zret X hr (dk okd_X12_readPlan 24 rfl) rfl rfl
        · refine s_jn (κ := St → Option (Int32 × St)) (fun k16 => ∀ (S15 : St), Jd C 4 (QJ C oIS sS) S15 186 [some (.ref p0), none, none, none] [] (k16 S15)) (fun S15 => ?_) (fun k16 h17 => ?_)
          · refine s_run X ok_X12_readPlan 77 1 (pc' := 187) (vs' := [some (.ref p0), none, none, none]) (st' := [.ref p0]) rfl ?_
            refine s_getR X fl_X12_9 t0_ (dk okd_X12_readPlan 37 rfl) (fun a18 (t19 : tT C a18 14) => ?_)
            refine s_run X ok_X12_readPlan 78 2 (pc' := 194) (vs' := [some (.ref p0), none, none, none]) (st' := [.int 15163, .ref a18, .int 15163, .ref a18]) rfl ?_
            refine s_lald X t19 (dk okd_X12_readPlan 38 rfl) (fun v20 => ?_)
            refine s_run X ok_X12_readPlan 80 2 (pc' := 197) (vs' := [some (.ref p0), none, none, none]) (st' := [.long (v20 + 1), .int 15163, .ref a18]) rfl ?_
            refine s_last X t19 (dk okd_X12_readPlan 39 rfl) (fun S21 => ?_)
            refine s_run X ok_X12_readPlan 82 1 (pc' := 199) (vs' := [some (.ref p0), none, none, none]) (st' := [.ref p0]) rfl ?_
            refine s_callV (rest := []) X E mv_X12_361 (c_X12_readEnd S21 p0) (ta1 t0_) rfl (by decide) t0_ rfl rfl (Nat.le_of_ble_eq_true rfl) (Nat.le_of_ble_eq_true rfl) (Nat.le_of_ble_eq_true rfl) (dk okd_X12_readPlan 40 rfl) (st' := fun o22 => [.int o22.1]) (fun _ => rfl) (fun o22 => ?_)
            exact s_zret X hr (dk okd_X12_readPlan 41 rfl) rfl rfl
          · refine s_jn (κ := St → Option (Int32 × St)) (fun k24 => ∀ (S23 : St), Jd C 4 (QJ C oIS sS) S23 101 [some (.ref p0), none, none, none] [] (k24 S23)) (fun S23 => ?_) (fun k24 h25 => ?_)
            · refine s_run X ok_X12_readPlan 38 2 (pc' := 103) (vs' := [some (.ref p0), none, none, none]) (st' := [.int 2, .ref p0]) rfl ?_
              refine s_callV (rest := []) X E mv_X12_339 (c_X12_fail S23 p0 2) (ta1 t0_) rfl (by decide) t0_ rfl rfl (Nat.le_of_ble_eq_true rfl) (Nat.le_of_ble_eq_true rfl) (Nat.le_of_ble_eq_true rfl) (dk okd_X12_readPlan 20 rfl) (st' := fun o26 => [.int o26.1]) (fun _ => rfl) (fun o26 => ?_)
              exact s_zret X hr (dk okd_X12_readPlan 21 rfl) rfl rfl
            · refine s_lp (κ := Int32 → Int32 → St → Option (Int32 × St)) (fun k30 => ∀ (x27 : Int32) (x28 : Int32) (S29 : St), Jd C 4 (QJ C oIS sS) S29 78 [some (.ref p0), some (.int v8), some (.int x27), some (.int x28)] [] (k30 x27 x28 S29)) (fun _ _ _ => s_none) (fun k30 h31 x27 x28 S29 => ?_) FU 1 0 o10.2
              refine s_run X ok_X12_readPlan 33 1 (pc' := 79) (vs' := [some (.ref p0), some (.int v8), some (.int x27), some (.int x28)]) (st' := [.ref p0]) rfl ?_
              refine s_getI X fl_X12_332 t0_ (dk okd_X12_readPlan 14 rfl) (fun v32 => ?_)
              refine s_run X ok_X12_readPlan 34 1 (pc' := 83) (vs' := [some (.ref p0), some (.int v8), some (.int x27), some (.int x28)]) (st' := [.int 2, .int v32]) rfl ?_
              refine s_icmp_ne (tgt := 186) X (dk okd_X12_readPlan 15 rfl) (by decide) ?_ ?_
              · exact s_less [true, false, false, false] rfl (h17 S29)
              · refine s_run X ok_X12_readPlan 35 1 (pc' := 87) (vs' := [some (.ref p0), some (.int v8), some (.int x27), some (.int x28)]) (st' := [.ref p0]) rfl ?_
                refine s_getJ X fl_X12_322 t0_ (dk okd_X12_readPlan 16 rfl) (fun v33 => ?_)
                refine s_run X ok_X12_readPlan 36 2 (pc' := 92) (vs' := [some (.ref p0), some (.int v8), some (.int x27), some (.int x28)]) (st' := [.long (Int32.toInt64 x27), .long v33]) rfl ?_
                refine s_ldc2 X cl_X12_359 (dk okd_X12_readPlan 17 rfl) ?_
                refine s_callS (rest := []) X E ms_X12_53 (c_X12_inRange S29 v33 (Int32.toInt64 x27) 99999) (ta0) rfl rfl (Nat.le_of_ble_eq_true rfl) (Nat.le_of_ble_eq_true rfl) (Nat.le_of_ble_eq_true rfl) (dk okd_X12_readPlan 18 rfl) (st' := fun v34 => [.int v34]) (fun _ => rfl) (fun v34 => ?_)
                refine s_if_ne (tgt := 107) X (dk okd_X12_readPlan 19 rfl) (by decide) ?_ ?_
                · refine s_run X ok_X12_readPlan 40 2 (pc' := 109) (vs' := [some (.ref p0), some (.int v8), some (.int x27), some (.int x28)]) (st' := [.int 4, .int x28]) rfl ?_
                  refine s_icmp_ne (tgt := 118) X (dk okd_X12_readPlan 22 rfl) (by decide) ?_ ?_
                  · refine s_run X ok_X12_readPlan 44 1 (pc' := 119) (vs' := [some (.ref p0), some (.int v8), some (.int x27), some (.int x28)]) (st' := [.ref p0]) rfl ?_
                    refine s_getJ X fl_X12_322 t0_ (dk okd_X12_readPlan 25 rfl) (fun v35 => ?_)
                    refine s_run X ok_X12_readPlan 45 3 (pc' := 125) (vs' := [some (.ref p0), some (.int v8), some (.int x27), some (.int x28)]) (st' := [.int ((Int64.toInt32 v35) + 1)]) rfl ?_
                    refine s_nmI (fun v36 => ?_)
                    refine s_run X ok_X12_readPlan 48 2 (pc' := 127) (vs' := [some (.ref p0), some (.int v8), some (.int v36), some (.int x28)]) (st' := [.ref p0]) rfl ?_
                    refine s_getR X fl_X12_9 t0_ (dk okd_X12_readPlan 26 rfl) (fun a37 (t38 : tT C a37 14) => ?_)
                    refine s_run X ok_X12_readPlan 50 6 (pc' := 136) (vs' := [some (.ref p0), some (.int v8), some (.int v36), some (.int x28)]) (st' := [.ref p0, .int ((v8 + 3) + x28), .ref a37]) rfl ?_
                    refine s_getJ X fl_X12_322 t0_ (dk okd_X12_readPlan 27 rfl) (fun v39 => ?_)
                    refine s_ldc2 X cl_X12_144 (dk okd_X12_readPlan 28 rfl) ?_
                    refine s_run X ok_X12_readPlan 56 1 (pc' := 143) (vs' := [some (.ref p0), some (.int v8), some (.int v36), some (.int x28)]) (st' := [.long (v39 * 100), .int ((v8 + 3) + x28), .ref a37]) rfl ?_
                    refine s_last X t38 (dk okd_X12_readPlan 29 rfl) (fun S40 => ?_)
                    refine s_run X ok_X12_readPlan 57 1 (pc' := 145) (vs' := [some (.ref p0), some (.int v8), some (.int v36), some (.int x28)]) (st' := [.ref p0]) rfl ?_
                    refine s_callV (rest := []) X E mv_X12_345 (c_X12_advance S40 p0) (ta1 t0_) rfl (by decide) t0_ rfl rfl (Nat.le_of_ble_eq_true rfl) (Nat.le_of_ble_eq_true rfl) (Nat.le_of_ble_eq_true rfl) (dk okd_X12_readPlan 30 rfl) (st' := fun S41 => []) (fun _ => rfl) (fun S41 => ?_)
                    refine s_run X ok_X12_readPlan 58 9 (pc' := 160) (vs' := [some (.ref p0), some (.int v8), some (.int v36), some (.int x28)]) (st' := [.long 1, .int 3000, .int 0, .int ((v8 + 7) + x28), .ref p0]) rfl ?_
                    refine s_callV (rest := []) X E mv_X12_355 (c_X12_readInto S41 p0 ((v8 + 7) + x28) 0 3000 1) (ta1 t0_) rfl (by decide) t0_ rfl rfl (Nat.le_of_ble_eq_true rfl) (Nat.le_of_ble_eq_true rfl) (Nat.le_of_ble_eq_true rfl) (dk okd_X12_readPlan 31 rfl) (st' := fun o42 => [.int o42.1]) (fun _ => rfl) (fun o42 => ?_)
                    refine s_if_ne (tgt := 168) X (dk okd_X12_readPlan 32 rfl) (by decide) ?_ ?_
                    · refine s_run X ok_X12_readPlan 68 1 (pc' := 169) (vs' := [some (.ref p0), some (.int v8), some (.int v36), some (.int x28)]) (st' := [.ref p0]) rfl ?_
                      refine s_getR X fl_X12_9 t0_ (dk okd_X12_readPlan 34 rfl) (fun a43 (t44 : tT C a43 14) => ?_)
                      refine s_run X ok_X12_readPlan 69 4 (pc' := 176) (vs' := [some (.ref p0), some (.int v8), some (.int v36), some (.int x28)]) (st' := [.int (v8 + 2), .ref a43, .int (v8 + 2), .ref a43]) rfl ?_
                      refine s_lald X t44 (dk okd_X12_readPlan 35 rfl) (fun v45 => ?_)
                      refine s_run X ok_X12_readPlan 73 2 (pc' := 179) (vs' := [some (.ref p0), some (.int v8), some (.int v36), some (.int x28)]) (st' := [.long (v45 + 1), .int (v8 + 2), .ref a43]) rfl ?_
                      refine s_last X t44 (dk okd_X12_readPlan 36 rfl) (fun S46 => ?_)
                      refine s_run X ok_X12_readPlan 75 2 (pc' := 78) (vs' := [some (.ref p0), some (.int v8), some (.int v36), some (.int (x28 + 1))]) (st' := []) rfl ?_
                      exact h31 v36 (x28 + 1) S46
                    · refine s_run X ok_X12_readPlan 67 1 (pc' := 167) (vs' := [some (.ref p0), some (.int v8), some (.int v36), some (.int x28)]) (st' := [.int 0]) rfl ?_
                      exact s_zret0 X hr (dk okd_X12_readPlan 33 rfl) (by decide) rfl rfl
                  · exact s_less [true, false, false, false] rfl (h13 S29)
                · exact s_less [true, false, false, false] rfl (h25 S29)
      · refine s_run X ok_X12_readPlan 28 1 (pc' := 73) (vs' := [some (.ref p0), some (.int v8), none, none]) (st' := [.int 0]) rfl ?_
        exact s_zret0 X hr (dk okd_X12_readPlan 13 rfl) (by decide) rfl rfl
  · refine s_run X ok_X12_readPlan 3 2 (pc' := 17) (vs' := [some (.ref p0), none, none, none]) (st' := [.int 4, .ref p0]) rfl ?_
    refine s_callV (rest := []) X E mv_X12_339 (c_X12_fail S p0 4) (ta1 t0_) rfl (by decide) t0_ rfl rfl (Nat.le_of_ble_eq_true rfl) (Nat.le_of_ble_eq_true rfl) (Nat.le_of_ble_eq_true rfl) (dk okd_X12_readPlan 4 rfl) (st' := fun o47 => [.int o47.1]) (fun _ => rfl) (fun o47 => ?_)
    exact s_zret X hr (dk okd_X12_readPlan 5 rfl) rfl rfl
def tab_X12_readFranchisee : List En := [(0, 8, 0, 0), (4, 2, 0, 15164), (11, 40, 0, 0), (15, 8, 0, 0), (16, 0, 0, 4), (21, 8, 0, 0), (25, 8, 0, 0), (29, 0, 0, 1), (33, 8, 0, 0), (37, 0, 0, (-1)), (41, 8, 0, 0), (42, 0, 0, 1), (47, 8, 0, 0), (48, 0, 0, 3), (49, 8, 0, 0), (56, 0, 0, (-1)), (60, 8, 0, 0), (61, 0, 0, 3), (66, 2, 0, 15220), (69, 1, 0, 16), (71, 8, 0, 0), (75, 2, 0, 15164), (79, 32, 0, 0), (80, 19, 0, 0), (81, 17, 0, 0), (82, 10, 1, 0), (83, 8, 0, 0), (87, 4, 1, 0), (88, 0, 0, 0), (89, 17, 0, 0), (90, 8, 0, 0), (95, 8, 0, 0), (99, 8, 0, 0), (100, 4, 1, 0), (101, 0, 0, 1), (102, 17, 0, 0), (103, 0, 0, 0), (104, 8, 0, 0), (108, 2, 0, 15163), (112, 32, 0, 0), (113, 0, 0, 1), (114, 18, 0, 0), (115, 3, 1, 0), (122, 8, 0, 0), (123, 4, 1, 0), (124, 0, 0, 2), (125, 17, 0, 0), (126, 0, 0, 0), (127, 2, 0, 999), (130, 3, 1, 0), (137, 0, 0, 0), (139, 8, 0, 0), (143, 2, 0, 15164), (146, 37, 0, 0), (148, 3, 1, 0), (149, 23, 0, 0), (151, 8, 0, 0)]
theorem ok_X12_readFranchisee : tab_X12_readFranchisee.all (okE cX12_readFranchisee) = true := by decide +kernel
def ed_X12_readFranchisee : List (Nat × Instr × Nat) := [(1, .getfield 9, 3), (7, .laload, 1), (8, .ldc2_w 364, 3), (12, .ifCond .ne 9, 3), (17, .invokevirtual 339, 3), (20, .ireturn, 1), (22, .invokevirtual 345, 3), (26, .getfield 332, 3), (30, .if_icmp .ne 11, 3), (34, .invokevirtual 366, 3), (38, .if_icmp .eq 9, 3), (43, .invokevirtual 339, 3), (46, .ireturn, 1), (50, .getfield 322, 3), (53, .invokevirtual 370, 3), (57, .if_icmp .eq 9, 3), (62, .invokevirtual 339, 3), (65, .ireturn, 1), (72, .getfield 9, 3), (78, .laload, 1), (84, .getfield 9, 3), (91, .getfield 322, 3), (94, .lastore, 1), (96, .invokevirtual 345, 3), (105, .getfield 9, 3), (111, .laload, 1), (116, .invokevirtual 355, 3), (119, .ifCond .eq 18, 3), (131, .invokevirtual 355, 3), (134, .ifCond .ne 5, 3), (138, .ireturn, 1), (140, .getfield 9, 3), (147, .laload, 1), (150, .lastore, 1), (152, .invokevirtual 361, 3), (155, .ireturn, 1)]
theorem okd_X12_readFranchisee : ed_X12_readFranchisee.all (okD cX12_readFranchisee) = true := by decide +kernel
def f_X12_readFranchisee (S : St) (p0 : Nat) : Option (Int32 × St) := lt (gR S p0 0) fun (a1 : Nat) => ldJ S a1 15164 fun (v3 : Int64) => if v3 = 8 then (cl (f_X12_fail S p0 4) fun (o32 : Int32 × St) => zc o32.1 (some (o32.1, o32.2))) else (cl (f_X12_advance S p0) fun (S4 : St) => lt (gI S4 p0 13) fun (v5 : Int32) => jn (κ := Option (Int32 × St)) (cl (f_X12_fail S4 p0 1) fun (o8 : Int32 × St) => zc o8.1 (some (o8.1, o8.2))) fun k6 => if v5 = 1 then (cl (f_X12_statement S4 p0) fun (v9 : Int32) => if v9 = (-1) then (lt (gJ S4 p0 16) fun (v10 : Int64) => cl (f_X12_named S4 p0 3 v10) fun (v11 : Int32) => if v11 = (-1) then (lt (gR S4 p0 0) fun (a12 : Nat) => ldJ S4 a12 15164 fun (v14 : Int64) => lt (15220 + (16 * (Int64.toInt32 v14))) fun (v15 : Int32) => lt (gR S4 p0 0) fun (a16 : Nat) => lt (gJ S4 p0 16) fun (v18 : Int64) => stJ S4 a16 (v15 + 0) v18 fun (S19 : St) => cl (f_X12_advance S19 p0) fun (S20 : St) => lt (gR S20 p0 0) fun (a21 : Nat) => ldJ S20 a21 15163 fun (v23 : Int64) => cl (f_X12_readInto S20 p0 (v15 + 1) 0 ((Int64.toInt32 v23) - 1) 1) fun (o24 : Int32 × St) => if o24.1 = 0 then (some (0, o24.2)) else (cl (f_X12_readInto o24.2 p0 (v15 + 2) 0 999 1) fun (o25 : Int32 × St) => if o25.1 = 0 then (some (0, o25.2)) else (lt (gR o25.2 p0 0) fun (a26 : Nat) => ldJ o25.2 a26 15164 fun (v28 : Int64) => stJ o25.2 a26 15164 (v28 + 1) fun (S29 : St) => cl (f_X12_readEnd S29 p0) fun (o30 : Int32 × St) => zc o30.1 (some (o30.1, o30.2))))) else (cl (f_X12_fail S4 p0 3) fun (o31 : Int32 × St) => zc o31.1 (some (o31.1, o31.2)))) else (k6)) else (k6))
set_option maxHeartbeats 4000000 in
set_option maxRecDepth 100000 in
theorem c_X12_readFranchisee (S : St) (p0 : Nat) : Ct yX12_readFranchisee cX12_readFranchisee 2 (some .boolean) 5 113 [.ref p0] [(p0, 11)] S (f_X12_readFranchisee S p0) oIS sS := by
  refine Ct_of RX12 rfl (by decide) (Nat.le_of_ble_eq_true rfl) 1 (vs := [some (.ref p0), none]) rfl (fun C X E hr ht => ?_)
  have t0_ : tT C p0 11 := ht (p0, 11) (by simp)
  unfold f_X12_readFranchisee
  refine s_run X ok_X12_readFranchisee 0 1 (pc' := 1) (vs' := [some (.ref p0), none]) (st' := [.ref p0]) rfl ?_
  refine s_getR X fl_X12_9 t0_ (dk okd_X12_readFranchisee 0 rfl) (fun a1 (t2 : tT C a1 14) => ?_)
  refine s_run X ok_X12_readFranchisee 1 1 (pc' := 7) (vs' := [some (.ref p0), none]) (st' := [.int 15164, .ref a1]) rfl ?_
  refine s_lald X t2 (dk okd_X12_readFranchisee 1 rfl) (fun v3 => ?_)
  refine s_ldc2 X cl_X12_364 (dk okd_X12_readFranchisee 2 rfl) ?_
  refine s_run X ok_X12_readFranchisee 2 1 (pc' := 12) (vs' := [some (.ref p0), none]) (st' := [.int (lg_cmp v3 8)]) rfl ?_
  refine s_lif_ne (tgt := 21) X (dk okd_X12_readFranchisee 3 rfl) (by decide) ?_ ?_
  · refine s_run X ok_X12_readFranchisee 5 1 (pc' := 22) (vs' := [some (.ref p0), none]) (st' := [.ref p0]) rfl ?_
    refine s_callV (rest := []) X E mv_X12_345 (c_X12_advance S p0) (ta1 t0_) rfl (by decide) t0_ rfl rfl (Nat.le_of_ble_eq_true rfl) (Nat.le_of_ble_eq_true rfl) (Nat.le_of_ble_eq_true rfl) (dk okd_X12_readFranchisee 6 rfl) (st' := fun S4 => []) (fun _ => rfl) (fun S4 => ?_)
    refine s_run X ok_X12_readFranchisee 6 1 (pc' := 26) (vs' := [some (.ref p0), none]) (st' := [.ref p0]) rfl ?_
    refine s_getI X fl_X12_332 t0_ (dk okd_X12_readFranchisee 7 rfl) (fun v5 => ?_)
    refine s_run X ok_X12_readFranchisee 7 1 (pc' := 30) (vs' := [some (.ref p0), none]) (st' := [.int 1, .int v5]) rfl ?_
    refine s_jn (κ := Option (Int32 × St)) (fun k6 => Jd C 2 (QJ C oIS sS) S4 41 [some (.ref p0), none] [] k6) ?_ (fun k6 h7 => ?_)
    · refine s_run X ok_X12_readFranchisee 10 2 (pc' := 43) (vs' := [some (.ref p0), none]) (st' := [.int 1, .ref p0]) rfl ?_
      refine s_callV (rest := []) X E mv_X12_339 (c_X12_fail S4 p0 1) (ta1 t0_) rfl (by decide) t0_ rfl rfl (Nat.le_of_ble_eq_true rfl) (Nat.le_of_ble_eq_true rfl) (Nat.le_of_ble_eq_true rfl) (dk okd_X12_readFranchisee 11 rfl) (st' := fun o8 => [.int o8.1]) (fun _ => rfl) (fun o8 => ?_)
      exact s_zret X hr (dk okd_X12_readFranchisee 12 rfl) rfl rfl
    · refine s_icmp_ne (tgt := 41) X (dk okd_X12_readFranchisee 8 rfl) (by decide) ?_ ?_
      · exact h7
      · refine s_run X ok_X12_readFranchisee 8 1 (pc' := 34) (vs' := [some (.ref p0), none]) (st' := [.ref p0]) rfl ?_
        refine s_callV (rest := []) X E mv_X12_366 (c_X12_statement S4 p0) (ta1 t0_) rfl (by decide) t0_ rfl rfl (Nat.le_of_ble_eq_true rfl) (Nat.le_of_ble_eq_true rfl) (Nat.le_of_ble_eq_true rfl) (dk okd_X12_readFranchisee 9 rfl) (st' := fun v9 => [.int v9]) (fun _ => rfl) (fun v9 => ?_)
        refine s_run X ok_X12_readFranchisee 9 1 (pc' := 38) (vs' := [some (.ref p0), none]) (st' := [.int (-1), .int v9]) rfl ?_
        refine s_icmp_eq (tgt := 47) X (dk okd_X12_readFranchisee 10 rfl) (by decide) ?_ ?_
        · refine s_run X ok_X12_readFranchisee 12 3 (pc' := 50) (vs' := [some (.ref p0), none]) (st' := [.ref p0, .int 3, .ref p0]) rfl ?_
          refine s_getJ X fl_X12_322 t0_ (dk okd_X12_readFranchisee 13 rfl) (fun v10 => ?_)
          refine s_callV (rest := []) X E mv_X12_370 (c_X12_named S4 p0 3 v10) (ta1 t0_) rfl (by decide) t0_ rfl rfl (Nat.le_of_ble_eq_true rfl) (Nat.le_of_ble_eq_true rfl) (Nat.le_of_ble_eq_true rfl) (dk okd_X12_readFranchisee 14 rfl) (st' := fun v11 => [.int v11]) (fun _ => rfl) (fun v11 => ?_)
          refine s_run X ok_X12_readFranchisee 15 1 (pc' := 57) (vs' := [some (.ref p0), none]) (st' := [.int (-1), .int v11]) rfl ?_
          refine s_icmp_eq (tgt := 66) X (dk okd_X12_readFranchisee 15 rfl) (by decide) ?_ ?_
          · refine s_run X ok_X12_readFranchisee 18 3 (pc' := 72) (vs' := [some (.ref p0), none]) (st' := [.ref p0, .int 16, .int 15220]) rfl ?_
            refine s_getR X fl_X12_9 t0_ (dk okd_X12_readFranchisee 18 rfl) (fun a12 (t13 : tT C a12 14) => ?_)
            refine s_run X ok_X12_readFranchisee 21 1 (pc' := 78) (vs' := [some (.ref p0), none]) (st' := [.int 15164, .ref a12, .int 16, .int 15220]) rfl ?_
            refine s_lald X t13 (dk okd_X12_readFranchisee 19 rfl) (fun v14 => ?_)
            refine s_run X ok_X12_readFranchisee 22 3 (pc' := 82) (vs' := [some (.ref p0), none]) (st' := [.int (15220 + (16 * (Int64.toInt32 v14)))]) rfl ?_
            refine s_nmI (fun v15 => ?_)
            refine s_run X ok_X12_readFranchisee 25 2 (pc' := 84) (vs' := [some (.ref p0), some (.int v15)]) (st' := [.ref p0]) rfl ?_
            refine s_getR X fl_X12_9 t0_ (dk okd_X12_readFranchisee 20 rfl) (fun a16 (t17 : tT C a16 14) => ?_)
            refine s_run X ok_X12_readFranchisee 27 4 (pc' := 91) (vs' := [some (.ref p0), some (.int v15)]) (st' := [.ref p0, .int (v15 + 0), .ref a16]) rfl ?_
            refine s_getJ X fl_X12_322 t0_ (dk okd_X12_readFranchisee 21 rfl) (fun v18 => ?_)
            refine s_last X t17 (dk okd_X12_readFranchisee 22 rfl) (fun S19 => ?_)
            refine s_run X ok_X12_readFranchisee 31 1 (pc' := 96) (vs' := [some (.ref p0), some (.int v15)]) (st' := [.ref p0]) rfl ?_
            refine s_callV (rest := []) X E mv_X12_345 (c_X12_advance S19 p0) (ta1 t0_) rfl (by decide) t0_ rfl rfl (Nat.le_of_ble_eq_true rfl) (Nat.le_of_ble_eq_true rfl) (Nat.le_of_ble_eq_true rfl) (dk okd_X12_readFranchisee 23 rfl) (st' := fun S20 => []) (fun _ => rfl) (fun S20 => ?_)
            refine s_run X ok_X12_readFranchisee 32 6 (pc' := 105) (vs' := [some (.ref p0), some (.int v15)]) (st' := [.ref p0, .int 0, .int (v15 + 1), .ref p0]) rfl ?_
            refine s_getR X fl_X12_9 t0_ (dk okd_X12_readFranchisee 24 rfl) (fun a21 (t22 : tT C a21 14) => ?_)
            refine s_run X ok_X12_readFranchisee 38 1 (pc' := 111) (vs' := [some (.ref p0), some (.int v15)]) (st' := [.int 15163, .ref a21, .int 0, .int (v15 + 1), .ref p0]) rfl ?_
            refine s_lald X t22 (dk okd_X12_readFranchisee 25 rfl) (fun v23 => ?_)
            refine s_run X ok_X12_readFranchisee 39 4 (pc' := 116) (vs' := [some (.ref p0), some (.int v15)]) (st' := [.long 1, .int ((Int64.toInt32 v23) - 1), .int 0, .int (v15 + 1), .ref p0]) rfl ?_
            refine s_callV (rest := []) X E mv_X12_355 (c_X12_readInto S20 p0 (v15 + 1) 0 ((Int64.toInt32 v23) - 1) 1) (ta1 t0_) rfl (by decide) t0_ rfl rfl (Nat.le_of_ble_eq_true rfl) (Nat.le_of_ble_eq_true rfl) (Nat.le_of_ble_eq_true rfl) (dk okd_X12_readFranchisee 26 rfl) (st' := fun o24 => [.int o24.1]) (fun _ => rfl) (fun o24 => ?_)
            refine s_if_eq (tgt := 137) X (dk okd_X12_readFranchisee 27 rfl) (by decide) ?_ ?_
            · refine s_run X ok_X12_readFranchisee 50 1 (pc' := 138) (vs' := [some (.ref p0), some (.int v15)]) (st' := [.int 0]) rfl ?_
              exact s_zret0 X hr (dk okd_X12_readFranchisee 30 rfl) (by decide) rfl rfl
            · refine s_run X ok_X12_readFranchisee 43 7 (pc' := 131) (vs' := [some (.ref p0), some (.int v15)]) (st' := [.long 1, .int 999, .int 0, .int (v15 + 2), .ref p0]) rfl ?_
              refine s_callV (rest := []) X E mv_X12_355 (c_X12_readInto o24.2 p0 (v15 + 2) 0 999 1) (ta1 t0_) rfl (by decide) t0_ rfl rfl (Nat.le_of_ble_eq_true rfl) (Nat.le_of_ble_eq_true rfl) (Nat.le_of_ble_eq_true rfl) (dk okd_X12_readFranchisee 28 rfl) (st' := fun o25 => [.int o25.1]) (fun _ => rfl) (fun o25 => ?_)
              refine s_if_ne (tgt := 139) X (dk okd_X12_readFranchisee 29 rfl) (by decide) ?_ ?_
              · refine s_run X ok_X12_readFranchisee 51 1 (pc' := 140) (vs' := [some (.ref p0), some (.int v15)]) (st' := [.ref p0]) rfl ?_
                refine s_getR X fl_X12_9 t0_ (dk okd_X12_readFranchisee 31 rfl) (fun a26 (t27 : tT C a26 14) => ?_)
                refine s_run X ok_X12_readFranchisee 52 2 (pc' := 147) (vs' := [some (.ref p0), some (.int v15)]) (st' := [.int 15164, .ref a26, .int 15164, .ref a26]) rfl ?_
                refine s_lald X t27 (dk okd_X12_readFranchisee 32 rfl) (fun v28 => ?_)
                refine s_run X ok_X12_readFranchisee 54 2 (pc' := 150) (vs' := [some (.ref p0), some (.int v15)]) (st' := [.long (v28 + 1), .int 15164, .ref a26]) rfl ?_
                refine s_last X t27 (dk okd_X12_readFranchisee 33 rfl) (fun S29 => ?_)
                refine s_run X ok_X12_readFranchisee 56 1 (pc' := 152) (vs' := [some (.ref p0), some (.int v15)]) (st' := [.ref p0]) rfl ?_
                refine s_callV (rest := []) X E mv_X12_361 (c_X12_readEnd S29 p0) (ta1 t0_) rfl (by decide) t0_ rfl rfl (Nat.le_of_ble_eq_true rfl) (Nat.le_of_ble_eq_true rfl) (Nat.le_of_ble_eq_true rfl) (dk okd_X12_readFranchisee 34 rfl) (st' := fun o30 => [.int o30.1]) (fun _ => rfl) (fun o30 => ?_)
                exact s_zret X hr (dk okd_X12_readFranchisee 35 rfl) rfl rfl
              · refine s_run X ok_X12_readFranchisee 50 1 (pc' := 138) (vs' := [some (.ref p0), some (.int v15)]) (st' := [.int 0]) rfl ?_
                exact s_zret0 X hr (dk okd_X12_readFranchisee 30 rfl) (by decide) rfl rfl
          · refine s_run X ok_X12_readFranchisee 16 2 (pc' := 62) (vs' := [some (.ref p0), none]) (st' := [.int 3, .ref p0]) rfl ?_
            refine s_callV (rest := []) X E mv_X12_339 (c_X12_fail S4 p0 3) (ta1 t0_) rfl (by decide) t0_ rfl rfl (Nat.le_of_ble_eq_true rfl) (Nat.le_of_ble_eq_true rfl) (Nat.le_of_ble_eq_true rfl) (dk okd_X12_readFranchisee 16 rfl) (st' := fun o31 => [.int o31.1]) (fun _ => rfl) (fun o31 => ?_)
            exact s_zret X hr (dk okd_X12_readFranchisee 17 rfl) rfl rfl
        · exact h7
  · refine s_run X ok_X12_readFranchisee 3 2 (pc' := 17) (vs' := [some (.ref p0), none]) (st' := [.int 4, .ref p0]) rfl ?_
    refine s_callV (rest := []) X E mv_X12_339 (c_X12_fail S p0 4) (ta1 t0_) rfl (by decide) t0_ rfl rfl (Nat.le_of_ble_eq_true rfl) (Nat.le_of_ble_eq_true rfl) (Nat.le_of_ble_eq_true rfl) (dk okd_X12_readFranchisee 4 rfl) (st' := fun o32 => [.int o32.1]) (fun _ => rfl) (fun o32 => ?_)
    exact s_zret X hr (dk okd_X12_readFranchisee 5 rfl) rfl rfl
def tab_X12_readName : List En := [(0, 8, 0, 0), (4, 0, 0, 1), (8, 8, 0, 0), (12, 0, 0, (-1)), (16, 0, 0, 1), (17, 41, 21, 0), (20, 0, 0, 0), (21, 10, 2, 0), (22, 4, 2, 0), (26, 8, 0, 0), (27, 4, 1, 0), (28, 8, 0, 0), (35, 41, 39, 0), (38, 0, 0, (-1)), (39, 10, 3, 0), (40, 4, 3, 0), (41, 0, 0, (-1)), (45, 8, 0, 0), (46, 4, 2, 0), (50, 0, 0, 3), (51, 41, 55, 0), (54, 0, 0, 1), (58, 38, 0, 0), (59, 41, 66, 0), (62, 8, 0, 0), (66, 4, 3, 0)]
theorem ok_X12_readName : tab_X12_readName.all (okE cX12_readName) = true := by decide +kernel
def ed_X12_readName : List (Nat × Instr × Nat) := [(1, .getfield 332, 3), (5, .if_icmp .ne 15, 3), (9, .invokevirtual 366, 3), (13, .if_icmp .ne 7, 3), (23, .ifCond .eq 15, 3), (29, .getfield 322, 3), (32, .invokevirtual 370, 3), (42, .if_icmp .ne 20, 3), (47, .ifCond .eq 7, 3), (55, .invokevirtual 339, 3), (63, .invokevirtual 345, 3), (67, .ireturn, 1)]
theorem okd_X12_readName : ed_X12_readName.all (okD cX12_readName) = true := by decide +kernel
def f_X12_readName (S : St) (p0 : Nat) (p1 : Int32) : Option (Int32 × St) := lt (gI S p0 13) fun (v1 : Int32) => jn (κ := Int32 → Option (Int32 × St)) (fun x2 => jn (κ := Int32 → Option (Int32 × St)) (fun x5 => jn (κ := St → Option (Int32 × St)) (fun S8 => some (x5, S8)) fun k9 => if x5 = (-1) then (jn (κ := Int32 → Option (Int32 × St)) (fun x12 => cl (f_X12_fail S p0 x12) fun (o15 : Int32 × St) => k9 o15.2) fun k13 => if x2 = 0 then (k13 1) else (k13 3)) else (cl (f_X12_advance S p0) fun (S11 : St) => k9 S11)) fun k6 => if x2 = 0 then (k6 (-1)) else (lt (gJ S p0 16) fun (v16 : Int64) => cl (f_X12_named S p0 p1 v16) fun (v17 : Int32) => k6 v17)) fun k3 => jn (κ := Option (Int32 × St)) (k3 0) fun k18 => if v1 = 1 then (cl (f_X12_statement S p0) fun (v20 : Int32) => if v20 = (-1) then (k3 1) else (k18)) else (k18)
set_option maxHeartbeats 4000000 in
set_option maxRecDepth 100000 in
theorem c_X12_readName (S : St) (p0 : Nat) (p1 : Int32) : Ct yX12_readName cX12_readName 4 (some .int) 3 66 [.ref p0, .int p1] [(p0, 11)] S (f_X12_readName S p0 p1) oIS sS := by
  refine Ct_of RX12 rfl (by decide) (Nat.le_of_ble_eq_true rfl) 2 (vs := [some (.ref p0), some (.int p1), none, none]) rfl (fun C X E hr ht => ?_)
  have t0_ : tT C p0 11 := ht (p0, 11) (by simp)
  unfold f_X12_readName
  refine s_run X ok_X12_readName 0 1 (pc' := 1) (vs' := [some (.ref p0), some (.int p1), none, none]) (st' := [.ref p0]) rfl ?_
  refine s_getI X fl_X12_332 t0_ (dk okd_X12_readName 0 rfl) (fun v1 => ?_)
  refine s_run X ok_X12_readName 1 1 (pc' := 5) (vs' := [some (.ref p0), some (.int p1), none, none]) (st' := [.int 1, .int v1]) rfl ?_
  refine s_jn (κ := Int32 → Option (Int32 × St)) (fun k3 => ∀ (x2 : Int32), Jd C 4 (QJ C oIS sS) S 21 [some (.ref p0), some (.int p1), none, none] [.int x2] (k3 x2)) (fun x2 => ?_) (fun k3 h4 => ?_)
  · refine s_run X ok_X12_readName 7 2 (pc' := 23) (vs' := [some (.ref p0), some (.int p1), some (.int x2), none]) (st' := [.int x2]) rfl ?_
    refine s_jn (κ := Int32 → Option (Int32 × St)) (fun k6 => ∀ (x5 : Int32), Jd C 4 (QJ C oIS sS) S 39 [some (.ref p0), none, some (.int x2), none] [.int x5] (k6 x5)) (fun x5 => ?_) (fun k6 h7 => ?_)
    · refine s_run X ok_X12_readName 14 3 (pc' := 42) (vs' := [some (.ref p0), none, some (.int x2), some (.int x5)]) (st' := [.int (-1), .int x5]) rfl ?_
      refine s_jn (κ := St → Option (Int32 × St)) (fun k9 => ∀ (S8 : St), Jd C 4 (QJ C oIS sS) S8 66 [none, none, none, some (.int x5)] [] (k9 S8)) (fun S8 => ?_) (fun k9 h10 => ?_)
      · refine s_run X ok_X12_readName 25 1 (pc' := 67) (vs' := [none, none, none, some (.int x5)]) (st' := [.int x5]) rfl ?_
        exact s_iret X hr (dk okd_X12_readName 11 rfl) rfl rfl
      · refine s_icmp_ne (tgt := 62) X (dk okd_X12_readName 7 rfl) (by decide) ?_ ?_
        · refine s_run X ok_X12_readName 24 1 (pc' := 63) (vs' := [some (.ref p0), none, some (.int x2), some (.int x5)]) (st' := [.ref p0]) rfl ?_
          refine s_callV (rest := []) X E mv_X12_345 (c_X12_advance S p0) (ta1 t0_) rfl (by decide) t0_ rfl rfl (Nat.le_of_ble_eq_true rfl) (Nat.le_of_ble_eq_true rfl) (Nat.le_of_ble_eq_true rfl) (dk okd_X12_readName 10 rfl) (st' := fun S11 => []) (fun _ => rfl) (fun S11 => ?_)
          exact s_less [false, false, false, true] rfl (h10 S11)
        · refine s_run X ok_X12_readName 17 2 (pc' := 47) (vs' := [some (.ref p0), none, some (.int x2), some (.int x5)]) (st' := [.int x2, .ref p0]) rfl ?_
          refine s_jn (κ := Int32 → Option (Int32 × St)) (fun k13 => ∀ (x12 : Int32), Jd C 4 (QJ C oIS sS) S 55 [none, none, none, some (.int x5)] [.int x12, .ref p0] (k13 x12)) (fun x12 => ?_) (fun k13 h14 => ?_)
          · refine s_callV (rest := []) X E mv_X12_339 (c_X12_fail S p0 x12) (ta1 t0_) rfl (by decide) t0_ rfl rfl (Nat.le_of_ble_eq_true rfl) (Nat.le_of_ble_eq_true rfl) (Nat.le_of_ble_eq_true rfl) (dk okd_X12_readName 9 rfl) (st' := fun o15 => [.int o15.1]) (fun _ => rfl) (fun o15 => ?_)
            refine s_run X ok_X12_readName 22 2 (pc' := 66) (vs' := [none, none, none, some (.int x5)]) (st' := []) rfl ?_
            exact h10 o15.2
          · refine s_if_eq (tgt := 54) X (dk okd_X12_readName 8 rfl) (by decide) ?_ ?_
            · refine s_run X ok_X12_readName 21 1 (pc' := 55) (vs' := [some (.ref p0), none, some (.int x2), some (.int x5)]) (st' := [.int 1, .ref p0]) rfl ?_
              exact s_less [false, false, false, true] rfl (h14 1)
            · refine s_run X ok_X12_readName 19 2 (pc' := 55) (vs' := [some (.ref p0), none, some (.int x2), some (.int x5)]) (st' := [.int 3, .ref p0]) rfl ?_
              exact s_less [false, false, false, true] rfl (h14 3)
    · refine s_if_eq (tgt := 38) X (dk okd_X12_readName 4 rfl) (by decide) ?_ ?_
      · refine s_run X ok_X12_readName 13 1 (pc' := 39) (vs' := [some (.ref p0), some (.int p1), some (.int x2), none]) (st' := [.int (-1)]) rfl ?_
        exact s_less [true, false, true, false] rfl (h7 (-1))
      · refine s_run X ok_X12_readName 9 3 (pc' := 29) (vs' := [some (.ref p0), some (.int p1), some (.int x2), none]) (st' := [.ref p0, .int p1, .ref p0]) rfl ?_
        refine s_getJ X fl_X12_322 t0_ (dk okd_X12_readName 5 rfl) (fun v16 => ?_)
        refine s_callV (rest := []) X E mv_X12_370 (c_X12_named S p0 p1 v16) (ta1 t0_) rfl (by decide) t0_ rfl rfl (Nat.le_of_ble_eq_true rfl) (Nat.le_of_ble_eq_true rfl) (Nat.le_of_ble_eq_true rfl) (dk okd_X12_readName 6 rfl) (st' := fun v17 => [.int v17]) (fun _ => rfl) (fun v17 => ?_)
        refine s_run X ok_X12_readName 12 1 (pc' := 39) (vs' := [some (.ref p0), some (.int p1), some (.int x2), none]) (st' := [.int v17]) rfl ?_
        exact s_less [true, false, true, false] rfl (h7 v17)
  · refine s_jn (κ := Option (Int32 × St)) (fun k18 => Jd C 4 (QJ C oIS sS) S 20 [some (.ref p0), some (.int p1), none, none] [] k18) ?_ (fun k18 h19 => ?_)
    · refine s_run X ok_X12_readName 6 1 (pc' := 21) (vs' := [some (.ref p0), some (.int p1), none, none]) (st' := [.int 0]) rfl ?_
      exact h4 0
    · refine s_icmp_ne (tgt := 20) X (dk okd_X12_readName 1 rfl) (by decide) ?_ ?_
      · exact h19
      · refine s_run X ok_X12_readName 2 1 (pc' := 9) (vs' := [some (.ref p0), some (.int p1), none, none]) (st' := [.ref p0]) rfl ?_
        refine s_callV (rest := []) X E mv_X12_366 (c_X12_statement S p0) (ta1 t0_) rfl (by decide) t0_ rfl rfl (Nat.le_of_ble_eq_true rfl) (Nat.le_of_ble_eq_true rfl) (Nat.le_of_ble_eq_true rfl) (dk okd_X12_readName 2 rfl) (st' := fun v20 => [.int v20]) (fun _ => rfl) (fun v20 => ?_)
        refine s_run X ok_X12_readName 3 1 (pc' := 13) (vs' := [some (.ref p0), some (.int p1), none, none]) (st' := [.int (-1), .int v20]) rfl ?_
        refine s_icmp_ne (tgt := 20) X (dk okd_X12_readName 3 rfl) (by decide) ?_ ?_
        · exact h19
        · refine s_run X ok_X12_readName 4 2 (pc' := 21) (vs' := [some (.ref p0), some (.int p1), none, none]) (st' := [.int 1]) rfl ?_
          exact h4 1
def tab_X12_hasOther : List En := [(0, 0, 0, 0), (1, 11, 6, 0), (3, 5, 6, 0), (5, 2, 0, 900), (11, 5, 6, 0), (13, 4, 2, 0), (14, 4, 3, 0), (15, 5, 4, 0), (17, 5, 5, 0), (25, 8, 0, 0), (29, 2, 0, 15412), (32, 5, 6, 0), (34, 17, 0, 0), (39, 40, 0, 0), (43, 8, 0, 0), (47, 2, 0, 15412), (50, 5, 6, 0), (52, 17, 0, 0), (54, 4, 1, 0), (55, 31, 0, 0), (56, 40, 0, 0), (60, 0, 0, 1), (62, 16, 6, 1), (65, 41, 3, 0), (68, 0, 0, 0)]
theorem ok_X12_hasOther : tab_X12_hasOther.all (okE cX12_hasOther) = true := by decide +kernel
def ed_X12_hasOther : List (Nat × Instr × Nat) := [(8, .if_icmp .ge 60, 3), (19, .invokestatic 131, 3), (22, .ifCond .eq 40, 3), (26, .getfield 9, 3), (35, .laload, 1), (36, .ldc2_w 48, 3), (40, .ifCond .eq 22, 3), (44, .getfield 9, 3), (53, .laload, 1), (57, .ifCond .eq 5, 3), (61, .ireturn, 1), (69, .ireturn, 1)]
theorem okd_X12_hasOther : ed_X12_hasOther.all (okD cX12_hasOther) = true := by decide +kernel
def f_X12_hasOther (S : St) (p0 : Nat) (p1 : Int32) (p2 : Int32) (p3 : Int32) (p4 : Int32) (p5 : Int32) : Option (Int32) := lp (κ := Int32 → Option (Int32)) (fun _ => none) (fun k2 x1 => if 900 ≤ x1 then (some 0) else (cl (f_X12_isWithin S x1 p2 p3 p4 p5) fun (v4 : Int32) => jn (κ := Option (Int32)) (k2 (x1 + 1)) fun k5 => if v4 = 0 then (k5) else (lt (gR S p0 0) fun (a7 : Nat) => ldJ S a7 (15412 + x1) fun (v9 : Int64) => if v9 = (-1) then (k5) else (lt (gR S p0 0) fun (a10 : Nat) => ldJ S a10 (15412 + x1) fun (v12 : Int64) => if v12 = (Int32.toInt64 p1) then (k5) else (some 1))))) FU 0
set_option maxHeartbeats 4000000 in
set_option maxRecDepth 100000 in
theorem c_X12_hasOther (S : St) (p0 : Nat) (p1 : Int32) (p2 : Int32) (p3 : Int32) (p4 : Int32) (p5 : Int32) : Ct yX12_hasOther cX12_hasOther 7 (some .boolean) 1 24 [.ref p0, .int p1, .int p2, .int p3, .int p4, .int p5] [(p0, 11)] S (f_X12_hasOther S p0 p1 p2 p3 p4 p5) oI (fun _ => S) := by
  refine Ct_of RX12 rfl (by decide) (Nat.le_of_ble_eq_true rfl) 1 (vs := [some (.ref p0), some (.int p1), some (.int p2), some (.int p3), some (.int p4), some (.int p5), none]) rfl (fun C X E hr ht => ?_)
  have t0_ : tT C p0 11 := ht (p0, 11) (by simp)
  unfold f_X12_hasOther
  refine s_run X ok_X12_hasOther 0 2 (pc' := 3) (vs' := [some (.ref p0), some (.int p1), some (.int p2), some (.int p3), some (.int p4), some (.int p5), some (.int 0)]) (st' := []) rfl ?_
  refine s_lp (κ := Int32 → Option (Int32)) (fun k2 => ∀ (x1 : Int32), Jd C 7 (QJ C oI (fun _ => S)) S 3 [some (.ref p0), some (.int p1), some (.int p2), some (.int p3), some (.int p4), some (.int p5), some (.int x1)] [] (k2 x1)) (fun _ => s_none) (fun k2 h3 x1 => ?_) FU 0
  refine s_run X ok_X12_hasOther 2 2 (pc' := 8) (vs' := [some (.ref p0), some (.int p1), some (.int p2), some (.int p3), some (.int p4), some (.int p5), some (.int x1)]) (st' := [.int 900, .int x1]) rfl ?_
  refine s_icmp_ge (tgt := 68) X (dk okd_X12_hasOther 0 rfl) (by decide) ?_ ?_
  · refine s_run X ok_X12_hasOther 24 1 (pc' := 69) (vs' := [some (.ref p0), some (.int p1), some (.int p2), some (.int p3), some (.int p4), some (.int p5), some (.int x1)]) (st' := [.int 0]) rfl ?_
    exact s_zret0 X hr (dk okd_X12_hasOther 11 rfl) (by decide) rfl rfl
  · refine s_run X ok_X12_hasOther 4 5 (pc' := 19) (vs' := [some (.ref p0), some (.int p1), some (.int p2), some (.int p3), some (.int p4), some (.int p5), some (.int x1)]) (st' := [.int p5, .int p4, .int p3, .int p2, .int x1]) rfl ?_
    refine s_callS (rest := []) X E ms_X12_131 (c_X12_isWithin S x1 p2 p3 p4 p5) (ta0) rfl rfl (Nat.le_of_ble_eq_true rfl) (Nat.le_of_ble_eq_true rfl) (Nat.le_of_ble_eq_true rfl) (dk okd_X12_hasOther 1 rfl) (st' := fun v4 => [.int v4]) (fun _ => rfl) (fun v4 => ?_)
    refine s_jn (κ := Option (Int32)) (fun k5 => Jd C 7 (QJ C oI (fun _ => S)) S 62 [some (.ref p0), some (.int p1), some (.int p2), some (.int p3), some (.int p4), some (.int p5), some (.int x1)] [] k5) ?_ (fun k5 h6 => ?_)
    · refine s_run X ok_X12_hasOther 22 2 (pc' := 3) (vs' := [some (.ref p0), some (.int p1), some (.int p2), some (.int p3), some (.int p4), some (.int p5), some (.int (x1 + 1))]) (st' := []) rfl ?_
      exact h3 (x1 + 1)
    · refine s_if_eq (tgt := 62) X (dk okd_X12_hasOther 2 rfl) (by decide) ?_ ?_
      · exact h6
      · refine s_run X ok_X12_hasOther 9 1 (pc' := 26) (vs' := [some (.ref p0), some (.int p1), some (.int p2), some (.int p3), some (.int p4), some (.int p5), some (.int x1)]) (st' := [.ref p0]) rfl ?_
        refine s_getR X fl_X12_9 t0_ (dk okd_X12_hasOther 3 rfl) (fun a7 (t8 : tT C a7 14) => ?_)
        refine s_run X ok_X12_hasOther 10 3 (pc' := 35) (vs' := [some (.ref p0), some (.int p1), some (.int p2), some (.int p3), some (.int p4), some (.int p5), some (.int x1)]) (st' := [.int (15412 + x1), .ref a7]) rfl ?_
        refine s_lald X t8 (dk okd_X12_hasOther 4 rfl) (fun v9 => ?_)
        refine s_ldc2 X cl_X12_48 (dk okd_X12_hasOther 5 rfl) ?_
        refine s_run X ok_X12_hasOther 13 1 (pc' := 40) (vs' := [some (.ref p0), some (.int p1), some (.int p2), some (.int p3), some (.int p4), some (.int p5), some (.int x1)]) (st' := [.int (lg_cmp v9 (-1))]) rfl ?_
        refine s_lif_eq (tgt := 62) X (dk okd_X12_hasOther 6 rfl) (by decide) ?_ ?_
        · exact h6
        · refine s_run X ok_X12_hasOther 14 1 (pc' := 44) (vs' := [some (.ref p0), some (.int p1), some (.int p2), some (.int p3), some (.int p4), some (.int p5), some (.int x1)]) (st' := [.ref p0]) rfl ?_
          refine s_getR X fl_X12_9 t0_ (dk okd_X12_hasOther 7 rfl) (fun a10 (t11 : tT C a10 14) => ?_)
          refine s_run X ok_X12_hasOther 15 3 (pc' := 53) (vs' := [some (.ref p0), some (.int p1), some (.int p2), some (.int p3), some (.int p4), some (.int p5), some (.int x1)]) (st' := [.int (15412 + x1), .ref a10]) rfl ?_
          refine s_lald X t11 (dk okd_X12_hasOther 8 rfl) (fun v12 => ?_)
          refine s_run X ok_X12_hasOther 18 3 (pc' := 57) (vs' := [some (.ref p0), some (.int p1), some (.int p2), some (.int p3), some (.int p4), some (.int p5), some (.int x1)]) (st' := [.int (lg_cmp v12 (Int32.toInt64 p1))]) rfl ?_
          refine s_lif_eq (tgt := 62) X (dk okd_X12_hasOther 9 rfl) (by decide) ?_ ?_
          · exact h6
          · refine s_run X ok_X12_hasOther 21 1 (pc' := 61) (vs' := [some (.ref p0), some (.int p1), some (.int p2), some (.int p3), some (.int p4), some (.int p5), some (.int x1)]) (st' := [.int 1]) rfl ?_
            exact s_zret0 X hr (dk okd_X12_hasOther 10 rfl) (by decide) rfl rfl
def tab_X12_readArea : List En := [(0, 8, 0, 0), (4, 8, 0, 0), (5, 0, 0, 3), (9, 10, 1, 0), (10, 4, 1, 0), (11, 0, 0, (-1)), (15, 8, 0, 0), (16, 0, 0, 0), (17, 1, 0, 29), (25, 0, 0, 0), (27, 8, 0, 0), (31, 10, 2, 0), (32, 8, 0, 0), (33, 0, 0, 0), (34, 1, 0, 29), (42, 0, 0, 0), (44, 8, 0, 0), (48, 10, 3, 0), (49, 8, 0, 0), (50, 4, 2, 0), (51, 0, 0, 1), (52, 17, 0, 0), (53, 1, 0, 30), (61, 0, 0, 0), (63, 8, 0, 0), (67, 11, 4, 0), (69, 8, 0, 0), (73, 11, 5, 0), (75, 8, 0, 0), (76, 4, 3, 0), (77, 0, 0, 1), (78, 17, 0, 0), (79, 1, 0, 30), (87, 0, 0, 0), (89, 8, 0, 0), (90, 4, 1, 0), (91, 4, 2, 0), (92, 4, 3, 0), (93, 5, 4, 0), (95, 8, 0, 0), (105, 8, 0, 0), (106, 5, 5, 0), (111, 8, 0, 0), (112, 0, 0, 5), (117, 0, 0, 0), (118, 11, 6, 0), (120, 5, 6, 0), (122, 2, 0, 900), (128, 5, 6, 0), (130, 4, 2, 0), (131, 4, 3, 0), (132, 5, 4, 0), (134, 8, 0, 0), (144, 8, 0, 0), (148, 2, 0, 15412), (151, 5, 6, 0), (153, 17, 0, 0), (154, 4, 1, 0), (155, 31, 0, 0), (157, 16, 6, 1), (160, 41, 120, 0), (163, 8, 0, 0)]
theorem ok_X12_readArea : tab_X12_readArea.all (okE cX12_readArea) = true := by decide +kernel
def ed_X12_readArea : List (Nat × Instr × Nat) := [(1, .invokevirtual 345, 3), (6, .invokevirtual 374, 3), (12, .if_icmp .eq 13, 3), (19, .invokevirtual 348, 3), (22, .ifCond .ne 5, 3), (26, .ireturn, 1), (28, .getfield 342, 3), (36, .invokevirtual 348, 3), (39, .ifCond .ne 5, 3), (43, .ireturn, 1), (45, .getfield 342, 3), (55, .invokevirtual 348, 3), (58, .ifCond .ne 5, 3), (62, .ireturn, 1), (64, .getfield 342, 3), (70, .getfield 319, 3), (81, .invokevirtual 348, 3), (84, .ifCond .ne 5, 3), (88, .ireturn, 1), (96, .getfield 342, 3), (99, .invokevirtual 377, 3), (102, .ifCond .eq 15, 3), (108, .putfield 319, 3), (113, .invokevirtual 339, 3), (116, .ireturn, 1), (125, .if_icmp .ge 38, 3), (135, .getfield 342, 3), (138, .invokestatic 131, 3), (141, .ifCond .eq 16, 3), (145, .getfield 9, 3), (156, .lastore, 1), (164, .invokevirtual 361, 3), (167, .ireturn, 1)]
theorem okd_X12_readArea : ed_X12_readArea.all (okD cX12_readArea) = true := by decide +kernel
def f_X12_readArea (S : St) (p0 : Nat) : Option (Int32 × St) := cl (f_X12_advance S p0) fun (S1 : St) => cl (f_X12_readName S1 p0 3) fun (o2 : Int32 × St) => if o2.1 = (-1) then (some (0, o2.2)) else (cl (f_X12_readNumber o2.2 p0 0 29) fun (o3 : Int32 × St) => if o3.1 = 0 then (some (0, o3.2)) else (lt (gI o3.2 p0 15) fun (v4 : Int32) => cl (f_X12_readNumber o3.2 p0 0 29) fun (o5 : Int32 × St) => if o5.1 = 0 then (some (0, o5.2)) else (lt (gI o5.2 p0 15) fun (v6 : Int32) => cl (f_X12_readNumber o5.2 p0 (v4 + 1) 30) fun (o7 : Int32 × St) => if o7.1 = 0 then (some (0, o7.2)) else (lt (gI o7.2 p0 15) fun (v8 : Int32) => lt (gI o7.2 p0 14) fun (v9 : Int32) => cl (f_X12_readNumber o7.2 p0 (v6 + 1) 30) fun (o10 : Int32 × St) => if o10.1 = 0 then (some (0, o10.2)) else (lt (gI o10.2 p0 15) fun (v11 : Int32) => cl (f_X12_hasOther o10.2 p0 o2.1 v4 v6 v8 v11) fun (v12 : Int32) => if v12 = 0 then (jn (κ := St → Option (Int32 × St)) (fun S13 => cl (f_X12_readEnd S13 p0) fun (o16 : Int32 × St) => zc o16.1 (some (o16.1, o16.2))) fun k14 => lp (κ := Int32 → St → Option (Int32 × St)) (fun _ _ => none) (fun k19 x17 S18 => if 900 ≤ x17 then (k14 S18) else (lt (gI S18 p0 15) fun (v21 : Int32) => cl (f_X12_isWithin S18 x17 v4 v6 v8 v21) fun (v22 : Int32) => jn (κ := St → Option (Int32 × St)) (fun S23 => k19 (x17 + 1) S23) fun k24 => if v22 = 0 then (k24 S18) else (lt (gR S18 p0 0) fun (a26 : Nat) => stJ S18 a26 (15412 + x17) (Int32.toInt64 o2.1) fun (S28 : St) => k24 S28))) FU 0 o10.2) else (lt (uI o10.2 p0 14 v9) fun (S29 : St) => cl (f_X12_fail S29 p0 5) fun (o30 : Int32 × St) => zc o30.1 (some (o30.1, o30.2))))))))
set_option maxHeartbeats 4000000 in
set_option maxRecDepth 100000 in
theorem c_X12_readArea (S : St) (p0 : Nat) : Ct yX12_readArea cX12_readArea 7 (some .boolean) 4 89 [.ref p0] [(p0, 11)] S (f_X12_readArea S p0) oIS sS := by
  refine Ct_of RX12 rfl (by decide) (Nat.le_of_ble_eq_true rfl) 6 (vs := [some (.ref p0), none, none, none, none, none, none]) rfl (fun C X E hr ht => ?_)
  have t0_ : tT C p0 11 := ht (p0, 11) (by simp)
  unfold f_X12_readArea
  refine s_run X ok_X12_readArea 0 1 (pc' := 1) (vs' := [some (.ref p0), none, none, none, none, none, none]) (st' := [.ref p0]) rfl ?_
  refine s_callV (rest := []) X E mv_X12_345 (c_X12_advance S p0) (ta1 t0_) rfl (by decide) t0_ rfl rfl (Nat.le_of_ble_eq_true rfl) (Nat.le_of_ble_eq_true rfl) (Nat.le_of_ble_eq_true rfl) (dk okd_X12_readArea 0 rfl) (st' := fun S1 => []) (fun _ => rfl) (fun S1 => ?_)
  refine s_run X ok_X12_readArea 1 2 (pc' := 6) (vs' := [some (.ref p0), none, none, none, none, none, none]) (st' := [.int 3, .ref p0]) rfl ?_
  refine s_callV (rest := []) X E mv_X12_374 (c_X12_readName S1 p0 3) (ta1 t0_) rfl (by decide) t0_ rfl rfl (Nat.le_of_ble_eq_true rfl) (Nat.le_of_ble_eq_true rfl) (Nat.le_of_ble_eq_true rfl) (dk okd_X12_readArea 1 rfl) (st' := fun o2 => [.int o2.1]) (fun _ => rfl) (fun o2 => ?_)
  refine s_run X ok_X12_readArea 3 3 (pc' := 12) (vs' := [some (.ref p0), some (.int o2.1), none, none, none, none, none]) (st' := [.int (-1), .int o2.1]) rfl ?_
  refine s_icmp_eq (tgt := 25) X (dk okd_X12_readArea 2 rfl) (by decide) ?_ ?_
  · refine s_run X ok_X12_readArea 9 1 (pc' := 26) (vs' := [some (.ref p0), some (.int o2.1), none, none, none, none, none]) (st' := [.int 0]) rfl ?_
    exact s_zret0 X hr (dk okd_X12_readArea 5 rfl) (by decide) rfl rfl
  · refine s_run X ok_X12_readArea 6 3 (pc' := 19) (vs' := [some (.ref p0), some (.int o2.1), none, none, none, none, none]) (st' := [.int 29, .int 0, .ref p0]) rfl ?_
    refine s_callV (rest := []) X E mv_X12_348 (c_X12_readNumber o2.2 p0 0 29) (ta1 t0_) rfl (by decide) t0_ rfl rfl (Nat.le_of_ble_eq_true rfl) (Nat.le_of_ble_eq_true rfl) (Nat.le_of_ble_eq_true rfl) (dk okd_X12_readArea 3 rfl) (st' := fun o3 => [.int o3.1]) (fun _ => rfl) (fun o3 => ?_)
    refine s_if_ne (tgt := 27) X (dk okd_X12_readArea 4 rfl) (by decide) ?_ ?_
    · refine s_run X ok_X12_readArea 10 1 (pc' := 28) (vs' := [some (.ref p0), some (.int o2.1), none, none, none, none, none]) (st' := [.ref p0]) rfl ?_
      refine s_getI X fl_X12_342 t0_ (dk okd_X12_readArea 6 rfl) (fun v4 => ?_)
      refine s_run X ok_X12_readArea 11 4 (pc' := 36) (vs' := [some (.ref p0), some (.int o2.1), some (.int v4), none, none, none, none]) (st' := [.int 29, .int 0, .ref p0]) rfl ?_
      refine s_callV (rest := []) X E mv_X12_348 (c_X12_readNumber o3.2 p0 0 29) (ta1 t0_) rfl (by decide) t0_ rfl rfl (Nat.le_of_ble_eq_true rfl) (Nat.le_of_ble_eq_true rfl) (Nat.le_of_ble_eq_true rfl) (dk okd_X12_readArea 7 rfl) (st' := fun o5 => [.int o5.1]) (fun _ => rfl) (fun o5 => ?_)
      refine s_if_ne (tgt := 44) X (dk okd_X12_readArea 8 rfl) (by decide) ?_ ?_
      · refine s_run X ok_X12_readArea 16 1 (pc' := 45) (vs' := [some (.ref p0), some (.int o2.1), some (.int v4), none, none, none, none]) (st' := [.ref p0]) rfl ?_
        refine s_getI X fl_X12_342 t0_ (dk okd_X12_readArea 10 rfl) (fun v6 => ?_)
        refine s_run X ok_X12_readArea 17 6 (pc' := 55) (vs' := [some (.ref p0), some (.int o2.1), some (.int v4), some (.int v6), none, none, none]) (st' := [.int 30, .int (v4 + 1), .ref p0]) rfl ?_
        refine s_callV (rest := []) X E mv_X12_348 (c_X12_readNumber o5.2 p0 (v4 + 1) 30) (ta1 t0_) rfl (by decide) t0_ rfl rfl (Nat.le_of_ble_eq_true rfl) (Nat.le_of_ble_eq_true rfl) (Nat.le_of_ble_eq_true rfl) (dk okd_X12_readArea 11 rfl) (st' := fun o7 => [.int o7.1]) (fun _ => rfl) (fun o7 => ?_)
        refine s_if_ne (tgt := 63) X (dk okd_X12_readArea 12 rfl) (by decide) ?_ ?_
        · refine s_run X ok_X12_readArea 24 1 (pc' := 64) (vs' := [some (.ref p0), some (.int o2.1), some (.int v4), some (.int v6), none, none, none]) (st' := [.ref p0]) rfl ?_
          refine s_getI X fl_X12_342 t0_ (dk okd_X12_readArea 14 rfl) (fun v8 => ?_)
          refine s_run X ok_X12_readArea 25 2 (pc' := 70) (vs' := [some (.ref p0), some (.int o2.1), some (.int v4), some (.int v6), some (.int v8), none, none]) (st' := [.ref p0]) rfl ?_
          refine s_getI X fl_X12_319 t0_ (dk okd_X12_readArea 15 rfl) (fun v9 => ?_)
          refine s_run X ok_X12_readArea 27 6 (pc' := 81) (vs' := [some (.ref p0), some (.int o2.1), some (.int v4), some (.int v6), some (.int v8), some (.int v9), none]) (st' := [.int 30, .int (v6 + 1), .ref p0]) rfl ?_
          refine s_callV (rest := []) X E mv_X12_348 (c_X12_readNumber o7.2 p0 (v6 + 1) 30) (ta1 t0_) rfl (by decide) t0_ rfl rfl (Nat.le_of_ble_eq_true rfl) (Nat.le_of_ble_eq_true rfl) (Nat.le_of_ble_eq_true rfl) (dk okd_X12_readArea 16 rfl) (st' := fun o10 => [.int o10.1]) (fun _ => rfl) (fun o10 => ?_)
          refine s_if_ne (tgt := 89) X (dk okd_X12_readArea 17 rfl) (by decide) ?_ ?_
          · refine s_run X ok_X12_readArea 34 6 (pc' := 96) (vs' := [some (.ref p0), some (.int o2.1), some (.int v4), some (.int v6), some (.int v8), some (.int v9), none]) (st' := [.ref p0, .int v8, .int v6, .int v4, .int o2.1, .ref p0]) rfl ?_
            refine s_getI X fl_X12_342 t0_ (dk okd_X12_readArea 19 rfl) (fun v11 => ?_)
            refine s_callV (rest := []) X E mv_X12_377 (c_X12_hasOther o10.2 p0 o2.1 v4 v6 v8 v11) (ta1 t0_) rfl (by decide) t0_ rfl rfl (Nat.le_of_ble_eq_true rfl) (Nat.le_of_ble_eq_true rfl) (Nat.le_of_ble_eq_true rfl) (dk okd_X12_readArea 20 rfl) (st' := fun v12 => [.int v12]) (fun _ => rfl) (fun v12 => ?_)
            refine s_if_eq (tgt := 117) X (dk okd_X12_readArea 21 rfl) (by decide) ?_ ?_
            · refine s_run X ok_X12_readArea 44 2 (pc' := 120) (vs' := [some (.ref p0), some (.int o2.1), some (.int v4), some (.int v6), some (.int v8), some (.int v9), some (.int 0)]) (st' := []) rfl ?_
              refine s_jn (κ := St → Option (Int32 × St)) (fun k14 => ∀ (S13 : St), Jd C 7 (QJ C oIS sS) S13 163 [some (.ref p0), none, none, none, none, none, none] [] (k14 S13)) (fun S13 => ?_) (fun k14 h15 => ?_)
              · refine s_run X ok_X12_readArea 61 1 (pc' := 164) (vs' := [some (.ref p0), none, none, none, none, none, none]) (st' := [.ref p0]) rfl ?_
                refine s_callV (rest := []) X E mv_X12_361 (c_X12_readEnd S13 p0) (ta1 t0_) rfl (by decide) t0_ rfl rfl (Nat.le_of_ble_eq_true rfl) (Nat.le_of_ble_eq_true rfl) (Nat.le_of_ble_eq_true rfl) (dk okd_X12_readArea 31 rfl) (st' := fun o16 => [.int o16.1]) (fun _ => rfl) (fun o16 => ?_)
                exact s_zret X hr (dk okd_X12_readArea 32 rfl) rfl rfl
              · refine s_less [true, true, true, true, true, false, true] (vs' := [some (.ref p0), some (.int o2.1), some (.int v4), some (.int v6), some (.int v8), none, some (.int 0)]) rfl ?_
                refine s_lp (κ := Int32 → St → Option (Int32 × St)) (fun k19 => ∀ (x17 : Int32) (S18 : St), Jd C 7 (QJ C oIS sS) S18 120 [some (.ref p0), some (.int o2.1), some (.int v4), some (.int v6), some (.int v8), none, some (.int x17)] [] (k19 x17 S18)) (fun _ _ => s_none) (fun k19 h20 x17 S18 => ?_) FU 0 o10.2
                refine s_run X ok_X12_readArea 46 2 (pc' := 125) (vs' := [some (.ref p0), some (.int o2.1), some (.int v4), some (.int v6), some (.int v8), none, some (.int x17)]) (st' := [.int 900, .int x17]) rfl ?_
                refine s_icmp_ge (tgt := 163) X (dk okd_X12_readArea 25 rfl) (by decide) ?_ ?_
                · exact s_less [true, false, false, false, false, false, false] rfl (h15 S18)
                · refine s_run X ok_X12_readArea 48 5 (pc' := 135) (vs' := [some (.ref p0), some (.int o2.1), some (.int v4), some (.int v6), some (.int v8), none, some (.int x17)]) (st' := [.ref p0, .int v8, .int v6, .int v4, .int x17]) rfl ?_
                  refine s_getI X fl_X12_342 t0_ (dk okd_X12_readArea 26 rfl) (fun v21 => ?_)
                  refine s_callS (rest := []) X E ms_X12_131 (c_X12_isWithin S18 x17 v4 v6 v8 v21) (ta0) rfl rfl (Nat.le_of_ble_eq_true rfl) (Nat.le_of_ble_eq_true rfl) (Nat.le_of_ble_eq_true rfl) (dk okd_X12_readArea 27 rfl) (st' := fun v22 => [.int v22]) (fun _ => rfl) (fun v22 => ?_)
                  refine s_jn (κ := St → Option (Int32 × St)) (fun k24 => ∀ (S23 : St), Jd C 7 (QJ C oIS sS) S23 157 [some (.ref p0), some (.int o2.1), some (.int v4), some (.int v6), some (.int v8), none, some (.int x17)] [] (k24 S23)) (fun S23 => ?_) (fun k24 h25 => ?_)
                  · refine s_run X ok_X12_readArea 59 2 (pc' := 120) (vs' := [some (.ref p0), some (.int o2.1), some (.int v4), some (.int v6), some (.int v8), none, some (.int (x17 + 1))]) (st' := []) rfl ?_
                    exact h20 (x17 + 1) S23
                  · refine s_if_eq (tgt := 157) X (dk okd_X12_readArea 28 rfl) (by decide) ?_ ?_
                    · exact h25 S18
                    · refine s_run X ok_X12_readArea 53 1 (pc' := 145) (vs' := [some (.ref p0), some (.int o2.1), some (.int v4), some (.int v6), some (.int v8), none, some (.int x17)]) (st' := [.ref p0]) rfl ?_
                      refine s_getR X fl_X12_9 t0_ (dk okd_X12_readArea 29 rfl) (fun a26 (t27 : tT C a26 14) => ?_)
                      refine s_run X ok_X12_readArea 54 5 (pc' := 156) (vs' := [some (.ref p0), some (.int o2.1), some (.int v4), some (.int v6), some (.int v8), none, some (.int x17)]) (st' := [.long (Int32.toInt64 o2.1), .int (15412 + x17), .ref a26]) rfl ?_
                      refine s_last X t27 (dk okd_X12_readArea 30 rfl) (fun S28 => ?_)
                      exact h25 S28
            · refine s_run X ok_X12_readArea 40 2 (pc' := 108) (vs' := [some (.ref p0), some (.int o2.1), some (.int v4), some (.int v6), some (.int v8), some (.int v9), none]) (st' := [.int v9, .ref p0]) rfl ?_
              refine s_putI X fp_X12_319 t0_ (dk okd_X12_readArea 22 rfl) (fun S29 => ?_)
              refine s_run X ok_X12_readArea 42 2 (pc' := 113) (vs' := [some (.ref p0), some (.int o2.1), some (.int v4), some (.int v6), some (.int v8), some (.int v9), none]) (st' := [.int 5, .ref p0]) rfl ?_
              refine s_callV (rest := []) X E mv_X12_339 (c_X12_fail S29 p0 5) (ta1 t0_) rfl (by decide) t0_ rfl rfl (Nat.le_of_ble_eq_true rfl) (Nat.le_of_ble_eq_true rfl) (Nat.le_of_ble_eq_true rfl) (dk okd_X12_readArea 23 rfl) (st' := fun o30 => [.int o30.1]) (fun _ => rfl) (fun o30 => ?_)
              exact s_zret X hr (dk okd_X12_readArea 24 rfl) rfl rfl
          · refine s_run X ok_X12_readArea 33 1 (pc' := 88) (vs' := [some (.ref p0), some (.int o2.1), some (.int v4), some (.int v6), some (.int v8), some (.int v9), none]) (st' := [.int 0]) rfl ?_
            exact s_zret0 X hr (dk okd_X12_readArea 18 rfl) (by decide) rfl rfl
        · refine s_run X ok_X12_readArea 23 1 (pc' := 62) (vs' := [some (.ref p0), some (.int o2.1), some (.int v4), some (.int v6), none, none, none]) (st' := [.int 0]) rfl ?_
          exact s_zret0 X hr (dk okd_X12_readArea 13 rfl) (by decide) rfl rfl
      · refine s_run X ok_X12_readArea 15 1 (pc' := 43) (vs' := [some (.ref p0), some (.int o2.1), some (.int v4), none, none, none, none]) (st' := [.int 0]) rfl ?_
        exact s_zret0 X hr (dk okd_X12_readArea 9 rfl) (by decide) rfl rfl
    · refine s_run X ok_X12_readArea 9 1 (pc' := 26) (vs' := [some (.ref p0), some (.int o2.1), none, none, none, none, none]) (st' := [.int 0]) rfl ?_
      exact s_zret0 X hr (dk okd_X12_readArea 5 rfl) (by decide) rfl rfl
def tab_X12_hasOutletRead : List En := [(0, 0, 0, 0), (1, 10, 3, 0), (2, 4, 3, 0), (3, 31, 0, 0), (4, 8, 0, 0), (8, 2, 0, 15165), (12, 40, 0, 0), (16, 8, 0, 0), (20, 2, 0, 15348), (23, 0, 0, 4), (24, 4, 3, 0), (25, 19, 0, 0), (26, 17, 0, 0), (27, 0, 0, 1), (28, 17, 0, 0), (30, 4, 1, 0), (31, 31, 0, 0), (32, 40, 0, 0), (36, 8, 0, 0), (40, 2, 0, 15348), (43, 0, 0, 4), (44, 4, 3, 0), (45, 19, 0, 0), (46, 17, 0, 0), (47, 0, 0, 2), (48, 17, 0, 0), (50, 4, 2, 0), (51, 31, 0, 0), (52, 40, 0, 0), (56, 0, 0, 1), (58, 16, 3, 1), (61, 41, 2, 0), (64, 0, 0, 0)]
theorem ok_X12_hasOutletRead : tab_X12_hasOutletRead.all (okE cX12_hasOutletRead) = true := by decide +kernel
def ed_X12_hasOutletRead : List (Nat × Instr × Nat) := [(5, .getfield 9, 3), (11, .laload, 1), (13, .ifCond .ge 51, 3), (17, .getfield 9, 3), (29, .laload, 1), (33, .ifCond .ne 25, 3), (37, .getfield 9, 3), (49, .laload, 1), (53, .ifCond .ne 5, 3), (57, .ireturn, 1), (65, .ireturn, 1)]
theorem okd_X12_hasOutletRead : ed_X12_hasOutletRead.all (okD cX12_hasOutletRead) = true := by decide +kernel
def f_X12_hasOutletRead (S : St) (p0 : Nat) (p1 : Int32) (p2 : Int32) : Option (Int32) := lp (κ := Int32 → Option (Int32)) (fun _ => none) (fun k2 x1 => lt (gR S p0 0) fun (a4 : Nat) => ldJ S a4 15165 fun (v6 : Int64) => if v6 ≤ (Int32.toInt64 x1) then (some 0) else (lt (gR S p0 0) fun (a7 : Nat) => ldJ S a7 ((15348 + (4 * x1)) + 1) fun (v9 : Int64) => jn (κ := Option (Int32)) (k2 (x1 + 1)) fun k10 => if v9 = (Int32.toInt64 p1) then (lt (gR S p0 0) fun (a12 : Nat) => ldJ S a12 ((15348 + (4 * x1)) + 2) fun (v14 : Int64) => if v14 = (Int32.toInt64 p2) then (some 1) else (k10)) else (k10))) FU 0
set_option maxHeartbeats 4000000 in
set_option maxRecDepth 100000 in
theorem c_X12_hasOutletRead (S : St) (p0 : Nat) (p1 : Int32) (p2 : Int32) : Ct yX12_hasOutletRead cX12_hasOutletRead 4 (some .boolean) 0 0 [.ref p0, .int p1, .int p2] [(p0, 11)] S (f_X12_hasOutletRead S p0 p1 p2) oI (fun _ => S) := by
  refine Ct_of RX12 rfl (by decide) (Nat.le_of_ble_eq_true rfl) 1 (vs := [some (.ref p0), some (.int p1), some (.int p2), none]) rfl (fun C X E hr ht => ?_)
  have t0_ : tT C p0 11 := ht (p0, 11) (by simp)
  unfold f_X12_hasOutletRead
  refine s_run X ok_X12_hasOutletRead 0 2 (pc' := 2) (vs' := [some (.ref p0), some (.int p1), some (.int p2), some (.int 0)]) (st' := []) rfl ?_
  refine s_lp (κ := Int32 → Option (Int32)) (fun k2 => ∀ (x1 : Int32), Jd C 4 (QJ C oI (fun _ => S)) S 2 [some (.ref p0), some (.int p1), some (.int p2), some (.int x1)] [] (k2 x1)) (fun _ => s_none) (fun k2 h3 x1 => ?_) FU 0
  refine s_run X ok_X12_hasOutletRead 2 3 (pc' := 5) (vs' := [some (.ref p0), some (.int p1), some (.int p2), some (.int x1)]) (st' := [.ref p0, .long (Int32.toInt64 x1)]) rfl ?_
  refine s_getR X fl_X12_9 t0_ (dk okd_X12_hasOutletRead 0 rfl) (fun a4 (t5 : tT C a4 14) => ?_)
  refine s_run X ok_X12_hasOutletRead 5 1 (pc' := 11) (vs' := [some (.ref p0), some (.int p1), some (.int p2), some (.int x1)]) (st' := [.int 15165, .ref a4, .long (Int32.toInt64 x1)]) rfl ?_
  refine s_lald X t5 (dk okd_X12_hasOutletRead 1 rfl) (fun v6 => ?_)
  refine s_run X ok_X12_hasOutletRead 6 1 (pc' := 13) (vs' := [some (.ref p0), some (.int p1), some (.int p2), some (.int x1)]) (st' := [.int (lg_cmp (Int32.toInt64 x1) v6)]) rfl ?_
  refine s_lif_ge (tgt := 64) X (dk okd_X12_hasOutletRead 2 rfl) (by decide) ?_ ?_
  · refine s_run X ok_X12_hasOutletRead 32 1 (pc' := 65) (vs' := [some (.ref p0), some (.int p1), some (.int p2), some (.int x1)]) (st' := [.int 0]) rfl ?_
    exact s_zret0 X hr (dk okd_X12_hasOutletRead 10 rfl) (by decide) rfl rfl
  · refine s_run X ok_X12_hasOutletRead 7 1 (pc' := 17) (vs' := [some (.ref p0), some (.int p1), some (.int p2), some (.int x1)]) (st' := [.ref p0]) rfl ?_
    refine s_getR X fl_X12_9 t0_ (dk okd_X12_hasOutletRead 3 rfl) (fun a7 (t8 : tT C a7 14) => ?_)
    refine s_run X ok_X12_hasOutletRead 8 7 (pc' := 29) (vs' := [some (.ref p0), some (.int p1), some (.int p2), some (.int x1)]) (st' := [.int ((15348 + (4 * x1)) + 1), .ref a7]) rfl ?_
    refine s_lald X t8 (dk okd_X12_hasOutletRead 4 rfl) (fun v9 => ?_)
    refine s_run X ok_X12_hasOutletRead 15 3 (pc' := 33) (vs' := [some (.ref p0), some (.int p1), some (.int p2), some (.int x1)]) (st' := [.int (lg_cmp v9 (Int32.toInt64 p1))]) rfl ?_
    refine s_jn (κ := Option (Int32)) (fun k10 => Jd C 4 (QJ C oI (fun _ => S)) S 58 [some (.ref p0), some (.int p1), some (.int p2), some (.int x1)] [] k10) ?_ (fun k10 h11 => ?_)
    · refine s_run X ok_X12_hasOutletRead 30 2 (pc' := 2) (vs' := [some (.ref p0), some (.int p1), some (.int p2), some (.int (x1 + 1))]) (st' := []) rfl ?_
      exact h3 (x1 + 1)
    · refine s_lif_ne (tgt := 58) X (dk okd_X12_hasOutletRead 5 rfl) (by decide) ?_ ?_
      · exact h11
      · refine s_run X ok_X12_hasOutletRead 18 1 (pc' := 37) (vs' := [some (.ref p0), some (.int p1), some (.int p2), some (.int x1)]) (st' := [.ref p0]) rfl ?_
        refine s_getR X fl_X12_9 t0_ (dk okd_X12_hasOutletRead 6 rfl) (fun a12 (t13 : tT C a12 14) => ?_)
        refine s_run X ok_X12_hasOutletRead 19 7 (pc' := 49) (vs' := [some (.ref p0), some (.int p1), some (.int p2), some (.int x1)]) (st' := [.int ((15348 + (4 * x1)) + 2), .ref a12]) rfl ?_
        refine s_lald X t13 (dk okd_X12_hasOutletRead 7 rfl) (fun v14 => ?_)
        refine s_run X ok_X12_hasOutletRead 26 3 (pc' := 53) (vs' := [some (.ref p0), some (.int p1), some (.int p2), some (.int x1)]) (st' := [.int (lg_cmp v14 (Int32.toInt64 p2))]) rfl ?_
        refine s_lif_ne (tgt := 58) X (dk okd_X12_hasOutletRead 8 rfl) (by decide) ?_ ?_
        · exact h11
        · refine s_run X ok_X12_hasOutletRead 29 1 (pc' := 57) (vs' := [some (.ref p0), some (.int p1), some (.int p2), some (.int x1)]) (st' := [.int 1]) rfl ?_
          exact s_zret0 X hr (dk okd_X12_hasOutletRead 9 rfl) (by decide) rfl rfl
def tab_X12_readOutlet : List En := [(0, 8, 0, 0), (4, 2, 0, 15165), (11, 40, 0, 0), (15, 8, 0, 0), (16, 0, 0, 4), (21, 8, 0, 0), (25, 8, 0, 0), (26, 0, 0, 3), (30, 10, 1, 0), (31, 4, 1, 0), (32, 0, 0, (-1)), (36, 8, 0, 0), (37, 0, 0, 0), (38, 1, 0, 29), (46, 0, 0, 0), (48, 8, 0, 0), (52, 10, 2, 0), (53, 8, 0, 0), (57, 10, 3, 0), (58, 8, 0, 0), (59, 0, 0, 0), (60, 1, 0, 29), (68, 0, 0, 0), (70, 8, 0, 0), (74, 2, 0, 15412), (77, 1, 0, 30), (79, 8, 0, 0), (83, 19, 0, 0), (84, 17, 0, 0), (85, 4, 2, 0), (86, 17, 0, 0), (88, 4, 1, 0), (89, 31, 0, 0), (90, 40, 0, 0), (94, 8, 0, 0), (95, 4, 2, 0), (96, 8, 0, 0), (106, 8, 0, 0), (107, 4, 3, 0), (111, 8, 0, 0), (112, 0, 0, 5), (117, 8, 0, 0), (118, 0, 0, 3), (119, 4, 1, 0), (120, 4, 2, 0), (121, 8, 0, 0), (128, 8, 0, 0)]
theorem ok_X12_readOutlet : tab_X12_readOutlet.all (okE cX12_readOutlet) = true := by decide +kernel
def ed_X12_readOutlet : List (Nat × Instr × Nat) := [(1, .getfield 9, 3), (7, .laload, 1), (8, .ldc2_w 146, 3), (12, .ifCond .ne 9, 3), (17, .invokevirtual 339, 3), (20, .ireturn, 1), (22, .invokevirtual 345, 3), (27, .invokevirtual 374, 3), (33, .if_icmp .eq 13, 3), (40, .invokevirtual 348, 3), (43, .ifCond .ne 5, 3), (47, .ireturn, 1), (49, .getfield 342, 3), (54, .getfield 319, 3), (62, .invokevirtual 348, 3), (65, .ifCond .ne 5, 3), (69, .ireturn, 1), (71, .getfield 9, 3), (80, .getfield 342, 3), (87, .laload, 1), (91, .ifCond .ne 15, 3), (97, .getfield 342, 3), (100, .invokevirtual 380, 3), (103, .ifCond .eq 14, 3), (108, .putfield 319, 3), (113, .invokevirtual 339, 3), (116, .ireturn, 1), (122, .getfield 342, 3), (125, .invokevirtual 148, 3), (129, .invokevirtual 361, 3), (132, .ireturn, 1)]
theorem okd_X12_readOutlet : ed_X12_readOutlet.all (okD cX12_readOutlet) = true := by decide +kernel
def f_X12_readOutlet (S : St) (p0 : Nat) : Option (Int32 × St) := lt (gR S p0 0) fun (a1 : Nat) => ldJ S a1 15165 fun (v3 : Int64) => if v3 = 16 then (cl (f_X12_fail S p0 4) fun (o23 : Int32 × St) => zc o23.1 (some (o23.1, o23.2))) else (cl (f_X12_advance S p0) fun (S4 : St) => cl (f_X12_readName S4 p0 3) fun (o5 : Int32 × St) => if o5.1 = (-1) then (some (0, o5.2)) else (cl (f_X12_readNumber o5.2 p0 0 29) fun (o6 : Int32 × St) => if o6.1 = 0 then (some (0, o6.2)) else (lt (gI o6.2 p0 15) fun (v7 : Int32) => lt (gI o6.2 p0 14) fun (v8 : Int32) => cl (f_X12_readNumber o6.2 p0 0 29) fun (o9 : Int32 × St) => if o9.1 = 0 then (some (0, o9.2)) else (lt (gR o9.2 p0 0) fun (a10 : Nat) => lt (gI o9.2 p0 15) fun (v12 : Int32) => ldJ o9.2 a10 ((15412 + (30 * v12)) + v7) fun (v13 : Int64) => jn (κ := Option (Int32 × St)) (lt (uI o9.2 p0 14 v8) fun (S16 : St) => cl (f_X12_fail S16 p0 5) fun (o17 : Int32 × St) => zc o17.1 (some (o17.1, o17.2))) fun k14 => if v13 = (Int32.toInt64 o5.1) then (lt (gI o9.2 p0 15) fun (v18 : Int32) => cl (f_X12_hasOutletRead o9.2 p0 v7 v18) fun (v19 : Int32) => if v19 = 0 then (lt (gI o9.2 p0 15) fun (v20 : Int32) => cl (f_X12_putOutlet o9.2 p0 3 o5.1 v7 v20) fun (S21 : St) => cl (f_X12_readEnd S21 p0) fun (o22 : Int32 × St) => zc o22.1 (some (o22.1, o22.2))) else (k14)) else (k14)))))
set_option maxHeartbeats 4000000 in
set_option maxRecDepth 100000 in
theorem c_X12_readOutlet (S : St) (p0 : Nat) : Ct yX12_readOutlet cX12_readOutlet 4 (some .boolean) 4 89 [.ref p0] [(p0, 11)] S (f_X12_readOutlet S p0) oIS sS := by
  refine Ct_of RX12 rfl (by decide) (Nat.le_of_ble_eq_true rfl) 3 (vs := [some (.ref p0), none, none, none]) rfl (fun C X E hr ht => ?_)
  have t0_ : tT C p0 11 := ht (p0, 11) (by simp)
  unfold f_X12_readOutlet
  refine s_run X ok_X12_readOutlet 0 1 (pc' := 1) (vs' := [some (.ref p0), none, none, none]) (st' := [.ref p0]) rfl ?_
  refine s_getR X fl_X12_9 t0_ (dk okd_X12_readOutlet 0 rfl) (fun a1 (t2 : tT C a1 14) => ?_)
  refine s_run X ok_X12_readOutlet 1 1 (pc' := 7) (vs' := [some (.ref p0), none, none, none]) (st' := [.int 15165, .ref a1]) rfl ?_
  refine s_lald X t2 (dk okd_X12_readOutlet 1 rfl) (fun v3 => ?_)
  refine s_ldc2 X cl_X12_146 (dk okd_X12_readOutlet 2 rfl) ?_
  refine s_run X ok_X12_readOutlet 2 1 (pc' := 12) (vs' := [some (.ref p0), none, none, none]) (st' := [.int (lg_cmp v3 16)]) rfl ?_
  refine s_lif_ne (tgt := 21) X (dk okd_X12_readOutlet 3 rfl) (by decide) ?_ ?_
  · refine s_run X ok_X12_readOutlet 5 1 (pc' := 22) (vs' := [some (.ref p0), none, none, none]) (st' := [.ref p0]) rfl ?_
    refine s_callV (rest := []) X E mv_X12_345 (c_X12_advance S p0) (ta1 t0_) rfl (by decide) t0_ rfl rfl (Nat.le_of_ble_eq_true rfl) (Nat.le_of_ble_eq_true rfl) (Nat.le_of_ble_eq_true rfl) (dk okd_X12_readOutlet 6 rfl) (st' := fun S4 => []) (fun _ => rfl) (fun S4 => ?_)
    refine s_run X ok_X12_readOutlet 6 2 (pc' := 27) (vs' := [some (.ref p0), none, none, none]) (st' := [.int 3, .ref p0]) rfl ?_
    refine s_callV (rest := []) X E mv_X12_374 (c_X12_readName S4 p0 3) (ta1 t0_) rfl (by decide) t0_ rfl rfl (Nat.le_of_ble_eq_true rfl) (Nat.le_of_ble_eq_true rfl) (Nat.le_of_ble_eq_true rfl) (dk okd_X12_readOutlet 7 rfl) (st' := fun o5 => [.int o5.1]) (fun _ => rfl) (fun o5 => ?_)
    refine s_run X ok_X12_readOutlet 8 3 (pc' := 33) (vs' := [some (.ref p0), some (.int o5.1), none, none]) (st' := [.int (-1), .int o5.1]) rfl ?_
    refine s_icmp_eq (tgt := 46) X (dk okd_X12_readOutlet 8 rfl) (by decide) ?_ ?_
    · refine s_run X ok_X12_readOutlet 14 1 (pc' := 47) (vs' := [some (.ref p0), some (.int o5.1), none, none]) (st' := [.int 0]) rfl ?_
      exact s_zret0 X hr (dk okd_X12_readOutlet 11 rfl) (by decide) rfl rfl
    · refine s_run X ok_X12_readOutlet 11 3 (pc' := 40) (vs' := [some (.ref p0), some (.int o5.1), none, none]) (st' := [.int 29, .int 0, .ref p0]) rfl ?_
      refine s_callV (rest := []) X E mv_X12_348 (c_X12_readNumber o5.2 p0 0 29) (ta1 t0_) rfl (by decide) t0_ rfl rfl (Nat.le_of_ble_eq_true rfl) (Nat.le_of_ble_eq_true rfl) (Nat.le_of_ble_eq_true rfl) (dk okd_X12_readOutlet 9 rfl) (st' := fun o6 => [.int o6.1]) (fun _ => rfl) (fun o6 => ?_)
      refine s_if_ne (tgt := 48) X (dk okd_X12_readOutlet 10 rfl) (by decide) ?_ ?_
      · refine s_run X ok_X12_readOutlet 15 1 (pc' := 49) (vs' := [some (.ref p0), some (.int o5.1), none, none]) (st' := [.ref p0]) rfl ?_
        refine s_getI X fl_X12_342 t0_ (dk okd_X12_readOutlet 12 rfl) (fun v7 => ?_)
        refine s_run X ok_X12_readOutlet 16 2 (pc' := 54) (vs' := [some (.ref p0), some (.int o5.1), some (.int v7), none]) (st' := [.ref p0]) rfl ?_
        refine s_getI X fl_X12_319 t0_ (dk okd_X12_readOutlet 13 rfl) (fun v8 => ?_)
        refine s_run X ok_X12_readOutlet 18 4 (pc' := 62) (vs' := [some (.ref p0), some (.int o5.1), some (.int v7), some (.int v8)]) (st' := [.int 29, .int 0, .ref p0]) rfl ?_
        refine s_callV (rest := []) X E mv_X12_348 (c_X12_readNumber o6.2 p0 0 29) (ta1 t0_) rfl (by decide) t0_ rfl rfl (Nat.le_of_ble_eq_true rfl) (Nat.le_of_ble_eq_true rfl) (Nat.le_of_ble_eq_true rfl) (dk okd_X12_readOutlet 14 rfl) (st' := fun o9 => [.int o9.1]) (fun _ => rfl) (fun o9 => ?_)
        refine s_if_ne (tgt := 70) X (dk okd_X12_readOutlet 15 rfl) (by decide) ?_ ?_
        · refine s_run X ok_X12_readOutlet 23 1 (pc' := 71) (vs' := [some (.ref p0), some (.int o5.1), some (.int v7), some (.int v8)]) (st' := [.ref p0]) rfl ?_
          refine s_getR X fl_X12_9 t0_ (dk okd_X12_readOutlet 17 rfl) (fun a10 (t11 : tT C a10 14) => ?_)
          refine s_run X ok_X12_readOutlet 24 3 (pc' := 80) (vs' := [some (.ref p0), some (.int o5.1), some (.int v7), some (.int v8)]) (st' := [.ref p0, .int 30, .int 15412, .ref a10]) rfl ?_
          refine s_getI X fl_X12_342 t0_ (dk okd_X12_readOutlet 18 rfl) (fun v12 => ?_)
          refine s_run X ok_X12_readOutlet 27 4 (pc' := 87) (vs' := [some (.ref p0), some (.int o5.1), some (.int v7), some (.int v8)]) (st' := [.int ((15412 + (30 * v12)) + v7), .ref a10]) rfl ?_
          refine s_lald X t11 (dk okd_X12_readOutlet 19 rfl) (fun v13 => ?_)
          refine s_run X ok_X12_readOutlet 31 3 (pc' := 91) (vs' := [some (.ref p0), some (.int o5.1), some (.int v7), some (.int v8)]) (st' := [.int (lg_cmp v13 (Int32.toInt64 o5.1))]) rfl ?_
          refine s_jn (κ := Option (Int32 × St)) (fun k14 => Jd C 4 (QJ C oIS sS) o9.2 106 [some (.ref p0), none, none, some (.int v8)] [] k14) ?_ (fun k14 h15 => ?_)
          · refine s_run X ok_X12_readOutlet 37 2 (pc' := 108) (vs' := [some (.ref p0), none, none, some (.int v8)]) (st' := [.int v8, .ref p0]) rfl ?_
            refine s_putI X fp_X12_319 t0_ (dk okd_X12_readOutlet 24 rfl) (fun S16 => ?_)
            refine s_run X ok_X12_readOutlet 39 2 (pc' := 113) (vs' := [some (.ref p0), none, none, some (.int v8)]) (st' := [.int 5, .ref p0]) rfl ?_
            refine s_callV (rest := []) X E mv_X12_339 (c_X12_fail S16 p0 5) (ta1 t0_) rfl (by decide) t0_ rfl rfl (Nat.le_of_ble_eq_true rfl) (Nat.le_of_ble_eq_true rfl) (Nat.le_of_ble_eq_true rfl) (dk okd_X12_readOutlet 25 rfl) (st' := fun o17 => [.int o17.1]) (fun _ => rfl) (fun o17 => ?_)
            exact s_zret X hr (dk okd_X12_readOutlet 26 rfl) rfl rfl
          · refine s_lif_ne (tgt := 106) X (dk okd_X12_readOutlet 20 rfl) (by decide) ?_ ?_
            · exact s_less [true, false, false, true] rfl (h15)
            · refine s_run X ok_X12_readOutlet 34 3 (pc' := 97) (vs' := [some (.ref p0), some (.int o5.1), some (.int v7), some (.int v8)]) (st' := [.ref p0, .int v7, .ref p0]) rfl ?_
              refine s_getI X fl_X12_342 t0_ (dk okd_X12_readOutlet 21 rfl) (fun v18 => ?_)
              refine s_callV (rest := []) X E mv_X12_380 (c_X12_hasOutletRead o9.2 p0 v7 v18) (ta1 t0_) rfl (by decide) t0_ rfl rfl (Nat.le_of_ble_eq_true rfl) (Nat.le_of_ble_eq_true rfl) (Nat.le_of_ble_eq_true rfl) (dk okd_X12_readOutlet 22 rfl) (st' := fun v19 => [.int v19]) (fun _ => rfl) (fun v19 => ?_)
              refine s_if_eq (tgt := 117) X (dk okd_X12_readOutlet 23 rfl) (by decide) ?_ ?_
              · refine s_run X ok_X12_readOutlet 41 5 (pc' := 122) (vs' := [some (.ref p0), some (.int o5.1), some (.int v7), some (.int v8)]) (st' := [.ref p0, .int v7, .int o5.1, .int 3, .ref p0]) rfl ?_
                refine s_getI X fl_X12_342 t0_ (dk okd_X12_readOutlet 27 rfl) (fun v20 => ?_)
                refine s_callV (rest := []) X E mv_X12_148 (c_X12_putOutlet o9.2 p0 3 o5.1 v7 v20) (ta1 t0_) rfl (by decide) t0_ rfl rfl (Nat.le_of_ble_eq_true rfl) (Nat.le_of_ble_eq_true rfl) (Nat.le_of_ble_eq_true rfl) (dk okd_X12_readOutlet 28 rfl) (st' := fun S21 => []) (fun _ => rfl) (fun S21 => ?_)
                refine s_run X ok_X12_readOutlet 46 1 (pc' := 129) (vs' := [some (.ref p0), some (.int o5.1), some (.int v7), some (.int v8)]) (st' := [.ref p0]) rfl ?_
                refine s_callV (rest := []) X E mv_X12_361 (c_X12_readEnd S21 p0) (ta1 t0_) rfl (by decide) t0_ rfl rfl (Nat.le_of_ble_eq_true rfl) (Nat.le_of_ble_eq_true rfl) (Nat.le_of_ble_eq_true rfl) (dk okd_X12_readOutlet 29 rfl) (st' := fun o22 => [.int o22.1]) (fun _ => rfl) (fun o22 => ?_)
                exact s_zret X hr (dk okd_X12_readOutlet 30 rfl) rfl rfl
              · exact s_less [true, false, false, true] rfl (h15)
        · refine s_run X ok_X12_readOutlet 22 1 (pc' := 69) (vs' := [some (.ref p0), some (.int o5.1), some (.int v7), some (.int v8)]) (st' := [.int 0]) rfl ?_
          exact s_zret0 X hr (dk okd_X12_readOutlet 16 rfl) (by decide) rfl rfl
      · refine s_run X ok_X12_readOutlet 14 1 (pc' := 47) (vs' := [some (.ref p0), some (.int o5.1), none, none]) (st' := [.int 0]) rfl ?_
        exact s_zret0 X hr (dk okd_X12_readOutlet 11 rfl) (by decide) rfl rfl
  · refine s_run X ok_X12_readOutlet 3 2 (pc' := 17) (vs' := [some (.ref p0), none, none, none]) (st' := [.int 4, .ref p0]) rfl ?_
    refine s_callV (rest := []) X E mv_X12_339 (c_X12_fail S p0 4) (ta1 t0_) rfl (by decide) t0_ rfl rfl (Nat.le_of_ble_eq_true rfl) (Nat.le_of_ble_eq_true rfl) (Nat.le_of_ble_eq_true rfl) (dk okd_X12_readOutlet 4 rfl) (st' := fun o23 => [.int o23.1]) (fun _ => rfl) (fun o23 => ?_)
    exact s_zret X hr (dk okd_X12_readOutlet 5 rfl) rfl rfl
def tab_X12_readSetting : List En := [(0, 8, 0, 0), (4, 8, 0, 0), (5, 2, 0, 15162), (8, 4, 1, 0), (9, 17, 0, 0), (10, 0, 0, 0), (11, 4, 2, 0), (12, 6, 3, 0), (19, 8, 0, 0), (26, 0, 0, 1), (27, 41, 31, 0), (30, 0, 0, 0)]
theorem ok_X12_readSetting : tab_X12_readSetting.all (okE cX12_readSetting) = true := by decide +kernel
def ed_X12_readSetting : List (Nat × Instr × Nat) := [(1, .invokevirtual 345, 3), (13, .invokevirtual 355, 3), (16, .ifCond .eq 14, 3), (20, .invokevirtual 361, 3), (23, .ifCond .eq 7, 3), (31, .ireturn, 1)]
theorem okd_X12_readSetting : ed_X12_readSetting.all (okD cX12_readSetting) = true := by decide +kernel
def f_X12_readSetting (S : St) (p0 : Nat) (p1 : Int32) (p2 : Int32) (p3 : Int64) : Option (Int32 × St) := cl (f_X12_advance S p0) fun (S1 : St) => cl (f_X12_readInto S1 p0 (15162 + p1) 0 p2 p3) fun (o2 : Int32 × St) => jn (κ := St → Option (Int32 × St)) (fun S3 => some (0, S3)) fun k4 => if o2.1 = 0 then (k4 o2.2) else (cl (f_X12_readEnd o2.2 p0) fun (o6 : Int32 × St) => if o6.1 = 0 then (k4 o6.2) else (some (1, o6.2)))
set_option maxHeartbeats 4000000 in
set_option maxRecDepth 100000 in
theorem c_X12_readSetting (S : St) (p0 : Nat) (p1 : Int32) (p2 : Int32) (p3 : Int64) : Ct yX12_readSetting cX12_readSetting 5 (some .boolean) 5 113 [.ref p0, .int p1, .int p2, .long p3] [(p0, 11)] S (f_X12_readSetting S p0 p1 p2 p3) oIS sS := by
  refine Ct_of RX12 rfl (by decide) (Nat.le_of_ble_eq_true rfl) 0 (vs := [some (.ref p0), some (.int p1), some (.int p2), some (.long p3), none]) rfl (fun C X E hr ht => ?_)
  have t0_ : tT C p0 11 := ht (p0, 11) (by simp)
  unfold f_X12_readSetting
  refine s_run X ok_X12_readSetting 0 1 (pc' := 1) (vs' := [some (.ref p0), some (.int p1), some (.int p2), some (.long p3), none]) (st' := [.ref p0]) rfl ?_
  refine s_callV (rest := []) X E mv_X12_345 (c_X12_advance S p0) (ta1 t0_) rfl (by decide) t0_ rfl rfl (Nat.le_of_ble_eq_true rfl) (Nat.le_of_ble_eq_true rfl) (Nat.le_of_ble_eq_true rfl) (dk okd_X12_readSetting 0 rfl) (st' := fun S1 => []) (fun _ => rfl) (fun S1 => ?_)
  refine s_run X ok_X12_readSetting 1 7 (pc' := 13) (vs' := [some (.ref p0), some (.int p1), some (.int p2), some (.long p3), none]) (st' := [.long p3, .int p2, .int 0, .int (15162 + p1), .ref p0]) rfl ?_
  refine s_callV (rest := []) X E mv_X12_355 (c_X12_readInto S1 p0 (15162 + p1) 0 p2 p3) (ta1 t0_) rfl (by decide) t0_ rfl rfl (Nat.le_of_ble_eq_true rfl) (Nat.le_of_ble_eq_true rfl) (Nat.le_of_ble_eq_true rfl) (dk okd_X12_readSetting 1 rfl) (st' := fun o2 => [.int o2.1]) (fun _ => rfl) (fun o2 => ?_)
  refine s_jn (κ := St → Option (Int32 × St)) (fun k4 => ∀ (S3 : St), Jd C 5 (QJ C oIS sS) S3 30 [none, none, none, none, none] [] (k4 S3)) (fun S3 => ?_) (fun k4 h5 => ?_)
  · refine s_run X ok_X12_readSetting 11 1 (pc' := 31) (vs' := [none, none, none, none, none]) (st' := [.int 0]) rfl ?_
    exact s_zret0 X hr (dk okd_X12_readSetting 5 rfl) (by decide) rfl rfl
  · refine s_if_eq (tgt := 30) X (dk okd_X12_readSetting 2 rfl) (by decide) ?_ ?_
    · exact s_less [false, false, false, false, false] rfl (h5 o2.2)
    · refine s_run X ok_X12_readSetting 8 1 (pc' := 20) (vs' := [some (.ref p0), some (.int p1), some (.int p2), some (.long p3), none]) (st' := [.ref p0]) rfl ?_
      refine s_callV (rest := []) X E mv_X12_361 (c_X12_readEnd o2.2 p0) (ta1 t0_) rfl (by decide) t0_ rfl rfl (Nat.le_of_ble_eq_true rfl) (Nat.le_of_ble_eq_true rfl) (Nat.le_of_ble_eq_true rfl) (dk okd_X12_readSetting 3 rfl) (st' := fun o6 => [.int o6.1]) (fun _ => rfl) (fun o6 => ?_)
      refine s_if_eq (tgt := 30) X (dk okd_X12_readSetting 4 rfl) (by decide) ?_ ?_
      · exact s_less [false, false, false, false, false] rfl (h5 o6.2)
      · refine s_run X ok_X12_readSetting 9 2 (pc' := 31) (vs' := [some (.ref p0), some (.int p1), some (.int p2), some (.long p3), none]) (st' := [.int 1]) rfl ?_
        exact s_zret0 X hr (dk okd_X12_readSetting 5 rfl) (by decide) rfl rfl
def tab_X12_readStatement : List En := [(0, 8, 0, 0), (60, 8, 0, 0), (65, 8, 0, 0), (70, 8, 0, 0), (75, 8, 0, 0), (80, 8, 0, 0), (84, 8, 0, 0), (85, 2, 0, 15166), (88, 0, 0, 0), (89, 2, 0, 5000), (92, 3, 1, 0), (99, 8, 0, 0), (100, 2, 0, 15167), (103, 0, 0, 0), (104, 2, 0, 9999), (116, 8, 0, 0), (123, 0, 0, 1), (124, 41, 128, 0), (127, 0, 0, 0), (129, 8, 0, 0), (130, 1, 0, 6), (132, 2, 0, 500), (135, 3, 1, 0), (140, 8, 0, 0), (141, 1, 0, 7), (143, 2, 0, 2000), (146, 3, 1, 0), (151, 8, 0, 0), (152, 1, 0, 8), (154, 2, 0, 9999), (164, 8, 0, 0), (165, 1, 0, 9), (167, 1, 0, 12), (169, 3, 1, 0), (174, 8, 0, 0), (175, 1, 0, 10), (177, 2, 0, 999), (180, 3, 1, 0), (185, 8, 0, 0), (186, 0, 0, 1)]
theorem ok_X12_readStatement : tab_X12_readStatement.all (okE cX12_readStatement) = true := by decide +kernel
def ed_X12_readStatement : List (Nat × Instr × Nat) := [(1, .invokevirtual 366, 3), (4, .tableswitch 181 0 9 #[56, 61, 66, 71, 76, 125, 136, 147, 160, 170], 56), (61, .invokevirtual 383, 3), (64, .ireturn, 1), (66, .invokevirtual 386, 3), (69, .ireturn, 1), (71, .invokevirtual 389, 3), (74, .ireturn, 1), (76, .invokevirtual 392, 3), (79, .ireturn, 1), (81, .invokevirtual 345, 3), (93, .invokevirtual 355, 3), (96, .ifCond .eq 31, 3), (107, .ldc2_w 144, 3), (110, .invokevirtual 355, 3), (113, .ifCond .eq 14, 3), (117, .invokevirtual 361, 3), (120, .ifCond .eq 7, 3), (128, .ireturn, 1), (136, .invokevirtual 395, 3), (139, .ireturn, 1), (147, .invokevirtual 395, 3), (150, .ireturn, 1), (157, .ldc2_w 144, 3), (160, .invokevirtual 395, 3), (163, .ireturn, 1), (170, .invokevirtual 395, 3), (173, .ireturn, 1), (181, .invokevirtual 395, 3), (184, .ireturn, 1), (187, .invokevirtual 339, 3), (190, .ireturn, 1)]
theorem okd_X12_readStatement : ed_X12_readStatement.all (okD cX12_readStatement) = true := by decide +kernel
def f_X12_readStatement (S : St) (p0 : Nat) : Option (Int32 × St) := cl (f_X12_statement S p0) fun (v1 : Int32) => if v1 = 0 then (cl (f_X12_readPlan S p0) fun (o2 : Int32 × St) => zc o2.1 (some (o2.1, o2.2))) else (if v1 = 1 then (cl (f_X12_readFranchisee S p0) fun (o3 : Int32 × St) => zc o3.1 (some (o3.1, o3.2))) else (if v1 = 2 then (cl (f_X12_readArea S p0) fun (o4 : Int32 × St) => zc o4.1 (some (o4.1, o4.2))) else (if v1 = 3 then (cl (f_X12_readOutlet S p0) fun (o5 : Int32 × St) => zc o5.1 (some (o5.1, o5.2))) else (if v1 = 4 then (cl (f_X12_advance S p0) fun (S6 : St) => cl (f_X12_readInto S6 p0 15166 0 5000 1) fun (o7 : Int32 × St) => jn (κ := St → Option (Int32 × St)) (fun S8 => some (0, S8)) fun k9 => if o7.1 = 0 then (k9 o7.2) else (cl (f_X12_readInto o7.2 p0 15167 0 9999 100) fun (o11 : Int32 × St) => if o11.1 = 0 then (k9 o11.2) else (cl (f_X12_readEnd o11.2 p0) fun (o12 : Int32 × St) => if o12.1 = 0 then (k9 o12.2) else (some (1, o12.2))))) else (if v1 = 5 then (cl (f_X12_readSetting S p0 6 500 1) fun (o13 : Int32 × St) => zc o13.1 (some (o13.1, o13.2))) else (if v1 = 6 then (cl (f_X12_readSetting S p0 7 2000 1) fun (o14 : Int32 × St) => zc o14.1 (some (o14.1, o14.2))) else (if v1 = 7 then (cl (f_X12_readSetting S p0 8 9999 100) fun (o15 : Int32 × St) => zc o15.1 (some (o15.1, o15.2))) else (if v1 = 8 then (cl (f_X12_readSetting S p0 9 12 1) fun (o16 : Int32 × St) => zc o16.1 (some (o16.1, o16.2))) else (if v1 = 9 then (cl (f_X12_readSetting S p0 10 999 1) fun (o17 : Int32 × St) => zc o17.1 (some (o17.1, o17.2))) else (cl (f_X12_fail S p0 1) fun (o18 : Int32 × St) => zc o18.1 (some (o18.1, o18.2))))))))))))
set_option maxHeartbeats 4000000 in
set_option maxRecDepth 100000 in
theorem c_X12_readStatement (S : St) (p0 : Nat) : Ct yX12_readStatement cX12_readStatement 1 (some .boolean) 6 137 [.ref p0] [(p0, 11)] S (f_X12_readStatement S p0) oIS sS := by
  refine Ct_of RX12 rfl (by decide) (Nat.le_of_ble_eq_true rfl) 0 (vs := [some (.ref p0)]) rfl (fun C X E hr ht => ?_)
  have t0_ : tT C p0 11 := ht (p0, 11) (by simp)
  unfold f_X12_readStatement
  refine s_run X ok_X12_readStatement 0 1 (pc' := 1) (vs' := [some (.ref p0)]) (st' := [.ref p0]) rfl ?_
  refine s_callV (rest := []) X E mv_X12_366 (c_X12_statement S p0) (ta1 t0_) rfl (by decide) t0_ rfl rfl (Nat.le_of_ble_eq_true rfl) (Nat.le_of_ble_eq_true rfl) (Nat.le_of_ble_eq_true rfl) (dk okd_X12_readStatement 0 rfl) (st' := fun v1 => [.int v1]) (fun _ => rfl) (fun v1 => ?_)
  refine s_tabc (c := 0) (tgt := 60) X (dk okd_X12_readStatement 1 rfl) (by decide) (by decide) rfl (by decide) ?_ (fun n0 => ?_)
  · refine s_run X ok_X12_readStatement 1 1 (pc' := 61) (vs' := [some (.ref p0)]) (st' := [.ref p0]) rfl ?_
    refine s_callV (rest := []) X E mv_X12_383 (c_X12_readPlan S p0) (ta1 t0_) rfl (by decide) t0_ rfl rfl (Nat.le_of_ble_eq_true rfl) (Nat.le_of_ble_eq_true rfl) (Nat.le_of_ble_eq_true rfl) (dk okd_X12_readStatement 2 rfl) (st' := fun o2 => [.int o2.1]) (fun _ => rfl) (fun o2 => ?_)
    exact s_zret X hr (dk okd_X12_readStatement 3 rfl) rfl rfl
  refine s_tabc (c := 1) (tgt := 65) X (dk okd_X12_readStatement 1 rfl) (by decide) (by decide) rfl (by decide) ?_ (fun n1 => ?_)
  · refine s_run X ok_X12_readStatement 2 1 (pc' := 66) (vs' := [some (.ref p0)]) (st' := [.ref p0]) rfl ?_
    refine s_callV (rest := []) X E mv_X12_386 (c_X12_readFranchisee S p0) (ta1 t0_) rfl (by decide) t0_ rfl rfl (Nat.le_of_ble_eq_true rfl) (Nat.le_of_ble_eq_true rfl) (Nat.le_of_ble_eq_true rfl) (dk okd_X12_readStatement 4 rfl) (st' := fun o3 => [.int o3.1]) (fun _ => rfl) (fun o3 => ?_)
    exact s_zret X hr (dk okd_X12_readStatement 5 rfl) rfl rfl
  refine s_tabc (c := 2) (tgt := 70) X (dk okd_X12_readStatement 1 rfl) (by decide) (by decide) rfl (by decide) ?_ (fun n2 => ?_)
  · refine s_run X ok_X12_readStatement 3 1 (pc' := 71) (vs' := [some (.ref p0)]) (st' := [.ref p0]) rfl ?_
    refine s_callV (rest := []) X E mv_X12_389 (c_X12_readArea S p0) (ta1 t0_) rfl (by decide) t0_ rfl rfl (Nat.le_of_ble_eq_true rfl) (Nat.le_of_ble_eq_true rfl) (Nat.le_of_ble_eq_true rfl) (dk okd_X12_readStatement 6 rfl) (st' := fun o4 => [.int o4.1]) (fun _ => rfl) (fun o4 => ?_)
    exact s_zret X hr (dk okd_X12_readStatement 7 rfl) rfl rfl
  refine s_tabc (c := 3) (tgt := 75) X (dk okd_X12_readStatement 1 rfl) (by decide) (by decide) rfl (by decide) ?_ (fun n3 => ?_)
  · refine s_run X ok_X12_readStatement 4 1 (pc' := 76) (vs' := [some (.ref p0)]) (st' := [.ref p0]) rfl ?_
    refine s_callV (rest := []) X E mv_X12_392 (c_X12_readOutlet S p0) (ta1 t0_) rfl (by decide) t0_ rfl rfl (Nat.le_of_ble_eq_true rfl) (Nat.le_of_ble_eq_true rfl) (Nat.le_of_ble_eq_true rfl) (dk okd_X12_readStatement 8 rfl) (st' := fun o5 => [.int o5.1]) (fun _ => rfl) (fun o5 => ?_)
    exact s_zret X hr (dk okd_X12_readStatement 9 rfl) rfl rfl
  refine s_tabc (c := 4) (tgt := 80) X (dk okd_X12_readStatement 1 rfl) (by decide) (by decide) rfl (by decide) ?_ (fun n4 => ?_)
  · refine s_run X ok_X12_readStatement 5 1 (pc' := 81) (vs' := [some (.ref p0)]) (st' := [.ref p0]) rfl ?_
    refine s_callV (rest := []) X E mv_X12_345 (c_X12_advance S p0) (ta1 t0_) rfl (by decide) t0_ rfl rfl (Nat.le_of_ble_eq_true rfl) (Nat.le_of_ble_eq_true rfl) (Nat.le_of_ble_eq_true rfl) (dk okd_X12_readStatement 10 rfl) (st' := fun S6 => []) (fun _ => rfl) (fun S6 => ?_)
    refine s_run X ok_X12_readStatement 6 5 (pc' := 93) (vs' := [some (.ref p0)]) (st' := [.long 1, .int 5000, .int 0, .int 15166, .ref p0]) rfl ?_
    refine s_callV (rest := []) X E mv_X12_355 (c_X12_readInto S6 p0 15166 0 5000 1) (ta1 t0_) rfl (by decide) t0_ rfl rfl (Nat.le_of_ble_eq_true rfl) (Nat.le_of_ble_eq_true rfl) (Nat.le_of_ble_eq_true rfl) (dk okd_X12_readStatement 11 rfl) (st' := fun o7 => [.int o7.1]) (fun _ => rfl) (fun o7 => ?_)
    refine s_jn (κ := St → Option (Int32 × St)) (fun k9 => ∀ (S8 : St), Jd C 1 (QJ C oIS sS) S8 127 [none] [] (k9 S8)) (fun S8 => ?_) (fun k9 h10 => ?_)
    · refine s_run X ok_X12_readStatement 18 1 (pc' := 128) (vs' := [none]) (st' := [.int 0]) rfl ?_
      exact s_zret0 X hr (dk okd_X12_readStatement 18 rfl) (by decide) rfl rfl
    · refine s_if_eq (tgt := 127) X (dk okd_X12_readStatement 12 rfl) (by decide) ?_ ?_
      · exact s_less [false] rfl (h10 o7.2)
      · refine s_run X ok_X12_readStatement 11 4 (pc' := 107) (vs' := [some (.ref p0)]) (st' := [.int 9999, .int 0, .int 15167, .ref p0]) rfl ?_
        refine s_ldc2 X cl_X12_144 (dk okd_X12_readStatement 13 rfl) ?_
        refine s_callV (rest := []) X E mv_X12_355 (c_X12_readInto o7.2 p0 15167 0 9999 100) (ta1 t0_) rfl (by decide) t0_ rfl rfl (Nat.le_of_ble_eq_true rfl) (Nat.le_of_ble_eq_true rfl) (Nat.le_of_ble_eq_true rfl) (dk okd_X12_readStatement 14 rfl) (st' := fun o11 => [.int o11.1]) (fun _ => rfl) (fun o11 => ?_)
        refine s_if_eq (tgt := 127) X (dk okd_X12_readStatement 15 rfl) (by decide) ?_ ?_
        · exact s_less [false] rfl (h10 o11.2)
        · refine s_run X ok_X12_readStatement 15 1 (pc' := 117) (vs' := [some (.ref p0)]) (st' := [.ref p0]) rfl ?_
          refine s_callV (rest := []) X E mv_X12_361 (c_X12_readEnd o11.2 p0) (ta1 t0_) rfl (by decide) t0_ rfl rfl (Nat.le_of_ble_eq_true rfl) (Nat.le_of_ble_eq_true rfl) (Nat.le_of_ble_eq_true rfl) (dk okd_X12_readStatement 16 rfl) (st' := fun o12 => [.int o12.1]) (fun _ => rfl) (fun o12 => ?_)
          refine s_if_eq (tgt := 127) X (dk okd_X12_readStatement 17 rfl) (by decide) ?_ ?_
          · exact s_less [false] rfl (h10 o12.2)
          · refine s_run X ok_X12_readStatement 16 2 (pc' := 128) (vs' := [some (.ref p0)]) (st' := [.int 1]) rfl ?_
            exact s_zret0 X hr (dk okd_X12_readStatement 18 rfl) (by decide) rfl rfl
  refine s_tabc (c := 5) (tgt := 129) X (dk okd_X12_readStatement 1 rfl) (by decide) (by decide) rfl (by decide) ?_ (fun n5 => ?_)
  · refine s_run X ok_X12_readStatement 19 4 (pc' := 136) (vs' := [some (.ref p0)]) (st' := [.long 1, .int 500, .int 6, .ref p0]) rfl ?_
    refine s_callV (rest := []) X E mv_X12_395 (c_X12_readSetting S p0 6 500 1) (ta1 t0_) rfl (by decide) t0_ rfl rfl (Nat.le_of_ble_eq_true rfl) (Nat.le_of_ble_eq_true rfl) (Nat.le_of_ble_eq_true rfl) (dk okd_X12_readStatement 19 rfl) (st' := fun o13 => [.int o13.1]) (fun _ => rfl) (fun o13 => ?_)
    exact s_zret X hr (dk okd_X12_readStatement 20 rfl) rfl rfl
  refine s_tabc (c := 6) (tgt := 140) X (dk okd_X12_readStatement 1 rfl) (by decide) (by decide) rfl (by decide) ?_ (fun n6 => ?_)
  · refine s_run X ok_X12_readStatement 23 4 (pc' := 147) (vs' := [some (.ref p0)]) (st' := [.long 1, .int 2000, .int 7, .ref p0]) rfl ?_
    refine s_callV (rest := []) X E mv_X12_395 (c_X12_readSetting S p0 7 2000 1) (ta1 t0_) rfl (by decide) t0_ rfl rfl (Nat.le_of_ble_eq_true rfl) (Nat.le_of_ble_eq_true rfl) (Nat.le_of_ble_eq_true rfl) (dk okd_X12_readStatement 21 rfl) (st' := fun o14 => [.int o14.1]) (fun _ => rfl) (fun o14 => ?_)
    exact s_zret X hr (dk okd_X12_readStatement 22 rfl) rfl rfl
  refine s_tabc (c := 7) (tgt := 151) X (dk okd_X12_readStatement 1 rfl) (by decide) (by decide) rfl (by decide) ?_ (fun n7 => ?_)
  · refine s_run X ok_X12_readStatement 27 3 (pc' := 157) (vs' := [some (.ref p0)]) (st' := [.int 9999, .int 8, .ref p0]) rfl ?_
    refine s_ldc2 X cl_X12_144 (dk okd_X12_readStatement 23 rfl) ?_
    refine s_callV (rest := []) X E mv_X12_395 (c_X12_readSetting S p0 8 9999 100) (ta1 t0_) rfl (by decide) t0_ rfl rfl (Nat.le_of_ble_eq_true rfl) (Nat.le_of_ble_eq_true rfl) (Nat.le_of_ble_eq_true rfl) (dk okd_X12_readStatement 24 rfl) (st' := fun o15 => [.int o15.1]) (fun _ => rfl) (fun o15 => ?_)
    exact s_zret X hr (dk okd_X12_readStatement 25 rfl) rfl rfl
  refine s_tabc (c := 8) (tgt := 164) X (dk okd_X12_readStatement 1 rfl) (by decide) (by decide) rfl (by decide) ?_ (fun n8 => ?_)
  · refine s_run X ok_X12_readStatement 30 4 (pc' := 170) (vs' := [some (.ref p0)]) (st' := [.long 1, .int 12, .int 9, .ref p0]) rfl ?_
    refine s_callV (rest := []) X E mv_X12_395 (c_X12_readSetting S p0 9 12 1) (ta1 t0_) rfl (by decide) t0_ rfl rfl (Nat.le_of_ble_eq_true rfl) (Nat.le_of_ble_eq_true rfl) (Nat.le_of_ble_eq_true rfl) (dk okd_X12_readStatement 26 rfl) (st' := fun o16 => [.int o16.1]) (fun _ => rfl) (fun o16 => ?_)
    exact s_zret X hr (dk okd_X12_readStatement 27 rfl) rfl rfl
  refine s_tabc (c := 9) (tgt := 174) X (dk okd_X12_readStatement 1 rfl) (by decide) (by decide) rfl (by decide) ?_ (fun n9 => ?_)
  · refine s_run X ok_X12_readStatement 34 4 (pc' := 181) (vs' := [some (.ref p0)]) (st' := [.long 1, .int 999, .int 10, .ref p0]) rfl ?_
    refine s_callV (rest := []) X E mv_X12_395 (c_X12_readSetting S p0 10 999 1) (ta1 t0_) rfl (by decide) t0_ rfl rfl (Nat.le_of_ble_eq_true rfl) (Nat.le_of_ble_eq_true rfl) (Nat.le_of_ble_eq_true rfl) (dk okd_X12_readStatement 28 rfl) (st' := fun o17 => [.int o17.1]) (fun _ => rfl) (fun o17 => ?_)
    exact s_zret X hr (dk okd_X12_readStatement 29 rfl) rfl rfl
  refine s_tabd (tgt := 185) X (dk okd_X12_readStatement 1 rfl) (tabout (n := 10) (by decide) (fun j hj => match j, hj with | 0, _ => n0 | 1, _ => n1 | 2, _ => n2 | 3, _ => n3 | 4, _ => n4 | 5, _ => n5 | 6, _ => n6 | 7, _ => n7 | 8, _ => n8 | 9, _ => n9)) (by decide) ?_
  refine s_run X ok_X12_readStatement 38 2 (pc' := 187) (vs' := [some (.ref p0)]) (st' := [.int 1, .ref p0]) rfl ?_
  refine s_callV (rest := []) X E mv_X12_339 (c_X12_fail S p0 1) (ta1 t0_) rfl (by decide) t0_ rfl rfl (Nat.le_of_ble_eq_true rfl) (Nat.le_of_ble_eq_true rfl) (Nat.le_of_ble_eq_true rfl) (dk okd_X12_readStatement 30 rfl) (st' := fun o18 => [.int o18.1]) (fun _ => rfl) (fun o18 => ?_)
  exact s_zret X hr (dk okd_X12_readStatement 31 rfl) rfl rfl
def tab_X12_beginText : List En := [(0, 8, 0, 0), (1, 0, 0, 0), (5, 8, 0, 0), (6, 0, 0, (-1)), (10, 8, 0, 0), (11, 0, 0, 0), (15, 8, 0, 0)]
theorem ok_X12_beginText : tab_X12_beginText.all (okE cX12_beginText) = true := by decide +kernel
def ed_X12_beginText : List (Nat × Instr × Nat) := [(2, .putfield 302, 3), (7, .putfield 33, 3), (12, .putfield 313, 3), (16, .invokevirtual 345, 3), (19, .return_, 1)]
theorem okd_X12_beginText : ed_X12_beginText.all (okD cX12_beginText) = true := by decide +kernel
def f_X12_beginText (S : St) (p0 : Nat) : Option (St) := lt (uI S p0 11 0) fun (S1 : St) => lt (uI S1 p0 12 (-1)) fun (S2 : St) => lt (uI S2 p0 10 0) fun (S3 : St) => cl (f_X12_advance S3 p0) fun (S4 : St) => some S4
set_option maxHeartbeats 4000000 in
set_option maxRecDepth 100000 in
theorem c_X12_beginText (S : St) (p0 : Nat) : Ct yX12_beginText cX12_beginText 1 none 3 66 [.ref p0] [(p0, 11)] S (f_X12_beginText S p0) oV sV := by
  refine Ct_of RX12 rfl (by decide) (Nat.le_of_ble_eq_true rfl) 0 (vs := [some (.ref p0)]) rfl (fun C X E hr ht => ?_)
  have t0_ : tT C p0 11 := ht (p0, 11) (by simp)
  unfold f_X12_beginText
  refine s_run X ok_X12_beginText 0 2 (pc' := 2) (vs' := [some (.ref p0)]) (st' := [.int 0, .ref p0]) rfl ?_
  refine s_putI X fp_X12_302 t0_ (dk okd_X12_beginText 0 rfl) (fun S1 => ?_)
  refine s_run X ok_X12_beginText 2 2 (pc' := 7) (vs' := [some (.ref p0)]) (st' := [.int (-1), .ref p0]) rfl ?_
  refine s_putI X fp_X12_33 t0_ (dk okd_X12_beginText 1 rfl) (fun S2 => ?_)
  refine s_run X ok_X12_beginText 4 2 (pc' := 12) (vs' := [some (.ref p0)]) (st' := [.int 0, .ref p0]) rfl ?_
  refine s_putI X fp_X12_313 t0_ (dk okd_X12_beginText 2 rfl) (fun S3 => ?_)
  refine s_run X ok_X12_beginText 6 1 (pc' := 16) (vs' := [some (.ref p0)]) (st' := [.ref p0]) rfl ?_
  refine s_callV (rest := []) X E mv_X12_345 (c_X12_advance S3 p0) (ta1 t0_) rfl (by decide) t0_ rfl rfl (Nat.le_of_ble_eq_true rfl) (Nat.le_of_ble_eq_true rfl) (Nat.le_of_ble_eq_true rfl) (dk okd_X12_beginText 3 rfl) (st' := fun S4 => []) (fun _ => rfl) (fun S4 => ?_)
  exact s_vret X hr (dk okd_X12_beginText 4 rfl) rfl rfl
def tab_X12_load : List En := [(0, 8, 0, 0), (1, 0, 0, 0), (5, 8, 0, 0), (6, 0, 0, 3), (10, 8, 0, 0), (14, 0, 0, 0), (15, 10, 1, 0), (16, 8, 0, 0), (23, 8, 0, 0), (30, 8, 0, 0), (37, 16, 1, 1), (40, 41, 16, 0), (43, 8, 0, 0), (44, 0, 0, 0), (48, 8, 0, 0), (55, 1, 0, (-4)), (58, 8, 0, 0), (59, 0, 0, 3), (60, 0, 0, 0), (64, 8, 0, 0), (65, 0, 0, 0), (69, 8, 0, 0), (70, 0, 0, 0), (74, 8, 0, 0), (78, 0, 0, 0), (79, 0, 0, 0), (81, 8, 0, 0), (85, 0, 0, 1), (86, 0, 0, 0), (88, 4, 1, 0)]
theorem ok_X12_load : tab_X12_load.all (okE cX12_load) = true := by decide +kernel
def ed_X12_load : List (Nat × Instr × Nat) := [(2, .putfield 50, 3), (7, .invokevirtual 44, 3), (11, .invokevirtual 399, 3), (17, .getfield 302, 3), (20, .ifCond .ne 23, 3), (24, .getfield 332, 3), (27, .ifCond .eq 16, 3), (31, .invokevirtual 402, 3), (34, .ifCond .eq (-18), 3), (45, .putfield 296, 3), (49, .getfield 302, 3), (52, .ifCond .eq 6, 3), (57, .ireturn, 1), (61, .invokevirtual 57, 3), (66, .putfield 75, 3), (71, .putfield 78, 3), (75, .getfield 13, 3), (80, .bastore, 1), (82, .getfield 13, 3), (87, .bastore, 1), (89, .ireturn, 1)]
theorem okd_X12_load : ed_X12_load.all (okD cX12_load) = true := by decide +kernel
def f_X12_load (S : St) (p0 : Nat) : Option (Int32 × St) := lt (uI S p0 2 0) fun (S1 : St) => cl (f_X12_clearBlock S1 p0 3) fun (S2 : St) => cl (f_X12_beginText S2 p0) fun (S3 : St) => jn (κ := Int32 → St → Option (Int32 × St)) (fun x4 S5 => lt (uI S5 p0 9 0) fun (S8 : St) => lt (gI S8 p0 11) fun (v9 : Int32) => if v9 = 0 then (cl (f_X12_copyBlock S8 p0 3 0) fun (S10 : St) => lt (uI S10 p0 19 0) fun (S11 : St) => lt (uI S11 p0 20 0) fun (S12 : St) => lt (gR S12 p0 1) fun (a13 : Nat) => stI S12 a13 0 (vp_nar .boolean 0) fun (S15 : St) => lt (gR S15 p0 1) fun (a16 : Nat) => stI S15 a16 1 (vp_nar .boolean 0) fun (S18 : St) => some (x4, S18)) else (some ((-4), S8))) fun k6 => lp (κ := Int32 → St → Option (Int32 × St)) (fun _ _ => none) (fun k21 x19 S20 => lt (gI S20 p0 11) fun (v23 : Int32) => if v23 = 0 then (lt (gI S20 p0 13) fun (v24 : Int32) => if v24 = 0 then (k6 x19 S20) else (cl (f_X12_readStatement S20 p0) fun (o25 : Int32 × St) => if o25.1 = 0 then (k21 x19 o25.2) else (k21 (x19 + 1) o25.2))) else (k6 x19 S20)) FU 0 S3
set_option maxHeartbeats 4000000 in
set_option maxRecDepth 100000 in
theorem c_X12_load (S : St) (p0 : Nat) : Ct yX12_load cX12_load 2 (some .int) 7 157 [.ref p0] [(p0, 11)] S (f_X12_load S p0) oIS sS := by
  refine Ct_of RX12 rfl (by decide) (Nat.le_of_ble_eq_true rfl) 1 (vs := [some (.ref p0), none]) rfl (fun C X E hr ht => ?_)
  have t0_ : tT C p0 11 := ht (p0, 11) (by simp)
  unfold f_X12_load
  refine s_run X ok_X12_load 0 2 (pc' := 2) (vs' := [some (.ref p0), none]) (st' := [.int 0, .ref p0]) rfl ?_
  refine s_putI X fp_X12_50 t0_ (dk okd_X12_load 0 rfl) (fun S1 => ?_)
  refine s_run X ok_X12_load 2 2 (pc' := 7) (vs' := [some (.ref p0), none]) (st' := [.int 3, .ref p0]) rfl ?_
  refine s_callV (rest := []) X E mv_X12_44 (c_X12_clearBlock S1 p0 3) (ta1 t0_) rfl (by decide) t0_ rfl rfl (Nat.le_of_ble_eq_true rfl) (Nat.le_of_ble_eq_true rfl) (Nat.le_of_ble_eq_true rfl) (dk okd_X12_load 1 rfl) (st' := fun S2 => []) (fun _ => rfl) (fun S2 => ?_)
  refine s_run X ok_X12_load 4 1 (pc' := 11) (vs' := [some (.ref p0), none]) (st' := [.ref p0]) rfl ?_
  refine s_callV (rest := []) X E mv_X12_399 (c_X12_beginText S2 p0) (ta1 t0_) rfl (by decide) t0_ rfl rfl (Nat.le_of_ble_eq_true rfl) (Nat.le_of_ble_eq_true rfl) (Nat.le_of_ble_eq_true rfl) (dk okd_X12_load 2 rfl) (st' := fun S3 => []) (fun _ => rfl) (fun S3 => ?_)
  refine s_run X ok_X12_load 5 2 (pc' := 16) (vs' := [some (.ref p0), some (.int 0)]) (st' := []) rfl ?_
  refine s_jn (κ := Int32 → St → Option (Int32 × St)) (fun k6 => ∀ (x4 : Int32) (S5 : St), Jd C 2 (QJ C oIS sS) S5 43 [some (.ref p0), some (.int x4)] [] (k6 x4 S5)) (fun x4 S5 => ?_) (fun k6 h7 => ?_)
  · refine s_run X ok_X12_load 12 2 (pc' := 45) (vs' := [some (.ref p0), some (.int x4)]) (st' := [.int 0, .ref p0]) rfl ?_
    refine s_putI X fp_X12_296 t0_ (dk okd_X12_load 9 rfl) (fun S8 => ?_)
    refine s_run X ok_X12_load 14 1 (pc' := 49) (vs' := [some (.ref p0), some (.int x4)]) (st' := [.ref p0]) rfl ?_
    refine s_getI X fl_X12_302 t0_ (dk okd_X12_load 10 rfl) (fun v9 => ?_)
    refine s_if_eq (tgt := 58) X (dk okd_X12_load 11 rfl) (by decide) ?_ ?_
    · refine s_run X ok_X12_load 16 3 (pc' := 61) (vs' := [some (.ref p0), some (.int x4)]) (st' := [.int 0, .int 3, .ref p0]) rfl ?_
      refine s_callV (rest := []) X E mv_X12_57 (c_X12_copyBlock S8 p0 3 0) (ta1 t0_) rfl (by decide) t0_ rfl rfl (Nat.le_of_ble_eq_true rfl) (Nat.le_of_ble_eq_true rfl) (Nat.le_of_ble_eq_true rfl) (dk okd_X12_load 13 rfl) (st' := fun S10 => []) (fun _ => rfl) (fun S10 => ?_)
      refine s_run X ok_X12_load 19 2 (pc' := 66) (vs' := [some (.ref p0), some (.int x4)]) (st' := [.int 0, .ref p0]) rfl ?_
      refine s_putI X fp_X12_75 t0_ (dk okd_X12_load 14 rfl) (fun S11 => ?_)
      refine s_run X ok_X12_load 21 2 (pc' := 71) (vs' := [some (.ref p0), some (.int x4)]) (st' := [.int 0, .ref p0]) rfl ?_
      refine s_putI X fp_X12_78 t0_ (dk okd_X12_load 15 rfl) (fun S12 => ?_)
      refine s_run X ok_X12_load 23 1 (pc' := 75) (vs' := [some (.ref p0), some (.int x4)]) (st' := [.ref p0]) rfl ?_
      refine s_getR X fl_X12_13 t0_ (dk okd_X12_load 16 rfl) (fun a13 (t14 : tT C a13 15) => ?_)
      refine s_run X ok_X12_load 24 2 (pc' := 80) (vs' := [some (.ref p0), some (.int x4)]) (st' := [.int 0, .int 0, .ref a13]) rfl ?_
      refine s_zast X t14 (dk okd_X12_load 17 rfl) (fun S15 => ?_)
      refine s_run X ok_X12_load 26 1 (pc' := 82) (vs' := [some (.ref p0), some (.int x4)]) (st' := [.ref p0]) rfl ?_
      refine s_getR X fl_X12_13 t0_ (dk okd_X12_load 18 rfl) (fun a16 (t17 : tT C a16 15) => ?_)
      refine s_run X ok_X12_load 27 2 (pc' := 87) (vs' := [some (.ref p0), some (.int x4)]) (st' := [.int 0, .int 1, .ref a16]) rfl ?_
      refine s_zast X t17 (dk okd_X12_load 19 rfl) (fun S18 => ?_)
      refine s_run X ok_X12_load 29 1 (pc' := 89) (vs' := [some (.ref p0), some (.int x4)]) (st' := [.int x4]) rfl ?_
      exact s_iret X hr (dk okd_X12_load 20 rfl) rfl rfl
    · refine s_run X ok_X12_load 15 1 (pc' := 57) (vs' := [some (.ref p0), some (.int x4)]) (st' := [.int (-4)]) rfl ?_
      exact s_iret X hr (dk okd_X12_load 12 rfl) rfl rfl
  · refine s_lp (κ := Int32 → St → Option (Int32 × St)) (fun k21 => ∀ (x19 : Int32) (S20 : St), Jd C 2 (QJ C oIS sS) S20 16 [some (.ref p0), some (.int x19)] [] (k21 x19 S20)) (fun _ _ => s_none) (fun k21 h22 x19 S20 => ?_) FU 0 S3
    refine s_run X ok_X12_load 7 1 (pc' := 17) (vs' := [some (.ref p0), some (.int x19)]) (st' := [.ref p0]) rfl ?_
    refine s_getI X fl_X12_302 t0_ (dk okd_X12_load 3 rfl) (fun v23 => ?_)
    refine s_if_ne (tgt := 43) X (dk okd_X12_load 4 rfl) (by decide) ?_ ?_
    · exact h7 x19 S20
    · refine s_run X ok_X12_load 8 1 (pc' := 24) (vs' := [some (.ref p0), some (.int x19)]) (st' := [.ref p0]) rfl ?_
      refine s_getI X fl_X12_332 t0_ (dk okd_X12_load 5 rfl) (fun v24 => ?_)
      refine s_if_eq (tgt := 43) X (dk okd_X12_load 6 rfl) (by decide) ?_ ?_
      · exact h7 x19 S20
      · refine s_run X ok_X12_load 9 1 (pc' := 31) (vs' := [some (.ref p0), some (.int x19)]) (st' := [.ref p0]) rfl ?_
        refine s_callV (rest := []) X E mv_X12_402 (c_X12_readStatement S20 p0) (ta1 t0_) rfl (by decide) t0_ rfl rfl (Nat.le_of_ble_eq_true rfl) (Nat.le_of_ble_eq_true rfl) (Nat.le_of_ble_eq_true rfl) (dk okd_X12_load 7 rfl) (st' := fun o25 => [.int o25.1]) (fun _ => rfl) (fun o25 => ?_)
        refine s_if_eq (tgt := 16) X (dk okd_X12_load 8 rfl) (by decide) ?_ ?_
        · exact h22 x19 o25.2
        · refine s_run X ok_X12_load 10 2 (pc' := 16) (vs' := [some (.ref p0), some (.int (x19 + 1))]) (st' := []) rfl ?_
          exact h22 (x19 + 1) o25.2
def tab_X12_entryKind : List En := [(0, 8, 0, 0), (4, 0, 0, 1), (8, 0, 0, (-1)), (10, 8, 0, 0), (14, 1, 0, 115), (16, 1, 0, 97), (18, 1, 0, 108), (20, 1, 0, 101), (22, 1, 0, 115), (27, 40, 0, 0), (31, 0, 0, 0), (33, 8, 0, 0), (37, 1, 0, 100), (39, 1, 0, 101), (41, 1, 0, 108), (43, 1, 0, 105), (45, 1, 0, 118), (53, 25, 0, 0), (54, 1, 0, 101), (56, 1, 0, 114), (58, 0, 0, 0), (59, 0, 0, 0), (60, 0, 0, 0), (64, 23, 0, 0), (65, 40, 0, 0), (69, 0, 0, 1), (71, 8, 0, 0), (75, 1, 0, 112), (77, 1, 0, 97), (79, 1, 0, 121), (81, 0, 0, 0), (82, 0, 0, 0), (86, 40, 0, 0), (90, 0, 0, 2), (92, 8, 0, 0), (96, 1, 0, 103), (98, 1, 0, 114), (100, 1, 0, 97), (102, 1, 0, 110), (104, 1, 0, 116), (109, 40, 0, 0), (113, 0, 0, 3), (115, 8, 0, 0), (119, 1, 0, 99), (121, 1, 0, 97), (123, 1, 0, 109), (125, 1, 0, 112), (127, 1, 0, 97), (135, 25, 0, 0), (136, 1, 0, 105), (138, 1, 0, 103), (140, 1, 0, 110), (142, 0, 0, 0), (143, 0, 0, 0), (147, 23, 0, 0), (148, 40, 0, 0), (152, 0, 0, 4), (154, 8, 0, 0), (158, 1, 0, 118), (160, 1, 0, 111), (162, 1, 0, 116), (164, 1, 0, 101), (166, 0, 0, 0), (170, 40, 0, 0), (174, 0, 0, 5), (176, 8, 0, 0), (180, 1, 0, 99), (182, 1, 0, 108), (184, 1, 0, 111), (186, 1, 0, 115), (188, 1, 0, 101), (193, 40, 0, 0), (197, 1, 0, 6), (199, 41, 203, 0), (202, 0, 0, (-1))]
theorem ok_X12_entryKind : tab_X12_entryKind.all (okE cX12_entryKind) = true := by decide +kernel
def ed_X12_entryKind : List (Nat × Instr × Nat) := [(1, .getfield 332, 3), (5, .if_icmp .eq 5, 3), (9, .ireturn, 1), (11, .getfield 322, 3), (24, .invokestatic 278, 3), (28, .ifCond .ne 5, 3), (32, .ireturn, 1), (34, .getfield 322, 3), (47, .invokestatic 278, 3), (50, .ldc2_w 282, 3), (61, .invokestatic 278, 3), (66, .ifCond .ne 5, 3), (70, .ireturn, 1), (72, .getfield 322, 3), (83, .invokestatic 278, 3), (87, .ifCond .ne 5, 3), (91, .ireturn, 1), (93, .getfield 322, 3), (106, .invokestatic 278, 3), (110, .ifCond .ne 5, 3), (114, .ireturn, 1), (116, .getfield 322, 3), (129, .invokestatic 278, 3), (132, .ldc2_w 284, 3), (144, .invokestatic 278, 3), (149, .ifCond .ne 5, 3), (153, .ireturn, 1), (155, .getfield 322, 3), (167, .invokestatic 278, 3), (171, .ifCond .ne 5, 3), (175, .ireturn, 1), (177, .getfield 322, 3), (190, .invokestatic 278, 3), (194, .ifCond .ne 8, 3), (203, .ireturn, 1)]
theorem okd_X12_entryKind : ed_X12_entryKind.all (okD cX12_entryKind) = true := by decide +kernel
def f_X12_entryKind (S : St) (p0 : Nat) : Option (Int32) := lt (gI S p0 13) fun (v1 : Int32) => if v1 = 1 then (lt (gJ S p0 16) fun (v2 : Int64) => cl (f_X12_pack S 115 97 108 101 115) fun (v3 : Int64) => if v2 = v3 then (some 0) else (lt (gJ S p0 16) fun (v4 : Int64) => cl (f_X12_pack S 100 101 108 105 118) fun (v5 : Int64) => cl (f_X12_pack S 101 114 0 0 0) fun (v6 : Int64) => if v4 = ((v5 * 1024) + v6) then (some 1) else (lt (gJ S p0 16) fun (v7 : Int64) => cl (f_X12_pack S 112 97 121 0 0) fun (v8 : Int64) => if v7 = v8 then (some 2) else (lt (gJ S p0 16) fun (v9 : Int64) => cl (f_X12_pack S 103 114 97 110 116) fun (v10 : Int64) => if v9 = v10 then (some 3) else (lt (gJ S p0 16) fun (v11 : Int64) => cl (f_X12_pack S 99 97 109 112 97) fun (v12 : Int64) => cl (f_X12_pack S 105 103 110 0 0) fun (v13 : Int64) => if v11 = ((v12 * 32768) + v13) then (some 4) else (lt (gJ S p0 16) fun (v14 : Int64) => cl (f_X12_pack S 118 111 116 101 0) fun (v15 : Int64) => if v14 = v15 then (some 5) else (lt (gJ S p0 16) fun (v16 : Int64) => cl (f_X12_pack S 99 108 111 115 101) fun (v17 : Int64) => if v16 = v17 then (some 6) else (some (-1))))))))) else (some (-1))
set_option maxHeartbeats 4000000 in
set_option maxRecDepth 100000 in
theorem c_X12_entryKind (S : St) (p0 : Nat) : Ct yX12_entryKind cX12_entryKind 1 (some .int) 1 26 [.ref p0] [(p0, 11)] S (f_X12_entryKind S p0) oI (fun _ => S) := by
  refine Ct_of RX12 rfl (by decide) (Nat.le_of_ble_eq_true rfl) 0 (vs := [some (.ref p0)]) rfl (fun C X E hr ht => ?_)
  have t0_ : tT C p0 11 := ht (p0, 11) (by simp)
  unfold f_X12_entryKind
  refine s_run X ok_X12_entryKind 0 1 (pc' := 1) (vs' := [some (.ref p0)]) (st' := [.ref p0]) rfl ?_
  refine s_getI X fl_X12_332 t0_ (dk okd_X12_entryKind 0 rfl) (fun v1 => ?_)
  refine s_run X ok_X12_entryKind 1 1 (pc' := 5) (vs' := [some (.ref p0)]) (st' := [.int 1, .int v1]) rfl ?_
  refine s_icmp_eq (tgt := 10) X (dk okd_X12_entryKind 1 rfl) (by decide) ?_ ?_
  · refine s_run X ok_X12_entryKind 3 1 (pc' := 11) (vs' := [some (.ref p0)]) (st' := [.ref p0]) rfl ?_
    refine s_getJ X fl_X12_322 t0_ (dk okd_X12_entryKind 3 rfl) (fun v2 => ?_)
    refine s_run X ok_X12_entryKind 4 5 (pc' := 24) (vs' := [some (.ref p0)]) (st' := [.int 115, .int 101, .int 108, .int 97, .int 115, .long v2]) rfl ?_
    refine s_callS (rest := [.long v2]) X E ms_X12_278 (c_X12_pack S 115 97 108 101 115) (ta0) rfl rfl (Nat.le_of_ble_eq_true rfl) (Nat.le_of_ble_eq_true rfl) (Nat.le_of_ble_eq_true rfl) (dk okd_X12_entryKind 4 rfl) (st' := fun v3 => [.long v3, .long v2]) (fun _ => rfl) (fun v3 => ?_)
    refine s_run X ok_X12_entryKind 9 1 (pc' := 28) (vs' := [some (.ref p0)]) (st' := [.int (lg_cmp v2 v3)]) rfl ?_
    refine s_lif_ne (tgt := 33) X (dk okd_X12_entryKind 5 rfl) (by decide) ?_ ?_
    · refine s_run X ok_X12_entryKind 11 1 (pc' := 34) (vs' := [some (.ref p0)]) (st' := [.ref p0]) rfl ?_
      refine s_getJ X fl_X12_322 t0_ (dk okd_X12_entryKind 7 rfl) (fun v4 => ?_)
      refine s_run X ok_X12_entryKind 12 5 (pc' := 47) (vs' := [some (.ref p0)]) (st' := [.int 118, .int 105, .int 108, .int 101, .int 100, .long v4]) rfl ?_
      refine s_callS (rest := [.long v4]) X E ms_X12_278 (c_X12_pack S 100 101 108 105 118) (ta0) rfl rfl (Nat.le_of_ble_eq_true rfl) (Nat.le_of_ble_eq_true rfl) (Nat.le_of_ble_eq_true rfl) (dk okd_X12_entryKind 8 rfl) (st' := fun v5 => [.long v5, .long v4]) (fun _ => rfl) (fun v5 => ?_)
      refine s_ldc2 X cl_X12_282 (dk okd_X12_entryKind 9 rfl) ?_
      refine s_run X ok_X12_entryKind 17 6 (pc' := 61) (vs' := [some (.ref p0)]) (st' := [.int 0, .int 0, .int 0, .int 114, .int 101, .long (v5 * 1024), .long v4]) rfl ?_
      refine s_callS (rest := [.long (v5 * 1024), .long v4]) X E ms_X12_278 (c_X12_pack S 101 114 0 0 0) (ta0) rfl rfl (Nat.le_of_ble_eq_true rfl) (Nat.le_of_ble_eq_true rfl) (Nat.le_of_ble_eq_true rfl) (dk okd_X12_entryKind 10 rfl) (st' := fun v6 => [.long v6, .long (v5 * 1024), .long v4]) (fun _ => rfl) (fun v6 => ?_)
      refine s_run X ok_X12_entryKind 23 2 (pc' := 66) (vs' := [some (.ref p0)]) (st' := [.int (lg_cmp v4 ((v5 * 1024) + v6))]) rfl ?_
      refine s_lif_ne (tgt := 71) X (dk okd_X12_entryKind 11 rfl) (by decide) ?_ ?_
      · refine s_run X ok_X12_entryKind 26 1 (pc' := 72) (vs' := [some (.ref p0)]) (st' := [.ref p0]) rfl ?_
        refine s_getJ X fl_X12_322 t0_ (dk okd_X12_entryKind 13 rfl) (fun v7 => ?_)
        refine s_run X ok_X12_entryKind 27 5 (pc' := 83) (vs' := [some (.ref p0)]) (st' := [.int 0, .int 0, .int 121, .int 97, .int 112, .long v7]) rfl ?_
        refine s_callS (rest := [.long v7]) X E ms_X12_278 (c_X12_pack S 112 97 121 0 0) (ta0) rfl rfl (Nat.le_of_ble_eq_true rfl) (Nat.le_of_ble_eq_true rfl) (Nat.le_of_ble_eq_true rfl) (dk okd_X12_entryKind 14 rfl) (st' := fun v8 => [.long v8, .long v7]) (fun _ => rfl) (fun v8 => ?_)
        refine s_run X ok_X12_entryKind 32 1 (pc' := 87) (vs' := [some (.ref p0)]) (st' := [.int (lg_cmp v7 v8)]) rfl ?_
        refine s_lif_ne (tgt := 92) X (dk okd_X12_entryKind 15 rfl) (by decide) ?_ ?_
        · refine s_run X ok_X12_entryKind 34 1 (pc' := 93) (vs' := [some (.ref p0)]) (st' := [.ref p0]) rfl ?_
          refine s_getJ X fl_X12_322 t0_ (dk okd_X12_entryKind 17 rfl) (fun v9 => ?_)
          refine s_run X ok_X12_entryKind 35 5 (pc' := 106) (vs' := [some (.ref p0)]) (st' := [.int 116, .int 110, .int 97, .int 114, .int 103, .long v9]) rfl ?_
          refine s_callS (rest := [.long v9]) X E ms_X12_278 (c_X12_pack S 103 114 97 110 116) (ta0) rfl rfl (Nat.le_of_ble_eq_true rfl) (Nat.le_of_ble_eq_true rfl) (Nat.le_of_ble_eq_true rfl) (dk okd_X12_entryKind 18 rfl) (st' := fun v10 => [.long v10, .long v9]) (fun _ => rfl) (fun v10 => ?_)
          refine s_run X ok_X12_entryKind 40 1 (pc' := 110) (vs' := [some (.ref p0)]) (st' := [.int (lg_cmp v9 v10)]) rfl ?_
          refine s_lif_ne (tgt := 115) X (dk okd_X12_entryKind 19 rfl) (by decide) ?_ ?_
          · refine s_run X ok_X12_entryKind 42 1 (pc' := 116) (vs' := [some (.ref p0)]) (st' := [.ref p0]) rfl ?_
            refine s_getJ X fl_X12_322 t0_ (dk okd_X12_entryKind 21 rfl) (fun v11 => ?_)
            refine s_run X ok_X12_entryKind 43 5 (pc' := 129) (vs' := [some (.ref p0)]) (st' := [.int 97, .int 112, .int 109, .int 97, .int 99, .long v11]) rfl ?_
            refine s_callS (rest := [.long v11]) X E ms_X12_278 (c_X12_pack S 99 97 109 112 97) (ta0) rfl rfl (Nat.le_of_ble_eq_true rfl) (Nat.le_of_ble_eq_true rfl) (Nat.le_of_ble_eq_true rfl) (dk okd_X12_entryKind 22 rfl) (st' := fun v12 => [.long v12, .long v11]) (fun _ => rfl) (fun v12 => ?_)
            refine s_ldc2 X cl_X12_284 (dk okd_X12_entryKind 23 rfl) ?_
            refine s_run X ok_X12_entryKind 48 6 (pc' := 144) (vs' := [some (.ref p0)]) (st' := [.int 0, .int 0, .int 110, .int 103, .int 105, .long (v12 * 32768), .long v11]) rfl ?_
            refine s_callS (rest := [.long (v12 * 32768), .long v11]) X E ms_X12_278 (c_X12_pack S 105 103 110 0 0) (ta0) rfl rfl (Nat.le_of_ble_eq_true rfl) (Nat.le_of_ble_eq_true rfl) (Nat.le_of_ble_eq_true rfl) (dk okd_X12_entryKind 24 rfl) (st' := fun v13 => [.long v13, .long (v12 * 32768), .long v11]) (fun _ => rfl) (fun v13 => ?_)
            refine s_run X ok_X12_entryKind 54 2 (pc' := 149) (vs' := [some (.ref p0)]) (st' := [.int (lg_cmp v11 ((v12 * 32768) + v13))]) rfl ?_
            refine s_lif_ne (tgt := 154) X (dk okd_X12_entryKind 25 rfl) (by decide) ?_ ?_
            · refine s_run X ok_X12_entryKind 57 1 (pc' := 155) (vs' := [some (.ref p0)]) (st' := [.ref p0]) rfl ?_
              refine s_getJ X fl_X12_322 t0_ (dk okd_X12_entryKind 27 rfl) (fun v14 => ?_)
              refine s_run X ok_X12_entryKind 58 5 (pc' := 167) (vs' := [some (.ref p0)]) (st' := [.int 0, .int 101, .int 116, .int 111, .int 118, .long v14]) rfl ?_
              refine s_callS (rest := [.long v14]) X E ms_X12_278 (c_X12_pack S 118 111 116 101 0) (ta0) rfl rfl (Nat.le_of_ble_eq_true rfl) (Nat.le_of_ble_eq_true rfl) (Nat.le_of_ble_eq_true rfl) (dk okd_X12_entryKind 28 rfl) (st' := fun v15 => [.long v15, .long v14]) (fun _ => rfl) (fun v15 => ?_)
              refine s_run X ok_X12_entryKind 63 1 (pc' := 171) (vs' := [some (.ref p0)]) (st' := [.int (lg_cmp v14 v15)]) rfl ?_
              refine s_lif_ne (tgt := 176) X (dk okd_X12_entryKind 29 rfl) (by decide) ?_ ?_
              · refine s_run X ok_X12_entryKind 65 1 (pc' := 177) (vs' := [some (.ref p0)]) (st' := [.ref p0]) rfl ?_
                refine s_getJ X fl_X12_322 t0_ (dk okd_X12_entryKind 31 rfl) (fun v16 => ?_)
                refine s_run X ok_X12_entryKind 66 5 (pc' := 190) (vs' := [some (.ref p0)]) (st' := [.int 101, .int 115, .int 111, .int 108, .int 99, .long v16]) rfl ?_
                refine s_callS (rest := [.long v16]) X E ms_X12_278 (c_X12_pack S 99 108 111 115 101) (ta0) rfl rfl (Nat.le_of_ble_eq_true rfl) (Nat.le_of_ble_eq_true rfl) (Nat.le_of_ble_eq_true rfl) (dk okd_X12_entryKind 32 rfl) (st' := fun v17 => [.long v17, .long v16]) (fun _ => rfl) (fun v17 => ?_)
                refine s_run X ok_X12_entryKind 71 1 (pc' := 194) (vs' := [some (.ref p0)]) (st' := [.int (lg_cmp v16 v17)]) rfl ?_
                refine s_lif_ne (tgt := 202) X (dk okd_X12_entryKind 33 rfl) (by decide) ?_ ?_
                · refine s_run X ok_X12_entryKind 74 1 (pc' := 203) (vs' := [some (.ref p0)]) (st' := [.int (-1)]) rfl ?_
                  exact s_iret X hr (dk okd_X12_entryKind 34 rfl) rfl rfl
                · refine s_run X ok_X12_entryKind 72 2 (pc' := 203) (vs' := [some (.ref p0)]) (st' := [.int 6]) rfl ?_
                  exact s_iret X hr (dk okd_X12_entryKind 34 rfl) rfl rfl
              · refine s_run X ok_X12_entryKind 64 1 (pc' := 175) (vs' := [some (.ref p0)]) (st' := [.int 5]) rfl ?_
                exact s_iret X hr (dk okd_X12_entryKind 30 rfl) rfl rfl
            · refine s_run X ok_X12_entryKind 56 1 (pc' := 153) (vs' := [some (.ref p0)]) (st' := [.int 4]) rfl ?_
              exact s_iret X hr (dk okd_X12_entryKind 26 rfl) rfl rfl
          · refine s_run X ok_X12_entryKind 41 1 (pc' := 114) (vs' := [some (.ref p0)]) (st' := [.int 3]) rfl ?_
            exact s_iret X hr (dk okd_X12_entryKind 20 rfl) rfl rfl
        · refine s_run X ok_X12_entryKind 33 1 (pc' := 91) (vs' := [some (.ref p0)]) (st' := [.int 2]) rfl ?_
          exact s_iret X hr (dk okd_X12_entryKind 16 rfl) rfl rfl
      · refine s_run X ok_X12_entryKind 25 1 (pc' := 70) (vs' := [some (.ref p0)]) (st' := [.int 1]) rfl ?_
        exact s_iret X hr (dk okd_X12_entryKind 12 rfl) rfl rfl
    · refine s_run X ok_X12_entryKind 10 1 (pc' := 32) (vs' := [some (.ref p0)]) (st' := [.int 0]) rfl ?_
      exact s_iret X hr (dk okd_X12_entryKind 6 rfl) rfl rfl
  · refine s_run X ok_X12_entryKind 2 1 (pc' := 9) (vs' := [some (.ref p0)]) (st' := [.int (-1)]) rfl ?_
    exact s_iret X hr (dk okd_X12_entryKind 2 rfl) rfl rfl
def tab_X12_readPart : List En := [(0, 8, 0, 0), (1, 4, 2, 0), (2, 4, 3, 0), (9, 0, 0, 0), (11, 8, 0, 0), (15, 4, 1, 0), (16, 8, 0, 0), (21, 0, 0, 1)]
theorem ok_X12_readPart : tab_X12_readPart.all (okE cX12_readPart) = true := by decide +kernel
def ed_X12_readPart : List (Nat × Instr × Nat) := [(3, .invokevirtual 348, 3), (6, .ifCond .ne 5, 3), (10, .ireturn, 1), (12, .getfield 41, 3), (17, .getfield 342, 3), (20, .iastore, 1), (22, .ireturn, 1)]
theorem okd_X12_readPart : ed_X12_readPart.all (okD cX12_readPart) = true := by decide +kernel
def f_X12_readPart (S : St) (p0 : Nat) (p1 : Int32) (p2 : Int32) (p3 : Int32) : Option (Int32 × St) := cl (f_X12_readNumber S p0 p2 p3) fun (o1 : Int32 × St) => if o1.1 = 0 then (some (0, o1.2)) else (lt (gR o1.2 p0 18) fun (a2 : Nat) => lt (gI o1.2 p0 15) fun (v4 : Int32) => stI o1.2 a2 p1 v4 fun (S5 : St) => some (1, S5))
set_option maxHeartbeats 4000000 in
set_option maxRecDepth 100000 in
theorem c_X12_readPart (S : St) (p0 : Nat) (p1 : Int32) (p2 : Int32) (p3 : Int32) : Ct yX12_readPart cX12_readPart 4 (some .boolean) 4 88 [.ref p0, .int p1, .int p2, .int p3] [(p0, 11)] S (f_X12_readPart S p0 p1 p2 p3) oIS sS := by
  refine Ct_of RX12 rfl (by decide) (Nat.le_of_ble_eq_true rfl) 0 (vs := [some (.ref p0), some (.int p1), some (.int p2), some (.int p3)]) rfl (fun C X E hr ht => ?_)
  have t0_ : tT C p0 11 := ht (p0, 11) (by simp)
  unfold f_X12_readPart
  refine s_run X ok_X12_readPart 0 3 (pc' := 3) (vs' := [some (.ref p0), some (.int p1), some (.int p2), some (.int p3)]) (st' := [.int p3, .int p2, .ref p0]) rfl ?_
  refine s_callV (rest := []) X E mv_X12_348 (c_X12_readNumber S p0 p2 p3) (ta1 t0_) rfl (by decide) t0_ rfl rfl (Nat.le_of_ble_eq_true rfl) (Nat.le_of_ble_eq_true rfl) (Nat.le_of_ble_eq_true rfl) (dk okd_X12_readPart 0 rfl) (st' := fun o1 => [.int o1.1]) (fun _ => rfl) (fun o1 => ?_)
  refine s_if_ne (tgt := 11) X (dk okd_X12_readPart 1 rfl) (by decide) ?_ ?_
  · refine s_run X ok_X12_readPart 4 1 (pc' := 12) (vs' := [some (.ref p0), some (.int p1), some (.int p2), some (.int p3)]) (st' := [.ref p0]) rfl ?_
    refine s_getR X fl_X12_41 t0_ (dk okd_X12_readPart 3 rfl) (fun a2 (t3 : tT C a2 13) => ?_)
    refine s_run X ok_X12_readPart 5 2 (pc' := 17) (vs' := [some (.ref p0), some (.int p1), some (.int p2), some (.int p3)]) (st' := [.ref p0, .int p1, .ref a2]) rfl ?_
    refine s_getI X fl_X12_342 t0_ (dk okd_X12_readPart 4 rfl) (fun v4 => ?_)
    refine s_iast X t3 (dk okd_X12_readPart 5 rfl) (fun S5 => ?_)
    refine s_run X ok_X12_readPart 7 1 (pc' := 22) (vs' := [some (.ref p0), some (.int p1), some (.int p2), some (.int p3)]) (st' := [.int 1]) rfl ?_
    exact s_zret0 X hr (dk okd_X12_readPart 6 rfl) (by decide) rfl rfl
  · refine s_run X ok_X12_readPart 3 1 (pc' := 10) (vs' := [some (.ref p0), some (.int p1), some (.int p2), some (.int p3)]) (st' := [.int 0]) rfl ?_
    exact s_zret0 X hr (dk okd_X12_readPart 2 rfl) (by decide) rfl rfl
