theorem ci_J6_265 : Cond.constant RJ6 265 1431655765 ∈ TT := TT_5 (i := 112) rfl rfl
theorem ci_J6_266 : Cond.constant RJ6 266 858993459 ∈ TT := TT_5 (i := 113) rfl rfl
theorem ci_J6_267 : Cond.constant RJ6 267 252645135 ∈ TT := TT_5 (i := 114) rfl rfl
theorem ci_X12_408 : Cond.constant RX12 408 100000 ∈ TT := TT_10 (i := 161) rfl rfl
theorem ci_X12_412 : Cond.constant RX12 412 999999 ∈ TT := TT_10 (i := 166) rfl rfl
theorem cl_X12_282 : Cond.constantLong RX12 282 1024 ∈ TT := TT_10 (i := 14) rfl rfl
theorem cl_X12_284 : Cond.constantLong RX12 284 32768 ∈ TT := TT_10 (i := 15) rfl rfl
theorem cl_X12_351 : Cond.constantLong RX12 351 33554432 ∈ TT := TT_10 (i := 85) rfl rfl
theorem cl_X12_353 : Cond.constantLong RX12 353 116 ∈ TT := TT_10 (i := 86) rfl rfl
theorem cl_X12_359 : Cond.constantLong RX12 359 99999 ∈ TT := TT_10 (i := 103) rfl rfl
theorem cl_X12_364 : Cond.constantLong RX12 364 8 ∈ TT := TT_10 (i := 112) rfl rfl
theorem cl_X12_459 : Cond.constantLong RX12 459 40 ∈ TT := TT_10 (i := 175) rfl rfl
theorem fl_X1_21 : FL RX1 21 1 1 2 := ⟨RX1, TX1, 7, rfl, by decide, uw_X1, TT_2 (i := 88) rfl rfl, rfl, rfl, by decide⟩
theorem fl_X1_28 : FL RX1 28 1 2 2 := ⟨RX1, TX1, 7, rfl, by decide, uw_X1, TT_2 (i := 91) rfl rfl, rfl, rfl, by decide⟩
theorem fl_X1_35 : FL RX1 35 1 3 2 := ⟨RX1, TX1, 7, rfl, by decide, uw_X1, TT_2 (i := 95) rfl rfl, rfl, rfl, by decide⟩
theorem fl_X12_342 : FL RX12 342 11 15 0 := ⟨RX12, TX12, 22, rfl, by decide, uw_X12, TT_8 (i := 0) rfl rfl, rfl, rfl, by decide⟩
theorem fl_X12_37 : FL RX12 37 11 17 2 := ⟨RX12, TX12, 22, rfl, by decide, uw_X12, TT_8 (i := 2) rfl rfl, rfl, rfl, by decide⟩
theorem fl_X12_41 : FL RX12 41 11 18 2 := ⟨RX12, TX12, 22, rfl, by decide, uw_X12, TT_8 (i := 3) rfl rfl, rfl, rfl, by decide⟩
theorem fl_X12_419 : FL RX12 419 11 21 0 := ⟨RX12, TX12, 22, rfl, by decide, uw_X12, TT_8 (i := 6) rfl rfl, rfl, rfl, by decide⟩
theorem fp_X12_302 : FP RX12 302 11 11 0 := ⟨RX12, TX12, 22, tyX12, tyX12 11, rfl, by decide, uw_X12, TT_7 (i := 236) rfl rfl, rfl, rfl, by decide, tyX12_ok, nmX12, rfl, tyX12_ok 11 (by decide), fun h => rfl, fun h => absurd h (by decide), fun h => absurd h (by decide)⟩
theorem fp_X12_33 : FP RX12 33 11 12 0 := ⟨RX12, TX12, 22, tyX12, tyX12 12, rfl, by decide, uw_X12, TT_7 (i := 237) rfl rfl, rfl, rfl, by decide, tyX12_ok, nmX12, rfl, tyX12_ok 12 (by decide), fun h => rfl, fun h => absurd h (by decide), fun h => absurd h (by decide)⟩
theorem fp_X12_342 : FP RX12 342 11 15 0 := ⟨RX12, TX12, 22, tyX12, tyX12 15, rfl, by decide, uw_X12, TT_8 (i := 0) rfl rfl, rfl, rfl, by decide, tyX12_ok, nmX12, rfl, tyX12_ok 15 (by decide), fun h => rfl, fun h => absurd h (by decide), fun h => absurd h (by decide)⟩
theorem fp_X12_419 : FP RX12 419 11 21 0 := ⟨RX12, TX12, 22, tyX12, tyX12 21, rfl, by decide, uw_X12, TT_8 (i := 6) rfl rfl, rfl, rfl, by decide, tyX12_ok, nmX12, rfl, tyX12_ok 21 (by decide), fun h => rfl, fun h => absurd h (by decide), fun h => absurd h (by decide)⟩
theorem fp_X12_75 : FP RX12 75 11 19 0 := ⟨RX12, TX12, 22, tyX12, tyX12 19, rfl, by decide, uw_X12, TT_8 (i := 4) rfl rfl, rfl, rfl, by decide, tyX12_ok, nmX12, rfl, tyX12_ok 19 (by decide), fun h => rfl, fun h => absurd h (by decide), fun h => absurd h (by decide)⟩
theorem fp_X12_78 : FP RX12 78 11 20 0 := ⟨RX12, TX12, 22, tyX12, tyX12 20, rfl, by decide, uw_X12, TT_8 (i := 5) rfl rfl, rfl, rfl, by decide, tyX12_ok, nmX12, rfl, tyX12_ok 20 (by decide), fun h => rfl, fun h => absurd h (by decide), fun h => absurd h (by decide)⟩
theorem ms_X0_30 : MS RX0 30 yJ7_fill_d0a16 cJ7_fill_d0a16 5 none 2 := ⟨TT_2 (i := 146) rfl rfl, TT_2 (i := 147) rfl rfl, TT_1 (i := 11) rfl rfl, TT_2 (i := 148) rfl rfl, ⟨by decide, by decide, by decide +kernel⟩⟩
theorem ms_X12_278 : MS RX12 278 yX12_pack cX12_pack 7 (some .long) 5 := ⟨TT_10 (i := 9) rfl rfl, TT_10 (i := 10) rfl rfl, TT_1 (i := 13) rfl rfl, TT_10 (i := 11) rfl rfl, ⟨by decide, by decide, by decide +kernel⟩⟩
theorem mv_X0_62 : MV RX0 62 yX0_salesOfAllMonths cX0_salesOfAllMonths 5 (some .long) 1 := ⟨TT_4 (i := 47) rfl rfl, TT_4 (i := 49) rfl rfl, TT_s (i := 8) (by decide +kernel) (by decide +kernel), TT_1 (i := 10) rfl rfl, TT_4 (i := 50) rfl rfl, ⟨by decide, by decide, by decide +kernel⟩⟩
theorem mv_X1_68 : MV RX1 68 yX3_copyFrom cX3_copyFrom 2 none 1 := ⟨TT_4 (i := 93) rfl rfl, TT_4 (i := 94) rfl rfl, TT_4 (i := 95) rfl rfl, TT_1 (i := 4) rfl rfl, TT_4 (i := 96) rfl rfl, ⟨by decide, by decide, by decide +kernel⟩⟩
theorem mv_X1_72 : MV RX1 72 yX6_copyFrom cX6_copyFrom 2 none 1 := ⟨TT_4 (i := 98) rfl rfl, TT_4 (i := 99) rfl rfl, TT_4 (i := 100) rfl rfl, TT_1 (i := 7) rfl rfl, TT_4 (i := 101) rfl rfl, ⟨by decide, by decide, by decide +kernel⟩⟩
theorem mv_X1_75 : MV RX1 75 yX2_copyFrom cX2_copyFrom 2 none 1 := ⟨TT_4 (i := 103) rfl rfl, TT_4 (i := 104) rfl rfl, TT_4 (i := 105) rfl rfl, TT_1 (i := 8) rfl rfl, TT_4 (i := 106) rfl rfl, ⟨by decide, by decide, by decide +kernel⟩⟩
theorem mv_X1_78 : MV RX1 78 yX10_copyFrom cX10_copyFrom 2 none 1 := ⟨TT_4 (i := 107) rfl rfl, TT_4 (i := 108) rfl rfl, TT_4 (i := 109) rfl rfl, TT_1 (i := 9) rfl rfl, TT_4 (i := 110) rfl rfl, ⟨by decide, by decide, by decide +kernel⟩⟩
theorem mv_X1_81 : MV RX1 81 yX0_copyFrom cX0_copyFrom 3 none 1 := ⟨TT_4 (i := 112) rfl rfl, TT_4 (i := 113) rfl rfl, TT_4 (i := 114) rfl rfl, TT_1 (i := 10) rfl rfl, TT_4 (i := 115) rfl rfl, ⟨by decide, by decide, by decide +kernel⟩⟩
theorem mv_X12_339 : MV RX12 339 yX12_fail cX12_fail 2 (some .boolean) 1 := ⟨TT_10 (i := 91) rfl rfl, TT_10 (i := 93) rfl rfl, TT_s (i := 83) (by decide +kernel) (by decide +kernel), TT_1 (i := 13) rfl rfl, TT_10 (i := 94) rfl rfl, ⟨by decide, by decide, by decide +kernel⟩⟩
theorem mv_X12_345 : MV RX12 345 yX12_advance cX12_advance 2 none 0 := ⟨TT_10 (i := 59) rfl rfl, TT_10 (i := 61) rfl rfl, TT_s (i := 78) (by decide +kernel) (by decide +kernel), TT_1 (i := 13) rfl rfl, TT_10 (i := 62) rfl rfl, ⟨by decide, by decide, by decide +kernel⟩⟩
theorem mv_X12_348 : MV RX12 348 yX12_readNumber cX12_readNumber 3 (some .boolean) 2 := ⟨TT_10 (i := 99) rfl rfl, TT_10 (i := 101) rfl rfl, TT_s (i := 85) (by decide +kernel) (by decide +kernel), TT_1 (i := 13) rfl rfl, TT_10 (i := 102) rfl rfl, ⟨by decide, by decide, by decide +kernel⟩⟩
theorem mv_X12_355 : MV RX12 355 yX12_readInto cX12_readInto 6 (some .boolean) 4 := ⟨TT_10 (i := 95) rfl rfl, TT_10 (i := 97) rfl rfl, TT_s (i := 84) (by decide +kernel) (by decide +kernel), TT_1 (i := 13) rfl rfl, TT_10 (i := 98) rfl rfl, ⟨by decide, by decide, by decide +kernel⟩⟩
theorem mv_X12_361 : MV RX12 361 yX12_readEnd cX12_readEnd 1 (some .boolean) 0 := ⟨TT_10 (i := 104) rfl rfl, TT_10 (i := 106) rfl rfl, TT_s (i := 86) (by decide +kernel) (by decide +kernel), TT_1 (i := 13) rfl rfl, TT_10 (i := 107) rfl rfl, ⟨by decide, by decide, by decide +kernel⟩⟩
theorem mv_X12_366 : MV RX12 366 yX12_statement cX12_statement 1 (some .int) 0 := ⟨TT_10 (i := 81) rfl rfl, TT_10 (i := 83) rfl rfl, TT_s (i := 81) (by decide +kernel) (by decide +kernel), TT_1 (i := 13) rfl rfl, TT_10 (i := 84) rfl rfl, ⟨by decide, by decide, by decide +kernel⟩⟩
theorem mv_X12_370 : MV RX12 370 yX12_named cX12_named 5 (some .int) 2 := ⟨TT_10 (i := 113) rfl rfl, TT_10 (i := 115) rfl rfl, TT_s (i := 88) (by decide +kernel) (by decide +kernel), TT_1 (i := 13) rfl rfl, TT_10 (i := 116) rfl rfl, ⟨by decide, by decide, by decide +kernel⟩⟩
theorem mv_X12_374 : MV RX12 374 yX12_readName cX12_readName 4 (some .int) 1 := ⟨TT_10 (i := 121) rfl rfl, TT_10 (i := 123) rfl rfl, TT_s (i := 90) (by decide +kernel) (by decide +kernel), TT_1 (i := 13) rfl rfl, TT_10 (i := 124) rfl rfl, ⟨by decide, by decide, by decide +kernel⟩⟩
theorem mv_X12_377 : MV RX12 377 yX12_hasOther cX12_hasOther 7 (some .boolean) 5 := ⟨TT_10 (i := 125) rfl rfl, TT_10 (i := 127) rfl rfl, TT_s (i := 91) (by decide +kernel) (by decide +kernel), TT_1 (i := 13) rfl rfl, TT_10 (i := 128) rfl rfl, ⟨by decide, by decide, by decide +kernel⟩⟩
theorem mv_X12_380 : MV RX12 380 yX12_hasOutletRead cX12_hasOutletRead 4 (some .boolean) 2 := ⟨TT_10 (i := 133) rfl rfl, TT_10 (i := 135) rfl rfl, TT_s (i := 93) (by decide +kernel) (by decide +kernel), TT_1 (i := 13) rfl rfl, TT_10 (i := 136) rfl rfl, ⟨by decide, by decide, by decide +kernel⟩⟩
theorem mv_X12_383 : MV RX12 383 yX12_readPlan cX12_readPlan 4 (some .boolean) 0 := ⟨TT_10 (i := 87) rfl rfl, TT_10 (i := 89) rfl rfl, TT_s (i := 82) (by decide +kernel) (by decide +kernel), TT_1 (i := 13) rfl rfl, TT_10 (i := 90) rfl rfl, ⟨by decide, by decide, by decide +kernel⟩⟩
theorem mv_X12_386 : MV RX12 386 yX12_readFranchisee cX12_readFranchisee 2 (some .boolean) 0 := ⟨TT_10 (i := 108) rfl rfl, TT_10 (i := 110) rfl rfl, TT_s (i := 87) (by decide +kernel) (by decide +kernel), TT_1 (i := 13) rfl rfl, TT_10 (i := 111) rfl rfl, ⟨by decide, by decide, by decide +kernel⟩⟩
theorem mv_X12_389 : MV RX12 389 yX12_readArea cX12_readArea 7 (some .boolean) 0 := ⟨TT_10 (i := 117) rfl rfl, TT_10 (i := 119) rfl rfl, TT_s (i := 89) (by decide +kernel) (by decide +kernel), TT_1 (i := 13) rfl rfl, TT_10 (i := 120) rfl rfl, ⟨by decide, by decide, by decide +kernel⟩⟩
theorem mv_X12_392 : MV RX12 392 yX12_readOutlet cX12_readOutlet 4 (some .boolean) 0 := ⟨TT_10 (i := 129) rfl rfl, TT_10 (i := 131) rfl rfl, TT_s (i := 92) (by decide +kernel) (by decide +kernel), TT_1 (i := 13) rfl rfl, TT_10 (i := 132) rfl rfl, ⟨by decide, by decide, by decide +kernel⟩⟩
theorem mv_X12_395 : MV RX12 395 yX12_readSetting cX12_readSetting 5 (some .boolean) 3 := ⟨TT_10 (i := 137) rfl rfl, TT_10 (i := 139) rfl rfl, TT_s (i := 94) (by decide +kernel) (by decide +kernel), TT_1 (i := 13) rfl rfl, TT_10 (i := 140) rfl rfl, ⟨by decide, by decide, by decide +kernel⟩⟩
theorem mv_X12_399 : MV RX12 399 yX12_beginText cX12_beginText 1 none 0 := ⟨TT_10 (i := 55) rfl rfl, TT_10 (i := 57) rfl rfl, TT_s (i := 77) (by decide +kernel) (by decide +kernel), TT_1 (i := 13) rfl rfl, TT_10 (i := 58) rfl rfl, ⟨by decide, by decide, by decide +kernel⟩⟩
theorem mv_X12_402 : MV RX12 402 yX12_readStatement cX12_readStatement 1 (some .boolean) 0 := ⟨TT_10 (i := 77) rfl rfl, TT_10 (i := 79) rfl rfl, TT_s (i := 80) (by decide +kernel) (by decide +kernel), TT_1 (i := 13) rfl rfl, TT_10 (i := 80) rfl rfl, ⟨by decide, by decide, by decide +kernel⟩⟩
theorem mv_X12_405 : MV RX12 405 yX12_readPart cX12_readPart 4 (some .boolean) 3 := ⟨TT_10 (i := 157) rfl rfl, TT_10 (i := 159) rfl rfl, TT_s (i := 98) (by decide +kernel) (by decide +kernel), TT_1 (i := 13) rfl rfl, TT_10 (i := 160) rfl rfl, ⟨by decide, by decide, by decide +kernel⟩⟩
theorem mv_X12_409 : MV RX12 409 yX12_readWho cX12_readWho 2 (some .boolean) 1 := ⟨TT_10 (i := 162) rfl rfl, TT_10 (i := 164) rfl rfl, TT_s (i := 99) (by decide +kernel) (by decide +kernel), TT_1 (i := 13) rfl rfl, TT_10 (i := 165) rfl rfl, ⟨by decide, by decide, by decide +kernel⟩⟩
theorem mv_X12_413 : MV RX12 413 yX12_readVote cX12_readVote 3 (some .boolean) 1 := ⟨TT_10 (i := 167) rfl rfl, TT_10 (i := 169) rfl rfl, TT_s (i := 100) (by decide +kernel) (by decide +kernel), TT_1 (i := 13) rfl rfl, TT_10 (i := 170) rfl rfl, ⟨by decide, by decide, by decide +kernel⟩⟩
theorem mv_X12_416 : MV RX12 416 yX12_entryKind cX12_entryKind 1 (some .int) 0 := ⟨TT_10 (i := 149) rfl rfl, TT_10 (i := 151) rfl rfl, TT_s (i := 96) (by decide +kernel) (by decide +kernel), TT_1 (i := 13) rfl rfl, TT_10 (i := 152) rfl rfl, ⟨by decide, by decide, by decide +kernel⟩⟩
theorem mv_X12_422 : MV RX12 422 yX12_readParts cX12_readParts 3 (some .boolean) 2 := ⟨TT_10 (i := 153) rfl rfl, TT_10 (i := 155) rfl rfl, TT_s (i := 97) (by decide +kernel) (by decide +kernel), TT_1 (i := 13) rfl rfl, TT_10 (i := 156) rfl rfl, ⟨by decide, by decide, by decide +kernel⟩⟩
theorem mv_X12_425 : MV RX12 425 yX12_readEntry cX12_readEntry 3 (some .boolean) 0 := ⟨TT_10 (i := 145) rfl rfl, TT_10 (i := 147) rfl rfl, TT_s (i := 95) (by decide +kernel) (by decide +kernel), TT_1 (i := 13) rfl rfl, TT_10 (i := 148) rfl rfl, ⟨by decide, by decide, by decide +kernel⟩⟩
theorem mv_X12_428 : MV RX12 428 yX12_entry cX12_entry 2 (some .int) 1 := ⟨TT_10 (i := 180) rfl rfl, TT_10 (i := 182) rfl rfl, TT_s (i := 102) (by decide +kernel) (by decide +kernel), TT_1 (i := 13) rfl rfl, TT_10 (i := 183) rfl rfl, ⟨by decide, by decide, by decide +kernel⟩⟩
theorem mv_X12_431 : MV RX12 431 yX12_cents cX12_cents 2 (some .long) 1 := ⟨TT_10 (i := 184) rfl rfl, TT_10 (i := 186) rfl rfl, TT_s (i := 103) (by decide +kernel) (by decide +kernel), TT_1 (i := 13) rfl rfl, TT_10 (i := 187) rfl rfl, ⟨by decide, by decide, by decide +kernel⟩⟩
theorem mv_X12_434 : MV RX12 434 yX12_reportSales cX12_reportSales 6 (some .long) 2 := ⟨TT_10 (i := 188) rfl rfl, TT_9 (i := 45) rfl rfl, TT_9 (i := 46) rfl rfl, TT_1 (i := 13) rfl rfl, TT_9 (i := 47) rfl rfl, ⟨by decide, by decide, by decide +kernel⟩⟩
theorem mv_X12_437 : MV RX12 437 yX12_deliver cX12_deliver 8 (some .long) 4 := ⟨TT_10 (i := 189) rfl rfl, TT_9 (i := 55) rfl rfl, TT_9 (i := 56) rfl rfl, TT_1 (i := 13) rfl rfl, TT_9 (i := 57) rfl rfl, ⟨by decide, by decide, by decide +kernel⟩⟩
theorem mv_X12_44 : MV RX12 44 yX12_clearBlock cX12_clearBlock 3 none 1 := ⟨TT_7 (i := 220) rfl rfl, TT_7 (i := 222) rfl rfl, TT_s (i := 30) (by decide +kernel) (by decide +kernel), TT_1 (i := 13) rfl rfl, TT_7 (i := 223) rfl rfl, ⟨by decide, by decide, by decide +kernel⟩⟩
theorem mv_X12_441 : MV RX12 441 yX12_pay cX12_pay 4 (some .long) 2 := ⟨TT_10 (i := 190) rfl rfl, TT_9 (i := 136) rfl rfl, TT_9 (i := 137) rfl rfl, TT_1 (i := 13) rfl rfl, TT_9 (i := 138) rfl rfl, ⟨by decide, by decide, by decide +kernel⟩⟩
theorem mv_X12_444 : MV RX12 444 yX12_grant cX12_grant 4 (some .boolean) 2 := ⟨TT_10 (i := 191) rfl rfl, TT_9 (i := 185) rfl rfl, TT_9 (i := 186) rfl rfl, TT_1 (i := 13) rfl rfl, TT_9 (i := 187) rfl rfl, ⟨by decide, by decide, by decide +kernel⟩⟩
theorem mv_X12_448 : MV RX12 448 yX12_campaign cX12_campaign 3 (some .boolean) 1 := ⟨TT_10 (i := 192) rfl rfl, TT_9 (i := 181) rfl rfl, TT_9 (i := 182) rfl rfl, TT_1 (i := 13) rfl rfl, TT_9 (i := 183) rfl rfl, ⟨by decide, by decide, by decide +kernel⟩⟩
theorem mv_X12_452 : MV RX12 452 yX12_vote cX12_vote 4 (some .int) 3 := ⟨TT_10 (i := 193) rfl rfl, TT_9 (i := 210) rfl rfl, TT_9 (i := 211) rfl rfl, TT_1 (i := 13) rfl rfl, TT_9 (i := 212) rfl rfl, ⟨by decide, by decide, by decide +kernel⟩⟩
theorem mv_X12_456 : MV RX12 456 yX12_closeMonth cX12_closeMonth 8 (some .int) 0 := ⟨TT_10 (i := 194) rfl rfl, TT_9 (i := 92) rfl rfl, TT_9 (i := 93) rfl rfl, TT_1 (i := 13) rfl rfl, TT_9 (i := 94) rfl rfl, ⟨by decide, by decide, by decide +kernel⟩⟩
theorem mv_X12_461 : MV RX12 461 yX12_execute cX12_execute 2 (some .boolean) 0 := ⟨TT_10 (i := 176) rfl rfl, TT_10 (i := 178) rfl rfl, TT_s (i := 101) (by decide +kernel) (by decide +kernel), TT_1 (i := 13) rfl rfl, TT_10 (i := 179) rfl rfl, ⟨by decide, by decide, by decide +kernel⟩⟩
theorem sl_J0_15 : SL RJ0 15 "coder" "B" := TT_10 (i := 202) rfl rfl
theorem sl_J0_38 : SL RJ0 38 "COMPACT_STRINGS" "Z" := TT_3 (i := 29) rfl rfl
def tab_X12_fail : List En := [(0, 8, 0, 0), (1, 4, 1, 0), (5, 8, 0, 0), (6, 8, 0, 0), (13, 0, 0, 0)]
theorem ok_X12_fail : tab_X12_fail.all (okE cX12_fail) = true := by decide +kernel
def ed_X12_fail : List (Nat × Instr × Nat) := [(2, .putfield 302, 3), (7, .getfield 319, 3), (10, .putfield 33, 3), (14, .ireturn, 1)]
theorem okd_X12_fail : ed_X12_fail.all (okD cX12_fail) = true := by decide +kernel
def f_X12_fail (S : St) (p0 : Nat) (p1 : Int32) : Option (Int32 × St) := lt (uI S p0 11 p1) fun (S1 : St) => lt (gI S1 p0 14) fun (v2 : Int32) => lt (uI S1 p0 12 v2) fun (S3 : St) => some (0, S3)
set_option maxHeartbeats 4000000 in
set_option maxRecDepth 100000 in
theorem c_X12_fail (S : St) (p0 : Nat) (p1 : Int32) : Ct yX12_fail cX12_fail 2 (some .boolean) 0 0 (fun _ => [.ref p0, .int p1]) [(p0, 11)] S (f_X12_fail S p0 p1) oIS sS := by
  refine Ct_of RX12 rfl (by decide) (fun _ => Nat.le_of_ble_eq_true rfl) 0 (vs := fun _ => [some (.ref p0), some (.int p1)]) (fun _ => rfl) (fun C X E hr ht => ?_)
  have t0_ : tT C p0 11 := ht (p0, 11) (by simp)
  show Jd C 2 (QJ C oIS sS) S 0 [some (.ref p0), some (.int p1)] [] (f_X12_fail S p0 p1)
  unfold f_X12_fail
  refine s_run X ok_X12_fail 0 2 (pc' := 2) (vs' := [some (.ref p0), some (.int p1)]) (st' := [.int p1, .ref p0]) rfl ?_
  refine s_putI X fp_X12_302 t0_ (dk okd_X12_fail 0 rfl) (fun S1 => ?_)
  refine s_run X ok_X12_fail 2 2 (pc' := 7) (vs' := [some (.ref p0), some (.int p1)]) (st' := [.ref p0, .ref p0]) rfl ?_
  refine s_getI X fl_X12_319 t0_ (dk okd_X12_fail 1 rfl) (fun v2 => ?_)
  refine s_putI X fp_X12_33 t0_ (dk okd_X12_fail 2 rfl) (fun S3 => ?_)
  refine s_run X ok_X12_fail 4 1 (pc' := 14) (vs' := [some (.ref p0), some (.int p1)]) (st' := [.int 0]) rfl ?_
  exact s_zret0 X hr (dk okd_X12_fail 3 rfl) (by decide) rfl rfl
def tab_X12_readNumber : List En := [(0, 8, 0, 0), (4, 0, 0, 2), (8, 8, 0, 0), (9, 0, 0, 1), (14, 8, 0, 0), (18, 4, 1, 0), (19, 31, 0, 0), (20, 4, 2, 0), (21, 31, 0, 0), (28, 8, 0, 0), (29, 0, 0, 2), (34, 8, 0, 0), (35, 8, 0, 0), (39, 32, 0, 0), (43, 8, 0, 0), (47, 0, 0, 1)]
theorem ok_X12_readNumber : tab_X12_readNumber.all (okE cX12_readNumber) = true := by decide +kernel
def ed_X12_readNumber : List (Nat × Instr × Nat) := [(1, .getfield 332, 3), (5, .if_icmp .eq 9, 3), (10, .invokevirtual 339, 3), (13, .ireturn, 1), (15, .getfield 322, 3), (22, .invokestatic 53, 3), (25, .ifCond .ne 9, 3), (30, .invokevirtual 339, 3), (33, .ireturn, 1), (36, .getfield 322, 3), (40, .putfield 342, 3), (44, .invokevirtual 345, 3), (48, .ireturn, 1)]
theorem okd_X12_readNumber : ed_X12_readNumber.all (okD cX12_readNumber) = true := by decide +kernel
def f_X12_readNumber (S : St) (p0 : Nat) (p1 : Int32) (p2 : Int32) : Option (Int32 × St) := lt (gI S p0 13) fun (v1 : Int32) => if v1 = 2 then (lt (gJ S p0 16) fun (v2 : Int64) => cl (f_X12_inRange S v2 (Int32.toInt64 p1) (Int32.toInt64 p2)) fun (v3 : Int32) => if v3 = 0 then (cl (f_X12_fail S p0 2) fun (o7 : Int32 × St) => zc o7.1 (some (o7.1, o7.2))) else (lt (gJ S p0 16) fun (v4 : Int64) => lt (uI S p0 15 (Int64.toInt32 v4)) fun (S5 : St) => cl (f_X12_advance S5 p0) fun (S6 : St) => some (1, S6))) else (cl (f_X12_fail S p0 1) fun (o8 : Int32 × St) => zc o8.1 (some (o8.1, o8.2)))
set_option maxHeartbeats 4000000 in
set_option maxRecDepth 100000 in
theorem c_X12_readNumber (S : St) (p0 : Nat) (p1 : Int32) (p2 : Int32) : Ct yX12_readNumber cX12_readNumber 3 (some .boolean) 3 66 (fun _ => [.ref p0, .int p1, .int p2]) [(p0, 11)] S (f_X12_readNumber S p0 p1 p2) oIS sS := by
  refine Ct_of RX12 rfl (by decide) (fun _ => Nat.le_of_ble_eq_true rfl) 0 (vs := fun _ => [some (.ref p0), some (.int p1), some (.int p2)]) (fun _ => rfl) (fun C X E hr ht => ?_)
  have t0_ : tT C p0 11 := ht (p0, 11) (by simp)
  show Jd C 3 (QJ C oIS sS) S 0 [some (.ref p0), some (.int p1), some (.int p2)] [] (f_X12_readNumber S p0 p1 p2)
  unfold f_X12_readNumber
  refine s_run X ok_X12_readNumber 0 1 (pc' := 1) (vs' := [some (.ref p0), some (.int p1), some (.int p2)]) (st' := [.ref p0]) rfl ?_
  refine s_getI X fl_X12_332 t0_ (dk okd_X12_readNumber 0 rfl) (fun v1 => ?_)
  refine s_run X ok_X12_readNumber 1 1 (pc' := 5) (vs' := [some (.ref p0), some (.int p1), some (.int p2)]) (st' := [.int 2, .int v1]) rfl ?_
  refine s_icmp_eq (tgt := 14) X (dk okd_X12_readNumber 1 rfl) (by decide) ?_ ?_
  · refine s_run X ok_X12_readNumber 4 1 (pc' := 15) (vs' := [some (.ref p0), some (.int p1), some (.int p2)]) (st' := [.ref p0]) rfl ?_
    refine s_getJ X fl_X12_322 t0_ (dk okd_X12_readNumber 4 rfl) (fun v2 => ?_)
    refine s_run X ok_X12_readNumber 5 4 (pc' := 22) (vs' := [some (.ref p0), some (.int p1), some (.int p2)]) (st' := [.long (Int32.toInt64 p2), .long (Int32.toInt64 p1), .long v2]) rfl ?_
    refine s_callS (As := [.long v2, .long (Int32.toInt64 p1), .long (Int32.toInt64 p2)]) (rest := []) X E ms_X12_53 (c_X12_inRange S v2 (Int32.toInt64 p1) (Int32.toInt64 p2)) rfl (ta0) rfl rfl (Nat.le_of_ble_eq_true rfl) (Nat.le_of_ble_eq_true rfl) (Nat.le_of_ble_eq_true rfl) (dk okd_X12_readNumber 5 rfl) (st' := fun v3 => [.int v3]) (fun _ => rfl) (fun v3 => ?_)
    refine s_if_ne (tgt := 34) X (dk okd_X12_readNumber 6 rfl) (by decide) ?_ ?_
    · refine s_run X ok_X12_readNumber 11 2 (pc' := 36) (vs' := [some (.ref p0), some (.int p1), some (.int p2)]) (st' := [.ref p0, .ref p0]) rfl ?_
      refine s_getJ X fl_X12_322 t0_ (dk okd_X12_readNumber 9 rfl) (fun v4 => ?_)
      refine s_run X ok_X12_readNumber 13 1 (pc' := 40) (vs' := [some (.ref p0), some (.int p1), some (.int p2)]) (st' := [.int (Int64.toInt32 v4), .ref p0]) rfl ?_
      refine s_putI X fp_X12_342 t0_ (dk okd_X12_readNumber 10 rfl) (fun S5 => ?_)
      refine s_run X ok_X12_readNumber 14 1 (pc' := 44) (vs' := [some (.ref p0), some (.int p1), some (.int p2)]) (st' := [.ref p0]) rfl ?_
      refine s_callV (b := p0) (As := []) (rest := []) X E mv_X12_345 (c_X12_advance S5 p0) rfl (ta1 t0_) rfl (by decide) t0_ rfl rfl (Nat.le_of_ble_eq_true rfl) (Nat.le_of_ble_eq_true rfl) (Nat.le_of_ble_eq_true rfl) (dk okd_X12_readNumber 11 rfl) (st' := fun S6 => []) (fun _ => rfl) (fun S6 => ?_)
      refine s_run X ok_X12_readNumber 15 1 (pc' := 48) (vs' := [some (.ref p0), some (.int p1), some (.int p2)]) (st' := [.int 1]) rfl ?_
      exact s_zret0 X hr (dk okd_X12_readNumber 12 rfl) (by decide) rfl rfl
    · refine s_run X ok_X12_readNumber 9 2 (pc' := 30) (vs' := [some (.ref p0), some (.int p1), some (.int p2)]) (st' := [.int 2, .ref p0]) rfl ?_
      refine s_callV (b := p0) (As := [.int 2]) (rest := []) X E mv_X12_339 (c_X12_fail S p0 2) rfl (ta1 t0_) rfl (by decide) t0_ rfl rfl (Nat.le_of_ble_eq_true rfl) (Nat.le_of_ble_eq_true rfl) (Nat.le_of_ble_eq_true rfl) (dk okd_X12_readNumber 7 rfl) (st' := fun o7 => [.int o7.1]) (fun _ => rfl) (fun o7 => ?_)
      exact s_zret X hr (dk okd_X12_readNumber 8 rfl) rfl rfl
  · refine s_run X ok_X12_readNumber 2 2 (pc' := 10) (vs' := [some (.ref p0), some (.int p1), some (.int p2)]) (st' := [.int 1, .ref p0]) rfl ?_
    refine s_callV (b := p0) (As := [.int 1]) (rest := []) X E mv_X12_339 (c_X12_fail S p0 1) rfl (ta1 t0_) rfl (by decide) t0_ rfl rfl (Nat.le_of_ble_eq_true rfl) (Nat.le_of_ble_eq_true rfl) (Nat.le_of_ble_eq_true rfl) (dk okd_X12_readNumber 2 rfl) (st' := fun o8 => [.int o8.1]) (fun _ => rfl) (fun o8 => ?_)
    exact s_zret X hr (dk okd_X12_readNumber 3 rfl) rfl rfl
def tab_X12_readInto : List En := [(0, 8, 0, 0), (1, 4, 2, 0), (2, 4, 3, 0), (9, 0, 0, 0), (11, 8, 0, 0), (15, 4, 1, 0), (16, 8, 0, 0), (20, 31, 0, 0), (21, 7, 4, 0), (23, 25, 0, 0), (25, 0, 0, 1)]
theorem ok_X12_readInto : tab_X12_readInto.all (okE cX12_readInto) = true := by decide +kernel
def ed_X12_readInto : List (Nat × Instr × Nat) := [(3, .invokevirtual 348, 3), (6, .ifCond .ne 5, 3), (10, .ireturn, 1), (12, .getfield 9, 3), (17, .getfield 342, 3), (24, .lastore, 1), (26, .ireturn, 1)]
theorem okd_X12_readInto : ed_X12_readInto.all (okD cX12_readInto) = true := by decide +kernel
def f_X12_readInto (S : St) (p0 : Nat) (p1 : Int32) (p2 : Int32) (p3 : Int32) (p4 : Int64) : Option (Int32 × St) := cl (f_X12_readNumber S p0 p2 p3) fun (o1 : Int32 × St) => if o1.1 = 0 then (some (0, o1.2)) else (lt (gR o1.2 p0 0) fun (a2 : Nat) => lt (gI o1.2 p0 15) fun (v4 : Int32) => stJ o1.2 a2 p1 ((Int32.toInt64 v4) * p4) fun (S5 : St) => some (1, S5))
set_option maxHeartbeats 4000000 in
set_option maxRecDepth 100000 in
theorem c_X12_readInto (S : St) (p0 : Nat) (p1 : Int32) (p2 : Int32) (p3 : Int32) (p4 : Int64) : Ct yX12_readInto cX12_readInto 6 (some .boolean) 4 88 (fun _ => [.ref p0, .int p1, .int p2, .int p3, .long p4]) [(p0, 11)] S (f_X12_readInto S p0 p1 p2 p3 p4) oIS sS := by
  refine Ct_of RX12 rfl (by decide) (fun _ => Nat.le_of_ble_eq_true rfl) 0 (vs := fun _ => [some (.ref p0), some (.int p1), some (.int p2), some (.int p3), some (.long p4), none]) (fun _ => rfl) (fun C X E hr ht => ?_)
  have t0_ : tT C p0 11 := ht (p0, 11) (by simp)
  show Jd C 6 (QJ C oIS sS) S 0 [some (.ref p0), some (.int p1), some (.int p2), some (.int p3), some (.long p4), none] [] (f_X12_readInto S p0 p1 p2 p3 p4)
  unfold f_X12_readInto
  refine s_run X ok_X12_readInto 0 3 (pc' := 3) (vs' := [some (.ref p0), some (.int p1), some (.int p2), some (.int p3), some (.long p4), none]) (st' := [.int p3, .int p2, .ref p0]) rfl ?_
  refine s_callV (b := p0) (As := [.int p2, .int p3]) (rest := []) X E mv_X12_348 (c_X12_readNumber S p0 p2 p3) rfl (ta1 t0_) rfl (by decide) t0_ rfl rfl (Nat.le_of_ble_eq_true rfl) (Nat.le_of_ble_eq_true rfl) (Nat.le_of_ble_eq_true rfl) (dk okd_X12_readInto 0 rfl) (st' := fun o1 => [.int o1.1]) (fun _ => rfl) (fun o1 => ?_)
  refine s_if_ne (tgt := 11) X (dk okd_X12_readInto 1 rfl) (by decide) ?_ ?_
  · refine s_run X ok_X12_readInto 4 1 (pc' := 12) (vs' := [some (.ref p0), some (.int p1), some (.int p2), some (.int p3), some (.long p4), none]) (st' := [.ref p0]) rfl ?_
    refine s_getR X fl_X12_9 t0_ (dk okd_X12_readInto 3 rfl) (fun a2 (t3 : tT C a2 14) => ?_)
    refine s_run X ok_X12_readInto 5 2 (pc' := 17) (vs' := [some (.ref p0), some (.int p1), some (.int p2), some (.int p3), some (.long p4), none]) (st' := [.ref p0, .int p1, .ref a2]) rfl ?_
    refine s_getI X fl_X12_342 t0_ (dk okd_X12_readInto 4 rfl) (fun v4 => ?_)
    refine s_run X ok_X12_readInto 7 3 (pc' := 24) (vs' := [some (.ref p0), some (.int p1), some (.int p2), some (.int p3), some (.long p4), none]) (st' := [.long ((Int32.toInt64 v4) * p4), .int p1, .ref a2]) rfl ?_
    refine s_last X t3 (dk okd_X12_readInto 5 rfl) (fun S5 => ?_)
    refine s_run X ok_X12_readInto 10 1 (pc' := 26) (vs' := [some (.ref p0), some (.int p1), some (.int p2), some (.int p3), some (.long p4), none]) (st' := [.int 1]) rfl ?_
    exact s_zret0 X hr (dk okd_X12_readInto 6 rfl) (by decide) rfl rfl
  · refine s_run X ok_X12_readInto 3 1 (pc' := 10) (vs' := [some (.ref p0), some (.int p1), some (.int p2), some (.int p3), some (.long p4), none]) (st' := [.int 0]) rfl ?_
    exact s_zret0 X hr (dk okd_X12_readInto 2 rfl) (by decide) rfl rfl
def tab_X12_readEnd : List En := [(0, 8, 0, 0), (4, 0, 0, 3), (8, 8, 0, 0), (9, 0, 0, 1), (14, 8, 0, 0), (18, 0, 0, 1)]
theorem ok_X12_readEnd : tab_X12_readEnd.all (okE cX12_readEnd) = true := by decide +kernel
def ed_X12_readEnd : List (Nat × Instr × Nat) := [(1, .getfield 332, 3), (5, .if_icmp .eq 9, 3), (10, .invokevirtual 339, 3), (13, .ireturn, 1), (15, .invokevirtual 345, 3), (19, .ireturn, 1)]
theorem okd_X12_readEnd : ed_X12_readEnd.all (okD cX12_readEnd) = true := by decide +kernel
def f_X12_readEnd (S : St) (p0 : Nat) : Option (Int32 × St) := lt (gI S p0 13) fun (v1 : Int32) => if v1 = 3 then (cl (f_X12_advance S p0) fun (S2 : St) => some (1, S2)) else (cl (f_X12_fail S p0 1) fun (o3 : Int32 × St) => zc o3.1 (some (o3.1, o3.2)))
set_option maxHeartbeats 4000000 in
set_option maxRecDepth 100000 in
theorem c_X12_readEnd (S : St) (p0 : Nat) : Ct yX12_readEnd cX12_readEnd 1 (some .boolean) 3 66 (fun _ => [.ref p0]) [(p0, 11)] S (f_X12_readEnd S p0) oIS sS := by
  refine Ct_of RX12 rfl (by decide) (fun _ => Nat.le_of_ble_eq_true rfl) 0 (vs := fun _ => [some (.ref p0)]) (fun _ => rfl) (fun C X E hr ht => ?_)
  have t0_ : tT C p0 11 := ht (p0, 11) (by simp)
  show Jd C 1 (QJ C oIS sS) S 0 [some (.ref p0)] [] (f_X12_readEnd S p0)
  unfold f_X12_readEnd
  refine s_run X ok_X12_readEnd 0 1 (pc' := 1) (vs' := [some (.ref p0)]) (st' := [.ref p0]) rfl ?_
  refine s_getI X fl_X12_332 t0_ (dk okd_X12_readEnd 0 rfl) (fun v1 => ?_)
  refine s_run X ok_X12_readEnd 1 1 (pc' := 5) (vs' := [some (.ref p0)]) (st' := [.int 3, .int v1]) rfl ?_
  refine s_icmp_eq (tgt := 14) X (dk okd_X12_readEnd 1 rfl) (by decide) ?_ ?_
  · refine s_run X ok_X12_readEnd 4 1 (pc' := 15) (vs' := [some (.ref p0)]) (st' := [.ref p0]) rfl ?_
    refine s_callV (b := p0) (As := []) (rest := []) X E mv_X12_345 (c_X12_advance S p0) rfl (ta1 t0_) rfl (by decide) t0_ rfl rfl (Nat.le_of_ble_eq_true rfl) (Nat.le_of_ble_eq_true rfl) (Nat.le_of_ble_eq_true rfl) (dk okd_X12_readEnd 4 rfl) (st' := fun S2 => []) (fun _ => rfl) (fun S2 => ?_)
    refine s_run X ok_X12_readEnd 5 1 (pc' := 19) (vs' := [some (.ref p0)]) (st' := [.int 1]) rfl ?_
    exact s_zret0 X hr (dk okd_X12_readEnd 5 rfl) (by decide) rfl rfl
  · refine s_run X ok_X12_readEnd 2 2 (pc' := 10) (vs' := [some (.ref p0)]) (st' := [.int 1, .ref p0]) rfl ?_
    refine s_callV (b := p0) (As := [.int 1]) (rest := []) X E mv_X12_339 (c_X12_fail S p0 1) rfl (ta1 t0_) rfl (by decide) t0_ rfl rfl (Nat.le_of_ble_eq_true rfl) (Nat.le_of_ble_eq_true rfl) (Nat.le_of_ble_eq_true rfl) (dk okd_X12_readEnd 2 rfl) (st' := fun o3 => [.int o3.1]) (fun _ => rfl) (fun o3 => ?_)
    exact s_zret X hr (dk okd_X12_readEnd 3 rfl) rfl rfl
def tab_X12_pack : List En := [(0, 4, 0, 0), (1, 31, 0, 0), (5, 24, 0, 0), (9, 25, 0, 0), (10, 4, 1, 0), (11, 31, 0, 0), (12, 23, 0, 0), (16, 24, 0, 0), (17, 13, 5, 0), (19, 4, 2, 0), (23, 7, 5, 0), (25, 41, 41, 0), (28, 7, 5, 0), (33, 25, 0, 0), (34, 4, 2, 0), (35, 31, 0, 0), (36, 23, 0, 0), (40, 24, 0, 0), (41, 13, 5, 0), (43, 4, 3, 0), (47, 7, 5, 0), (49, 41, 65, 0), (52, 7, 5, 0), (57, 25, 0, 0), (58, 4, 3, 0), (59, 31, 0, 0), (60, 23, 0, 0), (64, 24, 0, 0), (65, 13, 5, 0), (67, 5, 4, 0), (72, 7, 5, 0), (74, 41, 91, 0), (77, 7, 5, 0), (82, 25, 0, 0), (83, 5, 4, 0), (85, 31, 0, 0), (86, 23, 0, 0), (90, 24, 0, 0)]
theorem ok_X12_pack : tab_X12_pack.all (okE cX12_pack) = true := by decide +kernel
def ed_X12_pack : List (Nat × Instr × Nat) := [(2, .ldc2_w 337, 3), (6, .ldc2_w 335, 3), (13, .ldc2_w 337, 3), (20, .ifCond .ne 8, 3), (30, .ldc2_w 335, 3), (37, .ldc2_w 337, 3), (44, .ifCond .ne 8, 3), (54, .ldc2_w 335, 3), (61, .ldc2_w 337, 3), (69, .ifCond .ne 8, 3), (79, .ldc2_w 335, 3), (87, .ldc2_w 337, 3), (91, .lreturn, 1)]
theorem okd_X12_pack : ed_X12_pack.all (okD cX12_pack) = true := by decide +kernel
def f_X12_pack (S : St) (p0 : Int32) (p1 : Int32) (p2 : Int32) (p3 : Int32) (p4 : Int32) : Option (Int64) := lt (((((Int32.toInt64 p0) - 96) * 32) + (Int32.toInt64 p1)) - 96) fun (v1 : Int64) => jn (κ := Int64 → Option (Int64)) (fun x2 => jn (κ := Int64 → Option (Int64)) (fun x5 => if p4 = 0 then (some x5) else (some (((x5 * 32) + (Int32.toInt64 p4)) - 96))) fun k6 => if p3 = 0 then (k6 x2) else (k6 (((x2 * 32) + (Int32.toInt64 p3)) - 96))) fun k3 => if p2 = 0 then (k3 v1) else (k3 (((v1 * 32) + (Int32.toInt64 p2)) - 96))
set_option maxHeartbeats 4000000 in
set_option maxRecDepth 100000 in
theorem c_X12_pack (S : St) (p0 : Int32) (p1 : Int32) (p2 : Int32) (p3 : Int32) (p4 : Int32) : Ct yX12_pack cX12_pack 7 (some .long) 0 0 (fun _ => [.int p0, .int p1, .int p2, .int p3, .int p4]) [] S (f_X12_pack S p0 p1 p2 p3 p4) oL (fun _ => S) := by
  refine Ct_of RX12 rfl (by decide) (fun _ => Nat.le_of_ble_eq_true rfl) 2 (vs := fun _ => [some (.int p0), some (.int p1), some (.int p2), some (.int p3), some (.int p4), none, none]) (fun _ => rfl) (fun C X E hr ht => ?_)
  show Jd C 7 (QJ C oL (fun _ => S)) S 0 [some (.int p0), some (.int p1), some (.int p2), some (.int p3), some (.int p4), none, none] [] (f_X12_pack S p0 p1 p2 p3 p4)
  unfold f_X12_pack
  refine s_run X ok_X12_pack 0 2 (pc' := 2) (vs' := [some (.int p0), some (.int p1), some (.int p2), some (.int p3), some (.int p4), none, none]) (st' := [.long (Int32.toInt64 p0)]) rfl ?_
  refine s_ldc2 X cl_X12_337 (dk okd_X12_pack 0 rfl) ?_
  refine s_run X ok_X12_pack 2 1 (pc' := 6) (vs' := [some (.int p0), some (.int p1), some (.int p2), some (.int p3), some (.int p4), none, none]) (st' := [.long ((Int32.toInt64 p0) - 96)]) rfl ?_
  refine s_ldc2 X cl_X12_335 (dk okd_X12_pack 1 rfl) ?_
  refine s_run X ok_X12_pack 3 4 (pc' := 13) (vs' := [some (.int p0), some (.int p1), some (.int p2), some (.int p3), some (.int p4), none, none]) (st' := [.long ((((Int32.toInt64 p0) - 96) * 32) + (Int32.toInt64 p1))]) rfl ?_
  refine s_ldc2 X cl_X12_337 (dk okd_X12_pack 2 rfl) ?_
  refine s_run X ok_X12_pack 7 1 (pc' := 17) (vs' := [some (.int p0), some (.int p1), some (.int p2), some (.int p3), some (.int p4), none, none]) (st' := [.long (((((Int32.toInt64 p0) - 96) * 32) + (Int32.toInt64 p1)) - 96)]) rfl ?_
  refine s_nmJ (fun v1 => ?_)
  refine s_run X ok_X12_pack 8 2 (pc' := 20) (vs' := [some (.int p0), some (.int p1), some (.int p2), some (.int p3), some (.int p4), some (.long v1), none]) (st' := [.int p2]) rfl ?_
  refine s_jn (κ := Int64 → Option (Int64)) (fun k3 => ∀ (x2 : Int64), Jd C 7 (QJ C oL (fun _ => S)) S 41 [none, none, none, some (.int p3), some (.int p4), none, none] [.long x2] (k3 x2)) (fun x2 => ?_) (fun k3 h4 => ?_)
  · refine s_run X ok_X12_pack 18 2 (pc' := 44) (vs' := [none, none, none, some (.int p3), some (.int p4), some (.long x2), none]) (st' := [.int p3]) rfl ?_
    refine s_jn (κ := Int64 → Option (Int64)) (fun k6 => ∀ (x5 : Int64), Jd C 7 (QJ C oL (fun _ => S)) S 65 [none, none, none, none, some (.int p4), none, none] [.long x5] (k6 x5)) (fun x5 => ?_) (fun k6 h7 => ?_)
    · refine s_run X ok_X12_pack 28 2 (pc' := 69) (vs' := [none, none, none, none, some (.int p4), some (.long x5), none]) (st' := [.int p4]) rfl ?_
      refine s_if_ne (tgt := 77) X (dk okd_X12_pack 9 rfl) (by decide) ?_ ?_
      · refine s_run X ok_X12_pack 32 1 (pc' := 79) (vs' := [none, none, none, none, some (.int p4), some (.long x5), none]) (st' := [.long x5]) rfl ?_
        refine s_ldc2 X cl_X12_335 (dk okd_X12_pack 10 rfl) ?_
        refine s_run X ok_X12_pack 33 4 (pc' := 87) (vs' := [none, none, none, none, some (.int p4), some (.long x5), none]) (st' := [.long ((x5 * 32) + (Int32.toInt64 p4))]) rfl ?_
        refine s_ldc2 X cl_X12_337 (dk okd_X12_pack 11 rfl) ?_
        refine s_run X ok_X12_pack 37 1 (pc' := 91) (vs' := [none, none, none, none, some (.int p4), some (.long x5), none]) (st' := [.long (((x5 * 32) + (Int32.toInt64 p4)) - 96)]) rfl ?_
        exact s_lret X hr (dk okd_X12_pack 12 rfl) rfl rfl
      · refine s_run X ok_X12_pack 30 2 (pc' := 91) (vs' := [none, none, none, none, some (.int p4), some (.long x5), none]) (st' := [.long x5]) rfl ?_
        exact s_lret X hr (dk okd_X12_pack 12 rfl) rfl rfl
    · refine s_if_ne (tgt := 52) X (dk okd_X12_pack 6 rfl) (by decide) ?_ ?_
      · refine s_run X ok_X12_pack 22 1 (pc' := 54) (vs' := [none, none, none, some (.int p3), some (.int p4), some (.long x2), none]) (st' := [.long x2]) rfl ?_
        refine s_ldc2 X cl_X12_335 (dk okd_X12_pack 7 rfl) ?_
        refine s_run X ok_X12_pack 23 4 (pc' := 61) (vs' := [none, none, none, some (.int p3), some (.int p4), some (.long x2), none]) (st' := [.long ((x2 * 32) + (Int32.toInt64 p3))]) rfl ?_
        refine s_ldc2 X cl_X12_337 (dk okd_X12_pack 8 rfl) ?_
        refine s_run X ok_X12_pack 27 1 (pc' := 65) (vs' := [none, none, none, some (.int p3), some (.int p4), some (.long x2), none]) (st' := [.long (((x2 * 32) + (Int32.toInt64 p3)) - 96)]) rfl ?_
        exact s_less [false, false, false, false, true, false, false] rfl (h7 (((x2 * 32) + (Int32.toInt64 p3)) - 96))
      · refine s_run X ok_X12_pack 20 2 (pc' := 65) (vs' := [none, none, none, some (.int p3), some (.int p4), some (.long x2), none]) (st' := [.long x2]) rfl ?_
        exact s_less [false, false, false, false, true, false, false] rfl (h7 x2)
  · refine s_if_ne (tgt := 28) X (dk okd_X12_pack 3 rfl) (by decide) ?_ ?_
    · refine s_run X ok_X12_pack 12 1 (pc' := 30) (vs' := [some (.int p0), some (.int p1), some (.int p2), some (.int p3), some (.int p4), some (.long v1), none]) (st' := [.long v1]) rfl ?_
      refine s_ldc2 X cl_X12_335 (dk okd_X12_pack 4 rfl) ?_
      refine s_run X ok_X12_pack 13 4 (pc' := 37) (vs' := [some (.int p0), some (.int p1), some (.int p2), some (.int p3), some (.int p4), some (.long v1), none]) (st' := [.long ((v1 * 32) + (Int32.toInt64 p2))]) rfl ?_
      refine s_ldc2 X cl_X12_337 (dk okd_X12_pack 5 rfl) ?_
      refine s_run X ok_X12_pack 17 1 (pc' := 41) (vs' := [some (.int p0), some (.int p1), some (.int p2), some (.int p3), some (.int p4), some (.long v1), none]) (st' := [.long (((v1 * 32) + (Int32.toInt64 p2)) - 96)]) rfl ?_
      exact s_less [false, false, false, true, true, false, false] rfl (h4 (((v1 * 32) + (Int32.toInt64 p2)) - 96))
    · refine s_run X ok_X12_pack 10 2 (pc' := 41) (vs' := [some (.int p0), some (.int p1), some (.int p2), some (.int p3), some (.int p4), some (.long v1), none]) (st' := [.long v1]) rfl ?_
      exact s_less [false, false, false, true, true, false, false] rfl (h4 v1)
def tab_X12_statement : List En := [(0, 8, 0, 0), (4, 0, 0, 1), (8, 0, 0, (-1)), (10, 8, 0, 0), (14, 1, 0, 112), (16, 1, 0, 108), (18, 1, 0, 97), (20, 1, 0, 110), (22, 0, 0, 0), (26, 40, 0, 0), (30, 0, 0, 0), (32, 8, 0, 0), (36, 1, 0, 102), (38, 1, 0, 114), (40, 1, 0, 97), (42, 1, 0, 110), (44, 1, 0, 99), (52, 25, 0, 0), (53, 1, 0, 104), (55, 1, 0, 105), (57, 1, 0, 115), (59, 1, 0, 101), (61, 1, 0, 101), (66, 23, 0, 0), (67, 40, 0, 0), (71, 0, 0, 1), (73, 8, 0, 0), (77, 1, 0, 97), (79, 1, 0, 114), (81, 1, 0, 101), (83, 1, 0, 97), (85, 0, 0, 0), (89, 40, 0, 0), (93, 0, 0, 2), (95, 8, 0, 0), (99, 1, 0, 111), (101, 1, 0, 117), (103, 1, 0, 116), (105, 1, 0, 108), (107, 1, 0, 101), (115, 25, 0, 0), (119, 23, 0, 0), (123, 24, 0, 0), (124, 40, 0, 0), (128, 0, 0, 3), (130, 8, 0, 0), (134, 1, 0, 99), (136, 1, 0, 114), (138, 1, 0, 101), (140, 1, 0, 100), (142, 1, 0, 105), (150, 25, 0, 0), (154, 23, 0, 0), (158, 24, 0, 0), (159, 40, 0, 0), (163, 0, 0, 4), (165, 8, 0, 0), (169, 1, 0, 105), (171, 1, 0, 110), (173, 1, 0, 116), (175, 1, 0, 101), (177, 1, 0, 114), (185, 25, 0, 0), (186, 1, 0, 101), (188, 1, 0, 115), (190, 1, 0, 116), (192, 0, 0, 0), (193, 0, 0, 0), (197, 23, 0, 0), (198, 40, 0, 0), (202, 0, 0, 5), (204, 8, 0, 0), (208, 1, 0, 97), (210, 1, 0, 100), (212, 1, 0, 109), (214, 1, 0, 105), (216, 1, 0, 110), (221, 40, 0, 0), (225, 1, 0, 6), (228, 8, 0, 0), (232, 1, 0, 102), (234, 1, 0, 101), (236, 1, 0, 101), (238, 0, 0, 0), (239, 0, 0, 0), (243, 40, 0, 0), (247, 1, 0, 7), (250, 8, 0, 0), (254, 1, 0, 100), (256, 1, 0, 101), (258, 1, 0, 108), (260, 1, 0, 97), (262, 1, 0, 121), (267, 40, 0, 0), (271, 1, 0, 8), (274, 8, 0, 0), (278, 1, 0, 119), (280, 1, 0, 111), (282, 1, 0, 114), (284, 1, 0, 116), (286, 1, 0, 104), (291, 40, 0, 0), (295, 1, 0, 9), (297, 41, 301, 0), (300, 0, 0, (-1))]
theorem ok_X12_statement : tab_X12_statement.all (okE cX12_statement) = true := by decide +kernel
def ed_X12_statement : List (Nat × Instr × Nat) := [(1, .getfield 332, 3), (5, .if_icmp .eq 5, 3), (9, .ireturn, 1), (11, .getfield 322, 3), (23, .invokestatic 278, 3), (27, .ifCond .ne 5, 3), (31, .ireturn, 1), (33, .getfield 322, 3), (46, .invokestatic 278, 3), (49, .ldc2_w 351, 3), (63, .invokestatic 278, 3), (68, .ifCond .ne 5, 3), (72, .ireturn, 1), (74, .getfield 322, 3), (86, .invokestatic 278, 3), (90, .ifCond .ne 5, 3), (94, .ireturn, 1), (96, .getfield 322, 3), (109, .invokestatic 278, 3), (112, .ldc2_w 335, 3), (116, .ldc2_w 353, 3), (120, .ldc2_w 337, 3), (125, .ifCond .ne 5, 3), (129, .ireturn, 1), (131, .getfield 322, 3), (144, .invokestatic 278, 3), (147, .ldc2_w 335, 3), (151, .ldc2_w 353, 3), (155, .ldc2_w 337, 3), (160, .ifCond .ne 5, 3), (164, .ireturn, 1), (166, .getfield 322, 3), (179, .invokestatic 278, 3), (182, .ldc2_w 284, 3), (194, .invokestatic 278, 3), (199, .ifCond .ne 5, 3), (203, .ireturn, 1), (205, .getfield 322, 3), (218, .invokestatic 278, 3), (222, .ifCond .ne 6, 3), (227, .ireturn, 1), (229, .getfield 322, 3), (240, .invokestatic 278, 3), (244, .ifCond .ne 6, 3), (249, .ireturn, 1), (251, .getfield 322, 3), (264, .invokestatic 278, 3), (268, .ifCond .ne 6, 3), (273, .ireturn, 1), (275, .getfield 322, 3), (288, .invokestatic 278, 3), (292, .ifCond .ne 8, 3), (301, .ireturn, 1)]
theorem okd_X12_statement : ed_X12_statement.all (okD cX12_statement) = true := by decide +kernel
def f_X12_statement (S : St) (p0 : Nat) : Option (Int32) := lt (gI S p0 13) fun (v1 : Int32) => if v1 = 1 then (lt (gJ S p0 16) fun (v2 : Int64) => cl (f_X12_pack S 112 108 97 110 0) fun (v3 : Int64) => if v2 = v3 then (some 0) else (lt (gJ S p0 16) fun (v4 : Int64) => cl (f_X12_pack S 102 114 97 110 99) fun (v5 : Int64) => cl (f_X12_pack S 104 105 115 101 101) fun (v6 : Int64) => if v4 = ((v5 * 33554432) + v6) then (some 1) else (lt (gJ S p0 16) fun (v7 : Int64) => cl (f_X12_pack S 97 114 101 97 0) fun (v8 : Int64) => if v7 = v8 then (some 2) else (lt (gJ S p0 16) fun (v9 : Int64) => cl (f_X12_pack S 111 117 116 108 101) fun (v10 : Int64) => if v9 = (((v10 * 32) + 116) - 96) then (some 3) else (lt (gJ S p0 16) fun (v11 : Int64) => cl (f_X12_pack S 99 114 101 100 105) fun (v12 : Int64) => if v11 = (((v12 * 32) + 116) - 96) then (some 4) else (lt (gJ S p0 16) fun (v13 : Int64) => cl (f_X12_pack S 105 110 116 101 114) fun (v14 : Int64) => cl (f_X12_pack S 101 115 116 0 0) fun (v15 : Int64) => if v13 = ((v14 * 32768) + v15) then (some 5) else (lt (gJ S p0 16) fun (v16 : Int64) => cl (f_X12_pack S 97 100 109 105 110) fun (v17 : Int64) => if v16 = v17 then (some 6) else (lt (gJ S p0 16) fun (v18 : Int64) => cl (f_X12_pack S 102 101 101 0 0) fun (v19 : Int64) => if v18 = v19 then (some 7) else (lt (gJ S p0 16) fun (v20 : Int64) => cl (f_X12_pack S 100 101 108 97 121) fun (v21 : Int64) => if v20 = v21 then (some 8) else (lt (gJ S p0 16) fun (v22 : Int64) => cl (f_X12_pack S 119 111 114 116 104) fun (v23 : Int64) => if v22 = v23 then (some 9) else (some (-1)))))))))))) else (some (-1))
set_option maxHeartbeats 4000000 in
set_option maxRecDepth 100000 in
theorem c_X12_statement (S : St) (p0 : Nat) : Ct yX12_statement cX12_statement 1 (some .int) 1 26 (fun _ => [.ref p0]) [(p0, 11)] S (f_X12_statement S p0) oI (fun _ => S) := by
  refine Ct_of RX12 rfl (by decide) (fun _ => Nat.le_of_ble_eq_true rfl) 0 (vs := fun _ => [some (.ref p0)]) (fun _ => rfl) (fun C X E hr ht => ?_)
  have t0_ : tT C p0 11 := ht (p0, 11) (by simp)
  show Jd C 1 (QJ C oI (fun _ => S)) S 0 [some (.ref p0)] [] (f_X12_statement S p0)
  unfold f_X12_statement
  refine s_run X ok_X12_statement 0 1 (pc' := 1) (vs' := [some (.ref p0)]) (st' := [.ref p0]) rfl ?_
  refine s_getI X fl_X12_332 t0_ (dk okd_X12_statement 0 rfl) (fun v1 => ?_)
  refine s_run X ok_X12_statement 1 1 (pc' := 5) (vs' := [some (.ref p0)]) (st' := [.int 1, .int v1]) rfl ?_
  refine s_icmp_eq (tgt := 10) X (dk okd_X12_statement 1 rfl) (by decide) ?_ ?_
  · refine s_run X ok_X12_statement 3 1 (pc' := 11) (vs' := [some (.ref p0)]) (st' := [.ref p0]) rfl ?_
    refine s_getJ X fl_X12_322 t0_ (dk okd_X12_statement 3 rfl) (fun v2 => ?_)
    refine s_run X ok_X12_statement 4 5 (pc' := 23) (vs' := [some (.ref p0)]) (st' := [.int 0, .int 110, .int 97, .int 108, .int 112, .long v2]) rfl ?_
    refine s_callS (As := [.int 112, .int 108, .int 97, .int 110, .int 0]) (rest := [.long v2]) X E ms_X12_278 (c_X12_pack S 112 108 97 110 0) rfl (ta0) rfl rfl (Nat.le_of_ble_eq_true rfl) (Nat.le_of_ble_eq_true rfl) (Nat.le_of_ble_eq_true rfl) (dk okd_X12_statement 4 rfl) (st' := fun v3 => [.long v3, .long v2]) (fun _ => rfl) (fun v3 => ?_)
    refine s_run X ok_X12_statement 9 1 (pc' := 27) (vs' := [some (.ref p0)]) (st' := [.int (lg_cmp v2 v3)]) rfl ?_
    refine s_lif_ne (tgt := 32) X (dk okd_X12_statement 5 rfl) (by decide) ?_ ?_
    · refine s_run X ok_X12_statement 11 1 (pc' := 33) (vs' := [some (.ref p0)]) (st' := [.ref p0]) rfl ?_
      refine s_getJ X fl_X12_322 t0_ (dk okd_X12_statement 7 rfl) (fun v4 => ?_)
      refine s_run X ok_X12_statement 12 5 (pc' := 46) (vs' := [some (.ref p0)]) (st' := [.int 99, .int 110, .int 97, .int 114, .int 102, .long v4]) rfl ?_
      refine s_callS (As := [.int 102, .int 114, .int 97, .int 110, .int 99]) (rest := [.long v4]) X E ms_X12_278 (c_X12_pack S 102 114 97 110 99) rfl (ta0) rfl rfl (Nat.le_of_ble_eq_true rfl) (Nat.le_of_ble_eq_true rfl) (Nat.le_of_ble_eq_true rfl) (dk okd_X12_statement 8 rfl) (st' := fun v5 => [.long v5, .long v4]) (fun _ => rfl) (fun v5 => ?_)
      refine s_ldc2 X cl_X12_351 (dk okd_X12_statement 9 rfl) ?_
      refine s_run X ok_X12_statement 17 6 (pc' := 63) (vs' := [some (.ref p0)]) (st' := [.int 101, .int 101, .int 115, .int 105, .int 104, .long (v5 * 33554432), .long v4]) rfl ?_
      refine s_callS (As := [.int 104, .int 105, .int 115, .int 101, .int 101]) (rest := [.long (v5 * 33554432), .long v4]) X E ms_X12_278 (c_X12_pack S 104 105 115 101 101) rfl (ta0) rfl rfl (Nat.le_of_ble_eq_true rfl) (Nat.le_of_ble_eq_true rfl) (Nat.le_of_ble_eq_true rfl) (dk okd_X12_statement 10 rfl) (st' := fun v6 => [.long v6, .long (v5 * 33554432), .long v4]) (fun _ => rfl) (fun v6 => ?_)
      refine s_run X ok_X12_statement 23 2 (pc' := 68) (vs' := [some (.ref p0)]) (st' := [.int (lg_cmp v4 ((v5 * 33554432) + v6))]) rfl ?_
      refine s_lif_ne (tgt := 73) X (dk okd_X12_statement 11 rfl) (by decide) ?_ ?_
      · refine s_run X ok_X12_statement 26 1 (pc' := 74) (vs' := [some (.ref p0)]) (st' := [.ref p0]) rfl ?_
        refine s_getJ X fl_X12_322 t0_ (dk okd_X12_statement 13 rfl) (fun v7 => ?_)
        refine s_run X ok_X12_statement 27 5 (pc' := 86) (vs' := [some (.ref p0)]) (st' := [.int 0, .int 97, .int 101, .int 114, .int 97, .long v7]) rfl ?_
        refine s_callS (As := [.int 97, .int 114, .int 101, .int 97, .int 0]) (rest := [.long v7]) X E ms_X12_278 (c_X12_pack S 97 114 101 97 0) rfl (ta0) rfl rfl (Nat.le_of_ble_eq_true rfl) (Nat.le_of_ble_eq_true rfl) (Nat.le_of_ble_eq_true rfl) (dk okd_X12_statement 14 rfl) (st' := fun v8 => [.long v8, .long v7]) (fun _ => rfl) (fun v8 => ?_)
        refine s_run X ok_X12_statement 32 1 (pc' := 90) (vs' := [some (.ref p0)]) (st' := [.int (lg_cmp v7 v8)]) rfl ?_
        refine s_lif_ne (tgt := 95) X (dk okd_X12_statement 15 rfl) (by decide) ?_ ?_
        · refine s_run X ok_X12_statement 34 1 (pc' := 96) (vs' := [some (.ref p0)]) (st' := [.ref p0]) rfl ?_
          refine s_getJ X fl_X12_322 t0_ (dk okd_X12_statement 17 rfl) (fun v9 => ?_)
          refine s_run X ok_X12_statement 35 5 (pc' := 109) (vs' := [some (.ref p0)]) (st' := [.int 101, .int 108, .int 116, .int 117, .int 111, .long v9]) rfl ?_
          refine s_callS (As := [.int 111, .int 117, .int 116, .int 108, .int 101]) (rest := [.long v9]) X E ms_X12_278 (c_X12_pack S 111 117 116 108 101) rfl (ta0) rfl rfl (Nat.le_of_ble_eq_true rfl) (Nat.le_of_ble_eq_true rfl) (Nat.le_of_ble_eq_true rfl) (dk okd_X12_statement 18 rfl) (st' := fun v10 => [.long v10, .long v9]) (fun _ => rfl) (fun v10 => ?_)
          refine s_ldc2 X cl_X12_335 (dk okd_X12_statement 19 rfl) ?_
          refine s_run X ok_X12_statement 40 1 (pc' := 116) (vs' := [some (.ref p0)]) (st' := [.long (v10 * 32), .long v9]) rfl ?_
          refine s_ldc2 X cl_X12_353 (dk okd_X12_statement 20 rfl) ?_
          refine s_run X ok_X12_statement 41 1 (pc' := 120) (vs' := [some (.ref p0)]) (st' := [.long ((v10 * 32) + 116), .long v9]) rfl ?_
          refine s_ldc2 X cl_X12_337 (dk okd_X12_statement 21 rfl) ?_
          refine s_run X ok_X12_statement 42 2 (pc' := 125) (vs' := [some (.ref p0)]) (st' := [.int (lg_cmp v9 (((v10 * 32) + 116) - 96))]) rfl ?_
          refine s_lif_ne (tgt := 130) X (dk okd_X12_statement 22 rfl) (by decide) ?_ ?_
          · refine s_run X ok_X12_statement 45 1 (pc' := 131) (vs' := [some (.ref p0)]) (st' := [.ref p0]) rfl ?_
            refine s_getJ X fl_X12_322 t0_ (dk okd_X12_statement 24 rfl) (fun v11 => ?_)
            refine s_run X ok_X12_statement 46 5 (pc' := 144) (vs' := [some (.ref p0)]) (st' := [.int 105, .int 100, .int 101, .int 114, .int 99, .long v11]) rfl ?_
            refine s_callS (As := [.int 99, .int 114, .int 101, .int 100, .int 105]) (rest := [.long v11]) X E ms_X12_278 (c_X12_pack S 99 114 101 100 105) rfl (ta0) rfl rfl (Nat.le_of_ble_eq_true rfl) (Nat.le_of_ble_eq_true rfl) (Nat.le_of_ble_eq_true rfl) (dk okd_X12_statement 25 rfl) (st' := fun v12 => [.long v12, .long v11]) (fun _ => rfl) (fun v12 => ?_)
            refine s_ldc2 X cl_X12_335 (dk okd_X12_statement 26 rfl) ?_
            refine s_run X ok_X12_statement 51 1 (pc' := 151) (vs' := [some (.ref p0)]) (st' := [.long (v12 * 32), .long v11]) rfl ?_
            refine s_ldc2 X cl_X12_353 (dk okd_X12_statement 27 rfl) ?_
            refine s_run X ok_X12_statement 52 1 (pc' := 155) (vs' := [some (.ref p0)]) (st' := [.long ((v12 * 32) + 116), .long v11]) rfl ?_
            refine s_ldc2 X cl_X12_337 (dk okd_X12_statement 28 rfl) ?_
            refine s_run X ok_X12_statement 53 2 (pc' := 160) (vs' := [some (.ref p0)]) (st' := [.int (lg_cmp v11 (((v12 * 32) + 116) - 96))]) rfl ?_
            refine s_lif_ne (tgt := 165) X (dk okd_X12_statement 29 rfl) (by decide) ?_ ?_
            · refine s_run X ok_X12_statement 56 1 (pc' := 166) (vs' := [some (.ref p0)]) (st' := [.ref p0]) rfl ?_
              refine s_getJ X fl_X12_322 t0_ (dk okd_X12_statement 31 rfl) (fun v13 => ?_)
              refine s_run X ok_X12_statement 57 5 (pc' := 179) (vs' := [some (.ref p0)]) (st' := [.int 114, .int 101, .int 116, .int 110, .int 105, .long v13]) rfl ?_
              refine s_callS (As := [.int 105, .int 110, .int 116, .int 101, .int 114]) (rest := [.long v13]) X E ms_X12_278 (c_X12_pack S 105 110 116 101 114) rfl (ta0) rfl rfl (Nat.le_of_ble_eq_true rfl) (Nat.le_of_ble_eq_true rfl) (Nat.le_of_ble_eq_true rfl) (dk okd_X12_statement 32 rfl) (st' := fun v14 => [.long v14, .long v13]) (fun _ => rfl) (fun v14 => ?_)
              refine s_ldc2 X cl_X12_284 (dk okd_X12_statement 33 rfl) ?_
              refine s_run X ok_X12_statement 62 6 (pc' := 194) (vs' := [some (.ref p0)]) (st' := [.int 0, .int 0, .int 116, .int 115, .int 101, .long (v14 * 32768), .long v13]) rfl ?_
              refine s_callS (As := [.int 101, .int 115, .int 116, .int 0, .int 0]) (rest := [.long (v14 * 32768), .long v13]) X E ms_X12_278 (c_X12_pack S 101 115 116 0 0) rfl (ta0) rfl rfl (Nat.le_of_ble_eq_true rfl) (Nat.le_of_ble_eq_true rfl) (Nat.le_of_ble_eq_true rfl) (dk okd_X12_statement 34 rfl) (st' := fun v15 => [.long v15, .long (v14 * 32768), .long v13]) (fun _ => rfl) (fun v15 => ?_)
              refine s_run X ok_X12_statement 68 2 (pc' := 199) (vs' := [some (.ref p0)]) (st' := [.int (lg_cmp v13 ((v14 * 32768) + v15))]) rfl ?_
              refine s_lif_ne (tgt := 204) X (dk okd_X12_statement 35 rfl) (by decide) ?_ ?_
              · refine s_run X ok_X12_statement 71 1 (pc' := 205) (vs' := [some (.ref p0)]) (st' := [.ref p0]) rfl ?_
                refine s_getJ X fl_X12_322 t0_ (dk okd_X12_statement 37 rfl) (fun v16 => ?_)
                refine s_run X ok_X12_statement 72 5 (pc' := 218) (vs' := [some (.ref p0)]) (st' := [.int 110, .int 105, .int 109, .int 100, .int 97, .long v16]) rfl ?_
                refine s_callS (As := [.int 97, .int 100, .int 109, .int 105, .int 110]) (rest := [.long v16]) X E ms_X12_278 (c_X12_pack S 97 100 109 105 110) rfl (ta0) rfl rfl (Nat.le_of_ble_eq_true rfl) (Nat.le_of_ble_eq_true rfl) (Nat.le_of_ble_eq_true rfl) (dk okd_X12_statement 38 rfl) (st' := fun v17 => [.long v17, .long v16]) (fun _ => rfl) (fun v17 => ?_)
                refine s_run X ok_X12_statement 77 1 (pc' := 222) (vs' := [some (.ref p0)]) (st' := [.int (lg_cmp v16 v17)]) rfl ?_
                refine s_lif_ne (tgt := 228) X (dk okd_X12_statement 39 rfl) (by decide) ?_ ?_
                · refine s_run X ok_X12_statement 79 1 (pc' := 229) (vs' := [some (.ref p0)]) (st' := [.ref p0]) rfl ?_
                  refine s_getJ X fl_X12_322 t0_ (dk okd_X12_statement 41 rfl) (fun v18 => ?_)
                  refine s_run X ok_X12_statement 80 5 (pc' := 240) (vs' := [some (.ref p0)]) (st' := [.int 0, .int 0, .int 101, .int 101, .int 102, .long v18]) rfl ?_
                  refine s_callS (As := [.int 102, .int 101, .int 101, .int 0, .int 0]) (rest := [.long v18]) X E ms_X12_278 (c_X12_pack S 102 101 101 0 0) rfl (ta0) rfl rfl (Nat.le_of_ble_eq_true rfl) (Nat.le_of_ble_eq_true rfl) (Nat.le_of_ble_eq_true rfl) (dk okd_X12_statement 42 rfl) (st' := fun v19 => [.long v19, .long v18]) (fun _ => rfl) (fun v19 => ?_)
                  refine s_run X ok_X12_statement 85 1 (pc' := 244) (vs' := [some (.ref p0)]) (st' := [.int (lg_cmp v18 v19)]) rfl ?_
                  refine s_lif_ne (tgt := 250) X (dk okd_X12_statement 43 rfl) (by decide) ?_ ?_
                  · refine s_run X ok_X12_statement 87 1 (pc' := 251) (vs' := [some (.ref p0)]) (st' := [.ref p0]) rfl ?_
                    refine s_getJ X fl_X12_322 t0_ (dk okd_X12_statement 45 rfl) (fun v20 => ?_)
                    refine s_run X ok_X12_statement 88 5 (pc' := 264) (vs' := [some (.ref p0)]) (st' := [.int 121, .int 97, .int 108, .int 101, .int 100, .long v20]) rfl ?_
                    refine s_callS (As := [.int 100, .int 101, .int 108, .int 97, .int 121]) (rest := [.long v20]) X E ms_X12_278 (c_X12_pack S 100 101 108 97 121) rfl (ta0) rfl rfl (Nat.le_of_ble_eq_true rfl) (Nat.le_of_ble_eq_true rfl) (Nat.le_of_ble_eq_true rfl) (dk okd_X12_statement 46 rfl) (st' := fun v21 => [.long v21, .long v20]) (fun _ => rfl) (fun v21 => ?_)
                    refine s_run X ok_X12_statement 93 1 (pc' := 268) (vs' := [some (.ref p0)]) (st' := [.int (lg_cmp v20 v21)]) rfl ?_
                    refine s_lif_ne (tgt := 274) X (dk okd_X12_statement 47 rfl) (by decide) ?_ ?_
                    · refine s_run X ok_X12_statement 95 1 (pc' := 275) (vs' := [some (.ref p0)]) (st' := [.ref p0]) rfl ?_
                      refine s_getJ X fl_X12_322 t0_ (dk okd_X12_statement 49 rfl) (fun v22 => ?_)
                      refine s_run X ok_X12_statement 96 5 (pc' := 288) (vs' := [some (.ref p0)]) (st' := [.int 104, .int 116, .int 114, .int 111, .int 119, .long v22]) rfl ?_
                      refine s_callS (As := [.int 119, .int 111, .int 114, .int 116, .int 104]) (rest := [.long v22]) X E ms_X12_278 (c_X12_pack S 119 111 114 116 104) rfl (ta0) rfl rfl (Nat.le_of_ble_eq_true rfl) (Nat.le_of_ble_eq_true rfl) (Nat.le_of_ble_eq_true rfl) (dk okd_X12_statement 50 rfl) (st' := fun v23 => [.long v23, .long v22]) (fun _ => rfl) (fun v23 => ?_)
                      refine s_run X ok_X12_statement 101 1 (pc' := 292) (vs' := [some (.ref p0)]) (st' := [.int (lg_cmp v22 v23)]) rfl ?_
                      refine s_lif_ne (tgt := 300) X (dk okd_X12_statement 51 rfl) (by decide) ?_ ?_
                      · refine s_run X ok_X12_statement 104 1 (pc' := 301) (vs' := [some (.ref p0)]) (st' := [.int (-1)]) rfl ?_
                        exact s_iret X hr (dk okd_X12_statement 52 rfl) rfl rfl
                      · refine s_run X ok_X12_statement 102 2 (pc' := 301) (vs' := [some (.ref p0)]) (st' := [.int 9]) rfl ?_
                        exact s_iret X hr (dk okd_X12_statement 52 rfl) rfl rfl
                    · refine s_run X ok_X12_statement 94 1 (pc' := 273) (vs' := [some (.ref p0)]) (st' := [.int 8]) rfl ?_
                      exact s_iret X hr (dk okd_X12_statement 48 rfl) rfl rfl
                  · refine s_run X ok_X12_statement 86 1 (pc' := 249) (vs' := [some (.ref p0)]) (st' := [.int 7]) rfl ?_
                    exact s_iret X hr (dk okd_X12_statement 44 rfl) rfl rfl
                · refine s_run X ok_X12_statement 78 1 (pc' := 227) (vs' := [some (.ref p0)]) (st' := [.int 6]) rfl ?_
                  exact s_iret X hr (dk okd_X12_statement 40 rfl) rfl rfl
              · refine s_run X ok_X12_statement 70 1 (pc' := 203) (vs' := [some (.ref p0)]) (st' := [.int 5]) rfl ?_
                exact s_iret X hr (dk okd_X12_statement 36 rfl) rfl rfl
            · refine s_run X ok_X12_statement 55 1 (pc' := 164) (vs' := [some (.ref p0)]) (st' := [.int 4]) rfl ?_
              exact s_iret X hr (dk okd_X12_statement 30 rfl) rfl rfl
          · refine s_run X ok_X12_statement 44 1 (pc' := 129) (vs' := [some (.ref p0)]) (st' := [.int 3]) rfl ?_
            exact s_iret X hr (dk okd_X12_statement 23 rfl) rfl rfl
        · refine s_run X ok_X12_statement 33 1 (pc' := 94) (vs' := [some (.ref p0)]) (st' := [.int 2]) rfl ?_
          exact s_iret X hr (dk okd_X12_statement 16 rfl) rfl rfl
      · refine s_run X ok_X12_statement 25 1 (pc' := 72) (vs' := [some (.ref p0)]) (st' := [.int 1]) rfl ?_
        exact s_iret X hr (dk okd_X12_statement 12 rfl) rfl rfl
    · refine s_run X ok_X12_statement 10 1 (pc' := 31) (vs' := [some (.ref p0)]) (st' := [.int 0]) rfl ?_
      exact s_iret X hr (dk okd_X12_statement 6 rfl) rfl rfl
  · refine s_run X ok_X12_statement 2 1 (pc' := 9) (vs' := [some (.ref p0)]) (st' := [.int (-1)]) rfl ?_
    exact s_iret X hr (dk okd_X12_statement 2 rfl) rfl rfl
def tab_X12_named : List En := [(0, 0, 0, 0), (1, 11, 4, 0), (3, 5, 4, 0), (5, 31, 0, 0), (6, 8, 0, 0), (10, 2, 0, 5054), (13, 4, 1, 0), (14, 19, 0, 0), (15, 0, 0, 2), (16, 17, 0, 0), (18, 40, 0, 0), (22, 8, 0, 0), (26, 2, 0, 5054), (29, 4, 1, 0), (30, 19, 0, 0), (31, 1, 0, 58), (33, 17, 0, 0), (34, 1, 0, 16), (36, 5, 4, 0), (38, 19, 0, 0), (39, 17, 0, 0), (40, 0, 0, 0), (41, 17, 0, 0), (43, 6, 2, 0), (44, 40, 0, 0), (48, 5, 4, 0), (51, 16, 4, 1), (54, 41, 3, 0), (57, 0, 0, (-1))]
theorem ok_X12_named : tab_X12_named.all (okE cX12_named) = true := by decide +kernel
def ed_X12_named : List (Nat × Instr × Nat) := [(7, .getfield 9, 3), (17, .laload, 1), (19, .ifCond .ge 38, 3), (23, .getfield 9, 3), (42, .laload, 1), (45, .ifCond .ne 6, 3), (50, .ireturn, 1), (58, .ireturn, 1)]
theorem okd_X12_named : ed_X12_named.all (okD cX12_named) = true := by decide +kernel
def f_X12_named (S : St) (p0 : Nat) (p1 : Int32) (p2 : Int64) : Option (Int32) := jn (κ := Int32 → Option (Int32)) (fun x1 => some x1) fun k2 => lp (κ := Int32 → Option (Int32)) (fun _ => none) (fun k5 x4 => lt (gR S p0 0) fun (a7 : Nat) => ldJ S a7 ((5054 * p1) + 2) fun (v9 : Int64) => if v9 ≤ (Int32.toInt64 x4) then (some (-1)) else (lt (gR S p0 0) fun (a10 : Nat) => ldJ S a10 ((((5054 * p1) + 58) + (16 * x4)) + 0) fun (v12 : Int64) => if v12 = p2 then (k2 x4) else (k5 (x4 + 1)))) FU 0
set_option maxHeartbeats 4000000 in
set_option maxRecDepth 100000 in
theorem c_X12_named (S : St) (p0 : Nat) (p1 : Int32) (p2 : Int64) : Ct yX12_named cX12_named 5 (some .int) 0 0 (fun _ => [.ref p0, .int p1, .long p2]) [(p0, 11)] S (f_X12_named S p0 p1 p2) oI (fun _ => S) := by
  refine Ct_of RX12 rfl (by decide) (fun _ => Nat.le_of_ble_eq_true rfl) 1 (vs := fun _ => [some (.ref p0), some (.int p1), some (.long p2), none, none]) (fun _ => rfl) (fun C X E hr ht => ?_)
  have t0_ : tT C p0 11 := ht (p0, 11) (by simp)
  show Jd C 5 (QJ C oI (fun _ => S)) S 0 [some (.ref p0), some (.int p1), some (.long p2), none, none] [] (f_X12_named S p0 p1 p2)
  unfold f_X12_named
  refine s_run X ok_X12_named 0 2 (pc' := 3) (vs' := [some (.ref p0), some (.int p1), some (.long p2), none, some (.int 0)]) (st' := []) rfl ?_
  refine s_jn (κ := Int32 → Option (Int32)) (fun k2 => ∀ (x1 : Int32), Jd C 5 (QJ C oI (fun _ => S)) S 48 [none, none, none, none, some (.int x1)] [] (k2 x1)) (fun x1 => ?_) (fun k2 h3 => ?_)
  · refine s_run X ok_X12_named 25 1 (pc' := 50) (vs' := [none, none, none, none, some (.int x1)]) (st' := [.int x1]) rfl ?_
    exact s_iret X hr (dk okd_X12_named 6 rfl) rfl rfl
  · refine s_lp (κ := Int32 → Option (Int32)) (fun k5 => ∀ (x4 : Int32), Jd C 5 (QJ C oI (fun _ => S)) S 3 [some (.ref p0), some (.int p1), some (.long p2), none, some (.int x4)] [] (k5 x4)) (fun _ => s_none) (fun k5 h6 x4 => ?_) FU 0
    refine s_run X ok_X12_named 2 3 (pc' := 7) (vs' := [some (.ref p0), some (.int p1), some (.long p2), none, some (.int x4)]) (st' := [.ref p0, .long (Int32.toInt64 x4)]) rfl ?_
    refine s_getR X fl_X12_9 t0_ (dk okd_X12_named 0 rfl) (fun a7 (t8 : tT C a7 14) => ?_)
    refine s_run X ok_X12_named 5 5 (pc' := 17) (vs' := [some (.ref p0), some (.int p1), some (.long p2), none, some (.int x4)]) (st' := [.int ((5054 * p1) + 2), .ref a7, .long (Int32.toInt64 x4)]) rfl ?_
    refine s_lald X t8 (dk okd_X12_named 1 rfl) (fun v9 => ?_)
    refine s_run X ok_X12_named 10 1 (pc' := 19) (vs' := [some (.ref p0), some (.int p1), some (.long p2), none, some (.int x4)]) (st' := [.int (lg_cmp (Int32.toInt64 x4) v9)]) rfl ?_
    refine s_lif_ge (tgt := 57) X (dk okd_X12_named 2 rfl) (by decide) ?_ ?_
    · refine s_run X ok_X12_named 28 1 (pc' := 58) (vs' := [some (.ref p0), some (.int p1), some (.long p2), none, some (.int x4)]) (st' := [.int (-1)]) rfl ?_
      exact s_iret X hr (dk okd_X12_named 7 rfl) rfl rfl
    · refine s_run X ok_X12_named 11 1 (pc' := 23) (vs' := [some (.ref p0), some (.int p1), some (.long p2), none, some (.int x4)]) (st' := [.ref p0]) rfl ?_
      refine s_getR X fl_X12_9 t0_ (dk okd_X12_named 3 rfl) (fun a10 (t11 : tT C a10 14) => ?_)
      refine s_run X ok_X12_named 12 11 (pc' := 42) (vs' := [some (.ref p0), some (.int p1), some (.long p2), none, some (.int x4)]) (st' := [.int ((((5054 * p1) + 58) + (16 * x4)) + 0), .ref a10]) rfl ?_
      refine s_lald X t11 (dk okd_X12_named 4 rfl) (fun v12 => ?_)
      refine s_run X ok_X12_named 23 2 (pc' := 45) (vs' := [some (.ref p0), some (.int p1), some (.long p2), none, some (.int x4)]) (st' := [.int (lg_cmp v12 p2)]) rfl ?_
      refine s_lif_ne (tgt := 51) X (dk okd_X12_named 5 rfl) (by decide) ?_ ?_
      · refine s_run X ok_X12_named 26 2 (pc' := 3) (vs' := [some (.ref p0), some (.int p1), some (.long p2), none, some (.int (x4 + 1))]) (st' := []) rfl ?_
        exact h6 (x4 + 1)
      · exact s_less [false, false, false, false, true] rfl (h3 x4)
def tab_X12_readPlan : List En := [(0, 8, 0, 0), (4, 2, 0, 15163), (11, 40, 0, 0), (15, 8, 0, 0), (16, 0, 0, 4), (21, 8, 0, 0), (25, 2, 0, 15176), (28, 1, 0, 11), (30, 8, 0, 0), (34, 2, 0, 15163), (38, 32, 0, 0), (39, 19, 0, 0), (40, 17, 0, 0), (41, 10, 1, 0), (42, 8, 0, 0), (43, 4, 1, 0), (44, 0, 0, 0), (45, 17, 0, 0), (46, 0, 0, 0), (47, 2, 0, 1000), (50, 3, 1, 0), (57, 8, 0, 0), (58, 4, 1, 0), (59, 0, 0, 1), (60, 17, 0, 0), (61, 0, 0, 0), (62, 2, 0, 3000), (65, 3, 1, 0), (72, 0, 0, 0), (74, 0, 0, 1), (75, 10, 2, 0), (76, 0, 0, 0), (77, 10, 3, 0), (78, 8, 0, 0), (82, 0, 0, 2), (86, 8, 0, 0), (90, 4, 2, 0), (91, 31, 0, 0), (101, 8, 0, 0), (102, 0, 0, 2), (107, 4, 3, 0), (108, 0, 0, 4), (112, 8, 0, 0), (113, 0, 0, 4), (118, 8, 0, 0), (122, 32, 0, 0), (123, 0, 0, 1), (124, 17, 0, 0), (125, 10, 2, 0), (126, 8, 0, 0), (130, 4, 1, 0), (131, 0, 0, 3), (132, 17, 0, 0), (133, 4, 3, 0), (134, 17, 0, 0), (135, 8, 0, 0), (142, 25, 0, 0), (144, 8, 0, 0), (148, 8, 0, 0), (149, 4, 1, 0), (150, 1, 0, 7), (152, 17, 0, 0), (153, 4, 3, 0), (154, 17, 0, 0), (155, 0, 0, 0), (156, 2, 0, 3000), (159, 3, 1, 0), (166, 0, 0, 0), (168, 8, 0, 0), (172, 4, 1, 0), (173, 0, 0, 2), (174, 17, 0, 0), (175, 37, 0, 0), (177, 3, 1, 0), (178, 23, 0, 0), (180, 16, 3, 1), (183, 41, 78, 0), (186, 8, 0, 0), (190, 2, 0, 15163), (193, 37, 0, 0), (195, 3, 1, 0), (196, 23, 0, 0), (198, 8, 0, 0)]
theorem ok_X12_readPlan : tab_X12_readPlan.all (okE cX12_readPlan) = true := by decide +kernel
def ed_X12_readPlan : List (Nat × Instr × Nat) := [(1, .getfield 9, 3), (7, .laload, 1), (8, .ldc2_w 222, 3), (12, .ifCond .ne 9, 3), (17, .invokevirtual 339, 3), (20, .ireturn, 1), (22, .invokevirtual 345, 3), (31, .getfield 9, 3), (37, .laload, 1), (51, .invokevirtual 355, 3), (54, .ifCond .eq 18, 3), (66, .invokevirtual 355, 3), (69, .ifCond .ne 5, 3), (73, .ireturn, 1), (79, .getfield 332, 3), (83, .if_icmp .ne 103, 3), (87, .getfield 322, 3), (92, .ldc2_w 359, 3), (95, .invokestatic 53, 3), (98, .ifCond .ne 9, 3), (103, .invokevirtual 339, 3), (106, .ireturn, 1), (109, .if_icmp .ne 9, 3), (114, .invokevirtual 339, 3), (117, .ireturn, 1), (119, .getfield 322, 3), (127, .getfield 9, 3), (136, .getfield 322, 3), (139, .ldc2_w 144, 3), (143, .lastore, 1), (145, .invokevirtual 345, 3), (160, .invokevirtual 355, 3), (163, .ifCond .ne 5, 3), (167, .ireturn, 1), (169, .getfield 9, 3), (176, .laload, 1), (179, .lastore, 1), (187, .getfield 9, 3), (194, .laload, 1), (197, .lastore, 1), (199, .invokevirtual 361, 3), (202, .ireturn, 1)]
theorem okd_X12_readPlan : ed_X12_readPlan.all (okD cX12_readPlan) = true := by decide +kernel
def f_X12_readPlan (S : St) (p0 : Nat) : Option (Int32 × St) := lt (gR S p0 0) fun (a1 : Nat) => ldJ S a1 15163 fun (v3 : Int64) => if v3 = 4 then (cl (f_X12_fail S p0 4) fun (o47 : Int32 × St) => zc o47.1 (some (o47.1, o47.2))) else (cl (f_X12_advance S p0) fun (S4 : St) => lt (gR S4 p0 0) fun (a5 : Nat) => ldJ S4 a5 15163 fun (v7 : Int64) => lt (15176 + (11 * (Int64.toInt32 v7))) fun (v8 : Int32) => cl (f_X12_readInto S4 p0 (v8 + 0) 0 1000 1) fun (o9 : Int32 × St) => if o9.1 = 0 then (some (0, o9.2)) else (cl (f_X12_readInto o9.2 p0 (v8 + 1) 0 3000 1) fun (o10 : Int32 × St) => if o10.1 = 0 then (some (0, o10.2)) else (jn (κ := St → Option (Int32 × St)) (fun S11 => cl (f_X12_fail S11 p0 4) fun (o14 : Int32 × St) => zc o14.1 (some (o14.1, o14.2))) fun k12 => jn (κ := St → Option (Int32 × St)) (fun S15 => lt (gR S15 p0 0) fun (a18 : Nat) => ldJ S15 a18 15163 fun (v20 : Int64) => stJ S15 a18 15163 (v20 + 1) fun (S21 : St) => cl (f_X12_readEnd S21 p0) fun (o22 : Int32 × St) => zc o22.1 (some (o22.1, o22.2))) fun k16 => jn (κ := St → Option (Int32 × St)) (fun S23 => cl (f_X12_fail S23 p0 2) fun (o26 : Int32 × St) => zc o26.1 (some (o26.1, o26.2))) fun k24 => lp (κ := Int32 → Int32 → St → Option (Int32 × St)) (fun _ _ _ => none) (fun k30 x27 x28 S29 => lt (gI S29 p0 13) fun (v32 : Int32) => if v32 = 2 then (lt (gJ S29 p0 16) fun (v33 : Int64) => cl (f_X12_inRange S29 v33 (Int32.toInt64 x27) 99999) fun (v34 : Int32) => if v34 = 0 then (k24 S29) else (if x28 = 4 then (k12 S29) else (lt (gJ S29 p0 16) fun (v35 : Int64) => lt ((Int64.toInt32 v35) + 1) fun (v36 : Int32) => lt (gR S29 p0 0) fun (a37 : Nat) => lt (gJ S29 p0 16) fun (v39 : Int64) => stJ S29 a37 ((v8 + 3) + x28) (v39 * 100) fun (S40 : St) => cl (f_X12_advance S40 p0) fun (S41 : St) => cl (f_X12_readInto S41 p0 ((v8 + 7) + x28) 0 3000 1) fun (o42 : Int32 × St) => if o42.1 = 0 then (some (0, o42.2)) else (lt (gR o42.2 p0 0) fun (a43 : Nat) => ldJ o42.2 a43 (v8 + 2) fun (v45 : Int64) => stJ o42.2 a43 (v8 + 2) (v45 + 1) fun (S46 : St) => k30 v36 (x28 + 1) S46)))) else (k16 S29)) FU 1 0 o10.2)))
set_option maxHeartbeats 4000000 in
set_option maxRecDepth 100000 in
theorem c_X12_readPlan (S : St) (p0 : Nat) : Ct yX12_readPlan cX12_readPlan 4 (some .boolean) 5 113 (fun _ => [.ref p0]) [(p0, 11)] S (f_X12_readPlan S p0) oIS sS := by
  refine Ct_of RX12 rfl (by decide) (fun _ => Nat.le_of_ble_eq_true rfl) 3 (vs := fun _ => [some (.ref p0), none, none, none]) (fun _ => rfl) (fun C X E hr ht => ?_)
  have t0_ : tT C p0 11 := ht (p0, 11) (by simp)
  show Jd C 4 (QJ C oIS sS) S 0 [some (.ref p0), none, none, none] [] (f_X12_readPlan S p0)
  unfold f_X12_readPlan
  refine s_run X ok_X12_readPlan 0 1 (pc' := 1) (vs' := [some (.ref p0), none, none, none]) (st' := [.ref p0]) rfl ?_
  refine s_getR X fl_X12_9 t0_ (dk okd_X12_readPlan 0 rfl) (fun a1 (t2 : tT C a1 14) => ?_)
  refine s_run X ok_X12_readPlan 1 1 (pc' := 7) (vs' := [some (.ref p0), none, none, none]) (st' := [.int 15163, .ref a1]) rfl ?_
  refine s_lald X t2 (dk okd_X12_readPlan 1 rfl) (fun v3 => ?_)
  refine s_ldc2 X cl_X12_222 (dk okd_X12_readPlan 2 rfl) ?_
  refine s_run X ok_X12_readPlan 2 1 (pc' := 12) (vs' := [some (.ref p0), none, none, none]) (st' := [.int (lg_cmp v3 4)]) rfl ?_
  refine s_lif_ne (tgt := 21) X (dk okd_X12_readPlan 3 rfl) (by decide) ?_ ?_
  · refine s_run X ok_X12_readPlan 5 1 (pc' := 22) (vs' := [some (.ref p0), none, none, none]) (st' := [.ref p0]) rfl ?_
    refine s_callV (b := p0) (As := []) (rest := []) X E mv_X12_345 (c_X12_advance S p0) rfl (ta1 t0_) rfl (by decide) t0_ rfl rfl (Nat.le_of_ble_eq_true rfl) (Nat.le_of_ble_eq_true rfl) (Nat.le_of_ble_eq_true rfl) (dk okd_X12_readPlan 6 rfl) (st' := fun S4 => []) (fun _ => rfl) (fun S4 => ?_)
    refine s_run X ok_X12_readPlan 6 3 (pc' := 31) (vs' := [some (.ref p0), none, none, none]) (st' := [.ref p0, .int 11, .int 15176]) rfl ?_
    refine s_getR X fl_X12_9 t0_ (dk okd_X12_readPlan 7 rfl) (fun a5 (t6 : tT C a5 14) => ?_)
    refine s_run X ok_X12_readPlan 9 1 (pc' := 37) (vs' := [some (.ref p0), none, none, none]) (st' := [.int 15163, .ref a5, .int 11, .int 15176]) rfl ?_
    refine s_lald X t6 (dk okd_X12_readPlan 8 rfl) (fun v7 => ?_)
    refine s_run X ok_X12_readPlan 10 3 (pc' := 41) (vs' := [some (.ref p0), none, none, none]) (st' := [.int (15176 + (11 * (Int64.toInt32 v7)))]) rfl ?_
    refine s_nmI (fun v8 => ?_)
    refine s_run X ok_X12_readPlan 13 8 (pc' := 51) (vs' := [some (.ref p0), some (.int v8), none, none]) (st' := [.long 1, .int 1000, .int 0, .int (v8 + 0), .ref p0]) rfl ?_
    refine s_callV (b := p0) (As := [.int (v8 + 0), .int 0, .int 1000, .long 1]) (rest := []) X E mv_X12_355 (c_X12_readInto S4 p0 (v8 + 0) 0 1000 1) rfl (ta1 t0_) rfl (by decide) t0_ rfl rfl (Nat.le_of_ble_eq_true rfl) (Nat.le_of_ble_eq_true rfl) (Nat.le_of_ble_eq_true rfl) (dk okd_X12_readPlan 9 rfl) (st' := fun o9 => [.int o9.1]) (fun _ => rfl) (fun o9 => ?_)
    refine s_if_eq (tgt := 72) X (dk okd_X12_readPlan 10 rfl) (by decide) ?_ ?_
    · refine s_run X ok_X12_readPlan 28 1 (pc' := 73) (vs' := [some (.ref p0), some (.int v8), none, none]) (st' := [.int 0]) rfl ?_
      exact s_zret0 X hr (dk okd_X12_readPlan 13 rfl) (by decide) rfl rfl
    · refine s_run X ok_X12_readPlan 21 7 (pc' := 66) (vs' := [some (.ref p0), some (.int v8), none, none]) (st' := [.long 1, .int 3000, .int 0, .int (v8 + 1), .ref p0]) rfl ?_
      refine s_callV (b := p0) (As := [.int (v8 + 1), .int 0, .int 3000, .long 1]) (rest := []) X E mv_X12_355 (c_X12_readInto o9.2 p0 (v8 + 1) 0 3000 1) rfl (ta1 t0_) rfl (by decide) t0_ rfl rfl (Nat.le_of_ble_eq_true rfl) (Nat.le_of_ble_eq_true rfl) (Nat.le_of_ble_eq_true rfl) (dk okd_X12_readPlan 11 rfl) (st' := fun o10 => [.int o10.1]) (fun _ => rfl) (fun o10 => ?_)
      refine s_if_ne (tgt := 74) X (dk okd_X12_readPlan 12 rfl) (by decide) ?_ ?_
      · refine s_run X ok_X12_readPlan 29 4 (pc' := 78) (vs' := [some (.ref p0), some (.int v8), some (.int 1), some (.int 0)]) (st' := []) rfl ?_
        refine s_jn (κ := St → Option (Int32 × St)) (fun k12 => ∀ (S11 : St), Jd C 4 (QJ C oIS sS) S11 112 [some (.ref p0), none, none, none] [] (k12 S11)) (fun S11 => ?_) (fun k12 h13 => ?_)
        · refine s_run X ok_X12_readPlan 42 2 (pc' := 114) (vs' := [some (.ref p0), none, none, none]) (st' := [.int 4, .ref p0]) rfl ?_
          refine s_callV (b := p0) (As := [.int 4]) (rest := []) X E mv_X12_339 (c_X12_fail S11 p0 4) rfl (ta1 t0_) rfl (by decide) t0_ rfl rfl (Nat.le_of_ble_eq_true rfl) (Nat.le_of_ble_eq_true rfl) (Nat.le_of_ble_eq_true rfl) (dk okd_X12_readPlan 23 rfl) (st' := fun o14 => [.int o14.1]) (fun _ => rfl) (fun o14 => ?_)
          exact s_zret X hr (dk okd_X12_readPlan 24 rfl) rfl rfl
        · refine s_jn (κ := St → Option (Int32 × St)) (fun k16 => ∀ (S15 : St), Jd C 4 (QJ C oIS sS) S15 186 [some (.ref p0), none, none, none] [] (k16 S15)) (fun S15 => ?_) (fun k16 h17 => ?_)
          · refine s_run X ok_X12_readPlan 77 1 (pc' := 187) (vs' := [some (.ref p0), none, none, none]) (st' := [.ref p0]) rfl ?_
            refine s_getR X fl_X12_9 t0_ (dk okd_X12_readPlan 37 rfl) (fun a18 (t19 : tT C a18 14) => ?_)
            refine s_run X ok_X12_readPlan 78 2 (pc' := 194) (vs' := [some (.ref p0), none, none, none]) (st' := [.int 15163, .ref a18, .int 15163, .ref a18]) rfl ?_
            refine s_lald X t19 (dk okd_X12_readPlan 38 rfl) (fun v20 => ?_)
            refine s_run X ok_X12_readPlan 80 2 (pc' := 197) (vs' := [some (.ref p0), none, none, none]) (st' := [.long (v20 + 1), .int 15163, .ref a18]) rfl ?_
            refine s_last X t19 (dk okd_X12_readPlan 39 rfl) (fun S21 => ?_)
            refine s_run X ok_X12_readPlan 82 1 (pc' := 199) (vs' := [some (.ref p0), none, none, none]) (st' := [.ref p0]) rfl ?_
            refine s_callV (b := p0) (As := []) (rest := []) X E mv_X12_361 (c_X12_readEnd S21 p0) rfl (ta1 t0_) rfl (by decide) t0_ rfl rfl (Nat.le_of_ble_eq_true rfl) (Nat.le_of_ble_eq_true rfl) (Nat.le_of_ble_eq_true rfl) (dk okd_X12_readPlan 40 rfl) (st' := fun o22 => [.int o22.1]) (fun _ => rfl) (fun o22 => ?_)
            exact s_zret X hr (dk okd_X12_readPlan 41 rfl) rfl rfl
          · refine s_jn (κ := St → Option (Int32 × St)) (fun k24 => ∀ (S23 : St), Jd C 4 (QJ C oIS sS) S23 101 [some (.ref p0), none, none, none] [] (k24 S23)) (fun S23 => ?_) (fun k24 h25 => ?_)
            · refine s_run X ok_X12_readPlan 38 2 (pc' := 103) (vs' := [some (.ref p0), none, none, none]) (st' := [.int 2, .ref p0]) rfl ?_
              refine s_callV (b := p0) (As := [.int 2]) (rest := []) X E mv_X12_339 (c_X12_fail S23 p0 2) rfl (ta1 t0_) rfl (by decide) t0_ rfl rfl (Nat.le_of_ble_eq_true rfl) (Nat.le_of_ble_eq_true rfl) (Nat.le_of_ble_eq_true rfl) (dk okd_X12_readPlan 20 rfl) (st' := fun o26 => [.int o26.1]) (fun _ => rfl) (fun o26 => ?_)
              exact s_zret X hr (dk okd_X12_readPlan 21 rfl) rfl rfl
            · refine s_lp (κ := Int32 → Int32 → St → Option (Int32 × St)) (fun k30 => ∀ (x27 : Int32) (x28 : Int32) (S29 : St), Jd C 4 (QJ C oIS sS) S29 78 [some (.ref p0), some (.int v8), some (.int x27), some (.int x28)] [] (k30 x27 x28 S29)) (fun _ _ _ => s_none) (fun k30 h31 x27 x28 S29 => ?_) FU 1 0 o10.2
              refine s_run X ok_X12_readPlan 33 1 (pc' := 79) (vs' := [some (.ref p0), some (.int v8), some (.int x27), some (.int x28)]) (st' := [.ref p0]) rfl ?_
              refine s_getI X fl_X12_332 t0_ (dk okd_X12_readPlan 14 rfl) (fun v32 => ?_)
              refine s_run X ok_X12_readPlan 34 1 (pc' := 83) (vs' := [some (.ref p0), some (.int v8), some (.int x27), some (.int x28)]) (st' := [.int 2, .int v32]) rfl ?_
              refine s_icmp_ne (tgt := 186) X (dk okd_X12_readPlan 15 rfl) (by decide) ?_ ?_
              · exact s_less [true, false, false, false] rfl (h17 S29)
              · refine s_run X ok_X12_readPlan 35 1 (pc' := 87) (vs' := [some (.ref p0), some (.int v8), some (.int x27), some (.int x28)]) (st' := [.ref p0]) rfl ?_
                refine s_getJ X fl_X12_322 t0_ (dk okd_X12_readPlan 16 rfl) (fun v33 => ?_)
                refine s_run X ok_X12_readPlan 36 2 (pc' := 92) (vs' := [some (.ref p0), some (.int v8), some (.int x27), some (.int x28)]) (st' := [.long (Int32.toInt64 x27), .long v33]) rfl ?_
                refine s_ldc2 X cl_X12_359 (dk okd_X12_readPlan 17 rfl) ?_
                refine s_callS (As := [.long v33, .long (Int32.toInt64 x27), .long 99999]) (rest := []) X E ms_X12_53 (c_X12_inRange S29 v33 (Int32.toInt64 x27) 99999) rfl (ta0) rfl rfl (Nat.le_of_ble_eq_true rfl) (Nat.le_of_ble_eq_true rfl) (Nat.le_of_ble_eq_true rfl) (dk okd_X12_readPlan 18 rfl) (st' := fun v34 => [.int v34]) (fun _ => rfl) (fun v34 => ?_)
                refine s_if_ne (tgt := 107) X (dk okd_X12_readPlan 19 rfl) (by decide) ?_ ?_
                · refine s_run X ok_X12_readPlan 40 2 (pc' := 109) (vs' := [some (.ref p0), some (.int v8), some (.int x27), some (.int x28)]) (st' := [.int 4, .int x28]) rfl ?_
                  refine s_icmp_ne (tgt := 118) X (dk okd_X12_readPlan 22 rfl) (by decide) ?_ ?_
                  · refine s_run X ok_X12_readPlan 44 1 (pc' := 119) (vs' := [some (.ref p0), some (.int v8), some (.int x27), some (.int x28)]) (st' := [.ref p0]) rfl ?_
                    refine s_getJ X fl_X12_322 t0_ (dk okd_X12_readPlan 25 rfl) (fun v35 => ?_)
                    refine s_run X ok_X12_readPlan 45 3 (pc' := 125) (vs' := [some (.ref p0), some (.int v8), some (.int x27), some (.int x28)]) (st' := [.int ((Int64.toInt32 v35) + 1)]) rfl ?_
                    refine s_nmI (fun v36 => ?_)
                    refine s_run X ok_X12_readPlan 48 2 (pc' := 127) (vs' := [some (.ref p0), some (.int v8), some (.int v36), some (.int x28)]) (st' := [.ref p0]) rfl ?_
                    refine s_getR X fl_X12_9 t0_ (dk okd_X12_readPlan 26 rfl) (fun a37 (t38 : tT C a37 14) => ?_)
                    refine s_run X ok_X12_readPlan 50 6 (pc' := 136) (vs' := [some (.ref p0), some (.int v8), some (.int v36), some (.int x28)]) (st' := [.ref p0, .int ((v8 + 3) + x28), .ref a37]) rfl ?_
                    refine s_getJ X fl_X12_322 t0_ (dk okd_X12_readPlan 27 rfl) (fun v39 => ?_)
                    refine s_ldc2 X cl_X12_144 (dk okd_X12_readPlan 28 rfl) ?_
                    refine s_run X ok_X12_readPlan 56 1 (pc' := 143) (vs' := [some (.ref p0), some (.int v8), some (.int v36), some (.int x28)]) (st' := [.long (v39 * 100), .int ((v8 + 3) + x28), .ref a37]) rfl ?_
                    refine s_last X t38 (dk okd_X12_readPlan 29 rfl) (fun S40 => ?_)
                    refine s_run X ok_X12_readPlan 57 1 (pc' := 145) (vs' := [some (.ref p0), some (.int v8), some (.int v36), some (.int x28)]) (st' := [.ref p0]) rfl ?_
                    refine s_callV (b := p0) (As := []) (rest := []) X E mv_X12_345 (c_X12_advance S40 p0) rfl (ta1 t0_) rfl (by decide) t0_ rfl rfl (Nat.le_of_ble_eq_true rfl) (Nat.le_of_ble_eq_true rfl) (Nat.le_of_ble_eq_true rfl) (dk okd_X12_readPlan 30 rfl) (st' := fun S41 => []) (fun _ => rfl) (fun S41 => ?_)
                    refine s_run X ok_X12_readPlan 58 9 (pc' := 160) (vs' := [some (.ref p0), some (.int v8), some (.int v36), some (.int x28)]) (st' := [.long 1, .int 3000, .int 0, .int ((v8 + 7) + x28), .ref p0]) rfl ?_
                    refine s_callV (b := p0) (As := [.int ((v8 + 7) + x28), .int 0, .int 3000, .long 1]) (rest := []) X E mv_X12_355 (c_X12_readInto S41 p0 ((v8 + 7) + x28) 0 3000 1) rfl (ta1 t0_) rfl (by decide) t0_ rfl rfl (Nat.le_of_ble_eq_true rfl) (Nat.le_of_ble_eq_true rfl) (Nat.le_of_ble_eq_true rfl) (dk okd_X12_readPlan 31 rfl) (st' := fun o42 => [.int o42.1]) (fun _ => rfl) (fun o42 => ?_)
                    refine s_if_ne (tgt := 168) X (dk okd_X12_readPlan 32 rfl) (by decide) ?_ ?_
                    · refine s_run X ok_X12_readPlan 68 1 (pc' := 169) (vs' := [some (.ref p0), some (.int v8), some (.int v36), some (.int x28)]) (st' := [.ref p0]) rfl ?_
                      refine s_getR X fl_X12_9 t0_ (dk okd_X12_readPlan 34 rfl) (fun a43 (t44 : tT C a43 14) => ?_)
                      refine s_run X ok_X12_readPlan 69 4 (pc' := 176) (vs' := [some (.ref p0), some (.int v8), some (.int v36), some (.int x28)]) (st' := [.int (v8 + 2), .ref a43, .int (v8 + 2), .ref a43]) rfl ?_
                      refine s_lald X t44 (dk okd_X12_readPlan 35 rfl) (fun v45 => ?_)
                      refine s_run X ok_X12_readPlan 73 2 (pc' := 179) (vs' := [some (.ref p0), some (.int v8), some (.int v36), some (.int x28)]) (st' := [.long (v45 + 1), .int (v8 + 2), .ref a43]) rfl ?_
                      refine s_last X t44 (dk okd_X12_readPlan 36 rfl) (fun S46 => ?_)
                      refine s_run X ok_X12_readPlan 75 2 (pc' := 78) (vs' := [some (.ref p0), some (.int v8), some (.int v36), some (.int (x28 + 1))]) (st' := []) rfl ?_
                      exact h31 v36 (x28 + 1) S46
                    · refine s_run X ok_X12_readPlan 67 1 (pc' := 167) (vs' := [some (.ref p0), some (.int v8), some (.int v36), some (.int x28)]) (st' := [.int 0]) rfl ?_
                      exact s_zret0 X hr (dk okd_X12_readPlan 33 rfl) (by decide) rfl rfl
                  · exact s_less [true, false, false, false] rfl (h13 S29)
                · exact s_less [true, false, false, false] rfl (h25 S29)
      · refine s_run X ok_X12_readPlan 28 1 (pc' := 73) (vs' := [some (.ref p0), some (.int v8), none, none]) (st' := [.int 0]) rfl ?_
        exact s_zret0 X hr (dk okd_X12_readPlan 13 rfl) (by decide) rfl rfl
  · refine s_run X ok_X12_readPlan 3 2 (pc' := 17) (vs' := [some (.ref p0), none, none, none]) (st' := [.int 4, .ref p0]) rfl ?_
    refine s_callV (b := p0) (As := [.int 4]) (rest := []) X E mv_X12_339 (c_X12_fail S p0 4) rfl (ta1 t0_) rfl (by decide) t0_ rfl rfl (Nat.le_of_ble_eq_true rfl) (Nat.le_of_ble_eq_true rfl) (Nat.le_of_ble_eq_true rfl) (dk okd_X12_readPlan 4 rfl) (st' := fun o47 => [.int o47.1]) (fun _ => rfl) (fun o47 => ?_)
    exact s_zret X hr (dk okd_X12_readPlan 5 rfl) rfl rfl
def tab_X12_readFranchisee : List En := [(0, 8, 0, 0), (4, 2, 0, 15164), (11, 40, 0, 0), (15, 8, 0, 0), (16, 0, 0, 4), (21, 8, 0, 0), (25, 8, 0, 0), (29, 0, 0, 1), (33, 8, 0, 0), (37, 0, 0, (-1)), (41, 8, 0, 0), (42, 0, 0, 1), (47, 8, 0, 0), (48, 0, 0, 3), (49, 8, 0, 0), (56, 0, 0, (-1)), (60, 8, 0, 0), (61, 0, 0, 3), (66, 2, 0, 15220), (69, 1, 0, 16), (71, 8, 0, 0), (75, 2, 0, 15164), (79, 32, 0, 0), (80, 19, 0, 0), (81, 17, 0, 0), (82, 10, 1, 0), (83, 8, 0, 0), (87, 4, 1, 0), (88, 0, 0, 0), (89, 17, 0, 0), (90, 8, 0, 0), (95, 8, 0, 0), (99, 8, 0, 0), (100, 4, 1, 0), (101, 0, 0, 1), (102, 17, 0, 0), (103, 0, 0, 0), (104, 8, 0, 0), (108, 2, 0, 15163), (112, 32, 0, 0), (113, 0, 0, 1), (114, 18, 0, 0), (115, 3, 1, 0), (122, 8, 0, 0), (123, 4, 1, 0), (124, 0, 0, 2), (125, 17, 0, 0), (126, 0, 0, 0), (127, 2, 0, 999), (130, 3, 1, 0), (137, 0, 0, 0), (139, 8, 0, 0), (143, 2, 0, 15164), (146, 37, 0, 0), (148, 3, 1, 0), (149, 23, 0, 0), (151, 8, 0, 0)]
theorem ok_X12_readFranchisee : tab_X12_readFranchisee.all (okE cX12_readFranchisee) = true := by decide +kernel
def ed_X12_readFranchisee : List (Nat × Instr × Nat) := [(1, .getfield 9, 3), (7, .laload, 1), (8, .ldc2_w 364, 3), (12, .ifCond .ne 9, 3), (17, .invokevirtual 339, 3), (20, .ireturn, 1), (22, .invokevirtual 345, 3), (26, .getfield 332, 3), (30, .if_icmp .ne 11, 3), (34, .invokevirtual 366, 3), (38, .if_icmp .eq 9, 3), (43, .invokevirtual 339, 3), (46, .ireturn, 1), (50, .getfield 322, 3), (53, .invokevirtual 370, 3), (57, .if_icmp .eq 9, 3), (62, .invokevirtual 339, 3), (65, .ireturn, 1), (72, .getfield 9, 3), (78, .laload, 1), (84, .getfield 9, 3), (91, .getfield 322, 3), (94, .lastore, 1), (96, .invokevirtual 345, 3), (105, .getfield 9, 3), (111, .laload, 1), (116, .invokevirtual 355, 3), (119, .ifCond .eq 18, 3), (131, .invokevirtual 355, 3), (134, .ifCond .ne 5, 3), (138, .ireturn, 1), (140, .getfield 9, 3), (147, .laload, 1), (150, .lastore, 1), (152, .invokevirtual 361, 3), (155, .ireturn, 1)]
theorem okd_X12_readFranchisee : ed_X12_readFranchisee.all (okD cX12_readFranchisee) = true := by decide +kernel
def f_X12_readFranchisee (S : St) (p0 : Nat) : Option (Int32 × St) := lt (gR S p0 0) fun (a1 : Nat) => ldJ S a1 15164 fun (v3 : Int64) => if v3 = 8 then (cl (f_X12_fail S p0 4) fun (o32 : Int32 × St) => zc o32.1 (some (o32.1, o32.2))) else (cl (f_X12_advance S p0) fun (S4 : St) => lt (gI S4 p0 13) fun (v5 : Int32) => jn (κ := Option (Int32 × St)) (cl (f_X12_fail S4 p0 1) fun (o8 : Int32 × St) => zc o8.1 (some (o8.1, o8.2))) fun k6 => if v5 = 1 then (cl (f_X12_statement S4 p0) fun (v9 : Int32) => if v9 = (-1) then (lt (gJ S4 p0 16) fun (v10 : Int64) => cl (f_X12_named S4 p0 3 v10) fun (v11 : Int32) => if v11 = (-1) then (lt (gR S4 p0 0) fun (a12 : Nat) => ldJ S4 a12 15164 fun (v14 : Int64) => lt (15220 + (16 * (Int64.toInt32 v14))) fun (v15 : Int32) => lt (gR S4 p0 0) fun (a16 : Nat) => lt (gJ S4 p0 16) fun (v18 : Int64) => stJ S4 a16 (v15 + 0) v18 fun (S19 : St) => cl (f_X12_advance S19 p0) fun (S20 : St) => lt (gR S20 p0 0) fun (a21 : Nat) => ldJ S20 a21 15163 fun (v23 : Int64) => cl (f_X12_readInto S20 p0 (v15 + 1) 0 ((Int64.toInt32 v23) - 1) 1) fun (o24 : Int32 × St) => if o24.1 = 0 then (some (0, o24.2)) else (cl (f_X12_readInto o24.2 p0 (v15 + 2) 0 999 1) fun (o25 : Int32 × St) => if o25.1 = 0 then (some (0, o25.2)) else (lt (gR o25.2 p0 0) fun (a26 : Nat) => ldJ o25.2 a26 15164 fun (v28 : Int64) => stJ o25.2 a26 15164 (v28 + 1) fun (S29 : St) => cl (f_X12_readEnd S29 p0) fun (o30 : Int32 × St) => zc o30.1 (some (o30.1, o30.2))))) else (cl (f_X12_fail S4 p0 3) fun (o31 : Int32 × St) => zc o31.1 (some (o31.1, o31.2)))) else (k6)) else (k6))
set_option maxHeartbeats 4000000 in
set_option maxRecDepth 100000 in
theorem c_X12_readFranchisee (S : St) (p0 : Nat) : Ct yX12_readFranchisee cX12_readFranchisee 2 (some .boolean) 5 113 (fun _ => [.ref p0]) [(p0, 11)] S (f_X12_readFranchisee S p0) oIS sS := by
  refine Ct_of RX12 rfl (by decide) (fun _ => Nat.le_of_ble_eq_true rfl) 1 (vs := fun _ => [some (.ref p0), none]) (fun _ => rfl) (fun C X E hr ht => ?_)
  have t0_ : tT C p0 11 := ht (p0, 11) (by simp)
  show Jd C 2 (QJ C oIS sS) S 0 [some (.ref p0), none] [] (f_X12_readFranchisee S p0)
  unfold f_X12_readFranchisee
  refine s_run X ok_X12_readFranchisee 0 1 (pc' := 1) (vs' := [some (.ref p0), none]) (st' := [.ref p0]) rfl ?_
  refine s_getR X fl_X12_9 t0_ (dk okd_X12_readFranchisee 0 rfl) (fun a1 (t2 : tT C a1 14) => ?_)
  refine s_run X ok_X12_readFranchisee 1 1 (pc' := 7) (vs' := [some (.ref p0), none]) (st' := [.int 15164, .ref a1]) rfl ?_
  refine s_lald X t2 (dk okd_X12_readFranchisee 1 rfl) (fun v3 => ?_)
  refine s_ldc2 X cl_X12_364 (dk okd_X12_readFranchisee 2 rfl) ?_
  refine s_run X ok_X12_readFranchisee 2 1 (pc' := 12) (vs' := [some (.ref p0), none]) (st' := [.int (lg_cmp v3 8)]) rfl ?_
  refine s_lif_ne (tgt := 21) X (dk okd_X12_readFranchisee 3 rfl) (by decide) ?_ ?_
  · refine s_run X ok_X12_readFranchisee 5 1 (pc' := 22) (vs' := [some (.ref p0), none]) (st' := [.ref p0]) rfl ?_
    refine s_callV (b := p0) (As := []) (rest := []) X E mv_X12_345 (c_X12_advance S p0) rfl (ta1 t0_) rfl (by decide) t0_ rfl rfl (Nat.le_of_ble_eq_true rfl) (Nat.le_of_ble_eq_true rfl) (Nat.le_of_ble_eq_true rfl) (dk okd_X12_readFranchisee 6 rfl) (st' := fun S4 => []) (fun _ => rfl) (fun S4 => ?_)
    refine s_run X ok_X12_readFranchisee 6 1 (pc' := 26) (vs' := [some (.ref p0), none]) (st' := [.ref p0]) rfl ?_
    refine s_getI X fl_X12_332 t0_ (dk okd_X12_readFranchisee 7 rfl) (fun v5 => ?_)
    refine s_run X ok_X12_readFranchisee 7 1 (pc' := 30) (vs' := [some (.ref p0), none]) (st' := [.int 1, .int v5]) rfl ?_
    refine s_jn (κ := Option (Int32 × St)) (fun k6 => Jd C 2 (QJ C oIS sS) S4 41 [some (.ref p0), none] [] k6) ?_ (fun k6 h7 => ?_)
    · refine s_run X ok_X12_readFranchisee 10 2 (pc' := 43) (vs' := [some (.ref p0), none]) (st' := [.int 1, .ref p0]) rfl ?_
      refine s_callV (b := p0) (As := [.int 1]) (rest := []) X E mv_X12_339 (c_X12_fail S4 p0 1) rfl (ta1 t0_) rfl (by decide) t0_ rfl rfl (Nat.le_of_ble_eq_true rfl) (Nat.le_of_ble_eq_true rfl) (Nat.le_of_ble_eq_true rfl) (dk okd_X12_readFranchisee 11 rfl) (st' := fun o8 => [.int o8.1]) (fun _ => rfl) (fun o8 => ?_)
      exact s_zret X hr (dk okd_X12_readFranchisee 12 rfl) rfl rfl
    · refine s_icmp_ne (tgt := 41) X (dk okd_X12_readFranchisee 8 rfl) (by decide) ?_ ?_
      · exact h7
      · refine s_run X ok_X12_readFranchisee 8 1 (pc' := 34) (vs' := [some (.ref p0), none]) (st' := [.ref p0]) rfl ?_
        refine s_callV (b := p0) (As := []) (rest := []) X E mv_X12_366 (c_X12_statement S4 p0) rfl (ta1 t0_) rfl (by decide) t0_ rfl rfl (Nat.le_of_ble_eq_true rfl) (Nat.le_of_ble_eq_true rfl) (Nat.le_of_ble_eq_true rfl) (dk okd_X12_readFranchisee 9 rfl) (st' := fun v9 => [.int v9]) (fun _ => rfl) (fun v9 => ?_)
        refine s_run X ok_X12_readFranchisee 9 1 (pc' := 38) (vs' := [some (.ref p0), none]) (st' := [.int (-1), .int v9]) rfl ?_
        refine s_icmp_eq (tgt := 47) X (dk okd_X12_readFranchisee 10 rfl) (by decide) ?_ ?_
        · refine s_run X ok_X12_readFranchisee 12 3 (pc' := 50) (vs' := [some (.ref p0), none]) (st' := [.ref p0, .int 3, .ref p0]) rfl ?_
          refine s_getJ X fl_X12_322 t0_ (dk okd_X12_readFranchisee 13 rfl) (fun v10 => ?_)
          refine s_callV (b := p0) (As := [.int 3, .long v10]) (rest := []) X E mv_X12_370 (c_X12_named S4 p0 3 v10) rfl (ta1 t0_) rfl (by decide) t0_ rfl rfl (Nat.le_of_ble_eq_true rfl) (Nat.le_of_ble_eq_true rfl) (Nat.le_of_ble_eq_true rfl) (dk okd_X12_readFranchisee 14 rfl) (st' := fun v11 => [.int v11]) (fun _ => rfl) (fun v11 => ?_)
          refine s_run X ok_X12_readFranchisee 15 1 (pc' := 57) (vs' := [some (.ref p0), none]) (st' := [.int (-1), .int v11]) rfl ?_
          refine s_icmp_eq (tgt := 66) X (dk okd_X12_readFranchisee 15 rfl) (by decide) ?_ ?_
          · refine s_run X ok_X12_readFranchisee 18 3 (pc' := 72) (vs' := [some (.ref p0), none]) (st' := [.ref p0, .int 16, .int 15220]) rfl ?_
            refine s_getR X fl_X12_9 t0_ (dk okd_X12_readFranchisee 18 rfl) (fun a12 (t13 : tT C a12 14) => ?_)
            refine s_run X ok_X12_readFranchisee 21 1 (pc' := 78) (vs' := [some (.ref p0), none]) (st' := [.int 15164, .ref a12, .int 16, .int 15220]) rfl ?_
            refine s_lald X t13 (dk okd_X12_readFranchisee 19 rfl) (fun v14 => ?_)
            refine s_run X ok_X12_readFranchisee 22 3 (pc' := 82) (vs' := [some (.ref p0), none]) (st' := [.int (15220 + (16 * (Int64.toInt32 v14)))]) rfl ?_
            refine s_nmI (fun v15 => ?_)
            refine s_run X ok_X12_readFranchisee 25 2 (pc' := 84) (vs' := [some (.ref p0), some (.int v15)]) (st' := [.ref p0]) rfl ?_
            refine s_getR X fl_X12_9 t0_ (dk okd_X12_readFranchisee 20 rfl) (fun a16 (t17 : tT C a16 14) => ?_)
            refine s_run X ok_X12_readFranchisee 27 4 (pc' := 91) (vs' := [some (.ref p0), some (.int v15)]) (st' := [.ref p0, .int (v15 + 0), .ref a16]) rfl ?_
            refine s_getJ X fl_X12_322 t0_ (dk okd_X12_readFranchisee 21 rfl) (fun v18 => ?_)
            refine s_last X t17 (dk okd_X12_readFranchisee 22 rfl) (fun S19 => ?_)
            refine s_run X ok_X12_readFranchisee 31 1 (pc' := 96) (vs' := [some (.ref p0), some (.int v15)]) (st' := [.ref p0]) rfl ?_
            refine s_callV (b := p0) (As := []) (rest := []) X E mv_X12_345 (c_X12_advance S19 p0) rfl (ta1 t0_) rfl (by decide) t0_ rfl rfl (Nat.le_of_ble_eq_true rfl) (Nat.le_of_ble_eq_true rfl) (Nat.le_of_ble_eq_true rfl) (dk okd_X12_readFranchisee 23 rfl) (st' := fun S20 => []) (fun _ => rfl) (fun S20 => ?_)
            refine s_run X ok_X12_readFranchisee 32 6 (pc' := 105) (vs' := [some (.ref p0), some (.int v15)]) (st' := [.ref p0, .int 0, .int (v15 + 1), .ref p0]) rfl ?_
            refine s_getR X fl_X12_9 t0_ (dk okd_X12_readFranchisee 24 rfl) (fun a21 (t22 : tT C a21 14) => ?_)
            refine s_run X ok_X12_readFranchisee 38 1 (pc' := 111) (vs' := [some (.ref p0), some (.int v15)]) (st' := [.int 15163, .ref a21, .int 0, .int (v15 + 1), .ref p0]) rfl ?_
            refine s_lald X t22 (dk okd_X12_readFranchisee 25 rfl) (fun v23 => ?_)
            refine s_run X ok_X12_readFranchisee 39 4 (pc' := 116) (vs' := [some (.ref p0), some (.int v15)]) (st' := [.long 1, .int ((Int64.toInt32 v23) - 1), .int 0, .int (v15 + 1), .ref p0]) rfl ?_
            refine s_callV (b := p0) (As := [.int (v15 + 1), .int 0, .int ((Int64.toInt32 v23) - 1), .long 1]) (rest := []) X E mv_X12_355 (c_X12_readInto S20 p0 (v15 + 1) 0 ((Int64.toInt32 v23) - 1) 1) rfl (ta1 t0_) rfl (by decide) t0_ rfl rfl (Nat.le_of_ble_eq_true rfl) (Nat.le_of_ble_eq_true rfl) (Nat.le_of_ble_eq_true rfl) (dk okd_X12_readFranchisee 26 rfl) (st' := fun o24 => [.int o24.1]) (fun _ => rfl) (fun o24 => ?_)
            refine s_if_eq (tgt := 137) X (dk okd_X12_readFranchisee 27 rfl) (by decide) ?_ ?_
            · refine s_run X ok_X12_readFranchisee 50 1 (pc' := 138) (vs' := [some (.ref p0), some (.int v15)]) (st' := [.int 0]) rfl ?_
              exact s_zret0 X hr (dk okd_X12_readFranchisee 30 rfl) (by decide) rfl rfl
            · refine s_run X ok_X12_readFranchisee 43 7 (pc' := 131) (vs' := [some (.ref p0), some (.int v15)]) (st' := [.long 1, .int 999, .int 0, .int (v15 + 2), .ref p0]) rfl ?_
              refine s_callV (b := p0) (As := [.int (v15 + 2), .int 0, .int 999, .long 1]) (rest := []) X E mv_X12_355 (c_X12_readInto o24.2 p0 (v15 + 2) 0 999 1) rfl (ta1 t0_) rfl (by decide) t0_ rfl rfl (Nat.le_of_ble_eq_true rfl) (Nat.le_of_ble_eq_true rfl) (Nat.le_of_ble_eq_true rfl) (dk okd_X12_readFranchisee 28 rfl) (st' := fun o25 => [.int o25.1]) (fun _ => rfl) (fun o25 => ?_)
              refine s_if_ne (tgt := 139) X (dk okd_X12_readFranchisee 29 rfl) (by decide) ?_ ?_
              · refine s_run X ok_X12_readFranchisee 51 1 (pc' := 140) (vs' := [some (.ref p0), some (.int v15)]) (st' := [.ref p0]) rfl ?_
                refine s_getR X fl_X12_9 t0_ (dk okd_X12_readFranchisee 31 rfl) (fun a26 (t27 : tT C a26 14) => ?_)
                refine s_run X ok_X12_readFranchisee 52 2 (pc' := 147) (vs' := [some (.ref p0), some (.int v15)]) (st' := [.int 15164, .ref a26, .int 15164, .ref a26]) rfl ?_
                refine s_lald X t27 (dk okd_X12_readFranchisee 32 rfl) (fun v28 => ?_)
                refine s_run X ok_X12_readFranchisee 54 2 (pc' := 150) (vs' := [some (.ref p0), some (.int v15)]) (st' := [.long (v28 + 1), .int 15164, .ref a26]) rfl ?_
                refine s_last X t27 (dk okd_X12_readFranchisee 33 rfl) (fun S29 => ?_)
                refine s_run X ok_X12_readFranchisee 56 1 (pc' := 152) (vs' := [some (.ref p0), some (.int v15)]) (st' := [.ref p0]) rfl ?_
                refine s_callV (b := p0) (As := []) (rest := []) X E mv_X12_361 (c_X12_readEnd S29 p0) rfl (ta1 t0_) rfl (by decide) t0_ rfl rfl (Nat.le_of_ble_eq_true rfl) (Nat.le_of_ble_eq_true rfl) (Nat.le_of_ble_eq_true rfl) (dk okd_X12_readFranchisee 34 rfl) (st' := fun o30 => [.int o30.1]) (fun _ => rfl) (fun o30 => ?_)
                exact s_zret X hr (dk okd_X12_readFranchisee 35 rfl) rfl rfl
              · refine s_run X ok_X12_readFranchisee 50 1 (pc' := 138) (vs' := [some (.ref p0), some (.int v15)]) (st' := [.int 0]) rfl ?_
                exact s_zret0 X hr (dk okd_X12_readFranchisee 30 rfl) (by decide) rfl rfl
          · refine s_run X ok_X12_readFranchisee 16 2 (pc' := 62) (vs' := [some (.ref p0), none]) (st' := [.int 3, .ref p0]) rfl ?_
            refine s_callV (b := p0) (As := [.int 3]) (rest := []) X E mv_X12_339 (c_X12_fail S4 p0 3) rfl (ta1 t0_) rfl (by decide) t0_ rfl rfl (Nat.le_of_ble_eq_true rfl) (Nat.le_of_ble_eq_true rfl) (Nat.le_of_ble_eq_true rfl) (dk okd_X12_readFranchisee 16 rfl) (st' := fun o31 => [.int o31.1]) (fun _ => rfl) (fun o31 => ?_)
            exact s_zret X hr (dk okd_X12_readFranchisee 17 rfl) rfl rfl
        · exact h7
  · refine s_run X ok_X12_readFranchisee 3 2 (pc' := 17) (vs' := [some (.ref p0), none]) (st' := [.int 4, .ref p0]) rfl ?_
    refine s_callV (b := p0) (As := [.int 4]) (rest := []) X E mv_X12_339 (c_X12_fail S p0 4) rfl (ta1 t0_) rfl (by decide) t0_ rfl rfl (Nat.le_of_ble_eq_true rfl) (Nat.le_of_ble_eq_true rfl) (Nat.le_of_ble_eq_true rfl) (dk okd_X12_readFranchisee 4 rfl) (st' := fun o32 => [.int o32.1]) (fun _ => rfl) (fun o32 => ?_)
    exact s_zret X hr (dk okd_X12_readFranchisee 5 rfl) rfl rfl
def tab_X12_readName : List En := [(0, 8, 0, 0), (4, 0, 0, 1), (8, 8, 0, 0), (12, 0, 0, (-1)), (16, 0, 0, 1), (17, 41, 21, 0), (20, 0, 0, 0), (21, 10, 2, 0), (22, 4, 2, 0), (26, 8, 0, 0), (27, 4, 1, 0), (28, 8, 0, 0), (35, 41, 39, 0), (38, 0, 0, (-1)), (39, 10, 3, 0), (40, 4, 3, 0), (41, 0, 0, (-1)), (45, 8, 0, 0), (46, 4, 2, 0), (50, 0, 0, 3), (51, 41, 55, 0), (54, 0, 0, 1), (58, 38, 0, 0), (59, 41, 66, 0), (62, 8, 0, 0), (66, 4, 3, 0)]
theorem ok_X12_readName : tab_X12_readName.all (okE cX12_readName) = true := by decide +kernel
def ed_X12_readName : List (Nat × Instr × Nat) := [(1, .getfield 332, 3), (5, .if_icmp .ne 15, 3), (9, .invokevirtual 366, 3), (13, .if_icmp .ne 7, 3), (23, .ifCond .eq 15, 3), (29, .getfield 322, 3), (32, .invokevirtual 370, 3), (42, .if_icmp .ne 20, 3), (47, .ifCond .eq 7, 3), (55, .invokevirtual 339, 3), (63, .invokevirtual 345, 3), (67, .ireturn, 1)]
theorem okd_X12_readName : ed_X12_readName.all (okD cX12_readName) = true := by decide +kernel
def f_X12_readName (S : St) (p0 : Nat) (p1 : Int32) : Option (Int32 × St) := lt (gI S p0 13) fun (v1 : Int32) => jn (κ := Int32 → Option (Int32 × St)) (fun x2 => jn (κ := Int32 → Option (Int32 × St)) (fun x5 => jn (κ := St → Option (Int32 × St)) (fun S8 => some (x5, S8)) fun k9 => if x5 = (-1) then (jn (κ := Int32 → Option (Int32 × St)) (fun x12 => cl (f_X12_fail S p0 x12) fun (o15 : Int32 × St) => k9 o15.2) fun k13 => if x2 = 0 then (k13 1) else (k13 3)) else (cl (f_X12_advance S p0) fun (S11 : St) => k9 S11)) fun k6 => if x2 = 0 then (k6 (-1)) else (lt (gJ S p0 16) fun (v16 : Int64) => cl (f_X12_named S p0 p1 v16) fun (v17 : Int32) => k6 v17)) fun k3 => jn (κ := Option (Int32 × St)) (k3 0) fun k18 => if v1 = 1 then (cl (f_X12_statement S p0) fun (v20 : Int32) => if v20 = (-1) then (k3 1) else (k18)) else (k18)
set_option maxHeartbeats 4000000 in
set_option maxRecDepth 100000 in
theorem c_X12_readName (S : St) (p0 : Nat) (p1 : Int32) : Ct yX12_readName cX12_readName 4 (some .int) 3 66 (fun _ => [.ref p0, .int p1]) [(p0, 11)] S (f_X12_readName S p0 p1) oIS sS := by
  refine Ct_of RX12 rfl (by decide) (fun _ => Nat.le_of_ble_eq_true rfl) 2 (vs := fun _ => [some (.ref p0), some (.int p1), none, none]) (fun _ => rfl) (fun C X E hr ht => ?_)
  have t0_ : tT C p0 11 := ht (p0, 11) (by simp)
  show Jd C 4 (QJ C oIS sS) S 0 [some (.ref p0), some (.int p1), none, none] [] (f_X12_readName S p0 p1)
  unfold f_X12_readName
  refine s_run X ok_X12_readName 0 1 (pc' := 1) (vs' := [some (.ref p0), some (.int p1), none, none]) (st' := [.ref p0]) rfl ?_
  refine s_getI X fl_X12_332 t0_ (dk okd_X12_readName 0 rfl) (fun v1 => ?_)
  refine s_run X ok_X12_readName 1 1 (pc' := 5) (vs' := [some (.ref p0), some (.int p1), none, none]) (st' := [.int 1, .int v1]) rfl ?_
  refine s_jn (κ := Int32 → Option (Int32 × St)) (fun k3 => ∀ (x2 : Int32), Jd C 4 (QJ C oIS sS) S 21 [some (.ref p0), some (.int p1), none, none] [.int x2] (k3 x2)) (fun x2 => ?_) (fun k3 h4 => ?_)
  · refine s_run X ok_X12_readName 7 2 (pc' := 23) (vs' := [some (.ref p0), some (.int p1), some (.int x2), none]) (st' := [.int x2]) rfl ?_
    refine s_jn (κ := Int32 → Option (Int32 × St)) (fun k6 => ∀ (x5 : Int32), Jd C 4 (QJ C oIS sS) S 39 [some (.ref p0), none, some (.int x2), none] [.int x5] (k6 x5)) (fun x5 => ?_) (fun k6 h7 => ?_)
    · refine s_run X ok_X12_readName 14 3 (pc' := 42) (vs' := [some (.ref p0), none, some (.int x2), some (.int x5)]) (st' := [.int (-1), .int x5]) rfl ?_
      refine s_jn (κ := St → Option (Int32 × St)) (fun k9 => ∀ (S8 : St), Jd C 4 (QJ C oIS sS) S8 66 [none, none, none, some (.int x5)] [] (k9 S8)) (fun S8 => ?_) (fun k9 h10 => ?_)
      · refine s_run X ok_X12_readName 25 1 (pc' := 67) (vs' := [none, none, none, some (.int x5)]) (st' := [.int x5]) rfl ?_
        exact s_iret X hr (dk okd_X12_readName 11 rfl) rfl rfl
      · refine s_icmp_ne (tgt := 62) X (dk okd_X12_readName 7 rfl) (by decide) ?_ ?_
        · refine s_run X ok_X12_readName 24 1 (pc' := 63) (vs' := [some (.ref p0), none, some (.int x2), some (.int x5)]) (st' := [.ref p0]) rfl ?_
          refine s_callV (b := p0) (As := []) (rest := []) X E mv_X12_345 (c_X12_advance S p0) rfl (ta1 t0_) rfl (by decide) t0_ rfl rfl (Nat.le_of_ble_eq_true rfl) (Nat.le_of_ble_eq_true rfl) (Nat.le_of_ble_eq_true rfl) (dk okd_X12_readName 10 rfl) (st' := fun S11 => []) (fun _ => rfl) (fun S11 => ?_)
          exact s_less [false, false, false, true] rfl (h10 S11)
        · refine s_run X ok_X12_readName 17 2 (pc' := 47) (vs' := [some (.ref p0), none, some (.int x2), some (.int x5)]) (st' := [.int x2, .ref p0]) rfl ?_
          refine s_jn (κ := Int32 → Option (Int32 × St)) (fun k13 => ∀ (x12 : Int32), Jd C 4 (QJ C oIS sS) S 55 [none, none, none, some (.int x5)] [.int x12, .ref p0] (k13 x12)) (fun x12 => ?_) (fun k13 h14 => ?_)
          · refine s_callV (b := p0) (As := [.int x12]) (rest := []) X E mv_X12_339 (c_X12_fail S p0 x12) rfl (ta1 t0_) rfl (by decide) t0_ rfl rfl (Nat.le_of_ble_eq_true rfl) (Nat.le_of_ble_eq_true rfl) (Nat.le_of_ble_eq_true rfl) (dk okd_X12_readName 9 rfl) (st' := fun o15 => [.int o15.1]) (fun _ => rfl) (fun o15 => ?_)
            refine s_run X ok_X12_readName 22 2 (pc' := 66) (vs' := [none, none, none, some (.int x5)]) (st' := []) rfl ?_
            exact h10 o15.2
          · refine s_if_eq (tgt := 54) X (dk okd_X12_readName 8 rfl) (by decide) ?_ ?_
            · refine s_run X ok_X12_readName 21 1 (pc' := 55) (vs' := [some (.ref p0), none, some (.int x2), some (.int x5)]) (st' := [.int 1, .ref p0]) rfl ?_
              exact s_less [false, false, false, true] rfl (h14 1)
            · refine s_run X ok_X12_readName 19 2 (pc' := 55) (vs' := [some (.ref p0), none, some (.int x2), some (.int x5)]) (st' := [.int 3, .ref p0]) rfl ?_
              exact s_less [false, false, false, true] rfl (h14 3)
    · refine s_if_eq (tgt := 38) X (dk okd_X12_readName 4 rfl) (by decide) ?_ ?_
      · refine s_run X ok_X12_readName 13 1 (pc' := 39) (vs' := [some (.ref p0), some (.int p1), some (.int x2), none]) (st' := [.int (-1)]) rfl ?_
        exact s_less [true, false, true, false] rfl (h7 (-1))
      · refine s_run X ok_X12_readName 9 3 (pc' := 29) (vs' := [some (.ref p0), some (.int p1), some (.int x2), none]) (st' := [.ref p0, .int p1, .ref p0]) rfl ?_
        refine s_getJ X fl_X12_322 t0_ (dk okd_X12_readName 5 rfl) (fun v16 => ?_)
        refine s_callV (b := p0) (As := [.int p1, .long v16]) (rest := []) X E mv_X12_370 (c_X12_named S p0 p1 v16) rfl (ta1 t0_) rfl (by decide) t0_ rfl rfl (Nat.le_of_ble_eq_true rfl) (Nat.le_of_ble_eq_true rfl) (Nat.le_of_ble_eq_true rfl) (dk okd_X12_readName 6 rfl) (st' := fun v17 => [.int v17]) (fun _ => rfl) (fun v17 => ?_)
        refine s_run X ok_X12_readName 12 1 (pc' := 39) (vs' := [some (.ref p0), some (.int p1), some (.int x2), none]) (st' := [.int v17]) rfl ?_
        exact s_less [true, false, true, false] rfl (h7 v17)
  · refine s_jn (κ := Option (Int32 × St)) (fun k18 => Jd C 4 (QJ C oIS sS) S 20 [some (.ref p0), some (.int p1), none, none] [] k18) ?_ (fun k18 h19 => ?_)
    · refine s_run X ok_X12_readName 6 1 (pc' := 21) (vs' := [some (.ref p0), some (.int p1), none, none]) (st' := [.int 0]) rfl ?_
      exact h4 0
    · refine s_icmp_ne (tgt := 20) X (dk okd_X12_readName 1 rfl) (by decide) ?_ ?_
      · exact h19
      · refine s_run X ok_X12_readName 2 1 (pc' := 9) (vs' := [some (.ref p0), some (.int p1), none, none]) (st' := [.ref p0]) rfl ?_
        refine s_callV (b := p0) (As := []) (rest := []) X E mv_X12_366 (c_X12_statement S p0) rfl (ta1 t0_) rfl (by decide) t0_ rfl rfl (Nat.le_of_ble_eq_true rfl) (Nat.le_of_ble_eq_true rfl) (Nat.le_of_ble_eq_true rfl) (dk okd_X12_readName 2 rfl) (st' := fun v20 => [.int v20]) (fun _ => rfl) (fun v20 => ?_)
        refine s_run X ok_X12_readName 3 1 (pc' := 13) (vs' := [some (.ref p0), some (.int p1), none, none]) (st' := [.int (-1), .int v20]) rfl ?_
        refine s_icmp_ne (tgt := 20) X (dk okd_X12_readName 3 rfl) (by decide) ?_ ?_
        · exact h19
        · refine s_run X ok_X12_readName 4 2 (pc' := 21) (vs' := [some (.ref p0), some (.int p1), none, none]) (st' := [.int 1]) rfl ?_
          exact h4 1
def tab_X12_hasOther : List En := [(0, 0, 0, 0), (1, 11, 6, 0), (3, 5, 6, 0), (5, 2, 0, 900), (11, 5, 6, 0), (13, 4, 2, 0), (14, 4, 3, 0), (15, 5, 4, 0), (17, 5, 5, 0), (25, 8, 0, 0), (29, 2, 0, 15412), (32, 5, 6, 0), (34, 17, 0, 0), (39, 40, 0, 0), (43, 8, 0, 0), (47, 2, 0, 15412), (50, 5, 6, 0), (52, 17, 0, 0), (54, 4, 1, 0), (55, 31, 0, 0), (56, 40, 0, 0), (60, 0, 0, 1), (62, 16, 6, 1), (65, 41, 3, 0), (68, 0, 0, 0)]
theorem ok_X12_hasOther : tab_X12_hasOther.all (okE cX12_hasOther) = true := by decide +kernel
def ed_X12_hasOther : List (Nat × Instr × Nat) := [(8, .if_icmp .ge 60, 3), (19, .invokestatic 131, 3), (22, .ifCond .eq 40, 3), (26, .getfield 9, 3), (35, .laload, 1), (36, .ldc2_w 48, 3), (40, .ifCond .eq 22, 3), (44, .getfield 9, 3), (53, .laload, 1), (57, .ifCond .eq 5, 3), (61, .ireturn, 1), (69, .ireturn, 1)]
theorem okd_X12_hasOther : ed_X12_hasOther.all (okD cX12_hasOther) = true := by decide +kernel
def f_X12_hasOther (S : St) (p0 : Nat) (p1 : Int32) (p2 : Int32) (p3 : Int32) (p4 : Int32) (p5 : Int32) : Option (Int32) := lp (κ := Int32 → Option (Int32)) (fun _ => none) (fun k2 x1 => if 900 ≤ x1 then (some 0) else (cl (f_X12_isWithin S x1 p2 p3 p4 p5) fun (v4 : Int32) => jn (κ := Option (Int32)) (k2 (x1 + 1)) fun k5 => if v4 = 0 then (k5) else (lt (gR S p0 0) fun (a7 : Nat) => ldJ S a7 (15412 + x1) fun (v9 : Int64) => if v9 = (-1) then (k5) else (lt (gR S p0 0) fun (a10 : Nat) => ldJ S a10 (15412 + x1) fun (v12 : Int64) => if v12 = (Int32.toInt64 p1) then (k5) else (some 1))))) FU 0
set_option maxHeartbeats 4000000 in
set_option maxRecDepth 100000 in
theorem c_X12_hasOther (S : St) (p0 : Nat) (p1 : Int32) (p2 : Int32) (p3 : Int32) (p4 : Int32) (p5 : Int32) : Ct yX12_hasOther cX12_hasOther 7 (some .boolean) 1 24 (fun _ => [.ref p0, .int p1, .int p2, .int p3, .int p4, .int p5]) [(p0, 11)] S (f_X12_hasOther S p0 p1 p2 p3 p4 p5) oI (fun _ => S) := by
  refine Ct_of RX12 rfl (by decide) (fun _ => Nat.le_of_ble_eq_true rfl) 1 (vs := fun _ => [some (.ref p0), some (.int p1), some (.int p2), some (.int p3), some (.int p4), some (.int p5), none]) (fun _ => rfl) (fun C X E hr ht => ?_)
  have t0_ : tT C p0 11 := ht (p0, 11) (by simp)
  show Jd C 7 (QJ C oI (fun _ => S)) S 0 [some (.ref p0), some (.int p1), some (.int p2), some (.int p3), some (.int p4), some (.int p5), none] [] (f_X12_hasOther S p0 p1 p2 p3 p4 p5)
  unfold f_X12_hasOther
  refine s_run X ok_X12_hasOther 0 2 (pc' := 3) (vs' := [some (.ref p0), some (.int p1), some (.int p2), some (.int p3), some (.int p4), some (.int p5), some (.int 0)]) (st' := []) rfl ?_
  refine s_lp (κ := Int32 → Option (Int32)) (fun k2 => ∀ (x1 : Int32), Jd C 7 (QJ C oI (fun _ => S)) S 3 [some (.ref p0), some (.int p1), some (.int p2), some (.int p3), some (.int p4), some (.int p5), some (.int x1)] [] (k2 x1)) (fun _ => s_none) (fun k2 h3 x1 => ?_) FU 0
  refine s_run X ok_X12_hasOther 2 2 (pc' := 8) (vs' := [some (.ref p0), some (.int p1), some (.int p2), some (.int p3), some (.int p4), some (.int p5), some (.int x1)]) (st' := [.int 900, .int x1]) rfl ?_
  refine s_icmp_ge (tgt := 68) X (dk okd_X12_hasOther 0 rfl) (by decide) ?_ ?_
  · refine s_run X ok_X12_hasOther 24 1 (pc' := 69) (vs' := [some (.ref p0), some (.int p1), some (.int p2), some (.int p3), some (.int p4), some (.int p5), some (.int x1)]) (st' := [.int 0]) rfl ?_
    exact s_zret0 X hr (dk okd_X12_hasOther 11 rfl) (by decide) rfl rfl
  · refine s_run X ok_X12_hasOther 4 5 (pc' := 19) (vs' := [some (.ref p0), some (.int p1), some (.int p2), some (.int p3), some (.int p4), some (.int p5), some (.int x1)]) (st' := [.int p5, .int p4, .int p3, .int p2, .int x1]) rfl ?_
    refine s_callS (As := [.int x1, .int p2, .int p3, .int p4, .int p5]) (rest := []) X E ms_X12_131 (c_X12_isWithin S x1 p2 p3 p4 p5) rfl (ta0) rfl rfl (Nat.le_of_ble_eq_true rfl) (Nat.le_of_ble_eq_true rfl) (Nat.le_of_ble_eq_true rfl) (dk okd_X12_hasOther 1 rfl) (st' := fun v4 => [.int v4]) (fun _ => rfl) (fun v4 => ?_)
    refine s_jn (κ := Option (Int32)) (fun k5 => Jd C 7 (QJ C oI (fun _ => S)) S 62 [some (.ref p0), some (.int p1), some (.int p2), some (.int p3), some (.int p4), some (.int p5), some (.int x1)] [] k5) ?_ (fun k5 h6 => ?_)
    · refine s_run X ok_X12_hasOther 22 2 (pc' := 3) (vs' := [some (.ref p0), some (.int p1), some (.int p2), some (.int p3), some (.int p4), some (.int p5), some (.int (x1 + 1))]) (st' := []) rfl ?_
      exact h3 (x1 + 1)
    · refine s_if_eq (tgt := 62) X (dk okd_X12_hasOther 2 rfl) (by decide) ?_ ?_
      · exact h6
      · refine s_run X ok_X12_hasOther 9 1 (pc' := 26) (vs' := [some (.ref p0), some (.int p1), some (.int p2), some (.int p3), some (.int p4), some (.int p5), some (.int x1)]) (st' := [.ref p0]) rfl ?_
        refine s_getR X fl_X12_9 t0_ (dk okd_X12_hasOther 3 rfl) (fun a7 (t8 : tT C a7 14) => ?_)
        refine s_run X ok_X12_hasOther 10 3 (pc' := 35) (vs' := [some (.ref p0), some (.int p1), some (.int p2), some (.int p3), some (.int p4), some (.int p5), some (.int x1)]) (st' := [.int (15412 + x1), .ref a7]) rfl ?_
        refine s_lald X t8 (dk okd_X12_hasOther 4 rfl) (fun v9 => ?_)
        refine s_ldc2 X cl_X12_48 (dk okd_X12_hasOther 5 rfl) ?_
        refine s_run X ok_X12_hasOther 13 1 (pc' := 40) (vs' := [some (.ref p0), some (.int p1), some (.int p2), some (.int p3), some (.int p4), some (.int p5), some (.int x1)]) (st' := [.int (lg_cmp v9 (-1))]) rfl ?_
        refine s_lif_eq (tgt := 62) X (dk okd_X12_hasOther 6 rfl) (by decide) ?_ ?_
        · exact h6
        · refine s_run X ok_X12_hasOther 14 1 (pc' := 44) (vs' := [some (.ref p0), some (.int p1), some (.int p2), some (.int p3), some (.int p4), some (.int p5), some (.int x1)]) (st' := [.ref p0]) rfl ?_
          refine s_getR X fl_X12_9 t0_ (dk okd_X12_hasOther 7 rfl) (fun a10 (t11 : tT C a10 14) => ?_)
          refine s_run X ok_X12_hasOther 15 3 (pc' := 53) (vs' := [some (.ref p0), some (.int p1), some (.int p2), some (.int p3), some (.int p4), some (.int p5), some (.int x1)]) (st' := [.int (15412 + x1), .ref a10]) rfl ?_
          refine s_lald X t11 (dk okd_X12_hasOther 8 rfl) (fun v12 => ?_)
          refine s_run X ok_X12_hasOther 18 3 (pc' := 57) (vs' := [some (.ref p0), some (.int p1), some (.int p2), some (.int p3), some (.int p4), some (.int p5), some (.int x1)]) (st' := [.int (lg_cmp v12 (Int32.toInt64 p1))]) rfl ?_
          refine s_lif_eq (tgt := 62) X (dk okd_X12_hasOther 9 rfl) (by decide) ?_ ?_
          · exact h6
          · refine s_run X ok_X12_hasOther 21 1 (pc' := 61) (vs' := [some (.ref p0), some (.int p1), some (.int p2), some (.int p3), some (.int p4), some (.int p5), some (.int x1)]) (st' := [.int 1]) rfl ?_
            exact s_zret0 X hr (dk okd_X12_hasOther 10 rfl) (by decide) rfl rfl
def tab_X12_readArea : List En := [(0, 8, 0, 0), (4, 8, 0, 0), (5, 0, 0, 3), (9, 10, 1, 0), (10, 4, 1, 0), (11, 0, 0, (-1)), (15, 8, 0, 0), (16, 0, 0, 0), (17, 1, 0, 29), (25, 0, 0, 0), (27, 8, 0, 0), (31, 10, 2, 0), (32, 8, 0, 0), (33, 0, 0, 0), (34, 1, 0, 29), (42, 0, 0, 0), (44, 8, 0, 0), (48, 10, 3, 0), (49, 8, 0, 0), (50, 4, 2, 0), (51, 0, 0, 1), (52, 17, 0, 0), (53, 1, 0, 30), (61, 0, 0, 0), (63, 8, 0, 0), (67, 11, 4, 0), (69, 8, 0, 0), (73, 11, 5, 0), (75, 8, 0, 0), (76, 4, 3, 0), (77, 0, 0, 1), (78, 17, 0, 0), (79, 1, 0, 30), (87, 0, 0, 0), (89, 8, 0, 0), (90, 4, 1, 0), (91, 4, 2, 0), (92, 4, 3, 0), (93, 5, 4, 0), (95, 8, 0, 0), (105, 8, 0, 0), (106, 5, 5, 0), (111, 8, 0, 0), (112, 0, 0, 5), (117, 0, 0, 0), (118, 11, 6, 0), (120, 5, 6, 0), (122, 2, 0, 900), (128, 5, 6, 0), (130, 4, 2, 0), (131, 4, 3, 0), (132, 5, 4, 0), (134, 8, 0, 0), (144, 8, 0, 0), (148, 2, 0, 15412), (151, 5, 6, 0), (153, 17, 0, 0), (154, 4, 1, 0), (155, 31, 0, 0), (157, 16, 6, 1), (160, 41, 120, 0), (163, 8, 0, 0)]
theorem ok_X12_readArea : tab_X12_readArea.all (okE cX12_readArea) = true := by decide +kernel
def ed_X12_readArea : List (Nat × Instr × Nat) := [(1, .invokevirtual 345, 3), (6, .invokevirtual 374, 3), (12, .if_icmp .eq 13, 3), (19, .invokevirtual 348, 3), (22, .ifCond .ne 5, 3), (26, .ireturn, 1), (28, .getfield 342, 3), (36, .invokevirtual 348, 3), (39, .ifCond .ne 5, 3), (43, .ireturn, 1), (45, .getfield 342, 3), (55, .invokevirtual 348, 3), (58, .ifCond .ne 5, 3), (62, .ireturn, 1), (64, .getfield 342, 3), (70, .getfield 319, 3), (81, .invokevirtual 348, 3), (84, .ifCond .ne 5, 3), (88, .ireturn, 1), (96, .getfield 342, 3), (99, .invokevirtual 377, 3), (102, .ifCond .eq 15, 3), (108, .putfield 319, 3), (113, .invokevirtual 339, 3), (116, .ireturn, 1), (125, .if_icmp .ge 38, 3), (135, .getfield 342, 3), (138, .invokestatic 131, 3), (141, .ifCond .eq 16, 3), (145, .getfield 9, 3), (156, .lastore, 1), (164, .invokevirtual 361, 3), (167, .ireturn, 1)]
theorem okd_X12_readArea : ed_X12_readArea.all (okD cX12_readArea) = true := by decide +kernel
def f_X12_readArea (S : St) (p0 : Nat) : Option (Int32 × St) := cl (f_X12_advance S p0) fun (S1 : St) => cl (f_X12_readName S1 p0 3) fun (o2 : Int32 × St) => if o2.1 = (-1) then (some (0, o2.2)) else (cl (f_X12_readNumber o2.2 p0 0 29) fun (o3 : Int32 × St) => if o3.1 = 0 then (some (0, o3.2)) else (lt (gI o3.2 p0 15) fun (v4 : Int32) => cl (f_X12_readNumber o3.2 p0 0 29) fun (o5 : Int32 × St) => if o5.1 = 0 then (some (0, o5.2)) else (lt (gI o5.2 p0 15) fun (v6 : Int32) => cl (f_X12_readNumber o5.2 p0 (v4 + 1) 30) fun (o7 : Int32 × St) => if o7.1 = 0 then (some (0, o7.2)) else (lt (gI o7.2 p0 15) fun (v8 : Int32) => lt (gI o7.2 p0 14) fun (v9 : Int32) => cl (f_X12_readNumber o7.2 p0 (v6 + 1) 30) fun (o10 : Int32 × St) => if o10.1 = 0 then (some (0, o10.2)) else (lt (gI o10.2 p0 15) fun (v11 : Int32) => cl (f_X12_hasOther o10.2 p0 o2.1 v4 v6 v8 v11) fun (v12 : Int32) => if v12 = 0 then (jn (κ := St → Option (Int32 × St)) (fun S13 => cl (f_X12_readEnd S13 p0) fun (o16 : Int32 × St) => zc o16.1 (some (o16.1, o16.2))) fun k14 => lp (κ := Int32 → St → Option (Int32 × St)) (fun _ _ => none) (fun k19 x17 S18 => if 900 ≤ x17 then (k14 S18) else (lt (gI S18 p0 15) fun (v21 : Int32) => cl (f_X12_isWithin S18 x17 v4 v6 v8 v21) fun (v22 : Int32) => jn (κ := St → Option (Int32 × St)) (fun S23 => k19 (x17 + 1) S23) fun k24 => if v22 = 0 then (k24 S18) else (lt (gR S18 p0 0) fun (a26 : Nat) => stJ S18 a26 (15412 + x17) (Int32.toInt64 o2.1) fun (S28 : St) => k24 S28))) FU 0 o10.2) else (lt (uI o10.2 p0 14 v9) fun (S29 : St) => cl (f_X12_fail S29 p0 5) fun (o30 : Int32 × St) => zc o30.1 (some (o30.1, o30.2))))))))
set_option maxHeartbeats 4000000 in
set_option maxRecDepth 100000 in
theorem c_X12_readArea (S : St) (p0 : Nat) : Ct yX12_readArea cX12_readArea 7 (some .boolean) 4 89 (fun _ => [.ref p0]) [(p0, 11)] S (f_X12_readArea S p0) oIS sS := by
  refine Ct_of RX12 rfl (by decide) (fun _ => Nat.le_of_ble_eq_true rfl) 6 (vs := fun _ => [some (.ref p0), none, none, none, none, none, none]) (fun _ => rfl) (fun C X E hr ht => ?_)
  have t0_ : tT C p0 11 := ht (p0, 11) (by simp)
  show Jd C 7 (QJ C oIS sS) S 0 [some (.ref p0), none, none, none, none, none, none] [] (f_X12_readArea S p0)
  unfold f_X12_readArea
  refine s_run X ok_X12_readArea 0 1 (pc' := 1) (vs' := [some (.ref p0), none, none, none, none, none, none]) (st' := [.ref p0]) rfl ?_
  refine s_callV (b := p0) (As := []) (rest := []) X E mv_X12_345 (c_X12_advance S p0) rfl (ta1 t0_) rfl (by decide) t0_ rfl rfl (Nat.le_of_ble_eq_true rfl) (Nat.le_of_ble_eq_true rfl) (Nat.le_of_ble_eq_true rfl) (dk okd_X12_readArea 0 rfl) (st' := fun S1 => []) (fun _ => rfl) (fun S1 => ?_)
  refine s_run X ok_X12_readArea 1 2 (pc' := 6) (vs' := [some (.ref p0), none, none, none, none, none, none]) (st' := [.int 3, .ref p0]) rfl ?_
  refine s_callV (b := p0) (As := [.int 3]) (rest := []) X E mv_X12_374 (c_X12_readName S1 p0 3) rfl (ta1 t0_) rfl (by decide) t0_ rfl rfl (Nat.le_of_ble_eq_true rfl) (Nat.le_of_ble_eq_true rfl) (Nat.le_of_ble_eq_true rfl) (dk okd_X12_readArea 1 rfl) (st' := fun o2 => [.int o2.1]) (fun _ => rfl) (fun o2 => ?_)
  refine s_run X ok_X12_readArea 3 3 (pc' := 12) (vs' := [some (.ref p0), some (.int o2.1), none, none, none, none, none]) (st' := [.int (-1), .int o2.1]) rfl ?_
  refine s_icmp_eq (tgt := 25) X (dk okd_X12_readArea 2 rfl) (by decide) ?_ ?_
  · refine s_run X ok_X12_readArea 9 1 (pc' := 26) (vs' := [some (.ref p0), some (.int o2.1), none, none, none, none, none]) (st' := [.int 0]) rfl ?_
    exact s_zret0 X hr (dk okd_X12_readArea 5 rfl) (by decide) rfl rfl
  · refine s_run X ok_X12_readArea 6 3 (pc' := 19) (vs' := [some (.ref p0), some (.int o2.1), none, none, none, none, none]) (st' := [.int 29, .int 0, .ref p0]) rfl ?_
    refine s_callV (b := p0) (As := [.int 0, .int 29]) (rest := []) X E mv_X12_348 (c_X12_readNumber o2.2 p0 0 29) rfl (ta1 t0_) rfl (by decide) t0_ rfl rfl (Nat.le_of_ble_eq_true rfl) (Nat.le_of_ble_eq_true rfl) (Nat.le_of_ble_eq_true rfl) (dk okd_X12_readArea 3 rfl) (st' := fun o3 => [.int o3.1]) (fun _ => rfl) (fun o3 => ?_)
    refine s_if_ne (tgt := 27) X (dk okd_X12_readArea 4 rfl) (by decide) ?_ ?_
    · refine s_run X ok_X12_readArea 10 1 (pc' := 28) (vs' := [some (.ref p0), some (.int o2.1), none, none, none, none, none]) (st' := [.ref p0]) rfl ?_
      refine s_getI X fl_X12_342 t0_ (dk okd_X12_readArea 6 rfl) (fun v4 => ?_)
      refine s_run X ok_X12_readArea 11 4 (pc' := 36) (vs' := [some (.ref p0), some (.int o2.1), some (.int v4), none, none, none, none]) (st' := [.int 29, .int 0, .ref p0]) rfl ?_
      refine s_callV (b := p0) (As := [.int 0, .int 29]) (rest := []) X E mv_X12_348 (c_X12_readNumber o3.2 p0 0 29) rfl (ta1 t0_) rfl (by decide) t0_ rfl rfl (Nat.le_of_ble_eq_true rfl) (Nat.le_of_ble_eq_true rfl) (Nat.le_of_ble_eq_true rfl) (dk okd_X12_readArea 7 rfl) (st' := fun o5 => [.int o5.1]) (fun _ => rfl) (fun o5 => ?_)
      refine s_if_ne (tgt := 44) X (dk okd_X12_readArea 8 rfl) (by decide) ?_ ?_
      · refine s_run X ok_X12_readArea 16 1 (pc' := 45) (vs' := [some (.ref p0), some (.int o2.1), some (.int v4), none, none, none, none]) (st' := [.ref p0]) rfl ?_
        refine s_getI X fl_X12_342 t0_ (dk okd_X12_readArea 10 rfl) (fun v6 => ?_)
        refine s_run X ok_X12_readArea 17 6 (pc' := 55) (vs' := [some (.ref p0), some (.int o2.1), some (.int v4), some (.int v6), none, none, none]) (st' := [.int 30, .int (v4 + 1), .ref p0]) rfl ?_
        refine s_callV (b := p0) (As := [.int (v4 + 1), .int 30]) (rest := []) X E mv_X12_348 (c_X12_readNumber o5.2 p0 (v4 + 1) 30) rfl (ta1 t0_) rfl (by decide) t0_ rfl rfl (Nat.le_of_ble_eq_true rfl) (Nat.le_of_ble_eq_true rfl) (Nat.le_of_ble_eq_true rfl) (dk okd_X12_readArea 11 rfl) (st' := fun o7 => [.int o7.1]) (fun _ => rfl) (fun o7 => ?_)
        refine s_if_ne (tgt := 63) X (dk okd_X12_readArea 12 rfl) (by decide) ?_ ?_
        · refine s_run X ok_X12_readArea 24 1 (pc' := 64) (vs' := [some (.ref p0), some (.int o2.1), some (.int v4), some (.int v6), none, none, none]) (st' := [.ref p0]) rfl ?_
          refine s_getI X fl_X12_342 t0_ (dk okd_X12_readArea 14 rfl) (fun v8 => ?_)
          refine s_run X ok_X12_readArea 25 2 (pc' := 70) (vs' := [some (.ref p0), some (.int o2.1), some (.int v4), some (.int v6), some (.int v8), none, none]) (st' := [.ref p0]) rfl ?_
          refine s_getI X fl_X12_319 t0_ (dk okd_X12_readArea 15 rfl) (fun v9 => ?_)
          refine s_run X ok_X12_readArea 27 6 (pc' := 81) (vs' := [some (.ref p0), some (.int o2.1), some (.int v4), some (.int v6), some (.int v8), some (.int v9), none]) (st' := [.int 30, .int (v6 + 1), .ref p0]) rfl ?_
          refine s_callV (b := p0) (As := [.int (v6 + 1), .int 30]) (rest := []) X E mv_X12_348 (c_X12_readNumber o7.2 p0 (v6 + 1) 30) rfl (ta1 t0_) rfl (by decide) t0_ rfl rfl (Nat.le_of_ble_eq_true rfl) (Nat.le_of_ble_eq_true rfl) (Nat.le_of_ble_eq_true rfl) (dk okd_X12_readArea 16 rfl) (st' := fun o10 => [.int o10.1]) (fun _ => rfl) (fun o10 => ?_)
          refine s_if_ne (tgt := 89) X (dk okd_X12_readArea 17 rfl) (by decide) ?_ ?_
          · refine s_run X ok_X12_readArea 34 6 (pc' := 96) (vs' := [some (.ref p0), some (.int o2.1), some (.int v4), some (.int v6), some (.int v8), some (.int v9), none]) (st' := [.ref p0, .int v8, .int v6, .int v4, .int o2.1, .ref p0]) rfl ?_
            refine s_getI X fl_X12_342 t0_ (dk okd_X12_readArea 19 rfl) (fun v11 => ?_)
            refine s_callV (b := p0) (As := [.int o2.1, .int v4, .int v6, .int v8, .int v11]) (rest := []) X E mv_X12_377 (c_X12_hasOther o10.2 p0 o2.1 v4 v6 v8 v11) rfl (ta1 t0_) rfl (by decide) t0_ rfl rfl (Nat.le_of_ble_eq_true rfl) (Nat.le_of_ble_eq_true rfl) (Nat.le_of_ble_eq_true rfl) (dk okd_X12_readArea 20 rfl) (st' := fun v12 => [.int v12]) (fun _ => rfl) (fun v12 => ?_)
            refine s_if_eq (tgt := 117) X (dk okd_X12_readArea 21 rfl) (by decide) ?_ ?_
            · refine s_run X ok_X12_readArea 44 2 (pc' := 120) (vs' := [some (.ref p0), some (.int o2.1), some (.int v4), some (.int v6), some (.int v8), some (.int v9), some (.int 0)]) (st' := []) rfl ?_
              refine s_jn (κ := St → Option (Int32 × St)) (fun k14 => ∀ (S13 : St), Jd C 7 (QJ C oIS sS) S13 163 [some (.ref p0), none, none, none, none, none, none] [] (k14 S13)) (fun S13 => ?_) (fun k14 h15 => ?_)
              · refine s_run X ok_X12_readArea 61 1 (pc' := 164) (vs' := [some (.ref p0), none, none, none, none, none, none]) (st' := [.ref p0]) rfl ?_
                refine s_callV (b := p0) (As := []) (rest := []) X E mv_X12_361 (c_X12_readEnd S13 p0) rfl (ta1 t0_) rfl (by decide) t0_ rfl rfl (Nat.le_of_ble_eq_true rfl) (Nat.le_of_ble_eq_true rfl) (Nat.le_of_ble_eq_true rfl) (dk okd_X12_readArea 31 rfl) (st' := fun o16 => [.int o16.1]) (fun _ => rfl) (fun o16 => ?_)
                exact s_zret X hr (dk okd_X12_readArea 32 rfl) rfl rfl
              · refine s_less [true, true, true, true, true, false, true] (vs' := [some (.ref p0), some (.int o2.1), some (.int v4), some (.int v6), some (.int v8), none, some (.int 0)]) rfl ?_
                refine s_lp (κ := Int32 → St → Option (Int32 × St)) (fun k19 => ∀ (x17 : Int32) (S18 : St), Jd C 7 (QJ C oIS sS) S18 120 [some (.ref p0), some (.int o2.1), some (.int v4), some (.int v6), some (.int v8), none, some (.int x17)] [] (k19 x17 S18)) (fun _ _ => s_none) (fun k19 h20 x17 S18 => ?_) FU 0 o10.2
                refine s_run X ok_X12_readArea 46 2 (pc' := 125) (vs' := [some (.ref p0), some (.int o2.1), some (.int v4), some (.int v6), some (.int v8), none, some (.int x17)]) (st' := [.int 900, .int x17]) rfl ?_
                refine s_icmp_ge (tgt := 163) X (dk okd_X12_readArea 25 rfl) (by decide) ?_ ?_
                · exact s_less [true, false, false, false, false, false, false] rfl (h15 S18)
                · refine s_run X ok_X12_readArea 48 5 (pc' := 135) (vs' := [some (.ref p0), some (.int o2.1), some (.int v4), some (.int v6), some (.int v8), none, some (.int x17)]) (st' := [.ref p0, .int v8, .int v6, .int v4, .int x17]) rfl ?_
                  refine s_getI X fl_X12_342 t0_ (dk okd_X12_readArea 26 rfl) (fun v21 => ?_)
                  refine s_callS (As := [.int x17, .int v4, .int v6, .int v8, .int v21]) (rest := []) X E ms_X12_131 (c_X12_isWithin S18 x17 v4 v6 v8 v21) rfl (ta0) rfl rfl (Nat.le_of_ble_eq_true rfl) (Nat.le_of_ble_eq_true rfl) (Nat.le_of_ble_eq_true rfl) (dk okd_X12_readArea 27 rfl) (st' := fun v22 => [.int v22]) (fun _ => rfl) (fun v22 => ?_)
                  refine s_jn (κ := St → Option (Int32 × St)) (fun k24 => ∀ (S23 : St), Jd C 7 (QJ C oIS sS) S23 157 [some (.ref p0), some (.int o2.1), some (.int v4), some (.int v6), some (.int v8), none, some (.int x17)] [] (k24 S23)) (fun S23 => ?_) (fun k24 h25 => ?_)
                  · refine s_run X ok_X12_readArea 59 2 (pc' := 120) (vs' := [some (.ref p0), some (.int o2.1), some (.int v4), some (.int v6), some (.int v8), none, some (.int (x17 + 1))]) (st' := []) rfl ?_
                    exact h20 (x17 + 1) S23
                  · refine s_if_eq (tgt := 157) X (dk okd_X12_readArea 28 rfl) (by decide) ?_ ?_
                    · exact h25 S18
                    · refine s_run X ok_X12_readArea 53 1 (pc' := 145) (vs' := [some (.ref p0), some (.int o2.1), some (.int v4), some (.int v6), some (.int v8), none, some (.int x17)]) (st' := [.ref p0]) rfl ?_
                      refine s_getR X fl_X12_9 t0_ (dk okd_X12_readArea 29 rfl) (fun a26 (t27 : tT C a26 14) => ?_)
                      refine s_run X ok_X12_readArea 54 5 (pc' := 156) (vs' := [some (.ref p0), some (.int o2.1), some (.int v4), some (.int v6), some (.int v8), none, some (.int x17)]) (st' := [.long (Int32.toInt64 o2.1), .int (15412 + x17), .ref a26]) rfl ?_
                      refine s_last X t27 (dk okd_X12_readArea 30 rfl) (fun S28 => ?_)
                      exact h25 S28
            · refine s_run X ok_X12_readArea 40 2 (pc' := 108) (vs' := [some (.ref p0), some (.int o2.1), some (.int v4), some (.int v6), some (.int v8), some (.int v9), none]) (st' := [.int v9, .ref p0]) rfl ?_
              refine s_putI X fp_X12_319 t0_ (dk okd_X12_readArea 22 rfl) (fun S29 => ?_)
              refine s_run X ok_X12_readArea 42 2 (pc' := 113) (vs' := [some (.ref p0), some (.int o2.1), some (.int v4), some (.int v6), some (.int v8), some (.int v9), none]) (st' := [.int 5, .ref p0]) rfl ?_
              refine s_callV (b := p0) (As := [.int 5]) (rest := []) X E mv_X12_339 (c_X12_fail S29 p0 5) rfl (ta1 t0_) rfl (by decide) t0_ rfl rfl (Nat.le_of_ble_eq_true rfl) (Nat.le_of_ble_eq_true rfl) (Nat.le_of_ble_eq_true rfl) (dk okd_X12_readArea 23 rfl) (st' := fun o30 => [.int o30.1]) (fun _ => rfl) (fun o30 => ?_)
              exact s_zret X hr (dk okd_X12_readArea 24 rfl) rfl rfl
          · refine s_run X ok_X12_readArea 33 1 (pc' := 88) (vs' := [some (.ref p0), some (.int o2.1), some (.int v4), some (.int v6), some (.int v8), some (.int v9), none]) (st' := [.int 0]) rfl ?_
            exact s_zret0 X hr (dk okd_X12_readArea 18 rfl) (by decide) rfl rfl
        · refine s_run X ok_X12_readArea 23 1 (pc' := 62) (vs' := [some (.ref p0), some (.int o2.1), some (.int v4), some (.int v6), none, none, none]) (st' := [.int 0]) rfl ?_
          exact s_zret0 X hr (dk okd_X12_readArea 13 rfl) (by decide) rfl rfl
      · refine s_run X ok_X12_readArea 15 1 (pc' := 43) (vs' := [some (.ref p0), some (.int o2.1), some (.int v4), none, none, none, none]) (st' := [.int 0]) rfl ?_
        exact s_zret0 X hr (dk okd_X12_readArea 9 rfl) (by decide) rfl rfl
    · refine s_run X ok_X12_readArea 9 1 (pc' := 26) (vs' := [some (.ref p0), some (.int o2.1), none, none, none, none, none]) (st' := [.int 0]) rfl ?_
      exact s_zret0 X hr (dk okd_X12_readArea 5 rfl) (by decide) rfl rfl
def tab_X12_hasOutletRead : List En := [(0, 0, 0, 0), (1, 10, 3, 0), (2, 4, 3, 0), (3, 31, 0, 0), (4, 8, 0, 0), (8, 2, 0, 15165), (12, 40, 0, 0), (16, 8, 0, 0), (20, 2, 0, 15348), (23, 0, 0, 4), (24, 4, 3, 0), (25, 19, 0, 0), (26, 17, 0, 0), (27, 0, 0, 1), (28, 17, 0, 0), (30, 4, 1, 0), (31, 31, 0, 0), (32, 40, 0, 0), (36, 8, 0, 0), (40, 2, 0, 15348), (43, 0, 0, 4), (44, 4, 3, 0), (45, 19, 0, 0), (46, 17, 0, 0), (47, 0, 0, 2), (48, 17, 0, 0), (50, 4, 2, 0), (51, 31, 0, 0), (52, 40, 0, 0), (56, 0, 0, 1), (58, 16, 3, 1), (61, 41, 2, 0), (64, 0, 0, 0)]
theorem ok_X12_hasOutletRead : tab_X12_hasOutletRead.all (okE cX12_hasOutletRead) = true := by decide +kernel
def ed_X12_hasOutletRead : List (Nat × Instr × Nat) := [(5, .getfield 9, 3), (11, .laload, 1), (13, .ifCond .ge 51, 3), (17, .getfield 9, 3), (29, .laload, 1), (33, .ifCond .ne 25, 3), (37, .getfield 9, 3), (49, .laload, 1), (53, .ifCond .ne 5, 3), (57, .ireturn, 1), (65, .ireturn, 1)]
theorem okd_X12_hasOutletRead : ed_X12_hasOutletRead.all (okD cX12_hasOutletRead) = true := by decide +kernel
def f_X12_hasOutletRead (S : St) (p0 : Nat) (p1 : Int32) (p2 : Int32) : Option (Int32) := lp (κ := Int32 → Option (Int32)) (fun _ => none) (fun k2 x1 => lt (gR S p0 0) fun (a4 : Nat) => ldJ S a4 15165 fun (v6 : Int64) => if v6 ≤ (Int32.toInt64 x1) then (some 0) else (lt (gR S p0 0) fun (a7 : Nat) => ldJ S a7 ((15348 + (4 * x1)) + 1) fun (v9 : Int64) => jn (κ := Option (Int32)) (k2 (x1 + 1)) fun k10 => if v9 = (Int32.toInt64 p1) then (lt (gR S p0 0) fun (a12 : Nat) => ldJ S a12 ((15348 + (4 * x1)) + 2) fun (v14 : Int64) => if v14 = (Int32.toInt64 p2) then (some 1) else (k10)) else (k10))) FU 0
set_option maxHeartbeats 4000000 in
set_option maxRecDepth 100000 in
theorem c_X12_hasOutletRead (S : St) (p0 : Nat) (p1 : Int32) (p2 : Int32) : Ct yX12_hasOutletRead cX12_hasOutletRead 4 (some .boolean) 0 0 (fun _ => [.ref p0, .int p1, .int p2]) [(p0, 11)] S (f_X12_hasOutletRead S p0 p1 p2) oI (fun _ => S) := by
  refine Ct_of RX12 rfl (by decide) (fun _ => Nat.le_of_ble_eq_true rfl) 1 (vs := fun _ => [some (.ref p0), some (.int p1), some (.int p2), none]) (fun _ => rfl) (fun C X E hr ht => ?_)
  have t0_ : tT C p0 11 := ht (p0, 11) (by simp)
  show Jd C 4 (QJ C oI (fun _ => S)) S 0 [some (.ref p0), some (.int p1), some (.int p2), none] [] (f_X12_hasOutletRead S p0 p1 p2)
  unfold f_X12_hasOutletRead
  refine s_run X ok_X12_hasOutletRead 0 2 (pc' := 2) (vs' := [some (.ref p0), some (.int p1), some (.int p2), some (.int 0)]) (st' := []) rfl ?_
  refine s_lp (κ := Int32 → Option (Int32)) (fun k2 => ∀ (x1 : Int32), Jd C 4 (QJ C oI (fun _ => S)) S 2 [some (.ref p0), some (.int p1), some (.int p2), some (.int x1)] [] (k2 x1)) (fun _ => s_none) (fun k2 h3 x1 => ?_) FU 0
  refine s_run X ok_X12_hasOutletRead 2 3 (pc' := 5) (vs' := [some (.ref p0), some (.int p1), some (.int p2), some (.int x1)]) (st' := [.ref p0, .long (Int32.toInt64 x1)]) rfl ?_
  refine s_getR X fl_X12_9 t0_ (dk okd_X12_hasOutletRead 0 rfl) (fun a4 (t5 : tT C a4 14) => ?_)
  refine s_run X ok_X12_hasOutletRead 5 1 (pc' := 11) (vs' := [some (.ref p0), some (.int p1), some (.int p2), some (.int x1)]) (st' := [.int 15165, .ref a4, .long (Int32.toInt64 x1)]) rfl ?_
  refine s_lald X t5 (dk okd_X12_hasOutletRead 1 rfl) (fun v6 => ?_)
  refine s_run X ok_X12_hasOutletRead 6 1 (pc' := 13) (vs' := [some (.ref p0), some (.int p1), some (.int p2), some (.int x1)]) (st' := [.int (lg_cmp (Int32.toInt64 x1) v6)]) rfl ?_
  refine s_lif_ge (tgt := 64) X (dk okd_X12_hasOutletRead 2 rfl) (by decide) ?_ ?_
  · refine s_run X ok_X12_hasOutletRead 32 1 (pc' := 65) (vs' := [some (.ref p0), some (.int p1), some (.int p2), some (.int x1)]) (st' := [.int 0]) rfl ?_
    exact s_zret0 X hr (dk okd_X12_hasOutletRead 10 rfl) (by decide) rfl rfl
  · refine s_run X ok_X12_hasOutletRead 7 1 (pc' := 17) (vs' := [some (.ref p0), some (.int p1), some (.int p2), some (.int x1)]) (st' := [.ref p0]) rfl ?_
    refine s_getR X fl_X12_9 t0_ (dk okd_X12_hasOutletRead 3 rfl) (fun a7 (t8 : tT C a7 14) => ?_)
    refine s_run X ok_X12_hasOutletRead 8 7 (pc' := 29) (vs' := [some (.ref p0), some (.int p1), some (.int p2), some (.int x1)]) (st' := [.int ((15348 + (4 * x1)) + 1), .ref a7]) rfl ?_
    refine s_lald X t8 (dk okd_X12_hasOutletRead 4 rfl) (fun v9 => ?_)
    refine s_run X ok_X12_hasOutletRead 15 3 (pc' := 33) (vs' := [some (.ref p0), some (.int p1), some (.int p2), some (.int x1)]) (st' := [.int (lg_cmp v9 (Int32.toInt64 p1))]) rfl ?_
    refine s_jn (κ := Option (Int32)) (fun k10 => Jd C 4 (QJ C oI (fun _ => S)) S 58 [some (.ref p0), some (.int p1), some (.int p2), some (.int x1)] [] k10) ?_ (fun k10 h11 => ?_)
    · refine s_run X ok_X12_hasOutletRead 30 2 (pc' := 2) (vs' := [some (.ref p0), some (.int p1), some (.int p2), some (.int (x1 + 1))]) (st' := []) rfl ?_
      exact h3 (x1 + 1)
    · refine s_lif_ne (tgt := 58) X (dk okd_X12_hasOutletRead 5 rfl) (by decide) ?_ ?_
      · exact h11
      · refine s_run X ok_X12_hasOutletRead 18 1 (pc' := 37) (vs' := [some (.ref p0), some (.int p1), some (.int p2), some (.int x1)]) (st' := [.ref p0]) rfl ?_
        refine s_getR X fl_X12_9 t0_ (dk okd_X12_hasOutletRead 6 rfl) (fun a12 (t13 : tT C a12 14) => ?_)
        refine s_run X ok_X12_hasOutletRead 19 7 (pc' := 49) (vs' := [some (.ref p0), some (.int p1), some (.int p2), some (.int x1)]) (st' := [.int ((15348 + (4 * x1)) + 2), .ref a12]) rfl ?_
        refine s_lald X t13 (dk okd_X12_hasOutletRead 7 rfl) (fun v14 => ?_)
        refine s_run X ok_X12_hasOutletRead 26 3 (pc' := 53) (vs' := [some (.ref p0), some (.int p1), some (.int p2), some (.int x1)]) (st' := [.int (lg_cmp v14 (Int32.toInt64 p2))]) rfl ?_
        refine s_lif_ne (tgt := 58) X (dk okd_X12_hasOutletRead 8 rfl) (by decide) ?_ ?_
        · exact h11
        · refine s_run X ok_X12_hasOutletRead 29 1 (pc' := 57) (vs' := [some (.ref p0), some (.int p1), some (.int p2), some (.int x1)]) (st' := [.int 1]) rfl ?_
          exact s_zret0 X hr (dk okd_X12_hasOutletRead 9 rfl) (by decide) rfl rfl
def tab_X12_readOutlet : List En := [(0, 8, 0, 0), (4, 2, 0, 15165), (11, 40, 0, 0), (15, 8, 0, 0), (16, 0, 0, 4), (21, 8, 0, 0), (25, 8, 0, 0), (26, 0, 0, 3), (30, 10, 1, 0), (31, 4, 1, 0), (32, 0, 0, (-1)), (36, 8, 0, 0), (37, 0, 0, 0), (38, 1, 0, 29), (46, 0, 0, 0), (48, 8, 0, 0), (52, 10, 2, 0), (53, 8, 0, 0), (57, 10, 3, 0), (58, 8, 0, 0), (59, 0, 0, 0), (60, 1, 0, 29), (68, 0, 0, 0), (70, 8, 0, 0), (74, 2, 0, 15412), (77, 1, 0, 30), (79, 8, 0, 0), (83, 19, 0, 0), (84, 17, 0, 0), (85, 4, 2, 0), (86, 17, 0, 0), (88, 4, 1, 0), (89, 31, 0, 0), (90, 40, 0, 0), (94, 8, 0, 0), (95, 4, 2, 0), (96, 8, 0, 0), (106, 8, 0, 0), (107, 4, 3, 0), (111, 8, 0, 0), (112, 0, 0, 5), (117, 8, 0, 0), (118, 0, 0, 3), (119, 4, 1, 0), (120, 4, 2, 0), (121, 8, 0, 0), (128, 8, 0, 0)]
theorem ok_X12_readOutlet : tab_X12_readOutlet.all (okE cX12_readOutlet) = true := by decide +kernel
def ed_X12_readOutlet : List (Nat × Instr × Nat) := [(1, .getfield 9, 3), (7, .laload, 1), (8, .ldc2_w 146, 3), (12, .ifCond .ne 9, 3), (17, .invokevirtual 339, 3), (20, .ireturn, 1), (22, .invokevirtual 345, 3), (27, .invokevirtual 374, 3), (33, .if_icmp .eq 13, 3), (40, .invokevirtual 348, 3), (43, .ifCond .ne 5, 3), (47, .ireturn, 1), (49, .getfield 342, 3), (54, .getfield 319, 3), (62, .invokevirtual 348, 3), (65, .ifCond .ne 5, 3), (69, .ireturn, 1), (71, .getfield 9, 3), (80, .getfield 342, 3), (87, .laload, 1), (91, .ifCond .ne 15, 3), (97, .getfield 342, 3), (100, .invokevirtual 380, 3), (103, .ifCond .eq 14, 3), (108, .putfield 319, 3), (113, .invokevirtual 339, 3), (116, .ireturn, 1), (122, .getfield 342, 3), (125, .invokevirtual 148, 3), (129, .invokevirtual 361, 3), (132, .ireturn, 1)]
theorem okd_X12_readOutlet : ed_X12_readOutlet.all (okD cX12_readOutlet) = true := by decide +kernel
def f_X12_readOutlet (S : St) (p0 : Nat) : Option (Int32 × St) := lt (gR S p0 0) fun (a1 : Nat) => ldJ S a1 15165 fun (v3 : Int64) => if v3 = 16 then (cl (f_X12_fail S p0 4) fun (o23 : Int32 × St) => zc o23.1 (some (o23.1, o23.2))) else (cl (f_X12_advance S p0) fun (S4 : St) => cl (f_X12_readName S4 p0 3) fun (o5 : Int32 × St) => if o5.1 = (-1) then (some (0, o5.2)) else (cl (f_X12_readNumber o5.2 p0 0 29) fun (o6 : Int32 × St) => if o6.1 = 0 then (some (0, o6.2)) else (lt (gI o6.2 p0 15) fun (v7 : Int32) => lt (gI o6.2 p0 14) fun (v8 : Int32) => cl (f_X12_readNumber o6.2 p0 0 29) fun (o9 : Int32 × St) => if o9.1 = 0 then (some (0, o9.2)) else (lt (gR o9.2 p0 0) fun (a10 : Nat) => lt (gI o9.2 p0 15) fun (v12 : Int32) => ldJ o9.2 a10 ((15412 + (30 * v12)) + v7) fun (v13 : Int64) => jn (κ := Option (Int32 × St)) (lt (uI o9.2 p0 14 v8) fun (S16 : St) => cl (f_X12_fail S16 p0 5) fun (o17 : Int32 × St) => zc o17.1 (some (o17.1, o17.2))) fun k14 => if v13 = (Int32.toInt64 o5.1) then (lt (gI o9.2 p0 15) fun (v18 : Int32) => cl (f_X12_hasOutletRead o9.2 p0 v7 v18) fun (v19 : Int32) => if v19 = 0 then (lt (gI o9.2 p0 15) fun (v20 : Int32) => cl (f_X12_putOutlet o9.2 p0 3 o5.1 v7 v20) fun (S21 : St) => cl (f_X12_readEnd S21 p0) fun (o22 : Int32 × St) => zc o22.1 (some (o22.1, o22.2))) else (k14)) else (k14)))))
set_option maxHeartbeats 4000000 in
set_option maxRecDepth 100000 in
theorem c_X12_readOutlet (S : St) (p0 : Nat) : Ct yX12_readOutlet cX12_readOutlet 4 (some .boolean) 4 89 (fun _ => [.ref p0]) [(p0, 11)] S (f_X12_readOutlet S p0) oIS sS := by
  refine Ct_of RX12 rfl (by decide) (fun _ => Nat.le_of_ble_eq_true rfl) 3 (vs := fun _ => [some (.ref p0), none, none, none]) (fun _ => rfl) (fun C X E hr ht => ?_)
  have t0_ : tT C p0 11 := ht (p0, 11) (by simp)
  show Jd C 4 (QJ C oIS sS) S 0 [some (.ref p0), none, none, none] [] (f_X12_readOutlet S p0)
  unfold f_X12_readOutlet
  refine s_run X ok_X12_readOutlet 0 1 (pc' := 1) (vs' := [some (.ref p0), none, none, none]) (st' := [.ref p0]) rfl ?_
  refine s_getR X fl_X12_9 t0_ (dk okd_X12_readOutlet 0 rfl) (fun a1 (t2 : tT C a1 14) => ?_)
  refine s_run X ok_X12_readOutlet 1 1 (pc' := 7) (vs' := [some (.ref p0), none, none, none]) (st' := [.int 15165, .ref a1]) rfl ?_
  refine s_lald X t2 (dk okd_X12_readOutlet 1 rfl) (fun v3 => ?_)
  refine s_ldc2 X cl_X12_146 (dk okd_X12_readOutlet 2 rfl) ?_
  refine s_run X ok_X12_readOutlet 2 1 (pc' := 12) (vs' := [some (.ref p0), none, none, none]) (st' := [.int (lg_cmp v3 16)]) rfl ?_
  refine s_lif_ne (tgt := 21) X (dk okd_X12_readOutlet 3 rfl) (by decide) ?_ ?_
  · refine s_run X ok_X12_readOutlet 5 1 (pc' := 22) (vs' := [some (.ref p0), none, none, none]) (st' := [.ref p0]) rfl ?_
    refine s_callV (b := p0) (As := []) (rest := []) X E mv_X12_345 (c_X12_advance S p0) rfl (ta1 t0_) rfl (by decide) t0_ rfl rfl (Nat.le_of_ble_eq_true rfl) (Nat.le_of_ble_eq_true rfl) (Nat.le_of_ble_eq_true rfl) (dk okd_X12_readOutlet 6 rfl) (st' := fun S4 => []) (fun _ => rfl) (fun S4 => ?_)
    refine s_run X ok_X12_readOutlet 6 2 (pc' := 27) (vs' := [some (.ref p0), none, none, none]) (st' := [.int 3, .ref p0]) rfl ?_
    refine s_callV (b := p0) (As := [.int 3]) (rest := []) X E mv_X12_374 (c_X12_readName S4 p0 3) rfl (ta1 t0_) rfl (by decide) t0_ rfl rfl (Nat.le_of_ble_eq_true rfl) (Nat.le_of_ble_eq_true rfl) (Nat.le_of_ble_eq_true rfl) (dk okd_X12_readOutlet 7 rfl) (st' := fun o5 => [.int o5.1]) (fun _ => rfl) (fun o5 => ?_)
    refine s_run X ok_X12_readOutlet 8 3 (pc' := 33) (vs' := [some (.ref p0), some (.int o5.1), none, none]) (st' := [.int (-1), .int o5.1]) rfl ?_
    refine s_icmp_eq (tgt := 46) X (dk okd_X12_readOutlet 8 rfl) (by decide) ?_ ?_
    · refine s_run X ok_X12_readOutlet 14 1 (pc' := 47) (vs' := [some (.ref p0), some (.int o5.1), none, none]) (st' := [.int 0]) rfl ?_
      exact s_zret0 X hr (dk okd_X12_readOutlet 11 rfl) (by decide) rfl rfl
    · refine s_run X ok_X12_readOutlet 11 3 (pc' := 40) (vs' := [some (.ref p0), some (.int o5.1), none, none]) (st' := [.int 29, .int 0, .ref p0]) rfl ?_
      refine s_callV (b := p0) (As := [.int 0, .int 29]) (rest := []) X E mv_X12_348 (c_X12_readNumber o5.2 p0 0 29) rfl (ta1 t0_) rfl (by decide) t0_ rfl rfl (Nat.le_of_ble_eq_true rfl) (Nat.le_of_ble_eq_true rfl) (Nat.le_of_ble_eq_true rfl) (dk okd_X12_readOutlet 9 rfl) (st' := fun o6 => [.int o6.1]) (fun _ => rfl) (fun o6 => ?_)
      refine s_if_ne (tgt := 48) X (dk okd_X12_readOutlet 10 rfl) (by decide) ?_ ?_
      · refine s_run X ok_X12_readOutlet 15 1 (pc' := 49) (vs' := [some (.ref p0), some (.int o5.1), none, none]) (st' := [.ref p0]) rfl ?_
        refine s_getI X fl_X12_342 t0_ (dk okd_X12_readOutlet 12 rfl) (fun v7 => ?_)
        refine s_run X ok_X12_readOutlet 16 2 (pc' := 54) (vs' := [some (.ref p0), some (.int o5.1), some (.int v7), none]) (st' := [.ref p0]) rfl ?_
        refine s_getI X fl_X12_319 t0_ (dk okd_X12_readOutlet 13 rfl) (fun v8 => ?_)
        refine s_run X ok_X12_readOutlet 18 4 (pc' := 62) (vs' := [some (.ref p0), some (.int o5.1), some (.int v7), some (.int v8)]) (st' := [.int 29, .int 0, .ref p0]) rfl ?_
        refine s_callV (b := p0) (As := [.int 0, .int 29]) (rest := []) X E mv_X12_348 (c_X12_readNumber o6.2 p0 0 29) rfl (ta1 t0_) rfl (by decide) t0_ rfl rfl (Nat.le_of_ble_eq_true rfl) (Nat.le_of_ble_eq_true rfl) (Nat.le_of_ble_eq_true rfl) (dk okd_X12_readOutlet 14 rfl) (st' := fun o9 => [.int o9.1]) (fun _ => rfl) (fun o9 => ?_)
        refine s_if_ne (tgt := 70) X (dk okd_X12_readOutlet 15 rfl) (by decide) ?_ ?_
        · refine s_run X ok_X12_readOutlet 23 1 (pc' := 71) (vs' := [some (.ref p0), some (.int o5.1), some (.int v7), some (.int v8)]) (st' := [.ref p0]) rfl ?_
          refine s_getR X fl_X12_9 t0_ (dk okd_X12_readOutlet 17 rfl) (fun a10 (t11 : tT C a10 14) => ?_)
          refine s_run X ok_X12_readOutlet 24 3 (pc' := 80) (vs' := [some (.ref p0), some (.int o5.1), some (.int v7), some (.int v8)]) (st' := [.ref p0, .int 30, .int 15412, .ref a10]) rfl ?_
          refine s_getI X fl_X12_342 t0_ (dk okd_X12_readOutlet 18 rfl) (fun v12 => ?_)
          refine s_run X ok_X12_readOutlet 27 4 (pc' := 87) (vs' := [some (.ref p0), some (.int o5.1), some (.int v7), some (.int v8)]) (st' := [.int ((15412 + (30 * v12)) + v7), .ref a10]) rfl ?_
          refine s_lald X t11 (dk okd_X12_readOutlet 19 rfl) (fun v13 => ?_)
          refine s_run X ok_X12_readOutlet 31 3 (pc' := 91) (vs' := [some (.ref p0), some (.int o5.1), some (.int v7), some (.int v8)]) (st' := [.int (lg_cmp v13 (Int32.toInt64 o5.1))]) rfl ?_
          refine s_jn (κ := Option (Int32 × St)) (fun k14 => Jd C 4 (QJ C oIS sS) o9.2 106 [some (.ref p0), none, none, some (.int v8)] [] k14) ?_ (fun k14 h15 => ?_)
          · refine s_run X ok_X12_readOutlet 37 2 (pc' := 108) (vs' := [some (.ref p0), none, none, some (.int v8)]) (st' := [.int v8, .ref p0]) rfl ?_
            refine s_putI X fp_X12_319 t0_ (dk okd_X12_readOutlet 24 rfl) (fun S16 => ?_)
            refine s_run X ok_X12_readOutlet 39 2 (pc' := 113) (vs' := [some (.ref p0), none, none, some (.int v8)]) (st' := [.int 5, .ref p0]) rfl ?_
            refine s_callV (b := p0) (As := [.int 5]) (rest := []) X E mv_X12_339 (c_X12_fail S16 p0 5) rfl (ta1 t0_) rfl (by decide) t0_ rfl rfl (Nat.le_of_ble_eq_true rfl) (Nat.le_of_ble_eq_true rfl) (Nat.le_of_ble_eq_true rfl) (dk okd_X12_readOutlet 25 rfl) (st' := fun o17 => [.int o17.1]) (fun _ => rfl) (fun o17 => ?_)
            exact s_zret X hr (dk okd_X12_readOutlet 26 rfl) rfl rfl
          · refine s_lif_ne (tgt := 106) X (dk okd_X12_readOutlet 20 rfl) (by decide) ?_ ?_
            · exact s_less [true, false, false, true] rfl (h15)
            · refine s_run X ok_X12_readOutlet 34 3 (pc' := 97) (vs' := [some (.ref p0), some (.int o5.1), some (.int v7), some (.int v8)]) (st' := [.ref p0, .int v7, .ref p0]) rfl ?_
              refine s_getI X fl_X12_342 t0_ (dk okd_X12_readOutlet 21 rfl) (fun v18 => ?_)
              refine s_callV (b := p0) (As := [.int v7, .int v18]) (rest := []) X E mv_X12_380 (c_X12_hasOutletRead o9.2 p0 v7 v18) rfl (ta1 t0_) rfl (by decide) t0_ rfl rfl (Nat.le_of_ble_eq_true rfl) (Nat.le_of_ble_eq_true rfl) (Nat.le_of_ble_eq_true rfl) (dk okd_X12_readOutlet 22 rfl) (st' := fun v19 => [.int v19]) (fun _ => rfl) (fun v19 => ?_)
              refine s_if_eq (tgt := 117) X (dk okd_X12_readOutlet 23 rfl) (by decide) ?_ ?_
              · refine s_run X ok_X12_readOutlet 41 5 (pc' := 122) (vs' := [some (.ref p0), some (.int o5.1), some (.int v7), some (.int v8)]) (st' := [.ref p0, .int v7, .int o5.1, .int 3, .ref p0]) rfl ?_
                refine s_getI X fl_X12_342 t0_ (dk okd_X12_readOutlet 27 rfl) (fun v20 => ?_)
                refine s_callV (b := p0) (As := [.int 3, .int o5.1, .int v7, .int v20]) (rest := []) X E mv_X12_148 (c_X12_putOutlet o9.2 p0 3 o5.1 v7 v20) rfl (ta1 t0_) rfl (by decide) t0_ rfl rfl (Nat.le_of_ble_eq_true rfl) (Nat.le_of_ble_eq_true rfl) (Nat.le_of_ble_eq_true rfl) (dk okd_X12_readOutlet 28 rfl) (st' := fun S21 => []) (fun _ => rfl) (fun S21 => ?_)
                refine s_run X ok_X12_readOutlet 46 1 (pc' := 129) (vs' := [some (.ref p0), some (.int o5.1), some (.int v7), some (.int v8)]) (st' := [.ref p0]) rfl ?_
                refine s_callV (b := p0) (As := []) (rest := []) X E mv_X12_361 (c_X12_readEnd S21 p0) rfl (ta1 t0_) rfl (by decide) t0_ rfl rfl (Nat.le_of_ble_eq_true rfl) (Nat.le_of_ble_eq_true rfl) (Nat.le_of_ble_eq_true rfl) (dk okd_X12_readOutlet 29 rfl) (st' := fun o22 => [.int o22.1]) (fun _ => rfl) (fun o22 => ?_)
                exact s_zret X hr (dk okd_X12_readOutlet 30 rfl) rfl rfl
              · exact s_less [true, false, false, true] rfl (h15)
        · refine s_run X ok_X12_readOutlet 22 1 (pc' := 69) (vs' := [some (.ref p0), some (.int o5.1), some (.int v7), some (.int v8)]) (st' := [.int 0]) rfl ?_
          exact s_zret0 X hr (dk okd_X12_readOutlet 16 rfl) (by decide) rfl rfl
      · refine s_run X ok_X12_readOutlet 14 1 (pc' := 47) (vs' := [some (.ref p0), some (.int o5.1), none, none]) (st' := [.int 0]) rfl ?_
        exact s_zret0 X hr (dk okd_X12_readOutlet 11 rfl) (by decide) rfl rfl
  · refine s_run X ok_X12_readOutlet 3 2 (pc' := 17) (vs' := [some (.ref p0), none, none, none]) (st' := [.int 4, .ref p0]) rfl ?_
    refine s_callV (b := p0) (As := [.int 4]) (rest := []) X E mv_X12_339 (c_X12_fail S p0 4) rfl (ta1 t0_) rfl (by decide) t0_ rfl rfl (Nat.le_of_ble_eq_true rfl) (Nat.le_of_ble_eq_true rfl) (Nat.le_of_ble_eq_true rfl) (dk okd_X12_readOutlet 4 rfl) (st' := fun o23 => [.int o23.1]) (fun _ => rfl) (fun o23 => ?_)
    exact s_zret X hr (dk okd_X12_readOutlet 5 rfl) rfl rfl
def tab_X12_readSetting : List En := [(0, 8, 0, 0), (4, 8, 0, 0), (5, 2, 0, 15162), (8, 4, 1, 0), (9, 17, 0, 0), (10, 0, 0, 0), (11, 4, 2, 0), (12, 6, 3, 0), (19, 8, 0, 0), (26, 0, 0, 1), (27, 41, 31, 0), (30, 0, 0, 0)]
theorem ok_X12_readSetting : tab_X12_readSetting.all (okE cX12_readSetting) = true := by decide +kernel
def ed_X12_readSetting : List (Nat × Instr × Nat) := [(1, .invokevirtual 345, 3), (13, .invokevirtual 355, 3), (16, .ifCond .eq 14, 3), (20, .invokevirtual 361, 3), (23, .ifCond .eq 7, 3), (31, .ireturn, 1)]
theorem okd_X12_readSetting : ed_X12_readSetting.all (okD cX12_readSetting) = true := by decide +kernel
def f_X12_readSetting (S : St) (p0 : Nat) (p1 : Int32) (p2 : Int32) (p3 : Int64) : Option (Int32 × St) := cl (f_X12_advance S p0) fun (S1 : St) => cl (f_X12_readInto S1 p0 (15162 + p1) 0 p2 p3) fun (o2 : Int32 × St) => jn (κ := St → Option (Int32 × St)) (fun S3 => some (0, S3)) fun k4 => if o2.1 = 0 then (k4 o2.2) else (cl (f_X12_readEnd o2.2 p0) fun (o6 : Int32 × St) => if o6.1 = 0 then (k4 o6.2) else (some (1, o6.2)))
set_option maxHeartbeats 4000000 in
set_option maxRecDepth 100000 in
theorem c_X12_readSetting (S : St) (p0 : Nat) (p1 : Int32) (p2 : Int32) (p3 : Int64) : Ct yX12_readSetting cX12_readSetting 5 (some .boolean) 5 113 (fun _ => [.ref p0, .int p1, .int p2, .long p3]) [(p0, 11)] S (f_X12_readSetting S p0 p1 p2 p3) oIS sS := by
  refine Ct_of RX12 rfl (by decide) (fun _ => Nat.le_of_ble_eq_true rfl) 0 (vs := fun _ => [some (.ref p0), some (.int p1), some (.int p2), some (.long p3), none]) (fun _ => rfl) (fun C X E hr ht => ?_)
  have t0_ : tT C p0 11 := ht (p0, 11) (by simp)
  show Jd C 5 (QJ C oIS sS) S 0 [some (.ref p0), some (.int p1), some (.int p2), some (.long p3), none] [] (f_X12_readSetting S p0 p1 p2 p3)
  unfold f_X12_readSetting
  refine s_run X ok_X12_readSetting 0 1 (pc' := 1) (vs' := [some (.ref p0), some (.int p1), some (.int p2), some (.long p3), none]) (st' := [.ref p0]) rfl ?_
  refine s_callV (b := p0) (As := []) (rest := []) X E mv_X12_345 (c_X12_advance S p0) rfl (ta1 t0_) rfl (by decide) t0_ rfl rfl (Nat.le_of_ble_eq_true rfl) (Nat.le_of_ble_eq_true rfl) (Nat.le_of_ble_eq_true rfl) (dk okd_X12_readSetting 0 rfl) (st' := fun S1 => []) (fun _ => rfl) (fun S1 => ?_)
  refine s_run X ok_X12_readSetting 1 7 (pc' := 13) (vs' := [some (.ref p0), some (.int p1), some (.int p2), some (.long p3), none]) (st' := [.long p3, .int p2, .int 0, .int (15162 + p1), .ref p0]) rfl ?_
  refine s_callV (b := p0) (As := [.int (15162 + p1), .int 0, .int p2, .long p3]) (rest := []) X E mv_X12_355 (c_X12_readInto S1 p0 (15162 + p1) 0 p2 p3) rfl (ta1 t0_) rfl (by decide) t0_ rfl rfl (Nat.le_of_ble_eq_true rfl) (Nat.le_of_ble_eq_true rfl) (Nat.le_of_ble_eq_true rfl) (dk okd_X12_readSetting 1 rfl) (st' := fun o2 => [.int o2.1]) (fun _ => rfl) (fun o2 => ?_)
  refine s_jn (κ := St → Option (Int32 × St)) (fun k4 => ∀ (S3 : St), Jd C 5 (QJ C oIS sS) S3 30 [none, none, none, none, none] [] (k4 S3)) (fun S3 => ?_) (fun k4 h5 => ?_)
  · refine s_run X ok_X12_readSetting 11 1 (pc' := 31) (vs' := [none, none, none, none, none]) (st' := [.int 0]) rfl ?_
    exact s_zret0 X hr (dk okd_X12_readSetting 5 rfl) (by decide) rfl rfl
  · refine s_if_eq (tgt := 30) X (dk okd_X12_readSetting 2 rfl) (by decide) ?_ ?_
    · exact s_less [false, false, false, false, false] rfl (h5 o2.2)
    · refine s_run X ok_X12_readSetting 8 1 (pc' := 20) (vs' := [some (.ref p0), some (.int p1), some (.int p2), some (.long p3), none]) (st' := [.ref p0]) rfl ?_
      refine s_callV (b := p0) (As := []) (rest := []) X E mv_X12_361 (c_X12_readEnd o2.2 p0) rfl (ta1 t0_) rfl (by decide) t0_ rfl rfl (Nat.le_of_ble_eq_true rfl) (Nat.le_of_ble_eq_true rfl) (Nat.le_of_ble_eq_true rfl) (dk okd_X12_readSetting 3 rfl) (st' := fun o6 => [.int o6.1]) (fun _ => rfl) (fun o6 => ?_)
      refine s_if_eq (tgt := 30) X (dk okd_X12_readSetting 4 rfl) (by decide) ?_ ?_
      · exact s_less [false, false, false, false, false] rfl (h5 o6.2)
      · refine s_run X ok_X12_readSetting 9 2 (pc' := 31) (vs' := [some (.ref p0), some (.int p1), some (.int p2), some (.long p3), none]) (st' := [.int 1]) rfl ?_
        exact s_zret0 X hr (dk okd_X12_readSetting 5 rfl) (by decide) rfl rfl
def tab_X12_readStatement : List En := [(0, 8, 0, 0), (60, 8, 0, 0), (65, 8, 0, 0), (70, 8, 0, 0), (75, 8, 0, 0), (80, 8, 0, 0), (84, 8, 0, 0), (85, 2, 0, 15166), (88, 0, 0, 0), (89, 2, 0, 5000), (92, 3, 1, 0), (99, 8, 0, 0), (100, 2, 0, 15167), (103, 0, 0, 0), (104, 2, 0, 9999), (116, 8, 0, 0), (123, 0, 0, 1), (124, 41, 128, 0), (127, 0, 0, 0), (129, 8, 0, 0), (130, 1, 0, 6), (132, 2, 0, 500), (135, 3, 1, 0), (140, 8, 0, 0), (141, 1, 0, 7), (143, 2, 0, 2000), (146, 3, 1, 0), (151, 8, 0, 0), (152, 1, 0, 8), (154, 2, 0, 9999), (164, 8, 0, 0), (165, 1, 0, 9), (167, 1, 0, 12), (169, 3, 1, 0), (174, 8, 0, 0), (175, 1, 0, 10), (177, 2, 0, 999), (180, 3, 1, 0), (185, 8, 0, 0), (186, 0, 0, 1)]
theorem ok_X12_readStatement : tab_X12_readStatement.all (okE cX12_readStatement) = true := by decide +kernel
def ed_X12_readStatement : List (Nat × Instr × Nat) := [(1, .invokevirtual 366, 3), (4, .tableswitch 181 0 9 #[56, 61, 66, 71, 76, 125, 136, 147, 160, 170], 56), (61, .invokevirtual 383, 3), (64, .ireturn, 1), (66, .invokevirtual 386, 3), (69, .ireturn, 1), (71, .invokevirtual 389, 3), (74, .ireturn, 1), (76, .invokevirtual 392, 3), (79, .ireturn, 1), (81, .invokevirtual 345, 3), (93, .invokevirtual 355, 3), (96, .ifCond .eq 31, 3), (107, .ldc2_w 144, 3), (110, .invokevirtual 355, 3), (113, .ifCond .eq 14, 3), (117, .invokevirtual 361, 3), (120, .ifCond .eq 7, 3), (128, .ireturn, 1), (136, .invokevirtual 395, 3), (139, .ireturn, 1), (147, .invokevirtual 395, 3), (150, .ireturn, 1), (157, .ldc2_w 144, 3), (160, .invokevirtual 395, 3), (163, .ireturn, 1), (170, .invokevirtual 395, 3), (173, .ireturn, 1), (181, .invokevirtual 395, 3), (184, .ireturn, 1), (187, .invokevirtual 339, 3), (190, .ireturn, 1)]
theorem okd_X12_readStatement : ed_X12_readStatement.all (okD cX12_readStatement) = true := by decide +kernel
def f_X12_readStatement (S : St) (p0 : Nat) : Option (Int32 × St) := cl (f_X12_statement S p0) fun (v1 : Int32) => if v1 = 0 then (cl (f_X12_readPlan S p0) fun (o2 : Int32 × St) => zc o2.1 (some (o2.1, o2.2))) else (if v1 = 1 then (cl (f_X12_readFranchisee S p0) fun (o3 : Int32 × St) => zc o3.1 (some (o3.1, o3.2))) else (if v1 = 2 then (cl (f_X12_readArea S p0) fun (o4 : Int32 × St) => zc o4.1 (some (o4.1, o4.2))) else (if v1 = 3 then (cl (f_X12_readOutlet S p0) fun (o5 : Int32 × St) => zc o5.1 (some (o5.1, o5.2))) else (if v1 = 4 then (cl (f_X12_advance S p0) fun (S6 : St) => cl (f_X12_readInto S6 p0 15166 0 5000 1) fun (o7 : Int32 × St) => jn (κ := St → Option (Int32 × St)) (fun S8 => some (0, S8)) fun k9 => if o7.1 = 0 then (k9 o7.2) else (cl (f_X12_readInto o7.2 p0 15167 0 9999 100) fun (o11 : Int32 × St) => if o11.1 = 0 then (k9 o11.2) else (cl (f_X12_readEnd o11.2 p0) fun (o12 : Int32 × St) => if o12.1 = 0 then (k9 o12.2) else (some (1, o12.2))))) else (if v1 = 5 then (cl (f_X12_readSetting S p0 6 500 1) fun (o13 : Int32 × St) => zc o13.1 (some (o13.1, o13.2))) else (if v1 = 6 then (cl (f_X12_readSetting S p0 7 2000 1) fun (o14 : Int32 × St) => zc o14.1 (some (o14.1, o14.2))) else (if v1 = 7 then (cl (f_X12_readSetting S p0 8 9999 100) fun (o15 : Int32 × St) => zc o15.1 (some (o15.1, o15.2))) else (if v1 = 8 then (cl (f_X12_readSetting S p0 9 12 1) fun (o16 : Int32 × St) => zc o16.1 (some (o16.1, o16.2))) else (if v1 = 9 then (cl (f_X12_readSetting S p0 10 999 1) fun (o17 : Int32 × St) => zc o17.1 (some (o17.1, o17.2))) else (cl (f_X12_fail S p0 1) fun (o18 : Int32 × St) => zc o18.1 (some (o18.1, o18.2))))))))))))
set_option maxHeartbeats 4000000 in
set_option maxRecDepth 100000 in
theorem c_X12_readStatement (S : St) (p0 : Nat) : Ct yX12_readStatement cX12_readStatement 1 (some .boolean) 6 137 (fun _ => [.ref p0]) [(p0, 11)] S (f_X12_readStatement S p0) oIS sS := by
  refine Ct_of RX12 rfl (by decide) (fun _ => Nat.le_of_ble_eq_true rfl) 0 (vs := fun _ => [some (.ref p0)]) (fun _ => rfl) (fun C X E hr ht => ?_)
  have t0_ : tT C p0 11 := ht (p0, 11) (by simp)
  show Jd C 1 (QJ C oIS sS) S 0 [some (.ref p0)] [] (f_X12_readStatement S p0)
  unfold f_X12_readStatement
  refine s_run X ok_X12_readStatement 0 1 (pc' := 1) (vs' := [some (.ref p0)]) (st' := [.ref p0]) rfl ?_
  refine s_callV (b := p0) (As := []) (rest := []) X E mv_X12_366 (c_X12_statement S p0) rfl (ta1 t0_) rfl (by decide) t0_ rfl rfl (Nat.le_of_ble_eq_true rfl) (Nat.le_of_ble_eq_true rfl) (Nat.le_of_ble_eq_true rfl) (dk okd_X12_readStatement 0 rfl) (st' := fun v1 => [.int v1]) (fun _ => rfl) (fun v1 => ?_)
  refine s_tabc (c := 0) (tgt := 60) X (dk okd_X12_readStatement 1 rfl) (by decide) (by decide) rfl (by decide) ?_ (fun n0 => ?_)
  · refine s_run X ok_X12_readStatement 1 1 (pc' := 61) (vs' := [some (.ref p0)]) (st' := [.ref p0]) rfl ?_
    refine s_callV (b := p0) (As := []) (rest := []) X E mv_X12_383 (c_X12_readPlan S p0) rfl (ta1 t0_) rfl (by decide) t0_ rfl rfl (Nat.le_of_ble_eq_true rfl) (Nat.le_of_ble_eq_true rfl) (Nat.le_of_ble_eq_true rfl) (dk okd_X12_readStatement 2 rfl) (st' := fun o2 => [.int o2.1]) (fun _ => rfl) (fun o2 => ?_)
    exact s_zret X hr (dk okd_X12_readStatement 3 rfl) rfl rfl
  refine s_tabc (c := 1) (tgt := 65) X (dk okd_X12_readStatement 1 rfl) (by decide) (by decide) rfl (by decide) ?_ (fun n1 => ?_)
  · refine s_run X ok_X12_readStatement 2 1 (pc' := 66) (vs' := [some (.ref p0)]) (st' := [.ref p0]) rfl ?_
    refine s_callV (b := p0) (As := []) (rest := []) X E mv_X12_386 (c_X12_readFranchisee S p0) rfl (ta1 t0_) rfl (by decide) t0_ rfl rfl (Nat.le_of_ble_eq_true rfl) (Nat.le_of_ble_eq_true rfl) (Nat.le_of_ble_eq_true rfl) (dk okd_X12_readStatement 4 rfl) (st' := fun o3 => [.int o3.1]) (fun _ => rfl) (fun o3 => ?_)
    exact s_zret X hr (dk okd_X12_readStatement 5 rfl) rfl rfl
  refine s_tabc (c := 2) (tgt := 70) X (dk okd_X12_readStatement 1 rfl) (by decide) (by decide) rfl (by decide) ?_ (fun n2 => ?_)
  · refine s_run X ok_X12_readStatement 3 1 (pc' := 71) (vs' := [some (.ref p0)]) (st' := [.ref p0]) rfl ?_
    refine s_callV (b := p0) (As := []) (rest := []) X E mv_X12_389 (c_X12_readArea S p0) rfl (ta1 t0_) rfl (by decide) t0_ rfl rfl (Nat.le_of_ble_eq_true rfl) (Nat.le_of_ble_eq_true rfl) (Nat.le_of_ble_eq_true rfl) (dk okd_X12_readStatement 6 rfl) (st' := fun o4 => [.int o4.1]) (fun _ => rfl) (fun o4 => ?_)
    exact s_zret X hr (dk okd_X12_readStatement 7 rfl) rfl rfl
  refine s_tabc (c := 3) (tgt := 75) X (dk okd_X12_readStatement 1 rfl) (by decide) (by decide) rfl (by decide) ?_ (fun n3 => ?_)
  · refine s_run X ok_X12_readStatement 4 1 (pc' := 76) (vs' := [some (.ref p0)]) (st' := [.ref p0]) rfl ?_
    refine s_callV (b := p0) (As := []) (rest := []) X E mv_X12_392 (c_X12_readOutlet S p0) rfl (ta1 t0_) rfl (by decide) t0_ rfl rfl (Nat.le_of_ble_eq_true rfl) (Nat.le_of_ble_eq_true rfl) (Nat.le_of_ble_eq_true rfl) (dk okd_X12_readStatement 8 rfl) (st' := fun o5 => [.int o5.1]) (fun _ => rfl) (fun o5 => ?_)
    exact s_zret X hr (dk okd_X12_readStatement 9 rfl) rfl rfl
  refine s_tabc (c := 4) (tgt := 80) X (dk okd_X12_readStatement 1 rfl) (by decide) (by decide) rfl (by decide) ?_ (fun n4 => ?_)
  · refine s_run X ok_X12_readStatement 5 1 (pc' := 81) (vs' := [some (.ref p0)]) (st' := [.ref p0]) rfl ?_
    refine s_callV (b := p0) (As := []) (rest := []) X E mv_X12_345 (c_X12_advance S p0) rfl (ta1 t0_) rfl (by decide) t0_ rfl rfl (Nat.le_of_ble_eq_true rfl) (Nat.le_of_ble_eq_true rfl) (Nat.le_of_ble_eq_true rfl) (dk okd_X12_readStatement 10 rfl) (st' := fun S6 => []) (fun _ => rfl) (fun S6 => ?_)
    refine s_run X ok_X12_readStatement 6 5 (pc' := 93) (vs' := [some (.ref p0)]) (st' := [.long 1, .int 5000, .int 0, .int 15166, .ref p0]) rfl ?_
    refine s_callV (b := p0) (As := [.int 15166, .int 0, .int 5000, .long 1]) (rest := []) X E mv_X12_355 (c_X12_readInto S6 p0 15166 0 5000 1) rfl (ta1 t0_) rfl (by decide) t0_ rfl rfl (Nat.le_of_ble_eq_true rfl) (Nat.le_of_ble_eq_true rfl) (Nat.le_of_ble_eq_true rfl) (dk okd_X12_readStatement 11 rfl) (st' := fun o7 => [.int o7.1]) (fun _ => rfl) (fun o7 => ?_)
    refine s_jn (κ := St → Option (Int32 × St)) (fun k9 => ∀ (S8 : St), Jd C 1 (QJ C oIS sS) S8 127 [none] [] (k9 S8)) (fun S8 => ?_) (fun k9 h10 => ?_)
    · refine s_run X ok_X12_readStatement 18 1 (pc' := 128) (vs' := [none]) (st' := [.int 0]) rfl ?_
      exact s_zret0 X hr (dk okd_X12_readStatement 18 rfl) (by decide) rfl rfl
    · refine s_if_eq (tgt := 127) X (dk okd_X12_readStatement 12 rfl) (by decide) ?_ ?_
      · exact s_less [false] rfl (h10 o7.2)
      · refine s_run X ok_X12_readStatement 11 4 (pc' := 107) (vs' := [some (.ref p0)]) (st' := [.int 9999, .int 0, .int 15167, .ref p0]) rfl ?_
        refine s_ldc2 X cl_X12_144 (dk okd_X12_readStatement 13 rfl) ?_
        refine s_callV (b := p0) (As := [.int 15167, .int 0, .int 9999, .long 100]) (rest := []) X E mv_X12_355 (c_X12_readInto o7.2 p0 15167 0 9999 100) rfl (ta1 t0_) rfl (by decide) t0_ rfl rfl (Nat.le_of_ble_eq_true rfl) (Nat.le_of_ble_eq_true rfl) (Nat.le_of_ble_eq_true rfl) (dk okd_X12_readStatement 14 rfl) (st' := fun o11 => [.int o11.1]) (fun _ => rfl) (fun o11 => ?_)
        refine s_if_eq (tgt := 127) X (dk okd_X12_readStatement 15 rfl) (by decide) ?_ ?_
        · exact s_less [false] rfl (h10 o11.2)
        · refine s_run X ok_X12_readStatement 15 1 (pc' := 117) (vs' := [some (.ref p0)]) (st' := [.ref p0]) rfl ?_
          refine s_callV (b := p0) (As := []) (rest := []) X E mv_X12_361 (c_X12_readEnd o11.2 p0) rfl (ta1 t0_) rfl (by decide) t0_ rfl rfl (Nat.le_of_ble_eq_true rfl) (Nat.le_of_ble_eq_true rfl) (Nat.le_of_ble_eq_true rfl) (dk okd_X12_readStatement 16 rfl) (st' := fun o12 => [.int o12.1]) (fun _ => rfl) (fun o12 => ?_)
          refine s_if_eq (tgt := 127) X (dk okd_X12_readStatement 17 rfl) (by decide) ?_ ?_
          · exact s_less [false] rfl (h10 o12.2)
          · refine s_run X ok_X12_readStatement 16 2 (pc' := 128) (vs' := [some (.ref p0)]) (st' := [.int 1]) rfl ?_
            exact s_zret0 X hr (dk okd_X12_readStatement 18 rfl) (by decide) rfl rfl
  refine s_tabc (c := 5) (tgt := 129) X (dk okd_X12_readStatement 1 rfl) (by decide) (by decide) rfl (by decide) ?_ (fun n5 => ?_)
  · refine s_run X ok_X12_readStatement 19 4 (pc' := 136) (vs' := [some (.ref p0)]) (st' := [.long 1, .int 500, .int 6, .ref p0]) rfl ?_
    refine s_callV (b := p0) (As := [.int 6, .int 500, .long 1]) (rest := []) X E mv_X12_395 (c_X12_readSetting S p0 6 500 1) rfl (ta1 t0_) rfl (by decide) t0_ rfl rfl (Nat.le_of_ble_eq_true rfl) (Nat.le_of_ble_eq_true rfl) (Nat.le_of_ble_eq_true rfl) (dk okd_X12_readStatement 19 rfl) (st' := fun o13 => [.int o13.1]) (fun _ => rfl) (fun o13 => ?_)
    exact s_zret X hr (dk okd_X12_readStatement 20 rfl) rfl rfl
  refine s_tabc (c := 6) (tgt := 140) X (dk okd_X12_readStatement 1 rfl) (by decide) (by decide) rfl (by decide) ?_ (fun n6 => ?_)
  · refine s_run X ok_X12_readStatement 23 4 (pc' := 147) (vs' := [some (.ref p0)]) (st' := [.long 1, .int 2000, .int 7, .ref p0]) rfl ?_
    refine s_callV (b := p0) (As := [.int 7, .int 2000, .long 1]) (rest := []) X E mv_X12_395 (c_X12_readSetting S p0 7 2000 1) rfl (ta1 t0_) rfl (by decide) t0_ rfl rfl (Nat.le_of_ble_eq_true rfl) (Nat.le_of_ble_eq_true rfl) (Nat.le_of_ble_eq_true rfl) (dk okd_X12_readStatement 21 rfl) (st' := fun o14 => [.int o14.1]) (fun _ => rfl) (fun o14 => ?_)
    exact s_zret X hr (dk okd_X12_readStatement 22 rfl) rfl rfl
  refine s_tabc (c := 7) (tgt := 151) X (dk okd_X12_readStatement 1 rfl) (by decide) (by decide) rfl (by decide) ?_ (fun n7 => ?_)
  · refine s_run X ok_X12_readStatement 27 3 (pc' := 157) (vs' := [some (.ref p0)]) (st' := [.int 9999, .int 8, .ref p0]) rfl ?_
    refine s_ldc2 X cl_X12_144 (dk okd_X12_readStatement 23 rfl) ?_
    refine s_callV (b := p0) (As := [.int 8, .int 9999, .long 100]) (rest := []) X E mv_X12_395 (c_X12_readSetting S p0 8 9999 100) rfl (ta1 t0_) rfl (by decide) t0_ rfl rfl (Nat.le_of_ble_eq_true rfl) (Nat.le_of_ble_eq_true rfl) (Nat.le_of_ble_eq_true rfl) (dk okd_X12_readStatement 24 rfl) (st' := fun o15 => [.int o15.1]) (fun _ => rfl) (fun o15 => ?_)
    exact s_zret X hr (dk okd_X12_readStatement 25 rfl) rfl rfl
  refine s_tabc (c := 8) (tgt := 164) X (dk okd_X12_readStatement 1 rfl) (by decide) (by decide) rfl (by decide) ?_ (fun n8 => ?_)
  · refine s_run X ok_X12_readStatement 30 4 (pc' := 170) (vs' := [some (.ref p0)]) (st' := [.long 1, .int 12, .int 9, .ref p0]) rfl ?_
    refine s_callV (b := p0) (As := [.int 9, .int 12, .long 1]) (rest := []) X E mv_X12_395 (c_X12_readSetting S p0 9 12 1) rfl (ta1 t0_) rfl (by decide) t0_ rfl rfl (Nat.le_of_ble_eq_true rfl) (Nat.le_of_ble_eq_true rfl) (Nat.le_of_ble_eq_true rfl) (dk okd_X12_readStatement 26 rfl) (st' := fun o16 => [.int o16.1]) (fun _ => rfl) (fun o16 => ?_)
    exact s_zret X hr (dk okd_X12_readStatement 27 rfl) rfl rfl
  refine s_tabc (c := 9) (tgt := 174) X (dk okd_X12_readStatement 1 rfl) (by decide) (by decide) rfl (by decide) ?_ (fun n9 => ?_)
  · refine s_run X ok_X12_readStatement 34 4 (pc' := 181) (vs' := [some (.ref p0)]) (st' := [.long 1, .int 999, .int 10, .ref p0]) rfl ?_
    refine s_callV (b := p0) (As := [.int 10, .int 999, .long 1]) (rest := []) X E mv_X12_395 (c_X12_readSetting S p0 10 999 1) rfl (ta1 t0_) rfl (by decide) t0_ rfl rfl (Nat.le_of_ble_eq_true rfl) (Nat.le_of_ble_eq_true rfl) (Nat.le_of_ble_eq_true rfl) (dk okd_X12_readStatement 28 rfl) (st' := fun o17 => [.int o17.1]) (fun _ => rfl) (fun o17 => ?_)
    exact s_zret X hr (dk okd_X12_readStatement 29 rfl) rfl rfl
  refine s_tabd (tgt := 185) X (dk okd_X12_readStatement 1 rfl) (tabout (n := 10) (by decide) (fun j hj => match j, hj with | 0, _ => n0 | 1, _ => n1 | 2, _ => n2 | 3, _ => n3 | 4, _ => n4 | 5, _ => n5 | 6, _ => n6 | 7, _ => n7 | 8, _ => n8 | 9, _ => n9)) (by decide) ?_
  refine s_run X ok_X12_readStatement 38 2 (pc' := 187) (vs' := [some (.ref p0)]) (st' := [.int 1, .ref p0]) rfl ?_
  refine s_callV (b := p0) (As := [.int 1]) (rest := []) X E mv_X12_339 (c_X12_fail S p0 1) rfl (ta1 t0_) rfl (by decide) t0_ rfl rfl (Nat.le_of_ble_eq_true rfl) (Nat.le_of_ble_eq_true rfl) (Nat.le_of_ble_eq_true rfl) (dk okd_X12_readStatement 30 rfl) (st' := fun o18 => [.int o18.1]) (fun _ => rfl) (fun o18 => ?_)
  exact s_zret X hr (dk okd_X12_readStatement 31 rfl) rfl rfl
def tab_X12_beginText : List En := [(0, 8, 0, 0), (1, 0, 0, 0), (5, 8, 0, 0), (6, 0, 0, (-1)), (10, 8, 0, 0), (11, 0, 0, 0), (15, 8, 0, 0)]
theorem ok_X12_beginText : tab_X12_beginText.all (okE cX12_beginText) = true := by decide +kernel
def ed_X12_beginText : List (Nat × Instr × Nat) := [(2, .putfield 302, 3), (7, .putfield 33, 3), (12, .putfield 313, 3), (16, .invokevirtual 345, 3), (19, .return_, 1)]
theorem okd_X12_beginText : ed_X12_beginText.all (okD cX12_beginText) = true := by decide +kernel
def f_X12_beginText (S : St) (p0 : Nat) : Option (St) := lt (uI S p0 11 0) fun (S1 : St) => lt (uI S1 p0 12 (-1)) fun (S2 : St) => lt (uI S2 p0 10 0) fun (S3 : St) => cl (f_X12_advance S3 p0) fun (S4 : St) => some S4
set_option maxHeartbeats 4000000 in
set_option maxRecDepth 100000 in
theorem c_X12_beginText (S : St) (p0 : Nat) : Ct yX12_beginText cX12_beginText 1 none 3 66 (fun _ => [.ref p0]) [(p0, 11)] S (f_X12_beginText S p0) oV sV := by
  refine Ct_of RX12 rfl (by decide) (fun _ => Nat.le_of_ble_eq_true rfl) 0 (vs := fun _ => [some (.ref p0)]) (fun _ => rfl) (fun C X E hr ht => ?_)
  have t0_ : tT C p0 11 := ht (p0, 11) (by simp)
  show Jd C 1 (QJ C oV sV) S 0 [some (.ref p0)] [] (f_X12_beginText S p0)
  unfold f_X12_beginText
  refine s_run X ok_X12_beginText 0 2 (pc' := 2) (vs' := [some (.ref p0)]) (st' := [.int 0, .ref p0]) rfl ?_
  refine s_putI X fp_X12_302 t0_ (dk okd_X12_beginText 0 rfl) (fun S1 => ?_)
  refine s_run X ok_X12_beginText 2 2 (pc' := 7) (vs' := [some (.ref p0)]) (st' := [.int (-1), .ref p0]) rfl ?_
  refine s_putI X fp_X12_33 t0_ (dk okd_X12_beginText 1 rfl) (fun S2 => ?_)
  refine s_run X ok_X12_beginText 4 2 (pc' := 12) (vs' := [some (.ref p0)]) (st' := [.int 0, .ref p0]) rfl ?_
  refine s_putI X fp_X12_313 t0_ (dk okd_X12_beginText 2 rfl) (fun S3 => ?_)
  refine s_run X ok_X12_beginText 6 1 (pc' := 16) (vs' := [some (.ref p0)]) (st' := [.ref p0]) rfl ?_
  refine s_callV (b := p0) (As := []) (rest := []) X E mv_X12_345 (c_X12_advance S3 p0) rfl (ta1 t0_) rfl (by decide) t0_ rfl rfl (Nat.le_of_ble_eq_true rfl) (Nat.le_of_ble_eq_true rfl) (Nat.le_of_ble_eq_true rfl) (dk okd_X12_beginText 3 rfl) (st' := fun S4 => []) (fun _ => rfl) (fun S4 => ?_)
  exact s_vret X hr (dk okd_X12_beginText 4 rfl) rfl rfl
def tab_X12_load : List En := [(0, 8, 0, 0), (1, 0, 0, 0), (5, 8, 0, 0), (6, 0, 0, 3), (10, 8, 0, 0), (14, 0, 0, 0), (15, 10, 1, 0), (16, 8, 0, 0), (23, 8, 0, 0), (30, 8, 0, 0), (37, 16, 1, 1), (40, 41, 16, 0), (43, 8, 0, 0), (44, 0, 0, 0), (48, 8, 0, 0), (55, 1, 0, (-4)), (58, 8, 0, 0), (59, 0, 0, 3), (60, 0, 0, 0), (64, 8, 0, 0), (65, 0, 0, 0), (69, 8, 0, 0), (70, 0, 0, 0), (74, 8, 0, 0), (78, 0, 0, 0), (79, 0, 0, 0), (81, 8, 0, 0), (85, 0, 0, 1), (86, 0, 0, 0), (88, 4, 1, 0)]
theorem ok_X12_load : tab_X12_load.all (okE cX12_load) = true := by decide +kernel
def ed_X12_load : List (Nat × Instr × Nat) := [(2, .putfield 50, 3), (7, .invokevirtual 44, 3), (11, .invokevirtual 399, 3), (17, .getfield 302, 3), (20, .ifCond .ne 23, 3), (24, .getfield 332, 3), (27, .ifCond .eq 16, 3), (31, .invokevirtual 402, 3), (34, .ifCond .eq (-18), 3), (45, .putfield 296, 3), (49, .getfield 302, 3), (52, .ifCond .eq 6, 3), (57, .ireturn, 1), (61, .invokevirtual 57, 3), (66, .putfield 75, 3), (71, .putfield 78, 3), (75, .getfield 13, 3), (80, .bastore, 1), (82, .getfield 13, 3), (87, .bastore, 1), (89, .ireturn, 1)]
theorem okd_X12_load : ed_X12_load.all (okD cX12_load) = true := by decide +kernel
def f_X12_load (S : St) (p0 : Nat) : Option (Int32 × St) := lt (uI S p0 2 0) fun (S1 : St) => cl (f_X12_clearBlock S1 p0 3) fun (S2 : St) => cl (f_X12_beginText S2 p0) fun (S3 : St) => jn (κ := Int32 → St → Option (Int32 × St)) (fun x4 S5 => lt (uI S5 p0 9 0) fun (S8 : St) => lt (gI S8 p0 11) fun (v9 : Int32) => if v9 = 0 then (cl (f_X12_copyBlock S8 p0 3 0) fun (S10 : St) => lt (uI S10 p0 19 0) fun (S11 : St) => lt (uI S11 p0 20 0) fun (S12 : St) => lt (gR S12 p0 1) fun (a13 : Nat) => stI S12 a13 0 (vp_nar .boolean 0) fun (S15 : St) => lt (gR S15 p0 1) fun (a16 : Nat) => stI S15 a16 1 (vp_nar .boolean 0) fun (S18 : St) => some (x4, S18)) else (some ((-4), S8))) fun k6 => lp (κ := Int32 → St → Option (Int32 × St)) (fun _ _ => none) (fun k21 x19 S20 => lt (gI S20 p0 11) fun (v23 : Int32) => if v23 = 0 then (lt (gI S20 p0 13) fun (v24 : Int32) => if v24 = 0 then (k6 x19 S20) else (cl (f_X12_readStatement S20 p0) fun (o25 : Int32 × St) => if o25.1 = 0 then (k21 x19 o25.2) else (k21 (x19 + 1) o25.2))) else (k6 x19 S20)) FU 0 S3
set_option maxHeartbeats 4000000 in
set_option maxRecDepth 100000 in
theorem c_X12_load (S : St) (p0 : Nat) : Ct yX12_load cX12_load 2 (some .int) 7 157 (fun _ => [.ref p0]) [(p0, 11)] S (f_X12_load S p0) oIS sS := by
  refine Ct_of RX12 rfl (by decide) (fun _ => Nat.le_of_ble_eq_true rfl) 1 (vs := fun _ => [some (.ref p0), none]) (fun _ => rfl) (fun C X E hr ht => ?_)
  have t0_ : tT C p0 11 := ht (p0, 11) (by simp)
  show Jd C 2 (QJ C oIS sS) S 0 [some (.ref p0), none] [] (f_X12_load S p0)
  unfold f_X12_load
  refine s_run X ok_X12_load 0 2 (pc' := 2) (vs' := [some (.ref p0), none]) (st' := [.int 0, .ref p0]) rfl ?_
  refine s_putI X fp_X12_50 t0_ (dk okd_X12_load 0 rfl) (fun S1 => ?_)
  refine s_run X ok_X12_load 2 2 (pc' := 7) (vs' := [some (.ref p0), none]) (st' := [.int 3, .ref p0]) rfl ?_
  refine s_callV (b := p0) (As := [.int 3]) (rest := []) X E mv_X12_44 (c_X12_clearBlock S1 p0 3) rfl (ta1 t0_) rfl (by decide) t0_ rfl rfl (Nat.le_of_ble_eq_true rfl) (Nat.le_of_ble_eq_true rfl) (Nat.le_of_ble_eq_true rfl) (dk okd_X12_load 1 rfl) (st' := fun S2 => []) (fun _ => rfl) (fun S2 => ?_)
  refine s_run X ok_X12_load 4 1 (pc' := 11) (vs' := [some (.ref p0), none]) (st' := [.ref p0]) rfl ?_
  refine s_callV (b := p0) (As := []) (rest := []) X E mv_X12_399 (c_X12_beginText S2 p0) rfl (ta1 t0_) rfl (by decide) t0_ rfl rfl (Nat.le_of_ble_eq_true rfl) (Nat.le_of_ble_eq_true rfl) (Nat.le_of_ble_eq_true rfl) (dk okd_X12_load 2 rfl) (st' := fun S3 => []) (fun _ => rfl) (fun S3 => ?_)
  refine s_run X ok_X12_load 5 2 (pc' := 16) (vs' := [some (.ref p0), some (.int 0)]) (st' := []) rfl ?_
  refine s_jn (κ := Int32 → St → Option (Int32 × St)) (fun k6 => ∀ (x4 : Int32) (S5 : St), Jd C 2 (QJ C oIS sS) S5 43 [some (.ref p0), some (.int x4)] [] (k6 x4 S5)) (fun x4 S5 => ?_) (fun k6 h7 => ?_)
  · refine s_run X ok_X12_load 12 2 (pc' := 45) (vs' := [some (.ref p0), some (.int x4)]) (st' := [.int 0, .ref p0]) rfl ?_
    refine s_putI X fp_X12_296 t0_ (dk okd_X12_load 9 rfl) (fun S8 => ?_)
    refine s_run X ok_X12_load 14 1 (pc' := 49) (vs' := [some (.ref p0), some (.int x4)]) (st' := [.ref p0]) rfl ?_
    refine s_getI X fl_X12_302 t0_ (dk okd_X12_load 10 rfl) (fun v9 => ?_)
    refine s_if_eq (tgt := 58) X (dk okd_X12_load 11 rfl) (by decide) ?_ ?_
    · refine s_run X ok_X12_load 16 3 (pc' := 61) (vs' := [some (.ref p0), some (.int x4)]) (st' := [.int 0, .int 3, .ref p0]) rfl ?_
      refine s_callV (b := p0) (As := [.int 3, .int 0]) (rest := []) X E mv_X12_57 (c_X12_copyBlock S8 p0 3 0) rfl (ta1 t0_) rfl (by decide) t0_ rfl rfl (Nat.le_of_ble_eq_true rfl) (Nat.le_of_ble_eq_true rfl) (Nat.le_of_ble_eq_true rfl) (dk okd_X12_load 13 rfl) (st' := fun S10 => []) (fun _ => rfl) (fun S10 => ?_)
      refine s_run X ok_X12_load 19 2 (pc' := 66) (vs' := [some (.ref p0), some (.int x4)]) (st' := [.int 0, .ref p0]) rfl ?_
      refine s_putI X fp_X12_75 t0_ (dk okd_X12_load 14 rfl) (fun S11 => ?_)
      refine s_run X ok_X12_load 21 2 (pc' := 71) (vs' := [some (.ref p0), some (.int x4)]) (st' := [.int 0, .ref p0]) rfl ?_
      refine s_putI X fp_X12_78 t0_ (dk okd_X12_load 15 rfl) (fun S12 => ?_)
      refine s_run X ok_X12_load 23 1 (pc' := 75) (vs' := [some (.ref p0), some (.int x4)]) (st' := [.ref p0]) rfl ?_
      refine s_getR X fl_X12_13 t0_ (dk okd_X12_load 16 rfl) (fun a13 (t14 : tT C a13 15) => ?_)
      refine s_run X ok_X12_load 24 2 (pc' := 80) (vs' := [some (.ref p0), some (.int x4)]) (st' := [.int 0, .int 0, .ref a13]) rfl ?_
      refine s_zast X t14 (dk okd_X12_load 17 rfl) (fun S15 => ?_)
      refine s_run X ok_X12_load 26 1 (pc' := 82) (vs' := [some (.ref p0), some (.int x4)]) (st' := [.ref p0]) rfl ?_
      refine s_getR X fl_X12_13 t0_ (dk okd_X12_load 18 rfl) (fun a16 (t17 : tT C a16 15) => ?_)
      refine s_run X ok_X12_load 27 2 (pc' := 87) (vs' := [some (.ref p0), some (.int x4)]) (st' := [.int 0, .int 1, .ref a16]) rfl ?_
      refine s_zast X t17 (dk okd_X12_load 19 rfl) (fun S18 => ?_)
      refine s_run X ok_X12_load 29 1 (pc' := 89) (vs' := [some (.ref p0), some (.int x4)]) (st' := [.int x4]) rfl ?_
      exact s_iret X hr (dk okd_X12_load 20 rfl) rfl rfl
    · refine s_run X ok_X12_load 15 1 (pc' := 57) (vs' := [some (.ref p0), some (.int x4)]) (st' := [.int (-4)]) rfl ?_
      exact s_iret X hr (dk okd_X12_load 12 rfl) rfl rfl
  · refine s_lp (κ := Int32 → St → Option (Int32 × St)) (fun k21 => ∀ (x19 : Int32) (S20 : St), Jd C 2 (QJ C oIS sS) S20 16 [some (.ref p0), some (.int x19)] [] (k21 x19 S20)) (fun _ _ => s_none) (fun k21 h22 x19 S20 => ?_) FU 0 S3
    refine s_run X ok_X12_load 7 1 (pc' := 17) (vs' := [some (.ref p0), some (.int x19)]) (st' := [.ref p0]) rfl ?_
    refine s_getI X fl_X12_302 t0_ (dk okd_X12_load 3 rfl) (fun v23 => ?_)
    refine s_if_ne (tgt := 43) X (dk okd_X12_load 4 rfl) (by decide) ?_ ?_
    · exact h7 x19 S20
    · refine s_run X ok_X12_load 8 1 (pc' := 24) (vs' := [some (.ref p0), some (.int x19)]) (st' := [.ref p0]) rfl ?_
      refine s_getI X fl_X12_332 t0_ (dk okd_X12_load 5 rfl) (fun v24 => ?_)
      refine s_if_eq (tgt := 43) X (dk okd_X12_load 6 rfl) (by decide) ?_ ?_
      · exact h7 x19 S20
      · refine s_run X ok_X12_load 9 1 (pc' := 31) (vs' := [some (.ref p0), some (.int x19)]) (st' := [.ref p0]) rfl ?_
        refine s_callV (b := p0) (As := []) (rest := []) X E mv_X12_402 (c_X12_readStatement S20 p0) rfl (ta1 t0_) rfl (by decide) t0_ rfl rfl (Nat.le_of_ble_eq_true rfl) (Nat.le_of_ble_eq_true rfl) (Nat.le_of_ble_eq_true rfl) (dk okd_X12_load 7 rfl) (st' := fun o25 => [.int o25.1]) (fun _ => rfl) (fun o25 => ?_)
        refine s_if_eq (tgt := 16) X (dk okd_X12_load 8 rfl) (by decide) ?_ ?_
        · exact h22 x19 o25.2
        · refine s_run X ok_X12_load 10 2 (pc' := 16) (vs' := [some (.ref p0), some (.int (x19 + 1))]) (st' := []) rfl ?_
          exact h22 (x19 + 1) o25.2
def tab_X12_entryKind : List En := [(0, 8, 0, 0), (4, 0, 0, 1), (8, 0, 0, (-1)), (10, 8, 0, 0), (14, 1, 0, 115), (16, 1, 0, 97), (18, 1, 0, 108), (20, 1, 0, 101), (22, 1, 0, 115), (27, 40, 0, 0), (31, 0, 0, 0), (33, 8, 0, 0), (37, 1, 0, 100), (39, 1, 0, 101), (41, 1, 0, 108), (43, 1, 0, 105), (45, 1, 0, 118), (53, 25, 0, 0), (54, 1, 0, 101), (56, 1, 0, 114), (58, 0, 0, 0), (59, 0, 0, 0), (60, 0, 0, 0), (64, 23, 0, 0), (65, 40, 0, 0), (69, 0, 0, 1), (71, 8, 0, 0), (75, 1, 0, 112), (77, 1, 0, 97), (79, 1, 0, 121), (81, 0, 0, 0), (82, 0, 0, 0), (86, 40, 0, 0), (90, 0, 0, 2), (92, 8, 0, 0), (96, 1, 0, 103), (98, 1, 0, 114), (100, 1, 0, 97), (102, 1, 0, 110), (104, 1, 0, 116), (109, 40, 0, 0), (113, 0, 0, 3), (115, 8, 0, 0), (119, 1, 0, 99), (121, 1, 0, 97), (123, 1, 0, 109), (125, 1, 0, 112), (127, 1, 0, 97), (135, 25, 0, 0), (136, 1, 0, 105), (138, 1, 0, 103), (140, 1, 0, 110), (142, 0, 0, 0), (143, 0, 0, 0), (147, 23, 0, 0), (148, 40, 0, 0), (152, 0, 0, 4), (154, 8, 0, 0), (158, 1, 0, 118), (160, 1, 0, 111), (162, 1, 0, 116), (164, 1, 0, 101), (166, 0, 0, 0), (170, 40, 0, 0), (174, 0, 0, 5), (176, 8, 0, 0), (180, 1, 0, 99), (182, 1, 0, 108), (184, 1, 0, 111), (186, 1, 0, 115), (188, 1, 0, 101), (193, 40, 0, 0), (197, 1, 0, 6), (199, 41, 203, 0), (202, 0, 0, (-1))]
theorem ok_X12_entryKind : tab_X12_entryKind.all (okE cX12_entryKind) = true := by decide +kernel
def ed_X12_entryKind : List (Nat × Instr × Nat) := [(1, .getfield 332, 3), (5, .if_icmp .eq 5, 3), (9, .ireturn, 1), (11, .getfield 322, 3), (24, .invokestatic 278, 3), (28, .ifCond .ne 5, 3), (32, .ireturn, 1), (34, .getfield 322, 3), (47, .invokestatic 278, 3), (50, .ldc2_w 282, 3), (61, .invokestatic 278, 3), (66, .ifCond .ne 5, 3), (70, .ireturn, 1), (72, .getfield 322, 3), (83, .invokestatic 278, 3), (87, .ifCond .ne 5, 3), (91, .ireturn, 1), (93, .getfield 322, 3), (106, .invokestatic 278, 3), (110, .ifCond .ne 5, 3), (114, .ireturn, 1), (116, .getfield 322, 3), (129, .invokestatic 278, 3), (132, .ldc2_w 284, 3), (144, .invokestatic 278, 3), (149, .ifCond .ne 5, 3), (153, .ireturn, 1), (155, .getfield 322, 3), (167, .invokestatic 278, 3), (171, .ifCond .ne 5, 3), (175, .ireturn, 1), (177, .getfield 322, 3), (190, .invokestatic 278, 3), (194, .ifCond .ne 8, 3), (203, .ireturn, 1)]
theorem okd_X12_entryKind : ed_X12_entryKind.all (okD cX12_entryKind) = true := by decide +kernel
def f_X12_entryKind (S : St) (p0 : Nat) : Option (Int32) := lt (gI S p0 13) fun (v1 : Int32) => if v1 = 1 then (lt (gJ S p0 16) fun (v2 : Int64) => cl (f_X12_pack S 115 97 108 101 115) fun (v3 : Int64) => if v2 = v3 then (some 0) else (lt (gJ S p0 16) fun (v4 : Int64) => cl (f_X12_pack S 100 101 108 105 118) fun (v5 : Int64) => cl (f_X12_pack S 101 114 0 0 0) fun (v6 : Int64) => if v4 = ((v5 * 1024) + v6) then (some 1) else (lt (gJ S p0 16) fun (v7 : Int64) => cl (f_X12_pack S 112 97 121 0 0) fun (v8 : Int64) => if v7 = v8 then (some 2) else (lt (gJ S p0 16) fun (v9 : Int64) => cl (f_X12_pack S 103 114 97 110 116) fun (v10 : Int64) => if v9 = v10 then (some 3) else (lt (gJ S p0 16) fun (v11 : Int64) => cl (f_X12_pack S 99 97 109 112 97) fun (v12 : Int64) => cl (f_X12_pack S 105 103 110 0 0) fun (v13 : Int64) => if v11 = ((v12 * 32768) + v13) then (some 4) else (lt (gJ S p0 16) fun (v14 : Int64) => cl (f_X12_pack S 118 111 116 101 0) fun (v15 : Int64) => if v14 = v15 then (some 5) else (lt (gJ S p0 16) fun (v16 : Int64) => cl (f_X12_pack S 99 108 111 115 101) fun (v17 : Int64) => if v16 = v17 then (some 6) else (some (-1))))))))) else (some (-1))
set_option maxHeartbeats 4000000 in
set_option maxRecDepth 100000 in
theorem c_X12_entryKind (S : St) (p0 : Nat) : Ct yX12_entryKind cX12_entryKind 1 (some .int) 1 26 (fun _ => [.ref p0]) [(p0, 11)] S (f_X12_entryKind S p0) oI (fun _ => S) := by
  refine Ct_of RX12 rfl (by decide) (fun _ => Nat.le_of_ble_eq_true rfl) 0 (vs := fun _ => [some (.ref p0)]) (fun _ => rfl) (fun C X E hr ht => ?_)
  have t0_ : tT C p0 11 := ht (p0, 11) (by simp)
  show Jd C 1 (QJ C oI (fun _ => S)) S 0 [some (.ref p0)] [] (f_X12_entryKind S p0)
  unfold f_X12_entryKind
  refine s_run X ok_X12_entryKind 0 1 (pc' := 1) (vs' := [some (.ref p0)]) (st' := [.ref p0]) rfl ?_
  refine s_getI X fl_X12_332 t0_ (dk okd_X12_entryKind 0 rfl) (fun v1 => ?_)
  refine s_run X ok_X12_entryKind 1 1 (pc' := 5) (vs' := [some (.ref p0)]) (st' := [.int 1, .int v1]) rfl ?_
  refine s_icmp_eq (tgt := 10) X (dk okd_X12_entryKind 1 rfl) (by decide) ?_ ?_
  · refine s_run X ok_X12_entryKind 3 1 (pc' := 11) (vs' := [some (.ref p0)]) (st' := [.ref p0]) rfl ?_
    refine s_getJ X fl_X12_322 t0_ (dk okd_X12_entryKind 3 rfl) (fun v2 => ?_)
    refine s_run X ok_X12_entryKind 4 5 (pc' := 24) (vs' := [some (.ref p0)]) (st' := [.int 115, .int 101, .int 108, .int 97, .int 115, .long v2]) rfl ?_
    refine s_callS (As := [.int 115, .int 97, .int 108, .int 101, .int 115]) (rest := [.long v2]) X E ms_X12_278 (c_X12_pack S 115 97 108 101 115) rfl (ta0) rfl rfl (Nat.le_of_ble_eq_true rfl) (Nat.le_of_ble_eq_true rfl) (Nat.le_of_ble_eq_true rfl) (dk okd_X12_entryKind 4 rfl) (st' := fun v3 => [.long v3, .long v2]) (fun _ => rfl) (fun v3 => ?_)
    refine s_run X ok_X12_entryKind 9 1 (pc' := 28) (vs' := [some (.ref p0)]) (st' := [.int (lg_cmp v2 v3)]) rfl ?_
    refine s_lif_ne (tgt := 33) X (dk okd_X12_entryKind 5 rfl) (by decide) ?_ ?_
    · refine s_run X ok_X12_entryKind 11 1 (pc' := 34) (vs' := [some (.ref p0)]) (st' := [.ref p0]) rfl ?_
      refine s_getJ X fl_X12_322 t0_ (dk okd_X12_entryKind 7 rfl) (fun v4 => ?_)
      refine s_run X ok_X12_entryKind 12 5 (pc' := 47) (vs' := [some (.ref p0)]) (st' := [.int 118, .int 105, .int 108, .int 101, .int 100, .long v4]) rfl ?_
      refine s_callS (As := [.int 100, .int 101, .int 108, .int 105, .int 118]) (rest := [.long v4]) X E ms_X12_278 (c_X12_pack S 100 101 108 105 118) rfl (ta0) rfl rfl (Nat.le_of_ble_eq_true rfl) (Nat.le_of_ble_eq_true rfl) (Nat.le_of_ble_eq_true rfl) (dk okd_X12_entryKind 8 rfl) (st' := fun v5 => [.long v5, .long v4]) (fun _ => rfl) (fun v5 => ?_)
      refine s_ldc2 X cl_X12_282 (dk okd_X12_entryKind 9 rfl) ?_
      refine s_run X ok_X12_entryKind 17 6 (pc' := 61) (vs' := [some (.ref p0)]) (st' := [.int 0, .int 0, .int 0, .int 114, .int 101, .long (v5 * 1024), .long v4]) rfl ?_
      refine s_callS (As := [.int 101, .int 114, .int 0, .int 0, .int 0]) (rest := [.long (v5 * 1024), .long v4]) X E ms_X12_278 (c_X12_pack S 101 114 0 0 0) rfl (ta0) rfl rfl (Nat.le_of_ble_eq_true rfl) (Nat.le_of_ble_eq_true rfl) (Nat.le_of_ble_eq_true rfl) (dk okd_X12_entryKind 10 rfl) (st' := fun v6 => [.long v6, .long (v5 * 1024), .long v4]) (fun _ => rfl) (fun v6 => ?_)
      refine s_run X ok_X12_entryKind 23 2 (pc' := 66) (vs' := [some (.ref p0)]) (st' := [.int (lg_cmp v4 ((v5 * 1024) + v6))]) rfl ?_
      refine s_lif_ne (tgt := 71) X (dk okd_X12_entryKind 11 rfl) (by decide) ?_ ?_
      · refine s_run X ok_X12_entryKind 26 1 (pc' := 72) (vs' := [some (.ref p0)]) (st' := [.ref p0]) rfl ?_
        refine s_getJ X fl_X12_322 t0_ (dk okd_X12_entryKind 13 rfl) (fun v7 => ?_)
        refine s_run X ok_X12_entryKind 27 5 (pc' := 83) (vs' := [some (.ref p0)]) (st' := [.int 0, .int 0, .int 121, .int 97, .int 112, .long v7]) rfl ?_
        refine s_callS (As := [.int 112, .int 97, .int 121, .int 0, .int 0]) (rest := [.long v7]) X E ms_X12_278 (c_X12_pack S 112 97 121 0 0) rfl (ta0) rfl rfl (Nat.le_of_ble_eq_true rfl) (Nat.le_of_ble_eq_true rfl) (Nat.le_of_ble_eq_true rfl) (dk okd_X12_entryKind 14 rfl) (st' := fun v8 => [.long v8, .long v7]) (fun _ => rfl) (fun v8 => ?_)
        refine s_run X ok_X12_entryKind 32 1 (pc' := 87) (vs' := [some (.ref p0)]) (st' := [.int (lg_cmp v7 v8)]) rfl ?_
        refine s_lif_ne (tgt := 92) X (dk okd_X12_entryKind 15 rfl) (by decide) ?_ ?_
        · refine s_run X ok_X12_entryKind 34 1 (pc' := 93) (vs' := [some (.ref p0)]) (st' := [.ref p0]) rfl ?_
          refine s_getJ X fl_X12_322 t0_ (dk okd_X12_entryKind 17 rfl) (fun v9 => ?_)
          refine s_run X ok_X12_entryKind 35 5 (pc' := 106) (vs' := [some (.ref p0)]) (st' := [.int 116, .int 110, .int 97, .int 114, .int 103, .long v9]) rfl ?_
          refine s_callS (As := [.int 103, .int 114, .int 97, .int 110, .int 116]) (rest := [.long v9]) X E ms_X12_278 (c_X12_pack S 103 114 97 110 116) rfl (ta0) rfl rfl (Nat.le_of_ble_eq_true rfl) (Nat.le_of_ble_eq_true rfl) (Nat.le_of_ble_eq_true rfl) (dk okd_X12_entryKind 18 rfl) (st' := fun v10 => [.long v10, .long v9]) (fun _ => rfl) (fun v10 => ?_)
          refine s_run X ok_X12_entryKind 40 1 (pc' := 110) (vs' := [some (.ref p0)]) (st' := [.int (lg_cmp v9 v10)]) rfl ?_
          refine s_lif_ne (tgt := 115) X (dk okd_X12_entryKind 19 rfl) (by decide) ?_ ?_
          · refine s_run X ok_X12_entryKind 42 1 (pc' := 116) (vs' := [some (.ref p0)]) (st' := [.ref p0]) rfl ?_
            refine s_getJ X fl_X12_322 t0_ (dk okd_X12_entryKind 21 rfl) (fun v11 => ?_)
            refine s_run X ok_X12_entryKind 43 5 (pc' := 129) (vs' := [some (.ref p0)]) (st' := [.int 97, .int 112, .int 109, .int 97, .int 99, .long v11]) rfl ?_
            refine s_callS (As := [.int 99, .int 97, .int 109, .int 112, .int 97]) (rest := [.long v11]) X E ms_X12_278 (c_X12_pack S 99 97 109 112 97) rfl (ta0) rfl rfl (Nat.le_of_ble_eq_true rfl) (Nat.le_of_ble_eq_true rfl) (Nat.le_of_ble_eq_true rfl) (dk okd_X12_entryKind 22 rfl) (st' := fun v12 => [.long v12, .long v11]) (fun _ => rfl) (fun v12 => ?_)
            refine s_ldc2 X cl_X12_284 (dk okd_X12_entryKind 23 rfl) ?_
            refine s_run X ok_X12_entryKind 48 6 (pc' := 144) (vs' := [some (.ref p0)]) (st' := [.int 0, .int 0, .int 110, .int 103, .int 105, .long (v12 * 32768), .long v11]) rfl ?_
            refine s_callS (As := [.int 105, .int 103, .int 110, .int 0, .int 0]) (rest := [.long (v12 * 32768), .long v11]) X E ms_X12_278 (c_X12_pack S 105 103 110 0 0) rfl (ta0) rfl rfl (Nat.le_of_ble_eq_true rfl) (Nat.le_of_ble_eq_true rfl) (Nat.le_of_ble_eq_true rfl) (dk okd_X12_entryKind 24 rfl) (st' := fun v13 => [.long v13, .long (v12 * 32768), .long v11]) (fun _ => rfl) (fun v13 => ?_)
            refine s_run X ok_X12_entryKind 54 2 (pc' := 149) (vs' := [some (.ref p0)]) (st' := [.int (lg_cmp v11 ((v12 * 32768) + v13))]) rfl ?_
            refine s_lif_ne (tgt := 154) X (dk okd_X12_entryKind 25 rfl) (by decide) ?_ ?_
            · refine s_run X ok_X12_entryKind 57 1 (pc' := 155) (vs' := [some (.ref p0)]) (st' := [.ref p0]) rfl ?_
              refine s_getJ X fl_X12_322 t0_ (dk okd_X12_entryKind 27 rfl) (fun v14 => ?_)
              refine s_run X ok_X12_entryKind 58 5 (pc' := 167) (vs' := [some (.ref p0)]) (st' := [.int 0, .int 101, .int 116, .int 111, .int 118, .long v14]) rfl ?_
              refine s_callS (As := [.int 118, .int 111, .int 116, .int 101, .int 0]) (rest := [.long v14]) X E ms_X12_278 (c_X12_pack S 118 111 116 101 0) rfl (ta0) rfl rfl (Nat.le_of_ble_eq_true rfl) (Nat.le_of_ble_eq_true rfl) (Nat.le_of_ble_eq_true rfl) (dk okd_X12_entryKind 28 rfl) (st' := fun v15 => [.long v15, .long v14]) (fun _ => rfl) (fun v15 => ?_)
              refine s_run X ok_X12_entryKind 63 1 (pc' := 171) (vs' := [some (.ref p0)]) (st' := [.int (lg_cmp v14 v15)]) rfl ?_
              refine s_lif_ne (tgt := 176) X (dk okd_X12_entryKind 29 rfl) (by decide) ?_ ?_
              · refine s_run X ok_X12_entryKind 65 1 (pc' := 177) (vs' := [some (.ref p0)]) (st' := [.ref p0]) rfl ?_
                refine s_getJ X fl_X12_322 t0_ (dk okd_X12_entryKind 31 rfl) (fun v16 => ?_)
                refine s_run X ok_X12_entryKind 66 5 (pc' := 190) (vs' := [some (.ref p0)]) (st' := [.int 101, .int 115, .int 111, .int 108, .int 99, .long v16]) rfl ?_
                refine s_callS (As := [.int 99, .int 108, .int 111, .int 115, .int 101]) (rest := [.long v16]) X E ms_X12_278 (c_X12_pack S 99 108 111 115 101) rfl (ta0) rfl rfl (Nat.le_of_ble_eq_true rfl) (Nat.le_of_ble_eq_true rfl) (Nat.le_of_ble_eq_true rfl) (dk okd_X12_entryKind 32 rfl) (st' := fun v17 => [.long v17, .long v16]) (fun _ => rfl) (fun v17 => ?_)
                refine s_run X ok_X12_entryKind 71 1 (pc' := 194) (vs' := [some (.ref p0)]) (st' := [.int (lg_cmp v16 v17)]) rfl ?_
                refine s_lif_ne (tgt := 202) X (dk okd_X12_entryKind 33 rfl) (by decide) ?_ ?_
                · refine s_run X ok_X12_entryKind 74 1 (pc' := 203) (vs' := [some (.ref p0)]) (st' := [.int (-1)]) rfl ?_
                  exact s_iret X hr (dk okd_X12_entryKind 34 rfl) rfl rfl
                · refine s_run X ok_X12_entryKind 72 2 (pc' := 203) (vs' := [some (.ref p0)]) (st' := [.int 6]) rfl ?_
                  exact s_iret X hr (dk okd_X12_entryKind 34 rfl) rfl rfl
              · refine s_run X ok_X12_entryKind 64 1 (pc' := 175) (vs' := [some (.ref p0)]) (st' := [.int 5]) rfl ?_
                exact s_iret X hr (dk okd_X12_entryKind 30 rfl) rfl rfl
            · refine s_run X ok_X12_entryKind 56 1 (pc' := 153) (vs' := [some (.ref p0)]) (st' := [.int 4]) rfl ?_
              exact s_iret X hr (dk okd_X12_entryKind 26 rfl) rfl rfl
          · refine s_run X ok_X12_entryKind 41 1 (pc' := 114) (vs' := [some (.ref p0)]) (st' := [.int 3]) rfl ?_
            exact s_iret X hr (dk okd_X12_entryKind 20 rfl) rfl rfl
        · refine s_run X ok_X12_entryKind 33 1 (pc' := 91) (vs' := [some (.ref p0)]) (st' := [.int 2]) rfl ?_
          exact s_iret X hr (dk okd_X12_entryKind 16 rfl) rfl rfl
      · refine s_run X ok_X12_entryKind 25 1 (pc' := 70) (vs' := [some (.ref p0)]) (st' := [.int 1]) rfl ?_
        exact s_iret X hr (dk okd_X12_entryKind 12 rfl) rfl rfl
    · refine s_run X ok_X12_entryKind 10 1 (pc' := 32) (vs' := [some (.ref p0)]) (st' := [.int 0]) rfl ?_
      exact s_iret X hr (dk okd_X12_entryKind 6 rfl) rfl rfl
  · refine s_run X ok_X12_entryKind 2 1 (pc' := 9) (vs' := [some (.ref p0)]) (st' := [.int (-1)]) rfl ?_
    exact s_iret X hr (dk okd_X12_entryKind 2 rfl) rfl rfl
def tab_X12_readPart : List En := [(0, 8, 0, 0), (1, 4, 2, 0), (2, 4, 3, 0), (9, 0, 0, 0), (11, 8, 0, 0), (15, 4, 1, 0), (16, 8, 0, 0), (21, 0, 0, 1)]
theorem ok_X12_readPart : tab_X12_readPart.all (okE cX12_readPart) = true := by decide +kernel
def ed_X12_readPart : List (Nat × Instr × Nat) := [(3, .invokevirtual 348, 3), (6, .ifCond .ne 5, 3), (10, .ireturn, 1), (12, .getfield 41, 3), (17, .getfield 342, 3), (20, .iastore, 1), (22, .ireturn, 1)]
theorem okd_X12_readPart : ed_X12_readPart.all (okD cX12_readPart) = true := by decide +kernel
def f_X12_readPart (S : St) (p0 : Nat) (p1 : Int32) (p2 : Int32) (p3 : Int32) : Option (Int32 × St) := cl (f_X12_readNumber S p0 p2 p3) fun (o1 : Int32 × St) => if o1.1 = 0 then (some (0, o1.2)) else (lt (gR o1.2 p0 18) fun (a2 : Nat) => lt (gI o1.2 p0 15) fun (v4 : Int32) => stI o1.2 a2 p1 v4 fun (S5 : St) => some (1, S5))
set_option maxHeartbeats 4000000 in
set_option maxRecDepth 100000 in
theorem c_X12_readPart (S : St) (p0 : Nat) (p1 : Int32) (p2 : Int32) (p3 : Int32) : Ct yX12_readPart cX12_readPart 4 (some .boolean) 4 88 (fun _ => [.ref p0, .int p1, .int p2, .int p3]) [(p0, 11)] S (f_X12_readPart S p0 p1 p2 p3) oIS sS := by
  refine Ct_of RX12 rfl (by decide) (fun _ => Nat.le_of_ble_eq_true rfl) 0 (vs := fun _ => [some (.ref p0), some (.int p1), some (.int p2), some (.int p3)]) (fun _ => rfl) (fun C X E hr ht => ?_)
  have t0_ : tT C p0 11 := ht (p0, 11) (by simp)
  show Jd C 4 (QJ C oIS sS) S 0 [some (.ref p0), some (.int p1), some (.int p2), some (.int p3)] [] (f_X12_readPart S p0 p1 p2 p3)
  unfold f_X12_readPart
  refine s_run X ok_X12_readPart 0 3 (pc' := 3) (vs' := [some (.ref p0), some (.int p1), some (.int p2), some (.int p3)]) (st' := [.int p3, .int p2, .ref p0]) rfl ?_
  refine s_callV (b := p0) (As := [.int p2, .int p3]) (rest := []) X E mv_X12_348 (c_X12_readNumber S p0 p2 p3) rfl (ta1 t0_) rfl (by decide) t0_ rfl rfl (Nat.le_of_ble_eq_true rfl) (Nat.le_of_ble_eq_true rfl) (Nat.le_of_ble_eq_true rfl) (dk okd_X12_readPart 0 rfl) (st' := fun o1 => [.int o1.1]) (fun _ => rfl) (fun o1 => ?_)
  refine s_if_ne (tgt := 11) X (dk okd_X12_readPart 1 rfl) (by decide) ?_ ?_
  · refine s_run X ok_X12_readPart 4 1 (pc' := 12) (vs' := [some (.ref p0), some (.int p1), some (.int p2), some (.int p3)]) (st' := [.ref p0]) rfl ?_
    refine s_getR X fl_X12_41 t0_ (dk okd_X12_readPart 3 rfl) (fun a2 (t3 : tT C a2 13) => ?_)
    refine s_run X ok_X12_readPart 5 2 (pc' := 17) (vs' := [some (.ref p0), some (.int p1), some (.int p2), some (.int p3)]) (st' := [.ref p0, .int p1, .ref a2]) rfl ?_
    refine s_getI X fl_X12_342 t0_ (dk okd_X12_readPart 4 rfl) (fun v4 => ?_)
    refine s_iast X t3 (dk okd_X12_readPart 5 rfl) (fun S5 => ?_)
    refine s_run X ok_X12_readPart 7 1 (pc' := 22) (vs' := [some (.ref p0), some (.int p1), some (.int p2), some (.int p3)]) (st' := [.int 1]) rfl ?_
    exact s_zret0 X hr (dk okd_X12_readPart 6 rfl) (by decide) rfl rfl
  · refine s_run X ok_X12_readPart 3 1 (pc' := 10) (vs' := [some (.ref p0), some (.int p1), some (.int p2), some (.int p3)]) (st' := [.int 0]) rfl ?_
    exact s_zret0 X hr (dk okd_X12_readPart 2 rfl) (by decide) rfl rfl
def tab_X12_readWho : List En := [(0, 8, 0, 0), (4, 4, 1, 0), (5, 8, 0, 0), (6, 0, 0, 0), (11, 8, 0, 0), (15, 4, 1, 0), (17, 0, 0, (-1)), (21, 0, 0, 1), (22, 41, 26, 0), (25, 0, 0, 0)]
theorem ok_X12_readWho : tab_X12_readWho.all (okE cX12_readWho) = true := by decide +kernel
def ed_X12_readWho : List (Nat × Instr × Nat) := [(1, .getfield 41, 3), (7, .invokevirtual 374, 3), (10, .iastore, 1), (12, .getfield 41, 3), (16, .iaload, 1), (18, .if_icmp .eq 7, 3), (26, .ireturn, 1)]
theorem okd_X12_readWho : ed_X12_readWho.all (okD cX12_readWho) = true := by decide +kernel
def f_X12_readWho (S : St) (p0 : Nat) (p1 : Int32) : Option (Int32 × St) := lt (gR S p0 18) fun (a1 : Nat) => cl (f_X12_readName S p0 0) fun (o3 : Int32 × St) => stI o3.2 a1 p1 o3.1 fun (S4 : St) => lt (gR S4 p0 18) fun (a5 : Nat) => ldI S4 a5 p1 fun (v7 : Int32) => if v7 = (-1) then (some (0, S4)) else (some (1, S4))
set_option maxHeartbeats 4000000 in
set_option maxRecDepth 100000 in
theorem c_X12_readWho (S : St) (p0 : Nat) (p1 : Int32) : Ct yX12_readWho cX12_readWho 2 (some .boolean) 4 89 (fun _ => [.ref p0, .int p1]) [(p0, 11)] S (f_X12_readWho S p0 p1) oIS sS := by
  refine Ct_of RX12 rfl (by decide) (fun _ => Nat.le_of_ble_eq_true rfl) 0 (vs := fun _ => [some (.ref p0), some (.int p1)]) (fun _ => rfl) (fun C X E hr ht => ?_)
  have t0_ : tT C p0 11 := ht (p0, 11) (by simp)
  show Jd C 2 (QJ C oIS sS) S 0 [some (.ref p0), some (.int p1)] [] (f_X12_readWho S p0 p1)
  unfold f_X12_readWho
  refine s_run X ok_X12_readWho 0 1 (pc' := 1) (vs' := [some (.ref p0), some (.int p1)]) (st' := [.ref p0]) rfl ?_
  refine s_getR X fl_X12_41 t0_ (dk okd_X12_readWho 0 rfl) (fun a1 (t2 : tT C a1 13) => ?_)
  refine s_run X ok_X12_readWho 1 3 (pc' := 7) (vs' := [some (.ref p0), some (.int p1)]) (st' := [.int 0, .ref p0, .int p1, .ref a1]) rfl ?_
  refine s_callV (b := p0) (As := [.int 0]) (rest := [.int p1, .ref a1]) X E mv_X12_374 (c_X12_readName S p0 0) rfl (ta1 t0_) rfl (by decide) t0_ rfl rfl (Nat.le_of_ble_eq_true rfl) (Nat.le_of_ble_eq_true rfl) (Nat.le_of_ble_eq_true rfl) (dk okd_X12_readWho 1 rfl) (st' := fun o3 => [.int o3.1, .int p1, .ref a1]) (fun _ => rfl) (fun o3 => ?_)
  refine s_iast X t2 (dk okd_X12_readWho 2 rfl) (fun S4 => ?_)
  refine s_run X ok_X12_readWho 4 1 (pc' := 12) (vs' := [some (.ref p0), some (.int p1)]) (st' := [.ref p0]) rfl ?_
  refine s_getR X fl_X12_41 t0_ (dk okd_X12_readWho 3 rfl) (fun a5 (t6 : tT C a5 13) => ?_)
  refine s_run X ok_X12_readWho 5 1 (pc' := 16) (vs' := [some (.ref p0), some (.int p1)]) (st' := [.int p1, .ref a5]) rfl ?_
  refine s_iald X t6 (dk okd_X12_readWho 4 rfl) (fun v7 => ?_)
  refine s_run X ok_X12_readWho 6 1 (pc' := 18) (vs' := [some (.ref p0), some (.int p1)]) (st' := [.int (-1), .int v7]) rfl ?_
  refine s_icmp_eq (tgt := 25) X (dk okd_X12_readWho 5 rfl) (by decide) ?_ ?_
  · refine s_run X ok_X12_readWho 9 1 (pc' := 26) (vs' := [some (.ref p0), some (.int p1)]) (st' := [.int 0]) rfl ?_
    exact s_zret0 X hr (dk okd_X12_readWho 6 rfl) (by decide) rfl rfl
  · refine s_run X ok_X12_readWho 7 2 (pc' := 26) (vs' := [some (.ref p0), some (.int p1)]) (st' := [.int 1]) rfl ?_
    exact s_zret0 X hr (dk okd_X12_readWho 6 rfl) (by decide) rfl rfl
def tab_X12_readVote : List En := [(0, 8, 0, 0), (4, 0, 0, 1), (8, 8, 0, 0), (12, 1, 0, 121), (14, 1, 0, 101), (16, 1, 0, 115), (18, 0, 0, 0), (19, 0, 0, 0), (23, 40, 0, 0), (27, 0, 0, 1), (28, 41, 32, 0), (31, 0, 0, 0), (32, 10, 2, 0), (33, 4, 2, 0), (37, 8, 0, 0), (41, 0, 0, 1), (45, 8, 0, 0), (49, 1, 0, 110), (51, 1, 0, 111), (53, 0, 0, 0), (54, 0, 0, 0), (55, 0, 0, 0), (59, 40, 0, 0), (63, 8, 0, 0), (64, 0, 0, 1), (69, 8, 0, 0), (73, 4, 1, 0), (74, 4, 2, 0), (78, 0, 0, 1), (79, 41, 83, 0), (82, 0, 0, 0), (84, 8, 0, 0), (88, 0, 0, 1)]
theorem ok_X12_readVote : tab_X12_readVote.all (okE cX12_readVote) = true := by decide +kernel
def ed_X12_readVote : List (Nat × Instr × Nat) := [(1, .getfield 332, 3), (5, .if_icmp .ne 26, 3), (9, .getfield 322, 3), (20, .invokestatic 278, 3), (24, .ifCond .ne 7, 3), (34, .ifCond .ne 35, 3), (38, .getfield 332, 3), (42, .if_icmp .ne 21, 3), (46, .getfield 322, 3), (56, .invokestatic 278, 3), (60, .ifCond .eq 9, 3), (65, .invokevirtual 339, 3), (68, .ireturn, 1), (70, .getfield 41, 3), (75, .ifCond .eq 7, 3), (83, .iastore, 1), (85, .invokevirtual 345, 3), (89, .ireturn, 1)]
theorem okd_X12_readVote : ed_X12_readVote.all (okD cX12_readVote) = true := by decide +kernel
def f_X12_readVote (S : St) (p0 : Nat) (p1 : Int32) : Option (Int32 × St) := lt (gI S p0 13) fun (v1 : Int32) => jn (κ := Int32 → Option (Int32 × St)) (fun x2 => jn (κ := Option (Int32 × St)) (lt (gR S p0 18) fun (a7 : Nat) => jn (κ := Int32 → Option (Int32 × St)) (fun x9 => stI S a7 p1 x9 fun (S12 : St) => cl (f_X12_advance S12 p0) fun (S13 : St) => some (1, S13)) fun k10 => if x2 = 0 then (k10 0) else (k10 1)) fun k5 => if x2 = 0 then (lt (gI S p0 13) fun (v14 : Int32) => jn (κ := Option (Int32 × St)) (cl (f_X12_fail S p0 1) fun (o17 : Int32 × St) => zc o17.1 (some (o17.1, o17.2))) fun k15 => if v14 = 1 then (lt (gJ S p0 16) fun (v18 : Int64) => cl (f_X12_pack S 110 111 0 0 0) fun (v19 : Int64) => if v18 = v19 then (k5) else (k15)) else (k15)) else (k5)) fun k3 => jn (κ := Option (Int32 × St)) (k3 0) fun k20 => if v1 = 1 then (lt (gJ S p0 16) fun (v22 : Int64) => cl (f_X12_pack S 121 101 115 0 0) fun (v23 : Int64) => if v22 = v23 then (k3 1) else (k20)) else (k20)
set_option maxHeartbeats 4000000 in
set_option maxRecDepth 100000 in
theorem c_X12_readVote (S : St) (p0 : Nat) (p1 : Int32) : Ct yX12_readVote cX12_readVote 3 (some .boolean) 3 66 (fun _ => [.ref p0, .int p1]) [(p0, 11)] S (f_X12_readVote S p0 p1) oIS sS := by
  refine Ct_of RX12 rfl (by decide) (fun _ => Nat.le_of_ble_eq_true rfl) 1 (vs := fun _ => [some (.ref p0), some (.int p1), none]) (fun _ => rfl) (fun C X E hr ht => ?_)
  have t0_ : tT C p0 11 := ht (p0, 11) (by simp)
  show Jd C 3 (QJ C oIS sS) S 0 [some (.ref p0), some (.int p1), none] [] (f_X12_readVote S p0 p1)
  unfold f_X12_readVote
  refine s_run X ok_X12_readVote 0 1 (pc' := 1) (vs' := [some (.ref p0), some (.int p1), none]) (st' := [.ref p0]) rfl ?_
  refine s_getI X fl_X12_332 t0_ (dk okd_X12_readVote 0 rfl) (fun v1 => ?_)
  refine s_run X ok_X12_readVote 1 1 (pc' := 5) (vs' := [some (.ref p0), some (.int p1), none]) (st' := [.int 1, .int v1]) rfl ?_
  refine s_jn (κ := Int32 → Option (Int32 × St)) (fun k3 => ∀ (x2 : Int32), Jd C 3 (QJ C oIS sS) S 32 [some (.ref p0), some (.int p1), none] [.int x2] (k3 x2)) (fun x2 => ?_) (fun k3 h4 => ?_)
  · refine s_run X ok_X12_readVote 12 2 (pc' := 34) (vs' := [some (.ref p0), some (.int p1), some (.int x2)]) (st' := [.int x2]) rfl ?_
    refine s_jn (κ := Option (Int32 × St)) (fun k5 => Jd C 3 (QJ C oIS sS) S 69 [some (.ref p0), some (.int p1), some (.int x2)] [] k5) ?_ (fun k5 h6 => ?_)
    · refine s_run X ok_X12_readVote 25 1 (pc' := 70) (vs' := [some (.ref p0), some (.int p1), some (.int x2)]) (st' := [.ref p0]) rfl ?_
      refine s_getR X fl_X12_41 t0_ (dk okd_X12_readVote 13 rfl) (fun a7 (t8 : tT C a7 13) => ?_)
      refine s_run X ok_X12_readVote 26 2 (pc' := 75) (vs' := [some (.ref p0), some (.int p1), some (.int x2)]) (st' := [.int x2, .int p1, .ref a7]) rfl ?_
      refine s_jn (κ := Int32 → Option (Int32 × St)) (fun k10 => ∀ (x9 : Int32), Jd C 3 (QJ C oIS sS) S 83 [some (.ref p0), none, none] [.int x9, .int p1, .ref a7] (k10 x9)) (fun x9 => ?_) (fun k10 h11 => ?_)
      · refine s_iast X t8 (dk okd_X12_readVote 15 rfl) (fun S12 => ?_)
        refine s_run X ok_X12_readVote 31 1 (pc' := 85) (vs' := [some (.ref p0), none, none]) (st' := [.ref p0]) rfl ?_
        refine s_callV (b := p0) (As := []) (rest := []) X E mv_X12_345 (c_X12_advance S12 p0) rfl (ta1 t0_) rfl (by decide) t0_ rfl rfl (Nat.le_of_ble_eq_true rfl) (Nat.le_of_ble_eq_true rfl) (Nat.le_of_ble_eq_true rfl) (dk okd_X12_readVote 16 rfl) (st' := fun S13 => []) (fun _ => rfl) (fun S13 => ?_)
        refine s_run X ok_X12_readVote 32 1 (pc' := 89) (vs' := [some (.ref p0), none, none]) (st' := [.int 1]) rfl ?_
        exact s_zret0 X hr (dk okd_X12_readVote 17 rfl) (by decide) rfl rfl
      · refine s_if_eq (tgt := 82) X (dk okd_X12_readVote 14 rfl) (by decide) ?_ ?_
        · refine s_run X ok_X12_readVote 30 1 (pc' := 83) (vs' := [some (.ref p0), some (.int p1), some (.int x2)]) (st' := [.int 0, .int p1, .ref a7]) rfl ?_
          exact s_less [true, false, false] rfl (h11 0)
        · refine s_run X ok_X12_readVote 28 2 (pc' := 83) (vs' := [some (.ref p0), some (.int p1), some (.int x2)]) (st' := [.int 1, .int p1, .ref a7]) rfl ?_
          exact s_less [true, false, false] rfl (h11 1)
    · refine s_if_ne (tgt := 69) X (dk okd_X12_readVote 5 rfl) (by decide) ?_ ?_
      · exact h6
      · refine s_run X ok_X12_readVote 14 1 (pc' := 38) (vs' := [some (.ref p0), some (.int p1), some (.int x2)]) (st' := [.ref p0]) rfl ?_
        refine s_getI X fl_X12_332 t0_ (dk okd_X12_readVote 6 rfl) (fun v14 => ?_)
        refine s_run X ok_X12_readVote 15 1 (pc' := 42) (vs' := [some (.ref p0), some (.int p1), some (.int x2)]) (st' := [.int 1, .int v14]) rfl ?_
        refine s_jn (κ := Option (Int32 × St)) (fun k15 => Jd C 3 (QJ C oIS sS) S 63 [some (.ref p0), none, none] [] k15) ?_ (fun k15 h16 => ?_)
        · refine s_run X ok_X12_readVote 23 2 (pc' := 65) (vs' := [some (.ref p0), none, none]) (st' := [.int 1, .ref p0]) rfl ?_
          refine s_callV (b := p0) (As := [.int 1]) (rest := []) X E mv_X12_339 (c_X12_fail S p0 1) rfl (ta1 t0_) rfl (by decide) t0_ rfl rfl (Nat.le_of_ble_eq_true rfl) (Nat.le_of_ble_eq_true rfl) (Nat.le_of_ble_eq_true rfl) (dk okd_X12_readVote 11 rfl) (st' := fun o17 => [.int o17.1]) (fun _ => rfl) (fun o17 => ?_)
          exact s_zret X hr (dk okd_X12_readVote 12 rfl) rfl rfl
        · refine s_icmp_ne (tgt := 63) X (dk okd_X12_readVote 7 rfl) (by decide) ?_ ?_
          · exact s_less [true, false, false] rfl (h16)
          · refine s_run X ok_X12_readVote 16 1 (pc' := 46) (vs' := [some (.ref p0), some (.int p1), some (.int x2)]) (st' := [.ref p0]) rfl ?_
            refine s_getJ X fl_X12_322 t0_ (dk okd_X12_readVote 8 rfl) (fun v18 => ?_)
            refine s_run X ok_X12_readVote 17 5 (pc' := 56) (vs' := [some (.ref p0), some (.int p1), some (.int x2)]) (st' := [.int 0, .int 0, .int 0, .int 111, .int 110, .long v18]) rfl ?_
            refine s_callS (As := [.int 110, .int 111, .int 0, .int 0, .int 0]) (rest := [.long v18]) X E ms_X12_278 (c_X12_pack S 110 111 0 0 0) rfl (ta0) rfl rfl (Nat.le_of_ble_eq_true rfl) (Nat.le_of_ble_eq_true rfl) (Nat.le_of_ble_eq_true rfl) (dk okd_X12_readVote 9 rfl) (st' := fun v19 => [.long v19, .long v18]) (fun _ => rfl) (fun v19 => ?_)
            refine s_run X ok_X12_readVote 22 1 (pc' := 60) (vs' := [some (.ref p0), some (.int p1), some (.int x2)]) (st' := [.int (lg_cmp v18 v19)]) rfl ?_
            refine s_lif_eq (tgt := 69) X (dk okd_X12_readVote 10 rfl) (by decide) ?_ ?_
            · exact h6
            · exact s_less [true, false, false] rfl (h16)
  · refine s_jn (κ := Option (Int32 × St)) (fun k20 => Jd C 3 (QJ C oIS sS) S 31 [some (.ref p0), some (.int p1), none] [] k20) ?_ (fun k20 h21 => ?_)
    · refine s_run X ok_X12_readVote 11 1 (pc' := 32) (vs' := [some (.ref p0), some (.int p1), none]) (st' := [.int 0]) rfl ?_
      exact h4 0
    · refine s_icmp_ne (tgt := 31) X (dk okd_X12_readVote 1 rfl) (by decide) ?_ ?_
      · exact h21
      · refine s_run X ok_X12_readVote 2 1 (pc' := 9) (vs' := [some (.ref p0), some (.int p1), none]) (st' := [.ref p0]) rfl ?_
        refine s_getJ X fl_X12_322 t0_ (dk okd_X12_readVote 2 rfl) (fun v22 => ?_)
        refine s_run X ok_X12_readVote 3 5 (pc' := 20) (vs' := [some (.ref p0), some (.int p1), none]) (st' := [.int 0, .int 0, .int 115, .int 101, .int 121, .long v22]) rfl ?_
        refine s_callS (As := [.int 121, .int 101, .int 115, .int 0, .int 0]) (rest := [.long v22]) X E ms_X12_278 (c_X12_pack S 121 101 115 0 0) rfl (ta0) rfl rfl (Nat.le_of_ble_eq_true rfl) (Nat.le_of_ble_eq_true rfl) (Nat.le_of_ble_eq_true rfl) (dk okd_X12_readVote 3 rfl) (st' := fun v23 => [.long v23, .long v22]) (fun _ => rfl) (fun v23 => ?_)
        refine s_run X ok_X12_readVote 8 1 (pc' := 24) (vs' := [some (.ref p0), some (.int p1), none]) (st' := [.int (lg_cmp v22 v23)]) rfl ?_
        refine s_lif_ne (tgt := 31) X (dk okd_X12_readVote 4 rfl) (by decide) ?_ ?_
        · exact h21
        · refine s_run X ok_X12_readVote 9 2 (pc' := 32) (vs' := [some (.ref p0), some (.int p1), none]) (st' := [.int 1]) rfl ?_
          exact h4 1
def tab_X12_readParts : List En := [(0, 4, 1, 0), (40, 8, 0, 0), (41, 4, 2, 0), (42, 0, 0, 1), (43, 17, 0, 0), (44, 0, 0, 0), (45, 1, 0, 15), (53, 8, 0, 0), (54, 4, 2, 0), (55, 0, 0, 2), (56, 17, 0, 0), (57, 0, 0, 0), (67, 0, 0, 1), (68, 41, 72, 0), (71, 0, 0, 0), (73, 8, 0, 0), (74, 4, 2, 0), (75, 0, 0, 1), (76, 17, 0, 0), (77, 0, 0, 0), (78, 1, 0, 15), (86, 8, 0, 0), (87, 4, 2, 0), (88, 0, 0, 2), (89, 17, 0, 0), (90, 0, 0, 0), (91, 1, 0, 29), (99, 8, 0, 0), (100, 4, 2, 0), (101, 0, 0, 3), (102, 17, 0, 0), (103, 0, 0, 0), (104, 1, 0, 29), (112, 8, 0, 0), (113, 4, 2, 0), (114, 0, 0, 4), (115, 17, 0, 0), (116, 0, 0, 1), (126, 0, 0, 1), (127, 41, 131, 0), (130, 0, 0, 0), (132, 8, 0, 0), (133, 4, 2, 0), (134, 0, 0, 1), (135, 17, 0, 0), (142, 8, 0, 0), (143, 4, 2, 0), (144, 0, 0, 2), (145, 17, 0, 0), (146, 0, 0, 1), (156, 0, 0, 1), (157, 41, 161, 0), (160, 0, 0, 0), (162, 8, 0, 0), (163, 4, 2, 0), (164, 0, 0, 1), (165, 17, 0, 0), (166, 0, 0, 1), (174, 8, 0, 0), (175, 4, 2, 0), (176, 0, 0, 1), (177, 17, 0, 0), (184, 8, 0, 0), (185, 4, 2, 0), (186, 0, 0, 2), (187, 17, 0, 0), (188, 0, 0, 0), (189, 0, 0, 4), (196, 8, 0, 0), (197, 4, 2, 0), (198, 0, 0, 3), (199, 17, 0, 0), (206, 0, 0, 1), (207, 41, 211, 0), (210, 0, 0, 0), (212, 0, 0, 1)]
theorem ok_X12_readParts : tab_X12_readParts.all (okE cX12_readParts) = true := by decide +kernel
def ed_X12_readParts : List (Nat × Instr × Nat) := [(1, .tableswitch 211 0 5 #[39, 72, 131, 131, 161, 173], 39), (47, .invokevirtual 405, 3), (50, .ifCond .eq 21, 3), (58, .ldc_w 408, 3), (61, .invokevirtual 405, 3), (64, .ifCond .eq 7, 3), (72, .ireturn, 1), (80, .invokevirtual 405, 3), (83, .ifCond .eq 47, 3), (93, .invokevirtual 405, 3), (96, .ifCond .eq 34, 3), (106, .invokevirtual 405, 3), (109, .ifCond .eq 21, 3), (117, .ldc_w 408, 3), (120, .invokevirtual 405, 3), (123, .ifCond .eq 7, 3), (131, .ireturn, 1), (136, .invokevirtual 409, 3), (139, .ifCond .eq 21, 3), (147, .ldc_w 412, 3), (150, .invokevirtual 405, 3), (153, .ifCond .eq 7, 3), (161, .ireturn, 1), (167, .ldc_w 412, 3), (170, .invokevirtual 405, 3), (173, .ireturn, 1), (178, .invokevirtual 409, 3), (181, .ifCond .eq 29, 3), (190, .invokevirtual 405, 3), (193, .ifCond .eq 17, 3), (200, .invokevirtual 413, 3), (203, .ifCond .eq 7, 3), (211, .ireturn, 1), (213, .ireturn, 1)]
theorem okd_X12_readParts : ed_X12_readParts.all (okD cX12_readParts) = true := by decide +kernel
def f_X12_readParts (S : St) (p0 : Nat) (p1 : Int32) (p2 : Int32) : Option (Int32 × St) := jn (κ := Option (Int32 × St)) (cl (f_X12_readWho S p0 (p2 + 1)) fun (o3 : Int32 × St) => jn (κ := St → Option (Int32 × St)) (fun S4 => some (0, S4)) fun k5 => if o3.1 = 0 then (k5 o3.2) else (cl (f_X12_readPart o3.2 p0 (p2 + 2) 1 999999) fun (o7 : Int32 × St) => if o7.1 = 0 then (k5 o7.2) else (some (1, o7.2)))) fun k1 => if p1 = 0 then (cl (f_X12_readPart S p0 (p2 + 1) 0 15) fun (o8 : Int32 × St) => jn (κ := St → Option (Int32 × St)) (fun S9 => some (0, S9)) fun k10 => if o8.1 = 0 then (k10 o8.2) else (cl (f_X12_readPart o8.2 p0 (p2 + 2) 0 100000) fun (o12 : Int32 × St) => if o12.1 = 0 then (k10 o12.2) else (some (1, o12.2)))) else (if p1 = 1 then (cl (f_X12_readPart S p0 (p2 + 1) 0 15) fun (o13 : Int32 × St) => jn (κ := St → Option (Int32 × St)) (fun S14 => some (0, S14)) fun k15 => if o13.1 = 0 then (k15 o13.2) else (cl (f_X12_readPart o13.2 p0 (p2 + 2) 0 29) fun (o17 : Int32 × St) => if o17.1 = 0 then (k15 o17.2) else (cl (f_X12_readPart o17.2 p0 (p2 + 3) 0 29) fun (o18 : Int32 × St) => if o18.1 = 0 then (k15 o18.2) else (cl (f_X12_readPart o18.2 p0 (p2 + 4) 1 100000) fun (o19 : Int32 × St) => if o19.1 = 0 then (k15 o19.2) else (some (1, o19.2)))))) else (if p1 = 2 then (k1) else (if p1 = 3 then (k1) else (if p1 = 4 then (cl (f_X12_readPart S p0 (p2 + 1) 1 999999) fun (o20 : Int32 × St) => zc o20.1 (some (o20.1, o20.2))) else (if p1 = 5 then (cl (f_X12_readWho S p0 (p2 + 1)) fun (o21 : Int32 × St) => jn (κ := St → Option (Int32 × St)) (fun S22 => some (0, S22)) fun k23 => if o21.1 = 0 then (k23 o21.2) else (cl (f_X12_readPart o21.2 p0 (p2 + 2) 0 4) fun (o25 : Int32 × St) => if o25.1 = 0 then (k23 o25.2) else (cl (f_X12_readVote o25.2 p0 (p2 + 3)) fun (o26 : Int32 × St) => if o26.1 = 0 then (k23 o26.2) else (some (1, o26.2))))) else (some (1, S)))))))
set_option maxHeartbeats 4000000 in
set_option maxRecDepth 100000 in
theorem c_X12_readParts (S : St) (p0 : Nat) (p1 : Int32) (p2 : Int32) : Ct yX12_readParts cX12_readParts 3 (some .boolean) 5 111 (fun _ => [.ref p0, .int p1, .int p2]) [(p0, 11)] S (f_X12_readParts S p0 p1 p2) oIS sS := by
  refine Ct_of RX12 rfl (by decide) (fun _ => Nat.le_of_ble_eq_true rfl) 0 (vs := fun _ => [some (.ref p0), some (.int p1), some (.int p2)]) (fun _ => rfl) (fun C X E hr ht => ?_)
  have t0_ : tT C p0 11 := ht (p0, 11) (by simp)
  show Jd C 3 (QJ C oIS sS) S 0 [some (.ref p0), some (.int p1), some (.int p2)] [] (f_X12_readParts S p0 p1 p2)
  unfold f_X12_readParts
  refine s_run X ok_X12_readParts 0 1 (pc' := 1) (vs' := [some (.ref p0), some (.int p1), some (.int p2)]) (st' := [.int p1]) rfl ?_
  refine s_jn (κ := Option (Int32 × St)) (fun k1 => Jd C 3 (QJ C oIS sS) S 132 [some (.ref p0), none, some (.int p2)] [] k1) ?_ (fun k1 h2 => ?_)
  · refine s_run X ok_X12_readParts 41 4 (pc' := 136) (vs' := [some (.ref p0), none, some (.int p2)]) (st' := [.int (p2 + 1), .ref p0]) rfl ?_
    refine s_callV (b := p0) (As := [.int (p2 + 1)]) (rest := []) X E mv_X12_409 (c_X12_readWho S p0 (p2 + 1)) rfl (ta1 t0_) rfl (by decide) t0_ rfl rfl (Nat.le_of_ble_eq_true rfl) (Nat.le_of_ble_eq_true rfl) (Nat.le_of_ble_eq_true rfl) (dk okd_X12_readParts 17 rfl) (st' := fun o3 => [.int o3.1]) (fun _ => rfl) (fun o3 => ?_)
    refine s_jn (κ := St → Option (Int32 × St)) (fun k5 => ∀ (S4 : St), Jd C 3 (QJ C oIS sS) S4 160 [none, none, none] [] (k5 S4)) (fun S4 => ?_) (fun k5 h6 => ?_)
    · refine s_run X ok_X12_readParts 52 1 (pc' := 161) (vs' := [none, none, none]) (st' := [.int 0]) rfl ?_
      exact s_zret0 X hr (dk okd_X12_readParts 22 rfl) (by decide) rfl rfl
    · refine s_if_eq (tgt := 160) X (dk okd_X12_readParts 18 rfl) (by decide) ?_ ?_
      · exact s_less [false, false, false] rfl (h6 o3.2)
      · refine s_run X ok_X12_readParts 45 5 (pc' := 147) (vs' := [some (.ref p0), none, some (.int p2)]) (st' := [.int 1, .int (p2 + 2), .ref p0]) rfl ?_
        refine s_ldcw X ci_X12_412 (dk okd_X12_readParts 19 rfl) ?_
        refine s_callV (b := p0) (As := [.int (p2 + 2), .int 1, .int 999999]) (rest := []) X E mv_X12_405 (c_X12_readPart o3.2 p0 (p2 + 2) 1 999999) rfl (ta1 t0_) rfl (by decide) t0_ rfl rfl (Nat.le_of_ble_eq_true rfl) (Nat.le_of_ble_eq_true rfl) (Nat.le_of_ble_eq_true rfl) (dk okd_X12_readParts 20 rfl) (st' := fun o7 => [.int o7.1]) (fun _ => rfl) (fun o7 => ?_)
        refine s_if_eq (tgt := 160) X (dk okd_X12_readParts 21 rfl) (by decide) ?_ ?_
        · exact s_less [false, false, false] rfl (h6 o7.2)
        · refine s_run X ok_X12_readParts 50 2 (pc' := 161) (vs' := [some (.ref p0), none, some (.int p2)]) (st' := [.int 1]) rfl ?_
          exact s_zret0 X hr (dk okd_X12_readParts 22 rfl) (by decide) rfl rfl
  · refine s_tabc (c := 0) (tgt := 40) X (dk okd_X12_readParts 0 rfl) (by decide) (by decide) rfl (by decide) ?_ (fun n0 => ?_)
    · refine s_run X ok_X12_readParts 1 6 (pc' := 47) (vs' := [some (.ref p0), some (.int p1), some (.int p2)]) (st' := [.int 15, .int 0, .int (p2 + 1), .ref p0]) rfl ?_
      refine s_callV (b := p0) (As := [.int (p2 + 1), .int 0, .int 15]) (rest := []) X E mv_X12_405 (c_X12_readPart S p0 (p2 + 1) 0 15) rfl (ta1 t0_) rfl (by decide) t0_ rfl rfl (Nat.le_of_ble_eq_true rfl) (Nat.le_of_ble_eq_true rfl) (Nat.le_of_ble_eq_true rfl) (dk okd_X12_readParts 1 rfl) (st' := fun o8 => [.int o8.1]) (fun _ => rfl) (fun o8 => ?_)
      refine s_jn (κ := St → Option (Int32 × St)) (fun k10 => ∀ (S9 : St), Jd C 3 (QJ C oIS sS) S9 71 [none, none, none] [] (k10 S9)) (fun S9 => ?_) (fun k10 h11 => ?_)
      · refine s_run X ok_X12_readParts 14 1 (pc' := 72) (vs' := [none, none, none]) (st' := [.int 0]) rfl ?_
        exact s_zret0 X hr (dk okd_X12_readParts 6 rfl) (by decide) rfl rfl
      · refine s_if_eq (tgt := 71) X (dk okd_X12_readParts 2 rfl) (by decide) ?_ ?_
        · exact s_less [false, false, false] rfl (h11 o8.2)
        · refine s_run X ok_X12_readParts 7 5 (pc' := 58) (vs' := [some (.ref p0), some (.int p1), some (.int p2)]) (st' := [.int 0, .int (p2 + 2), .ref p0]) rfl ?_
          refine s_ldcw X ci_X12_408 (dk okd_X12_readParts 3 rfl) ?_
          refine s_callV (b := p0) (As := [.int (p2 + 2), .int 0, .int 100000]) (rest := []) X E mv_X12_405 (c_X12_readPart o8.2 p0 (p2 + 2) 0 100000) rfl (ta1 t0_) rfl (by decide) t0_ rfl rfl (Nat.le_of_ble_eq_true rfl) (Nat.le_of_ble_eq_true rfl) (Nat.le_of_ble_eq_true rfl) (dk okd_X12_readParts 4 rfl) (st' := fun o12 => [.int o12.1]) (fun _ => rfl) (fun o12 => ?_)
          refine s_if_eq (tgt := 71) X (dk okd_X12_readParts 5 rfl) (by decide) ?_ ?_
          · exact s_less [false, false, false] rfl (h11 o12.2)
          · refine s_run X ok_X12_readParts 12 2 (pc' := 72) (vs' := [some (.ref p0), some (.int p1), some (.int p2)]) (st' := [.int 1]) rfl ?_
            exact s_zret0 X hr (dk okd_X12_readParts 6 rfl) (by decide) rfl rfl
    refine s_tabc (c := 1) (tgt := 73) X (dk okd_X12_readParts 0 rfl) (by decide) (by decide) rfl (by decide) ?_ (fun n1 => ?_)
    · refine s_run X ok_X12_readParts 15 6 (pc' := 80) (vs' := [some (.ref p0), some (.int p1), some (.int p2)]) (st' := [.int 15, .int 0, .int (p2 + 1), .ref p0]) rfl ?_
      refine s_callV (b := p0) (As := [.int (p2 + 1), .int 0, .int 15]) (rest := []) X E mv_X12_405 (c_X12_readPart S p0 (p2 + 1) 0 15) rfl (ta1 t0_) rfl (by decide) t0_ rfl rfl (Nat.le_of_ble_eq_true rfl) (Nat.le_of_ble_eq_true rfl) (Nat.le_of_ble_eq_true rfl) (dk okd_X12_readParts 7 rfl) (st' := fun o13 => [.int o13.1]) (fun _ => rfl) (fun o13 => ?_)
      refine s_jn (κ := St → Option (Int32 × St)) (fun k15 => ∀ (S14 : St), Jd C 3 (QJ C oIS sS) S14 130 [none, none, none] [] (k15 S14)) (fun S14 => ?_) (fun k15 h16 => ?_)
      · refine s_run X ok_X12_readParts 40 1 (pc' := 131) (vs' := [none, none, none]) (st' := [.int 0]) rfl ?_
        exact s_zret0 X hr (dk okd_X12_readParts 16 rfl) (by decide) rfl rfl
      · refine s_if_eq (tgt := 130) X (dk okd_X12_readParts 8 rfl) (by decide) ?_ ?_
        · exact s_less [false, false, false] rfl (h16 o13.2)
        · refine s_run X ok_X12_readParts 21 6 (pc' := 93) (vs' := [some (.ref p0), some (.int p1), some (.int p2)]) (st' := [.int 29, .int 0, .int (p2 + 2), .ref p0]) rfl ?_
          refine s_callV (b := p0) (As := [.int (p2 + 2), .int 0, .int 29]) (rest := []) X E mv_X12_405 (c_X12_readPart o13.2 p0 (p2 + 2) 0 29) rfl (ta1 t0_) rfl (by decide) t0_ rfl rfl (Nat.le_of_ble_eq_true rfl) (Nat.le_of_ble_eq_true rfl) (Nat.le_of_ble_eq_true rfl) (dk okd_X12_readParts 9 rfl) (st' := fun o17 => [.int o17.1]) (fun _ => rfl) (fun o17 => ?_)
          refine s_if_eq (tgt := 130) X (dk okd_X12_readParts 10 rfl) (by decide) ?_ ?_
          · exact s_less [false, false, false] rfl (h16 o17.2)
          · refine s_run X ok_X12_readParts 27 6 (pc' := 106) (vs' := [some (.ref p0), some (.int p1), some (.int p2)]) (st' := [.int 29, .int 0, .int (p2 + 3), .ref p0]) rfl ?_
            refine s_callV (b := p0) (As := [.int (p2 + 3), .int 0, .int 29]) (rest := []) X E mv_X12_405 (c_X12_readPart o17.2 p0 (p2 + 3) 0 29) rfl (ta1 t0_) rfl (by decide) t0_ rfl rfl (Nat.le_of_ble_eq_true rfl) (Nat.le_of_ble_eq_true rfl) (Nat.le_of_ble_eq_true rfl) (dk okd_X12_readParts 11 rfl) (st' := fun o18 => [.int o18.1]) (fun _ => rfl) (fun o18 => ?_)
            refine s_if_eq (tgt := 130) X (dk okd_X12_readParts 12 rfl) (by decide) ?_ ?_
            · exact s_less [false, false, false] rfl (h16 o18.2)
            · refine s_run X ok_X12_readParts 33 5 (pc' := 117) (vs' := [some (.ref p0), some (.int p1), some (.int p2)]) (st' := [.int 1, .int (p2 + 4), .ref p0]) rfl ?_
              refine s_ldcw X ci_X12_408 (dk okd_X12_readParts 13 rfl) ?_
              refine s_callV (b := p0) (As := [.int (p2 + 4), .int 1, .int 100000]) (rest := []) X E mv_X12_405 (c_X12_readPart o18.2 p0 (p2 + 4) 1 100000) rfl (ta1 t0_) rfl (by decide) t0_ rfl rfl (Nat.le_of_ble_eq_true rfl) (Nat.le_of_ble_eq_true rfl) (Nat.le_of_ble_eq_true rfl) (dk okd_X12_readParts 14 rfl) (st' := fun o19 => [.int o19.1]) (fun _ => rfl) (fun o19 => ?_)
              refine s_if_eq (tgt := 130) X (dk okd_X12_readParts 15 rfl) (by decide) ?_ ?_
              · exact s_less [false, false, false] rfl (h16 o19.2)
              · refine s_run X ok_X12_readParts 38 2 (pc' := 131) (vs' := [some (.ref p0), some (.int p1), some (.int p2)]) (st' := [.int 1]) rfl ?_
                exact s_zret0 X hr (dk okd_X12_readParts 16 rfl) (by decide) rfl rfl
    refine s_tabc (c := 2) (tgt := 132) X (dk okd_X12_readParts 0 rfl) (by decide) (by decide) rfl (by decide) ?_ (fun n2 => ?_)
    · exact s_less [true, false, true] rfl (h2)
    refine s_tabc (c := 3) (tgt := 132) X (dk okd_X12_readParts 0 rfl) (by decide) (by decide) rfl (by decide) ?_ (fun n3 => ?_)
    · exact s_less [true, false, true] rfl (h2)
    refine s_tabc (c := 4) (tgt := 162) X (dk okd_X12_readParts 0 rfl) (by decide) (by decide) rfl (by decide) ?_ (fun n4 => ?_)
    · refine s_run X ok_X12_readParts 53 5 (pc' := 167) (vs' := [some (.ref p0), some (.int p1), some (.int p2)]) (st' := [.int 1, .int (p2 + 1), .ref p0]) rfl ?_
      refine s_ldcw X ci_X12_412 (dk okd_X12_readParts 23 rfl) ?_
      refine s_callV (b := p0) (As := [.int (p2 + 1), .int 1, .int 999999]) (rest := []) X E mv_X12_405 (c_X12_readPart S p0 (p2 + 1) 1 999999) rfl (ta1 t0_) rfl (by decide) t0_ rfl rfl (Nat.le_of_ble_eq_true rfl) (Nat.le_of_ble_eq_true rfl) (Nat.le_of_ble_eq_true rfl) (dk okd_X12_readParts 24 rfl) (st' := fun o20 => [.int o20.1]) (fun _ => rfl) (fun o20 => ?_)
      exact s_zret X hr (dk okd_X12_readParts 25 rfl) rfl rfl
    refine s_tabc (c := 5) (tgt := 174) X (dk okd_X12_readParts 0 rfl) (by decide) (by decide) rfl (by decide) ?_ (fun n5 => ?_)
    · refine s_run X ok_X12_readParts 58 4 (pc' := 178) (vs' := [some (.ref p0), some (.int p1), some (.int p2)]) (st' := [.int (p2 + 1), .ref p0]) rfl ?_
      refine s_callV (b := p0) (As := [.int (p2 + 1)]) (rest := []) X E mv_X12_409 (c_X12_readWho S p0 (p2 + 1)) rfl (ta1 t0_) rfl (by decide) t0_ rfl rfl (Nat.le_of_ble_eq_true rfl) (Nat.le_of_ble_eq_true rfl) (Nat.le_of_ble_eq_true rfl) (dk okd_X12_readParts 26 rfl) (st' := fun o21 => [.int o21.1]) (fun _ => rfl) (fun o21 => ?_)
      refine s_jn (κ := St → Option (Int32 × St)) (fun k23 => ∀ (S22 : St), Jd C 3 (QJ C oIS sS) S22 210 [none, none, none] [] (k23 S22)) (fun S22 => ?_) (fun k23 h24 => ?_)
      · refine s_run X ok_X12_readParts 74 1 (pc' := 211) (vs' := [none, none, none]) (st' := [.int 0]) rfl ?_
        exact s_zret0 X hr (dk okd_X12_readParts 32 rfl) (by decide) rfl rfl
      · refine s_if_eq (tgt := 210) X (dk okd_X12_readParts 27 rfl) (by decide) ?_ ?_
        · exact s_less [false, false, false] rfl (h24 o21.2)
        · refine s_run X ok_X12_readParts 62 6 (pc' := 190) (vs' := [some (.ref p0), some (.int p1), some (.int p2)]) (st' := [.int 4, .int 0, .int (p2 + 2), .ref p0]) rfl ?_
          refine s_callV (b := p0) (As := [.int (p2 + 2), .int 0, .int 4]) (rest := []) X E mv_X12_405 (c_X12_readPart o21.2 p0 (p2 + 2) 0 4) rfl (ta1 t0_) rfl (by decide) t0_ rfl rfl (Nat.le_of_ble_eq_true rfl) (Nat.le_of_ble_eq_true rfl) (Nat.le_of_ble_eq_true rfl) (dk okd_X12_readParts 28 rfl) (st' := fun o25 => [.int o25.1]) (fun _ => rfl) (fun o25 => ?_)
          refine s_if_eq (tgt := 210) X (dk okd_X12_readParts 29 rfl) (by decide) ?_ ?_
          · exact s_less [false, false, false] rfl (h24 o25.2)
          · refine s_run X ok_X12_readParts 68 4 (pc' := 200) (vs' := [some (.ref p0), some (.int p1), some (.int p2)]) (st' := [.int (p2 + 3), .ref p0]) rfl ?_
            refine s_callV (b := p0) (As := [.int (p2 + 3)]) (rest := []) X E mv_X12_413 (c_X12_readVote o25.2 p0 (p2 + 3)) rfl (ta1 t0_) rfl (by decide) t0_ rfl rfl (Nat.le_of_ble_eq_true rfl) (Nat.le_of_ble_eq_true rfl) (Nat.le_of_ble_eq_true rfl) (dk okd_X12_readParts 30 rfl) (st' := fun o26 => [.int o26.1]) (fun _ => rfl) (fun o26 => ?_)
            refine s_if_eq (tgt := 210) X (dk okd_X12_readParts 31 rfl) (by decide) ?_ ?_
            · exact s_less [false, false, false] rfl (h24 o26.2)
            · refine s_run X ok_X12_readParts 72 2 (pc' := 211) (vs' := [some (.ref p0), some (.int p1), some (.int p2)]) (st' := [.int 1]) rfl ?_
              exact s_zret0 X hr (dk okd_X12_readParts 32 rfl) (by decide) rfl rfl
    refine s_tabd (tgt := 212) X (dk okd_X12_readParts 0 rfl) (tabout (n := 6) (by decide) (fun j hj => match j, hj with | 0, _ => n0 | 1, _ => n1 | 2, _ => n2 | 3, _ => n3 | 4, _ => n4 | 5, _ => n5)) (by decide) ?_
    refine s_run X ok_X12_readParts 75 1 (pc' := 213) (vs' := [some (.ref p0), some (.int p1), some (.int p2)]) (st' := [.int 1]) rfl ?_
    exact s_zret0 X hr (dk okd_X12_readParts 33 rfl) (by decide) rfl rfl
def tab_X12_readEntry : List En := [(0, 8, 0, 0), (4, 10, 1, 0), (5, 4, 1, 0), (6, 0, 0, (-1)), (10, 8, 0, 0), (11, 0, 0, 1), (16, 8, 0, 0), (20, 1, 0, 40), (25, 8, 0, 0), (26, 0, 0, 4), (31, 8, 0, 0), (35, 0, 0, 5), (36, 8, 0, 0), (40, 19, 0, 0), (41, 10, 2, 0), (42, 8, 0, 0), (46, 4, 2, 0), (47, 4, 1, 0), (49, 8, 0, 0), (50, 36, 0, 0), (54, 0, 0, 1), (55, 17, 0, 0), (59, 8, 0, 0), (60, 4, 1, 0), (61, 4, 2, 0), (68, 8, 0, 0), (75, 0, 0, 1), (76, 41, 80, 0), (79, 0, 0, 0)]
theorem ok_X12_readEntry : tab_X12_readEntry.all (okE cX12_readEntry) = true := by decide +kernel
def ed_X12_readEntry : List (Nat × Instr × Nat) := [(1, .invokevirtual 416, 3), (7, .if_icmp .ne 9, 3), (12, .invokevirtual 339, 3), (15, .ireturn, 1), (17, .getfield 419, 3), (22, .if_icmp .ne 9, 3), (27, .invokevirtual 339, 3), (30, .ireturn, 1), (32, .invokevirtual 345, 3), (37, .getfield 419, 3), (43, .getfield 41, 3), (48, .iastore, 1), (51, .getfield 419, 3), (56, .putfield 419, 3), (62, .invokevirtual 422, 3), (65, .ifCond .eq 14, 3), (69, .invokevirtual 361, 3), (72, .ifCond .eq 7, 3), (80, .ireturn, 1)]
theorem okd_X12_readEntry : ed_X12_readEntry.all (okD cX12_readEntry) = true := by decide +kernel
def f_X12_readEntry (S : St) (p0 : Nat) : Option (Int32 × St) := cl (f_X12_entryKind S p0) fun (v1 : Int32) => if v1 = (-1) then (cl (f_X12_fail S p0 1) fun (o17 : Int32 × St) => zc o17.1 (some (o17.1, o17.2))) else (lt (gI S p0 21) fun (v2 : Int32) => if v2 = 40 then (cl (f_X12_fail S p0 4) fun (o16 : Int32 × St) => zc o16.1 (some (o16.1, o16.2))) else (cl (f_X12_advance S p0) fun (S3 : St) => lt (gI S3 p0 21) fun (v4 : Int32) => lt (5 * v4) fun (v5 : Int32) => lt (gR S3 p0 18) fun (a6 : Nat) => stI S3 a6 v5 v1 fun (S8 : St) => lt (gI S8 p0 21) fun (v9 : Int32) => lt (uI S8 p0 21 (v9 + 1)) fun (S10 : St) => cl (f_X12_readParts S10 p0 v1 v5) fun (o11 : Int32 × St) => jn (κ := St → Option (Int32 × St)) (fun S12 => some (0, S12)) fun k13 => if o11.1 = 0 then (k13 o11.2) else (cl (f_X12_readEnd o11.2 p0) fun (o15 : Int32 × St) => if o15.1 = 0 then (k13 o15.2) else (some (1, o15.2)))))
set_option maxHeartbeats 4000000 in
set_option maxRecDepth 100000 in
theorem c_X12_readEntry (S : St) (p0 : Nat) : Ct yX12_readEntry cX12_readEntry 3 (some .boolean) 6 133 (fun _ => [.ref p0]) [(p0, 11)] S (f_X12_readEntry S p0) oIS sS := by
  refine Ct_of RX12 rfl (by decide) (fun _ => Nat.le_of_ble_eq_true rfl) 2 (vs := fun _ => [some (.ref p0), none, none]) (fun _ => rfl) (fun C X E hr ht => ?_)
  have t0_ : tT C p0 11 := ht (p0, 11) (by simp)
  show Jd C 3 (QJ C oIS sS) S 0 [some (.ref p0), none, none] [] (f_X12_readEntry S p0)
  unfold f_X12_readEntry
  refine s_run X ok_X12_readEntry 0 1 (pc' := 1) (vs' := [some (.ref p0), none, none]) (st' := [.ref p0]) rfl ?_
  refine s_callV (b := p0) (As := []) (rest := []) X E mv_X12_416 (c_X12_entryKind S p0) rfl (ta1 t0_) rfl (by decide) t0_ rfl rfl (Nat.le_of_ble_eq_true rfl) (Nat.le_of_ble_eq_true rfl) (Nat.le_of_ble_eq_true rfl) (dk okd_X12_readEntry 0 rfl) (st' := fun v1 => [.int v1]) (fun _ => rfl) (fun v1 => ?_)
  refine s_run X ok_X12_readEntry 1 3 (pc' := 7) (vs' := [some (.ref p0), some (.int v1), none]) (st' := [.int (-1), .int v1]) rfl ?_
  refine s_icmp_ne (tgt := 16) X (dk okd_X12_readEntry 1 rfl) (by decide) ?_ ?_
  · refine s_run X ok_X12_readEntry 6 1 (pc' := 17) (vs' := [some (.ref p0), some (.int v1), none]) (st' := [.ref p0]) rfl ?_
    refine s_getI X fl_X12_419 t0_ (dk okd_X12_readEntry 4 rfl) (fun v2 => ?_)
    refine s_run X ok_X12_readEntry 7 1 (pc' := 22) (vs' := [some (.ref p0), some (.int v1), none]) (st' := [.int 40, .int v2]) rfl ?_
    refine s_icmp_ne (tgt := 31) X (dk okd_X12_readEntry 5 rfl) (by decide) ?_ ?_
    · refine s_run X ok_X12_readEntry 10 1 (pc' := 32) (vs' := [some (.ref p0), some (.int v1), none]) (st' := [.ref p0]) rfl ?_
      refine s_callV (b := p0) (As := []) (rest := []) X E mv_X12_345 (c_X12_advance S p0) rfl (ta1 t0_) rfl (by decide) t0_ rfl rfl (Nat.le_of_ble_eq_true rfl) (Nat.le_of_ble_eq_true rfl) (Nat.le_of_ble_eq_true rfl) (dk okd_X12_readEntry 8 rfl) (st' := fun S3 => []) (fun _ => rfl) (fun S3 => ?_)
      refine s_run X ok_X12_readEntry 11 2 (pc' := 37) (vs' := [some (.ref p0), some (.int v1), none]) (st' := [.ref p0, .int 5]) rfl ?_
      refine s_getI X fl_X12_419 t0_ (dk okd_X12_readEntry 9 rfl) (fun v4 => ?_)
      refine s_run X ok_X12_readEntry 13 1 (pc' := 41) (vs' := [some (.ref p0), some (.int v1), none]) (st' := [.int (5 * v4)]) rfl ?_
      refine s_nmI (fun v5 => ?_)
      refine s_run X ok_X12_readEntry 14 2 (pc' := 43) (vs' := [some (.ref p0), some (.int v1), some (.int v5)]) (st' := [.ref p0]) rfl ?_
      refine s_getR X fl_X12_41 t0_ (dk okd_X12_readEntry 10 rfl) (fun a6 (t7 : tT C a6 13) => ?_)
      refine s_run X ok_X12_readEntry 16 2 (pc' := 48) (vs' := [some (.ref p0), some (.int v1), some (.int v5)]) (st' := [.int v1, .int v5, .ref a6]) rfl ?_
      refine s_iast X t7 (dk okd_X12_readEntry 11 rfl) (fun S8 => ?_)
      refine s_run X ok_X12_readEntry 18 2 (pc' := 51) (vs' := [some (.ref p0), some (.int v1), some (.int v5)]) (st' := [.ref p0, .ref p0]) rfl ?_
      refine s_getI X fl_X12_419 t0_ (dk okd_X12_readEntry 12 rfl) (fun v9 => ?_)
      refine s_run X ok_X12_readEntry 20 2 (pc' := 56) (vs' := [some (.ref p0), some (.int v1), some (.int v5)]) (st' := [.int (v9 + 1), .ref p0]) rfl ?_
      refine s_putI X fp_X12_419 t0_ (dk okd_X12_readEntry 13 rfl) (fun S10 => ?_)
      refine s_run X ok_X12_readEntry 22 3 (pc' := 62) (vs' := [some (.ref p0), some (.int v1), some (.int v5)]) (st' := [.int v5, .int v1, .ref p0]) rfl ?_
      refine s_callV (b := p0) (As := [.int v1, .int v5]) (rest := []) X E mv_X12_422 (c_X12_readParts S10 p0 v1 v5) rfl (ta1 t0_) rfl (by decide) t0_ rfl rfl (Nat.le_of_ble_eq_true rfl) (Nat.le_of_ble_eq_true rfl) (Nat.le_of_ble_eq_true rfl) (dk okd_X12_readEntry 14 rfl) (st' := fun o11 => [.int o11.1]) (fun _ => rfl) (fun o11 => ?_)
      refine s_jn (κ := St → Option (Int32 × St)) (fun k13 => ∀ (S12 : St), Jd C 3 (QJ C oIS sS) S12 79 [none, none, none] [] (k13 S12)) (fun S12 => ?_) (fun k13 h14 => ?_)
      · refine s_run X ok_X12_readEntry 28 1 (pc' := 80) (vs' := [none, none, none]) (st' := [.int 0]) rfl ?_
        exact s_zret0 X hr (dk okd_X12_readEntry 18 rfl) (by decide) rfl rfl
      · refine s_if_eq (tgt := 79) X (dk okd_X12_readEntry 15 rfl) (by decide) ?_ ?_
        · exact s_less [false, false, false] rfl (h14 o11.2)
        · refine s_run X ok_X12_readEntry 25 1 (pc' := 69) (vs' := [some (.ref p0), some (.int v1), some (.int v5)]) (st' := [.ref p0]) rfl ?_
          refine s_callV (b := p0) (As := []) (rest := []) X E mv_X12_361 (c_X12_readEnd o11.2 p0) rfl (ta1 t0_) rfl (by decide) t0_ rfl rfl (Nat.le_of_ble_eq_true rfl) (Nat.le_of_ble_eq_true rfl) (Nat.le_of_ble_eq_true rfl) (dk okd_X12_readEntry 16 rfl) (st' := fun o15 => [.int o15.1]) (fun _ => rfl) (fun o15 => ?_)
          refine s_if_eq (tgt := 79) X (dk okd_X12_readEntry 17 rfl) (by decide) ?_ ?_
          · exact s_less [false, false, false] rfl (h14 o15.2)
          · refine s_run X ok_X12_readEntry 26 2 (pc' := 80) (vs' := [some (.ref p0), some (.int v1), some (.int v5)]) (st' := [.int 1]) rfl ?_
            exact s_zret0 X hr (dk okd_X12_readEntry 18 rfl) (by decide) rfl rfl
    · refine s_run X ok_X12_readEntry 8 2 (pc' := 27) (vs' := [some (.ref p0), some (.int v1), none]) (st' := [.int 4, .ref p0]) rfl ?_
      refine s_callV (b := p0) (As := [.int 4]) (rest := []) X E mv_X12_339 (c_X12_fail S p0 4) rfl (ta1 t0_) rfl (by decide) t0_ rfl rfl (Nat.le_of_ble_eq_true rfl) (Nat.le_of_ble_eq_true rfl) (Nat.le_of_ble_eq_true rfl) (dk okd_X12_readEntry 6 rfl) (st' := fun o16 => [.int o16.1]) (fun _ => rfl) (fun o16 => ?_)
      exact s_zret X hr (dk okd_X12_readEntry 7 rfl) rfl rfl
  · refine s_run X ok_X12_readEntry 4 2 (pc' := 12) (vs' := [some (.ref p0), some (.int v1), none]) (st' := [.int 1, .ref p0]) rfl ?_
    refine s_callV (b := p0) (As := [.int 1]) (rest := []) X E mv_X12_339 (c_X12_fail S p0 1) rfl (ta1 t0_) rfl (by decide) t0_ rfl rfl (Nat.le_of_ble_eq_true rfl) (Nat.le_of_ble_eq_true rfl) (Nat.le_of_ble_eq_true rfl) (dk okd_X12_readEntry 2 rfl) (st' := fun o17 => [.int o17.1]) (fun _ => rfl) (fun o17 => ?_)
    exact s_zret X hr (dk okd_X12_readEntry 3 rfl) rfl rfl
def tab_X12_loadJournal : List En := [(0, 8, 0, 0), (1, 0, 0, 0), (5, 8, 0, 0), (6, 0, 0, 0), (10, 8, 0, 0), (14, 0, 0, 1), (15, 10, 1, 0), (16, 4, 1, 0), (20, 8, 0, 0), (27, 8, 0, 0), (31, 10, 1, 0), (32, 41, 16, 0), (35, 8, 0, 0), (36, 0, 0, 0), (40, 4, 1, 0), (44, 1, 0, (-4)), (47, 0, 0, 0), (48, 10, 2, 0), (49, 4, 2, 0), (50, 0, 0, 5), (51, 8, 0, 0), (55, 19, 0, 0), (59, 8, 0, 0), (63, 4, 2, 0), (64, 8, 0, 0), (68, 4, 2, 0), (71, 16, 2, 1), (74, 41, 49, 0), (77, 8, 0, 0), (78, 8, 0, 0), (85, 8, 0, 0), (86, 0, 0, 0), (90, 8, 0, 0)]
theorem ok_X12_loadJournal : tab_X12_loadJournal.all (okE cX12_loadJournal) = true := by decide +kernel
def ed_X12_loadJournal : List (Nat × Instr × Nat) := [(2, .putfield 50, 3), (7, .putfield 419, 3), (11, .invokevirtual 399, 3), (17, .ifCond .eq 18, 3), (21, .getfield 332, 3), (24, .ifCond .eq 11, 3), (28, .invokevirtual 425, 3), (37, .putfield 296, 3), (41, .ifCond .ne 6, 3), (46, .ireturn, 1), (52, .getfield 419, 3), (56, .if_icmp .ge 21, 3), (60, .getfield 37, 3), (65, .getfield 41, 3), (69, .iaload, 1), (70, .iastore, 1), (79, .getfield 419, 3), (82, .putfield 75, 3), (87, .putfield 78, 3), (91, .getfield 419, 3), (94, .ireturn, 1)]
theorem okd_X12_loadJournal : ed_X12_loadJournal.all (okD cX12_loadJournal) = true := by decide +kernel
def f_X12_loadJournal (S : St) (p0 : Nat) : Option (Int32 × St) := lt (uI S p0 2 0) fun (S1 : St) => lt (uI S1 p0 21 0) fun (S2 : St) => cl (f_X12_beginText S2 p0) fun (S3 : St) => jn (κ := Int32 → St → Option (Int32 × St)) (fun x4 S5 => lt (uI S5 p0 9 0) fun (S8 : St) => if x4 = 0 then (some ((-4), S8)) else (jn (κ := St → Option (Int32 × St)) (fun S9 => lt (gI S9 p0 21) fun (v12 : Int32) => lt (uI S9 p0 19 v12) fun (S13 : St) => lt (uI S13 p0 20 0) fun (S14 : St) => lt (gI S14 p0 21) fun (v15 : Int32) => some (v15, S14)) fun k10 => lp (κ := Int32 → St → Option (Int32 × St)) (fun _ _ => none) (fun k18 x16 S17 => lt (gI S17 p0 21) fun (v20 : Int32) => if (5 * v20) ≤ x16 then (k10 S17) else (lt (gR S17 p0 17) fun (a21 : Nat) => lt (gR S17 p0 18) fun (a23 : Nat) => ldI S17 a23 x16 fun (v25 : Int32) => stI S17 a21 x16 v25 fun (S26 : St) => k18 (x16 + 1) S26)) FU 0 S8)) fun k6 => lp (κ := Int32 → St → Option (Int32 × St)) (fun _ _ => none) (fun k29 x27 S28 => if x27 = 0 then (k6 x27 S28) else (lt (gI S28 p0 13) fun (v31 : Int32) => if v31 = 0 then (k6 x27 S28) else (cl (f_X12_readEntry S28 p0) fun (o32 : Int32 × St) => k29 o32.1 o32.2))) FU 1 S3
set_option maxHeartbeats 4000000 in
set_option maxRecDepth 100000 in
theorem c_X12_loadJournal (S : St) (p0 : Nat) : Ct yX12_loadJournal cX12_loadJournal 3 (some .int) 7 155 (fun _ => [.ref p0]) [(p0, 11)] S (f_X12_loadJournal S p0) oIS sS := by
  refine Ct_of RX12 rfl (by decide) (fun _ => Nat.le_of_ble_eq_true rfl) 2 (vs := fun _ => [some (.ref p0), none, none]) (fun _ => rfl) (fun C X E hr ht => ?_)
  have t0_ : tT C p0 11 := ht (p0, 11) (by simp)
  show Jd C 3 (QJ C oIS sS) S 0 [some (.ref p0), none, none] [] (f_X12_loadJournal S p0)
  unfold f_X12_loadJournal
  refine s_run X ok_X12_loadJournal 0 2 (pc' := 2) (vs' := [some (.ref p0), none, none]) (st' := [.int 0, .ref p0]) rfl ?_
  refine s_putI X fp_X12_50 t0_ (dk okd_X12_loadJournal 0 rfl) (fun S1 => ?_)
  refine s_run X ok_X12_loadJournal 2 2 (pc' := 7) (vs' := [some (.ref p0), none, none]) (st' := [.int 0, .ref p0]) rfl ?_
  refine s_putI X fp_X12_419 t0_ (dk okd_X12_loadJournal 1 rfl) (fun S2 => ?_)
  refine s_run X ok_X12_loadJournal 4 1 (pc' := 11) (vs' := [some (.ref p0), none, none]) (st' := [.ref p0]) rfl ?_
  refine s_callV (b := p0) (As := []) (rest := []) X E mv_X12_399 (c_X12_beginText S2 p0) rfl (ta1 t0_) rfl (by decide) t0_ rfl rfl (Nat.le_of_ble_eq_true rfl) (Nat.le_of_ble_eq_true rfl) (Nat.le_of_ble_eq_true rfl) (dk okd_X12_loadJournal 2 rfl) (st' := fun S3 => []) (fun _ => rfl) (fun S3 => ?_)
  refine s_run X ok_X12_loadJournal 5 2 (pc' := 16) (vs' := [some (.ref p0), some (.int 1), none]) (st' := []) rfl ?_
  refine s_jn (κ := Int32 → St → Option (Int32 × St)) (fun k6 => ∀ (x4 : Int32) (S5 : St), Jd C 3 (QJ C oIS sS) S5 35 [some (.ref p0), some (.int x4), none] [] (k6 x4 S5)) (fun x4 S5 => ?_) (fun k6 h7 => ?_)
  · refine s_run X ok_X12_loadJournal 12 2 (pc' := 37) (vs' := [some (.ref p0), some (.int x4), none]) (st' := [.int 0, .ref p0]) rfl ?_
    refine s_putI X fp_X12_296 t0_ (dk okd_X12_loadJournal 7 rfl) (fun S8 => ?_)
    refine s_run X ok_X12_loadJournal 14 1 (pc' := 41) (vs' := [some (.ref p0), some (.int x4), none]) (st' := [.int x4]) rfl ?_
    refine s_if_ne (tgt := 47) X (dk okd_X12_loadJournal 8 rfl) (by decide) ?_ ?_
    · refine s_run X ok_X12_loadJournal 16 2 (pc' := 49) (vs' := [some (.ref p0), some (.int x4), some (.int 0)]) (st' := []) rfl ?_
      refine s_jn (κ := St → Option (Int32 × St)) (fun k10 => ∀ (S9 : St), Jd C 3 (QJ C oIS sS) S9 77 [some (.ref p0), none, none] [] (k10 S9)) (fun S9 => ?_) (fun k10 h11 => ?_)
      · refine s_run X ok_X12_loadJournal 28 2 (pc' := 79) (vs' := [some (.ref p0), none, none]) (st' := [.ref p0, .ref p0]) rfl ?_
        refine s_getI X fl_X12_419 t0_ (dk okd_X12_loadJournal 16 rfl) (fun v12 => ?_)
        refine s_putI X fp_X12_75 t0_ (dk okd_X12_loadJournal 17 rfl) (fun S13 => ?_)
        refine s_run X ok_X12_loadJournal 30 2 (pc' := 87) (vs' := [some (.ref p0), none, none]) (st' := [.int 0, .ref p0]) rfl ?_
        refine s_putI X fp_X12_78 t0_ (dk okd_X12_loadJournal 18 rfl) (fun S14 => ?_)
        refine s_run X ok_X12_loadJournal 32 1 (pc' := 91) (vs' := [some (.ref p0), none, none]) (st' := [.ref p0]) rfl ?_
        refine s_getI X fl_X12_419 t0_ (dk okd_X12_loadJournal 19 rfl) (fun v15 => ?_)
        exact s_iret X hr (dk okd_X12_loadJournal 20 rfl) rfl rfl
      · refine s_less [true, false, true] (vs' := [some (.ref p0), none, some (.int 0)]) rfl ?_
        refine s_lp (κ := Int32 → St → Option (Int32 × St)) (fun k18 => ∀ (x16 : Int32) (S17 : St), Jd C 3 (QJ C oIS sS) S17 49 [some (.ref p0), none, some (.int x16)] [] (k18 x16 S17)) (fun _ _ => s_none) (fun k18 h19 x16 S17 => ?_) FU 0 S8
        refine s_run X ok_X12_loadJournal 18 3 (pc' := 52) (vs' := [some (.ref p0), none, some (.int x16)]) (st' := [.ref p0, .int 5, .int x16]) rfl ?_
        refine s_getI X fl_X12_419 t0_ (dk okd_X12_loadJournal 10 rfl) (fun v20 => ?_)
        refine s_run X ok_X12_loadJournal 21 1 (pc' := 56) (vs' := [some (.ref p0), none, some (.int x16)]) (st' := [.int (5 * v20), .int x16]) rfl ?_
        refine s_icmp_ge (tgt := 77) X (dk okd_X12_loadJournal 11 rfl) (by decide) ?_ ?_
        · exact s_less [true, false, false] rfl (h11 S17)
        · refine s_run X ok_X12_loadJournal 22 1 (pc' := 60) (vs' := [some (.ref p0), none, some (.int x16)]) (st' := [.ref p0]) rfl ?_
          refine s_getR X fl_X12_37 t0_ (dk okd_X12_loadJournal 12 rfl) (fun a21 (t22 : tT C a21 13) => ?_)
          refine s_run X ok_X12_loadJournal 23 2 (pc' := 65) (vs' := [some (.ref p0), none, some (.int x16)]) (st' := [.ref p0, .int x16, .ref a21]) rfl ?_
          refine s_getR X fl_X12_41 t0_ (dk okd_X12_loadJournal 13 rfl) (fun a23 (t24 : tT C a23 13) => ?_)
          refine s_run X ok_X12_loadJournal 25 1 (pc' := 69) (vs' := [some (.ref p0), none, some (.int x16)]) (st' := [.int x16, .ref a23, .int x16, .ref a21]) rfl ?_
          refine s_iald X t24 (dk okd_X12_loadJournal 14 rfl) (fun v25 => ?_)
          refine s_iast X t22 (dk okd_X12_loadJournal 15 rfl) (fun S26 => ?_)
          refine s_run X ok_X12_loadJournal 26 2 (pc' := 49) (vs' := [some (.ref p0), none, some (.int (x16 + 1))]) (st' := []) rfl ?_
          exact h19 (x16 + 1) S26
    · refine s_run X ok_X12_loadJournal 15 1 (pc' := 46) (vs' := [some (.ref p0), some (.int x4), none]) (st' := [.int (-4)]) rfl ?_
      exact s_iret X hr (dk okd_X12_loadJournal 9 rfl) rfl rfl
  · refine s_lp (κ := Int32 → St → Option (Int32 × St)) (fun k29 => ∀ (x27 : Int32) (S28 : St), Jd C 3 (QJ C oIS sS) S28 16 [some (.ref p0), some (.int x27), none] [] (k29 x27 S28)) (fun _ _ => s_none) (fun k29 h30 x27 S28 => ?_) FU 1 S3
    refine s_run X ok_X12_loadJournal 7 1 (pc' := 17) (vs' := [some (.ref p0), some (.int x27), none]) (st' := [.int x27]) rfl ?_
    refine s_if_eq (tgt := 35) X (dk okd_X12_loadJournal 3 rfl) (by decide) ?_ ?_
    · exact h7 x27 S28
    · refine s_run X ok_X12_loadJournal 8 1 (pc' := 21) (vs' := [some (.ref p0), some (.int x27), none]) (st' := [.ref p0]) rfl ?_
      refine s_getI X fl_X12_332 t0_ (dk okd_X12_loadJournal 4 rfl) (fun v31 => ?_)
      refine s_if_eq (tgt := 35) X (dk okd_X12_loadJournal 5 rfl) (by decide) ?_ ?_
      · exact h7 x27 S28
      · refine s_run X ok_X12_loadJournal 9 1 (pc' := 28) (vs' := [some (.ref p0), some (.int x27), none]) (st' := [.ref p0]) rfl ?_
        refine s_callV (b := p0) (As := []) (rest := []) X E mv_X12_425 (c_X12_readEntry S28 p0) rfl (ta1 t0_) rfl (by decide) t0_ rfl rfl (Nat.le_of_ble_eq_true rfl) (Nat.le_of_ble_eq_true rfl) (Nat.le_of_ble_eq_true rfl) (dk okd_X12_loadJournal 6 rfl) (st' := fun o32 => [.int o32.1]) (fun _ => rfl) (fun o32 => ?_)
        refine s_run X ok_X12_loadJournal 10 2 (pc' := 16) (vs' := [some (.ref p0), some (.int o32.1), none]) (st' := []) rfl ?_
        exact h30 o32.1 o32.2
def tab_X12_entry : List En := [(0, 8, 0, 0), (4, 0, 0, 5), (5, 8, 0, 0), (9, 19, 0, 0), (10, 4, 1, 0), (11, 17, 0, 0)]
theorem ok_X12_entry : tab_X12_entry.all (okE cX12_entry) = true := by decide +kernel
def ed_X12_entry : List (Nat × Instr × Nat) := [(1, .getfield 37, 3), (6, .getfield 78, 3), (12, .iaload, 1), (13, .ireturn, 1)]
theorem okd_X12_entry : ed_X12_entry.all (okD cX12_entry) = true := by decide +kernel
def f_X12_entry (S : St) (p0 : Nat) (p1 : Int32) : Option (Int32) := lt (gR S p0 17) fun (a1 : Nat) => lt (gI S p0 20) fun (v3 : Int32) => ldI S a1 ((5 * v3) + p1) fun (v4 : Int32) => some v4
set_option maxHeartbeats 4000000 in
set_option maxRecDepth 100000 in
theorem c_X12_entry (S : St) (p0 : Nat) (p1 : Int32) : Ct yX12_entry cX12_entry 2 (some .int) 0 0 (fun _ => [.ref p0, .int p1]) [(p0, 11)] S (f_X12_entry S p0 p1) oI (fun _ => S) := by
  refine Ct_of RX12 rfl (by decide) (fun _ => Nat.le_of_ble_eq_true rfl) 0 (vs := fun _ => [some (.ref p0), some (.int p1)]) (fun _ => rfl) (fun C X E hr ht => ?_)
  have t0_ : tT C p0 11 := ht (p0, 11) (by simp)
  show Jd C 2 (QJ C oI (fun _ => S)) S 0 [some (.ref p0), some (.int p1)] [] (f_X12_entry S p0 p1)
  unfold f_X12_entry
  refine s_run X ok_X12_entry 0 1 (pc' := 1) (vs' := [some (.ref p0), some (.int p1)]) (st' := [.ref p0]) rfl ?_
  refine s_getR X fl_X12_37 t0_ (dk okd_X12_entry 0 rfl) (fun a1 (t2 : tT C a1 13) => ?_)
  refine s_run X ok_X12_entry 1 2 (pc' := 6) (vs' := [some (.ref p0), some (.int p1)]) (st' := [.ref p0, .int 5, .ref a1]) rfl ?_
  refine s_getI X fl_X12_78 t0_ (dk okd_X12_entry 1 rfl) (fun v3 => ?_)
  refine s_run X ok_X12_entry 3 3 (pc' := 12) (vs' := [some (.ref p0), some (.int p1)]) (st' := [.int ((5 * v3) + p1), .ref a1]) rfl ?_
  refine s_iald X t2 (dk okd_X12_entry 2 rfl) (fun v4 => ?_)
  exact s_iret X hr (dk okd_X12_entry 3 rfl) rfl rfl
def tab_X12_cents : List En := [(3, 8, 0, 0), (4, 4, 1, 0), (8, 31, 0, 0), (9, 25, 0, 0)]
theorem ok_X12_cents : tab_X12_cents.all (okE cX12_cents) = true := by decide +kernel
def ed_X12_cents : List (Nat × Instr × Nat) := [(0, .ldc2_w 144, 3), (5, .invokevirtual 428, 3), (10, .lreturn, 1)]
theorem okd_X12_cents : ed_X12_cents.all (okD cX12_cents) = true := by decide +kernel
def f_X12_cents (S : St) (p0 : Nat) (p1 : Int32) : Option (Int64) := cl (f_X12_entry S p0 p1) fun (v1 : Int32) => some (100 * (Int32.toInt64 v1))
set_option maxHeartbeats 4000000 in
set_option maxRecDepth 100000 in
theorem c_X12_cents (S : St) (p0 : Nat) (p1 : Int32) : Ct yX12_cents cX12_cents 2 (some .long) 1 21 (fun _ => [.ref p0, .int p1]) [(p0, 11)] S (f_X12_cents S p0 p1) oL (fun _ => S) := by
  refine Ct_of RX12 rfl (by decide) (fun _ => Nat.le_of_ble_eq_true rfl) 0 (vs := fun _ => [some (.ref p0), some (.int p1)]) (fun _ => rfl) (fun C X E hr ht => ?_)
  have t0_ : tT C p0 11 := ht (p0, 11) (by simp)
  show Jd C 2 (QJ C oL (fun _ => S)) S 0 [some (.ref p0), some (.int p1)] [] (f_X12_cents S p0 p1)
  unfold f_X12_cents
  refine s_ldc2 X cl_X12_144 (dk okd_X12_cents 0 rfl) ?_
  refine s_run X ok_X12_cents 0 2 (pc' := 5) (vs' := [some (.ref p0), some (.int p1)]) (st' := [.int p1, .ref p0, .long 100]) rfl ?_
  refine s_callV (b := p0) (As := [.int p1]) (rest := [.long 100]) X E mv_X12_428 (c_X12_entry S p0 p1) rfl (ta1 t0_) rfl (by decide) t0_ rfl rfl (Nat.le_of_ble_eq_true rfl) (Nat.le_of_ble_eq_true rfl) (Nat.le_of_ble_eq_true rfl) (dk okd_X12_cents 1 rfl) (st' := fun v1 => [.int v1, .long 100]) (fun _ => rfl) (fun v1 => ?_)
  refine s_run X ok_X12_cents 2 2 (pc' := 10) (vs' := [some (.ref p0), some (.int p1)]) (st' := [.long (100 * (Int32.toInt64 v1))]) rfl ?_
  exact s_lret X hr (dk okd_X12_cents 2 rfl) rfl rfl
def tab_X12_execute : List En := [(0, 0, 0, 1), (1, 10, 1, 0), (2, 8, 0, 0), (3, 0, 0, 0), (44, 8, 0, 0), (45, 8, 0, 0), (46, 0, 0, 1), (50, 8, 0, 0), (51, 0, 0, 2), (58, 3, 0, 0), (59, 40, 0, 0), (63, 0, 0, 1), (64, 41, 68, 0), (67, 0, 0, 0), (68, 10, 1, 0), (69, 41, 204, 0), (72, 8, 0, 0), (73, 8, 0, 0), (74, 0, 0, 1), (78, 8, 0, 0), (79, 0, 0, 2), (83, 8, 0, 0), (84, 0, 0, 3), (88, 8, 0, 0), (89, 0, 0, 4), (96, 3, 0, 0), (97, 40, 0, 0), (101, 0, 0, 1), (102, 41, 106, 0), (105, 0, 0, 0), (106, 10, 1, 0), (107, 41, 204, 0), (110, 8, 0, 0), (111, 8, 0, 0), (112, 0, 0, 1), (116, 8, 0, 0), (117, 0, 0, 2), (124, 39, 0, 0), (125, 41, 204, 0), (128, 8, 0, 0), (129, 8, 0, 0), (130, 0, 0, 1), (134, 8, 0, 0), (135, 0, 0, 2), (142, 10, 1, 0), (143, 41, 204, 0), (146, 8, 0, 0), (147, 8, 0, 0), (148, 0, 0, 1), (155, 10, 1, 0), (156, 41, 204, 0), (159, 8, 0, 0), (160, 8, 0, 0), (161, 0, 0, 1), (165, 8, 0, 0), (166, 0, 0, 2), (170, 8, 0, 0), (171, 0, 0, 3), (175, 0, 0, 1), (179, 0, 0, 1), (180, 41, 184, 0), (183, 0, 0, 0), (190, 0, 0, 1), (191, 41, 195, 0), (194, 0, 0, 0), (195, 10, 1, 0), (196, 41, 204, 0), (199, 8, 0, 0), (203, 38, 0, 0), (204, 4, 1, 0), (205, 8, 0, 0), (212, 0, 0, 1), (213, 41, 217, 0), (216, 0, 0, 0), (217, 20, 0, 0), (218, 10, 1, 0), (219, 8, 0, 0), (220, 0, 0, 0), (224, 4, 1, 0)]
theorem ok_X12_execute : tab_X12_execute.all (okE cX12_execute) = true := by decide +kernel
def ed_X12_execute : List (Nat × Instr × Nat) := [(4, .invokevirtual 428, 3), (7, .tableswitch 192 0 5 #[37, 65, 103, 121, 139, 152], 37), (47, .invokevirtual 428, 3), (52, .invokevirtual 431, 3), (55, .invokevirtual 434, 3), (60, .ifCond .lt 7, 3), (75, .invokevirtual 428, 3), (80, .invokevirtual 428, 3), (85, .invokevirtual 428, 3), (90, .invokevirtual 431, 3), (93, .invokevirtual 437, 3), (98, .ifCond .lt 7, 3), (113, .invokevirtual 428, 3), (118, .invokevirtual 431, 3), (121, .invokevirtual 441, 3), (131, .invokevirtual 428, 3), (136, .invokevirtual 431, 3), (139, .invokevirtual 444, 3), (149, .invokevirtual 431, 3), (152, .invokevirtual 448, 3), (162, .invokevirtual 428, 3), (167, .invokevirtual 428, 3), (172, .invokevirtual 428, 3), (176, .if_icmp .ne 7, 3), (184, .invokevirtual 452, 3), (187, .ifCond .lt 7, 3), (200, .invokevirtual 456, 3), (206, .getfield 50, 3), (209, .ifCond .ne 7, 3), (221, .putfield 50, 3), (225, .ireturn, 1)]
theorem okd_X12_execute : ed_X12_execute.all (okD cX12_execute) = true := by decide +kernel
def f_X12_execute (S : St) (p0 : Nat) : Option (Int32 × St) := cl (f_X12_entry S p0 0) fun (v1 : Int32) => jn (κ := Int32 → St → Option (Int32 × St)) (fun x2 S3 => lt (gI S3 p0 2) fun (v6 : Int32) => jn (κ := Int32 → Option (Int32 × St)) (fun x7 => lt (x2 &&& x7) fun (v10 : Int32) => lt (uI S3 p0 2 0) fun (S11 : St) => zc v10 (some (v10, S11))) fun k8 => if v6 = 0 then (k8 1) else (k8 0)) fun k4 => if v1 = 0 then (cl (f_X12_entry S p0 1) fun (v12 : Int32) => cl (f_X12_cents S p0 2) fun (v13 : Int64) => cl (f_X12_reportSales S p0 v12 v13) fun (o14 : Int64 × St) => jn (κ := Int32 → Option (Int32 × St)) (fun x15 => k4 x15 o14.2) fun k16 => if o14.1 < 0 then (k16 0) else (k16 1)) else (if v1 = 1 then (cl (f_X12_entry S p0 1) fun (v18 : Int32) => cl (f_X12_entry S p0 2) fun (v19 : Int32) => cl (f_X12_entry S p0 3) fun (v20 : Int32) => cl (f_X12_cents S p0 4) fun (v21 : Int64) => cl (f_X12_deliver S p0 v18 v19 v20 v21) fun (o22 : Int64 × St) => jn (κ := Int32 → Option (Int32 × St)) (fun x23 => k4 x23 o22.2) fun k24 => if o22.1 < 0 then (k24 0) else (k24 1)) else (if v1 = 2 then (cl (f_X12_entry S p0 1) fun (v26 : Int32) => cl (f_X12_cents S p0 2) fun (v27 : Int64) => cl (f_X12_pay S p0 v26 v27) fun (o28 : Int64 × St) => k4 1 o28.2) else (if v1 = 3 then (cl (f_X12_entry S p0 1) fun (v29 : Int32) => cl (f_X12_cents S p0 2) fun (v30 : Int64) => cl (f_X12_grant S p0 v29 v30) fun (o31 : Int32 × St) => k4 o31.1 o31.2) else (if v1 = 4 then (cl (f_X12_cents S p0 1) fun (v32 : Int64) => cl (f_X12_campaign S p0 v32) fun (o33 : Int32 × St) => k4 o33.1 o33.2) else (if v1 = 5 then (cl (f_X12_entry S p0 1) fun (v34 : Int32) => cl (f_X12_entry S p0 2) fun (v35 : Int32) => cl (f_X12_entry S p0 3) fun (v36 : Int32) => jn (κ := Int32 → Option (Int32 × St)) (fun x37 => cl (f_X12_vote S p0 v34 v35 x37) fun (o40 : Int32 × St) => jn (κ := Int32 → Option (Int32 × St)) (fun x41 => k4 x41 o40.2) fun k42 => if o40.1 < 0 then (k42 0) else (k42 1)) fun k38 => if v36 = 1 then (k38 1) else (k38 0)) else (cl (f_X12_closeMonth S p0) fun (o44 : Int32 × St) => k4 1 o44.2))))))
set_option maxHeartbeats 4000000 in
set_option maxRecDepth 100000 in
theorem c_X12_execute (S : St) (p0 : Nat) : Ct yX12_execute cX12_execute 2 (some .boolean) 5 119 (fun _ => [.ref p0]) [(p0, 11)] S (f_X12_execute S p0) oIS sS := by
  refine Ct_of RX12 rfl (by decide) (fun _ => Nat.le_of_ble_eq_true rfl) 1 (vs := fun _ => [some (.ref p0), none]) (fun _ => rfl) (fun C X E hr ht => ?_)
  have t0_ : tT C p0 11 := ht (p0, 11) (by simp)
  show Jd C 2 (QJ C oIS sS) S 0 [some (.ref p0), none] [] (f_X12_execute S p0)
  unfold f_X12_execute
  refine s_run X ok_X12_execute 0 4 (pc' := 4) (vs' := [some (.ref p0), some (.int 1)]) (st' := [.int 0, .ref p0]) rfl ?_
  refine s_callV (b := p0) (As := [.int 0]) (rest := []) X E mv_X12_428 (c_X12_entry S p0 0) rfl (ta1 t0_) rfl (by decide) t0_ rfl rfl (Nat.le_of_ble_eq_true rfl) (Nat.le_of_ble_eq_true rfl) (Nat.le_of_ble_eq_true rfl) (dk okd_X12_execute 0 rfl) (st' := fun v1 => [.int v1]) (fun _ => rfl) (fun v1 => ?_)
  refine s_jn (κ := Int32 → St → Option (Int32 × St)) (fun k4 => ∀ (x2 : Int32) (S3 : St), Jd C 2 (QJ C oIS sS) S3 204 [some (.ref p0), some (.int x2)] [] (k4 x2 S3)) (fun x2 S3 => ?_) (fun k4 h5 => ?_)
  · refine s_run X ok_X12_execute 69 2 (pc' := 206) (vs' := [some (.ref p0), some (.int x2)]) (st' := [.ref p0, .int x2]) rfl ?_
    refine s_getI X fl_X12_50 t0_ (dk okd_X12_execute 27 rfl) (fun v6 => ?_)
    refine s_jn (κ := Int32 → Option (Int32 × St)) (fun k8 => ∀ (x7 : Int32), Jd C 2 (QJ C oIS sS) S3 217 [some (.ref p0), none] [.int x7, .int x2] (k8 x7)) (fun x7 => ?_) (fun k8 h9 => ?_)
    · refine s_run X ok_X12_execute 74 1 (pc' := 218) (vs' := [some (.ref p0), none]) (st' := [.int (x2 &&& x7)]) rfl ?_
      refine s_nmI (fun v10 => ?_)
      refine s_run X ok_X12_execute 75 3 (pc' := 221) (vs' := [some (.ref p0), some (.int v10)]) (st' := [.int 0, .ref p0]) rfl ?_
      refine s_putI X fp_X12_50 t0_ (dk okd_X12_execute 29 rfl) (fun S11 => ?_)
      refine s_run X ok_X12_execute 78 1 (pc' := 225) (vs' := [some (.ref p0), some (.int v10)]) (st' := [.int v10]) rfl ?_
      exact s_zret X hr (dk okd_X12_execute 30 rfl) rfl rfl
    · refine s_if_ne (tgt := 216) X (dk okd_X12_execute 28 rfl) (by decide) ?_ ?_
      · refine s_run X ok_X12_execute 73 1 (pc' := 217) (vs' := [some (.ref p0), some (.int x2)]) (st' := [.int 0, .int x2]) rfl ?_
        exact s_less [true, false] rfl (h9 0)
      · refine s_run X ok_X12_execute 71 2 (pc' := 217) (vs' := [some (.ref p0), some (.int x2)]) (st' := [.int 1, .int x2]) rfl ?_
        exact s_less [true, false] rfl (h9 1)
  · refine s_tabc (c := 0) (tgt := 44) X (dk okd_X12_execute 1 rfl) (by decide) (by decide) rfl (by decide) ?_ (fun n0 => ?_)
    · refine s_run X ok_X12_execute 4 3 (pc' := 47) (vs' := [some (.ref p0), some (.int 1)]) (st' := [.int 1, .ref p0, .ref p0]) rfl ?_
      refine s_callV (b := p0) (As := [.int 1]) (rest := [.ref p0]) X E mv_X12_428 (c_X12_entry S p0 1) rfl (ta1 t0_) rfl (by decide) t0_ rfl rfl (Nat.le_of_ble_eq_true rfl) (Nat.le_of_ble_eq_true rfl) (Nat.le_of_ble_eq_true rfl) (dk okd_X12_execute 2 rfl) (st' := fun v12 => [.int v12, .ref p0]) (fun _ => rfl) (fun v12 => ?_)
      refine s_run X ok_X12_execute 7 2 (pc' := 52) (vs' := [some (.ref p0), some (.int 1)]) (st' := [.int 2, .ref p0, .int v12, .ref p0]) rfl ?_
      refine s_callV (b := p0) (As := [.int 2]) (rest := [.int v12, .ref p0]) X E mv_X12_431 (c_X12_cents S p0 2) rfl (ta1 t0_) rfl (by decide) t0_ rfl rfl (Nat.le_of_ble_eq_true rfl) (Nat.le_of_ble_eq_true rfl) (Nat.le_of_ble_eq_true rfl) (dk okd_X12_execute 3 rfl) (st' := fun v13 => [.long v13, .int v12, .ref p0]) (fun _ => rfl) (fun v13 => ?_)
      refine s_callV (b := p0) (As := [.int v12, .long v13]) (rest := []) X E mv_X12_434 (c_X12_reportSales S p0 v12 v13) rfl (ta1 t0_) rfl (by decide) t0_ rfl rfl (Nat.le_of_ble_eq_true rfl) (Nat.le_of_ble_eq_true rfl) (Nat.le_of_ble_eq_true rfl) (dk okd_X12_execute 4 rfl) (st' := fun o14 => [.long o14.1]) (fun _ => rfl) (fun o14 => ?_)
      refine s_run X ok_X12_execute 9 2 (pc' := 60) (vs' := [some (.ref p0), some (.int 1)]) (st' := [.int (lg_cmp o14.1 0)]) rfl ?_
      refine s_jn (κ := Int32 → Option (Int32 × St)) (fun k16 => ∀ (x15 : Int32), Jd C 2 (QJ C oIS sS) o14.2 68 [some (.ref p0), none] [.int x15] (k16 x15)) (fun x15 => ?_) (fun k16 h17 => ?_)
      · refine s_run X ok_X12_execute 14 2 (pc' := 204) (vs' := [some (.ref p0), some (.int x15)]) (st' := []) rfl ?_
        exact h5 x15 o14.2
      · refine s_lif_lt (tgt := 67) X (dk okd_X12_execute 5 rfl) (by decide) ?_ ?_
        · refine s_run X ok_X12_execute 13 1 (pc' := 68) (vs' := [some (.ref p0), some (.int 1)]) (st' := [.int 0]) rfl ?_
          exact s_less [true, false] rfl (h17 0)
        · refine s_run X ok_X12_execute 11 2 (pc' := 68) (vs' := [some (.ref p0), some (.int 1)]) (st' := [.int 1]) rfl ?_
          exact s_less [true, false] rfl (h17 1)
    refine s_tabc (c := 1) (tgt := 72) X (dk okd_X12_execute 1 rfl) (by decide) (by decide) rfl (by decide) ?_ (fun n1 => ?_)
    · refine s_run X ok_X12_execute 16 3 (pc' := 75) (vs' := [some (.ref p0), some (.int 1)]) (st' := [.int 1, .ref p0, .ref p0]) rfl ?_
      refine s_callV (b := p0) (As := [.int 1]) (rest := [.ref p0]) X E mv_X12_428 (c_X12_entry S p0 1) rfl (ta1 t0_) rfl (by decide) t0_ rfl rfl (Nat.le_of_ble_eq_true rfl) (Nat.le_of_ble_eq_true rfl) (Nat.le_of_ble_eq_true rfl) (dk okd_X12_execute 6 rfl) (st' := fun v18 => [.int v18, .ref p0]) (fun _ => rfl) (fun v18 => ?_)
      refine s_run X ok_X12_execute 19 2 (pc' := 80) (vs' := [some (.ref p0), some (.int 1)]) (st' := [.int 2, .ref p0, .int v18, .ref p0]) rfl ?_
      refine s_callV (b := p0) (As := [.int 2]) (rest := [.int v18, .ref p0]) X E mv_X12_428 (c_X12_entry S p0 2) rfl (ta1 t0_) rfl (by decide) t0_ rfl rfl (Nat.le_of_ble_eq_true rfl) (Nat.le_of_ble_eq_true rfl) (Nat.le_of_ble_eq_true rfl) (dk okd_X12_execute 7 rfl) (st' := fun v19 => [.int v19, .int v18, .ref p0]) (fun _ => rfl) (fun v19 => ?_)
      refine s_run X ok_X12_execute 21 2 (pc' := 85) (vs' := [some (.ref p0), some (.int 1)]) (st' := [.int 3, .ref p0, .int v19, .int v18, .ref p0]) rfl ?_
      refine s_callV (b := p0) (As := [.int 3]) (rest := [.int v19, .int v18, .ref p0]) X E mv_X12_428 (c_X12_entry S p0 3) rfl (ta1 t0_) rfl (by decide) t0_ rfl rfl (Nat.le_of_ble_eq_true rfl) (Nat.le_of_ble_eq_true rfl) (Nat.le_of_ble_eq_true rfl) (dk okd_X12_execute 8 rfl) (st' := fun v20 => [.int v20, .int v19, .int v18, .ref p0]) (fun _ => rfl) (fun v20 => ?_)
      refine s_run X ok_X12_execute 23 2 (pc' := 90) (vs' := [some (.ref p0), some (.int 1)]) (st' := [.int 4, .ref p0, .int v20, .int v19, .int v18, .ref p0]) rfl ?_
      refine s_callV (b := p0) (As := [.int 4]) (rest := [.int v20, .int v19, .int v18, .ref p0]) X E mv_X12_431 (c_X12_cents S p0 4) rfl (ta1 t0_) rfl (by decide) t0_ rfl rfl (Nat.le_of_ble_eq_true rfl) (Nat.le_of_ble_eq_true rfl) (Nat.le_of_ble_eq_true rfl) (dk okd_X12_execute 9 rfl) (st' := fun v21 => [.long v21, .int v20, .int v19, .int v18, .ref p0]) (fun _ => rfl) (fun v21 => ?_)
      refine s_callV (b := p0) (As := [.int v18, .int v19, .int v20, .long v21]) (rest := []) X E mv_X12_437 (c_X12_deliver S p0 v18 v19 v20 v21) rfl (ta1 t0_) rfl (by decide) t0_ rfl rfl (Nat.le_of_ble_eq_true rfl) (Nat.le_of_ble_eq_true rfl) (Nat.le_of_ble_eq_true rfl) (dk okd_X12_execute 10 rfl) (st' := fun o22 => [.long o22.1]) (fun _ => rfl) (fun o22 => ?_)
      refine s_run X ok_X12_execute 25 2 (pc' := 98) (vs' := [some (.ref p0), some (.int 1)]) (st' := [.int (lg_cmp o22.1 0)]) rfl ?_
      refine s_jn (κ := Int32 → Option (Int32 × St)) (fun k24 => ∀ (x23 : Int32), Jd C 2 (QJ C oIS sS) o22.2 106 [some (.ref p0), none] [.int x23] (k24 x23)) (fun x23 => ?_) (fun k24 h25 => ?_)
      · refine s_run X ok_X12_execute 30 2 (pc' := 204) (vs' := [some (.ref p0), some (.int x23)]) (st' := []) rfl ?_
        exact h5 x23 o22.2
      · refine s_lif_lt (tgt := 105) X (dk okd_X12_execute 11 rfl) (by decide) ?_ ?_
        · refine s_run X ok_X12_execute 29 1 (pc' := 106) (vs' := [some (.ref p0), some (.int 1)]) (st' := [.int 0]) rfl ?_
          exact s_less [true, false] rfl (h25 0)
        · refine s_run X ok_X12_execute 27 2 (pc' := 106) (vs' := [some (.ref p0), some (.int 1)]) (st' := [.int 1]) rfl ?_
          exact s_less [true, false] rfl (h25 1)
    refine s_tabc (c := 2) (tgt := 110) X (dk okd_X12_execute 1 rfl) (by decide) (by decide) rfl (by decide) ?_ (fun n2 => ?_)
    · refine s_run X ok_X12_execute 32 3 (pc' := 113) (vs' := [some (.ref p0), some (.int 1)]) (st' := [.int 1, .ref p0, .ref p0]) rfl ?_
      refine s_callV (b := p0) (As := [.int 1]) (rest := [.ref p0]) X E mv_X12_428 (c_X12_entry S p0 1) rfl (ta1 t0_) rfl (by decide) t0_ rfl rfl (Nat.le_of_ble_eq_true rfl) (Nat.le_of_ble_eq_true rfl) (Nat.le_of_ble_eq_true rfl) (dk okd_X12_execute 12 rfl) (st' := fun v26 => [.int v26, .ref p0]) (fun _ => rfl) (fun v26 => ?_)
      refine s_run X ok_X12_execute 35 2 (pc' := 118) (vs' := [some (.ref p0), some (.int 1)]) (st' := [.int 2, .ref p0, .int v26, .ref p0]) rfl ?_
      refine s_callV (b := p0) (As := [.int 2]) (rest := [.int v26, .ref p0]) X E mv_X12_431 (c_X12_cents S p0 2) rfl (ta1 t0_) rfl (by decide) t0_ rfl rfl (Nat.le_of_ble_eq_true rfl) (Nat.le_of_ble_eq_true rfl) (Nat.le_of_ble_eq_true rfl) (dk okd_X12_execute 13 rfl) (st' := fun v27 => [.long v27, .int v26, .ref p0]) (fun _ => rfl) (fun v27 => ?_)
      refine s_callV (b := p0) (As := [.int v26, .long v27]) (rest := []) X E mv_X12_441 (c_X12_pay S p0 v26 v27) rfl (ta1 t0_) rfl (by decide) t0_ rfl rfl (Nat.le_of_ble_eq_true rfl) (Nat.le_of_ble_eq_true rfl) (Nat.le_of_ble_eq_true rfl) (dk okd_X12_execute 14 rfl) (st' := fun o28 => [.long o28.1]) (fun _ => rfl) (fun o28 => ?_)
      refine s_run X ok_X12_execute 37 2 (pc' := 204) (vs' := [some (.ref p0), some (.int 1)]) (st' := []) rfl ?_
      exact h5 1 o28.2
    refine s_tabc (c := 3) (tgt := 128) X (dk okd_X12_execute 1 rfl) (by decide) (by decide) rfl (by decide) ?_ (fun n3 => ?_)
    · refine s_run X ok_X12_execute 39 3 (pc' := 131) (vs' := [some (.ref p0), some (.int 1)]) (st' := [.int 1, .ref p0, .ref p0]) rfl ?_
      refine s_callV (b := p0) (As := [.int 1]) (rest := [.ref p0]) X E mv_X12_428 (c_X12_entry S p0 1) rfl (ta1 t0_) rfl (by decide) t0_ rfl rfl (Nat.le_of_ble_eq_true rfl) (Nat.le_of_ble_eq_true rfl) (Nat.le_of_ble_eq_true rfl) (dk okd_X12_execute 15 rfl) (st' := fun v29 => [.int v29, .ref p0]) (fun _ => rfl) (fun v29 => ?_)
      refine s_run X ok_X12_execute 42 2 (pc' := 136) (vs' := [some (.ref p0), some (.int 1)]) (st' := [.int 2, .ref p0, .int v29, .ref p0]) rfl ?_
      refine s_callV (b := p0) (As := [.int 2]) (rest := [.int v29, .ref p0]) X E mv_X12_431 (c_X12_cents S p0 2) rfl (ta1 t0_) rfl (by decide) t0_ rfl rfl (Nat.le_of_ble_eq_true rfl) (Nat.le_of_ble_eq_true rfl) (Nat.le_of_ble_eq_true rfl) (dk okd_X12_execute 16 rfl) (st' := fun v30 => [.long v30, .int v29, .ref p0]) (fun _ => rfl) (fun v30 => ?_)
      refine s_callV (b := p0) (As := [.int v29, .long v30]) (rest := []) X E mv_X12_444 (c_X12_grant S p0 v29 v30) rfl (ta1 t0_) rfl (by decide) t0_ rfl rfl (Nat.le_of_ble_eq_true rfl) (Nat.le_of_ble_eq_true rfl) (Nat.le_of_ble_eq_true rfl) (dk okd_X12_execute 17 rfl) (st' := fun o31 => [.int o31.1]) (fun _ => rfl) (fun o31 => ?_)
      refine s_run X ok_X12_execute 44 2 (pc' := 204) (vs' := [some (.ref p0), some (.int o31.1)]) (st' := []) rfl ?_
      exact h5 o31.1 o31.2
    refine s_tabc (c := 4) (tgt := 146) X (dk okd_X12_execute 1 rfl) (by decide) (by decide) rfl (by decide) ?_ (fun n4 => ?_)
    · refine s_run X ok_X12_execute 46 3 (pc' := 149) (vs' := [some (.ref p0), some (.int 1)]) (st' := [.int 1, .ref p0, .ref p0]) rfl ?_
      refine s_callV (b := p0) (As := [.int 1]) (rest := [.ref p0]) X E mv_X12_431 (c_X12_cents S p0 1) rfl (ta1 t0_) rfl (by decide) t0_ rfl rfl (Nat.le_of_ble_eq_true rfl) (Nat.le_of_ble_eq_true rfl) (Nat.le_of_ble_eq_true rfl) (dk okd_X12_execute 18 rfl) (st' := fun v32 => [.long v32, .ref p0]) (fun _ => rfl) (fun v32 => ?_)
      refine s_callV (b := p0) (As := [.long v32]) (rest := []) X E mv_X12_448 (c_X12_campaign S p0 v32) rfl (ta1 t0_) rfl (by decide) t0_ rfl rfl (Nat.le_of_ble_eq_true rfl) (Nat.le_of_ble_eq_true rfl) (Nat.le_of_ble_eq_true rfl) (dk okd_X12_execute 19 rfl) (st' := fun o33 => [.int o33.1]) (fun _ => rfl) (fun o33 => ?_)
      refine s_run X ok_X12_execute 49 2 (pc' := 204) (vs' := [some (.ref p0), some (.int o33.1)]) (st' := []) rfl ?_
      exact h5 o33.1 o33.2
    refine s_tabc (c := 5) (tgt := 159) X (dk okd_X12_execute 1 rfl) (by decide) (by decide) rfl (by decide) ?_ (fun n5 => ?_)
    · refine s_run X ok_X12_execute 51 3 (pc' := 162) (vs' := [some (.ref p0), some (.int 1)]) (st' := [.int 1, .ref p0, .ref p0]) rfl ?_
      refine s_callV (b := p0) (As := [.int 1]) (rest := [.ref p0]) X E mv_X12_428 (c_X12_entry S p0 1) rfl (ta1 t0_) rfl (by decide) t0_ rfl rfl (Nat.le_of_ble_eq_true rfl) (Nat.le_of_ble_eq_true rfl) (Nat.le_of_ble_eq_true rfl) (dk okd_X12_execute 20 rfl) (st' := fun v34 => [.int v34, .ref p0]) (fun _ => rfl) (fun v34 => ?_)
      refine s_run X ok_X12_execute 54 2 (pc' := 167) (vs' := [some (.ref p0), some (.int 1)]) (st' := [.int 2, .ref p0, .int v34, .ref p0]) rfl ?_
      refine s_callV (b := p0) (As := [.int 2]) (rest := [.int v34, .ref p0]) X E mv_X12_428 (c_X12_entry S p0 2) rfl (ta1 t0_) rfl (by decide) t0_ rfl rfl (Nat.le_of_ble_eq_true rfl) (Nat.le_of_ble_eq_true rfl) (Nat.le_of_ble_eq_true rfl) (dk okd_X12_execute 21 rfl) (st' := fun v35 => [.int v35, .int v34, .ref p0]) (fun _ => rfl) (fun v35 => ?_)
      refine s_run X ok_X12_execute 56 2 (pc' := 172) (vs' := [some (.ref p0), some (.int 1)]) (st' := [.int 3, .ref p0, .int v35, .int v34, .ref p0]) rfl ?_
      refine s_callV (b := p0) (As := [.int 3]) (rest := [.int v35, .int v34, .ref p0]) X E mv_X12_428 (c_X12_entry S p0 3) rfl (ta1 t0_) rfl (by decide) t0_ rfl rfl (Nat.le_of_ble_eq_true rfl) (Nat.le_of_ble_eq_true rfl) (Nat.le_of_ble_eq_true rfl) (dk okd_X12_execute 22 rfl) (st' := fun v36 => [.int v36, .int v35, .int v34, .ref p0]) (fun _ => rfl) (fun v36 => ?_)
      refine s_run X ok_X12_execute 58 1 (pc' := 176) (vs' := [some (.ref p0), some (.int 1)]) (st' := [.int 1, .int v36, .int v35, .int v34, .ref p0]) rfl ?_
      refine s_jn (κ := Int32 → Option (Int32 × St)) (fun k38 => ∀ (x37 : Int32), Jd C 2 (QJ C oIS sS) S 184 [some (.ref p0), none] [.int x37, .int v35, .int v34, .ref p0] (k38 x37)) (fun x37 => ?_) (fun k38 h39 => ?_)
      · refine s_callV (b := p0) (As := [.int v34, .int v35, .int x37]) (rest := []) X E mv_X12_452 (c_X12_vote S p0 v34 v35 x37) rfl (ta1 t0_) rfl (by decide) t0_ rfl rfl (Nat.le_of_ble_eq_true rfl) (Nat.le_of_ble_eq_true rfl) (Nat.le_of_ble_eq_true rfl) (dk okd_X12_execute 24 rfl) (st' := fun o40 => [.int o40.1]) (fun _ => rfl) (fun o40 => ?_)
        refine s_jn (κ := Int32 → Option (Int32 × St)) (fun k42 => ∀ (x41 : Int32), Jd C 2 (QJ C oIS sS) o40.2 195 [some (.ref p0), none] [.int x41] (k42 x41)) (fun x41 => ?_) (fun k42 h43 => ?_)
        · refine s_run X ok_X12_execute 65 2 (pc' := 204) (vs' := [some (.ref p0), some (.int x41)]) (st' := []) rfl ?_
          exact h5 x41 o40.2
        · refine s_if_lt (tgt := 194) X (dk okd_X12_execute 25 rfl) (by decide) ?_ ?_
          · refine s_run X ok_X12_execute 64 1 (pc' := 195) (vs' := [some (.ref p0), none]) (st' := [.int 0]) rfl ?_
            exact h43 0
          · refine s_run X ok_X12_execute 62 2 (pc' := 195) (vs' := [some (.ref p0), none]) (st' := [.int 1]) rfl ?_
            exact h43 1
      · refine s_icmp_ne (tgt := 183) X (dk okd_X12_execute 23 rfl) (by decide) ?_ ?_
        · refine s_run X ok_X12_execute 61 1 (pc' := 184) (vs' := [some (.ref p0), some (.int 1)]) (st' := [.int 0, .int v35, .int v34, .ref p0]) rfl ?_
          exact s_less [true, false] rfl (h39 0)
        · refine s_run X ok_X12_execute 59 2 (pc' := 184) (vs' := [some (.ref p0), some (.int 1)]) (st' := [.int 1, .int v35, .int v34, .ref p0]) rfl ?_
          exact s_less [true, false] rfl (h39 1)
    refine s_tabd (tgt := 199) X (dk okd_X12_execute 1 rfl) (tabout (n := 6) (by decide) (fun j hj => match j, hj with | 0, _ => n0 | 1, _ => n1 | 2, _ => n2 | 3, _ => n3 | 4, _ => n4 | 5, _ => n5)) (by decide) ?_
    refine s_run X ok_X12_execute 67 1 (pc' := 200) (vs' := [some (.ref p0), some (.int 1)]) (st' := [.ref p0]) rfl ?_
    refine s_callV (b := p0) (As := []) (rest := []) X E mv_X12_456 (c_X12_closeMonth S p0) rfl (ta1 t0_) rfl (by decide) t0_ rfl rfl (Nat.le_of_ble_eq_true rfl) (Nat.le_of_ble_eq_true rfl) (Nat.le_of_ble_eq_true rfl) (dk okd_X12_execute 26 rfl) (st' := fun o44 => [.int o44.1]) (fun _ => rfl) (fun o44 => ?_)
    refine s_run X ok_X12_execute 68 1 (pc' := 204) (vs' := [some (.ref p0), some (.int 1)]) (st' := []) rfl ?_
    exact h5 1 o44.2
def tab_X12_runJournal : List En := [(0, 8, 0, 0), (1, 0, 0, 0), (5, 8, 0, 0), (6, 4, 1, 0), (7, 31, 0, 0), (8, 3, 1, 0), (18, 0, 0, 1), (19, 41, 23, 0), (22, 0, 0, 0), (23, 0, 0, 1), (30, 0, 0, 0), (32, 0, 0, 0), (33, 10, 2, 0), (34, 0, 0, 0), (35, 10, 3, 0), (36, 4, 3, 0), (37, 4, 1, 0), (41, 8, 0, 0), (45, 8, 0, 0), (52, 4, 2, 0), (53, 8, 0, 0), (60, 0, 0, 1), (61, 41, 65, 0), (64, 0, 0, 0), (65, 17, 0, 0), (66, 10, 2, 0), (67, 8, 0, 0), (68, 36, 0, 0), (72, 0, 0, 1), (73, 17, 0, 0), (77, 16, 3, 1), (80, 41, 36, 0), (83, 4, 2, 0)]
theorem ok_X12_runJournal : tab_X12_runJournal.all (okE cX12_runJournal) = true := by decide +kernel
def ed_X12_runJournal : List (Nat × Instr × Nat) := [(2, .putfield 50, 3), (9, .ldc2_w 459, 3), (12, .invokestatic 53, 3), (15, .ifCond .ne 7, 3), (24, .invokevirtual 81, 3), (27, .ifCond .eq 5, 3), (31, .ireturn, 1), (38, .if_icmp .ge 45, 3), (42, .getfield 78, 3), (46, .getfield 75, 3), (49, .if_icmp .ge 34, 3), (54, .invokevirtual 461, 3), (57, .ifCond .eq 7, 3), (69, .getfield 78, 3), (74, .putfield 78, 3), (84, .ireturn, 1)]
theorem okd_X12_runJournal : ed_X12_runJournal.all (okD cX12_runJournal) = true := by decide +kernel
def f_X12_runJournal (S : St) (p0 : Nat) (p1 : Int32) : Option (Int32 × St) := lt (uI S p0 2 0) fun (S1 : St) => cl (f_X12_inRange S1 (Int32.toInt64 p1) 1 40) fun (v2 : Int32) => jn (κ := Int32 → Option (Int32 × St)) (fun x3 => cl (f_X12_throwsIf S1 p0 x3 1) fun (o6 : Int32 × St) => if o6.1 = 0 then (jn (κ := Int32 → St → Option (Int32 × St)) (fun x7 S8 => some (x7, S8)) fun k9 => lp (κ := Int32 → Int32 → St → Option (Int32 × St)) (fun _ _ _ => none) (fun k14 x11 x12 S13 => if p1 ≤ x12 then (k9 x11 S13) else (lt (gI S13 p0 20) fun (v16 : Int32) => lt (gI S13 p0 19) fun (v17 : Int32) => if v17 ≤ v16 then (k9 x11 S13) else (cl (f_X12_execute S13 p0) fun (o18 : Int32 × St) => jn (κ := Int32 → Option (Int32 × St)) (fun x19 => lt (x11 + x19) fun (v22 : Int32) => lt (gI o18.2 p0 20) fun (v23 : Int32) => lt (uI o18.2 p0 20 (v23 + 1)) fun (S24 : St) => k14 v22 (x12 + 1) S24) fun k20 => if o18.1 = 0 then (k20 0) else (k20 1)))) FU 0 0 o6.2) else (some (0, o6.2))) fun k4 => if v2 = 0 then (k4 1) else (k4 0)
set_option maxHeartbeats 4000000 in
set_option maxRecDepth 100000 in
theorem c_X12_runJournal (S : St) (p0 : Nat) (p1 : Int32) : Ct yX12_runJournal cX12_runJournal 4 (some .int) 6 140 (fun _ => [.ref p0, .int p1]) [(p0, 11)] S (f_X12_runJournal S p0 p1) oIS sS := by
  refine Ct_of RX12 rfl (by decide) (fun _ => Nat.le_of_ble_eq_true rfl) 2 (vs := fun _ => [some (.ref p0), some (.int p1), none, none]) (fun _ => rfl) (fun C X E hr ht => ?_)
  have t0_ : tT C p0 11 := ht (p0, 11) (by simp)
  show Jd C 4 (QJ C oIS sS) S 0 [some (.ref p0), some (.int p1), none, none] [] (f_X12_runJournal S p0 p1)
  unfold f_X12_runJournal
  refine s_run X ok_X12_runJournal 0 2 (pc' := 2) (vs' := [some (.ref p0), some (.int p1), none, none]) (st' := [.int 0, .ref p0]) rfl ?_
  refine s_putI X fp_X12_50 t0_ (dk okd_X12_runJournal 0 rfl) (fun S1 => ?_)
  refine s_run X ok_X12_runJournal 2 4 (pc' := 9) (vs' := [some (.ref p0), some (.int p1), none, none]) (st' := [.long 1, .long (Int32.toInt64 p1), .ref p0]) rfl ?_
  refine s_ldc2 X cl_X12_459 (dk okd_X12_runJournal 1 rfl) ?_
  refine s_callS (As := [.long (Int32.toInt64 p1), .long 1, .long 40]) (rest := [.ref p0]) X E ms_X12_53 (c_X12_inRange S1 (Int32.toInt64 p1) 1 40) rfl (ta0) rfl rfl (Nat.le_of_ble_eq_true rfl) (Nat.le_of_ble_eq_true rfl) (Nat.le_of_ble_eq_true rfl) (dk okd_X12_runJournal 2 rfl) (st' := fun v2 => [.int v2, .ref p0]) (fun _ => rfl) (fun v2 => ?_)
  refine s_jn (κ := Int32 → Option (Int32 × St)) (fun k4 => ∀ (x3 : Int32), Jd C 4 (QJ C oIS sS) S1 23 [some (.ref p0), some (.int p1), none, none] [.int x3, .ref p0] (k4 x3)) (fun x3 => ?_) (fun k4 h5 => ?_)
  · refine s_run X ok_X12_runJournal 9 1 (pc' := 24) (vs' := [some (.ref p0), some (.int p1), none, none]) (st' := [.int 1, .int x3, .ref p0]) rfl ?_
    refine s_callV (b := p0) (As := [.int x3, .int 1]) (rest := []) X E mv_X12_81 (c_X12_throwsIf S1 p0 x3 1) rfl (ta1 t0_) rfl (by decide) t0_ rfl rfl (Nat.le_of_ble_eq_true rfl) (Nat.le_of_ble_eq_true rfl) (Nat.le_of_ble_eq_true rfl) (dk okd_X12_runJournal 4 rfl) (st' := fun o6 => [.int o6.1]) (fun _ => rfl) (fun o6 => ?_)
    refine s_if_eq (tgt := 32) X (dk okd_X12_runJournal 5 rfl) (by decide) ?_ ?_
    · refine s_run X ok_X12_runJournal 11 4 (pc' := 36) (vs' := [some (.ref p0), some (.int p1), some (.int 0), some (.int 0)]) (st' := []) rfl ?_
      refine s_jn (κ := Int32 → St → Option (Int32 × St)) (fun k9 => ∀ (x7 : Int32) (S8 : St), Jd C 4 (QJ C oIS sS) S8 83 [none, none, some (.int x7), none] [] (k9 x7 S8)) (fun x7 S8 => ?_) (fun k9 h10 => ?_)
      · refine s_run X ok_X12_runJournal 32 1 (pc' := 84) (vs' := [none, none, some (.int x7), none]) (st' := [.int x7]) rfl ?_
        exact s_iret X hr (dk okd_X12_runJournal 15 rfl) rfl rfl
      · refine s_lp (κ := Int32 → Int32 → St → Option (Int32 × St)) (fun k14 => ∀ (x11 : Int32) (x12 : Int32) (S13 : St), Jd C 4 (QJ C oIS sS) S13 36 [some (.ref p0), some (.int p1), some (.int x11), some (.int x12)] [] (k14 x11 x12 S13)) (fun _ _ _ => s_none) (fun k14 h15 x11 x12 S13 => ?_) FU 0 0 o6.2
        refine s_run X ok_X12_runJournal 15 2 (pc' := 38) (vs' := [some (.ref p0), some (.int p1), some (.int x11), some (.int x12)]) (st' := [.int p1, .int x12]) rfl ?_
        refine s_icmp_ge (tgt := 83) X (dk okd_X12_runJournal 7 rfl) (by decide) ?_ ?_
        · exact s_less [false, false, true, false] rfl (h10 x11 S13)
        · refine s_run X ok_X12_runJournal 17 1 (pc' := 42) (vs' := [some (.ref p0), some (.int p1), some (.int x11), some (.int x12)]) (st' := [.ref p0]) rfl ?_
          refine s_getI X fl_X12_78 t0_ (dk okd_X12_runJournal 8 rfl) (fun v16 => ?_)
          refine s_run X ok_X12_runJournal 18 1 (pc' := 46) (vs' := [some (.ref p0), some (.int p1), some (.int x11), some (.int x12)]) (st' := [.ref p0, .int v16]) rfl ?_
          refine s_getI X fl_X12_75 t0_ (dk okd_X12_runJournal 9 rfl) (fun v17 => ?_)
          refine s_icmp_ge (tgt := 83) X (dk okd_X12_runJournal 10 rfl) (by decide) ?_ ?_
          · exact s_less [false, false, true, false] rfl (h10 x11 S13)
          · refine s_run X ok_X12_runJournal 19 2 (pc' := 54) (vs' := [some (.ref p0), some (.int p1), some (.int x11), some (.int x12)]) (st' := [.ref p0, .int x11]) rfl ?_
            refine s_callV (b := p0) (As := []) (rest := [.int x11]) X E mv_X12_461 (c_X12_execute S13 p0) rfl (ta1 t0_) rfl (by decide) t0_ rfl rfl (Nat.le_of_ble_eq_true rfl) (Nat.le_of_ble_eq_true rfl) (Nat.le_of_ble_eq_true rfl) (dk okd_X12_runJournal 11 rfl) (st' := fun o18 => [.int o18.1, .int x11]) (fun _ => rfl) (fun o18 => ?_)
            refine s_jn (κ := Int32 → Option (Int32 × St)) (fun k20 => ∀ (x19 : Int32), Jd C 4 (QJ C oIS sS) o18.2 65 [some (.ref p0), some (.int p1), none, some (.int x12)] [.int x19, .int x11] (k20 x19)) (fun x19 => ?_) (fun k20 h21 => ?_)
            · refine s_run X ok_X12_runJournal 24 1 (pc' := 66) (vs' := [some (.ref p0), some (.int p1), none, some (.int x12)]) (st' := [.int (x11 + x19)]) rfl ?_
              refine s_nmI (fun v22 => ?_)
              refine s_run X ok_X12_runJournal 25 3 (pc' := 69) (vs' := [some (.ref p0), some (.int p1), some (.int v22), some (.int x12)]) (st' := [.ref p0, .ref p0]) rfl ?_
              refine s_getI X fl_X12_78 t0_ (dk okd_X12_runJournal 13 rfl) (fun v23 => ?_)
              refine s_run X ok_X12_runJournal 28 2 (pc' := 74) (vs' := [some (.ref p0), some (.int p1), some (.int v22), some (.int x12)]) (st' := [.int (v23 + 1), .ref p0]) rfl ?_
              refine s_putI X fp_X12_78 t0_ (dk okd_X12_runJournal 14 rfl) (fun S24 => ?_)
              refine s_run X ok_X12_runJournal 30 2 (pc' := 36) (vs' := [some (.ref p0), some (.int p1), some (.int v22), some (.int (x12 + 1))]) (st' := []) rfl ?_
              exact h15 v22 (x12 + 1) S24
            · refine s_if_eq (tgt := 64) X (dk okd_X12_runJournal 12 rfl) (by decide) ?_ ?_
              · refine s_run X ok_X12_runJournal 23 1 (pc' := 65) (vs' := [some (.ref p0), some (.int p1), some (.int x11), some (.int x12)]) (st' := [.int 0, .int x11]) rfl ?_
                exact s_less [true, true, false, true] rfl (h21 0)
              · refine s_run X ok_X12_runJournal 21 2 (pc' := 65) (vs' := [some (.ref p0), some (.int p1), some (.int x11), some (.int x12)]) (st' := [.int 1, .int x11]) rfl ?_
                exact s_less [true, true, false, true] rfl (h21 1)
    · refine s_run X ok_X12_runJournal 10 1 (pc' := 31) (vs' := [some (.ref p0), some (.int p1), none, none]) (st' := [.int 0]) rfl ?_
      exact s_iret X hr (dk okd_X12_runJournal 6 rfl) rfl rfl
  · refine s_if_ne (tgt := 22) X (dk okd_X12_runJournal 3 rfl) (by decide) ?_ ?_
    · refine s_run X ok_X12_runJournal 8 1 (pc' := 23) (vs' := [some (.ref p0), some (.int p1), none, none]) (st' := [.int 0, .ref p0]) rfl ?_
      exact h5 0
    · refine s_run X ok_X12_runJournal 6 2 (pc' := 23) (vs' := [some (.ref p0), some (.int p1), none, none]) (st' := [.int 1, .ref p0]) rfl ?_
      exact h5 1
def tab_X12_find : List En := [(0, 8, 0, 0), (1, 0, 0, 0), (5, 3, 0, 0), (6, 12, 1, 0), (7, 8, 0, 0), (11, 31, 0, 0), (12, 3, 1, 0), (19, 10, 3, 0), (20, 0, 0, 0), (21, 11, 4, 0), (23, 5, 4, 0), (25, 8, 0, 0), (32, 4, 3, 0), (36, 8, 0, 0), (37, 5, 4, 0), (45, 10, 3, 0), (46, 6, 1, 0), (50, 25, 0, 0), (51, 8, 0, 0), (52, 5, 4, 0), (57, 31, 0, 0), (58, 23, 0, 0), (62, 24, 0, 0), (63, 12, 1, 0), (64, 16, 4, 1), (67, 41, 23, 0), (70, 8, 0, 0), (71, 0, 0, 0), (75, 4, 3, 0), (79, 8, 0, 0), (80, 0, 0, 0), (81, 6, 1, 0), (85, 41, 89, 0), (88, 0, 0, (-1))]
theorem ok_X12_find : tab_X12_find.all (okE cX12_find) = true := by decide +kernel
def ed_X12_find : List (Nat × Instr × Nat) := [(2, .putfield 50, 3), (8, .getfield 296, 3), (13, .ldc2_w 276, 3), (16, .invokestatic 53, 3), (26, .getfield 296, 3), (29, .if_icmp .ge 41, 3), (33, .ifCond .eq 37, 3), (39, .invokevirtual 316, 3), (42, .invokestatic 326, 3), (47, .ldc2_w 335, 3), (54, .invokevirtual 316, 3), (59, .ldc2_w 337, 3), (72, .putfield 296, 3), (76, .ifCond .eq 12, 3), (82, .invokevirtual 370, 3), (89, .ireturn, 1)]
theorem okd_X12_find : ed_X12_find.all (okD cX12_find) = true := by decide +kernel
def f_X12_find (S : St) (p0 : Nat) : Option (Int32 × St) := lt (uI S p0 2 0) fun (S1 : St) => lt (gI S1 p0 9) fun (v2 : Int32) => cl (f_X12_inRange S1 (Int32.toInt64 v2) 1 10) fun (v3 : Int32) => jn (κ := Int64 → Int32 → Option (Int32 × St)) (fun x4 x5 => lt (uI S1 p0 9 0) fun (S8 : St) => if x5 = 0 then (some ((-1), S8)) else (cl (f_X12_named S8 p0 0 x4) fun (v9 : Int32) => some (v9, S8))) fun k6 => lp (κ := Int64 → Int32 → Int32 → Option (Int32 × St)) (fun _ _ _ => none) (fun k13 x10 x11 x12 => lt (gI S1 p0 9) fun (v15 : Int32) => if v15 ≤ x12 then (k6 x10 x11) else (if x11 = 0 then (k6 x10 x11) else (cl (f_X12_byteAt S1 p0 x12) fun (v16 : Int32) => cl (f_X12_isLetter S1 v16) fun (v17 : Int32) => cl (f_X12_byteAt S1 p0 x12) fun (v18 : Int32) => lt (((x10 * 32) + (Int32.toInt64 v18)) - 96) fun (v19 : Int64) => k13 v19 v17 (x12 + 1)))) FU 0 v3 0
set_option maxHeartbeats 4000000 in
set_option maxRecDepth 100000 in
theorem c_X12_find (S : St) (p0 : Nat) : Ct yX12_find cX12_find 5 (some .int) 2 45 (fun _ => [.ref p0]) [(p0, 11)] S (f_X12_find S p0) oIS sS := by
  refine Ct_of RX12 rfl (by decide) (fun _ => Nat.le_of_ble_eq_true rfl) 4 (vs := fun _ => [some (.ref p0), none, none, none, none]) (fun _ => rfl) (fun C X E hr ht => ?_)
  have t0_ : tT C p0 11 := ht (p0, 11) (by simp)
  show Jd C 5 (QJ C oIS sS) S 0 [some (.ref p0), none, none, none, none] [] (f_X12_find S p0)
  unfold f_X12_find
  refine s_run X ok_X12_find 0 2 (pc' := 2) (vs' := [some (.ref p0), none, none, none, none]) (st' := [.int 0, .ref p0]) rfl ?_
  refine s_putI X fp_X12_50 t0_ (dk okd_X12_find 0 rfl) (fun S1 => ?_)
  refine s_run X ok_X12_find 2 3 (pc' := 8) (vs' := [some (.ref p0), some (.long 0), none, none, none]) (st' := [.ref p0]) rfl ?_
  refine s_getI X fl_X12_296 t0_ (dk okd_X12_find 1 rfl) (fun v2 => ?_)
  refine s_run X ok_X12_find 5 2 (pc' := 13) (vs' := [some (.ref p0), some (.long 0), none, none, none]) (st' := [.long 1, .long (Int32.toInt64 v2)]) rfl ?_
  refine s_ldc2 X cl_X12_276 (dk okd_X12_find 2 rfl) ?_
  refine s_callS (As := [.long (Int32.toInt64 v2), .long 1, .long 10]) (rest := []) X E ms_X12_53 (c_X12_inRange S1 (Int32.toInt64 v2) 1 10) rfl (ta0) rfl rfl (Nat.le_of_ble_eq_true rfl) (Nat.le_of_ble_eq_true rfl) (Nat.le_of_ble_eq_true rfl) (dk okd_X12_find 3 rfl) (st' := fun v3 => [.int v3]) (fun _ => rfl) (fun v3 => ?_)
  refine s_run X ok_X12_find 7 3 (pc' := 23) (vs' := [some (.ref p0), some (.long 0), none, some (.int v3), some (.int 0)]) (st' := []) rfl ?_
  refine s_jn (κ := Int64 → Int32 → Option (Int32 × St)) (fun k6 => ∀ (x4 : Int64) (x5 : Int32), Jd C 5 (QJ C oIS sS) S1 70 [some (.ref p0), some (.long x4), none, some (.int x5), none] [] (k6 x4 x5)) (fun x4 x5 => ?_) (fun k6 h7 => ?_)
  · refine s_run X ok_X12_find 26 2 (pc' := 72) (vs' := [some (.ref p0), some (.long x4), none, some (.int x5), none]) (st' := [.int 0, .ref p0]) rfl ?_
    refine s_putI X fp_X12_296 t0_ (dk okd_X12_find 12 rfl) (fun S8 => ?_)
    refine s_run X ok_X12_find 28 1 (pc' := 76) (vs' := [some (.ref p0), some (.long x4), none, some (.int x5), none]) (st' := [.int x5]) rfl ?_
    refine s_if_eq (tgt := 88) X (dk okd_X12_find 13 rfl) (by decide) ?_ ?_
    · refine s_run X ok_X12_find 33 1 (pc' := 89) (vs' := [some (.ref p0), some (.long x4), none, some (.int x5), none]) (st' := [.int (-1)]) rfl ?_
      exact s_iret X hr (dk okd_X12_find 15 rfl) rfl rfl
    · refine s_run X ok_X12_find 29 3 (pc' := 82) (vs' := [some (.ref p0), some (.long x4), none, some (.int x5), none]) (st' := [.long x4, .int 0, .ref p0]) rfl ?_
      refine s_callV (b := p0) (As := [.int 0, .long x4]) (rest := []) X E mv_X12_370 (c_X12_named S8 p0 0 x4) rfl (ta1 t0_) rfl (by decide) t0_ rfl rfl (Nat.le_of_ble_eq_true rfl) (Nat.le_of_ble_eq_true rfl) (Nat.le_of_ble_eq_true rfl) (dk okd_X12_find 14 rfl) (st' := fun v9 => [.int v9]) (fun _ => rfl) (fun v9 => ?_)
      refine s_run X ok_X12_find 32 1 (pc' := 89) (vs' := [some (.ref p0), some (.long x4), none, some (.int x5), none]) (st' := [.int v9]) rfl ?_
      exact s_iret X hr (dk okd_X12_find 15 rfl) rfl rfl
  · refine s_lp (κ := Int64 → Int32 → Int32 → Option (Int32 × St)) (fun k13 => ∀ (x10 : Int64) (x11 : Int32) (x12 : Int32), Jd C 5 (QJ C oIS sS) S1 23 [some (.ref p0), some (.long x10), none, some (.int x11), some (.int x12)] [] (k13 x10 x11 x12)) (fun _ _ _ => s_none) (fun k13 h14 x10 x11 x12 => ?_) FU 0 v3 0
    refine s_run X ok_X12_find 10 2 (pc' := 26) (vs' := [some (.ref p0), some (.long x10), none, some (.int x11), some (.int x12)]) (st' := [.ref p0, .int x12]) rfl ?_
    refine s_getI X fl_X12_296 t0_ (dk okd_X12_find 4 rfl) (fun v15 => ?_)
    refine s_icmp_ge (tgt := 70) X (dk okd_X12_find 5 rfl) (by decide) ?_ ?_
    · exact s_less [true, true, false, true, false] rfl (h7 x10 x11)
    · refine s_run X ok_X12_find 12 1 (pc' := 33) (vs' := [some (.ref p0), some (.long x10), none, some (.int x11), some (.int x12)]) (st' := [.int x11]) rfl ?_
      refine s_if_eq (tgt := 70) X (dk okd_X12_find 6 rfl) (by decide) ?_ ?_
      · exact s_less [true, true, false, true, false] rfl (h7 x10 x11)
      · refine s_run X ok_X12_find 13 2 (pc' := 39) (vs' := [some (.ref p0), some (.long x10), none, some (.int x11), some (.int x12)]) (st' := [.int x12, .ref p0]) rfl ?_
        refine s_callV (b := p0) (As := [.int x12]) (rest := []) X E mv_X12_316 (c_X12_byteAt S1 p0 x12) rfl (ta1 t0_) rfl (by decide) t0_ rfl rfl (Nat.le_of_ble_eq_true rfl) (Nat.le_of_ble_eq_true rfl) (Nat.le_of_ble_eq_true rfl) (dk okd_X12_find 7 rfl) (st' := fun v16 => [.int v16]) (fun _ => rfl) (fun v16 => ?_)
        refine s_callS (As := [.int v16]) (rest := []) X E ms_X12_326 (c_X12_isLetter S1 v16) rfl (ta0) rfl rfl (Nat.le_of_ble_eq_true rfl) (Nat.le_of_ble_eq_true rfl) (Nat.le_of_ble_eq_true rfl) (dk okd_X12_find 8 rfl) (st' := fun v17 => [.int v17]) (fun _ => rfl) (fun v17 => ?_)
        refine s_run X ok_X12_find 15 2 (pc' := 47) (vs' := [some (.ref p0), some (.long x10), none, some (.int v17), some (.int x12)]) (st' := [.long x10]) rfl ?_
        refine s_ldc2 X cl_X12_335 (dk okd_X12_find 9 rfl) ?_
        refine s_run X ok_X12_find 17 3 (pc' := 54) (vs' := [some (.ref p0), some (.long x10), none, some (.int v17), some (.int x12)]) (st' := [.int x12, .ref p0, .long (x10 * 32)]) rfl ?_
        refine s_callV (b := p0) (As := [.int x12]) (rest := [.long (x10 * 32)]) X E mv_X12_316 (c_X12_byteAt S1 p0 x12) rfl (ta1 t0_) rfl (by decide) t0_ rfl rfl (Nat.le_of_ble_eq_true rfl) (Nat.le_of_ble_eq_true rfl) (Nat.le_of_ble_eq_true rfl) (dk okd_X12_find 10 rfl) (st' := fun v18 => [.int v18, .long (x10 * 32)]) (fun _ => rfl) (fun v18 => ?_)
        refine s_run X ok_X12_find 20 2 (pc' := 59) (vs' := [some (.ref p0), some (.long x10), none, some (.int v17), some (.int x12)]) (st' := [.long ((x10 * 32) + (Int32.toInt64 v18))]) rfl ?_
        refine s_ldc2 X cl_X12_337 (dk okd_X12_find 11 rfl) ?_
        refine s_run X ok_X12_find 22 1 (pc' := 63) (vs' := [some (.ref p0), some (.long x10), none, some (.int v17), some (.int x12)]) (st' := [.long (((x10 * 32) + (Int32.toInt64 v18)) - 96)]) rfl ?_
        refine s_nmJ (fun v19 => ?_)
        refine s_run X ok_X12_find 23 3 (pc' := 23) (vs' := [some (.ref p0), some (.long v19), none, some (.int v17), some (.int (x12 + 1))]) (st' := []) rfl ?_
        exact h14 v19 v17 (x12 + 1)
def tab_J6_bitCount_0f7a4 : List En := [(0, 4, 0, 0), (1, 4, 0, 0), (2, 0, 0, 1), (7, 20, 0, 0), (8, 18, 0, 0), (9, 10, 0, 0), (10, 4, 0, 0), (14, 20, 0, 0), (15, 4, 0, 0), (16, 0, 0, 2), (21, 20, 0, 0), (22, 17, 0, 0), (23, 10, 0, 0), (24, 4, 0, 0), (25, 4, 0, 0), (26, 0, 0, 4), (28, 17, 0, 0), (32, 20, 0, 0), (33, 10, 0, 0), (34, 4, 0, 0), (35, 4, 0, 0), (36, 1, 0, 8), (39, 17, 0, 0), (40, 10, 0, 0), (41, 4, 0, 0), (42, 4, 0, 0), (43, 1, 0, 16), (46, 17, 0, 0), (47, 10, 0, 0), (48, 4, 0, 0), (49, 1, 0, 63), (51, 20, 0, 0)]
theorem ok_J6_bitCount_0f7a4 : tab_J6_bitCount_0f7a4.all (okE cJ6_bitCount_0f7a4) = true := by decide +kernel
def ed_J6_bitCount_0f7a4 : List (Nat × Instr × Nat) := [(3, .iushr, 1), (4, .ldc_w 265, 3), (11, .ldc_w 266, 3), (17, .iushr, 1), (18, .ldc_w 266, 3), (27, .iushr, 1), (29, .ldc_w 267, 3), (38, .iushr, 1), (45, .iushr, 1), (52, .ireturn, 1)]
theorem okd_J6_bitCount_0f7a4 : ed_J6_bitCount_0f7a4.all (okD cJ6_bitCount_0f7a4) = true := by decide +kernel
def f_J6_bitCount_0f7a4 (S : St) (p0 : Int32) : Option (Int32) := lt (((Int32.toUInt32 p0) >>> ((Int32.toUInt32 1) &&& Int32.toUInt32 31)).toInt32) fun (v1 : Int32) => lt (p0 - (v1 &&& 1431655765)) fun (v2 : Int32) => lt (((Int32.toUInt32 v2) >>> ((Int32.toUInt32 2) &&& Int32.toUInt32 31)).toInt32) fun (v3 : Int32) => lt ((v2 &&& 858993459) + (v3 &&& 858993459)) fun (v4 : Int32) => lt (((Int32.toUInt32 v4) >>> ((Int32.toUInt32 4) &&& Int32.toUInt32 31)).toInt32) fun (v5 : Int32) => lt ((v4 + v5) &&& 252645135) fun (v6 : Int32) => lt (((Int32.toUInt32 v6) >>> ((Int32.toUInt32 8) &&& Int32.toUInt32 31)).toInt32) fun (v7 : Int32) => lt (v6 + v7) fun (v8 : Int32) => lt (((Int32.toUInt32 v8) >>> ((Int32.toUInt32 16) &&& Int32.toUInt32 31)).toInt32) fun (v9 : Int32) => lt (v8 + v9) fun (v10 : Int32) => some (v10 &&& 63)
set_option maxHeartbeats 4000000 in
set_option maxRecDepth 100000 in
theorem c_J6_bitCount_0f7a4 (S : St) (p0 : Int32) : Ct yJ6_bitCount_0f7a4 cJ6_bitCount_0f7a4 1 (some .int) 0 0 (fun _ => [.int p0]) [] S (f_J6_bitCount_0f7a4 S p0) oI (fun _ => S) := by
  refine Ct_of RJ6 rfl (by decide) (fun _ => Nat.le_of_ble_eq_true rfl) 0 (vs := fun _ => [some (.int p0)]) (fun _ => rfl) (fun C X E hr ht => ?_)
  show Jd C 1 (QJ C oI (fun _ => S)) S 0 [some (.int p0)] [] (f_J6_bitCount_0f7a4 S p0)
  unfold f_J6_bitCount_0f7a4
  refine s_run X ok_J6_bitCount_0f7a4 0 3 (pc' := 3) (vs' := [some (.int p0)]) (st' := [.int 1, .int p0, .int p0]) rfl ?_
  refine s_iushr X (dk okd_J6_bitCount_0f7a4 0 rfl) rfl ?_
  refine s_nmI (fun v1 => ?_)
  refine s_ldcw X ci_J6_265 (dk okd_J6_bitCount_0f7a4 1 rfl) ?_
  refine s_run X ok_J6_bitCount_0f7a4 3 2 (pc' := 9) (vs' := [some (.int p0)]) (st' := [.int (p0 - (v1 &&& 1431655765))]) rfl ?_
  refine s_nmI (fun v2 => ?_)
  refine s_run X ok_J6_bitCount_0f7a4 5 2 (pc' := 11) (vs' := [some (.int v2)]) (st' := [.int v2]) rfl ?_
  refine s_ldcw X ci_J6_266 (dk okd_J6_bitCount_0f7a4 2 rfl) ?_
  refine s_run X ok_J6_bitCount_0f7a4 7 3 (pc' := 17) (vs' := [some (.int v2)]) (st' := [.int 2, .int v2, .int (v2 &&& 858993459)]) rfl ?_
  refine s_iushr X (dk okd_J6_bitCount_0f7a4 3 rfl) rfl ?_
  refine s_nmI (fun v3 => ?_)
  refine s_ldcw X ci_J6_266 (dk okd_J6_bitCount_0f7a4 4 rfl) ?_
  refine s_run X ok_J6_bitCount_0f7a4 10 2 (pc' := 23) (vs' := [some (.int v2)]) (st' := [.int ((v2 &&& 858993459) + (v3 &&& 858993459))]) rfl ?_
  refine s_nmI (fun v4 => ?_)
  refine s_run X ok_J6_bitCount_0f7a4 12 4 (pc' := 27) (vs' := [some (.int v4)]) (st' := [.int 4, .int v4, .int v4]) rfl ?_
  refine s_iushr X (dk okd_J6_bitCount_0f7a4 5 rfl) rfl ?_
  refine s_nmI (fun v5 => ?_)
  refine s_run X ok_J6_bitCount_0f7a4 16 1 (pc' := 29) (vs' := [some (.int v4)]) (st' := [.int (v4 + v5)]) rfl ?_
  refine s_ldcw X ci_J6_267 (dk okd_J6_bitCount_0f7a4 6 rfl) ?_
  refine s_run X ok_J6_bitCount_0f7a4 17 1 (pc' := 33) (vs' := [some (.int v4)]) (st' := [.int ((v4 + v5) &&& 252645135)]) rfl ?_
  refine s_nmI (fun v6 => ?_)
  refine s_run X ok_J6_bitCount_0f7a4 18 4 (pc' := 38) (vs' := [some (.int v6)]) (st' := [.int 8, .int v6, .int v6]) rfl ?_
  refine s_iushr X (dk okd_J6_bitCount_0f7a4 7 rfl) rfl ?_
  refine s_nmI (fun v7 => ?_)
  refine s_run X ok_J6_bitCount_0f7a4 22 1 (pc' := 40) (vs' := [some (.int v6)]) (st' := [.int (v6 + v7)]) rfl ?_
  refine s_nmI (fun v8 => ?_)
  refine s_run X ok_J6_bitCount_0f7a4 23 4 (pc' := 45) (vs' := [some (.int v8)]) (st' := [.int 16, .int v8, .int v8]) rfl ?_
  refine s_iushr X (dk okd_J6_bitCount_0f7a4 8 rfl) rfl ?_
  refine s_nmI (fun v9 => ?_)
  refine s_run X ok_J6_bitCount_0f7a4 27 1 (pc' := 47) (vs' := [some (.int v8)]) (st' := [.int (v8 + v9)]) rfl ?_
  refine s_nmI (fun v10 => ?_)
  refine s_run X ok_J6_bitCount_0f7a4 28 4 (pc' := 52) (vs' := [some (.int v10)]) (st' := [.int (v10 &&& 63)]) rfl ?_
  exact s_iret X hr (dk okd_J6_bitCount_0f7a4 9 rfl) rfl rfl
def tab_J0_coder_7d493 : List En := [(6, 8, 0, 0), (10, 41, 14, 0), (13, 0, 0, 1)]
theorem ok_J0_coder_7d493 : tab_J0_coder_7d493.all (okE cJ0_coder_7d493) = true := by decide +kernel
def ed_J0_coder_7d493 : List (Nat × Instr × Nat) := [(0, .getstatic 38, 3), (3, .ifCond .eq 10, 3), (7, .getfield 15, 3), (14, .ireturn, 1)]
theorem okd_J0_coder_7d493 : ed_J0_coder_7d493.all (okD cJ0_coder_7d493) = true := by decide +kernel
def f_J0_coder_7d493 (S : St) (p0 : Nat) : Option (Int32) := if (1 : Int32) = 0 then (nrw .byte 1 (some 1)) else (tk p0 <| nrw .byte 0 (some 0))
set_option maxHeartbeats 4000000 in
set_option maxRecDepth 100000 in
theorem c_J0_coder_7d493 (S : St) (p0 : Nat) : Ct yJ0_coder_7d493 cJ0_coder_7d493 1 (some .byte) 0 0 (fun cy => [.ref (cy (100 + 2 * p0))]) [] S (f_J0_coder_7d493 S p0) oI (fun _ => S) := by
  refine Ct_of RJ0 rfl (by decide) (fun _ => Nat.le_of_ble_eq_true rfl) 0 (vs := fun cy => [some (.ref (cy (100 + 2 * p0)))]) (fun _ => rfl) (fun C X E hr ht => ?_)
  show Jd C 1 (QJ C oI (fun _ => S)) S 0 [some (.ref (cS C p0))] [] (f_J0_coder_7d493 S p0)
  unfold f_J0_coder_7d493
  refine s_gcs X E sl_J0_38 (dk okd_J0_coder_7d493 0 rfl) ?_
  refine s_if_eq (tgt := 13) X (dk okd_J0_coder_7d493 1 rfl) (by decide) ?_ ?_
  · refine s_run X ok_J0_coder_7d493 2 1 (pc' := 14) (vs' := [some (.ref (cS C p0))]) (st' := [.int 1]) rfl ?_
    exact s_nret X hr (dk okd_J0_coder_7d493 3 rfl) rfl rfl
  · refine s_run X ok_J0_coder_7d493 0 1 (pc' := 7) (vs' := [some (.ref (cS C p0))]) (st' := [.ref (cS C p0)]) rfl ?_
    refine s_scod X E sl_J0_15 (dk okd_J0_coder_7d493 2 rfl) ?_
    refine s_run X ok_J0_coder_7d493 1 1 (pc' := 14) (vs' := [some (.ref (cS C p0))]) (st' := [.int 0]) rfl ?_
    exact s_nret X hr (dk okd_J0_coder_7d493 3 rfl) rfl rfl
def tab_J0_isLatin1_aae02 : List En := [(6, 8, 0, 0), (13, 0, 0, 1), (14, 41, 18, 0), (17, 0, 0, 0)]
theorem ok_J0_isLatin1_aae02 : tab_J0_isLatin1_aae02.all (okE cJ0_isLatin1_aae02) = true := by decide +kernel
def ed_J0_isLatin1_aae02 : List (Nat × Instr × Nat) := [(0, .getstatic 38, 3), (3, .ifCond .eq 14, 3), (7, .getfield 15, 3), (10, .ifCond .ne 7, 3), (18, .ireturn, 1)]
theorem okd_J0_isLatin1_aae02 : ed_J0_isLatin1_aae02.all (okD cJ0_isLatin1_aae02) = true := by decide +kernel
def f_J0_isLatin1_aae02 (S : St) (p0 : Nat) : Option (Int32) := jn (κ := Option (Int32)) (some 0) fun k1 => if (1 : Int32) = 0 then (k1) else (tk p0 <| if (0 : Int32) = 0 then (some 1) else (k1))
set_option maxHeartbeats 4000000 in
set_option maxRecDepth 100000 in
theorem c_J0_isLatin1_aae02 (S : St) (p0 : Nat) : Ct yJ0_isLatin1_aae02 cJ0_isLatin1_aae02 1 (some .boolean) 0 0 (fun cy => [.ref (cy (100 + 2 * p0))]) [] S (f_J0_isLatin1_aae02 S p0) oI (fun _ => S) := by
  refine Ct_of RJ0 rfl (by decide) (fun _ => Nat.le_of_ble_eq_true rfl) 0 (vs := fun cy => [some (.ref (cy (100 + 2 * p0)))]) (fun _ => rfl) (fun C X E hr ht => ?_)
  show Jd C 1 (QJ C oI (fun _ => S)) S 0 [some (.ref (cS C p0))] [] (f_J0_isLatin1_aae02 S p0)
  unfold f_J0_isLatin1_aae02
  refine s_gcs X E sl_J0_38 (dk okd_J0_isLatin1_aae02 0 rfl) ?_
  refine s_jn (κ := Option (Int32)) (fun k1 => Jd C 1 (QJ C oI (fun _ => S)) S 17 [none] [] k1) ?_ (fun k1 h2 => ?_)
  · refine s_run X ok_J0_isLatin1_aae02 3 1 (pc' := 18) (vs' := [none]) (st' := [.int 0]) rfl ?_
    exact s_zret0 X hr (dk okd_J0_isLatin1_aae02 4 rfl) (by decide) rfl rfl
  · refine s_if_eq (tgt := 17) X (dk okd_J0_isLatin1_aae02 1 rfl) (by decide) ?_ ?_
    · exact s_less [false] rfl (h2)
    · refine s_run X ok_J0_isLatin1_aae02 0 1 (pc' := 7) (vs' := [some (.ref (cS C p0))]) (st' := [.ref (cS C p0)]) rfl ?_
      refine s_scod X E sl_J0_15 (dk okd_J0_isLatin1_aae02 2 rfl) ?_
      refine s_if_ne (tgt := 17) X (dk okd_J0_isLatin1_aae02 3 rfl) (by decide) ?_ ?_
      · exact s_less [false] rfl (h2)
      · refine s_run X ok_J0_isLatin1_aae02 1 2 (pc' := 18) (vs' := [some (.ref (cS C p0))]) (st' := [.int 1]) rfl ?_
        exact s_zret0 X hr (dk okd_J0_isLatin1_aae02 4 rfl) (by decide) rfl rfl
def tab_J7_fill_d0a16 : List En := [(0, 0, 0, 0), (1, 10, 3, 0), (2, 8, 0, 0), (4, 11, 4, 0), (6, 4, 3, 0), (7, 5, 4, 0), (12, 8, 0, 0), (13, 4, 3, 0), (14, 6, 1, 0), (16, 16, 3, 1), (19, 41, 6, 0)]
theorem ok_J7_fill_d0a16 : tab_J7_fill_d0a16.all (okE cJ7_fill_d0a16) = true := by decide +kernel
def ed_J7_fill_d0a16 : List (Nat × Instr × Nat) := [(3, .arraylength, 1), (9, .if_icmp .ge 13, 3), (15, .lastore, 1), (22, .return_, 1)]
theorem okd_J7_fill_d0a16 : ed_J7_fill_d0a16.all (okD cJ7_fill_d0a16) = true := by decide +kernel
def f_J7_fill_d0a16 (S : St) (p0 : Nat) (p1 : Int64) : Option (St) := lt (nI (gN S p0)) fun (v1 : Int32) => lp (κ := Int32 → St → Option (St)) (fun _ _ => none) (fun k4 x2 S3 => if v1 ≤ x2 then (some S3) else (stJ S3 p0 x2 p1 fun (S6 : St) => k4 (x2 + 1) S6)) FU 0 S
set_option maxHeartbeats 4000000 in
set_option maxRecDepth 100000 in
theorem c_J7_fill_d0a16 (S : St) (p0 : Nat) (p1 : Int64) : Ct yJ7_fill_d0a16 cJ7_fill_d0a16 5 none 0 0 (fun _ => [.ref p0, .long p1]) [(p0, 14)] S (f_J7_fill_d0a16 S p0 p1) oV sV := by
  refine Ct_of RJ7 rfl (by decide) (fun _ => Nat.le_of_ble_eq_true rfl) 2 (vs := fun _ => [some (.ref p0), some (.long p1), none, none, none]) (fun _ => rfl) (fun C X E hr ht => ?_)
  have t0_ : tT C p0 14 := ht (p0, 14) (by simp)
  show Jd C 5 (QJ C oV sV) S 0 [some (.ref p0), some (.long p1), none, none, none] [] (f_J7_fill_d0a16 S p0 p1)
  unfold f_J7_fill_d0a16
  refine s_run X ok_J7_fill_d0a16 0 3 (pc' := 3) (vs' := [some (.ref p0), some (.long p1), none, some (.int 0), none]) (st' := [.ref p0]) rfl ?_
  refine s_alen14 X t0_ (dk okd_J7_fill_d0a16 0 rfl) (fun v1 => ?_)
  refine s_run X ok_J7_fill_d0a16 3 1 (pc' := 6) (vs' := [some (.ref p0), some (.long p1), none, some (.int 0), some (.int v1)]) (st' := []) rfl ?_
  refine s_lp (κ := Int32 → St → Option (St)) (fun k4 => ∀ (x2 : Int32) (S3 : St), Jd C 5 (QJ C oV sV) S3 6 [some (.ref p0), some (.long p1), none, some (.int x2), some (.int v1)] [] (k4 x2 S3)) (fun _ _ => s_none) (fun k4 h5 x2 S3 => ?_) FU 0 S
  refine s_run X ok_J7_fill_d0a16 4 2 (pc' := 9) (vs' := [some (.ref p0), some (.long p1), none, some (.int x2), some (.int v1)]) (st' := [.int v1, .int x2]) rfl ?_
  refine s_icmp_ge (tgt := 22) X (dk okd_J7_fill_d0a16 1 rfl) (by decide) ?_ ?_
  · exact s_vret X hr (dk okd_J7_fill_d0a16 3 rfl) rfl rfl
  · refine s_run X ok_J7_fill_d0a16 6 3 (pc' := 15) (vs' := [some (.ref p0), some (.long p1), none, some (.int x2), some (.int v1)]) (st' := [.long p1, .int x2, .ref p0]) rfl ?_
    refine s_last X t0_ (dk okd_J7_fill_d0a16 2 rfl) (fun S6 => ?_)
    refine s_run X ok_J7_fill_d0a16 9 2 (pc' := 6) (vs' := [some (.ref p0), some (.long p1), none, some (.int (x2 + 1)), some (.int v1)]) (st' := []) rfl ?_
    exact h5 (x2 + 1) S6
def tab_J7_fill_53178 : List En := [(0, 0, 0, 0), (1, 10, 2, 0), (2, 8, 0, 0), (4, 10, 3, 0), (5, 4, 2, 0), (6, 4, 3, 0), (10, 8, 0, 0), (11, 4, 2, 0), (12, 4, 1, 0), (14, 16, 2, 1), (17, 41, 5, 0)]
theorem ok_J7_fill_53178 : tab_J7_fill_53178.all (okE cJ7_fill_53178) = true := by decide +kernel
def ed_J7_fill_53178 : List (Nat × Instr × Nat) := [(3, .arraylength, 1), (7, .if_icmp .ge 13, 3), (13, .iastore, 1), (20, .return_, 1)]
theorem okd_J7_fill_53178 : ed_J7_fill_53178.all (okD cJ7_fill_53178) = true := by decide +kernel
def f_J7_fill_53178 (S : St) (p0 : Nat) (p1 : Int32) : Option (St) := lt (nI (gN S p0)) fun (v1 : Int32) => lp (κ := Int32 → St → Option (St)) (fun _ _ => none) (fun k4 x2 S3 => if v1 ≤ x2 then (some S3) else (stI S3 p0 x2 p1 fun (S6 : St) => k4 (x2 + 1) S6)) FU 0 S
set_option maxHeartbeats 4000000 in
set_option maxRecDepth 100000 in
theorem c_J7_fill_53178 (S : St) (p0 : Nat) (p1 : Int32) : Ct yJ7_fill_53178 cJ7_fill_53178 4 none 0 0 (fun _ => [.ref p0, .int p1]) [(p0, 13)] S (f_J7_fill_53178 S p0 p1) oV sV := by
  refine Ct_of RJ7 rfl (by decide) (fun _ => Nat.le_of_ble_eq_true rfl) 2 (vs := fun _ => [some (.ref p0), some (.int p1), none, none]) (fun _ => rfl) (fun C X E hr ht => ?_)
  have t0_ : tT C p0 13 := ht (p0, 13) (by simp)
  show Jd C 4 (QJ C oV sV) S 0 [some (.ref p0), some (.int p1), none, none] [] (f_J7_fill_53178 S p0 p1)
  unfold f_J7_fill_53178
  refine s_run X ok_J7_fill_53178 0 3 (pc' := 3) (vs' := [some (.ref p0), some (.int p1), some (.int 0), none]) (st' := [.ref p0]) rfl ?_
  refine s_alen13 X t0_ (dk okd_J7_fill_53178 0 rfl) (fun v1 => ?_)
  refine s_run X ok_J7_fill_53178 3 1 (pc' := 5) (vs' := [some (.ref p0), some (.int p1), some (.int 0), some (.int v1)]) (st' := []) rfl ?_
  refine s_lp (κ := Int32 → St → Option (St)) (fun k4 => ∀ (x2 : Int32) (S3 : St), Jd C 4 (QJ C oV sV) S3 5 [some (.ref p0), some (.int p1), some (.int x2), some (.int v1)] [] (k4 x2 S3)) (fun _ _ => s_none) (fun k4 h5 x2 S3 => ?_) FU 0 S
  refine s_run X ok_J7_fill_53178 4 2 (pc' := 7) (vs' := [some (.ref p0), some (.int p1), some (.int x2), some (.int v1)]) (st' := [.int v1, .int x2]) rfl ?_
  refine s_icmp_ge (tgt := 20) X (dk okd_J7_fill_53178 1 rfl) (by decide) ?_ ?_
  · exact s_vret X hr (dk okd_J7_fill_53178 3 rfl) rfl rfl
  · refine s_run X ok_J7_fill_53178 6 3 (pc' := 13) (vs' := [some (.ref p0), some (.int p1), some (.int x2), some (.int v1)]) (st' := [.int p1, .int x2, .ref p0]) rfl ?_
    refine s_iast X t0_ (dk okd_J7_fill_53178 2 rfl) (fun S6 => ?_)
    refine s_run X ok_J7_fill_53178 9 2 (pc' := 5) (vs' := [some (.ref p0), some (.int p1), some (.int (x2 + 1)), some (.int v1)]) (st' := []) rfl ?_
    exact h5 (x2 + 1) S6
def tab_J3_checkIndex_8e157 : List En := [(0, 4, 0, 0), (4, 4, 0, 0), (5, 4, 1, 0), (9, 8, 2, 0), (10, 4, 0, 0), (11, 4, 1, 0), (16, 4, 0, 0)]
theorem ok_J3_checkIndex_8e157 : tab_J3_checkIndex_8e157.all (okE cJ3_checkIndex_8e157) = true := by decide +kernel
def ed_J3_checkIndex_8e157 : List (Nat × Instr × Nat) := [(1, .ifCond .lt 8, 3), (6, .if_icmp .lt 10, 3), (12, .invokestatic 95, 3), (15, .athrow, 1), (17, .ireturn, 1)]
theorem okd_J3_checkIndex_8e157 : ed_J3_checkIndex_8e157.all (okD cJ3_checkIndex_8e157) = true := by decide +kernel
def f_J3_checkIndex_8e157 (S : St) (p0 : Int32) (p1 : Int32) : Option (Int32) := jn (κ := Option (Int32)) (none) fun k1 => if p0 < 0 then (k1) else (if p0 < p1 then (some p0) else (k1))
set_option maxHeartbeats 4000000 in
set_option maxRecDepth 100000 in
theorem c_J3_checkIndex_8e157 (S : St) (p0 : Int32) (p1 : Int32) (p2 : Value) (hv_p2 : p2.category = 1) : Ct yJ3_checkIndex_8e157 cJ3_checkIndex_8e157 3 (some .int) 0 0 (fun _ => [.int p0, .int p1, p2]) [] S (f_J3_checkIndex_8e157 S p0 p1) oI (fun _ => S) := by
  refine Ct_of RJ3 rfl (by decide) (fun _ => by simp [lg_sl, hv_p2, show ∀ x : Int32, (Value.int x).category = 1 from fun _ => rfl]) 0 (vs := fun _ => [some (.int p0), some (.int p1), some p2]) (fun _ => by simp [vsa, hv_p2, show ∀ x : Int32, (Value.int x).category = 1 from fun _ => rfl]) (fun C X E hr ht => ?_)
  show Jd C 3 (QJ C oI (fun _ => S)) S 0 [some (.int p0), some (.int p1), some p2] [] (f_J3_checkIndex_8e157 S p0 p1)
  unfold f_J3_checkIndex_8e157
  refine s_run X ok_J3_checkIndex_8e157 0 1 (pc' := 1) (vs' := [some (.int p0), some (.int p1), some p2]) (st' := [.int p0]) rfl ?_
  refine s_jn (κ := Option (Int32)) (fun k1 => Jd C 3 (QJ C oI (fun _ => S)) S 9 [some (.int p0), some (.int p1), some p2] [] k1) ?_ (fun k1 h2 => ?_)
  · exact s_none
  · refine s_if_lt (tgt := 9) X (dk okd_J3_checkIndex_8e157 0 rfl) (by decide) ?_ ?_
    · exact h2
    · refine s_run X ok_J3_checkIndex_8e157 1 2 (pc' := 6) (vs' := [some (.int p0), some (.int p1), some p2]) (st' := [.int p1, .int p0]) rfl ?_
      refine s_icmp_lt (tgt := 16) X (dk okd_J3_checkIndex_8e157 1 rfl) (by decide) ?_ ?_
      · refine s_run X ok_J3_checkIndex_8e157 6 1 (pc' := 17) (vs' := [some (.int p0), some (.int p1), some p2]) (st' := [.int p0]) rfl ?_
        exact s_iret X hr (dk okd_J3_checkIndex_8e157 4 rfl) rfl rfl
      · exact h2
def tab_X0_clear : List En := [(0, 8, 0, 0), (4, 3, 0, 0), (8, 8, 0, 0), (12, 3, 0, 0), (16, 8, 0, 0), (20, 3, 0, 0), (24, 8, 0, 0), (28, 3, 0, 0), (32, 8, 0, 0), (33, 0, 0, 0)]
theorem ok_X0_clear : tab_X0_clear.all (okE cX0_clear) = true := by decide +kernel
def ed_X0_clear : List (Nat × Instr × Nat) := [(1, .getfield 18, 3), (5, .invokestatic 30, 3), (9, .getfield 21, 3), (13, .invokestatic 30, 3), (17, .getfield 24, 3), (21, .invokestatic 30, 3), (25, .getfield 27, 3), (29, .invokestatic 30, 3), (34, .putfield 36, 3), (37, .return_, 1)]
theorem okd_X0_clear : ed_X0_clear.all (okD cX0_clear) = true := by decide +kernel
def f_X0_clear (S : St) (p0 : Nat) : Option (St) := lt (gR S p0 2) fun (a1 : Nat) => cl (f_J7_fill_d0a16 S a1 0) fun (S3 : St) => lt (gR S3 p0 3) fun (a4 : Nat) => cl (f_J7_fill_d0a16 S3 a4 0) fun (S6 : St) => lt (gR S6 p0 4) fun (a7 : Nat) => cl (f_J7_fill_d0a16 S6 a7 0) fun (S9 : St) => lt (gR S9 p0 5) fun (a10 : Nat) => cl (f_J7_fill_d0a16 S9 a10 0) fun (S12 : St) => lt (uI S12 p0 6 0) fun (S13 : St) => some S13
set_option maxHeartbeats 4000000 in
set_option maxRecDepth 100000 in
theorem c_X0_clear (S : St) (p0 : Nat) : Ct yX0_clear cX0_clear 1 none 1 24 (fun _ => [.ref p0]) [(p0, 0)] S (f_X0_clear S p0) oV sV := by
  refine Ct_of RX0 rfl (by decide) (fun _ => Nat.le_of_ble_eq_true rfl) 0 (vs := fun _ => [some (.ref p0)]) (fun _ => rfl) (fun C X E hr ht => ?_)
  have t0_ : tT C p0 0 := ht (p0, 0) (by simp)
  show Jd C 1 (QJ C oV sV) S 0 [some (.ref p0)] [] (f_X0_clear S p0)
  unfold f_X0_clear
  refine s_run X ok_X0_clear 0 1 (pc' := 1) (vs' := [some (.ref p0)]) (st' := [.ref p0]) rfl ?_
  refine s_getR X fl_X0_18 t0_ (dk okd_X0_clear 0 rfl) (fun a1 (t2 : tT C a1 14) => ?_)
  refine s_run X ok_X0_clear 1 1 (pc' := 5) (vs' := [some (.ref p0)]) (st' := [.long 0, .ref a1]) rfl ?_
  refine s_callS (As := [.ref a1, .long 0]) (rest := []) X E ms_X0_30 (c_J7_fill_d0a16 S a1 0) rfl (ta1 t2) rfl rfl (Nat.le_of_ble_eq_true rfl) (Nat.le_of_ble_eq_true rfl) (Nat.le_of_ble_eq_true rfl) (dk okd_X0_clear 1 rfl) (st' := fun S3 => []) (fun _ => rfl) (fun S3 => ?_)
  refine s_run X ok_X0_clear 2 1 (pc' := 9) (vs' := [some (.ref p0)]) (st' := [.ref p0]) rfl ?_
  refine s_getR X fl_X0_21 t0_ (dk okd_X0_clear 2 rfl) (fun a4 (t5 : tT C a4 14) => ?_)
  refine s_run X ok_X0_clear 3 1 (pc' := 13) (vs' := [some (.ref p0)]) (st' := [.long 0, .ref a4]) rfl ?_
  refine s_callS (As := [.ref a4, .long 0]) (rest := []) X E ms_X0_30 (c_J7_fill_d0a16 S3 a4 0) rfl (ta1 t5) rfl rfl (Nat.le_of_ble_eq_true rfl) (Nat.le_of_ble_eq_true rfl) (Nat.le_of_ble_eq_true rfl) (dk okd_X0_clear 3 rfl) (st' := fun S6 => []) (fun _ => rfl) (fun S6 => ?_)
  refine s_run X ok_X0_clear 4 1 (pc' := 17) (vs' := [some (.ref p0)]) (st' := [.ref p0]) rfl ?_
  refine s_getR X fl_X0_24 t0_ (dk okd_X0_clear 4 rfl) (fun a7 (t8 : tT C a7 14) => ?_)
  refine s_run X ok_X0_clear 5 1 (pc' := 21) (vs' := [some (.ref p0)]) (st' := [.long 0, .ref a7]) rfl ?_
  refine s_callS (As := [.ref a7, .long 0]) (rest := []) X E ms_X0_30 (c_J7_fill_d0a16 S6 a7 0) rfl (ta1 t8) rfl rfl (Nat.le_of_ble_eq_true rfl) (Nat.le_of_ble_eq_true rfl) (Nat.le_of_ble_eq_true rfl) (dk okd_X0_clear 5 rfl) (st' := fun S9 => []) (fun _ => rfl) (fun S9 => ?_)
  refine s_run X ok_X0_clear 6 1 (pc' := 25) (vs' := [some (.ref p0)]) (st' := [.ref p0]) rfl ?_
  refine s_getR X fl_X0_27 t0_ (dk okd_X0_clear 6 rfl) (fun a10 (t11 : tT C a10 14) => ?_)
  refine s_run X ok_X0_clear 7 1 (pc' := 29) (vs' := [some (.ref p0)]) (st' := [.long 0, .ref a10]) rfl ?_
  refine s_callS (As := [.ref a10, .long 0]) (rest := []) X E ms_X0_30 (c_J7_fill_d0a16 S9 a10 0) rfl (ta1 t11) rfl rfl (Nat.le_of_ble_eq_true rfl) (Nat.le_of_ble_eq_true rfl) (Nat.le_of_ble_eq_true rfl) (dk okd_X0_clear 7 rfl) (st' := fun S12 => []) (fun _ => rfl) (fun S12 => ?_)
  refine s_run X ok_X0_clear 8 2 (pc' := 34) (vs' := [some (.ref p0)]) (st' := [.int 0, .ref p0]) rfl ?_
  refine s_putI X fp_X0_36 t0_ (dk okd_X0_clear 8 rfl) (fun S13 => ?_)
  exact s_vret X hr (dk okd_X0_clear 9 rfl) rfl rfl
def tab_X0_ranksBefore : List En := [(0, 8, 0, 0), (1, 4, 1, 0), (5, 12, 3, 0), (6, 8, 0, 0), (7, 4, 2, 0), (11, 13, 5, 0), (13, 6, 3, 0), (14, 7, 5, 0), (16, 40, 0, 0), (20, 6, 3, 0), (21, 7, 5, 0), (23, 40, 0, 0), (27, 4, 1, 0), (28, 4, 2, 0), (32, 0, 0, 1), (33, 41, 37, 0), (36, 0, 0, 0)]
theorem ok_X0_ranksBefore : tab_X0_ranksBefore.all (okE cX0_ranksBefore) = true := by decide +kernel
def ed_X0_ranksBefore : List (Nat × Instr × Nat) := [(2, .invokevirtual 62, 3), (8, .invokevirtual 62, 3), (17, .ifCond .gt 15, 3), (24, .ifCond .ne 12, 3), (29, .if_icmp .ge 7, 3), (37, .ireturn, 1)]
theorem okd_X0_ranksBefore : ed_X0_ranksBefore.all (okD cX0_ranksBefore) = true := by decide +kernel
def f_X0_ranksBefore (S : St) (p0 : Nat) (p1 : Int32) (p2 : Int32) : Option (Int32) := cl (f_X0_salesOfAllMonths S p0 p1) fun (v1 : Int64) => cl (f_X0_salesOfAllMonths S p0 p2) fun (v2 : Int64) => jn (κ := Option (Int32)) (some 1) fun k3 => if v2 < v1 then (k3) else (jn (κ := Option (Int32)) (some 0) fun k5 => if v1 = v2 then (if p2 ≤ p1 then (k5) else (k3)) else (k5))
set_option maxHeartbeats 4000000 in
set_option maxRecDepth 100000 in
theorem c_X0_ranksBefore (S : St) (p0 : Nat) (p1 : Int32) (p2 : Int32) : Ct yX0_ranksBefore cX0_ranksBefore 7 (some .boolean) 3 67 (fun _ => [.ref p0, .int p1, .int p2]) [(p0, 0)] S (f_X0_ranksBefore S p0 p1 p2) oI (fun _ => S) := by
  refine Ct_of RX0 rfl (by decide) (fun _ => Nat.le_of_ble_eq_true rfl) 4 (vs := fun _ => [some (.ref p0), some (.int p1), some (.int p2), none, none, none, none]) (fun _ => rfl) (fun C X E hr ht => ?_)
  have t0_ : tT C p0 0 := ht (p0, 0) (by simp)
  show Jd C 7 (QJ C oI (fun _ => S)) S 0 [some (.ref p0), some (.int p1), some (.int p2), none, none, none, none] [] (f_X0_ranksBefore S p0 p1 p2)
  unfold f_X0_ranksBefore
  refine s_run X ok_X0_ranksBefore 0 2 (pc' := 2) (vs' := [some (.ref p0), some (.int p1), some (.int p2), none, none, none, none]) (st' := [.int p1, .ref p0]) rfl ?_
  refine s_callV (b := p0) (As := [.int p1]) (rest := []) X E mv_X0_62 (c_X0_salesOfAllMonths S p0 p1) rfl (ta1 t0_) rfl (by decide) t0_ rfl rfl (Nat.le_of_ble_eq_true rfl) (Nat.le_of_ble_eq_true rfl) (Nat.le_of_ble_eq_true rfl) (dk okd_X0_ranksBefore 0 rfl) (st' := fun v1 => [.long v1]) (fun _ => rfl) (fun v1 => ?_)
  refine s_run X ok_X0_ranksBefore 2 3 (pc' := 8) (vs' := [some (.ref p0), some (.int p1), some (.int p2), some (.long v1), none, none, none]) (st' := [.int p2, .ref p0]) rfl ?_
  refine s_callV (b := p0) (As := [.int p2]) (rest := []) X E mv_X0_62 (c_X0_salesOfAllMonths S p0 p2) rfl (ta1 t0_) rfl (by decide) t0_ rfl rfl (Nat.le_of_ble_eq_true rfl) (Nat.le_of_ble_eq_true rfl) (Nat.le_of_ble_eq_true rfl) (dk okd_X0_ranksBefore 1 rfl) (st' := fun v2 => [.long v2]) (fun _ => rfl) (fun v2 => ?_)
  refine s_run X ok_X0_ranksBefore 5 4 (pc' := 17) (vs' := [some (.ref p0), some (.int p1), some (.int p2), some (.long v1), none, some (.long v2), none]) (st' := [.int (lg_cmp v1 v2)]) rfl ?_
  refine s_jn (κ := Option (Int32)) (fun k3 => Jd C 7 (QJ C oI (fun _ => S)) S 32 [none, none, none, none, none, none, none] [] k3) ?_ (fun k3 h4 => ?_)
  · refine s_run X ok_X0_ranksBefore 14 2 (pc' := 37) (vs' := [none, none, none, none, none, none, none]) (st' := [.int 1]) rfl ?_
    exact s_zret0 X hr (dk okd_X0_ranksBefore 5 rfl) (by decide) rfl rfl
  · refine s_lif_gt (tgt := 32) X (dk okd_X0_ranksBefore 2 rfl) (by decide) ?_ ?_
    · exact s_less [false, false, false, false, false, false, false] rfl (h4)
    · refine s_run X ok_X0_ranksBefore 9 3 (pc' := 24) (vs' := [some (.ref p0), some (.int p1), some (.int p2), some (.long v1), none, some (.long v2), none]) (st' := [.int (lg_cmp v1 v2)]) rfl ?_
      refine s_jn (κ := Option (Int32)) (fun k5 => Jd C 7 (QJ C oI (fun _ => S)) S 36 [none, none, none, none, none, none, none] [] k5) ?_ (fun k5 h6 => ?_)
      · refine s_run X ok_X0_ranksBefore 16 1 (pc' := 37) (vs' := [none, none, none, none, none, none, none]) (st' := [.int 0]) rfl ?_
        exact s_zret0 X hr (dk okd_X0_ranksBefore 5 rfl) (by decide) rfl rfl
      · refine s_lif_ne (tgt := 36) X (dk okd_X0_ranksBefore 3 rfl) (by decide) ?_ ?_
        · exact s_less [false, false, false, false, false, false, false] rfl (h6)
        · refine s_run X ok_X0_ranksBefore 12 2 (pc' := 29) (vs' := [some (.ref p0), some (.int p1), some (.int p2), some (.long v1), none, some (.long v2), none]) (st' := [.int p2, .int p1]) rfl ?_
          refine s_icmp_ge (tgt := 36) X (dk okd_X0_ranksBefore 4 rfl) (by decide) ?_ ?_
          · exact s_less [false, false, false, false, false, false, false] rfl (h6)
          · exact s_less [false, false, false, false, false, false, false] rfl (h4)
def tab_X0_forgetDeliveries : List En := [(0, 8, 0, 0), (4, 3, 0, 0)]
theorem ok_X0_forgetDeliveries : tab_X0_forgetDeliveries.all (okE cX0_forgetDeliveries) = true := by decide +kernel
def ed_X0_forgetDeliveries : List (Nat × Instr × Nat) := [(1, .getfield 18, 3), (5, .invokestatic 30, 3), (8, .return_, 1)]
theorem okd_X0_forgetDeliveries : ed_X0_forgetDeliveries.all (okD cX0_forgetDeliveries) = true := by decide +kernel
def f_X0_forgetDeliveries (S : St) (p0 : Nat) : Option (St) := lt (gR S p0 2) fun (a1 : Nat) => cl (f_J7_fill_d0a16 S a1 0) fun (S3 : St) => some S3
set_option maxHeartbeats 4000000 in
set_option maxRecDepth 100000 in
theorem c_X0_forgetDeliveries (S : St) (p0 : Nat) : Ct yX0_forgetDeliveries cX0_forgetDeliveries 1 none 1 24 (fun _ => [.ref p0]) [(p0, 0)] S (f_X0_forgetDeliveries S p0) oV sV := by
  refine Ct_of RX0 rfl (by decide) (fun _ => Nat.le_of_ble_eq_true rfl) 0 (vs := fun _ => [some (.ref p0)]) (fun _ => rfl) (fun C X E hr ht => ?_)
  have t0_ : tT C p0 0 := ht (p0, 0) (by simp)
  show Jd C 1 (QJ C oV sV) S 0 [some (.ref p0)] [] (f_X0_forgetDeliveries S p0)
  unfold f_X0_forgetDeliveries
  refine s_run X ok_X0_forgetDeliveries 0 1 (pc' := 1) (vs' := [some (.ref p0)]) (st' := [.ref p0]) rfl ?_
  refine s_getR X fl_X0_18 t0_ (dk okd_X0_forgetDeliveries 0 rfl) (fun a1 (t2 : tT C a1 14) => ?_)
  refine s_run X ok_X0_forgetDeliveries 1 1 (pc' := 5) (vs' := [some (.ref p0)]) (st' := [.long 0, .ref a1]) rfl ?_
  refine s_callS (As := [.ref a1, .long 0]) (rest := []) X E ms_X0_30 (c_J7_fill_d0a16 S a1 0) rfl (ta1 t2) rfl rfl (Nat.le_of_ble_eq_true rfl) (Nat.le_of_ble_eq_true rfl) (Nat.le_of_ble_eq_true rfl) (dk okd_X0_forgetDeliveries 1 rfl) (st' := fun S3 => []) (fun _ => rfl) (fun S3 => ?_)
  exact s_vret X hr (dk okd_X0_forgetDeliveries 2 rfl) rfl rfl
def tab_X1_copyFrom : List En := [(0, 8, 0, 0), (4, 8, 1, 0), (11, 8, 0, 0), (15, 8, 1, 0), (22, 8, 0, 0), (26, 8, 1, 0), (33, 8, 0, 0), (37, 8, 1, 0), (44, 8, 0, 0), (48, 8, 1, 0)]
theorem ok_X1_copyFrom : tab_X1_copyFrom.all (okE cX1_copyFrom) = true := by decide +kernel
def ed_X1_copyFrom : List (Nat × Instr × Nat) := [(1, .getfield 21, 3), (5, .getfield 21, 3), (8, .invokevirtual 68, 3), (12, .getfield 28, 3), (16, .getfield 28, 3), (19, .invokevirtual 72, 3), (23, .getfield 35, 3), (27, .getfield 35, 3), (30, .invokevirtual 75, 3), (34, .getfield 42, 3), (38, .getfield 42, 3), (41, .invokevirtual 78, 3), (45, .getfield 49, 3), (49, .getfield 49, 3), (52, .invokevirtual 81, 3), (55, .return_, 1)]
theorem okd_X1_copyFrom : ed_X1_copyFrom.all (okD cX1_copyFrom) = true := by decide +kernel
def f_X1_copyFrom (S : St) (p0 : Nat) (p1 : Nat) : Option (St) := lt (gR S p0 1) fun (a1 : Nat) => lt (gR S p1 1) fun (a3 : Nat) => cl (f_X3_copyFrom S a1 a3) fun (S5 : St) => lt (gR S5 p0 2) fun (a6 : Nat) => lt (gR S5 p1 2) fun (a8 : Nat) => cl (f_X6_copyFrom S5 a6 a8) fun (S10 : St) => lt (gR S10 p0 3) fun (a11 : Nat) => lt (gR S10 p1 3) fun (a13 : Nat) => cl (f_X2_copyFrom S10 a11 a13) fun (S15 : St) => lt (gR S15 p0 4) fun (a16 : Nat) => lt (gR S15 p1 4) fun (a18 : Nat) => cl (f_X10_copyFrom S15 a16 a18) fun (S20 : St) => lt (gR S20 p0 5) fun (a21 : Nat) => lt (gR S20 p1 5) fun (a23 : Nat) => cl (f_X0_copyFrom S20 a21 a23) fun (S25 : St) => some S25
set_option maxHeartbeats 4000000 in
set_option maxRecDepth 100000 in
theorem c_X1_copyFrom (S : St) (p0 : Nat) (p1 : Nat) : Ct yX1_copyFrom cX1_copyFrom 2 none 2 70 (fun _ => [.ref p0, .ref p1]) [(p0, 1), (p1, 1)] S (f_X1_copyFrom S p0 p1) oV sV := by
  refine Ct_of RX1 rfl (by decide) (fun _ => Nat.le_of_ble_eq_true rfl) 0 (vs := fun _ => [some (.ref p0), some (.ref p1)]) (fun _ => rfl) (fun C X E hr ht => ?_)
  have t0_ : tT C p0 1 := ht (p0, 1) (by simp)
  have t1_ : tT C p1 1 := ht (p1, 1) (by simp)
  show Jd C 2 (QJ C oV sV) S 0 [some (.ref p0), some (.ref p1)] [] (f_X1_copyFrom S p0 p1)
  unfold f_X1_copyFrom
  refine s_run X ok_X1_copyFrom 0 1 (pc' := 1) (vs' := [some (.ref p0), some (.ref p1)]) (st' := [.ref p0]) rfl ?_
  refine s_getR X fl_X1_21 t0_ (dk okd_X1_copyFrom 0 rfl) (fun a1 (t2 : tT C a1 3) => ?_)
  refine s_run X ok_X1_copyFrom 1 1 (pc' := 5) (vs' := [some (.ref p0), some (.ref p1)]) (st' := [.ref p1, .ref a1]) rfl ?_
  refine s_getR X fl_X1_21 t1_ (dk okd_X1_copyFrom 1 rfl) (fun a3 (t4 : tT C a3 3) => ?_)
  refine s_callV (b := a1) (As := [.ref a3]) (rest := []) X E mv_X1_68 (c_X3_copyFrom S a1 a3) rfl (ta2 t2 t4) rfl (by decide) t2 rfl rfl (Nat.le_of_ble_eq_true rfl) (Nat.le_of_ble_eq_true rfl) (Nat.le_of_ble_eq_true rfl) (dk okd_X1_copyFrom 2 rfl) (st' := fun S5 => []) (fun _ => rfl) (fun S5 => ?_)
  refine s_run X ok_X1_copyFrom 2 1 (pc' := 12) (vs' := [some (.ref p0), some (.ref p1)]) (st' := [.ref p0]) rfl ?_
  refine s_getR X fl_X1_28 t0_ (dk okd_X1_copyFrom 3 rfl) (fun a6 (t7 : tT C a6 6) => ?_)
  refine s_run X ok_X1_copyFrom 3 1 (pc' := 16) (vs' := [some (.ref p0), some (.ref p1)]) (st' := [.ref p1, .ref a6]) rfl ?_
  refine s_getR X fl_X1_28 t1_ (dk okd_X1_copyFrom 4 rfl) (fun a8 (t9 : tT C a8 6) => ?_)
  refine s_callV (b := a6) (As := [.ref a8]) (rest := []) X E mv_X1_72 (c_X6_copyFrom S5 a6 a8) rfl (ta2 t7 t9) rfl (by decide) t7 rfl rfl (Nat.le_of_ble_eq_true rfl) (Nat.le_of_ble_eq_true rfl) (Nat.le_of_ble_eq_true rfl) (dk okd_X1_copyFrom 5 rfl) (st' := fun S10 => []) (fun _ => rfl) (fun S10 => ?_)
  refine s_run X ok_X1_copyFrom 4 1 (pc' := 23) (vs' := [some (.ref p0), some (.ref p1)]) (st' := [.ref p0]) rfl ?_
  refine s_getR X fl_X1_35 t0_ (dk okd_X1_copyFrom 6 rfl) (fun a11 (t12 : tT C a11 2) => ?_)
  refine s_run X ok_X1_copyFrom 5 1 (pc' := 27) (vs' := [some (.ref p0), some (.ref p1)]) (st' := [.ref p1, .ref a11]) rfl ?_
  refine s_getR X fl_X1_35 t1_ (dk okd_X1_copyFrom 7 rfl) (fun a13 (t14 : tT C a13 2) => ?_)
  refine s_callV (b := a11) (As := [.ref a13]) (rest := []) X E mv_X1_75 (c_X2_copyFrom S10 a11 a13) rfl (ta2 t12 t14) rfl (by decide) t12 rfl rfl (Nat.le_of_ble_eq_true rfl) (Nat.le_of_ble_eq_true rfl) (Nat.le_of_ble_eq_true rfl) (dk okd_X1_copyFrom 8 rfl) (st' := fun S15 => []) (fun _ => rfl) (fun S15 => ?_)
  refine s_run X ok_X1_copyFrom 6 1 (pc' := 34) (vs' := [some (.ref p0), some (.ref p1)]) (st' := [.ref p0]) rfl ?_
  refine s_getR X fl_X1_42 t0_ (dk okd_X1_copyFrom 9 rfl) (fun a16 (t17 : tT C a16 9) => ?_)
  refine s_run X ok_X1_copyFrom 7 1 (pc' := 38) (vs' := [some (.ref p0), some (.ref p1)]) (st' := [.ref p1, .ref a16]) rfl ?_
  refine s_getR X fl_X1_42 t1_ (dk okd_X1_copyFrom 10 rfl) (fun a18 (t19 : tT C a18 9) => ?_)
  refine s_callV (b := a16) (As := [.ref a18]) (rest := []) X E mv_X1_78 (c_X10_copyFrom S15 a16 a18) rfl (ta2 t17 t19) rfl (by decide) t17 rfl rfl (Nat.le_of_ble_eq_true rfl) (Nat.le_of_ble_eq_true rfl) (Nat.le_of_ble_eq_true rfl) (dk okd_X1_copyFrom 11 rfl) (st' := fun S20 => []) (fun _ => rfl) (fun S20 => ?_)
  refine s_run X ok_X1_copyFrom 8 1 (pc' := 45) (vs' := [some (.ref p0), some (.ref p1)]) (st' := [.ref p0]) rfl ?_
  refine s_getR X fl_X1_49 t0_ (dk okd_X1_copyFrom 12 rfl) (fun a21 (t22 : tT C a21 0) => ?_)
  refine s_run X ok_X1_copyFrom 9 1 (pc' := 49) (vs' := [some (.ref p0), some (.ref p1)]) (st' := [.ref p1, .ref a21]) rfl ?_
  refine s_getR X fl_X1_49 t1_ (dk okd_X1_copyFrom 13 rfl) (fun a23 (t24 : tT C a23 0) => ?_)
  refine s_callV (b := a21) (As := [.ref a23]) (rest := []) X E mv_X1_81 (c_X0_copyFrom S20 a21 a23) rfl (ta2 t22 t24) rfl (by decide) t22 rfl rfl (Nat.le_of_ble_eq_true rfl) (Nat.le_of_ble_eq_true rfl) (Nat.le_of_ble_eq_true rfl) (dk okd_X1_copyFrom 14 rfl) (st' := fun S25 => []) (fun _ => rfl) (fun S25 => ?_)
  exact s_vret X hr (dk okd_X1_copyFrom 15 rfl) rfl rfl
