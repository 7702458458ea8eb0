theorem cl_X6_47 : Cond.constantLong RX6 47 (-1) ∈ TT := TT_4 (i := 228) rfl rfl
theorem cl_X6_53 : Cond.constantLong RX6 53 100 ∈ TT := TT_5 (i := 26) rfl rfl
theorem fl_X10_15 : FL RX10 15 9 1 2 := ⟨RX10, TX10, 6, rfl, by decide, uw_X10, TT_2 (i := 30) rfl rfl, rfl, rfl, by decide⟩
theorem fl_X10_18 : FL RX10 18 9 2 2 := ⟨RX10, TX10, 6, rfl, by decide, uw_X10, TT_2 (i := 32) rfl rfl, rfl, rfl, by decide⟩
theorem fl_X10_21 : FL RX10 21 9 3 2 := ⟨RX10, TX10, 6, rfl, by decide, uw_X10, TT_2 (i := 34) rfl rfl, rfl, rfl, by decide⟩
theorem fl_X10_25 : FL RX10 25 9 4 2 := ⟨RX10, TX10, 6, rfl, by decide, uw_X10, TT_2 (i := 36) rfl rfl, rfl, rfl, by decide⟩
theorem fl_X10_28 : FL RX10 28 9 5 2 := ⟨RX10, TX10, 6, rfl, by decide, uw_X10, TT_2 (i := 37) rfl rfl, rfl, rfl, by decide⟩
theorem fl_X10_9 : FL RX10 9 9 0 2 := ⟨RX10, TX10, 6, rfl, by decide, uw_X10, TT_2 (i := 27) rfl rfl, rfl, rfl, by decide⟩
theorem fl_X11_12 : FL RX11 12 10 0 2 := ⟨RX11, TX11, 11, rfl, by decide, uw_X11, TT_2 (i := 184) rfl rfl, rfl, rfl, by decide⟩
theorem fl_X11_121 : FL RX11 121 1 0 2 := ⟨RX1, TX1, 7, rfl, by decide, uw_X1, TT_2 (i := 87) rfl rfl, rfl, rfl, by decide⟩
theorem fl_X11_125 : FL RX11 125 7 4 0 := ⟨RX8, TX8, 12, rfl, by decide, uw_X8, TT_1 (i := 131) rfl rfl, rfl, rfl, by decide⟩
theorem fl_X11_130 : FL RX11 130 2 8 0 := ⟨RX2, TX2, 9, rfl, by decide, uw_X2, TT_2 (i := 1) rfl rfl, rfl, rfl, by decide⟩
theorem fl_X11_133 : FL RX11 133 1 2 2 := ⟨RX1, TX1, 7, rfl, by decide, uw_X1, TT_2 (i := 94) rfl rfl, rfl, rfl, by decide⟩
theorem fl_X11_137 : FL RX11 137 6 4 0 := ⟨RX6, TX6, 5, rfl, by decide, uw_X6, TT_1 (i := 200) rfl rfl, rfl, rfl, by decide⟩
theorem fl_X11_140 : FL RX11 140 1 5 2 := ⟨RX1, TX1, 7, rfl, by decide, uw_X1, TT_2 (i := 104) rfl rfl, rfl, rfl, by decide⟩
theorem fl_X11_144 : FL RX11 144 0 6 0 := ⟨RX0, TX0, 7, rfl, by decide, uw_X0, TT_2 (i := 68) rfl rfl, rfl, rfl, by decide⟩
theorem fl_X11_19 : FL RX11 19 10 1 2 := ⟨RX11, TX11, 11, rfl, by decide, uw_X11, TT_2 (i := 185) rfl rfl, rfl, rfl, by decide⟩
theorem fl_X11_392 : FL RX11 392 4 1 0 := ⟨RX4, TX4, 2, rfl, by decide, uw_X4, TT_1 (i := 86) rfl rfl, rfl, rfl, by decide⟩
theorem fl_X11_393 : FL RX11 393 4 0 2 := ⟨RX4, TX4, 2, rfl, by decide, uw_X4, TT_1 (i := 84) rfl rfl, rfl, rfl, by decide⟩
theorem fl_X11_394 : FL RX11 394 8 5 0 := ⟨RX9, TX9, 8, rfl, by decide, uw_X9, TT_1 (i := 55) rfl rfl, rfl, rfl, by decide⟩
theorem fl_X11_397 : FL RX11 397 8 6 0 := ⟨RX9, TX9, 8, rfl, by decide, uw_X9, TT_1 (i := 57) rfl rfl, rfl, rfl, by decide⟩
theorem fl_X11_41 : FL RX11 41 10 5 2 := ⟨RX11, TX11, 11, rfl, by decide, uw_X11, TT_2 (i := 189) rfl rfl, rfl, rfl, by decide⟩
theorem fl_X11_54 : FL RX11 54 10 7 2 := ⟨RX11, TX11, 11, rfl, by decide, uw_X11, TT_2 (i := 191) rfl rfl, rfl, rfl, by decide⟩
theorem fl_X11_61 : FL RX11 61 10 9 0 := ⟨RX11, TX11, 11, rfl, by decide, uw_X11, TT_2 (i := 193) rfl rfl, rfl, rfl, by decide⟩
theorem fl_X11_65 : FL RX11 65 10 10 0 := ⟨RX11, TX11, 11, rfl, by decide, uw_X11, TT_2 (i := 194) rfl rfl, rfl, rfl, by decide⟩
theorem fl_X11_68 : FL RX11 68 8 1 0 := ⟨RX9, TX9, 8, rfl, by decide, uw_X9, TT_1 (i := 45) rfl rfl, rfl, rfl, by decide⟩
theorem fl_X11_85 : FL RX11 85 1 3 2 := ⟨RX1, TX1, 7, rfl, by decide, uw_X1, TT_2 (i := 97) rfl rfl, rfl, rfl, by decide⟩
theorem fl_X5_35 : FL RX5 35 5 7 0 := ⟨RX5, TX5, 9, rfl, by decide, uw_X5, TT_2 (i := 162) rfl rfl, rfl, rfl, by decide⟩
theorem fl_X5_39 : FL RX5 39 5 8 0 := ⟨RX5, TX5, 9, rfl, by decide, uw_X5, TT_2 (i := 163) rfl rfl, rfl, rfl, by decide⟩
theorem fl_X6_15 : FL RX6 15 6 1 2 := ⟨RX6, TX6, 5, rfl, by decide, uw_X6, TT_1 (i := 190) rfl rfl, rfl, rfl, by decide⟩
theorem fl_X6_18 : FL RX6 18 6 2 2 := ⟨RX6, TX6, 5, rfl, by decide, uw_X6, TT_1 (i := 192) rfl rfl, rfl, rfl, by decide⟩
theorem fl_X6_21 : FL RX6 21 6 3 2 := ⟨RX6, TX6, 5, rfl, by decide, uw_X6, TT_1 (i := 194) rfl rfl, rfl, rfl, by decide⟩
theorem fl_X6_31 : FL RX6 31 6 4 0 := ⟨RX6, TX6, 5, rfl, by decide, uw_X6, TT_1 (i := 198) rfl rfl, rfl, rfl, by decide⟩
theorem fl_X6_9 : FL RX6 9 6 0 2 := ⟨RX6, TX6, 5, rfl, by decide, uw_X6, TT_1 (i := 187) rfl rfl, rfl, rfl, by decide⟩
theorem fl_X8_15 : FL RX8 15 7 1 2 := ⟨RX8, TX8, 12, rfl, by decide, uw_X8, TT_1 (i := 126) rfl rfl, rfl, rfl, by decide⟩
theorem fl_X8_18 : FL RX8 18 7 2 2 := ⟨RX8, TX8, 12, rfl, by decide, uw_X8, TT_1 (i := 127) rfl rfl, rfl, rfl, by decide⟩
theorem fl_X8_22 : FL RX8 22 7 3 2 := ⟨RX8, TX8, 12, rfl, by decide, uw_X8, TT_1 (i := 128) rfl rfl, rfl, rfl, by decide⟩
theorem fl_X8_25 : FL RX8 25 7 4 0 := ⟨RX8, TX8, 12, rfl, by decide, uw_X8, TT_1 (i := 129) rfl rfl, rfl, rfl, by decide⟩
theorem fl_X9_15 : FL RX9 15 8 1 0 := ⟨RX9, TX9, 8, rfl, by decide, uw_X9, TT_1 (i := 46) rfl rfl, rfl, rfl, by decide⟩
theorem fl_X9_19 : FL RX9 19 8 4 0 := ⟨RX9, TX9, 8, rfl, by decide, uw_X9, TT_1 (i := 52) rfl rfl, rfl, rfl, by decide⟩
theorem fl_X9_22 : FL RX9 22 8 5 0 := ⟨RX9, TX9, 8, rfl, by decide, uw_X9, TT_1 (i := 54) rfl rfl, rfl, rfl, by decide⟩
theorem fl_X9_32 : FL RX9 32 8 3 0 := ⟨RX9, TX9, 8, rfl, by decide, uw_X9, TT_1 (i := 50) rfl rfl, rfl, rfl, by decide⟩
theorem fl_X9_39 : FL RX9 39 8 2 0 := ⟨RX9, TX9, 8, rfl, by decide, uw_X9, TT_1 (i := 49) rfl rfl, rfl, rfl, by decide⟩
theorem fl_X9_42 : FL RX9 42 8 7 0 := ⟨RX9, TX9, 8, rfl, by decide, uw_X9, TT_1 (i := 58) rfl rfl, rfl, rfl, by decide⟩
theorem fl_X9_9 : FL RX9 9 8 0 2 := ⟨RX9, TX9, 8, rfl, by decide, uw_X9, TT_1 (i := 42) rfl rfl, rfl, rfl, by decide⟩
theorem fp_X11_61 : FP RX11 61 10 9 0 := ⟨RX11, TX11, 11, tyX11, tyX11 9, rfl, by decide, uw_X11, TT_2 (i := 193) rfl rfl, rfl, rfl, by decide, tyX11_ok, nmX11, rfl, tyX11_ok 9 (by decide), fun h => rfl, fun h => absurd h (by decide), fun h => absurd h (by decide)⟩
theorem fp_X11_65 : FP RX11 65 10 10 0 := ⟨RX11, TX11, 11, tyX11, tyX11 10, rfl, by decide, uw_X11, TT_2 (i := 194) rfl rfl, rfl, rfl, by decide, tyX11_ok, nmX11, rfl, tyX11_ok 10 (by decide), fun h => rfl, fun h => absurd h (by decide), fun h => absurd h (by decide)⟩
theorem fp_X11_68 : FP RX11 68 8 1 0 := ⟨RX9, TX9, 8, tyX9, tyX9 1, rfl, by decide, uw_X9, TT_1 (i := 45) rfl rfl, rfl, rfl, by decide, tyX9_ok, nmX9, rfl, tyX9_ok 1 (by decide), fun h => rfl, fun h => absurd h (by decide), fun h => absurd h (by decide)⟩
theorem fp_X6_31 : FP RX6 31 6 4 0 := ⟨RX6, TX6, 5, tyX6, tyX6 4, rfl, by decide, uw_X6, TT_1 (i := 198) rfl rfl, rfl, rfl, by decide, tyX6_ok, nmX6, rfl, tyX6_ok 4 (by decide), fun h => rfl, fun h => absurd h (by decide), fun h => absurd h (by decide)⟩
theorem fp_X8_25 : FP RX8 25 7 4 0 := ⟨RX8, TX8, 12, tyX8, tyX8 4, rfl, by decide, uw_X8, TT_1 (i := 129) rfl rfl, rfl, rfl, by decide, tyX8_ok, nmX8, rfl, tyX8_ok 4 (by decide), fun h => rfl, fun h => absurd h (by decide), fun h => absurd h (by decide)⟩
theorem fp_X8_29 : FP RX8 29 7 5 0 := ⟨RX8, TX8, 12, tyX8, tyX8 5, rfl, by decide, uw_X8, TT_1 (i := 132) rfl rfl, rfl, rfl, by decide, tyX8_ok, nmX8, rfl, tyX8_ok 5 (by decide), fun h => rfl, fun h => absurd h (by decide), fun h => absurd h (by decide)⟩
theorem fp_X8_32 : FP RX8 32 7 6 1 := ⟨RX8, TX8, 12, tyX8, tyX8 6, rfl, by decide, uw_X8, TT_1 (i := 135) rfl rfl, rfl, rfl, by decide, tyX8_ok, nmX8, rfl, tyX8_ok 6 (by decide), fun h => absurd h (by decide), fun h => rfl, fun h => absurd h (by decide)⟩
theorem fp_X8_36 : FP RX8 36 7 7 0 := ⟨RX8, TX8, 12, tyX8, tyX8 7, rfl, by decide, uw_X8, TT_1 (i := 138) rfl rfl, rfl, rfl, by decide, tyX8_ok, nmX8, rfl, tyX8_ok 7 (by decide), fun h => rfl, fun h => absurd h (by decide), fun h => absurd h (by decide)⟩
theorem fp_X8_39 : FP RX8 39 7 8 0 := ⟨RX8, TX8, 12, tyX8, tyX8 8, rfl, by decide, uw_X8, TT_1 (i := 141) rfl rfl, rfl, rfl, by decide, tyX8_ok, nmX8, rfl, tyX8_ok 8 (by decide), fun h => rfl, fun h => absurd h (by decide), fun h => absurd h (by decide)⟩
theorem fp_X8_42 : FP RX8 42 7 9 1 := ⟨RX8, TX8, 12, tyX8, tyX8 9, rfl, by decide, uw_X8, TT_1 (i := 144) rfl rfl, rfl, rfl, by decide, tyX8_ok, nmX8, rfl, tyX8_ok 9 (by decide), fun h => absurd h (by decide), fun h => rfl, fun h => absurd h (by decide)⟩
theorem fp_X8_45 : FP RX8 45 7 10 0 := ⟨RX8, TX8, 12, tyX8, tyX8 10, rfl, by decide, uw_X8, TT_1 (i := 147) rfl rfl, rfl, rfl, by decide, tyX8_ok, nmX8, rfl, tyX8_ok 10 (by decide), fun h => rfl, fun h => absurd h (by decide), fun h => absurd h (by decide)⟩
theorem fp_X8_48 : FP RX8 48 7 11 0 := ⟨RX8, TX8, 12, tyX8, tyX8 11, rfl, by decide, uw_X8, TT_1 (i := 150) rfl rfl, rfl, rfl, by decide, tyX8_ok, nmX8, rfl, tyX8_ok 11 (by decide), fun h => rfl, fun h => absurd h (by decide), fun h => absurd h (by decide)⟩
theorem fp_X9_15 : FP RX9 15 8 1 0 := ⟨RX9, TX9, 8, tyX9, tyX9 1, rfl, by decide, uw_X9, TT_1 (i := 46) rfl rfl, rfl, rfl, by decide, tyX9_ok, nmX9, rfl, tyX9_ok 1 (by decide), fun h => rfl, fun h => absurd h (by decide), fun h => absurd h (by decide)⟩
theorem fp_X9_19 : FP RX9 19 8 4 0 := ⟨RX9, TX9, 8, tyX9, tyX9 4, rfl, by decide, uw_X9, TT_1 (i := 52) rfl rfl, rfl, rfl, by decide, tyX9_ok, nmX9, rfl, tyX9_ok 4 (by decide), fun h => rfl, fun h => absurd h (by decide), fun h => absurd h (by decide)⟩
theorem fp_X9_22 : FP RX9 22 8 5 0 := ⟨RX9, TX9, 8, tyX9, tyX9 5, rfl, by decide, uw_X9, TT_1 (i := 54) rfl rfl, rfl, rfl, by decide, tyX9_ok, nmX9, rfl, tyX9_ok 5 (by decide), fun h => rfl, fun h => absurd h (by decide), fun h => absurd h (by decide)⟩
theorem fp_X9_25 : FP RX9 25 8 6 0 := ⟨RX9, TX9, 8, tyX9, tyX9 6, rfl, by decide, uw_X9, TT_1 (i := 56) rfl rfl, rfl, rfl, by decide, tyX9_ok, nmX9, rfl, tyX9_ok 6 (by decide), fun h => rfl, fun h => absurd h (by decide), fun h => absurd h (by decide)⟩
theorem fp_X9_32 : FP RX9 32 8 3 0 := ⟨RX9, TX9, 8, tyX9, tyX9 3, rfl, by decide, uw_X9, TT_1 (i := 50) rfl rfl, rfl, rfl, by decide, tyX9_ok, nmX9, rfl, tyX9_ok 3 (by decide), fun h => rfl, fun h => absurd h (by decide), fun h => absurd h (by decide)⟩
theorem fp_X9_39 : FP RX9 39 8 2 0 := ⟨RX9, TX9, 8, tyX9, tyX9 2, rfl, by decide, uw_X9, TT_1 (i := 49) rfl rfl, rfl, rfl, by decide, tyX9_ok, nmX9, rfl, tyX9_ok 2 (by decide), fun h => rfl, fun h => absurd h (by decide), fun h => absurd h (by decide)⟩
theorem fp_X9_42 : FP RX9 42 8 7 0 := ⟨RX9, TX9, 8, tyX9, tyX9 7, rfl, by decide, uw_X9, TT_1 (i := 58) rfl rfl, rfl, rfl, by decide, tyX9_ok, nmX9, rfl, tyX9_ok 7 (by decide), fun h => rfl, fun h => absurd h (by decide), fun h => absurd h (by decide)⟩
theorem mm_X10_37 : Cond.methodLink RX10 37 arraycopyName ∈ TT := TT_4 (i := 111) rfl rfl
theorem mm_X6_25 : Cond.methodLink RX6 25 arraycopyName ∈ TT := TT_4 (i := 102) rfl rfl
theorem mm_X6_41 : Cond.methodLink RX6 41 Lib.Math.min.name ∈ TT := TT_3 (i := 178) rfl rfl
theorem ms_X6_35 : MS RX6 35 yX3_steps cX3_steps 4 (some .int) 4 := ⟨TT_3 (i := 172) rfl rfl, TT_3 (i := 173) rfl rfl, TT_1 (i := 4) rfl rfl, TT_3 (i := 174) rfl rfl, ⟨by decide, by decide, by decide +kernel⟩⟩
theorem mv_X10_43 : MV RX10 43 yX10_isOpen cX10_isOpen 2 (some .boolean) 1 := ⟨TT_7 (i := 39) rfl rfl, TT_7 (i := 40) rfl rfl, TT_7 (i := 41) rfl rfl, TT_1 (i := 9) rfl rfl, TT_7 (i := 42) rfl rfl, ⟨by decide, by decide, by decide +kernel⟩⟩
theorem mv_X11_103 : MV RX11 103 yX5_left cX5_left 1 (some .int) 0 := ⟨TT_4 (i := 23) rfl rfl, TT_4 (i := 24) rfl rfl, TT_4 (i := 25) rfl rfl, TT_1 (i := 12) rfl rfl, TT_4 (i := 26) rfl rfl, ⟨by decide, by decide, by decide +kernel⟩⟩
theorem mv_X11_300 : MV RX11 300 yX2_owedTogether cX2_owedTogether 4 (some .long) 0 := ⟨TT_4 (i := 62) rfl rfl, TT_4 (i := 63) rfl rfl, TT_4 (i := 64) rfl rfl, TT_1 (i := 8) rfl rfl, TT_4 (i := 65) rfl rfl, ⟨by decide, by decide, by decide +kernel⟩⟩
theorem mv_X11_324 : MV RX11 324 yX0_fundLeft cX0_fundLeft 1 (some .long) 0 := ⟨TT_4 (i := 77) rfl rfl, TT_4 (i := 78) rfl rfl, TT_4 (i := 79) rfl rfl, TT_1 (i := 10) rfl rfl, TT_4 (i := 80) rfl rfl, ⟨by decide, by decide, by decide +kernel⟩⟩
theorem mv_X11_400 : MV RX11 400 yX2_has cX2_has 2 (some .boolean) 1 := ⟨TT_5 (i := 154) rfl rfl, TT_5 (i := 1) rfl rfl, TT_5 (i := 2) rfl rfl, TT_1 (i := 8) rfl rfl, TT_5 (i := 3) rfl rfl, ⟨by decide, by decide, by decide +kernel⟩⟩
theorem mv_X11_410 : MV RX11 410 yX6_has cX6_has 2 (some .boolean) 1 := ⟨TT_6 (i := 15) rfl rfl, TT_4 (i := 217) rfl rfl, TT_4 (i := 218) rfl rfl, TT_1 (i := 7) rfl rfl, TT_4 (i := 219) rfl rfl, ⟨by decide, by decide, by decide +kernel⟩⟩
theorem mv_X11_420 : MV RX11 420 yX0_hasOpenMonth cX0_hasOpenMonth 1 (some .boolean) 0 := ⟨TT_6 (i := 141) rfl rfl, TT_4 (i := 221) rfl rfl, TT_4 (i := 222) rfl rfl, TT_1 (i := 10) rfl rfl, TT_4 (i := 223) rfl rfl, ⟨by decide, by decide, by decide +kernel⟩⟩
theorem mv_X11_71 : MV RX11 71 yX9_addFourBytes cX9_addFourBytes 3 none 1 := ⟨TT_2 (i := 222) rfl rfl, TT_2 (i := 223) rfl rfl, TT_2 (i := 224) rfl rfl, TT_1 (i := 2) rfl rfl, TT_2 (i := 225) rfl rfl, ⟨by decide, by decide, by decide +kernel⟩⟩
theorem mv_X9_28 : MV RX9 28 yX9_failed cX9_failed 1 (some .boolean) 0 := ⟨TT_3 (i := 76) rfl rfl, TT_3 (i := 2) rfl rfl, TT_3 (i := 3) rfl rfl, TT_1 (i := 2) rfl rfl, TT_3 (i := 4) rfl rfl, ⟨by decide, by decide, by decide +kernel⟩⟩
theorem mv_X9_35 : MV RX9 35 yX9_kindAt cX9_kindAt 3 (some .int) 1 := ⟨TT_3 (i := 9) rfl rfl, TT_3 (i := 11) rfl rfl, TT_s (i := 0) (by decide +kernel) (by decide +kernel), TT_1 (i := 2) rfl rfl, TT_3 (i := 12) rfl rfl, ⟨by decide, by decide, by decide +kernel⟩⟩
theorem mv_X9_78 : MV RX9 78 yX9_advance cX9_advance 2 none 0 := ⟨TT_3 (i := 81) rfl rfl, TT_3 (i := 6) rfl rfl, TT_3 (i := 7) rfl rfl, TT_1 (i := 2) rfl rfl, TT_3 (i := 8) rfl rfl, ⟨by decide, by decide, by decide +kernel⟩⟩
theorem mv_X9_81 : MV RX9 81 yX9_fail cX9_fail 2 none 1 := ⟨TT_3 (i := 82) rfl rfl, TT_3 (i := 73) rfl rfl, TT_3 (i := 74) rfl rfl, TT_1 (i := 2) rfl rfl, TT_3 (i := 75) rfl rfl, ⟨by decide, by decide, by decide +kernel⟩⟩
theorem xp_X11_403_405 : XP RX11 403 405 407 1 "no such franchisee" := ⟨TT_5 (i := 155) rfl rfl, TT_1 (i := 26) rfl rfl, ⟨_, List.mem_of_getElem? (i := 30) rfl⟩, xpw (by decide +kernel), fun w h => List.all_eq_true.mp (show (Cond.classLink RX11 403 (exn 1) :: Cond.initialized (exn 1) :: vx_atS RX11 407 (exn 1) ["java/lang/RuntimeException", "java/lang/Exception"]).all vx_ot = true from by decide +kernel) w h, by decide +kernel⟩
theorem xp_X11_403_411 : XP RX11 403 411 407 1 "no such outlet" := ⟨TT_5 (i := 155) rfl rfl, TT_1 (i := 26) rfl rfl, ⟨_, List.mem_of_getElem? (i := 31) rfl⟩, xpw (by decide +kernel), fun w h => List.all_eq_true.mp (show (Cond.classLink RX11 403 (exn 1) :: Cond.initialized (exn 1) :: vx_atS RX11 407 (exn 1) ["java/lang/RuntimeException", "java/lang/Exception"]).all vx_ot = true from by decide +kernel) w h, by decide +kernel⟩
theorem xp_X11_403_413 : XP RX11 403 413 407 1 "no such plan" := ⟨TT_5 (i := 155) rfl rfl, TT_1 (i := 26) rfl rfl, ⟨_, List.mem_of_getElem? (i := 32) rfl⟩, xpw (by decide +kernel), fun w h => List.all_eq_true.mp (show (Cond.classLink RX11 403 (exn 1) :: Cond.initialized (exn 1) :: vx_atS RX11 407 (exn 1) ["java/lang/RuntimeException", "java/lang/Exception"]).all vx_ot = true from by decide +kernel) w h, by decide +kernel⟩
theorem xp_X11_415_417 : XP RX11 415 417 419 2 "not a closed month" := ⟨TT_4 (i := 140) rfl rfl, TT_1 (i := 24) rfl rfl, ⟨_, List.mem_of_getElem? (i := 34) rfl⟩, xpw (by decide +kernel), fun w h => List.all_eq_true.mp (show (Cond.classLink RX11 415 (exn 2) :: Cond.initialized (exn 2) :: vx_atS RX11 419 (exn 2) ["java/lang/RuntimeException", "java/lang/Exception"]).all vx_ot = true from by decide +kernel) w h, by decide +kernel⟩
theorem xp_X11_415_428 : XP RX11 415 428 419 2 "an argument is out of range" := ⟨TT_4 (i := 140) rfl rfl, TT_1 (i := 24) rfl rfl, ⟨_, List.mem_of_getElem? (i := 29) rfl⟩, xpw (by decide +kernel), fun w h => List.all_eq_true.mp (show (Cond.classLink RX11 415 (exn 2) :: Cond.initialized (exn 2) :: vx_atS RX11 419 (exn 2) ["java/lang/RuntimeException", "java/lang/Exception"]).all vx_ot = true from by decide +kernel) w h, by decide +kernel⟩
theorem xp_X11_423_425 : XP RX11 423 425 427 3 "all months are closed" := ⟨TT_6 (i := 142) rfl rfl, TT_1 (i := 27) rfl rfl, ⟨_, List.mem_of_getElem? (i := 33) rfl⟩, xpw (by decide +kernel), fun w h => List.all_eq_true.mp (show (Cond.classLink RX11 423 (exn 3) :: Cond.initialized (exn 3) :: vx_atS RX11 427 (exn 3) ["java/lang/RuntimeException", "java/lang/Exception"]).all vx_ot = true from by decide +kernel) w h, by decide +kernel⟩
def tab_X5_left : List En := [(0, 8, 0, 0), (4, 8, 0, 0), (8, 18, 0, 0)]
theorem ok_X5_left : tab_X5_left.all (okE cX5_left) = true := by decide +kernel
def ed_X5_left : List (Nat × Instr × Nat) := [(1, .getfield 35, 3), (5, .getfield 39, 3), (9, .ireturn, 1)]
theorem okd_X5_left : ed_X5_left.all (okD cX5_left) = true := by decide +kernel
def f_X5_left (S : St) (p0 : Nat) : Option (Int32) := lt (gI S p0 7) fun (v1 : Int32) => lt (gI S p0 8) fun (v2 : Int32) => some (v1 - v2)
set_option maxHeartbeats 4000000 in
set_option maxRecDepth 100000 in
theorem c_X5_left (S : St) (p0 : Nat) : Ct yX5_left cX5_left 1 (some .int) 0 0 (fun _ => [.ref p0]) [(p0, 5)] S (f_X5_left S p0) oI (fun _ => S) := by
  refine Ct_of RX5 rfl (by decide) (fun _ => Nat.le_of_ble_eq_true rfl) 0 (vs := fun _ => [some (.ref p0)]) (fun _ => rfl) (fun C X E hr ht => ?_)
  have t0_ : tT C p0 5 := ht (p0, 5) (by simp)
  show Jd C 1 (QJ C oI (fun _ => S)) S 0 [some (.ref p0)] [] (f_X5_left S p0)
  unfold f_X5_left
  refine s_run X ok_X5_left 0 1 (pc' := 1) (vs' := [some (.ref p0)]) (st' := [.ref p0]) rfl ?_
  refine s_getI X fl_X5_35 t0_ (dk okd_X5_left 0 rfl) (fun v1 => ?_)
  refine s_run X ok_X5_left 1 1 (pc' := 5) (vs' := [some (.ref p0)]) (st' := [.ref p0, .int v1]) rfl ?_
  refine s_getI X fl_X5_39 t0_ (dk okd_X5_left 1 rfl) (fun v2 => ?_)
  refine s_run X ok_X5_left 2 1 (pc' := 9) (vs' := [some (.ref p0)]) (st' := [.int (v1 - v2)]) rfl ?_
  exact s_iret X hr (dk okd_X5_left 2 rfl) rfl rfl
def tab_X6_copyFrom : List En := [(0, 8, 1, 0), (4, 0, 0, 0), (5, 8, 0, 0), (9, 0, 0, 0), (10, 1, 0, 16), (15, 8, 1, 0), (19, 0, 0, 0), (20, 8, 0, 0), (24, 0, 0, 0), (25, 1, 0, 16), (30, 8, 1, 0), (34, 0, 0, 0), (35, 8, 0, 0), (39, 0, 0, 0), (40, 1, 0, 16), (45, 8, 1, 0), (49, 0, 0, 0), (50, 8, 0, 0), (54, 0, 0, 0), (55, 1, 0, 16), (60, 8, 0, 0), (61, 8, 1, 0)]
theorem ok_X6_copyFrom : tab_X6_copyFrom.all (okE cX6_copyFrom) = true := by decide +kernel
def ed_X6_copyFrom : List (Nat × Instr × Nat) := [(1, .getfield 9, 3), (6, .getfield 9, 3), (12, .invokestatic 25, 3), (16, .getfield 15, 3), (21, .getfield 15, 3), (27, .invokestatic 25, 3), (31, .getfield 18, 3), (36, .getfield 18, 3), (42, .invokestatic 25, 3), (46, .getfield 21, 3), (51, .getfield 21, 3), (57, .invokestatic 25, 3), (62, .getfield 31, 3), (65, .putfield 31, 3), (68, .return_, 1)]
theorem okd_X6_copyFrom : ed_X6_copyFrom.all (okD cX6_copyFrom) = true := by decide +kernel
def f_X6_copyFrom (S : St) (p0 : Nat) (p1 : Nat) : Option (St) := lt (gR S p1 0) fun (a1 : Nat) => lt (gR S p0 0) fun (a3 : Nat) => cpI S a1 0 a3 0 16 fun (S5 : St) => lt (gR S5 p1 1) fun (a6 : Nat) => lt (gR S5 p0 1) fun (a8 : Nat) => cpI S5 a6 0 a8 0 16 fun (S10 : St) => lt (gR S10 p1 2) fun (a11 : Nat) => lt (gR S10 p0 2) fun (a13 : Nat) => cpI S10 a11 0 a13 0 16 fun (S15 : St) => lt (gR S15 p1 3) fun (a16 : Nat) => lt (gR S15 p0 3) fun (a18 : Nat) => cpJ S15 a16 0 a18 0 16 fun (S20 : St) => lt (gI S20 p1 4) fun (v21 : Int32) => lt (uI S20 p0 4 v21) fun (S22 : St) => some S22
set_option maxHeartbeats 4000000 in
set_option maxRecDepth 100000 in
theorem c_X6_copyFrom (S : St) (p0 : Nat) (p1 : Nat) : Ct yX6_copyFrom cX6_copyFrom 2 none 1 48 (fun _ => [.ref p0, .ref p1]) [(p0, 6), (p1, 6)] S (f_X6_copyFrom S p0 p1) oV sV := by
  refine Ct_of RX6 rfl (by decide) (fun _ => Nat.le_of_ble_eq_true rfl) 0 (vs := fun _ => [some (.ref p0), some (.ref p1)]) (fun _ => rfl) (fun C X E hr ht => ?_)
  have t0_ : tT C p0 6 := ht (p0, 6) (by simp)
  have t1_ : tT C p1 6 := ht (p1, 6) (by simp)
  show Jd C 2 (QJ C oV sV) S 0 [some (.ref p0), some (.ref p1)] [] (f_X6_copyFrom S p0 p1)
  unfold f_X6_copyFrom
  refine s_run X ok_X6_copyFrom 0 1 (pc' := 1) (vs' := [some (.ref p0), some (.ref p1)]) (st' := [.ref p1]) rfl ?_
  refine s_getR X fl_X6_9 t1_ (dk okd_X6_copyFrom 0 rfl) (fun a1 (t2 : tT C a1 13) => ?_)
  refine s_run X ok_X6_copyFrom 1 2 (pc' := 6) (vs' := [some (.ref p0), some (.ref p1)]) (st' := [.ref p0, .int 0, .ref a1]) rfl ?_
  refine s_getR X fl_X6_9 t0_ (dk okd_X6_copyFrom 1 rfl) (fun a3 (t4 : tT C a3 13) => ?_)
  refine s_run X ok_X6_copyFrom 3 2 (pc' := 12) (vs' := [some (.ref p0), some (.ref p1)]) (st' := [.int 16, .int 0, .ref a3, .int 0, .ref a1]) rfl ?_
  refine s_copyI X mm_X6_25 t2 t4 (Nat.le_of_ble_eq_true rfl) (Nat.le_of_ble_eq_true rfl) (dk okd_X6_copyFrom 2 rfl) (fun S5 => ?_)
  refine s_run X ok_X6_copyFrom 5 1 (pc' := 16) (vs' := [some (.ref p0), some (.ref p1)]) (st' := [.ref p1]) rfl ?_
  refine s_getR X fl_X6_15 t1_ (dk okd_X6_copyFrom 3 rfl) (fun a6 (t7 : tT C a6 13) => ?_)
  refine s_run X ok_X6_copyFrom 6 2 (pc' := 21) (vs' := [some (.ref p0), some (.ref p1)]) (st' := [.ref p0, .int 0, .ref a6]) rfl ?_
  refine s_getR X fl_X6_15 t0_ (dk okd_X6_copyFrom 4 rfl) (fun a8 (t9 : tT C a8 13) => ?_)
  refine s_run X ok_X6_copyFrom 8 2 (pc' := 27) (vs' := [some (.ref p0), some (.ref p1)]) (st' := [.int 16, .int 0, .ref a8, .int 0, .ref a6]) rfl ?_
  refine s_copyI X mm_X6_25 t7 t9 (Nat.le_of_ble_eq_true rfl) (Nat.le_of_ble_eq_true rfl) (dk okd_X6_copyFrom 5 rfl) (fun S10 => ?_)
  refine s_run X ok_X6_copyFrom 10 1 (pc' := 31) (vs' := [some (.ref p0), some (.ref p1)]) (st' := [.ref p1]) rfl ?_
  refine s_getR X fl_X6_18 t1_ (dk okd_X6_copyFrom 6 rfl) (fun a11 (t12 : tT C a11 13) => ?_)
  refine s_run X ok_X6_copyFrom 11 2 (pc' := 36) (vs' := [some (.ref p0), some (.ref p1)]) (st' := [.ref p0, .int 0, .ref a11]) rfl ?_
  refine s_getR X fl_X6_18 t0_ (dk okd_X6_copyFrom 7 rfl) (fun a13 (t14 : tT C a13 13) => ?_)
  refine s_run X ok_X6_copyFrom 13 2 (pc' := 42) (vs' := [some (.ref p0), some (.ref p1)]) (st' := [.int 16, .int 0, .ref a13, .int 0, .ref a11]) rfl ?_
  refine s_copyI X mm_X6_25 t12 t14 (Nat.le_of_ble_eq_true rfl) (Nat.le_of_ble_eq_true rfl) (dk okd_X6_copyFrom 8 rfl) (fun S15 => ?_)
  refine s_run X ok_X6_copyFrom 15 1 (pc' := 46) (vs' := [some (.ref p0), some (.ref p1)]) (st' := [.ref p1]) rfl ?_
  refine s_getR X fl_X6_21 t1_ (dk okd_X6_copyFrom 9 rfl) (fun a16 (t17 : tT C a16 14) => ?_)
  refine s_run X ok_X6_copyFrom 16 2 (pc' := 51) (vs' := [some (.ref p0), some (.ref p1)]) (st' := [.ref p0, .int 0, .ref a16]) rfl ?_
  refine s_getR X fl_X6_21 t0_ (dk okd_X6_copyFrom 10 rfl) (fun a18 (t19 : tT C a18 14) => ?_)
  refine s_run X ok_X6_copyFrom 18 2 (pc' := 57) (vs' := [some (.ref p0), some (.ref p1)]) (st' := [.int 16, .int 0, .ref a18, .int 0, .ref a16]) rfl ?_
  refine s_copyJ X mm_X6_25 t17 t19 (Nat.le_of_ble_eq_true rfl) (Nat.le_of_ble_eq_true rfl) (dk okd_X6_copyFrom 11 rfl) (fun S20 => ?_)
  refine s_run X ok_X6_copyFrom 20 2 (pc' := 62) (vs' := [some (.ref p0), some (.ref p1)]) (st' := [.ref p1, .ref p0]) rfl ?_
  refine s_getI X fl_X6_31 t1_ (dk okd_X6_copyFrom 12 rfl) (fun v21 => ?_)
  refine s_putI X fp_X6_31 t0_ (dk okd_X6_copyFrom 13 rfl) (fun S22 => ?_)
  exact s_vret X hr (dk okd_X6_copyFrom 14 rfl) rfl rfl
def tab_X6_has : List En := [(0, 4, 1, 0), (4, 4, 1, 0), (5, 8, 0, 0), (12, 0, 0, 1), (13, 41, 17, 0), (16, 0, 0, 0)]
theorem ok_X6_has : tab_X6_has.all (okE cX6_has) = true := by decide +kernel
def ed_X6_has : List (Nat × Instr × Nat) := [(1, .ifCond .lt 15, 3), (6, .getfield 31, 3), (9, .if_icmp .ge 7, 3), (17, .ireturn, 1)]
theorem okd_X6_has : ed_X6_has.all (okD cX6_has) = true := by decide +kernel
def f_X6_has (S : St) (p0 : Nat) (p1 : Int32) : Option (Int32) := jn (κ := Option (Int32)) (some 0) fun k1 => if p1 < 0 then (k1) else (lt (gI S p0 4) fun (v3 : Int32) => if v3 ≤ p1 then (k1) else (some 1))
set_option maxHeartbeats 4000000 in
set_option maxRecDepth 100000 in
theorem c_X6_has (S : St) (p0 : Nat) (p1 : Int32) : Ct yX6_has cX6_has 2 (some .boolean) 0 0 (fun _ => [.ref p0, .int p1]) [(p0, 6)] S (f_X6_has S p0 p1) oI (fun _ => S) := by
  refine Ct_of RX6 rfl (by decide) (fun _ => Nat.le_of_ble_eq_true rfl) 0 (vs := fun _ => [some (.ref p0), some (.int p1)]) (fun _ => rfl) (fun C X E hr ht => ?_)
  have t0_ : tT C p0 6 := ht (p0, 6) (by simp)
  show Jd C 2 (QJ C oI (fun _ => S)) S 0 [some (.ref p0), some (.int p1)] [] (f_X6_has S p0 p1)
  unfold f_X6_has
  refine s_run X ok_X6_has 0 1 (pc' := 1) (vs' := [some (.ref p0), some (.int p1)]) (st' := [.int p1]) rfl ?_
  refine s_jn (κ := Option (Int32)) (fun k1 => Jd C 2 (QJ C oI (fun _ => S)) S 16 [none, none] [] k1) ?_ (fun k1 h2 => ?_)
  · refine s_run X ok_X6_has 5 1 (pc' := 17) (vs' := [none, none]) (st' := [.int 0]) rfl ?_
    exact s_zret0 X hr (dk okd_X6_has 3 rfl) (by decide) rfl rfl
  · refine s_if_lt (tgt := 16) X (dk okd_X6_has 0 rfl) (by decide) ?_ ?_
    · exact s_less [false, false] rfl (h2)
    · refine s_run X ok_X6_has 1 2 (pc' := 6) (vs' := [some (.ref p0), some (.int p1)]) (st' := [.ref p0, .int p1]) rfl ?_
      refine s_getI X fl_X6_31 t0_ (dk okd_X6_has 1 rfl) (fun v3 => ?_)
      refine s_icmp_ge (tgt := 16) X (dk okd_X6_has 2 rfl) (by decide) ?_ ?_
      · exact s_less [false, false] rfl (h2)
      · refine s_run X ok_X6_has 3 2 (pc' := 17) (vs' := [some (.ref p0), some (.int p1)]) (st' := [.int 1]) rfl ?_
        exact s_zret0 X hr (dk okd_X6_has 3 rfl) (by decide) rfl rfl
def tab_X6_add : List En := [(0, 8, 0, 0), (4, 1, 0, 16), (9, 1, 0, (-3)), (12, 8, 0, 0), (16, 11, 4, 0), (18, 8, 0, 0), (22, 5, 4, 0), (24, 4, 1, 0), (26, 8, 0, 0), (30, 5, 4, 0), (32, 4, 2, 0), (34, 8, 0, 0), (38, 5, 4, 0), (40, 4, 3, 0), (42, 8, 0, 0), (46, 5, 4, 0), (48, 3, 0, 0), (50, 8, 0, 0), (51, 36, 0, 0), (55, 0, 0, 1), (56, 17, 0, 0), (60, 5, 4, 0)]
theorem ok_X6_add : tab_X6_add.all (okE cX6_add) = true := by decide +kernel
def ed_X6_add : List (Nat × Instr × Nat) := [(1, .getfield 31, 3), (6, .if_icmp .lt 6, 3), (11, .ireturn, 1), (13, .getfield 31, 3), (19, .getfield 9, 3), (25, .iastore, 1), (27, .getfield 15, 3), (33, .iastore, 1), (35, .getfield 18, 3), (41, .iastore, 1), (43, .getfield 21, 3), (49, .lastore, 1), (52, .getfield 31, 3), (57, .putfield 31, 3), (62, .ireturn, 1)]
theorem okd_X6_add : ed_X6_add.all (okD cX6_add) = true := by decide +kernel
def f_X6_add (S : St) (p0 : Nat) (p1 : Int32) (p2 : Int32) (p3 : Int32) : Option (Int32 × St) := lt (gI S p0 4) fun (v1 : Int32) => if v1 < 16 then (lt (gI S p0 4) fun (v2 : Int32) => lt (gR S p0 0) fun (a3 : Nat) => stI S a3 v2 p1 fun (S5 : St) => lt (gR S5 p0 1) fun (a6 : Nat) => stI S5 a6 v2 p2 fun (S8 : St) => lt (gR S8 p0 2) fun (a9 : Nat) => stI S8 a9 v2 p3 fun (S11 : St) => lt (gR S11 p0 3) fun (a12 : Nat) => stJ S11 a12 v2 0 fun (S14 : St) => lt (gI S14 p0 4) fun (v15 : Int32) => lt (uI S14 p0 4 (v15 + 1)) fun (S16 : St) => some (v2, S16)) else (some ((-3), S))
set_option maxHeartbeats 4000000 in
set_option maxRecDepth 100000 in
theorem c_X6_add (S : St) (p0 : Nat) (p1 : Int32) (p2 : Int32) (p3 : Int32) : Ct yX6_add cX6_add 5 (some .int) 0 0 (fun _ => [.ref p0, .int p1, .int p2, .int p3]) [(p0, 6)] S (f_X6_add S p0 p1 p2 p3) oIS sS := by
  refine Ct_of RX6 rfl (by decide) (fun _ => Nat.le_of_ble_eq_true rfl) 1 (vs := fun _ => [some (.ref p0), some (.int p1), some (.int p2), some (.int p3), none]) (fun _ => rfl) (fun C X E hr ht => ?_)
  have t0_ : tT C p0 6 := ht (p0, 6) (by simp)
  show Jd C 5 (QJ C oIS sS) S 0 [some (.ref p0), some (.int p1), some (.int p2), some (.int p3), none] [] (f_X6_add S p0 p1 p2 p3)
  unfold f_X6_add
  refine s_run X ok_X6_add 0 1 (pc' := 1) (vs' := [some (.ref p0), some (.int p1), some (.int p2), some (.int p3), none]) (st' := [.ref p0]) rfl ?_
  refine s_getI X fl_X6_31 t0_ (dk okd_X6_add 0 rfl) (fun v1 => ?_)
  refine s_run X ok_X6_add 1 1 (pc' := 6) (vs' := [some (.ref p0), some (.int p1), some (.int p2), some (.int p3), none]) (st' := [.int 16, .int v1]) rfl ?_
  refine s_icmp_lt (tgt := 12) X (dk okd_X6_add 1 rfl) (by decide) ?_ ?_
  · refine s_run X ok_X6_add 3 1 (pc' := 13) (vs' := [some (.ref p0), some (.int p1), some (.int p2), some (.int p3), none]) (st' := [.ref p0]) rfl ?_
    refine s_getI X fl_X6_31 t0_ (dk okd_X6_add 3 rfl) (fun v2 => ?_)
    refine s_run X ok_X6_add 4 2 (pc' := 19) (vs' := [some (.ref p0), some (.int p1), some (.int p2), some (.int p3), some (.int v2)]) (st' := [.ref p0]) rfl ?_
    refine s_getR X fl_X6_9 t0_ (dk okd_X6_add 4 rfl) (fun a3 (t4 : tT C a3 13) => ?_)
    refine s_run X ok_X6_add 6 2 (pc' := 25) (vs' := [some (.ref p0), some (.int p1), some (.int p2), some (.int p3), some (.int v2)]) (st' := [.int p1, .int v2, .ref a3]) rfl ?_
    refine s_iast X t4 (dk okd_X6_add 5 rfl) (fun S5 => ?_)
    refine s_run X ok_X6_add 8 1 (pc' := 27) (vs' := [some (.ref p0), some (.int p1), some (.int p2), some (.int p3), some (.int v2)]) (st' := [.ref p0]) rfl ?_
    refine s_getR X fl_X6_15 t0_ (dk okd_X6_add 6 rfl) (fun a6 (t7 : tT C a6 13) => ?_)
    refine s_run X ok_X6_add 9 2 (pc' := 33) (vs' := [some (.ref p0), some (.int p1), some (.int p2), some (.int p3), some (.int v2)]) (st' := [.int p2, .int v2, .ref a6]) rfl ?_
    refine s_iast X t7 (dk okd_X6_add 7 rfl) (fun S8 => ?_)
    refine s_run X ok_X6_add 11 1 (pc' := 35) (vs' := [some (.ref p0), some (.int p1), some (.int p2), some (.int p3), some (.int v2)]) (st' := [.ref p0]) rfl ?_
    refine s_getR X fl_X6_18 t0_ (dk okd_X6_add 8 rfl) (fun a9 (t10 : tT C a9 13) => ?_)
    refine s_run X ok_X6_add 12 2 (pc' := 41) (vs' := [some (.ref p0), some (.int p1), some (.int p2), some (.int p3), some (.int v2)]) (st' := [.int p3, .int v2, .ref a9]) rfl ?_
    refine s_iast X t10 (dk okd_X6_add 9 rfl) (fun S11 => ?_)
    refine s_run X ok_X6_add 14 1 (pc' := 43) (vs' := [some (.ref p0), some (.int p1), some (.int p2), some (.int p3), some (.int v2)]) (st' := [.ref p0]) rfl ?_
    refine s_getR X fl_X6_21 t0_ (dk okd_X6_add 10 rfl) (fun a12 (t13 : tT C a12 14) => ?_)
    refine s_run X ok_X6_add 15 2 (pc' := 49) (vs' := [some (.ref p0), some (.int p1), some (.int p2), some (.int p3), some (.int v2)]) (st' := [.long 0, .int v2, .ref a12]) rfl ?_
    refine s_last X t13 (dk okd_X6_add 11 rfl) (fun S14 => ?_)
    refine s_run X ok_X6_add 17 2 (pc' := 52) (vs' := [some (.ref p0), some (.int p1), some (.int p2), some (.int p3), some (.int v2)]) (st' := [.ref p0, .ref p0]) rfl ?_
    refine s_getI X fl_X6_31 t0_ (dk okd_X6_add 12 rfl) (fun v15 => ?_)
    refine s_run X ok_X6_add 19 2 (pc' := 57) (vs' := [some (.ref p0), some (.int p1), some (.int p2), some (.int p3), some (.int v2)]) (st' := [.int (v15 + 1), .ref p0]) rfl ?_
    refine s_putI X fp_X6_31 t0_ (dk okd_X6_add 13 rfl) (fun S16 => ?_)
    refine s_run X ok_X6_add 21 1 (pc' := 62) (vs' := [some (.ref p0), some (.int p1), some (.int p2), some (.int p3), some (.int v2)]) (st' := [.int v2]) rfl ?_
    exact s_iret X hr (dk okd_X6_add 14 rfl) rfl rfl
  · refine s_run X ok_X6_add 2 1 (pc' := 11) (vs' := [some (.ref p0), some (.int p1), some (.int p2), some (.int p3), none]) (st' := [.int (-3)]) rfl ?_
    exact s_iret X hr (dk okd_X6_add 2 rfl) rfl rfl
def tab_X6_anyWithin : List En := [(0, 0, 0, 0), (1, 11, 6, 0), (3, 5, 6, 0), (5, 8, 0, 0), (12, 8, 0, 0), (16, 5, 6, 0), (19, 4, 1, 0), (23, 8, 0, 0), (27, 5, 6, 0), (30, 4, 2, 0), (34, 8, 0, 0), (38, 5, 6, 0), (41, 5, 4, 0), (46, 8, 0, 0), (50, 5, 6, 0), (53, 4, 3, 0), (57, 8, 0, 0), (61, 5, 6, 0), (64, 5, 5, 0), (69, 0, 0, 1), (71, 16, 6, 1), (74, 41, 3, 0), (77, 0, 0, 0)]
theorem ok_X6_anyWithin : tab_X6_anyWithin.all (okE cX6_anyWithin) = true := by decide +kernel
def ed_X6_anyWithin : List (Nat × Instr × Nat) := [(6, .getfield 31, 3), (9, .if_icmp .ge 68, 3), (13, .getfield 9, 3), (18, .iaload, 1), (20, .if_icmp .ne 51, 3), (24, .getfield 15, 3), (29, .iaload, 1), (31, .if_icmp .lt 40, 3), (35, .getfield 15, 3), (40, .iaload, 1), (43, .if_icmp .ge 28, 3), (47, .getfield 18, 3), (52, .iaload, 1), (54, .if_icmp .lt 17, 3), (58, .getfield 18, 3), (63, .iaload, 1), (66, .if_icmp .ge 5, 3), (70, .ireturn, 1), (78, .ireturn, 1)]
theorem okd_X6_anyWithin : ed_X6_anyWithin.all (okD cX6_anyWithin) = true := by decide +kernel
def f_X6_anyWithin (S : St) (p0 : Nat) (p1 : Int32) (p2 : Int32) (p3 : Int32) (p4 : Int32) (p5 : Int32) : Option (Int32) := lp (κ := Int32 → Option (Int32)) (fun _ => none) (fun k2 x1 => lt (gI S p0 4) fun (v4 : Int32) => if v4 ≤ x1 then (some 0) else (lt (gR S p0 0) fun (a5 : Nat) => ldI S a5 x1 fun (v7 : Int32) => jn (κ := Option (Int32)) (k2 (x1 + 1)) fun k8 => if v7 = p1 then (lt (gR S p0 1) fun (a10 : Nat) => ldI S a10 x1 fun (v12 : Int32) => if v12 < p2 then (k8) else (lt (gR S p0 1) fun (a13 : Nat) => ldI S a13 x1 fun (v15 : Int32) => if p4 ≤ v15 then (k8) else (lt (gR S p0 2) fun (a16 : Nat) => ldI S a16 x1 fun (v18 : Int32) => if v18 < p3 then (k8) else (lt (gR S p0 2) fun (a19 : Nat) => ldI S a19 x1 fun (v21 : Int32) => if p5 ≤ v21 then (k8) else (some 1))))) else (k8))) FU 0
set_option maxHeartbeats 4000000 in
set_option maxRecDepth 100000 in
theorem c_X6_anyWithin (S : St) (p0 : Nat) (p1 : Int32) (p2 : Int32) (p3 : Int32) (p4 : Int32) (p5 : Int32) : Ct yX6_anyWithin cX6_anyWithin 7 (some .boolean) 0 0 (fun _ => [.ref p0, .int p1, .int p2, .int p3, .int p4, .int p5]) [(p0, 6)] S (f_X6_anyWithin S p0 p1 p2 p3 p4 p5) oI (fun _ => S) := by
  refine Ct_of RX6 rfl (by decide) (fun _ => Nat.le_of_ble_eq_true rfl) 1 (vs := fun _ => [some (.ref p0), some (.int p1), some (.int p2), some (.int p3), some (.int p4), some (.int p5), none]) (fun _ => rfl) (fun C X E hr ht => ?_)
  have t0_ : tT C p0 6 := ht (p0, 6) (by simp)
  show Jd C 7 (QJ C oI (fun _ => S)) S 0 [some (.ref p0), some (.int p1), some (.int p2), some (.int p3), some (.int p4), some (.int p5), none] [] (f_X6_anyWithin S p0 p1 p2 p3 p4 p5)
  unfold f_X6_anyWithin
  refine s_run X ok_X6_anyWithin 0 2 (pc' := 3) (vs' := [some (.ref p0), some (.int p1), some (.int p2), some (.int p3), some (.int p4), some (.int p5), some (.int 0)]) (st' := []) rfl ?_
  refine s_lp (κ := Int32 → Option (Int32)) (fun k2 => ∀ (x1 : Int32), Jd C 7 (QJ C oI (fun _ => S)) S 3 [some (.ref p0), some (.int p1), some (.int p2), some (.int p3), some (.int p4), some (.int p5), some (.int x1)] [] (k2 x1)) (fun _ => s_none) (fun k2 h3 x1 => ?_) FU 0
  refine s_run X ok_X6_anyWithin 2 2 (pc' := 6) (vs' := [some (.ref p0), some (.int p1), some (.int p2), some (.int p3), some (.int p4), some (.int p5), some (.int x1)]) (st' := [.ref p0, .int x1]) rfl ?_
  refine s_getI X fl_X6_31 t0_ (dk okd_X6_anyWithin 0 rfl) (fun v4 => ?_)
  refine s_icmp_ge (tgt := 77) X (dk okd_X6_anyWithin 1 rfl) (by decide) ?_ ?_
  · refine s_run X ok_X6_anyWithin 22 1 (pc' := 78) (vs' := [some (.ref p0), some (.int p1), some (.int p2), some (.int p3), some (.int p4), some (.int p5), some (.int x1)]) (st' := [.int 0]) rfl ?_
    exact s_zret0 X hr (dk okd_X6_anyWithin 18 rfl) (by decide) rfl rfl
  · refine s_run X ok_X6_anyWithin 4 1 (pc' := 13) (vs' := [some (.ref p0), some (.int p1), some (.int p2), some (.int p3), some (.int p4), some (.int p5), some (.int x1)]) (st' := [.ref p0]) rfl ?_
    refine s_getR X fl_X6_9 t0_ (dk okd_X6_anyWithin 2 rfl) (fun a5 (t6 : tT C a5 13) => ?_)
    refine s_run X ok_X6_anyWithin 5 1 (pc' := 18) (vs' := [some (.ref p0), some (.int p1), some (.int p2), some (.int p3), some (.int p4), some (.int p5), some (.int x1)]) (st' := [.int x1, .ref a5]) rfl ?_
    refine s_iald X t6 (dk okd_X6_anyWithin 3 rfl) (fun v7 => ?_)
    refine s_run X ok_X6_anyWithin 6 1 (pc' := 20) (vs' := [some (.ref p0), some (.int p1), some (.int p2), some (.int p3), some (.int p4), some (.int p5), some (.int x1)]) (st' := [.int p1, .int v7]) rfl ?_
    refine s_jn (κ := Option (Int32)) (fun k8 => Jd C 7 (QJ C oI (fun _ => S)) S 71 [some (.ref p0), some (.int p1), some (.int p2), some (.int p3), some (.int p4), some (.int p5), some (.int x1)] [] k8) ?_ (fun k8 h9 => ?_)
    · refine s_run X ok_X6_anyWithin 20 2 (pc' := 3) (vs' := [some (.ref p0), some (.int p1), some (.int p2), some (.int p3), some (.int p4), some (.int p5), some (.int (x1 + 1))]) (st' := []) rfl ?_
      exact h3 (x1 + 1)
    · refine s_icmp_ne (tgt := 71) X (dk okd_X6_anyWithin 4 rfl) (by decide) ?_ ?_
      · exact h9
      · refine s_run X ok_X6_anyWithin 7 1 (pc' := 24) (vs' := [some (.ref p0), some (.int p1), some (.int p2), some (.int p3), some (.int p4), some (.int p5), some (.int x1)]) (st' := [.ref p0]) rfl ?_
        refine s_getR X fl_X6_15 t0_ (dk okd_X6_anyWithin 5 rfl) (fun a10 (t11 : tT C a10 13) => ?_)
        refine s_run X ok_X6_anyWithin 8 1 (pc' := 29) (vs' := [some (.ref p0), some (.int p1), some (.int p2), some (.int p3), some (.int p4), some (.int p5), some (.int x1)]) (st' := [.int x1, .ref a10]) rfl ?_
        refine s_iald X t11 (dk okd_X6_anyWithin 6 rfl) (fun v12 => ?_)
        refine s_run X ok_X6_anyWithin 9 1 (pc' := 31) (vs' := [some (.ref p0), some (.int p1), some (.int p2), some (.int p3), some (.int p4), some (.int p5), some (.int x1)]) (st' := [.int p2, .int v12]) rfl ?_
        refine s_icmp_lt (tgt := 71) X (dk okd_X6_anyWithin 7 rfl) (by decide) ?_ ?_
        · exact h9
        · refine s_run X ok_X6_anyWithin 10 1 (pc' := 35) (vs' := [some (.ref p0), some (.int p1), some (.int p2), some (.int p3), some (.int p4), some (.int p5), some (.int x1)]) (st' := [.ref p0]) rfl ?_
          refine s_getR X fl_X6_15 t0_ (dk okd_X6_anyWithin 8 rfl) (fun a13 (t14 : tT C a13 13) => ?_)
          refine s_run X ok_X6_anyWithin 11 1 (pc' := 40) (vs' := [some (.ref p0), some (.int p1), some (.int p2), some (.int p3), some (.int p4), some (.int p5), some (.int x1)]) (st' := [.int x1, .ref a13]) rfl ?_
          refine s_iald X t14 (dk okd_X6_anyWithin 9 rfl) (fun v15 => ?_)
          refine s_run X ok_X6_anyWithin 12 1 (pc' := 43) (vs' := [some (.ref p0), some (.int p1), some (.int p2), some (.int p3), some (.int p4), some (.int p5), some (.int x1)]) (st' := [.int p4, .int v15]) rfl ?_
          refine s_icmp_ge (tgt := 71) X (dk okd_X6_anyWithin 10 rfl) (by decide) ?_ ?_
          · exact h9
          · refine s_run X ok_X6_anyWithin 13 1 (pc' := 47) (vs' := [some (.ref p0), some (.int p1), some (.int p2), some (.int p3), some (.int p4), some (.int p5), some (.int x1)]) (st' := [.ref p0]) rfl ?_
            refine s_getR X fl_X6_18 t0_ (dk okd_X6_anyWithin 11 rfl) (fun a16 (t17 : tT C a16 13) => ?_)
            refine s_run X ok_X6_anyWithin 14 1 (pc' := 52) (vs' := [some (.ref p0), some (.int p1), some (.int p2), some (.int p3), some (.int p4), some (.int p5), some (.int x1)]) (st' := [.int x1, .ref a16]) rfl ?_
            refine s_iald X t17 (dk okd_X6_anyWithin 12 rfl) (fun v18 => ?_)
            refine s_run X ok_X6_anyWithin 15 1 (pc' := 54) (vs' := [some (.ref p0), some (.int p1), some (.int p2), some (.int p3), some (.int p4), some (.int p5), some (.int x1)]) (st' := [.int p3, .int v18]) rfl ?_
            refine s_icmp_lt (tgt := 71) X (dk okd_X6_anyWithin 13 rfl) (by decide) ?_ ?_
            · exact h9
            · refine s_run X ok_X6_anyWithin 16 1 (pc' := 58) (vs' := [some (.ref p0), some (.int p1), some (.int p2), some (.int p3), some (.int p4), some (.int p5), some (.int x1)]) (st' := [.ref p0]) rfl ?_
              refine s_getR X fl_X6_18 t0_ (dk okd_X6_anyWithin 14 rfl) (fun a19 (t20 : tT C a19 13) => ?_)
              refine s_run X ok_X6_anyWithin 17 1 (pc' := 63) (vs' := [some (.ref p0), some (.int p1), some (.int p2), some (.int p3), some (.int p4), some (.int p5), some (.int x1)]) (st' := [.int x1, .ref a19]) rfl ?_
              refine s_iald X t20 (dk okd_X6_anyWithin 15 rfl) (fun v21 => ?_)
              refine s_run X ok_X6_anyWithin 18 1 (pc' := 66) (vs' := [some (.ref p0), some (.int p1), some (.int p2), some (.int p3), some (.int p4), some (.int p5), some (.int x1)]) (st' := [.int p5, .int v21]) rfl ?_
              refine s_icmp_ge (tgt := 71) X (dk okd_X6_anyWithin 16 rfl) (by decide) ?_ ?_
              · exact h9
              · refine s_run X ok_X6_anyWithin 19 1 (pc' := 70) (vs' := [some (.ref p0), some (.int p1), some (.int p2), some (.int p3), some (.int p4), some (.int p5), some (.int x1)]) (st' := [.int 1]) rfl ?_
                exact s_zret0 X hr (dk okd_X6_anyWithin 17 rfl) (by decide) rfl rfl
def tab_X6_nearest : List En := [(0, 2, 0, 1000), (3, 11, 4, 0), (5, 0, 0, 0), (6, 11, 5, 0), (8, 5, 5, 0), (10, 8, 0, 0), (17, 8, 0, 0), (21, 5, 5, 0), (24, 0, 0, (-1)), (28, 4, 1, 0), (29, 0, 0, (-1)), (33, 8, 0, 0), (37, 5, 5, 0), (40, 4, 1, 0), (44, 5, 4, 0), (46, 4, 2, 0), (47, 4, 3, 0), (48, 8, 0, 0), (52, 5, 5, 0), (55, 8, 0, 0), (59, 5, 5, 0), (68, 11, 4, 0), (70, 16, 5, 1), (73, 41, 8, 0), (76, 5, 4, 0)]
theorem ok_X6_nearest : tab_X6_nearest.all (okE cX6_nearest) = true := by decide +kernel
def ed_X6_nearest : List (Nat × Instr × Nat) := [(11, .getfield 31, 3), (14, .if_icmp .ge 62, 3), (18, .getfield 9, 3), (23, .iaload, 1), (25, .if_icmp .eq 45, 3), (30, .if_icmp .eq 14, 3), (34, .getfield 9, 3), (39, .iaload, 1), (41, .if_icmp .ne 29, 3), (49, .getfield 15, 3), (54, .iaload, 1), (56, .getfield 18, 3), (61, .iaload, 1), (62, .invokestatic 35, 3), (65, .invokestatic 41, 3), (78, .ireturn, 1)]
theorem okd_X6_nearest : ed_X6_nearest.all (okD cX6_nearest) = true := by decide +kernel
def f_X6_nearest (S : St) (p0 : Nat) (p1 : Int32) (p2 : Int32) (p3 : Int32) : Option (Int32) := jn (κ := Int32 → Option (Int32)) (fun x1 => some x1) fun k2 => lp (κ := Int32 → Int32 → Option (Int32)) (fun _ _ => none) (fun k6 x4 x5 => lt (gI S p0 4) fun (v8 : Int32) => if v8 ≤ x5 then (k2 x4) else (lt (gR S p0 0) fun (a9 : Nat) => ldI S a9 x5 fun (v11 : Int32) => jn (κ := Int32 → Option (Int32)) (fun x12 => k6 x12 (x5 + 1)) fun k13 => if v11 = (-1) then (k13 x4) else (jn (κ := Option (Int32)) (lt (gR S p0 1) fun (a17 : Nat) => ldI S a17 x5 fun (v19 : Int32) => lt (gR S p0 2) fun (a20 : Nat) => ldI S a20 x5 fun (v22 : Int32) => cl (f_X3_steps S p2 p3 v19 v22) fun (v23 : Int32) => lt (if v23 < x4 then v23 else x4) fun (v24 : Int32) => k13 v24) fun k15 => if p1 = (-1) then (k15) else (lt (gR S p0 0) fun (a25 : Nat) => ldI S a25 x5 fun (v27 : Int32) => if v27 = p1 then (k15) else (k13 x4))))) FU 1000 0
set_option maxHeartbeats 4000000 in
set_option maxRecDepth 100000 in
theorem c_X6_nearest (S : St) (p0 : Nat) (p1 : Int32) (p2 : Int32) (p3 : Int32) : Ct yX6_nearest cX6_nearest 6 (some .int) 2 46 (fun _ => [.ref p0, .int p1, .int p2, .int p3]) [(p0, 6)] S (f_X6_nearest S p0 p1 p2 p3) oI (fun _ => S) := by
  refine Ct_of RX6 rfl (by decide) (fun _ => Nat.le_of_ble_eq_true rfl) 2 (vs := fun _ => [some (.ref p0), some (.int p1), some (.int p2), some (.int p3), none, none]) (fun _ => rfl) (fun C X E hr ht => ?_)
  have t0_ : tT C p0 6 := ht (p0, 6) (by simp)
  show Jd C 6 (QJ C oI (fun _ => S)) S 0 [some (.ref p0), some (.int p1), some (.int p2), some (.int p3), none, none] [] (f_X6_nearest S p0 p1 p2 p3)
  unfold f_X6_nearest
  refine s_run X ok_X6_nearest 0 4 (pc' := 8) (vs' := [some (.ref p0), some (.int p1), some (.int p2), some (.int p3), some (.int 1000), some (.int 0)]) (st' := []) rfl ?_
  refine s_jn (κ := Int32 → Option (Int32)) (fun k2 => ∀ (x1 : Int32), Jd C 6 (QJ C oI (fun _ => S)) S 76 [none, none, none, none, some (.int x1), none] [] (k2 x1)) (fun x1 => ?_) (fun k2 h3 => ?_)
  · refine s_run X ok_X6_nearest 24 1 (pc' := 78) (vs' := [none, none, none, none, some (.int x1), none]) (st' := [.int x1]) rfl ?_
    exact s_iret X hr (dk okd_X6_nearest 15 rfl) rfl rfl
  · refine s_lp (κ := Int32 → Int32 → Option (Int32)) (fun k6 => ∀ (x4 : Int32) (x5 : Int32), Jd C 6 (QJ C oI (fun _ => S)) S 8 [some (.ref p0), some (.int p1), some (.int p2), some (.int p3), some (.int x4), some (.int x5)] [] (k6 x4 x5)) (fun _ _ => s_none) (fun k6 h7 x4 x5 => ?_) FU 1000 0
    refine s_run X ok_X6_nearest 4 2 (pc' := 11) (vs' := [some (.ref p0), some (.int p1), some (.int p2), some (.int p3), some (.int x4), some (.int x5)]) (st' := [.ref p0, .int x5]) rfl ?_
    refine s_getI X fl_X6_31 t0_ (dk okd_X6_nearest 0 rfl) (fun v8 => ?_)
    refine s_icmp_ge (tgt := 76) X (dk okd_X6_nearest 1 rfl) (by decide) ?_ ?_
    · exact s_less [false, false, false, false, true, false] rfl (h3 x4)
    · refine s_run X ok_X6_nearest 6 1 (pc' := 18) (vs' := [some (.ref p0), some (.int p1), some (.int p2), some (.int p3), some (.int x4), some (.int x5)]) (st' := [.ref p0]) rfl ?_
      refine s_getR X fl_X6_9 t0_ (dk okd_X6_nearest 2 rfl) (fun a9 (t10 : tT C a9 13) => ?_)
      refine s_run X ok_X6_nearest 7 1 (pc' := 23) (vs' := [some (.ref p0), some (.int p1), some (.int p2), some (.int p3), some (.int x4), some (.int x5)]) (st' := [.int x5, .ref a9]) rfl ?_
      refine s_iald X t10 (dk okd_X6_nearest 3 rfl) (fun v11 => ?_)
      refine s_run X ok_X6_nearest 8 1 (pc' := 25) (vs' := [some (.ref p0), some (.int p1), some (.int p2), some (.int p3), some (.int x4), some (.int x5)]) (st' := [.int (-1), .int v11]) rfl ?_
      refine s_jn (κ := Int32 → Option (Int32)) (fun k13 => ∀ (x12 : Int32), Jd C 6 (QJ C oI (fun _ => S)) S 70 [some (.ref p0), some (.int p1), some (.int p2), some (.int p3), some (.int x12), some (.int x5)] [] (k13 x12)) (fun x12 => ?_) (fun k13 h14 => ?_)
      · refine s_run X ok_X6_nearest 22 2 (pc' := 8) (vs' := [some (.ref p0), some (.int p1), some (.int p2), some (.int p3), some (.int x12), some (.int (x5 + 1))]) (st' := []) rfl ?_
        exact h7 x12 (x5 + 1)
      · refine s_icmp_eq (tgt := 70) X (dk okd_X6_nearest 4 rfl) (by decide) ?_ ?_
        · exact h14 x4
        · refine s_run X ok_X6_nearest 9 2 (pc' := 30) (vs' := [some (.ref p0), some (.int p1), some (.int p2), some (.int p3), some (.int x4), some (.int x5)]) (st' := [.int (-1), .int p1]) rfl ?_
          refine s_jn (κ := Option (Int32)) (fun k15 => Jd C 6 (QJ C oI (fun _ => S)) S 44 [some (.ref p0), some (.int p1), some (.int p2), some (.int p3), some (.int x4), some (.int x5)] [] k15) ?_ (fun k15 h16 => ?_)
          · refine s_run X ok_X6_nearest 14 4 (pc' := 49) (vs' := [some (.ref p0), some (.int p1), some (.int p2), some (.int p3), some (.int x4), some (.int x5)]) (st' := [.ref p0, .int p3, .int p2, .int x4]) rfl ?_
            refine s_getR X fl_X6_15 t0_ (dk okd_X6_nearest 9 rfl) (fun a17 (t18 : tT C a17 13) => ?_)
            refine s_run X ok_X6_nearest 18 1 (pc' := 54) (vs' := [some (.ref p0), some (.int p1), some (.int p2), some (.int p3), some (.int x4), some (.int x5)]) (st' := [.int x5, .ref a17, .int p3, .int p2, .int x4]) rfl ?_
            refine s_iald X t18 (dk okd_X6_nearest 10 rfl) (fun v19 => ?_)
            refine s_run X ok_X6_nearest 19 1 (pc' := 56) (vs' := [some (.ref p0), some (.int p1), some (.int p2), some (.int p3), some (.int x4), some (.int x5)]) (st' := [.ref p0, .int v19, .int p3, .int p2, .int x4]) rfl ?_
            refine s_getR X fl_X6_18 t0_ (dk okd_X6_nearest 11 rfl) (fun a20 (t21 : tT C a20 13) => ?_)
            refine s_run X ok_X6_nearest 20 1 (pc' := 61) (vs' := [some (.ref p0), some (.int p1), some (.int p2), some (.int p3), some (.int x4), some (.int x5)]) (st' := [.int x5, .ref a20, .int v19, .int p3, .int p2, .int x4]) rfl ?_
            refine s_iald X t21 (dk okd_X6_nearest 12 rfl) (fun v22 => ?_)
            refine s_callS (As := [.int p2, .int p3, .int v19, .int v22]) (rest := [.int x4]) X E ms_X6_35 (c_X3_steps S p2 p3 v19 v22) rfl (ta0) rfl rfl (Nat.le_of_ble_eq_true rfl) (Nat.le_of_ble_eq_true rfl) (Nat.le_of_ble_eq_true rfl) (dk okd_X6_nearest 13 rfl) (st' := fun v23 => [.int v23, .int x4]) (fun _ => rfl) (fun v23 => ?_)
            refine s_Mmin X mm_X6_41 (Nat.le_of_ble_eq_true rfl) (Nat.le_of_ble_eq_true rfl) (dk okd_X6_nearest 14 rfl) (fun v24 => ?_)
            refine s_run X ok_X6_nearest 21 1 (pc' := 70) (vs' := [some (.ref p0), some (.int p1), some (.int p2), some (.int p3), some (.int v24), some (.int x5)]) (st' := []) rfl ?_
            exact h14 v24
          · refine s_icmp_eq (tgt := 44) X (dk okd_X6_nearest 5 rfl) (by decide) ?_ ?_
            · exact h16
            · refine s_run X ok_X6_nearest 11 1 (pc' := 34) (vs' := [some (.ref p0), some (.int p1), some (.int p2), some (.int p3), some (.int x4), some (.int x5)]) (st' := [.ref p0]) rfl ?_
              refine s_getR X fl_X6_9 t0_ (dk okd_X6_nearest 6 rfl) (fun a25 (t26 : tT C a25 13) => ?_)
              refine s_run X ok_X6_nearest 12 1 (pc' := 39) (vs' := [some (.ref p0), some (.int p1), some (.int p2), some (.int p3), some (.int x4), some (.int x5)]) (st' := [.int x5, .ref a25]) rfl ?_
              refine s_iald X t26 (dk okd_X6_nearest 7 rfl) (fun v27 => ?_)
              refine s_run X ok_X6_nearest 13 1 (pc' := 41) (vs' := [some (.ref p0), some (.int p1), some (.int p2), some (.int p3), some (.int x4), some (.int x5)]) (st' := [.int p1, .int v27]) rfl ?_
              refine s_icmp_ne (tgt := 70) X (dk okd_X6_nearest 8 rfl) (by decide) ?_ ?_
              · exact h14 x4
              · exact h16
def tab_X6_closeAllOf : List En := [(0, 0, 0, 0), (1, 10, 2, 0), (2, 4, 2, 0), (3, 8, 0, 0), (10, 8, 0, 0), (14, 4, 2, 0), (16, 4, 1, 0), (20, 8, 0, 0), (24, 4, 2, 0), (25, 0, 0, (-1)), (27, 16, 2, 1), (30, 41, 2, 0)]
theorem ok_X6_closeAllOf : tab_X6_closeAllOf.all (okE cX6_closeAllOf) = true := by decide +kernel
def ed_X6_closeAllOf : List (Nat × Instr × Nat) := [(4, .getfield 31, 3), (7, .if_icmp .ge 26, 3), (11, .getfield 9, 3), (15, .iaload, 1), (17, .if_icmp .ne 10, 3), (21, .getfield 9, 3), (26, .iastore, 1), (33, .return_, 1)]
theorem okd_X6_closeAllOf : ed_X6_closeAllOf.all (okD cX6_closeAllOf) = true := by decide +kernel
def f_X6_closeAllOf (S : St) (p0 : Nat) (p1 : Int32) : Option (St) := lp (κ := Int32 → St → Option (St)) (fun _ _ => none) (fun k3 x1 S2 => lt (gI S2 p0 4) fun (v5 : Int32) => if v5 ≤ x1 then (some S2) else (lt (gR S2 p0 0) fun (a6 : Nat) => ldI S2 a6 x1 fun (v8 : Int32) => jn (κ := St → Option (St)) (fun S9 => k3 (x1 + 1) S9) fun k10 => if v8 = p1 then (lt (gR S2 p0 0) fun (a12 : Nat) => stI S2 a12 x1 (-1) fun (S14 : St) => k10 S14) else (k10 S2))) FU 0 S
set_option maxHeartbeats 4000000 in
set_option maxRecDepth 100000 in
theorem c_X6_closeAllOf (S : St) (p0 : Nat) (p1 : Int32) : Ct yX6_closeAllOf cX6_closeAllOf 3 none 0 0 (fun _ => [.ref p0, .int p1]) [(p0, 6)] S (f_X6_closeAllOf S p0 p1) oV sV := by
  refine Ct_of RX6 rfl (by decide) (fun _ => Nat.le_of_ble_eq_true rfl) 1 (vs := fun _ => [some (.ref p0), some (.int p1), none]) (fun _ => rfl) (fun C X E hr ht => ?_)
  have t0_ : tT C p0 6 := ht (p0, 6) (by simp)
  show Jd C 3 (QJ C oV sV) S 0 [some (.ref p0), some (.int p1), none] [] (f_X6_closeAllOf S p0 p1)
  unfold f_X6_closeAllOf
  refine s_run X ok_X6_closeAllOf 0 2 (pc' := 2) (vs' := [some (.ref p0), some (.int p1), some (.int 0)]) (st' := []) rfl ?_
  refine s_lp (κ := Int32 → St → Option (St)) (fun k3 => ∀ (x1 : Int32) (S2 : St), Jd C 3 (QJ C oV sV) S2 2 [some (.ref p0), some (.int p1), some (.int x1)] [] (k3 x1 S2)) (fun _ _ => s_none) (fun k3 h4 x1 S2 => ?_) FU 0 S
  refine s_run X ok_X6_closeAllOf 2 2 (pc' := 4) (vs' := [some (.ref p0), some (.int p1), some (.int x1)]) (st' := [.ref p0, .int x1]) rfl ?_
  refine s_getI X fl_X6_31 t0_ (dk okd_X6_closeAllOf 0 rfl) (fun v5 => ?_)
  refine s_icmp_ge (tgt := 33) X (dk okd_X6_closeAllOf 1 rfl) (by decide) ?_ ?_
  · exact s_vret X hr (dk okd_X6_closeAllOf 7 rfl) rfl rfl
  · refine s_run X ok_X6_closeAllOf 4 1 (pc' := 11) (vs' := [some (.ref p0), some (.int p1), some (.int x1)]) (st' := [.ref p0]) rfl ?_
    refine s_getR X fl_X6_9 t0_ (dk okd_X6_closeAllOf 2 rfl) (fun a6 (t7 : tT C a6 13) => ?_)
    refine s_run X ok_X6_closeAllOf 5 1 (pc' := 15) (vs' := [some (.ref p0), some (.int p1), some (.int x1)]) (st' := [.int x1, .ref a6]) rfl ?_
    refine s_iald X t7 (dk okd_X6_closeAllOf 3 rfl) (fun v8 => ?_)
    refine s_run X ok_X6_closeAllOf 6 1 (pc' := 17) (vs' := [some (.ref p0), some (.int p1), some (.int x1)]) (st' := [.int p1, .int v8]) rfl ?_
    refine s_jn (κ := St → Option (St)) (fun k10 => ∀ (S9 : St), Jd C 3 (QJ C oV sV) S9 27 [some (.ref p0), some (.int p1), some (.int x1)] [] (k10 S9)) (fun S9 => ?_) (fun k10 h11 => ?_)
    · refine s_run X ok_X6_closeAllOf 10 2 (pc' := 2) (vs' := [some (.ref p0), some (.int p1), some (.int (x1 + 1))]) (st' := []) rfl ?_
      exact h4 (x1 + 1) S9
    · refine s_icmp_ne (tgt := 27) X (dk okd_X6_closeAllOf 4 rfl) (by decide) ?_ ?_
      · exact h11 S2
      · refine s_run X ok_X6_closeAllOf 7 1 (pc' := 21) (vs' := [some (.ref p0), some (.int p1), some (.int x1)]) (st' := [.ref p0]) rfl ?_
        refine s_getR X fl_X6_9 t0_ (dk okd_X6_closeAllOf 5 rfl) (fun a12 (t13 : tT C a12 13) => ?_)
        refine s_run X ok_X6_closeAllOf 8 2 (pc' := 26) (vs' := [some (.ref p0), some (.int p1), some (.int x1)]) (st' := [.int (-1), .int x1, .ref a12]) rfl ?_
        refine s_iast X t13 (dk okd_X6_closeAllOf 6 rfl) (fun S14 => ?_)
        exact h11 S14
def tab_X6_replaceSales : List En := [(0, 8, 0, 0), (4, 4, 1, 0), (6, 0, 0, (-1)), (14, 8, 0, 0), (18, 4, 1, 0), (20, 13, 4, 0), (22, 8, 0, 0), (26, 4, 1, 0), (27, 6, 2, 0), (29, 7, 4, 0)]
theorem ok_X6_replaceSales : tab_X6_replaceSales.all (okE cX6_replaceSales) = true := by decide +kernel
def ed_X6_replaceSales : List (Nat × Instr × Nat) := [(1, .getfield 9, 3), (5, .iaload, 1), (7, .if_icmp .ne 7, 3), (10, .ldc2_w 47, 3), (13, .lreturn, 1), (15, .getfield 21, 3), (19, .laload, 1), (23, .getfield 21, 3), (28, .lastore, 1), (31, .lreturn, 1)]
theorem okd_X6_replaceSales : ed_X6_replaceSales.all (okD cX6_replaceSales) = true := by decide +kernel
def f_X6_replaceSales (S : St) (p0 : Nat) (p1 : Int32) (p2 : Int64) : Option (Int64 × St) := lt (gR S p0 0) fun (a1 : Nat) => ldI S a1 p1 fun (v3 : Int32) => if v3 = (-1) then (some ((-1), S)) else (lt (gR S p0 3) fun (a4 : Nat) => ldJ S a4 p1 fun (v6 : Int64) => lt (gR S p0 3) fun (a7 : Nat) => stJ S a7 p1 p2 fun (S9 : St) => some (v6, S9))
set_option maxHeartbeats 4000000 in
set_option maxRecDepth 100000 in
theorem c_X6_replaceSales (S : St) (p0 : Nat) (p1 : Int32) (p2 : Int64) : Ct yX6_replaceSales cX6_replaceSales 6 (some .long) 0 0 (fun _ => [.ref p0, .int p1, .long p2]) [(p0, 6)] S (f_X6_replaceSales S p0 p1 p2) oLS sL := by
  refine Ct_of RX6 rfl (by decide) (fun _ => Nat.le_of_ble_eq_true rfl) 2 (vs := fun _ => [some (.ref p0), some (.int p1), some (.long p2), none, none, none]) (fun _ => rfl) (fun C X E hr ht => ?_)
  have t0_ : tT C p0 6 := ht (p0, 6) (by simp)
  show Jd C 6 (QJ C oLS sL) S 0 [some (.ref p0), some (.int p1), some (.long p2), none, none, none] [] (f_X6_replaceSales S p0 p1 p2)
  unfold f_X6_replaceSales
  refine s_run X ok_X6_replaceSales 0 1 (pc' := 1) (vs' := [some (.ref p0), some (.int p1), some (.long p2), none, none, none]) (st' := [.ref p0]) rfl ?_
  refine s_getR X fl_X6_9 t0_ (dk okd_X6_replaceSales 0 rfl) (fun a1 (t2 : tT C a1 13) => ?_)
  refine s_run X ok_X6_replaceSales 1 1 (pc' := 5) (vs' := [some (.ref p0), some (.int p1), some (.long p2), none, none, none]) (st' := [.int p1, .ref a1]) rfl ?_
  refine s_iald X t2 (dk okd_X6_replaceSales 1 rfl) (fun v3 => ?_)
  refine s_run X ok_X6_replaceSales 2 1 (pc' := 7) (vs' := [some (.ref p0), some (.int p1), some (.long p2), none, none, none]) (st' := [.int (-1), .int v3]) rfl ?_
  refine s_icmp_ne (tgt := 14) X (dk okd_X6_replaceSales 2 rfl) (by decide) ?_ ?_
  · refine s_run X ok_X6_replaceSales 3 1 (pc' := 15) (vs' := [some (.ref p0), some (.int p1), some (.long p2), none, none, none]) (st' := [.ref p0]) rfl ?_
    refine s_getR X fl_X6_21 t0_ (dk okd_X6_replaceSales 5 rfl) (fun a4 (t5 : tT C a4 14) => ?_)
    refine s_run X ok_X6_replaceSales 4 1 (pc' := 19) (vs' := [some (.ref p0), some (.int p1), some (.long p2), none, none, none]) (st' := [.int p1, .ref a4]) rfl ?_
    refine s_lald X t5 (dk okd_X6_replaceSales 6 rfl) (fun v6 => ?_)
    refine s_run X ok_X6_replaceSales 5 2 (pc' := 23) (vs' := [some (.ref p0), some (.int p1), some (.long p2), none, some (.long v6), none]) (st' := [.ref p0]) rfl ?_
    refine s_getR X fl_X6_21 t0_ (dk okd_X6_replaceSales 7 rfl) (fun a7 (t8 : tT C a7 14) => ?_)
    refine s_run X ok_X6_replaceSales 7 2 (pc' := 28) (vs' := [some (.ref p0), some (.int p1), some (.long p2), none, some (.long v6), none]) (st' := [.long p2, .int p1, .ref a7]) rfl ?_
    refine s_last X t8 (dk okd_X6_replaceSales 8 rfl) (fun S9 => ?_)
    refine s_run X ok_X6_replaceSales 9 1 (pc' := 31) (vs' := [some (.ref p0), some (.int p1), some (.long p2), none, some (.long v6), none]) (st' := [.long v6]) rfl ?_
    exact s_lret X hr (dk okd_X6_replaceSales 9 rfl) rfl rfl
  · refine s_ldc2 X cl_X6_47 (dk okd_X6_replaceSales 3 rfl) ?_
    exact s_lret X hr (dk okd_X6_replaceSales 4 rfl) rfl rfl
def tab_X6_scaledSales : List En := [(0, 3, 0, 0), (1, 12, 3, 0), (2, 0, 0, 0), (3, 11, 5, 0), (5, 5, 5, 0), (7, 8, 0, 0), (14, 8, 0, 0), (18, 5, 5, 0), (21, 4, 1, 0), (25, 6, 3, 0), (26, 8, 0, 0), (30, 5, 5, 0), (33, 4, 2, 0), (34, 31, 0, 0), (35, 25, 0, 0), (40, 23, 0, 0), (41, 12, 3, 0), (42, 16, 5, 1), (45, 41, 5, 0), (48, 6, 3, 0)]
theorem ok_X6_scaledSales : tab_X6_scaledSales.all (okE cX6_scaledSales) = true := by decide +kernel
def ed_X6_scaledSales : List (Nat × Instr × Nat) := [(8, .getfield 31, 3), (11, .if_icmp .ge 37, 3), (15, .getfield 9, 3), (20, .iaload, 1), (22, .if_icmp .ne 20, 3), (27, .getfield 21, 3), (32, .laload, 1), (36, .ldc2_w 53, 3), (39, .ldiv, 1), (49, .lreturn, 1)]
theorem okd_X6_scaledSales : ed_X6_scaledSales.all (okD cX6_scaledSales) = true := by decide +kernel
def f_X6_scaledSales (S : St) (p0 : Nat) (p1 : Int32) (p2 : Int32) : Option (Int64) := jn (κ := Int64 → Option (Int64)) (fun x1 => some x1) fun k2 => lp (κ := Int64 → Int32 → Option (Int64)) (fun _ _ => none) (fun k6 x4 x5 => lt (gI S p0 4) fun (v8 : Int32) => if v8 ≤ x5 then (k2 x4) else (lt (gR S p0 0) fun (a9 : Nat) => ldI S a9 x5 fun (v11 : Int32) => jn (κ := Int64 → Option (Int64)) (fun x12 => k6 x12 (x5 + 1)) fun k13 => if v11 = p1 then (lt (gR S p0 3) fun (a15 : Nat) => ldJ S a15 x5 fun (v17 : Int64) => lt (x4 + ((v17 * (Int32.toInt64 p2)) / 100)) fun (v18 : Int64) => k13 v18) else (k13 x4))) FU 0 0
set_option maxHeartbeats 4000000 in
set_option maxRecDepth 100000 in
theorem c_X6_scaledSales (S : St) (p0 : Nat) (p1 : Int32) (p2 : Int32) : Ct yX6_scaledSales cX6_scaledSales 6 (some .long) 0 0 (fun _ => [.ref p0, .int p1, .int p2]) [(p0, 6)] S (f_X6_scaledSales S p0 p1 p2) oL (fun _ => S) := by
  refine Ct_of RX6 rfl (by decide) (fun _ => Nat.le_of_ble_eq_true rfl) 3 (vs := fun _ => [some (.ref p0), some (.int p1), some (.int p2), none, none, none]) (fun _ => rfl) (fun C X E hr ht => ?_)
  have t0_ : tT C p0 6 := ht (p0, 6) (by simp)
  show Jd C 6 (QJ C oL (fun _ => S)) S 0 [some (.ref p0), some (.int p1), some (.int p2), none, none, none] [] (f_X6_scaledSales S p0 p1 p2)
  unfold f_X6_scaledSales
  refine s_run X ok_X6_scaledSales 0 4 (pc' := 5) (vs' := [some (.ref p0), some (.int p1), some (.int p2), some (.long 0), none, some (.int 0)]) (st' := []) rfl ?_
  refine s_jn (κ := Int64 → Option (Int64)) (fun k2 => ∀ (x1 : Int64), Jd C 6 (QJ C oL (fun _ => S)) S 48 [none, none, none, some (.long x1), none, none] [] (k2 x1)) (fun x1 => ?_) (fun k2 h3 => ?_)
  · refine s_run X ok_X6_scaledSales 19 1 (pc' := 49) (vs' := [none, none, none, some (.long x1), none, none]) (st' := [.long x1]) rfl ?_
    exact s_lret X hr (dk okd_X6_scaledSales 9 rfl) rfl rfl
  · refine s_lp (κ := Int64 → Int32 → Option (Int64)) (fun k6 => ∀ (x4 : Int64) (x5 : Int32), Jd C 6 (QJ C oL (fun _ => S)) S 5 [some (.ref p0), some (.int p1), some (.int p2), some (.long x4), none, some (.int x5)] [] (k6 x4 x5)) (fun _ _ => s_none) (fun k6 h7 x4 x5 => ?_) FU 0 0
    refine s_run X ok_X6_scaledSales 4 2 (pc' := 8) (vs' := [some (.ref p0), some (.int p1), some (.int p2), some (.long x4), none, some (.int x5)]) (st' := [.ref p0, .int x5]) rfl ?_
    refine s_getI X fl_X6_31 t0_ (dk okd_X6_scaledSales 0 rfl) (fun v8 => ?_)
    refine s_icmp_ge (tgt := 48) X (dk okd_X6_scaledSales 1 rfl) (by decide) ?_ ?_
    · exact s_less [false, false, false, true, false, false] rfl (h3 x4)
    · refine s_run X ok_X6_scaledSales 6 1 (pc' := 15) (vs' := [some (.ref p0), some (.int p1), some (.int p2), some (.long x4), none, some (.int x5)]) (st' := [.ref p0]) rfl ?_
      refine s_getR X fl_X6_9 t0_ (dk okd_X6_scaledSales 2 rfl) (fun a9 (t10 : tT C a9 13) => ?_)
      refine s_run X ok_X6_scaledSales 7 1 (pc' := 20) (vs' := [some (.ref p0), some (.int p1), some (.int p2), some (.long x4), none, some (.int x5)]) (st' := [.int x5, .ref a9]) rfl ?_
      refine s_iald X t10 (dk okd_X6_scaledSales 3 rfl) (fun v11 => ?_)
      refine s_run X ok_X6_scaledSales 8 1 (pc' := 22) (vs' := [some (.ref p0), some (.int p1), some (.int p2), some (.long x4), none, some (.int x5)]) (st' := [.int p1, .int v11]) rfl ?_
      refine s_jn (κ := Int64 → Option (Int64)) (fun k13 => ∀ (x12 : Int64), Jd C 6 (QJ C oL (fun _ => S)) S 42 [some (.ref p0), some (.int p1), some (.int p2), some (.long x12), none, some (.int x5)] [] (k13 x12)) (fun x12 => ?_) (fun k13 h14 => ?_)
      · refine s_run X ok_X6_scaledSales 17 2 (pc' := 5) (vs' := [some (.ref p0), some (.int p1), some (.int p2), some (.long x12), none, some (.int (x5 + 1))]) (st' := []) rfl ?_
        exact h7 x12 (x5 + 1)
      · refine s_icmp_ne (tgt := 42) X (dk okd_X6_scaledSales 4 rfl) (by decide) ?_ ?_
        · exact h14 x4
        · refine s_run X ok_X6_scaledSales 9 2 (pc' := 27) (vs' := [some (.ref p0), some (.int p1), some (.int p2), some (.long x4), none, some (.int x5)]) (st' := [.ref p0, .long x4]) rfl ?_
          refine s_getR X fl_X6_21 t0_ (dk okd_X6_scaledSales 5 rfl) (fun a15 (t16 : tT C a15 14) => ?_)
          refine s_run X ok_X6_scaledSales 11 1 (pc' := 32) (vs' := [some (.ref p0), some (.int p1), some (.int p2), some (.long x4), none, some (.int x5)]) (st' := [.int x5, .ref a15, .long x4]) rfl ?_
          refine s_lald X t16 (dk okd_X6_scaledSales 6 rfl) (fun v17 => ?_)
          refine s_run X ok_X6_scaledSales 12 3 (pc' := 36) (vs' := [some (.ref p0), some (.int p1), some (.int p2), some (.long x4), none, some (.int x5)]) (st' := [.long (v17 * (Int32.toInt64 p2)), .long x4]) rfl ?_
          refine s_ldc2 X cl_X6_53 (dk okd_X6_scaledSales 7 rfl) ?_
          refine s_ldiv0 X (dk okd_X6_scaledSales 8 rfl) (by decide) ?_
          refine s_run X ok_X6_scaledSales 15 1 (pc' := 41) (vs' := [some (.ref p0), some (.int p1), some (.int p2), some (.long x4), none, some (.int x5)]) (st' := [.long (x4 + ((v17 * (Int32.toInt64 p2)) / 100))]) rfl ?_
          refine s_nmJ (fun v18 => ?_)
          refine s_run X ok_X6_scaledSales 16 1 (pc' := 42) (vs' := [some (.ref p0), some (.int p1), some (.int p2), some (.long v18), none, some (.int x5)]) (st' := []) rfl ?_
          exact h14 v18
def tab_X8_clear : List En := [(0, 8, 0, 0), (1, 0, 0, 0), (5, 8, 0, 0), (6, 0, 0, 0), (10, 8, 0, 0), (11, 3, 0, 0), (15, 8, 0, 0), (16, 0, 0, 0), (20, 8, 0, 0), (21, 0, 0, 0), (25, 8, 0, 0), (26, 3, 0, 0), (30, 8, 0, 0), (31, 0, 0, 0), (35, 8, 0, 0), (36, 0, 0, 0)]
theorem ok_X8_clear : tab_X8_clear.all (okE cX8_clear) = true := by decide +kernel
def ed_X8_clear : List (Nat × Instr × Nat) := [(2, .putfield 25, 3), (7, .putfield 29, 3), (12, .putfield 32, 3), (17, .putfield 36, 3), (22, .putfield 39, 3), (27, .putfield 42, 3), (32, .putfield 45, 3), (37, .putfield 48, 3), (40, .return_, 1)]
theorem okd_X8_clear : ed_X8_clear.all (okD cX8_clear) = true := by decide +kernel
def f_X8_clear (S : St) (p0 : Nat) : Option (St) := lt (uI S p0 4 0) fun (S1 : St) => lt (uI S1 p0 5 0) fun (S2 : St) => lt (uJ S2 p0 6 0) fun (S3 : St) => lt (uI S3 p0 7 0) fun (S4 : St) => lt (uI S4 p0 8 0) fun (S5 : St) => lt (uJ S5 p0 9 0) fun (S6 : St) => lt (uI S6 p0 10 0) fun (S7 : St) => lt (uI S7 p0 11 0) fun (S8 : St) => some S8
set_option maxHeartbeats 4000000 in
set_option maxRecDepth 100000 in
theorem c_X8_clear (S : St) (p0 : Nat) : Ct yX8_clear cX8_clear 1 none 0 0 (fun _ => [.ref p0]) [(p0, 7)] S (f_X8_clear S p0) oV sV := by
  refine Ct_of RX8 rfl (by decide) (fun _ => Nat.le_of_ble_eq_true rfl) 0 (vs := fun _ => [some (.ref p0)]) (fun _ => rfl) (fun C X E hr ht => ?_)
  have t0_ : tT C p0 7 := ht (p0, 7) (by simp)
  show Jd C 1 (QJ C oV sV) S 0 [some (.ref p0)] [] (f_X8_clear S p0)
  unfold f_X8_clear
  refine s_run X ok_X8_clear 0 2 (pc' := 2) (vs' := [some (.ref p0)]) (st' := [.int 0, .ref p0]) rfl ?_
  refine s_putI X fp_X8_25 t0_ (dk okd_X8_clear 0 rfl) (fun S1 => ?_)
  refine s_run X ok_X8_clear 2 2 (pc' := 7) (vs' := [some (.ref p0)]) (st' := [.int 0, .ref p0]) rfl ?_
  refine s_putI X fp_X8_29 t0_ (dk okd_X8_clear 1 rfl) (fun S2 => ?_)
  refine s_run X ok_X8_clear 4 2 (pc' := 12) (vs' := [some (.ref p0)]) (st' := [.long 0, .ref p0]) rfl ?_
  refine s_putJ X fp_X8_32 t0_ (dk okd_X8_clear 2 rfl) (fun S3 => ?_)
  refine s_run X ok_X8_clear 6 2 (pc' := 17) (vs' := [some (.ref p0)]) (st' := [.int 0, .ref p0]) rfl ?_
  refine s_putI X fp_X8_36 t0_ (dk okd_X8_clear 3 rfl) (fun S4 => ?_)
  refine s_run X ok_X8_clear 8 2 (pc' := 22) (vs' := [some (.ref p0)]) (st' := [.int 0, .ref p0]) rfl ?_
  refine s_putI X fp_X8_39 t0_ (dk okd_X8_clear 4 rfl) (fun S5 => ?_)
  refine s_run X ok_X8_clear 10 2 (pc' := 27) (vs' := [some (.ref p0)]) (st' := [.long 0, .ref p0]) rfl ?_
  refine s_putJ X fp_X8_42 t0_ (dk okd_X8_clear 5 rfl) (fun S6 => ?_)
  refine s_run X ok_X8_clear 12 2 (pc' := 32) (vs' := [some (.ref p0)]) (st' := [.int 0, .ref p0]) rfl ?_
  refine s_putI X fp_X8_45 t0_ (dk okd_X8_clear 6 rfl) (fun S7 => ?_)
  refine s_run X ok_X8_clear 14 2 (pc' := 37) (vs' := [some (.ref p0)]) (st' := [.int 0, .ref p0]) rfl ?_
  refine s_putI X fp_X8_48 t0_ (dk okd_X8_clear 7 rfl) (fun S8 => ?_)
  exact s_vret X hr (dk okd_X8_clear 8 rfl) rfl rfl
def tab_X8_addStep : List En := [(0, 8, 0, 0), (4, 0, 0, 1), (5, 18, 0, 0), (6, 11, 4, 0), (8, 5, 4, 0), (13, 8, 0, 0), (17, 5, 4, 0), (20, 0, 0, 5), (25, 5, 4, 0), (27, 0, 0, 5), (28, 19, 0, 0), (29, 8, 0, 0), (33, 5, 4, 0), (36, 17, 0, 0), (37, 11, 5, 0), (39, 8, 0, 0), (43, 5, 5, 0), (45, 6, 1, 0), (47, 8, 0, 0), (51, 5, 5, 0), (53, 4, 3, 0), (55, 8, 0, 0), (59, 5, 4, 0), (61, 37, 0, 0), (63, 0, 0, 1), (64, 17, 0, 0)]
theorem ok_X8_addStep : tab_X8_addStep.all (okE cX8_addStep) = true := by decide +kernel
def ed_X8_addStep : List (Nat × Instr × Nat) := [(1, .getfield 25, 3), (10, .ifCond .lt 14, 3), (14, .getfield 15, 3), (19, .iaload, 1), (21, .if_icmp .lt 4, 3), (24, .return_, 1), (30, .getfield 15, 3), (35, .iaload, 1), (40, .getfield 18, 3), (46, .lastore, 1), (48, .getfield 22, 3), (54, .iastore, 1), (56, .getfield 15, 3), (62, .iaload, 1), (65, .iastore, 1), (66, .return_, 1)]
theorem okd_X8_addStep : ed_X8_addStep.all (okD cX8_addStep) = true := by decide +kernel
def f_X8_addStep (S : St) (p0 : Nat) (p1 : Int64) (p2 : Int32) : Option (St) := lt (gI S p0 4) fun (v1 : Int32) => lt (v1 - 1) fun (v2 : Int32) => if v2 < 0 then (some S) else (lt (gR S p0 1) fun (a3 : Nat) => ldI S a3 v2 fun (v5 : Int32) => if v5 < 5 then (lt (gR S p0 1) fun (a6 : Nat) => ldI S a6 v2 fun (v8 : Int32) => lt ((v2 * 5) + v8) fun (v9 : Int32) => lt (gR S p0 2) fun (a10 : Nat) => stJ S a10 v9 p1 fun (S12 : St) => lt (gR S12 p0 3) fun (a13 : Nat) => stI S12 a13 v9 p2 fun (S15 : St) => lt (gR S15 p0 1) fun (a16 : Nat) => ldI S15 a16 v2 fun (v18 : Int32) => stI S15 a16 v2 (v18 + 1) fun (S19 : St) => some S19) else (some S))
set_option maxHeartbeats 4000000 in
set_option maxRecDepth 100000 in
theorem c_X8_addStep (S : St) (p0 : Nat) (p1 : Int64) (p2 : Int32) : Ct yX8_addStep cX8_addStep 6 none 0 0 (fun _ => [.ref p0, .long p1, .int p2]) [(p0, 7)] S (f_X8_addStep S p0 p1 p2) oV sV := by
  refine Ct_of RX8 rfl (by decide) (fun _ => Nat.le_of_ble_eq_true rfl) 2 (vs := fun _ => [some (.ref p0), some (.long p1), none, some (.int p2), none, none]) (fun _ => rfl) (fun C X E hr ht => ?_)
  have t0_ : tT C p0 7 := ht (p0, 7) (by simp)
  show Jd C 6 (QJ C oV sV) S 0 [some (.ref p0), some (.long p1), none, some (.int p2), none, none] [] (f_X8_addStep S p0 p1 p2)
  unfold f_X8_addStep
  refine s_run X ok_X8_addStep 0 1 (pc' := 1) (vs' := [some (.ref p0), some (.long p1), none, some (.int p2), none, none]) (st' := [.ref p0]) rfl ?_
  refine s_getI X fl_X8_25 t0_ (dk okd_X8_addStep 0 rfl) (fun v1 => ?_)
  refine s_run X ok_X8_addStep 1 2 (pc' := 6) (vs' := [some (.ref p0), some (.long p1), none, some (.int p2), none, none]) (st' := [.int (v1 - 1)]) rfl ?_
  refine s_nmI (fun v2 => ?_)
  refine s_run X ok_X8_addStep 3 2 (pc' := 10) (vs' := [some (.ref p0), some (.long p1), none, some (.int p2), some (.int v2), none]) (st' := [.int v2]) rfl ?_
  refine s_if_lt (tgt := 24) X (dk okd_X8_addStep 1 rfl) (by decide) ?_ ?_
  · exact s_vret X hr (dk okd_X8_addStep 5 rfl) rfl rfl
  · refine s_run X ok_X8_addStep 5 1 (pc' := 14) (vs' := [some (.ref p0), some (.long p1), none, some (.int p2), some (.int v2), none]) (st' := [.ref p0]) rfl ?_
    refine s_getR X fl_X8_15 t0_ (dk okd_X8_addStep 2 rfl) (fun a3 (t4 : tT C a3 13) => ?_)
    refine s_run X ok_X8_addStep 6 1 (pc' := 19) (vs' := [some (.ref p0), some (.long p1), none, some (.int p2), some (.int v2), none]) (st' := [.int v2, .ref a3]) rfl ?_
    refine s_iald X t4 (dk okd_X8_addStep 3 rfl) (fun v5 => ?_)
    refine s_run X ok_X8_addStep 7 1 (pc' := 21) (vs' := [some (.ref p0), some (.long p1), none, some (.int p2), some (.int v2), none]) (st' := [.int 5, .int v5]) rfl ?_
    refine s_icmp_lt (tgt := 25) X (dk okd_X8_addStep 4 rfl) (by decide) ?_ ?_
    · refine s_run X ok_X8_addStep 8 4 (pc' := 30) (vs' := [some (.ref p0), some (.long p1), none, some (.int p2), some (.int v2), none]) (st' := [.ref p0, .int (v2 * 5)]) rfl ?_
      refine s_getR X fl_X8_15 t0_ (dk okd_X8_addStep 6 rfl) (fun a6 (t7 : tT C a6 13) => ?_)
      refine s_run X ok_X8_addStep 12 1 (pc' := 35) (vs' := [some (.ref p0), some (.long p1), none, some (.int p2), some (.int v2), none]) (st' := [.int v2, .ref a6, .int (v2 * 5)]) rfl ?_
      refine s_iald X t7 (dk okd_X8_addStep 7 rfl) (fun v8 => ?_)
      refine s_run X ok_X8_addStep 13 1 (pc' := 37) (vs' := [some (.ref p0), some (.long p1), none, some (.int p2), some (.int v2), none]) (st' := [.int ((v2 * 5) + v8)]) rfl ?_
      refine s_nmI (fun v9 => ?_)
      refine s_run X ok_X8_addStep 14 2 (pc' := 40) (vs' := [some (.ref p0), some (.long p1), none, some (.int p2), some (.int v2), some (.int v9)]) (st' := [.ref p0]) rfl ?_
      refine s_getR X fl_X8_18 t0_ (dk okd_X8_addStep 8 rfl) (fun a10 (t11 : tT C a10 14) => ?_)
      refine s_run X ok_X8_addStep 16 2 (pc' := 46) (vs' := [some (.ref p0), some (.long p1), none, some (.int p2), some (.int v2), some (.int v9)]) (st' := [.long p1, .int v9, .ref a10]) rfl ?_
      refine s_last X t11 (dk okd_X8_addStep 9 rfl) (fun S12 => ?_)
      refine s_run X ok_X8_addStep 18 1 (pc' := 48) (vs' := [some (.ref p0), some (.long p1), none, some (.int p2), some (.int v2), some (.int v9)]) (st' := [.ref p0]) rfl ?_
      refine s_getR X fl_X8_22 t0_ (dk okd_X8_addStep 10 rfl) (fun a13 (t14 : tT C a13 13) => ?_)
      refine s_run X ok_X8_addStep 19 2 (pc' := 54) (vs' := [some (.ref p0), some (.long p1), none, some (.int p2), some (.int v2), some (.int v9)]) (st' := [.int p2, .int v9, .ref a13]) rfl ?_
      refine s_iast X t14 (dk okd_X8_addStep 11 rfl) (fun S15 => ?_)
      refine s_run X ok_X8_addStep 21 1 (pc' := 56) (vs' := [some (.ref p0), some (.long p1), none, some (.int p2), some (.int v2), some (.int v9)]) (st' := [.ref p0]) rfl ?_
      refine s_getR X fl_X8_15 t0_ (dk okd_X8_addStep 12 rfl) (fun a16 (t17 : tT C a16 13) => ?_)
      refine s_run X ok_X8_addStep 22 2 (pc' := 62) (vs' := [some (.ref p0), some (.long p1), none, some (.int p2), some (.int v2), some (.int v9)]) (st' := [.int v2, .ref a16, .int v2, .ref a16]) rfl ?_
      refine s_iald X t17 (dk okd_X8_addStep 13 rfl) (fun v18 => ?_)
      refine s_run X ok_X8_addStep 24 2 (pc' := 65) (vs' := [some (.ref p0), some (.long p1), none, some (.int p2), some (.int v2), some (.int v9)]) (st' := [.int (v18 + 1), .int v2, .ref a16]) rfl ?_
      refine s_iast X t17 (dk okd_X8_addStep 14 rfl) (fun S19 => ?_)
      exact s_vret X hr (dk okd_X8_addStep 15 rfl) rfl rfl
    · exact s_vret X hr (dk okd_X8_addStep 5 rfl) rfl rfl
def tab_X9_addFourBytes : List En := [(0, 1, 0, 24), (2, 10, 2, 0), (3, 4, 2, 0), (7, 8, 0, 0), (11, 2, 0, 1500), (17, 8, 0, 0), (21, 8, 0, 0), (25, 4, 1, 0), (26, 4, 2, 0), (27, 30, 0, 0), (28, 33, 0, 0), (30, 8, 0, 0), (31, 36, 0, 0), (35, 0, 0, 1), (36, 17, 0, 0), (40, 16, 2, (-8)), (43, 41, 3, 0)]
theorem ok_X9_addFourBytes : tab_X9_addFourBytes.all (okE cX9_addFourBytes) = true := by decide +kernel
def ed_X9_addFourBytes : List (Nat × Instr × Nat) := [(4, .ifCond .lt 42, 3), (8, .getfield 15, 3), (14, .if_icmp .ge 32, 3), (18, .getfield 9, 3), (22, .getfield 15, 3), (29, .bastore, 1), (32, .getfield 15, 3), (37, .putfield 15, 3), (46, .return_, 1)]
theorem okd_X9_addFourBytes : ed_X9_addFourBytes.all (okD cX9_addFourBytes) = true := by decide +kernel
def f_X9_addFourBytes (S : St) (p0 : Nat) (p1 : Int32) : Option (St) := lp (κ := Int32 → St → Option (St)) (fun _ _ => none) (fun k3 x1 S2 => if x1 < 0 then (some S2) else (lt (gI S2 p0 1) fun (v5 : Int32) => if 1500 ≤ v5 then (some S2) else (lt (gR S2 p0 0) fun (a6 : Nat) => lt (gI S2 p0 1) fun (v8 : Int32) => stI S2 a6 v8 (vp_nar .byte (Int8.toInt32 (Int32.toInt8 (p1 >>> (x1 &&& 31))))) fun (S9 : St) => lt (gI S9 p0 1) fun (v10 : Int32) => lt (uI S9 p0 1 (v10 + 1)) fun (S11 : St) => k3 (x1 + (-8)) S11))) FU 24 S
set_option maxHeartbeats 4000000 in
set_option maxRecDepth 100000 in
theorem c_X9_addFourBytes (S : St) (p0 : Nat) (p1 : Int32) : Ct yX9_addFourBytes cX9_addFourBytes 3 none 0 0 (fun _ => [.ref p0, .int p1]) [(p0, 8)] S (f_X9_addFourBytes S p0 p1) oV sV := by
  refine Ct_of RX9 rfl (by decide) (fun _ => Nat.le_of_ble_eq_true rfl) 1 (vs := fun _ => [some (.ref p0), some (.int p1), none]) (fun _ => rfl) (fun C X E hr ht => ?_)
  have t0_ : tT C p0 8 := ht (p0, 8) (by simp)
  show Jd C 3 (QJ C oV sV) S 0 [some (.ref p0), some (.int p1), none] [] (f_X9_addFourBytes S p0 p1)
  unfold f_X9_addFourBytes
  refine s_run X ok_X9_addFourBytes 0 2 (pc' := 3) (vs' := [some (.ref p0), some (.int p1), some (.int 24)]) (st' := []) rfl ?_
  refine s_lp (κ := Int32 → St → Option (St)) (fun k3 => ∀ (x1 : Int32) (S2 : St), Jd C 3 (QJ C oV sV) S2 3 [some (.ref p0), some (.int p1), some (.int x1)] [] (k3 x1 S2)) (fun _ _ => s_none) (fun k3 h4 x1 S2 => ?_) FU 24 S
  refine s_run X ok_X9_addFourBytes 2 1 (pc' := 4) (vs' := [some (.ref p0), some (.int p1), some (.int x1)]) (st' := [.int x1]) rfl ?_
  refine s_if_lt (tgt := 46) X (dk okd_X9_addFourBytes 0 rfl) (by decide) ?_ ?_
  · exact s_vret X hr (dk okd_X9_addFourBytes 8 rfl) rfl rfl
  · refine s_run X ok_X9_addFourBytes 3 1 (pc' := 8) (vs' := [some (.ref p0), some (.int p1), some (.int x1)]) (st' := [.ref p0]) rfl ?_
    refine s_getI X fl_X9_15 t0_ (dk okd_X9_addFourBytes 1 rfl) (fun v5 => ?_)
    refine s_run X ok_X9_addFourBytes 4 1 (pc' := 14) (vs' := [some (.ref p0), some (.int p1), some (.int x1)]) (st' := [.int 1500, .int v5]) rfl ?_
    refine s_icmp_ge (tgt := 46) X (dk okd_X9_addFourBytes 2 rfl) (by decide) ?_ ?_
    · exact s_vret X hr (dk okd_X9_addFourBytes 8 rfl) rfl rfl
    · refine s_run X ok_X9_addFourBytes 5 1 (pc' := 18) (vs' := [some (.ref p0), some (.int p1), some (.int x1)]) (st' := [.ref p0]) rfl ?_
      refine s_getR X fl_X9_9 t0_ (dk okd_X9_addFourBytes 3 rfl) (fun a6 (t7 : tT C a6 12) => ?_)
      refine s_run X ok_X9_addFourBytes 6 1 (pc' := 22) (vs' := [some (.ref p0), some (.int p1), some (.int x1)]) (st' := [.ref p0, .ref a6]) rfl ?_
      refine s_getI X fl_X9_15 t0_ (dk okd_X9_addFourBytes 4 rfl) (fun v8 => ?_)
      refine s_run X ok_X9_addFourBytes 7 4 (pc' := 29) (vs' := [some (.ref p0), some (.int p1), some (.int x1)]) (st' := [.int (Int8.toInt32 (Int32.toInt8 (p1 >>> (x1 &&& 31)))), .int v8, .ref a6]) rfl ?_
      refine s_bast X t7 (dk okd_X9_addFourBytes 5 rfl) (fun S9 => ?_)
      refine s_run X ok_X9_addFourBytes 11 2 (pc' := 32) (vs' := [some (.ref p0), some (.int p1), some (.int x1)]) (st' := [.ref p0, .ref p0]) rfl ?_
      refine s_getI X fl_X9_15 t0_ (dk okd_X9_addFourBytes 6 rfl) (fun v10 => ?_)
      refine s_run X ok_X9_addFourBytes 13 2 (pc' := 37) (vs' := [some (.ref p0), some (.int p1), some (.int x1)]) (st' := [.int (v10 + 1), .ref p0]) rfl ?_
      refine s_putI X fp_X9_15 t0_ (dk okd_X9_addFourBytes 7 rfl) (fun S11 => ?_)
      refine s_run X ok_X9_addFourBytes 15 2 (pc' := 3) (vs' := [some (.ref p0), some (.int p1), some (.int (x1 + (-8)))]) (st' := []) rfl ?_
      exact h4 (x1 + (-8)) S11
def tab_X9_begin : List En := [(0, 8, 0, 0), (1, 0, 0, 0), (5, 8, 0, 0), (6, 0, 0, 0), (10, 8, 0, 0), (11, 0, 0, (-1))]
theorem ok_X9_begin : tab_X9_begin.all (okE cX9_begin) = true := by decide +kernel
def ed_X9_begin : List (Nat × Instr × Nat) := [(2, .putfield 19, 3), (7, .putfield 22, 3), (12, .putfield 25, 3), (15, .return_, 1)]
theorem okd_X9_begin : ed_X9_begin.all (okD cX9_begin) = true := by decide +kernel
def f_X9_begin (S : St) (p0 : Nat) : Option (St) := lt (uI S p0 4 0) fun (S1 : St) => lt (uI S1 p0 5 0) fun (S2 : St) => lt (uI S2 p0 6 (-1)) fun (S3 : St) => some S3
set_option maxHeartbeats 4000000 in
set_option maxRecDepth 100000 in
theorem c_X9_begin (S : St) (p0 : Nat) : Ct yX9_begin cX9_begin 1 none 0 0 (fun _ => [.ref p0]) [(p0, 8)] S (f_X9_begin S p0) oV sV := by
  refine Ct_of RX9 rfl (by decide) (fun _ => Nat.le_of_ble_eq_true rfl) 0 (vs := fun _ => [some (.ref p0)]) (fun _ => rfl) (fun C X E hr ht => ?_)
  have t0_ : tT C p0 8 := ht (p0, 8) (by simp)
  show Jd C 1 (QJ C oV sV) S 0 [some (.ref p0)] [] (f_X9_begin S p0)
  unfold f_X9_begin
  refine s_run X ok_X9_begin 0 2 (pc' := 2) (vs' := [some (.ref p0)]) (st' := [.int 0, .ref p0]) rfl ?_
  refine s_putI X fp_X9_19 t0_ (dk okd_X9_begin 0 rfl) (fun S1 => ?_)
  refine s_run X ok_X9_begin 2 2 (pc' := 7) (vs' := [some (.ref p0)]) (st' := [.int 0, .ref p0]) rfl ?_
  refine s_putI X fp_X9_22 t0_ (dk okd_X9_begin 1 rfl) (fun S2 => ?_)
  refine s_run X ok_X9_begin 4 2 (pc' := 12) (vs' := [some (.ref p0)]) (st' := [.int (-1), .ref p0]) rfl ?_
  refine s_putI X fp_X9_25 t0_ (dk okd_X9_begin 2 rfl) (fun S3 => ?_)
  exact s_vret X hr (dk okd_X9_begin 3 rfl) rfl rfl
def tab_X9_failed : List En := [(0, 8, 0, 0), (7, 0, 0, 1), (8, 41, 12, 0), (11, 0, 0, 0)]
theorem ok_X9_failed : tab_X9_failed.all (okE cX9_failed) = true := by decide +kernel
def ed_X9_failed : List (Nat × Instr × Nat) := [(1, .getfield 22, 3), (4, .ifCond .eq 7, 3), (12, .ireturn, 1)]
theorem okd_X9_failed : ed_X9_failed.all (okD cX9_failed) = true := by decide +kernel
def f_X9_failed (S : St) (p0 : Nat) : Option (Int32) := lt (gI S p0 5) fun (v1 : Int32) => if v1 = 0 then (some 0) else (some 1)
set_option maxHeartbeats 4000000 in
set_option maxRecDepth 100000 in
theorem c_X9_failed (S : St) (p0 : Nat) : Ct yX9_failed cX9_failed 1 (some .boolean) 0 0 (fun _ => [.ref p0]) [(p0, 8)] S (f_X9_failed S p0) oI (fun _ => S) := by
  refine Ct_of RX9 rfl (by decide) (fun _ => Nat.le_of_ble_eq_true rfl) 0 (vs := fun _ => [some (.ref p0)]) (fun _ => rfl) (fun C X E hr ht => ?_)
  have t0_ : tT C p0 8 := ht (p0, 8) (by simp)
  show Jd C 1 (QJ C oI (fun _ => S)) S 0 [some (.ref p0)] [] (f_X9_failed S p0)
  unfold f_X9_failed
  refine s_run X ok_X9_failed 0 1 (pc' := 1) (vs' := [some (.ref p0)]) (st' := [.ref p0]) rfl ?_
  refine s_getI X fl_X9_22 t0_ (dk okd_X9_failed 0 rfl) (fun v1 => ?_)
  refine s_if_eq (tgt := 11) X (dk okd_X9_failed 1 rfl) (by decide) ?_ ?_
  · refine s_run X ok_X9_failed 3 1 (pc' := 12) (vs' := [some (.ref p0)]) (st' := [.int 0]) rfl ?_
    exact s_zret0 X hr (dk okd_X9_failed 2 rfl) (by decide) rfl rfl
  · refine s_run X ok_X9_failed 1 2 (pc' := 12) (vs' := [some (.ref p0)]) (st' := [.int 1]) rfl ?_
    exact s_zret0 X hr (dk okd_X9_failed 2 rfl) (by decide) rfl rfl
def tab_X9_fail : List En := [(0, 8, 0, 0), (7, 8, 0, 0), (8, 4, 1, 0), (12, 8, 0, 0), (13, 8, 0, 0)]
theorem ok_X9_fail : tab_X9_fail.all (okE cX9_fail) = true := by decide +kernel
def ed_X9_fail : List (Nat × Instr × Nat) := [(1, .invokevirtual 28, 3), (4, .ifCond .ne 16, 3), (9, .putfield 22, 3), (14, .getfield 32, 3), (17, .putfield 25, 3), (20, .return_, 1)]
theorem okd_X9_fail : ed_X9_fail.all (okD cX9_fail) = true := by decide +kernel
def f_X9_fail (S : St) (p0 : Nat) (p1 : Int32) : Option (St) := cl (f_X9_failed S p0) fun (v1 : Int32) => if v1 = 0 then (lt (uI S p0 5 p1) fun (S2 : St) => lt (gI S2 p0 3) fun (v3 : Int32) => lt (uI S2 p0 6 v3) fun (S4 : St) => some S4) else (some S)
set_option maxHeartbeats 4000000 in
set_option maxRecDepth 100000 in
theorem c_X9_fail (S : St) (p0 : Nat) (p1 : Int32) : Ct yX9_fail cX9_fail 2 none 1 20 (fun _ => [.ref p0, .int p1]) [(p0, 8)] S (f_X9_fail S p0 p1) oV sV := by
  refine Ct_of RX9 rfl (by decide) (fun _ => Nat.le_of_ble_eq_true rfl) 0 (vs := fun _ => [some (.ref p0), some (.int p1)]) (fun _ => rfl) (fun C X E hr ht => ?_)
  have t0_ : tT C p0 8 := ht (p0, 8) (by simp)
  show Jd C 2 (QJ C oV sV) S 0 [some (.ref p0), some (.int p1)] [] (f_X9_fail S p0 p1)
  unfold f_X9_fail
  refine s_run X ok_X9_fail 0 1 (pc' := 1) (vs' := [some (.ref p0), some (.int p1)]) (st' := [.ref p0]) rfl ?_
  refine s_callV (b := p0) (As := []) (rest := []) X E mv_X9_28 (c_X9_failed S p0) rfl (ta1 t0_) rfl (by decide) t0_ rfl rfl (Nat.le_of_ble_eq_true rfl) (Nat.le_of_ble_eq_true rfl) (Nat.le_of_ble_eq_true rfl) (dk okd_X9_fail 0 rfl) (st' := fun v1 => [.int v1]) (fun _ => rfl) (fun v1 => ?_)
  refine s_if_ne (tgt := 20) X (dk okd_X9_fail 1 rfl) (by decide) ?_ ?_
  · exact s_vret X hr (dk okd_X9_fail 5 rfl) rfl rfl
  · refine s_run X ok_X9_fail 1 2 (pc' := 9) (vs' := [some (.ref p0), some (.int p1)]) (st' := [.int p1, .ref p0]) rfl ?_
    refine s_putI X fp_X9_22 t0_ (dk okd_X9_fail 2 rfl) (fun S2 => ?_)
    refine s_run X ok_X9_fail 3 2 (pc' := 14) (vs' := [some (.ref p0), some (.int p1)]) (st' := [.ref p0, .ref p0]) rfl ?_
    refine s_getI X fl_X9_32 t0_ (dk okd_X9_fail 3 rfl) (fun v3 => ?_)
    refine s_putI X fp_X9_25 t0_ (dk okd_X9_fail 4 rfl) (fun S4 => ?_)
    exact s_vret X hr (dk okd_X9_fail 5 rfl) rfl rfl
def tab_X9_kindAt : List En := [(0, 4, 1, 0), (4, 4, 1, 0), (5, 8, 0, 0), (12, 4, 1, 0), (13, 2, 0, 1500), (19, 0, 0, 0), (21, 8, 0, 0), (25, 4, 1, 0), (27, 10, 2, 0), (28, 4, 2, 0), (29, 1, 0, 97), (34, 4, 2, 0), (35, 1, 0, 122), (40, 0, 0, 1), (42, 4, 2, 0), (43, 1, 0, 48), (48, 4, 2, 0), (49, 1, 0, 57), (54, 0, 0, 2), (56, 4, 2, 0), (57, 1, 0, 32), (62, 4, 2, 0), (63, 1, 0, 10), (68, 0, 0, 4), (70, 4, 2, 0), (71, 1, 0, 59), (76, 0, 0, 3), (77, 41, 81, 0), (80, 0, 0, 5)]
theorem ok_X9_kindAt : tab_X9_kindAt.all (okE cX9_kindAt) = true := by decide +kernel
def ed_X9_kindAt : List (Nat × Instr × Nat) := [(1, .ifCond .lt 18, 3), (6, .getfield 15, 3), (9, .if_icmp .ge 10, 3), (16, .if_icmp .lt 5, 3), (20, .ireturn, 1), (22, .getfield 9, 3), (26, .baload, 1), (31, .if_icmp .lt 11, 3), (37, .if_icmp .gt 5, 3), (41, .ireturn, 1), (45, .if_icmp .lt 11, 3), (51, .if_icmp .gt 5, 3), (55, .ireturn, 1), (59, .if_icmp .eq 9, 3), (65, .if_icmp .ne 5, 3), (69, .ireturn, 1), (73, .if_icmp .ne 7, 3), (81, .ireturn, 1)]
theorem okd_X9_kindAt : ed_X9_kindAt.all (okD cX9_kindAt) = true := by decide +kernel
def f_X9_kindAt (S : St) (p0 : Nat) (p1 : Int32) : Option (Int32) := if p1 < 0 then (some 0) else (lt (gI S p0 1) fun (v1 : Int32) => if v1 ≤ p1 then (some 0) else (if p1 < 1500 then (lt (gR S p0 0) fun (a2 : Nat) => ldI S a2 p1 fun (v4 : Int32) => jn (κ := Option (Int32)) (jn (κ := Option (Int32)) (if v4 = 32 then (some 4) else (if v4 = 10 then (some 4) else (if v4 = 59 then (some 3) else (some 5)))) fun k7 => if v4 < 48 then (k7) else (if 57 < v4 then (k7) else (some 2))) fun k5 => if v4 < 97 then (k5) else (if 122 < v4 then (k5) else (some 1))) else (some 0)))
set_option maxHeartbeats 4000000 in
set_option maxRecDepth 100000 in
theorem c_X9_kindAt (S : St) (p0 : Nat) (p1 : Int32) : Ct yX9_kindAt cX9_kindAt 3 (some .int) 0 0 (fun _ => [.ref p0, .int p1]) [(p0, 8)] S (f_X9_kindAt S p0 p1) oI (fun _ => S) := by
  refine Ct_of RX9 rfl (by decide) (fun _ => Nat.le_of_ble_eq_true rfl) 1 (vs := fun _ => [some (.ref p0), some (.int p1), none]) (fun _ => rfl) (fun C X E hr ht => ?_)
  have t0_ : tT C p0 8 := ht (p0, 8) (by simp)
  show Jd C 3 (QJ C oI (fun _ => S)) S 0 [some (.ref p0), some (.int p1), none] [] (f_X9_kindAt S p0 p1)
  unfold f_X9_kindAt
  refine s_run X ok_X9_kindAt 0 1 (pc' := 1) (vs' := [some (.ref p0), some (.int p1), none]) (st' := [.int p1]) rfl ?_
  refine s_if_lt (tgt := 19) X (dk okd_X9_kindAt 0 rfl) (by decide) ?_ ?_
  · refine s_run X ok_X9_kindAt 5 1 (pc' := 20) (vs' := [some (.ref p0), some (.int p1), none]) (st' := [.int 0]) rfl ?_
    exact s_iret X hr (dk okd_X9_kindAt 4 rfl) rfl rfl
  · refine s_run X ok_X9_kindAt 1 2 (pc' := 6) (vs' := [some (.ref p0), some (.int p1), none]) (st' := [.ref p0, .int p1]) rfl ?_
    refine s_getI X fl_X9_15 t0_ (dk okd_X9_kindAt 1 rfl) (fun v1 => ?_)
    refine s_icmp_ge (tgt := 19) X (dk okd_X9_kindAt 2 rfl) (by decide) ?_ ?_
    · refine s_run X ok_X9_kindAt 5 1 (pc' := 20) (vs' := [some (.ref p0), some (.int p1), none]) (st' := [.int 0]) rfl ?_
      exact s_iret X hr (dk okd_X9_kindAt 4 rfl) rfl rfl
    · refine s_run X ok_X9_kindAt 3 2 (pc' := 16) (vs' := [some (.ref p0), some (.int p1), none]) (st' := [.int 1500, .int p1]) rfl ?_
      refine s_icmp_lt (tgt := 21) X (dk okd_X9_kindAt 3 rfl) (by decide) ?_ ?_
      · refine s_run X ok_X9_kindAt 6 1 (pc' := 22) (vs' := [some (.ref p0), some (.int p1), none]) (st' := [.ref p0]) rfl ?_
        refine s_getR X fl_X9_9 t0_ (dk okd_X9_kindAt 5 rfl) (fun a2 (t3 : tT C a2 12) => ?_)
        refine s_run X ok_X9_kindAt 7 1 (pc' := 26) (vs' := [some (.ref p0), some (.int p1), none]) (st' := [.int p1, .ref a2]) rfl ?_
        refine s_bald X t3 (dk okd_X9_kindAt 6 rfl) (fun v4 => ?_)
        refine s_run X ok_X9_kindAt 8 3 (pc' := 31) (vs' := [some (.ref p0), some (.int p1), some (.int v4)]) (st' := [.int 97, .int v4]) rfl ?_
        refine s_jn (κ := Option (Int32)) (fun k5 => Jd C 3 (QJ C oI (fun _ => S)) S 42 [none, none, some (.int v4)] [] k5) ?_ (fun k5 h6 => ?_)
        · refine s_run X ok_X9_kindAt 14 2 (pc' := 45) (vs' := [none, none, some (.int v4)]) (st' := [.int 48, .int v4]) rfl ?_
          refine s_jn (κ := Option (Int32)) (fun k7 => Jd C 3 (QJ C oI (fun _ => S)) S 56 [none, none, some (.int v4)] [] k7) ?_ (fun k7 h8 => ?_)
          · refine s_run X ok_X9_kindAt 19 2 (pc' := 59) (vs' := [none, none, some (.int v4)]) (st' := [.int 32, .int v4]) rfl ?_
            refine s_icmp_eq (tgt := 68) X (dk okd_X9_kindAt 13 rfl) (by decide) ?_ ?_
            · refine s_run X ok_X9_kindAt 23 1 (pc' := 69) (vs' := [none, none, some (.int v4)]) (st' := [.int 4]) rfl ?_
              exact s_iret X hr (dk okd_X9_kindAt 15 rfl) rfl rfl
            · refine s_run X ok_X9_kindAt 21 2 (pc' := 65) (vs' := [none, none, some (.int v4)]) (st' := [.int 10, .int v4]) rfl ?_
              refine s_icmp_ne (tgt := 70) X (dk okd_X9_kindAt 14 rfl) (by decide) ?_ ?_
              · refine s_run X ok_X9_kindAt 24 2 (pc' := 73) (vs' := [none, none, some (.int v4)]) (st' := [.int 59, .int v4]) rfl ?_
                refine s_icmp_ne (tgt := 80) X (dk okd_X9_kindAt 16 rfl) (by decide) ?_ ?_
                · refine s_run X ok_X9_kindAt 28 1 (pc' := 81) (vs' := [none, none, some (.int v4)]) (st' := [.int 5]) rfl ?_
                  exact s_iret X hr (dk okd_X9_kindAt 17 rfl) rfl rfl
                · refine s_run X ok_X9_kindAt 26 2 (pc' := 81) (vs' := [none, none, some (.int v4)]) (st' := [.int 3]) rfl ?_
                  exact s_iret X hr (dk okd_X9_kindAt 17 rfl) rfl rfl
              · refine s_run X ok_X9_kindAt 23 1 (pc' := 69) (vs' := [none, none, some (.int v4)]) (st' := [.int 4]) rfl ?_
                exact s_iret X hr (dk okd_X9_kindAt 15 rfl) rfl rfl
          · refine s_icmp_lt (tgt := 56) X (dk okd_X9_kindAt 10 rfl) (by decide) ?_ ?_
            · exact h8
            · refine s_run X ok_X9_kindAt 16 2 (pc' := 51) (vs' := [none, none, some (.int v4)]) (st' := [.int 57, .int v4]) rfl ?_
              refine s_icmp_gt (tgt := 56) X (dk okd_X9_kindAt 11 rfl) (by decide) ?_ ?_
              · exact h8
              · refine s_run X ok_X9_kindAt 18 1 (pc' := 55) (vs' := [none, none, some (.int v4)]) (st' := [.int 2]) rfl ?_
                exact s_iret X hr (dk okd_X9_kindAt 12 rfl) rfl rfl
        · refine s_icmp_lt (tgt := 42) X (dk okd_X9_kindAt 7 rfl) (by decide) ?_ ?_
          · exact s_less [false, false, true] rfl (h6)
          · refine s_run X ok_X9_kindAt 11 2 (pc' := 37) (vs' := [some (.ref p0), some (.int p1), some (.int v4)]) (st' := [.int 122, .int v4]) rfl ?_
            refine s_icmp_gt (tgt := 42) X (dk okd_X9_kindAt 8 rfl) (by decide) ?_ ?_
            · exact s_less [false, false, true] rfl (h6)
            · refine s_run X ok_X9_kindAt 13 1 (pc' := 41) (vs' := [some (.ref p0), some (.int p1), some (.int v4)]) (st' := [.int 1]) rfl ?_
              exact s_iret X hr (dk okd_X9_kindAt 9 rfl) rfl rfl
      · refine s_run X ok_X9_kindAt 5 1 (pc' := 20) (vs' := [some (.ref p0), some (.int p1), none]) (st' := [.int 0]) rfl ?_
        exact s_iret X hr (dk okd_X9_kindAt 4 rfl) rfl rfl
def tab_X9_advance : List En := [(0, 8, 0, 0), (4, 8, 0, 0), (11, 8, 0, 0), (12, 8, 0, 0), (19, 0, 0, 4), (23, 8, 0, 0), (24, 36, 0, 0), (28, 0, 0, 1), (29, 17, 0, 0), (33, 41, 0, 0), (36, 8, 0, 0), (37, 8, 0, 0), (44, 8, 0, 0), (45, 8, 0, 0), (46, 8, 0, 0), (56, 8, 0, 0), (57, 0, 0, 0), (61, 8, 0, 0), (65, 0, 0, 1), (69, 8, 0, 0), (73, 0, 0, 2), (77, 0, 0, 1), (78, 41, 82, 0), (81, 0, 0, 0), (82, 10, 1, 0), (83, 4, 1, 0), (87, 8, 0, 0), (91, 8, 0, 0), (98, 8, 0, 0), (99, 8, 0, 0), (106, 8, 0, 0), (113, 8, 0, 0), (114, 8, 0, 0), (118, 1, 0, 10), (120, 19, 0, 0), (121, 8, 0, 0), (125, 8, 0, 0), (130, 17, 0, 0), (131, 1, 0, 48), (133, 18, 0, 0), (137, 8, 0, 0), (138, 36, 0, 0), (142, 0, 0, 1), (143, 17, 0, 0), (147, 41, 83, 0), (150, 8, 0, 0), (154, 0, 0, 3), (158, 8, 0, 0), (159, 36, 0, 0), (163, 0, 0, 1), (164, 17, 0, 0), (168, 41, 207, 0), (171, 4, 1, 0), (175, 8, 0, 0), (179, 8, 0, 0), (183, 18, 0, 0), (184, 8, 0, 0), (188, 0, 0, 1), (192, 1, 0, 10), (194, 41, 199, 0), (197, 1, 0, 6), (202, 8, 0, 0), (203, 0, 0, 5)]
theorem ok_X9_advance : tab_X9_advance.all (okE cX9_advance) = true := by decide +kernel
def ed_X9_advance : List (Nat × Instr × Nat) := [(1, .getfield 19, 3), (5, .getfield 15, 3), (8, .if_icmp .ge 28, 3), (13, .getfield 19, 3), (16, .invokevirtual 35, 3), (20, .if_icmp .ne 16, 3), (25, .getfield 19, 3), (30, .putfield 19, 3), (38, .getfield 19, 3), (41, .putfield 32, 3), (47, .getfield 32, 3), (50, .invokevirtual 35, 3), (53, .putfield 39, 3), (58, .putfield 42, 3), (62, .getfield 39, 3), (66, .if_icmp .eq 11, 3), (70, .getfield 39, 3), (74, .if_icmp .ne 7, 3), (84, .ifCond .eq 66, 3), (88, .getfield 19, 3), (92, .getfield 15, 3), (95, .if_icmp .ge 55, 3), (100, .getfield 19, 3), (103, .invokevirtual 35, 3), (107, .getfield 39, 3), (110, .if_icmp .ne 40, 3), (115, .getfield 42, 3), (122, .getfield 9, 3), (126, .getfield 19, 3), (129, .baload, 1), (134, .putfield 42, 3), (139, .getfield 19, 3), (144, .putfield 19, 3), (151, .getfield 39, 3), (155, .if_icmp .ne 16, 3), (160, .getfield 19, 3), (165, .putfield 19, 3), (172, .ifCond .eq 35, 3), (176, .getfield 19, 3), (180, .getfield 32, 3), (185, .getfield 39, 3), (189, .if_icmp .ne 8, 3), (199, .if_icmp .le 8, 3), (204, .putfield 39, 3), (207, .return_, 1)]
theorem okd_X9_advance : ed_X9_advance.all (okD cX9_advance) = true := by decide +kernel
def f_X9_advance (S : St) (p0 : Nat) : Option (St) := jn (κ := St → Option (St)) (fun S1 => lt (gI S1 p0 4) fun (v4 : Int32) => lt (uI S1 p0 3 v4) fun (S5 : St) => lt (gI S5 p0 3) fun (v6 : Int32) => cl (f_X9_kindAt S5 p0 v6) fun (v7 : Int32) => lt (uI S5 p0 2 v7) fun (S8 : St) => lt (uI S8 p0 7 0) fun (S9 : St) => lt (gI S9 p0 2) fun (v10 : Int32) => jn (κ := Int32 → Option (St)) (fun x11 => jn (κ := St → Option (St)) (fun S14 => lt (gI S14 p0 2) fun (v17 : Int32) => if v17 = 3 then (lt (gI S14 p0 4) fun (v25 : Int32) => lt (uI S14 p0 4 (v25 + 1)) fun (S26 : St) => some S26) else (if x11 = 0 then (some S14) else (lt (gI S14 p0 4) fun (v18 : Int32) => lt (gI S14 p0 3) fun (v19 : Int32) => lt (gI S14 p0 2) fun (v20 : Int32) => jn (κ := Int32 → Option (St)) (fun x21 => if (v18 - v19) ≤ x21 then (some S14) else (lt (uI S14 p0 2 5) fun (S24 : St) => some S24)) fun k22 => if v20 = 1 then (k22 10) else (k22 6)))) fun k15 => lp (κ := St → Option (St)) (fun _ => none) (fun k28 S27 => if x11 = 0 then (k15 S27) else (lt (gI S27 p0 4) fun (v30 : Int32) => lt (gI S27 p0 1) fun (v31 : Int32) => if v31 ≤ v30 then (k15 S27) else (lt (gI S27 p0 4) fun (v32 : Int32) => cl (f_X9_kindAt S27 p0 v32) fun (v33 : Int32) => lt (gI S27 p0 2) fun (v34 : Int32) => if v33 = v34 then (lt (gI S27 p0 7) fun (v35 : Int32) => lt (gR S27 p0 0) fun (a36 : Nat) => lt (gI S27 p0 4) fun (v38 : Int32) => ldI S27 a36 v38 fun (v39 : Int32) => lt (uI S27 p0 7 (((v35 * 10) + v39) - 48)) fun (S40 : St) => lt (gI S40 p0 4) fun (v41 : Int32) => lt (uI S40 p0 4 (v41 + 1)) fun (S42 : St) => k28 S42) else (k15 S27)))) FU S9) fun k12 => jn (κ := Option (St)) (k12 1) fun k43 => if v10 = 1 then (k43) else (lt (gI S9 p0 2) fun (v45 : Int32) => if v45 = 2 then (k43) else (k12 0))) fun k2 => lp (κ := St → Option (St)) (fun _ => none) (fun k47 S46 => lt (gI S46 p0 4) fun (v49 : Int32) => lt (gI S46 p0 1) fun (v50 : Int32) => if v50 ≤ v49 then (k2 S46) else (lt (gI S46 p0 4) fun (v51 : Int32) => cl (f_X9_kindAt S46 p0 v51) fun (v52 : Int32) => if v52 = 4 then (lt (gI S46 p0 4) fun (v53 : Int32) => lt (uI S46 p0 4 (v53 + 1)) fun (S54 : St) => k47 S54) else (k2 S46))) FU S
set_option maxHeartbeats 4000000 in
set_option maxRecDepth 100000 in
theorem c_X9_advance (S : St) (p0 : Nat) : Ct yX9_advance cX9_advance 2 none 1 22 (fun _ => [.ref p0]) [(p0, 8)] S (f_X9_advance S p0) oV sV := by
  refine Ct_of RX9 rfl (by decide) (fun _ => Nat.le_of_ble_eq_true rfl) 1 (vs := fun _ => [some (.ref p0), none]) (fun _ => rfl) (fun C X E hr ht => ?_)
  have t0_ : tT C p0 8 := ht (p0, 8) (by simp)
  show Jd C 2 (QJ C oV sV) S 0 [some (.ref p0), none] [] (f_X9_advance S p0)
  unfold f_X9_advance
  refine s_jn (κ := St → Option (St)) (fun k2 => ∀ (S1 : St), Jd C 2 (QJ C oV sV) S1 36 [some (.ref p0), none] [] (k2 S1)) (fun S1 => ?_) (fun k2 h3 => ?_)
  · refine s_run X ok_X9_advance 10 2 (pc' := 38) (vs' := [some (.ref p0), none]) (st' := [.ref p0, .ref p0]) rfl ?_
    refine s_getI X fl_X9_19 t0_ (dk okd_X9_advance 8 rfl) (fun v4 => ?_)
    refine s_putI X fp_X9_32 t0_ (dk okd_X9_advance 9 rfl) (fun S5 => ?_)
    refine s_run X ok_X9_advance 12 3 (pc' := 47) (vs' := [some (.ref p0), none]) (st' := [.ref p0, .ref p0, .ref p0]) rfl ?_
    refine s_getI X fl_X9_32 t0_ (dk okd_X9_advance 10 rfl) (fun v6 => ?_)
    refine s_callV (b := p0) (As := [.int v6]) (rest := [.ref p0]) X E mv_X9_35 (c_X9_kindAt S5 p0 v6) rfl (ta1 t0_) rfl (by decide) t0_ rfl rfl (Nat.le_of_ble_eq_true rfl) (Nat.le_of_ble_eq_true rfl) (Nat.le_of_ble_eq_true rfl) (dk okd_X9_advance 11 rfl) (st' := fun v7 => [.int v7, .ref p0]) (fun _ => rfl) (fun v7 => ?_)
    refine s_putI X fp_X9_39 t0_ (dk okd_X9_advance 12 rfl) (fun S8 => ?_)
    refine s_run X ok_X9_advance 15 2 (pc' := 58) (vs' := [some (.ref p0), none]) (st' := [.int 0, .ref p0]) rfl ?_
    refine s_putI X fp_X9_42 t0_ (dk okd_X9_advance 13 rfl) (fun S9 => ?_)
    refine s_run X ok_X9_advance 17 1 (pc' := 62) (vs' := [some (.ref p0), none]) (st' := [.ref p0]) rfl ?_
    refine s_getI X fl_X9_39 t0_ (dk okd_X9_advance 14 rfl) (fun v10 => ?_)
    refine s_run X ok_X9_advance 18 1 (pc' := 66) (vs' := [some (.ref p0), none]) (st' := [.int 1, .int v10]) rfl ?_
    refine s_jn (κ := Int32 → Option (St)) (fun k12 => ∀ (x11 : Int32), Jd C 2 (QJ C oV sV) S9 82 [some (.ref p0), none] [.int x11] (k12 x11)) (fun x11 => ?_) (fun k12 h13 => ?_)
    · refine s_run X ok_X9_advance 24 1 (pc' := 83) (vs' := [some (.ref p0), some (.int x11)]) (st' := []) rfl ?_
      refine s_jn (κ := St → Option (St)) (fun k15 => ∀ (S14 : St), Jd C 2 (QJ C oV sV) S14 150 [some (.ref p0), some (.int x11)] [] (k15 S14)) (fun S14 => ?_) (fun k15 h16 => ?_)
      · refine s_run X ok_X9_advance 45 1 (pc' := 151) (vs' := [some (.ref p0), some (.int x11)]) (st' := [.ref p0]) rfl ?_
        refine s_getI X fl_X9_39 t0_ (dk okd_X9_advance 33 rfl) (fun v17 => ?_)
        refine s_run X ok_X9_advance 46 1 (pc' := 155) (vs' := [some (.ref p0), some (.int x11)]) (st' := [.int 3, .int v17]) rfl ?_
        refine s_icmp_ne (tgt := 171) X (dk okd_X9_advance 34 rfl) (by decide) ?_ ?_
        · refine s_run X ok_X9_advance 52 1 (pc' := 172) (vs' := [some (.ref p0), some (.int x11)]) (st' := [.int x11]) rfl ?_
          refine s_if_eq (tgt := 207) X (dk okd_X9_advance 37 rfl) (by decide) ?_ ?_
          · exact s_vret X hr (dk okd_X9_advance 44 rfl) rfl rfl
          · refine s_run X ok_X9_advance 53 1 (pc' := 176) (vs' := [some (.ref p0), some (.int x11)]) (st' := [.ref p0]) rfl ?_
            refine s_getI X fl_X9_19 t0_ (dk okd_X9_advance 38 rfl) (fun v18 => ?_)
            refine s_run X ok_X9_advance 54 1 (pc' := 180) (vs' := [some (.ref p0), some (.int x11)]) (st' := [.ref p0, .int v18]) rfl ?_
            refine s_getI X fl_X9_32 t0_ (dk okd_X9_advance 39 rfl) (fun v19 => ?_)
            refine s_run X ok_X9_advance 55 2 (pc' := 185) (vs' := [some (.ref p0), some (.int x11)]) (st' := [.ref p0, .int (v18 - v19)]) rfl ?_
            refine s_getI X fl_X9_39 t0_ (dk okd_X9_advance 40 rfl) (fun v20 => ?_)
            refine s_run X ok_X9_advance 57 1 (pc' := 189) (vs' := [some (.ref p0), some (.int x11)]) (st' := [.int 1, .int v20, .int (v18 - v19)]) rfl ?_
            refine s_jn (κ := Int32 → Option (St)) (fun k22 => ∀ (x21 : Int32), Jd C 2 (QJ C oV sV) S14 199 [some (.ref p0), none] [.int x21, .int (v18 - v19)] (k22 x21)) (fun x21 => ?_) (fun k22 h23 => ?_)
            · refine s_icmp_le (tgt := 207) X (dk okd_X9_advance 42 rfl) (by decide) ?_ ?_
              · exact s_vret X hr (dk okd_X9_advance 44 rfl) rfl rfl
              · refine s_run X ok_X9_advance 61 2 (pc' := 204) (vs' := [some (.ref p0), none]) (st' := [.int 5, .ref p0]) rfl ?_
                refine s_putI X fp_X9_39 t0_ (dk okd_X9_advance 43 rfl) (fun S24 => ?_)
                exact s_vret X hr (dk okd_X9_advance 44 rfl) rfl rfl
            · refine s_icmp_ne (tgt := 197) X (dk okd_X9_advance 41 rfl) (by decide) ?_ ?_
              · refine s_run X ok_X9_advance 60 1 (pc' := 199) (vs' := [some (.ref p0), some (.int x11)]) (st' := [.int 6, .int (v18 - v19)]) rfl ?_
                exact s_less [true, false] rfl (h23 6)
              · refine s_run X ok_X9_advance 58 2 (pc' := 199) (vs' := [some (.ref p0), some (.int x11)]) (st' := [.int 10, .int (v18 - v19)]) rfl ?_
                exact s_less [true, false] rfl (h23 10)
        · refine s_run X ok_X9_advance 47 2 (pc' := 160) (vs' := [some (.ref p0), some (.int x11)]) (st' := [.ref p0, .ref p0]) rfl ?_
          refine s_getI X fl_X9_19 t0_ (dk okd_X9_advance 35 rfl) (fun v25 => ?_)
          refine s_run X ok_X9_advance 49 2 (pc' := 165) (vs' := [some (.ref p0), some (.int x11)]) (st' := [.int (v25 + 1), .ref p0]) rfl ?_
          refine s_putI X fp_X9_19 t0_ (dk okd_X9_advance 36 rfl) (fun S26 => ?_)
          refine s_run X ok_X9_advance 51 1 (pc' := 207) (vs' := [some (.ref p0), some (.int x11)]) (st' := []) rfl ?_
          exact s_vret X hr (dk okd_X9_advance 44 rfl) rfl rfl
      · refine s_lp (κ := St → Option (St)) (fun k28 => ∀ (S27 : St), Jd C 2 (QJ C oV sV) S27 83 [some (.ref p0), some (.int x11)] [] (k28 S27)) (fun _ => s_none) (fun k28 h29 S27 => ?_) FU S9
        refine s_run X ok_X9_advance 25 1 (pc' := 84) (vs' := [some (.ref p0), some (.int x11)]) (st' := [.int x11]) rfl ?_
        refine s_if_eq (tgt := 150) X (dk okd_X9_advance 18 rfl) (by decide) ?_ ?_
        · exact h16 S27
        · refine s_run X ok_X9_advance 26 1 (pc' := 88) (vs' := [some (.ref p0), some (.int x11)]) (st' := [.ref p0]) rfl ?_
          refine s_getI X fl_X9_19 t0_ (dk okd_X9_advance 19 rfl) (fun v30 => ?_)
          refine s_run X ok_X9_advance 27 1 (pc' := 92) (vs' := [some (.ref p0), some (.int x11)]) (st' := [.ref p0, .int v30]) rfl ?_
          refine s_getI X fl_X9_15 t0_ (dk okd_X9_advance 20 rfl) (fun v31 => ?_)
          refine s_icmp_ge (tgt := 150) X (dk okd_X9_advance 21 rfl) (by decide) ?_ ?_
          · exact h16 S27
          · refine s_run X ok_X9_advance 28 2 (pc' := 100) (vs' := [some (.ref p0), some (.int x11)]) (st' := [.ref p0, .ref p0]) rfl ?_
            refine s_getI X fl_X9_19 t0_ (dk okd_X9_advance 22 rfl) (fun v32 => ?_)
            refine s_callV (b := p0) (As := [.int v32]) (rest := []) X E mv_X9_35 (c_X9_kindAt S27 p0 v32) rfl (ta1 t0_) rfl (by decide) t0_ rfl rfl (Nat.le_of_ble_eq_true rfl) (Nat.le_of_ble_eq_true rfl) (Nat.le_of_ble_eq_true rfl) (dk okd_X9_advance 23 rfl) (st' := fun v33 => [.int v33]) (fun _ => rfl) (fun v33 => ?_)
            refine s_run X ok_X9_advance 30 1 (pc' := 107) (vs' := [some (.ref p0), some (.int x11)]) (st' := [.ref p0, .int v33]) rfl ?_
            refine s_getI X fl_X9_39 t0_ (dk okd_X9_advance 24 rfl) (fun v34 => ?_)
            refine s_icmp_ne (tgt := 150) X (dk okd_X9_advance 25 rfl) (by decide) ?_ ?_
            · exact h16 S27
            · refine s_run X ok_X9_advance 31 2 (pc' := 115) (vs' := [some (.ref p0), some (.int x11)]) (st' := [.ref p0, .ref p0]) rfl ?_
              refine s_getI X fl_X9_42 t0_ (dk okd_X9_advance 26 rfl) (fun v35 => ?_)
              refine s_run X ok_X9_advance 33 3 (pc' := 122) (vs' := [some (.ref p0), some (.int x11)]) (st' := [.ref p0, .int (v35 * 10), .ref p0]) rfl ?_
              refine s_getR X fl_X9_9 t0_ (dk okd_X9_advance 27 rfl) (fun a36 (t37 : tT C a36 12) => ?_)
              refine s_run X ok_X9_advance 36 1 (pc' := 126) (vs' := [some (.ref p0), some (.int x11)]) (st' := [.ref p0, .ref a36, .int (v35 * 10), .ref p0]) rfl ?_
              refine s_getI X fl_X9_19 t0_ (dk okd_X9_advance 28 rfl) (fun v38 => ?_)
              refine s_bald X t37 (dk okd_X9_advance 29 rfl) (fun v39 => ?_)
              refine s_run X ok_X9_advance 37 3 (pc' := 134) (vs' := [some (.ref p0), some (.int x11)]) (st' := [.int (((v35 * 10) + v39) - 48), .ref p0]) rfl ?_
              refine s_putI X fp_X9_42 t0_ (dk okd_X9_advance 30 rfl) (fun S40 => ?_)
              refine s_run X ok_X9_advance 40 2 (pc' := 139) (vs' := [some (.ref p0), some (.int x11)]) (st' := [.ref p0, .ref p0]) rfl ?_
              refine s_getI X fl_X9_19 t0_ (dk okd_X9_advance 31 rfl) (fun v41 => ?_)
              refine s_run X ok_X9_advance 42 2 (pc' := 144) (vs' := [some (.ref p0), some (.int x11)]) (st' := [.int (v41 + 1), .ref p0]) rfl ?_
              refine s_putI X fp_X9_19 t0_ (dk okd_X9_advance 32 rfl) (fun S42 => ?_)
              refine s_run X ok_X9_advance 44 1 (pc' := 83) (vs' := [some (.ref p0), some (.int x11)]) (st' := []) rfl ?_
              exact h29 S42
    · refine s_jn (κ := Option (St)) (fun k43 => Jd C 2 (QJ C oV sV) S9 77 [some (.ref p0), none] [] k43) ?_ (fun k43 h44 => ?_)
      · refine s_run X ok_X9_advance 21 2 (pc' := 82) (vs' := [some (.ref p0), none]) (st' := [.int 1]) rfl ?_
        exact h13 1
      · refine s_icmp_eq (tgt := 77) X (dk okd_X9_advance 15 rfl) (by decide) ?_ ?_
        · exact h44
        · refine s_run X ok_X9_advance 19 1 (pc' := 70) (vs' := [some (.ref p0), none]) (st' := [.ref p0]) rfl ?_
          refine s_getI X fl_X9_39 t0_ (dk okd_X9_advance 16 rfl) (fun v45 => ?_)
          refine s_run X ok_X9_advance 20 1 (pc' := 74) (vs' := [some (.ref p0), none]) (st' := [.int 2, .int v45]) rfl ?_
          refine s_icmp_ne (tgt := 81) X (dk okd_X9_advance 17 rfl) (by decide) ?_ ?_
          · refine s_run X ok_X9_advance 23 1 (pc' := 82) (vs' := [some (.ref p0), none]) (st' := [.int 0]) rfl ?_
            exact h13 0
          · exact h44
  · refine s_lp (κ := St → Option (St)) (fun k47 => ∀ (S46 : St), Jd C 2 (QJ C oV sV) S46 0 [some (.ref p0), none] [] (k47 S46)) (fun _ => s_none) (fun k47 h48 S46 => ?_) FU S
    refine s_run X ok_X9_advance 0 1 (pc' := 1) (vs' := [some (.ref p0), none]) (st' := [.ref p0]) rfl ?_
    refine s_getI X fl_X9_19 t0_ (dk okd_X9_advance 0 rfl) (fun v49 => ?_)
    refine s_run X ok_X9_advance 1 1 (pc' := 5) (vs' := [some (.ref p0), none]) (st' := [.ref p0, .int v49]) rfl ?_
    refine s_getI X fl_X9_15 t0_ (dk okd_X9_advance 1 rfl) (fun v50 => ?_)
    refine s_icmp_ge (tgt := 36) X (dk okd_X9_advance 2 rfl) (by decide) ?_ ?_
    · exact h3 S46
    · refine s_run X ok_X9_advance 2 2 (pc' := 13) (vs' := [some (.ref p0), none]) (st' := [.ref p0, .ref p0]) rfl ?_
      refine s_getI X fl_X9_19 t0_ (dk okd_X9_advance 3 rfl) (fun v51 => ?_)
      refine s_callV (b := p0) (As := [.int v51]) (rest := []) X E mv_X9_35 (c_X9_kindAt S46 p0 v51) rfl (ta1 t0_) rfl (by decide) t0_ rfl rfl (Nat.le_of_ble_eq_true rfl) (Nat.le_of_ble_eq_true rfl) (Nat.le_of_ble_eq_true rfl) (dk okd_X9_advance 4 rfl) (st' := fun v52 => [.int v52]) (fun _ => rfl) (fun v52 => ?_)
      refine s_run X ok_X9_advance 4 1 (pc' := 20) (vs' := [some (.ref p0), none]) (st' := [.int 4, .int v52]) rfl ?_
      refine s_icmp_ne (tgt := 36) X (dk okd_X9_advance 5 rfl) (by decide) ?_ ?_
      · exact h3 S46
      · refine s_run X ok_X9_advance 5 2 (pc' := 25) (vs' := [some (.ref p0), none]) (st' := [.ref p0, .ref p0]) rfl ?_
        refine s_getI X fl_X9_19 t0_ (dk okd_X9_advance 6 rfl) (fun v53 => ?_)
        refine s_run X ok_X9_advance 7 2 (pc' := 30) (vs' := [some (.ref p0), none]) (st' := [.int (v53 + 1), .ref p0]) rfl ?_
        refine s_putI X fp_X9_19 t0_ (dk okd_X9_advance 7 rfl) (fun S54 => ?_)
        refine s_run X ok_X9_advance 9 1 (pc' := 0) (vs' := [some (.ref p0), none]) (st' := []) rfl ?_
        exact h48 S54
def tab_X9_semicolonAhead : List En := [(0, 8, 0, 0), (4, 8, 0, 0), (5, 8, 0, 0), (12, 8, 0, 0), (16, 0, 0, 3), (20, 0, 0, 1), (21, 41, 25, 0), (24, 0, 0, 0)]
theorem ok_X9_semicolonAhead : tab_X9_semicolonAhead.all (okE cX9_semicolonAhead) = true := by decide +kernel
def ed_X9_semicolonAhead : List (Nat × Instr × Nat) := [(1, .invokevirtual 78, 3), (6, .getfield 32, 3), (9, .putfield 19, 3), (13, .getfield 39, 3), (17, .if_icmp .ne 7, 3), (25, .ireturn, 1)]
theorem okd_X9_semicolonAhead : ed_X9_semicolonAhead.all (okD cX9_semicolonAhead) = true := by decide +kernel
def f_X9_semicolonAhead (S : St) (p0 : Nat) : Option (Int32 × St) := cl (f_X9_advance S p0) fun (S1 : St) => lt (gI S1 p0 3) fun (v2 : Int32) => lt (uI S1 p0 4 v2) fun (S3 : St) => lt (gI S3 p0 2) fun (v4 : Int32) => if v4 = 3 then (some (1, S3)) else (some (0, S3))
set_option maxHeartbeats 4000000 in
set_option maxRecDepth 100000 in
theorem c_X9_semicolonAhead (S : St) (p0 : Nat) : Ct yX9_semicolonAhead cX9_semicolonAhead 1 (some .boolean) 2 43 (fun _ => [.ref p0]) [(p0, 8)] S (f_X9_semicolonAhead S p0) oIS sS := by
  refine Ct_of RX9 rfl (by decide) (fun _ => Nat.le_of_ble_eq_true rfl) 0 (vs := fun _ => [some (.ref p0)]) (fun _ => rfl) (fun C X E hr ht => ?_)
  have t0_ : tT C p0 8 := ht (p0, 8) (by simp)
  show Jd C 1 (QJ C oIS sS) S 0 [some (.ref p0)] [] (f_X9_semicolonAhead S p0)
  unfold f_X9_semicolonAhead
  refine s_run X ok_X9_semicolonAhead 0 1 (pc' := 1) (vs' := [some (.ref p0)]) (st' := [.ref p0]) rfl ?_
  refine s_callV (b := p0) (As := []) (rest := []) X E mv_X9_78 (c_X9_advance S p0) rfl (ta1 t0_) rfl (by decide) t0_ rfl rfl (Nat.le_of_ble_eq_true rfl) (Nat.le_of_ble_eq_true rfl) (Nat.le_of_ble_eq_true rfl) (dk okd_X9_semicolonAhead 0 rfl) (st' := fun S1 => []) (fun _ => rfl) (fun S1 => ?_)
  refine s_run X ok_X9_semicolonAhead 1 2 (pc' := 6) (vs' := [some (.ref p0)]) (st' := [.ref p0, .ref p0]) rfl ?_
  refine s_getI X fl_X9_32 t0_ (dk okd_X9_semicolonAhead 1 rfl) (fun v2 => ?_)
  refine s_putI X fp_X9_19 t0_ (dk okd_X9_semicolonAhead 2 rfl) (fun S3 => ?_)
  refine s_run X ok_X9_semicolonAhead 3 1 (pc' := 13) (vs' := [some (.ref p0)]) (st' := [.ref p0]) rfl ?_
  refine s_getI X fl_X9_39 t0_ (dk okd_X9_semicolonAhead 3 rfl) (fun v4 => ?_)
  refine s_run X ok_X9_semicolonAhead 4 1 (pc' := 17) (vs' := [some (.ref p0)]) (st' := [.int 3, .int v4]) rfl ?_
  refine s_icmp_ne (tgt := 24) X (dk okd_X9_semicolonAhead 4 rfl) (by decide) ?_ ?_
  · refine s_run X ok_X9_semicolonAhead 7 1 (pc' := 25) (vs' := [some (.ref p0)]) (st' := [.int 0]) rfl ?_
    exact s_zret0 X hr (dk okd_X9_semicolonAhead 5 rfl) (by decide) rfl rfl
  · refine s_run X ok_X9_semicolonAhead 5 2 (pc' := 25) (vs' := [some (.ref p0)]) (st' := [.int 1]) rfl ?_
    exact s_zret0 X hr (dk okd_X9_semicolonAhead 5 rfl) (by decide) rfl rfl
def tab_X9_endStatement : List En := [(0, 8, 0, 0), (4, 8, 0, 0), (8, 0, 0, 3), (12, 8, 0, 0), (13, 0, 0, 1)]
theorem ok_X9_endStatement : tab_X9_endStatement.all (okE cX9_endStatement) = true := by decide +kernel
def ed_X9_endStatement : List (Nat × Instr × Nat) := [(1, .invokevirtual 78, 3), (5, .getfield 39, 3), (9, .if_icmp .eq 8, 3), (14, .invokevirtual 81, 3), (17, .return_, 1)]
theorem okd_X9_endStatement : ed_X9_endStatement.all (okD cX9_endStatement) = true := by decide +kernel
def f_X9_endStatement (S : St) (p0 : Nat) : Option (St) := cl (f_X9_advance S p0) fun (S1 : St) => lt (gI S1 p0 2) fun (v2 : Int32) => if v2 = 3 then (some S1) else (cl (f_X9_fail S1 p0 1) fun (S3 : St) => some S3)
set_option maxHeartbeats 4000000 in
set_option maxRecDepth 100000 in
theorem c_X9_endStatement (S : St) (p0 : Nat) : Ct yX9_endStatement cX9_endStatement 1 none 2 43 (fun _ => [.ref p0]) [(p0, 8)] S (f_X9_endStatement S p0) oV sV := by
  refine Ct_of RX9 rfl (by decide) (fun _ => Nat.le_of_ble_eq_true rfl) 0 (vs := fun _ => [some (.ref p0)]) (fun _ => rfl) (fun C X E hr ht => ?_)
  have t0_ : tT C p0 8 := ht (p0, 8) (by simp)
  show Jd C 1 (QJ C oV sV) S 0 [some (.ref p0)] [] (f_X9_endStatement S p0)
  unfold f_X9_endStatement
  refine s_run X ok_X9_endStatement 0 1 (pc' := 1) (vs' := [some (.ref p0)]) (st' := [.ref p0]) rfl ?_
  refine s_callV (b := p0) (As := []) (rest := []) X E mv_X9_78 (c_X9_advance S p0) rfl (ta1 t0_) rfl (by decide) t0_ rfl rfl (Nat.le_of_ble_eq_true rfl) (Nat.le_of_ble_eq_true rfl) (Nat.le_of_ble_eq_true rfl) (dk okd_X9_endStatement 0 rfl) (st' := fun S1 => []) (fun _ => rfl) (fun S1 => ?_)
  refine s_run X ok_X9_endStatement 1 1 (pc' := 5) (vs' := [some (.ref p0)]) (st' := [.ref p0]) rfl ?_
  refine s_getI X fl_X9_39 t0_ (dk okd_X9_endStatement 1 rfl) (fun v2 => ?_)
  refine s_run X ok_X9_endStatement 2 1 (pc' := 9) (vs' := [some (.ref p0)]) (st' := [.int 3, .int v2]) rfl ?_
  refine s_icmp_eq (tgt := 17) X (dk okd_X9_endStatement 2 rfl) (by decide) ?_ ?_
  · exact s_vret X hr (dk okd_X9_endStatement 4 rfl) rfl rfl
  · refine s_run X ok_X9_endStatement 3 2 (pc' := 14) (vs' := [some (.ref p0)]) (st' := [.int 1, .ref p0]) rfl ?_
    refine s_callV (b := p0) (As := [.int 1]) (rest := []) X E mv_X9_81 (c_X9_fail S1 p0 1) rfl (ta1 t0_) rfl (by decide) t0_ rfl rfl (Nat.le_of_ble_eq_true rfl) (Nat.le_of_ble_eq_true rfl) (Nat.le_of_ble_eq_true rfl) (dk okd_X9_endStatement 3 rfl) (st' := fun S3 => []) (fun _ => rfl) (fun S3 => ?_)
    exact s_vret X hr (dk okd_X9_endStatement 4 rfl) rfl rfl
def tab_X9_readNumber : List En := [(0, 8, 0, 0), (4, 8, 0, 0), (8, 0, 0, 2), (12, 8, 0, 0), (13, 0, 0, 1), (17, 4, 1, 0), (19, 8, 0, 0), (23, 4, 1, 0), (27, 8, 0, 0), (31, 4, 2, 0), (35, 8, 0, 0), (36, 0, 0, 2), (40, 4, 1, 0), (42, 8, 0, 0)]
theorem ok_X9_readNumber : tab_X9_readNumber.all (okE cX9_readNumber) = true := by decide +kernel
def ed_X9_readNumber : List (Nat × Instr × Nat) := [(1, .invokevirtual 78, 3), (5, .getfield 39, 3), (9, .if_icmp .eq 10, 3), (14, .invokevirtual 81, 3), (18, .ireturn, 1), (20, .getfield 42, 3), (24, .if_icmp .lt 11, 3), (28, .getfield 42, 3), (32, .if_icmp .le 10, 3), (37, .invokevirtual 81, 3), (41, .ireturn, 1), (43, .getfield 42, 3), (46, .ireturn, 1)]
theorem okd_X9_readNumber : ed_X9_readNumber.all (okD cX9_readNumber) = true := by decide +kernel
def f_X9_readNumber (S : St) (p0 : Nat) (p1 : Int32) (p2 : Int32) : Option (Int32 × St) := cl (f_X9_advance S p0) fun (S1 : St) => lt (gI S1 p0 2) fun (v2 : Int32) => if v2 = 2 then (lt (gI S1 p0 7) fun (v3 : Int32) => jn (κ := Option (Int32 × St)) (cl (f_X9_fail S1 p0 2) fun (S6 : St) => some (p1, S6)) fun k4 => if v3 < p1 then (k4) else (lt (gI S1 p0 7) fun (v7 : Int32) => if v7 ≤ p2 then (lt (gI S1 p0 7) fun (v8 : Int32) => some (v8, S1)) else (k4))) else (cl (f_X9_fail S1 p0 1) fun (S9 : St) => some (p1, S9))
set_option maxHeartbeats 4000000 in
set_option maxRecDepth 100000 in
theorem c_X9_readNumber (S : St) (p0 : Nat) (p1 : Int32) (p2 : Int32) : Ct yX9_readNumber cX9_readNumber 3 (some .int) 2 43 (fun _ => [.ref p0, .int p1, .int p2]) [(p0, 8)] S (f_X9_readNumber S p0 p1 p2) oIS sS := by
  refine Ct_of RX9 rfl (by decide) (fun _ => Nat.le_of_ble_eq_true rfl) 0 (vs := fun _ => [some (.ref p0), some (.int p1), some (.int p2)]) (fun _ => rfl) (fun C X E hr ht => ?_)
  have t0_ : tT C p0 8 := ht (p0, 8) (by simp)
  show Jd C 3 (QJ C oIS sS) S 0 [some (.ref p0), some (.int p1), some (.int p2)] [] (f_X9_readNumber S p0 p1 p2)
  unfold f_X9_readNumber
  refine s_run X ok_X9_readNumber 0 1 (pc' := 1) (vs' := [some (.ref p0), some (.int p1), some (.int p2)]) (st' := [.ref p0]) rfl ?_
  refine s_callV (b := p0) (As := []) (rest := []) X E mv_X9_78 (c_X9_advance S p0) rfl (ta1 t0_) rfl (by decide) t0_ rfl rfl (Nat.le_of_ble_eq_true rfl) (Nat.le_of_ble_eq_true rfl) (Nat.le_of_ble_eq_true rfl) (dk okd_X9_readNumber 0 rfl) (st' := fun S1 => []) (fun _ => rfl) (fun S1 => ?_)
  refine s_run X ok_X9_readNumber 1 1 (pc' := 5) (vs' := [some (.ref p0), some (.int p1), some (.int p2)]) (st' := [.ref p0]) rfl ?_
  refine s_getI X fl_X9_39 t0_ (dk okd_X9_readNumber 1 rfl) (fun v2 => ?_)
  refine s_run X ok_X9_readNumber 2 1 (pc' := 9) (vs' := [some (.ref p0), some (.int p1), some (.int p2)]) (st' := [.int 2, .int v2]) rfl ?_
  refine s_icmp_eq (tgt := 19) X (dk okd_X9_readNumber 2 rfl) (by decide) ?_ ?_
  · refine s_run X ok_X9_readNumber 6 1 (pc' := 20) (vs' := [some (.ref p0), some (.int p1), some (.int p2)]) (st' := [.ref p0]) rfl ?_
    refine s_getI X fl_X9_42 t0_ (dk okd_X9_readNumber 5 rfl) (fun v3 => ?_)
    refine s_run X ok_X9_readNumber 7 1 (pc' := 24) (vs' := [some (.ref p0), some (.int p1), some (.int p2)]) (st' := [.int p1, .int v3]) rfl ?_
    refine s_jn (κ := Option (Int32 × St)) (fun k4 => Jd C 3 (QJ C oIS sS) S1 35 [some (.ref p0), some (.int p1), none] [] k4) ?_ (fun k4 h5 => ?_)
    · refine s_run X ok_X9_readNumber 10 2 (pc' := 37) (vs' := [some (.ref p0), some (.int p1), none]) (st' := [.int 2, .ref p0]) rfl ?_
      refine s_callV (b := p0) (As := [.int 2]) (rest := []) X E mv_X9_81 (c_X9_fail S1 p0 2) rfl (ta1 t0_) rfl (by decide) t0_ rfl rfl (Nat.le_of_ble_eq_true rfl) (Nat.le_of_ble_eq_true rfl) (Nat.le_of_ble_eq_true rfl) (dk okd_X9_readNumber 9 rfl) (st' := fun S6 => []) (fun _ => rfl) (fun S6 => ?_)
      refine s_run X ok_X9_readNumber 12 1 (pc' := 41) (vs' := [some (.ref p0), some (.int p1), none]) (st' := [.int p1]) rfl ?_
      exact s_iret X hr (dk okd_X9_readNumber 10 rfl) rfl rfl
    · refine s_icmp_lt (tgt := 35) X (dk okd_X9_readNumber 6 rfl) (by decide) ?_ ?_
      · exact s_less [true, true, false] rfl (h5)
      · refine s_run X ok_X9_readNumber 8 1 (pc' := 28) (vs' := [some (.ref p0), some (.int p1), some (.int p2)]) (st' := [.ref p0]) rfl ?_
        refine s_getI X fl_X9_42 t0_ (dk okd_X9_readNumber 7 rfl) (fun v7 => ?_)
        refine s_run X ok_X9_readNumber 9 1 (pc' := 32) (vs' := [some (.ref p0), some (.int p1), some (.int p2)]) (st' := [.int p2, .int v7]) rfl ?_
        refine s_icmp_le (tgt := 42) X (dk okd_X9_readNumber 8 rfl) (by decide) ?_ ?_
        · refine s_run X ok_X9_readNumber 13 1 (pc' := 43) (vs' := [some (.ref p0), some (.int p1), some (.int p2)]) (st' := [.ref p0]) rfl ?_
          refine s_getI X fl_X9_42 t0_ (dk okd_X9_readNumber 11 rfl) (fun v8 => ?_)
          exact s_iret X hr (dk okd_X9_readNumber 12 rfl) rfl rfl
        · exact s_less [true, true, false] rfl (h5)
  · refine s_run X ok_X9_readNumber 3 2 (pc' := 14) (vs' := [some (.ref p0), some (.int p1), some (.int p2)]) (st' := [.int 1, .ref p0]) rfl ?_
    refine s_callV (b := p0) (As := [.int 1]) (rest := []) X E mv_X9_81 (c_X9_fail S1 p0 1) rfl (ta1 t0_) rfl (by decide) t0_ rfl rfl (Nat.le_of_ble_eq_true rfl) (Nat.le_of_ble_eq_true rfl) (Nat.le_of_ble_eq_true rfl) (dk okd_X9_readNumber 3 rfl) (st' := fun S9 => []) (fun _ => rfl) (fun S9 => ?_)
    refine s_run X ok_X9_readNumber 5 1 (pc' := 18) (vs' := [some (.ref p0), some (.int p1), some (.int p2)]) (st' := [.int p1]) rfl ?_
    exact s_iret X hr (dk okd_X9_readNumber 4 rfl) rfl rfl
def tab_X10_copyFrom : List En := [(0, 8, 1, 0), (4, 0, 0, 0), (5, 8, 0, 0), (9, 0, 0, 0), (10, 1, 0, 8), (15, 8, 1, 0), (19, 0, 0, 0), (20, 8, 0, 0), (24, 0, 0, 0), (25, 1, 0, 8), (30, 8, 1, 0), (34, 0, 0, 0), (35, 8, 0, 0), (39, 0, 0, 0), (40, 1, 0, 8), (45, 8, 1, 0), (49, 0, 0, 0), (50, 8, 0, 0), (54, 0, 0, 0), (55, 1, 0, 8), (60, 8, 1, 0), (64, 0, 0, 0), (65, 8, 0, 0), (69, 0, 0, 0), (70, 1, 0, 8), (75, 8, 1, 0), (79, 0, 0, 0), (80, 8, 0, 0), (84, 0, 0, 0), (85, 1, 0, 8)]
theorem ok_X10_copyFrom : tab_X10_copyFrom.all (okE cX10_copyFrom) = true := by decide +kernel
def ed_X10_copyFrom : List (Nat × Instr × Nat) := [(1, .getfield 9, 3), (6, .getfield 9, 3), (12, .invokestatic 37, 3), (16, .getfield 15, 3), (21, .getfield 15, 3), (27, .invokestatic 37, 3), (31, .getfield 18, 3), (36, .getfield 18, 3), (42, .invokestatic 37, 3), (46, .getfield 21, 3), (51, .getfield 21, 3), (57, .invokestatic 37, 3), (61, .getfield 25, 3), (66, .getfield 25, 3), (72, .invokestatic 37, 3), (76, .getfield 28, 3), (81, .getfield 28, 3), (87, .invokestatic 37, 3), (90, .return_, 1)]
theorem okd_X10_copyFrom : ed_X10_copyFrom.all (okD cX10_copyFrom) = true := by decide +kernel
def f_X10_copyFrom (S : St) (p0 : Nat) (p1 : Nat) : Option (St) := lt (gR S p1 0) fun (a1 : Nat) => lt (gR S p0 0) fun (a3 : Nat) => cpI S a1 0 a3 0 8 fun (S5 : St) => lt (gR S5 p1 1) fun (a6 : Nat) => lt (gR S5 p0 1) fun (a8 : Nat) => cpI S5 a6 0 a8 0 8 fun (S10 : St) => lt (gR S10 p1 2) fun (a11 : Nat) => lt (gR S10 p0 2) fun (a13 : Nat) => cpI S10 a11 0 a13 0 8 fun (S15 : St) => lt (gR S15 p1 3) fun (a16 : Nat) => lt (gR S15 p0 3) fun (a18 : Nat) => cpJ S15 a16 0 a18 0 8 fun (S20 : St) => lt (gR S20 p1 4) fun (a21 : Nat) => lt (gR S20 p0 4) fun (a23 : Nat) => cpI S20 a21 0 a23 0 8 fun (S25 : St) => lt (gR S25 p1 5) fun (a26 : Nat) => lt (gR S25 p0 5) fun (a28 : Nat) => cpI S25 a26 0 a28 0 8 fun (S30 : St) => some S30
set_option maxHeartbeats 4000000 in
set_option maxRecDepth 100000 in
theorem c_X10_copyFrom (S : St) (p0 : Nat) (p1 : Nat) : Ct yX10_copyFrom cX10_copyFrom 2 none 1 48 (fun _ => [.ref p0, .ref p1]) [(p0, 9), (p1, 9)] S (f_X10_copyFrom S p0 p1) oV sV := by
  refine Ct_of RX10 rfl (by decide) (fun _ => Nat.le_of_ble_eq_true rfl) 0 (vs := fun _ => [some (.ref p0), some (.ref p1)]) (fun _ => rfl) (fun C X E hr ht => ?_)
  have t0_ : tT C p0 9 := ht (p0, 9) (by simp)
  have t1_ : tT C p1 9 := ht (p1, 9) (by simp)
  show Jd C 2 (QJ C oV sV) S 0 [some (.ref p0), some (.ref p1)] [] (f_X10_copyFrom S p0 p1)
  unfold f_X10_copyFrom
  refine s_run X ok_X10_copyFrom 0 1 (pc' := 1) (vs' := [some (.ref p0), some (.ref p1)]) (st' := [.ref p1]) rfl ?_
  refine s_getR X fl_X10_9 t1_ (dk okd_X10_copyFrom 0 rfl) (fun a1 (t2 : tT C a1 13) => ?_)
  refine s_run X ok_X10_copyFrom 1 2 (pc' := 6) (vs' := [some (.ref p0), some (.ref p1)]) (st' := [.ref p0, .int 0, .ref a1]) rfl ?_
  refine s_getR X fl_X10_9 t0_ (dk okd_X10_copyFrom 1 rfl) (fun a3 (t4 : tT C a3 13) => ?_)
  refine s_run X ok_X10_copyFrom 3 2 (pc' := 12) (vs' := [some (.ref p0), some (.ref p1)]) (st' := [.int 8, .int 0, .ref a3, .int 0, .ref a1]) rfl ?_
  refine s_copyI X mm_X10_37 t2 t4 (Nat.le_of_ble_eq_true rfl) (Nat.le_of_ble_eq_true rfl) (dk okd_X10_copyFrom 2 rfl) (fun S5 => ?_)
  refine s_run X ok_X10_copyFrom 5 1 (pc' := 16) (vs' := [some (.ref p0), some (.ref p1)]) (st' := [.ref p1]) rfl ?_
  refine s_getR X fl_X10_15 t1_ (dk okd_X10_copyFrom 3 rfl) (fun a6 (t7 : tT C a6 13) => ?_)
  refine s_run X ok_X10_copyFrom 6 2 (pc' := 21) (vs' := [some (.ref p0), some (.ref p1)]) (st' := [.ref p0, .int 0, .ref a6]) rfl ?_
  refine s_getR X fl_X10_15 t0_ (dk okd_X10_copyFrom 4 rfl) (fun a8 (t9 : tT C a8 13) => ?_)
  refine s_run X ok_X10_copyFrom 8 2 (pc' := 27) (vs' := [some (.ref p0), some (.ref p1)]) (st' := [.int 8, .int 0, .ref a8, .int 0, .ref a6]) rfl ?_
  refine s_copyI X mm_X10_37 t7 t9 (Nat.le_of_ble_eq_true rfl) (Nat.le_of_ble_eq_true rfl) (dk okd_X10_copyFrom 5 rfl) (fun S10 => ?_)
  refine s_run X ok_X10_copyFrom 10 1 (pc' := 31) (vs' := [some (.ref p0), some (.ref p1)]) (st' := [.ref p1]) rfl ?_
  refine s_getR X fl_X10_18 t1_ (dk okd_X10_copyFrom 6 rfl) (fun a11 (t12 : tT C a11 13) => ?_)
  refine s_run X ok_X10_copyFrom 11 2 (pc' := 36) (vs' := [some (.ref p0), some (.ref p1)]) (st' := [.ref p0, .int 0, .ref a11]) rfl ?_
  refine s_getR X fl_X10_18 t0_ (dk okd_X10_copyFrom 7 rfl) (fun a13 (t14 : tT C a13 13) => ?_)
  refine s_run X ok_X10_copyFrom 13 2 (pc' := 42) (vs' := [some (.ref p0), some (.ref p1)]) (st' := [.int 8, .int 0, .ref a13, .int 0, .ref a11]) rfl ?_
  refine s_copyI X mm_X10_37 t12 t14 (Nat.le_of_ble_eq_true rfl) (Nat.le_of_ble_eq_true rfl) (dk okd_X10_copyFrom 8 rfl) (fun S15 => ?_)
  refine s_run X ok_X10_copyFrom 15 1 (pc' := 46) (vs' := [some (.ref p0), some (.ref p1)]) (st' := [.ref p1]) rfl ?_
  refine s_getR X fl_X10_21 t1_ (dk okd_X10_copyFrom 9 rfl) (fun a16 (t17 : tT C a16 14) => ?_)
  refine s_run X ok_X10_copyFrom 16 2 (pc' := 51) (vs' := [some (.ref p0), some (.ref p1)]) (st' := [.ref p0, .int 0, .ref a16]) rfl ?_
  refine s_getR X fl_X10_21 t0_ (dk okd_X10_copyFrom 10 rfl) (fun a18 (t19 : tT C a18 14) => ?_)
  refine s_run X ok_X10_copyFrom 18 2 (pc' := 57) (vs' := [some (.ref p0), some (.ref p1)]) (st' := [.int 8, .int 0, .ref a18, .int 0, .ref a16]) rfl ?_
  refine s_copyJ X mm_X10_37 t17 t19 (Nat.le_of_ble_eq_true rfl) (Nat.le_of_ble_eq_true rfl) (dk okd_X10_copyFrom 11 rfl) (fun S20 => ?_)
  refine s_run X ok_X10_copyFrom 20 1 (pc' := 61) (vs' := [some (.ref p0), some (.ref p1)]) (st' := [.ref p1]) rfl ?_
  refine s_getR X fl_X10_25 t1_ (dk okd_X10_copyFrom 12 rfl) (fun a21 (t22 : tT C a21 13) => ?_)
  refine s_run X ok_X10_copyFrom 21 2 (pc' := 66) (vs' := [some (.ref p0), some (.ref p1)]) (st' := [.ref p0, .int 0, .ref a21]) rfl ?_
  refine s_getR X fl_X10_25 t0_ (dk okd_X10_copyFrom 13 rfl) (fun a23 (t24 : tT C a23 13) => ?_)
  refine s_run X ok_X10_copyFrom 23 2 (pc' := 72) (vs' := [some (.ref p0), some (.ref p1)]) (st' := [.int 8, .int 0, .ref a23, .int 0, .ref a21]) rfl ?_
  refine s_copyI X mm_X10_37 t22 t24 (Nat.le_of_ble_eq_true rfl) (Nat.le_of_ble_eq_true rfl) (dk okd_X10_copyFrom 14 rfl) (fun S25 => ?_)
  refine s_run X ok_X10_copyFrom 25 1 (pc' := 76) (vs' := [some (.ref p0), some (.ref p1)]) (st' := [.ref p1]) rfl ?_
  refine s_getR X fl_X10_28 t1_ (dk okd_X10_copyFrom 15 rfl) (fun a26 (t27 : tT C a26 13) => ?_)
  refine s_run X ok_X10_copyFrom 26 2 (pc' := 81) (vs' := [some (.ref p0), some (.ref p1)]) (st' := [.ref p0, .int 0, .ref a26]) rfl ?_
  refine s_getR X fl_X10_28 t0_ (dk okd_X10_copyFrom 16 rfl) (fun a28 (t29 : tT C a28 13) => ?_)
  refine s_run X ok_X10_copyFrom 28 2 (pc' := 87) (vs' := [some (.ref p0), some (.ref p1)]) (st' := [.int 8, .int 0, .ref a28, .int 0, .ref a26]) rfl ?_
  refine s_copyI X mm_X10_37 t27 t29 (Nat.le_of_ble_eq_true rfl) (Nat.le_of_ble_eq_true rfl) (dk okd_X10_copyFrom 17 rfl) (fun S30 => ?_)
  exact s_vret X hr (dk okd_X10_copyFrom 18 rfl) rfl rfl
def tab_X10_isOpen : List En := [(0, 8, 0, 0), (4, 4, 1, 0), (6, 0, 0, 1), (10, 8, 0, 0), (14, 4, 1, 0), (16, 0, 0, 2), (20, 0, 0, 1), (21, 41, 25, 0), (24, 0, 0, 0)]
theorem ok_X10_isOpen : tab_X10_isOpen.all (okE cX10_isOpen) = true := by decide +kernel
def ed_X10_isOpen : List (Nat × Instr × Nat) := [(1, .getfield 9, 3), (5, .iaload, 1), (7, .if_icmp .eq 13, 3), (11, .getfield 9, 3), (15, .iaload, 1), (17, .if_icmp .ne 7, 3), (25, .ireturn, 1)]
theorem okd_X10_isOpen : ed_X10_isOpen.all (okD cX10_isOpen) = true := by decide +kernel
def f_X10_isOpen (S : St) (p0 : Nat) (p1 : Int32) : Option (Int32) := lt (gR S p0 0) fun (a1 : Nat) => ldI S a1 p1 fun (v3 : Int32) => jn (κ := Option (Int32)) (some 1) fun k4 => if v3 = 1 then (k4) else (lt (gR S p0 0) fun (a6 : Nat) => ldI S a6 p1 fun (v8 : Int32) => if v8 = 2 then (k4) else (some 0))
set_option maxHeartbeats 4000000 in
set_option maxRecDepth 100000 in
theorem c_X10_isOpen (S : St) (p0 : Nat) (p1 : Int32) : Ct yX10_isOpen cX10_isOpen 2 (some .boolean) 0 0 (fun _ => [.ref p0, .int p1]) [(p0, 9)] S (f_X10_isOpen S p0 p1) oI (fun _ => S) := by
  refine Ct_of RX10 rfl (by decide) (fun _ => Nat.le_of_ble_eq_true rfl) 0 (vs := fun _ => [some (.ref p0), some (.int p1)]) (fun _ => rfl) (fun C X E hr ht => ?_)
  have t0_ : tT C p0 9 := ht (p0, 9) (by simp)
  show Jd C 2 (QJ C oI (fun _ => S)) S 0 [some (.ref p0), some (.int p1)] [] (f_X10_isOpen S p0 p1)
  unfold f_X10_isOpen
  refine s_run X ok_X10_isOpen 0 1 (pc' := 1) (vs' := [some (.ref p0), some (.int p1)]) (st' := [.ref p0]) rfl ?_
  refine s_getR X fl_X10_9 t0_ (dk okd_X10_isOpen 0 rfl) (fun a1 (t2 : tT C a1 13) => ?_)
  refine s_run X ok_X10_isOpen 1 1 (pc' := 5) (vs' := [some (.ref p0), some (.int p1)]) (st' := [.int p1, .ref a1]) rfl ?_
  refine s_iald X t2 (dk okd_X10_isOpen 1 rfl) (fun v3 => ?_)
  refine s_run X ok_X10_isOpen 2 1 (pc' := 7) (vs' := [some (.ref p0), some (.int p1)]) (st' := [.int 1, .int v3]) rfl ?_
  refine s_jn (κ := Option (Int32)) (fun k4 => Jd C 2 (QJ C oI (fun _ => S)) S 20 [none, none] [] k4) ?_ (fun k4 h5 => ?_)
  · refine s_run X ok_X10_isOpen 6 2 (pc' := 25) (vs' := [none, none]) (st' := [.int 1]) rfl ?_
    exact s_zret0 X hr (dk okd_X10_isOpen 6 rfl) (by decide) rfl rfl
  · refine s_icmp_eq (tgt := 20) X (dk okd_X10_isOpen 2 rfl) (by decide) ?_ ?_
    · exact s_less [false, false] rfl (h5)
    · refine s_run X ok_X10_isOpen 3 1 (pc' := 11) (vs' := [some (.ref p0), some (.int p1)]) (st' := [.ref p0]) rfl ?_
      refine s_getR X fl_X10_9 t0_ (dk okd_X10_isOpen 3 rfl) (fun a6 (t7 : tT C a6 13) => ?_)
      refine s_run X ok_X10_isOpen 4 1 (pc' := 15) (vs' := [some (.ref p0), some (.int p1)]) (st' := [.int p1, .ref a6]) rfl ?_
      refine s_iald X t7 (dk okd_X10_isOpen 4 rfl) (fun v8 => ?_)
      refine s_run X ok_X10_isOpen 5 1 (pc' := 17) (vs' := [some (.ref p0), some (.int p1)]) (st' := [.int 2, .int v8]) rfl ?_
      refine s_icmp_ne (tgt := 24) X (dk okd_X10_isOpen 5 rfl) (by decide) ?_ ?_
      · refine s_run X ok_X10_isOpen 8 1 (pc' := 25) (vs' := [some (.ref p0), some (.int p1)]) (st' := [.int 0]) rfl ?_
        exact s_zret0 X hr (dk okd_X10_isOpen 6 rfl) (by decide) rfl rfl
      · exact s_less [false, false] rfl (h5)
def tab_X10_begin : List En := [(0, 8, 0, 0), (4, 4, 1, 0), (5, 0, 0, 1), (7, 8, 0, 0), (11, 4, 1, 0), (12, 4, 2, 0), (14, 8, 0, 0), (18, 4, 1, 0), (19, 4, 3, 0), (21, 8, 0, 0), (25, 4, 1, 0), (26, 7, 4, 0), (29, 8, 0, 0), (33, 4, 1, 0), (34, 0, 0, 0), (36, 8, 0, 0), (40, 4, 1, 0), (41, 0, 0, 0)]
theorem ok_X10_begin : tab_X10_begin.all (okE cX10_begin) = true := by decide +kernel
def ed_X10_begin : List (Nat × Instr × Nat) := [(1, .getfield 9, 3), (6, .iastore, 1), (8, .getfield 15, 3), (13, .iastore, 1), (15, .getfield 18, 3), (20, .iastore, 1), (22, .getfield 21, 3), (28, .lastore, 1), (30, .getfield 25, 3), (35, .iastore, 1), (37, .getfield 28, 3), (42, .iastore, 1), (43, .return_, 1)]
theorem okd_X10_begin : ed_X10_begin.all (okD cX10_begin) = true := by decide +kernel
def f_X10_begin (S : St) (p0 : Nat) (p1 : Int32) (p2 : Int32) (p3 : Int32) (p4 : Int64) : Option (St) := lt (gR S p0 0) fun (a1 : Nat) => stI S a1 p1 1 fun (S3 : St) => lt (gR S3 p0 1) fun (a4 : Nat) => stI S3 a4 p1 p2 fun (S6 : St) => lt (gR S6 p0 2) fun (a7 : Nat) => stI S6 a7 p1 p3 fun (S9 : St) => lt (gR S9 p0 3) fun (a10 : Nat) => stJ S9 a10 p1 p4 fun (S12 : St) => lt (gR S12 p0 4) fun (a13 : Nat) => stI S12 a13 p1 0 fun (S15 : St) => lt (gR S15 p0 5) fun (a16 : Nat) => stI S15 a16 p1 0 fun (S18 : St) => some S18
set_option maxHeartbeats 4000000 in
set_option maxRecDepth 100000 in
theorem c_X10_begin (S : St) (p0 : Nat) (p1 : Int32) (p2 : Int32) (p3 : Int32) (p4 : Int64) : Ct yX10_begin cX10_begin 6 none 0 0 (fun _ => [.ref p0, .int p1, .int p2, .int p3, .long p4]) [(p0, 9)] S (f_X10_begin S p0 p1 p2 p3 p4) oV sV := by
  refine Ct_of RX10 rfl (by decide) (fun _ => Nat.le_of_ble_eq_true rfl) 0 (vs := fun _ => [some (.ref p0), some (.int p1), some (.int p2), some (.int p3), some (.long p4), none]) (fun _ => rfl) (fun C X E hr ht => ?_)
  have t0_ : tT C p0 9 := ht (p0, 9) (by simp)
  show Jd C 6 (QJ C oV sV) S 0 [some (.ref p0), some (.int p1), some (.int p2), some (.int p3), some (.long p4), none] [] (f_X10_begin S p0 p1 p2 p3 p4)
  unfold f_X10_begin
  refine s_run X ok_X10_begin 0 1 (pc' := 1) (vs' := [some (.ref p0), some (.int p1), some (.int p2), some (.int p3), some (.long p4), none]) (st' := [.ref p0]) rfl ?_
  refine s_getR X fl_X10_9 t0_ (dk okd_X10_begin 0 rfl) (fun a1 (t2 : tT C a1 13) => ?_)
  refine s_run X ok_X10_begin 1 2 (pc' := 6) (vs' := [some (.ref p0), some (.int p1), some (.int p2), some (.int p3), some (.long p4), none]) (st' := [.int 1, .int p1, .ref a1]) rfl ?_
  refine s_iast X t2 (dk okd_X10_begin 1 rfl) (fun S3 => ?_)
  refine s_run X ok_X10_begin 3 1 (pc' := 8) (vs' := [some (.ref p0), some (.int p1), some (.int p2), some (.int p3), some (.long p4), none]) (st' := [.ref p0]) rfl ?_
  refine s_getR X fl_X10_15 t0_ (dk okd_X10_begin 2 rfl) (fun a4 (t5 : tT C a4 13) => ?_)
  refine s_run X ok_X10_begin 4 2 (pc' := 13) (vs' := [some (.ref p0), some (.int p1), some (.int p2), some (.int p3), some (.long p4), none]) (st' := [.int p2, .int p1, .ref a4]) rfl ?_
  refine s_iast X t5 (dk okd_X10_begin 3 rfl) (fun S6 => ?_)
  refine s_run X ok_X10_begin 6 1 (pc' := 15) (vs' := [some (.ref p0), some (.int p1), some (.int p2), some (.int p3), some (.long p4), none]) (st' := [.ref p0]) rfl ?_
  refine s_getR X fl_X10_18 t0_ (dk okd_X10_begin 4 rfl) (fun a7 (t8 : tT C a7 13) => ?_)
  refine s_run X ok_X10_begin 7 2 (pc' := 20) (vs' := [some (.ref p0), some (.int p1), some (.int p2), some (.int p3), some (.long p4), none]) (st' := [.int p3, .int p1, .ref a7]) rfl ?_
  refine s_iast X t8 (dk okd_X10_begin 5 rfl) (fun S9 => ?_)
  refine s_run X ok_X10_begin 9 1 (pc' := 22) (vs' := [some (.ref p0), some (.int p1), some (.int p2), some (.int p3), some (.long p4), none]) (st' := [.ref p0]) rfl ?_
  refine s_getR X fl_X10_21 t0_ (dk okd_X10_begin 6 rfl) (fun a10 (t11 : tT C a10 14) => ?_)
  refine s_run X ok_X10_begin 10 2 (pc' := 28) (vs' := [some (.ref p0), some (.int p1), some (.int p2), some (.int p3), some (.long p4), none]) (st' := [.long p4, .int p1, .ref a10]) rfl ?_
  refine s_last X t11 (dk okd_X10_begin 7 rfl) (fun S12 => ?_)
  refine s_run X ok_X10_begin 12 1 (pc' := 30) (vs' := [some (.ref p0), some (.int p1), some (.int p2), some (.int p3), some (.long p4), none]) (st' := [.ref p0]) rfl ?_
  refine s_getR X fl_X10_25 t0_ (dk okd_X10_begin 8 rfl) (fun a13 (t14 : tT C a13 13) => ?_)
  refine s_run X ok_X10_begin 13 2 (pc' := 35) (vs' := [some (.ref p0), some (.int p1), some (.int p2), some (.int p3), some (.long p4), none]) (st' := [.int 0, .int p1, .ref a13]) rfl ?_
  refine s_iast X t14 (dk okd_X10_begin 9 rfl) (fun S15 => ?_)
  refine s_run X ok_X10_begin 15 1 (pc' := 37) (vs' := [some (.ref p0), some (.int p1), some (.int p2), some (.int p3), some (.long p4), none]) (st' := [.ref p0]) rfl ?_
  refine s_getR X fl_X10_28 t0_ (dk okd_X10_begin 10 rfl) (fun a16 (t17 : tT C a16 13) => ?_)
  refine s_run X ok_X10_begin 16 2 (pc' := 42) (vs' := [some (.ref p0), some (.int p1), some (.int p2), some (.int p3), some (.long p4), none]) (st' := [.int 0, .int p1, .ref a16]) rfl ?_
  refine s_iast X t17 (dk okd_X10_begin 11 rfl) (fun S18 => ?_)
  exact s_vret X hr (dk okd_X10_begin 12 rfl) rfl rfl
def tab_X10_endOpen : List En := [(0, 8, 0, 0), (1, 4, 1, 0), (8, 0, 0, 0), (10, 8, 0, 0), (14, 4, 1, 0), (15, 4, 2, 0), (17, 0, 0, 1)]
theorem ok_X10_endOpen : tab_X10_endOpen.all (okE cX10_endOpen) = true := by decide +kernel
def ed_X10_endOpen : List (Nat × Instr × Nat) := [(2, .invokevirtual 43, 3), (5, .ifCond .ne 5, 3), (9, .ireturn, 1), (11, .getfield 9, 3), (16, .iastore, 1), (18, .ireturn, 1)]
theorem okd_X10_endOpen : ed_X10_endOpen.all (okD cX10_endOpen) = true := by decide +kernel
def f_X10_endOpen (S : St) (p0 : Nat) (p1 : Int32) (p2 : Int32) : Option (Int32 × St) := cl (f_X10_isOpen S p0 p1) fun (v1 : Int32) => if v1 = 0 then (some (0, S)) else (lt (gR S p0 0) fun (a2 : Nat) => stI S a2 p1 p2 fun (S4 : St) => some (1, S4))
set_option maxHeartbeats 4000000 in
set_option maxRecDepth 100000 in
theorem c_X10_endOpen (S : St) (p0 : Nat) (p1 : Int32) (p2 : Int32) : Ct yX10_endOpen cX10_endOpen 3 (some .boolean) 1 21 (fun _ => [.ref p0, .int p1, .int p2]) [(p0, 9)] S (f_X10_endOpen S p0 p1 p2) oIS sS := by
  refine Ct_of RX10 rfl (by decide) (fun _ => Nat.le_of_ble_eq_true rfl) 0 (vs := fun _ => [some (.ref p0), some (.int p1), some (.int p2)]) (fun _ => rfl) (fun C X E hr ht => ?_)
  have t0_ : tT C p0 9 := ht (p0, 9) (by simp)
  show Jd C 3 (QJ C oIS sS) S 0 [some (.ref p0), some (.int p1), some (.int p2)] [] (f_X10_endOpen S p0 p1 p2)
  unfold f_X10_endOpen
  refine s_run X ok_X10_endOpen 0 2 (pc' := 2) (vs' := [some (.ref p0), some (.int p1), some (.int p2)]) (st' := [.int p1, .ref p0]) rfl ?_
  refine s_callV (b := p0) (As := [.int p1]) (rest := []) X E mv_X10_43 (c_X10_isOpen S p0 p1) rfl (ta1 t0_) rfl (by decide) t0_ rfl rfl (Nat.le_of_ble_eq_true rfl) (Nat.le_of_ble_eq_true rfl) (Nat.le_of_ble_eq_true rfl) (dk okd_X10_endOpen 0 rfl) (st' := fun v1 => [.int v1]) (fun _ => rfl) (fun v1 => ?_)
  refine s_if_ne (tgt := 10) X (dk okd_X10_endOpen 1 rfl) (by decide) ?_ ?_
  · refine s_run X ok_X10_endOpen 3 1 (pc' := 11) (vs' := [some (.ref p0), some (.int p1), some (.int p2)]) (st' := [.ref p0]) rfl ?_
    refine s_getR X fl_X10_9 t0_ (dk okd_X10_endOpen 3 rfl) (fun a2 (t3 : tT C a2 13) => ?_)
    refine s_run X ok_X10_endOpen 4 2 (pc' := 16) (vs' := [some (.ref p0), some (.int p1), some (.int p2)]) (st' := [.int p2, .int p1, .ref a2]) rfl ?_
    refine s_iast X t3 (dk okd_X10_endOpen 4 rfl) (fun S4 => ?_)
    refine s_run X ok_X10_endOpen 6 1 (pc' := 18) (vs' := [some (.ref p0), some (.int p1), some (.int p2)]) (st' := [.int 1]) rfl ?_
    exact s_zret0 X hr (dk okd_X10_endOpen 5 rfl) (by decide) rfl rfl
  · refine s_run X ok_X10_endOpen 2 1 (pc' := 9) (vs' := [some (.ref p0), some (.int p1), some (.int p2)]) (st' := [.int 0]) rfl ?_
    exact s_zret0 X hr (dk okd_X10_endOpen 2 rfl) (by decide) rfl rfl
def tab_X11_appendInput : List En := [(0, 8, 0, 0), (7, 2, 0, 1480), (13, 0, 0, (-1)), (15, 8, 0, 0), (19, 4, 1, 0), (23, 8, 0, 0), (27, 4, 2, 0), (31, 8, 0, 0), (35, 4, 3, 0), (39, 8, 0, 0), (43, 5, 4, 0), (48, 8, 0, 0), (52, 5, 5, 0), (57, 8, 0, 0)]
theorem ok_X11_appendInput : tab_X11_appendInput.all (okE cX11_appendInput) = true := by decide +kernel
def ed_X11_appendInput : List (Nat × Instr × Nat) := [(1, .getfield 12, 3), (4, .getfield 68, 3), (10, .if_icmp .le 5, 3), (14, .ireturn, 1), (16, .getfield 12, 3), (20, .invokevirtual 71, 3), (24, .getfield 12, 3), (28, .invokevirtual 71, 3), (32, .getfield 12, 3), (36, .invokevirtual 71, 3), (40, .getfield 12, 3), (45, .invokevirtual 71, 3), (49, .getfield 12, 3), (54, .invokevirtual 71, 3), (58, .getfield 12, 3), (61, .getfield 68, 3), (64, .ireturn, 1)]
theorem okd_X11_appendInput : ed_X11_appendInput.all (okD cX11_appendInput) = true := by decide +kernel
def f_X11_appendInput (S : St) (p0 : Nat) (p1 : Int32) (p2 : Int32) (p3 : Int32) (p4 : Int32) (p5 : Int32) : Option (Int32 × St) := lt (gR S p0 0) fun (a1 : Nat) => lt (gI S a1 1) fun (v3 : Int32) => if v3 ≤ 1480 then (lt (gR S p0 0) fun (a4 : Nat) => cl (f_X9_addFourBytes S a4 p1) fun (S6 : St) => lt (gR S6 p0 0) fun (a7 : Nat) => cl (f_X9_addFourBytes S6 a7 p2) fun (S9 : St) => lt (gR S9 p0 0) fun (a10 : Nat) => cl (f_X9_addFourBytes S9 a10 p3) fun (S12 : St) => lt (gR S12 p0 0) fun (a13 : Nat) => cl (f_X9_addFourBytes S12 a13 p4) fun (S15 : St) => lt (gR S15 p0 0) fun (a16 : Nat) => cl (f_X9_addFourBytes S15 a16 p5) fun (S18 : St) => lt (gR S18 p0 0) fun (a19 : Nat) => lt (gI S18 a19 1) fun (v21 : Int32) => some (v21, S18)) else (some ((-1), S))
set_option maxHeartbeats 4000000 in
set_option maxRecDepth 100000 in
theorem c_X11_appendInput (S : St) (p0 : Nat) (p1 : Int32) (p2 : Int32) (p3 : Int32) (p4 : Int32) (p5 : Int32) : Ct yX11_appendInput cX11_appendInput 6 (some .int) 1 22 (fun _ => [.ref p0, .int p1, .int p2, .int p3, .int p4, .int p5]) [(p0, 10)] S (f_X11_appendInput S p0 p1 p2 p3 p4 p5) oIS sS := by
  refine Ct_of RX11 rfl (by decide) (fun _ => Nat.le_of_ble_eq_true rfl) 0 (vs := fun _ => [some (.ref p0), some (.int p1), some (.int p2), some (.int p3), some (.int p4), some (.int p5)]) (fun _ => rfl) (fun C X E hr ht => ?_)
  have t0_ : tT C p0 10 := ht (p0, 10) (by simp)
  show Jd C 6 (QJ C oIS sS) S 0 [some (.ref p0), some (.int p1), some (.int p2), some (.int p3), some (.int p4), some (.int p5)] [] (f_X11_appendInput S p0 p1 p2 p3 p4 p5)
  unfold f_X11_appendInput
  refine s_run X ok_X11_appendInput 0 1 (pc' := 1) (vs' := [some (.ref p0), some (.int p1), some (.int p2), some (.int p3), some (.int p4), some (.int p5)]) (st' := [.ref p0]) rfl ?_
  refine s_getR X fl_X11_12 t0_ (dk okd_X11_appendInput 0 rfl) (fun a1 (t2 : tT C a1 8) => ?_)
  refine s_getI X fl_X11_68 t2 (dk okd_X11_appendInput 1 rfl) (fun v3 => ?_)
  refine s_run X ok_X11_appendInput 1 1 (pc' := 10) (vs' := [some (.ref p0), some (.int p1), some (.int p2), some (.int p3), some (.int p4), some (.int p5)]) (st' := [.int 1480, .int v3]) rfl ?_
  refine s_icmp_le (tgt := 15) X (dk okd_X11_appendInput 2 rfl) (by decide) ?_ ?_
  · refine s_run X ok_X11_appendInput 3 1 (pc' := 16) (vs' := [some (.ref p0), some (.int p1), some (.int p2), some (.int p3), some (.int p4), some (.int p5)]) (st' := [.ref p0]) rfl ?_
    refine s_getR X fl_X11_12 t0_ (dk okd_X11_appendInput 4 rfl) (fun a4 (t5 : tT C a4 8) => ?_)
    refine s_run X ok_X11_appendInput 4 1 (pc' := 20) (vs' := [some (.ref p0), some (.int p1), some (.int p2), some (.int p3), some (.int p4), some (.int p5)]) (st' := [.int p1, .ref a4]) rfl ?_
    refine s_callV (b := a4) (As := [.int p1]) (rest := []) X E mv_X11_71 (c_X9_addFourBytes S a4 p1) rfl (ta1 t5) rfl (by decide) t5 rfl rfl (Nat.le_of_ble_eq_true rfl) (Nat.le_of_ble_eq_true rfl) (Nat.le_of_ble_eq_true rfl) (dk okd_X11_appendInput 5 rfl) (st' := fun S6 => []) (fun _ => rfl) (fun S6 => ?_)
    refine s_run X ok_X11_appendInput 5 1 (pc' := 24) (vs' := [some (.ref p0), some (.int p1), some (.int p2), some (.int p3), some (.int p4), some (.int p5)]) (st' := [.ref p0]) rfl ?_
    refine s_getR X fl_X11_12 t0_ (dk okd_X11_appendInput 6 rfl) (fun a7 (t8 : tT C a7 8) => ?_)
    refine s_run X ok_X11_appendInput 6 1 (pc' := 28) (vs' := [some (.ref p0), some (.int p1), some (.int p2), some (.int p3), some (.int p4), some (.int p5)]) (st' := [.int p2, .ref a7]) rfl ?_
    refine s_callV (b := a7) (As := [.int p2]) (rest := []) X E mv_X11_71 (c_X9_addFourBytes S6 a7 p2) rfl (ta1 t8) rfl (by decide) t8 rfl rfl (Nat.le_of_ble_eq_true rfl) (Nat.le_of_ble_eq_true rfl) (Nat.le_of_ble_eq_true rfl) (dk okd_X11_appendInput 7 rfl) (st' := fun S9 => []) (fun _ => rfl) (fun S9 => ?_)
    refine s_run X ok_X11_appendInput 7 1 (pc' := 32) (vs' := [some (.ref p0), some (.int p1), some (.int p2), some (.int p3), some (.int p4), some (.int p5)]) (st' := [.ref p0]) rfl ?_
    refine s_getR X fl_X11_12 t0_ (dk okd_X11_appendInput 8 rfl) (fun a10 (t11 : tT C a10 8) => ?_)
    refine s_run X ok_X11_appendInput 8 1 (pc' := 36) (vs' := [some (.ref p0), some (.int p1), some (.int p2), some (.int p3), some (.int p4), some (.int p5)]) (st' := [.int p3, .ref a10]) rfl ?_
    refine s_callV (b := a10) (As := [.int p3]) (rest := []) X E mv_X11_71 (c_X9_addFourBytes S9 a10 p3) rfl (ta1 t11) rfl (by decide) t11 rfl rfl (Nat.le_of_ble_eq_true rfl) (Nat.le_of_ble_eq_true rfl) (Nat.le_of_ble_eq_true rfl) (dk okd_X11_appendInput 9 rfl) (st' := fun S12 => []) (fun _ => rfl) (fun S12 => ?_)
    refine s_run X ok_X11_appendInput 9 1 (pc' := 40) (vs' := [some (.ref p0), some (.int p1), some (.int p2), some (.int p3), some (.int p4), some (.int p5)]) (st' := [.ref p0]) rfl ?_
    refine s_getR X fl_X11_12 t0_ (dk okd_X11_appendInput 10 rfl) (fun a13 (t14 : tT C a13 8) => ?_)
    refine s_run X ok_X11_appendInput 10 1 (pc' := 45) (vs' := [some (.ref p0), some (.int p1), some (.int p2), some (.int p3), some (.int p4), some (.int p5)]) (st' := [.int p4, .ref a13]) rfl ?_
    refine s_callV (b := a13) (As := [.int p4]) (rest := []) X E mv_X11_71 (c_X9_addFourBytes S12 a13 p4) rfl (ta1 t14) rfl (by decide) t14 rfl rfl (Nat.le_of_ble_eq_true rfl) (Nat.le_of_ble_eq_true rfl) (Nat.le_of_ble_eq_true rfl) (dk okd_X11_appendInput 11 rfl) (st' := fun S15 => []) (fun _ => rfl) (fun S15 => ?_)
    refine s_run X ok_X11_appendInput 11 1 (pc' := 49) (vs' := [some (.ref p0), some (.int p1), some (.int p2), some (.int p3), some (.int p4), some (.int p5)]) (st' := [.ref p0]) rfl ?_
    refine s_getR X fl_X11_12 t0_ (dk okd_X11_appendInput 12 rfl) (fun a16 (t17 : tT C a16 8) => ?_)
    refine s_run X ok_X11_appendInput 12 1 (pc' := 54) (vs' := [some (.ref p0), some (.int p1), some (.int p2), some (.int p3), some (.int p4), some (.int p5)]) (st' := [.int p5, .ref a16]) rfl ?_
    refine s_callV (b := a16) (As := [.int p5]) (rest := []) X E mv_X11_71 (c_X9_addFourBytes S15 a16 p5) rfl (ta1 t17) rfl (by decide) t17 rfl rfl (Nat.le_of_ble_eq_true rfl) (Nat.le_of_ble_eq_true rfl) (Nat.le_of_ble_eq_true rfl) (dk okd_X11_appendInput 13 rfl) (st' := fun S18 => []) (fun _ => rfl) (fun S18 => ?_)
    refine s_run X ok_X11_appendInput 13 1 (pc' := 58) (vs' := [some (.ref p0), some (.int p1), some (.int p2), some (.int p3), some (.int p4), some (.int p5)]) (st' := [.ref p0]) rfl ?_
    refine s_getR X fl_X11_12 t0_ (dk okd_X11_appendInput 14 rfl) (fun a19 (t20 : tT C a19 8) => ?_)
    refine s_getI X fl_X11_68 t20 (dk okd_X11_appendInput 15 rfl) (fun v21 => ?_)
    exact s_iret X hr (dk okd_X11_appendInput 16 rfl) rfl rfl
  · refine s_run X ok_X11_appendInput 2 1 (pc' := 14) (vs' := [some (.ref p0), some (.int p1), some (.int p2), some (.int p3), some (.int p4), some (.int p5)]) (st' := [.int (-1)]) rfl ?_
    exact s_iret X hr (dk okd_X11_appendInput 3 rfl) rfl rfl
def tab_X11_truncateInput : List En := [(0, 4, 1, 0), (4, 4, 1, 0), (5, 8, 0, 0), (15, 0, 0, (-1)), (17, 8, 0, 0), (21, 4, 1, 0), (25, 4, 1, 0)]
theorem ok_X11_truncateInput : tab_X11_truncateInput.all (okE cX11_truncateInput) = true := by decide +kernel
def ed_X11_truncateInput : List (Nat × Instr × Nat) := [(1, .ifCond .lt 14, 3), (6, .getfield 12, 3), (9, .getfield 68, 3), (12, .if_icmp .le 5, 3), (16, .ireturn, 1), (18, .getfield 12, 3), (22, .putfield 68, 3), (26, .ireturn, 1)]
theorem okd_X11_truncateInput : ed_X11_truncateInput.all (okD cX11_truncateInput) = true := by decide +kernel
def f_X11_truncateInput (S : St) (p0 : Nat) (p1 : Int32) : Option (Int32 × St) := if p1 < 0 then (some ((-1), S)) else (lt (gR S p0 0) fun (a1 : Nat) => lt (gI S a1 1) fun (v3 : Int32) => if p1 ≤ v3 then (lt (gR S p0 0) fun (a4 : Nat) => lt (uI S a4 1 p1) fun (S6 : St) => some (p1, S6)) else (some ((-1), S)))
set_option maxHeartbeats 4000000 in
set_option maxRecDepth 100000 in
theorem c_X11_truncateInput (S : St) (p0 : Nat) (p1 : Int32) : Ct yX11_truncateInput cX11_truncateInput 2 (some .int) 0 0 (fun _ => [.ref p0, .int p1]) [(p0, 10)] S (f_X11_truncateInput S p0 p1) oIS sS := by
  refine Ct_of RX11 rfl (by decide) (fun _ => Nat.le_of_ble_eq_true rfl) 0 (vs := fun _ => [some (.ref p0), some (.int p1)]) (fun _ => rfl) (fun C X E hr ht => ?_)
  have t0_ : tT C p0 10 := ht (p0, 10) (by simp)
  show Jd C 2 (QJ C oIS sS) S 0 [some (.ref p0), some (.int p1)] [] (f_X11_truncateInput S p0 p1)
  unfold f_X11_truncateInput
  refine s_run X ok_X11_truncateInput 0 1 (pc' := 1) (vs' := [some (.ref p0), some (.int p1)]) (st' := [.int p1]) rfl ?_
  refine s_if_lt (tgt := 15) X (dk okd_X11_truncateInput 0 rfl) (by decide) ?_ ?_
  · refine s_run X ok_X11_truncateInput 3 1 (pc' := 16) (vs' := [some (.ref p0), some (.int p1)]) (st' := [.int (-1)]) rfl ?_
    exact s_iret X hr (dk okd_X11_truncateInput 4 rfl) rfl rfl
  · refine s_run X ok_X11_truncateInput 1 2 (pc' := 6) (vs' := [some (.ref p0), some (.int p1)]) (st' := [.ref p0, .int p1]) rfl ?_
    refine s_getR X fl_X11_12 t0_ (dk okd_X11_truncateInput 1 rfl) (fun a1 (t2 : tT C a1 8) => ?_)
    refine s_getI X fl_X11_68 t2 (dk okd_X11_truncateInput 2 rfl) (fun v3 => ?_)
    refine s_icmp_le (tgt := 17) X (dk okd_X11_truncateInput 3 rfl) (by decide) ?_ ?_
    · refine s_run X ok_X11_truncateInput 4 1 (pc' := 18) (vs' := [some (.ref p0), some (.int p1)]) (st' := [.ref p0]) rfl ?_
      refine s_getR X fl_X11_12 t0_ (dk okd_X11_truncateInput 5 rfl) (fun a4 (t5 : tT C a4 8) => ?_)
      refine s_run X ok_X11_truncateInput 5 1 (pc' := 22) (vs' := [some (.ref p0), some (.int p1)]) (st' := [.int p1, .ref a4]) rfl ?_
      refine s_putI X fp_X11_68 t5 (dk okd_X11_truncateInput 6 rfl) (fun S6 => ?_)
      refine s_run X ok_X11_truncateInput 6 1 (pc' := 26) (vs' := [some (.ref p0), some (.int p1)]) (st' := [.int p1]) rfl ?_
      exact s_iret X hr (dk okd_X11_truncateInput 7 rfl) rfl rfl
    · refine s_run X ok_X11_truncateInput 3 1 (pc' := 16) (vs' := [some (.ref p0), some (.int p1)]) (st' := [.int (-1)]) rfl ?_
      exact s_iret X hr (dk okd_X11_truncateInput 4 rfl) rfl rfl
def tab_X11_errorCode : List En := [(0, 8, 0, 0)]
theorem ok_X11_errorCode : tab_X11_errorCode.all (okE cX11_errorCode) = true := by decide +kernel
def ed_X11_errorCode : List (Nat × Instr × Nat) := [(1, .getfield 61, 3), (4, .ireturn, 1)]
theorem okd_X11_errorCode : ed_X11_errorCode.all (okD cX11_errorCode) = true := by decide +kernel
def f_X11_errorCode (S : St) (p0 : Nat) : Option (Int32) := lt (gI S p0 9) fun (v1 : Int32) => some v1
set_option maxHeartbeats 4000000 in
set_option maxRecDepth 100000 in
theorem c_X11_errorCode (S : St) (p0 : Nat) : Ct yX11_errorCode cX11_errorCode 1 (some .int) 0 0 (fun _ => [.ref p0]) [(p0, 10)] S (f_X11_errorCode S p0) oI (fun _ => S) := by
  refine Ct_of RX11 rfl (by decide) (fun _ => Nat.le_of_ble_eq_true rfl) 0 (vs := fun _ => [some (.ref p0)]) (fun _ => rfl) (fun C X E hr ht => ?_)
  have t0_ : tT C p0 10 := ht (p0, 10) (by simp)
  show Jd C 1 (QJ C oI (fun _ => S)) S 0 [some (.ref p0)] [] (f_X11_errorCode S p0)
  unfold f_X11_errorCode
  refine s_run X ok_X11_errorCode 0 1 (pc' := 1) (vs' := [some (.ref p0)]) (st' := [.ref p0]) rfl ?_
  refine s_getI X fl_X11_61 t0_ (dk okd_X11_errorCode 0 rfl) (fun v1 => ?_)
  exact s_iret X hr (dk okd_X11_errorCode 1 rfl) rfl rfl
def tab_X11_errorPosition : List En := [(0, 8, 0, 0)]
theorem ok_X11_errorPosition : tab_X11_errorPosition.all (okE cX11_errorPosition) = true := by decide +kernel
def ed_X11_errorPosition : List (Nat × Instr × Nat) := [(1, .getfield 65, 3), (4, .ireturn, 1)]
theorem okd_X11_errorPosition : ed_X11_errorPosition.all (okD cX11_errorPosition) = true := by decide +kernel
def f_X11_errorPosition (S : St) (p0 : Nat) : Option (Int32) := lt (gI S p0 10) fun (v1 : Int32) => some v1
set_option maxHeartbeats 4000000 in
set_option maxRecDepth 100000 in
theorem c_X11_errorPosition (S : St) (p0 : Nat) : Ct yX11_errorPosition cX11_errorPosition 1 (some .int) 0 0 (fun _ => [.ref p0]) [(p0, 10)] S (f_X11_errorPosition S p0) oI (fun _ => S) := by
  refine Ct_of RX11 rfl (by decide) (fun _ => Nat.le_of_ble_eq_true rfl) 0 (vs := fun _ => [some (.ref p0)]) (fun _ => rfl) (fun C X E hr ht => ?_)
  have t0_ : tT C p0 10 := ht (p0, 10) (by simp)
  show Jd C 1 (QJ C oI (fun _ => S)) S 0 [some (.ref p0)] [] (f_X11_errorPosition S p0)
  unfold f_X11_errorPosition
  refine s_run X ok_X11_errorPosition 0 1 (pc' := 1) (vs' := [some (.ref p0)]) (st' := [.ref p0]) rfl ?_
  refine s_getI X fl_X11_65 t0_ (dk okd_X11_errorPosition 0 rfl) (fun v1 => ?_)
  exact s_iret X hr (dk okd_X11_errorPosition 1 rfl) rfl rfl
def tab_X11_count : List En := [(0, 4, 1, 0), (32, 8, 0, 0), (43, 8, 0, 0), (54, 8, 0, 0), (65, 8, 0, 0), (73, 0, 0, (-1))]
theorem ok_X11_count : tab_X11_count.all (okE cX11_count) = true := by decide +kernel
def ed_X11_count : List (Nat × Instr × Nat) := [(1, .tableswitch 72 0 3 #[31, 42, 53, 64], 31), (33, .getfield 41, 3), (36, .getfield 121, 3), (39, .getfield 125, 3), (42, .ireturn, 1), (44, .getfield 41, 3), (47, .getfield 85, 3), (50, .getfield 130, 3), (53, .ireturn, 1), (55, .getfield 41, 3), (58, .getfield 133, 3), (61, .getfield 137, 3), (64, .ireturn, 1), (66, .getfield 54, 3), (69, .invokevirtual 103, 3), (72, .ireturn, 1), (74, .ireturn, 1)]
theorem okd_X11_count : ed_X11_count.all (okD cX11_count) = true := by decide +kernel
def f_X11_count (S : St) (p0 : Nat) (p1 : Int32) : Option (Int32) := if p1 = 0 then (lt (gR S p0 5) fun (a1 : Nat) => lt (gR S a1 0) fun (a3 : Nat) => lt (gI S a3 4) fun (v5 : Int32) => some v5) else (if p1 = 1 then (lt (gR S p0 5) fun (a6 : Nat) => lt (gR S a6 3) fun (a8 : Nat) => lt (gI S a8 8) fun (v10 : Int32) => some v10) else (if p1 = 2 then (lt (gR S p0 5) fun (a11 : Nat) => lt (gR S a11 2) fun (a13 : Nat) => lt (gI S a13 4) fun (v15 : Int32) => some v15) else (if p1 = 3 then (lt (gR S p0 7) fun (a16 : Nat) => cl (f_X5_left S a16) fun (v18 : Int32) => some v18) else (some (-1)))))
set_option maxHeartbeats 4000000 in
set_option maxRecDepth 100000 in
theorem c_X11_count (S : St) (p0 : Nat) (p1 : Int32) : Ct yX11_count cX11_count 2 (some .int) 1 20 (fun _ => [.ref p0, .int p1]) [(p0, 10)] S (f_X11_count S p0 p1) oI (fun _ => S) := by
  refine Ct_of RX11 rfl (by decide) (fun _ => Nat.le_of_ble_eq_true rfl) 0 (vs := fun _ => [some (.ref p0), some (.int p1)]) (fun _ => rfl) (fun C X E hr ht => ?_)
  have t0_ : tT C p0 10 := ht (p0, 10) (by simp)
  show Jd C 2 (QJ C oI (fun _ => S)) S 0 [some (.ref p0), some (.int p1)] [] (f_X11_count S p0 p1)
  unfold f_X11_count
  refine s_run X ok_X11_count 0 1 (pc' := 1) (vs' := [some (.ref p0), some (.int p1)]) (st' := [.int p1]) rfl ?_
  refine s_tabc (c := 0) (tgt := 32) X (dk okd_X11_count 0 rfl) (by decide) (by decide) rfl (by decide) ?_ (fun n0 => ?_)
  · refine s_run X ok_X11_count 1 1 (pc' := 33) (vs' := [some (.ref p0), some (.int p1)]) (st' := [.ref p0]) rfl ?_
    refine s_getR X fl_X11_41 t0_ (dk okd_X11_count 1 rfl) (fun a1 (t2 : tT C a1 1) => ?_)
    refine s_getR X fl_X11_121 t2 (dk okd_X11_count 2 rfl) (fun a3 (t4 : tT C a3 7) => ?_)
    refine s_getI X fl_X11_125 t4 (dk okd_X11_count 3 rfl) (fun v5 => ?_)
    exact s_iret X hr (dk okd_X11_count 4 rfl) rfl rfl
  refine s_tabc (c := 1) (tgt := 43) X (dk okd_X11_count 0 rfl) (by decide) (by decide) rfl (by decide) ?_ (fun n1 => ?_)
  · refine s_run X ok_X11_count 2 1 (pc' := 44) (vs' := [some (.ref p0), some (.int p1)]) (st' := [.ref p0]) rfl ?_
    refine s_getR X fl_X11_41 t0_ (dk okd_X11_count 5 rfl) (fun a6 (t7 : tT C a6 1) => ?_)
    refine s_getR X fl_X11_85 t7 (dk okd_X11_count 6 rfl) (fun a8 (t9 : tT C a8 2) => ?_)
    refine s_getI X fl_X11_130 t9 (dk okd_X11_count 7 rfl) (fun v10 => ?_)
    exact s_iret X hr (dk okd_X11_count 8 rfl) rfl rfl
  refine s_tabc (c := 2) (tgt := 54) X (dk okd_X11_count 0 rfl) (by decide) (by decide) rfl (by decide) ?_ (fun n2 => ?_)
  · refine s_run X ok_X11_count 3 1 (pc' := 55) (vs' := [some (.ref p0), some (.int p1)]) (st' := [.ref p0]) rfl ?_
    refine s_getR X fl_X11_41 t0_ (dk okd_X11_count 9 rfl) (fun a11 (t12 : tT C a11 1) => ?_)
    refine s_getR X fl_X11_133 t12 (dk okd_X11_count 10 rfl) (fun a13 (t14 : tT C a13 6) => ?_)
    refine s_getI X fl_X11_137 t14 (dk okd_X11_count 11 rfl) (fun v15 => ?_)
    exact s_iret X hr (dk okd_X11_count 12 rfl) rfl rfl
  refine s_tabc (c := 3) (tgt := 65) X (dk okd_X11_count 0 rfl) (by decide) (by decide) rfl (by decide) ?_ (fun n3 => ?_)
  · refine s_run X ok_X11_count 4 1 (pc' := 66) (vs' := [some (.ref p0), some (.int p1)]) (st' := [.ref p0]) rfl ?_
    refine s_getR X fl_X11_54 t0_ (dk okd_X11_count 13 rfl) (fun a16 (t17 : tT C a16 5) => ?_)
    refine s_callV (b := a16) (As := []) (rest := []) X E mv_X11_103 (c_X5_left S a16) rfl (ta1 t17) rfl (by decide) t17 rfl rfl (Nat.le_of_ble_eq_true rfl) (Nat.le_of_ble_eq_true rfl) (Nat.le_of_ble_eq_true rfl) (dk okd_X11_count 14 rfl) (st' := fun v18 => [.int v18]) (fun _ => rfl) (fun v18 => ?_)
    exact s_iret X hr (dk okd_X11_count 15 rfl) rfl rfl
  refine s_tabd (tgt := 73) X (dk okd_X11_count 0 rfl) (tabout (n := 4) (by decide) (fun j hj => match j, hj with | 0, _ => n0 | 1, _ => n1 | 2, _ => n2 | 3, _ => n3)) (by decide) ?_
  refine s_run X ok_X11_count 5 1 (pc' := 74) (vs' := [some (.ref p0), some (.int p1)]) (st' := [.int (-1)]) rfl ?_
  exact s_iret X hr (dk okd_X11_count 16 rfl) rfl rfl
def tab_X11_month : List En := [(0, 8, 0, 0)]
theorem ok_X11_month : tab_X11_month.all (okE cX11_month) = true := by decide +kernel
def ed_X11_month : List (Nat × Instr × Nat) := [(1, .getfield 41, 3), (4, .getfield 140, 3), (7, .getfield 144, 3), (10, .ireturn, 1)]
theorem okd_X11_month : ed_X11_month.all (okD cX11_month) = true := by decide +kernel
def f_X11_month (S : St) (p0 : Nat) : Option (Int32) := lt (gR S p0 5) fun (a1 : Nat) => lt (gR S a1 5) fun (a3 : Nat) => lt (gI S a3 6) fun (v5 : Int32) => some v5
set_option maxHeartbeats 4000000 in
set_option maxRecDepth 100000 in
theorem c_X11_month (S : St) (p0 : Nat) : Ct yX11_month cX11_month 1 (some .int) 0 0 (fun _ => [.ref p0]) [(p0, 10)] S (f_X11_month S p0) oI (fun _ => S) := by
  refine Ct_of RX11 rfl (by decide) (fun _ => Nat.le_of_ble_eq_true rfl) 0 (vs := fun _ => [some (.ref p0)]) (fun _ => rfl) (fun C X E hr ht => ?_)
  have t0_ : tT C p0 10 := ht (p0, 10) (by simp)
  show Jd C 1 (QJ C oI (fun _ => S)) S 0 [some (.ref p0)] [] (f_X11_month S p0)
  unfold f_X11_month
  refine s_run X ok_X11_month 0 1 (pc' := 1) (vs' := [some (.ref p0)]) (st' := [.ref p0]) rfl ?_
  refine s_getR X fl_X11_41 t0_ (dk okd_X11_month 0 rfl) (fun a1 (t2 : tT C a1 1) => ?_)
  refine s_getR X fl_X11_140 t2 (dk okd_X11_month 1 rfl) (fun a3 (t4 : tT C a3 0) => ?_)
  refine s_getI X fl_X11_144 t4 (dk okd_X11_month 2 rfl) (fun v5 => ?_)
  exact s_iret X hr (dk okd_X11_month 3 rfl) rfl rfl
def tab_X11_totalOwed : List En := [(0, 8, 0, 0)]
theorem ok_X11_totalOwed : tab_X11_totalOwed.all (okE cX11_totalOwed) = true := by decide +kernel
def ed_X11_totalOwed : List (Nat × Instr × Nat) := [(1, .getfield 41, 3), (4, .getfield 85, 3), (7, .invokevirtual 300, 3), (10, .lreturn, 1)]
theorem okd_X11_totalOwed : ed_X11_totalOwed.all (okD cX11_totalOwed) = true := by decide +kernel
def f_X11_totalOwed (S : St) (p0 : Nat) : Option (Int64) := lt (gR S p0 5) fun (a1 : Nat) => lt (gR S a1 3) fun (a3 : Nat) => cl (f_X2_owedTogether S a3) fun (v5 : Int64) => some v5
set_option maxHeartbeats 4000000 in
set_option maxRecDepth 100000 in
theorem c_X11_totalOwed (S : St) (p0 : Nat) : Ct yX11_totalOwed cX11_totalOwed 1 (some .long) 3 67 (fun _ => [.ref p0]) [(p0, 10)] S (f_X11_totalOwed S p0) oL (fun _ => S) := by
  refine Ct_of RX11 rfl (by decide) (fun _ => Nat.le_of_ble_eq_true rfl) 0 (vs := fun _ => [some (.ref p0)]) (fun _ => rfl) (fun C X E hr ht => ?_)
  have t0_ : tT C p0 10 := ht (p0, 10) (by simp)
  show Jd C 1 (QJ C oL (fun _ => S)) S 0 [some (.ref p0)] [] (f_X11_totalOwed S p0)
  unfold f_X11_totalOwed
  refine s_run X ok_X11_totalOwed 0 1 (pc' := 1) (vs' := [some (.ref p0)]) (st' := [.ref p0]) rfl ?_
  refine s_getR X fl_X11_41 t0_ (dk okd_X11_totalOwed 0 rfl) (fun a1 (t2 : tT C a1 1) => ?_)
  refine s_getR X fl_X11_85 t2 (dk okd_X11_totalOwed 1 rfl) (fun a3 (t4 : tT C a3 2) => ?_)
  refine s_callV (b := a3) (As := []) (rest := []) X E mv_X11_300 (c_X2_owedTogether S a3) rfl (ta1 t4) rfl (by decide) t4 rfl rfl (Nat.le_of_ble_eq_true rfl) (Nat.le_of_ble_eq_true rfl) (Nat.le_of_ble_eq_true rfl) (dk okd_X11_totalOwed 2 rfl) (st' := fun v5 => [.long v5]) (fun _ => rfl) (fun v5 => ?_)
  exact s_lret X hr (dk okd_X11_totalOwed 3 rfl) rfl rfl
def tab_X11_fundBalance : List En := [(0, 8, 0, 0)]
theorem ok_X11_fundBalance : tab_X11_fundBalance.all (okE cX11_fundBalance) = true := by decide +kernel
def ed_X11_fundBalance : List (Nat × Instr × Nat) := [(1, .getfield 41, 3), (4, .getfield 140, 3), (7, .invokevirtual 324, 3), (10, .lreturn, 1)]
theorem okd_X11_fundBalance : ed_X11_fundBalance.all (okD cX11_fundBalance) = true := by decide +kernel
def f_X11_fundBalance (S : St) (p0 : Nat) : Option (Int64) := lt (gR S p0 5) fun (a1 : Nat) => lt (gR S a1 5) fun (a3 : Nat) => cl (f_X0_fundLeft S a3) fun (v5 : Int64) => some v5
set_option maxHeartbeats 4000000 in
set_option maxRecDepth 100000 in
theorem c_X11_fundBalance (S : St) (p0 : Nat) : Ct yX11_fundBalance cX11_fundBalance 1 (some .long) 2 43 (fun _ => [.ref p0]) [(p0, 10)] S (f_X11_fundBalance S p0) oL (fun _ => S) := by
  refine Ct_of RX11 rfl (by decide) (fun _ => Nat.le_of_ble_eq_true rfl) 0 (vs := fun _ => [some (.ref p0)]) (fun _ => rfl) (fun C X E hr ht => ?_)
  have t0_ : tT C p0 10 := ht (p0, 10) (by simp)
  show Jd C 1 (QJ C oL (fun _ => S)) S 0 [some (.ref p0)] [] (f_X11_fundBalance S p0)
  unfold f_X11_fundBalance
  refine s_run X ok_X11_fundBalance 0 1 (pc' := 1) (vs' := [some (.ref p0)]) (st' := [.ref p0]) rfl ?_
  refine s_getR X fl_X11_41 t0_ (dk okd_X11_fundBalance 0 rfl) (fun a1 (t2 : tT C a1 1) => ?_)
  refine s_getR X fl_X11_140 t2 (dk okd_X11_fundBalance 1 rfl) (fun a3 (t4 : tT C a3 0) => ?_)
  refine s_callV (b := a3) (As := []) (rest := []) X E mv_X11_324 (c_X0_fundLeft S a3) rfl (ta1 t4) rfl (by decide) t4 rfl rfl (Nat.le_of_ble_eq_true rfl) (Nat.le_of_ble_eq_true rfl) (Nat.le_of_ble_eq_true rfl) (dk okd_X11_fundBalance 2 rfl) (st' := fun v5 => [.long v5]) (fun _ => rfl) (fun v5 => ?_)
  exact s_lret X hr (dk okd_X11_fundBalance 3 rfl) rfl rfl
def tab_X11_formattedByte : List En := [(0, 4, 1, 0), (4, 4, 1, 0), (5, 8, 0, 0), (15, 0, 0, (-1)), (16, 41, 28, 0), (19, 8, 0, 0), (26, 4, 1, 0)]
theorem ok_X11_formattedByte : tab_X11_formattedByte.all (okE cX11_formattedByte) = true := by decide +kernel
def ed_X11_formattedByte : List (Nat × Instr × Nat) := [(1, .ifCond .lt 14, 3), (6, .getfield 19, 3), (9, .getfield 392, 3), (12, .if_icmp .lt 7, 3), (20, .getfield 19, 3), (23, .getfield 393, 3), (27, .baload, 1), (28, .ireturn, 1)]
theorem okd_X11_formattedByte : ed_X11_formattedByte.all (okD cX11_formattedByte) = true := by decide +kernel
def f_X11_formattedByte (S : St) (p0 : Nat) (p1 : Int32) : Option (Int32) := jn (κ := Option (Int32)) (some (-1)) fun k1 => if p1 < 0 then (k1) else (lt (gR S p0 1) fun (a3 : Nat) => lt (gI S a3 1) fun (v5 : Int32) => if p1 < v5 then (lt (gR S p0 1) fun (a6 : Nat) => lt (gR S a6 0) fun (a8 : Nat) => ldI S a8 p1 fun (v10 : Int32) => some v10) else (k1))
set_option maxHeartbeats 4000000 in
set_option maxRecDepth 100000 in
theorem c_X11_formattedByte (S : St) (p0 : Nat) (p1 : Int32) : Ct yX11_formattedByte cX11_formattedByte 2 (some .int) 0 0 (fun _ => [.ref p0, .int p1]) [(p0, 10)] S (f_X11_formattedByte S p0 p1) oI (fun _ => S) := by
  refine Ct_of RX11 rfl (by decide) (fun _ => Nat.le_of_ble_eq_true rfl) 0 (vs := fun _ => [some (.ref p0), some (.int p1)]) (fun _ => rfl) (fun C X E hr ht => ?_)
  have t0_ : tT C p0 10 := ht (p0, 10) (by simp)
  show Jd C 2 (QJ C oI (fun _ => S)) S 0 [some (.ref p0), some (.int p1)] [] (f_X11_formattedByte S p0 p1)
  unfold f_X11_formattedByte
  refine s_run X ok_X11_formattedByte 0 1 (pc' := 1) (vs' := [some (.ref p0), some (.int p1)]) (st' := [.int p1]) rfl ?_
  refine s_jn (κ := Option (Int32)) (fun k1 => Jd C 2 (QJ C oI (fun _ => S)) S 15 [none, none] [] k1) ?_ (fun k1 h2 => ?_)
  · refine s_run X ok_X11_formattedByte 3 2 (pc' := 28) (vs' := [none, none]) (st' := [.int (-1)]) rfl ?_
    exact s_iret X hr (dk okd_X11_formattedByte 7 rfl) rfl rfl
  · refine s_if_lt (tgt := 15) X (dk okd_X11_formattedByte 0 rfl) (by decide) ?_ ?_
    · exact s_less [false, false] rfl (h2)
    · refine s_run X ok_X11_formattedByte 1 2 (pc' := 6) (vs' := [some (.ref p0), some (.int p1)]) (st' := [.ref p0, .int p1]) rfl ?_
      refine s_getR X fl_X11_19 t0_ (dk okd_X11_formattedByte 1 rfl) (fun a3 (t4 : tT C a3 4) => ?_)
      refine s_getI X fl_X11_392 t4 (dk okd_X11_formattedByte 2 rfl) (fun v5 => ?_)
      refine s_icmp_lt (tgt := 19) X (dk okd_X11_formattedByte 3 rfl) (by decide) ?_ ?_
      · refine s_run X ok_X11_formattedByte 5 1 (pc' := 20) (vs' := [some (.ref p0), some (.int p1)]) (st' := [.ref p0]) rfl ?_
        refine s_getR X fl_X11_19 t0_ (dk okd_X11_formattedByte 4 rfl) (fun a6 (t7 : tT C a6 4) => ?_)
        refine s_getR X fl_X11_393 t7 (dk okd_X11_formattedByte 5 rfl) (fun a8 (t9 : tT C a8 12) => ?_)
        refine s_run X ok_X11_formattedByte 6 1 (pc' := 27) (vs' := [some (.ref p0), some (.int p1)]) (st' := [.int p1, .ref a8]) rfl ?_
        refine s_bald X t9 (dk okd_X11_formattedByte 6 rfl) (fun v10 => ?_)
        exact s_iret X hr (dk okd_X11_formattedByte 7 rfl) rfl rfl
      · exact s_less [false, false] rfl (h2)
def tab_X11_finishReading : List En := [(0, 8, 0, 0), (1, 8, 0, 0), (11, 8, 0, 0), (12, 8, 0, 0), (22, 8, 0, 0), (26, 0, 0, 0)]
theorem ok_X11_finishReading : tab_X11_finishReading.all (okE cX11_finishReading) = true := by decide +kernel
def ed_X11_finishReading : List (Nat × Instr × Nat) := [(2, .getfield 12, 3), (5, .getfield 394, 3), (8, .putfield 61, 3), (13, .getfield 12, 3), (16, .getfield 397, 3), (19, .putfield 65, 3), (23, .getfield 12, 3), (27, .putfield 68, 3), (30, .return_, 1)]
theorem okd_X11_finishReading : ed_X11_finishReading.all (okD cX11_finishReading) = true := by decide +kernel
def f_X11_finishReading (S : St) (p0 : Nat) : Option (St) := lt (gR S p0 0) fun (a1 : Nat) => lt (gI S a1 5) fun (v3 : Int32) => lt (uI S p0 9 v3) fun (S4 : St) => lt (gR S4 p0 0) fun (a5 : Nat) => lt (gI S4 a5 6) fun (v7 : Int32) => lt (uI S4 p0 10 v7) fun (S8 : St) => lt (gR S8 p0 0) fun (a9 : Nat) => lt (uI S8 a9 1 0) fun (S11 : St) => some S11
set_option maxHeartbeats 4000000 in
set_option maxRecDepth 100000 in
theorem c_X11_finishReading (S : St) (p0 : Nat) : Ct yX11_finishReading cX11_finishReading 1 none 0 0 (fun _ => [.ref p0]) [(p0, 10)] S (f_X11_finishReading S p0) oV sV := by
  refine Ct_of RX11 rfl (by decide) (fun _ => Nat.le_of_ble_eq_true rfl) 0 (vs := fun _ => [some (.ref p0)]) (fun _ => rfl) (fun C X E hr ht => ?_)
  have t0_ : tT C p0 10 := ht (p0, 10) (by simp)
  show Jd C 1 (QJ C oV sV) S 0 [some (.ref p0)] [] (f_X11_finishReading S p0)
  unfold f_X11_finishReading
  refine s_run X ok_X11_finishReading 0 2 (pc' := 2) (vs' := [some (.ref p0)]) (st' := [.ref p0, .ref p0]) rfl ?_
  refine s_getR X fl_X11_12 t0_ (dk okd_X11_finishReading 0 rfl) (fun a1 (t2 : tT C a1 8) => ?_)
  refine s_getI X fl_X11_394 t2 (dk okd_X11_finishReading 1 rfl) (fun v3 => ?_)
  refine s_putI X fp_X11_61 t0_ (dk okd_X11_finishReading 2 rfl) (fun S4 => ?_)
  refine s_run X ok_X11_finishReading 2 2 (pc' := 13) (vs' := [some (.ref p0)]) (st' := [.ref p0, .ref p0]) rfl ?_
  refine s_getR X fl_X11_12 t0_ (dk okd_X11_finishReading 3 rfl) (fun a5 (t6 : tT C a5 8) => ?_)
  refine s_getI X fl_X11_397 t6 (dk okd_X11_finishReading 4 rfl) (fun v7 => ?_)
  refine s_putI X fp_X11_65 t0_ (dk okd_X11_finishReading 5 rfl) (fun S8 => ?_)
  refine s_run X ok_X11_finishReading 4 1 (pc' := 23) (vs' := [some (.ref p0)]) (st' := [.ref p0]) rfl ?_
  refine s_getR X fl_X11_12 t0_ (dk okd_X11_finishReading 6 rfl) (fun a9 (t10 : tT C a9 8) => ?_)
  refine s_run X ok_X11_finishReading 5 1 (pc' := 27) (vs' := [some (.ref p0)]) (st' := [.int 0, .ref a9]) rfl ?_
  refine s_putI X fp_X11_68 t10 (dk okd_X11_finishReading 7 rfl) (fun S11 => ?_)
  exact s_vret X hr (dk okd_X11_finishReading 8 rfl) rfl rfl
def tab_X11_requireFranchisee : List En := [(0, 8, 0, 0), (7, 4, 1, 0), (17, 36, 0, 0)]
theorem ok_X11_requireFranchisee : tab_X11_requireFranchisee.all (okE cX11_requireFranchisee) = true := by decide +kernel
def ed_X11_requireFranchisee : List (Nat × Instr × Nat) := [(1, .getfield 41, 3), (4, .getfield 85, 3), (8, .invokevirtual 400, 3), (11, .ifCond .ne 14, 3), (14, .new 403, 3), (18, .ldc_w 405, 3), (21, .invokespecial 407, 3), (24, .athrow, 1), (25, .return_, 1)]
theorem okd_X11_requireFranchisee : ed_X11_requireFranchisee.all (okD cX11_requireFranchisee) = true := by decide +kernel
def f_X11_requireFranchisee (S : St) (p0 : Nat) (p1 : Int32) : Option ((Unit) ⊕ Nat) := lt (gR S p0 5) fun (a1 : Nat) => lt (gR S a1 3) fun (a3 : Nat) => cl (f_X2_has S a3 p1) fun (v5 : Int32) => if v5 = 0 then (some (.inr 1)) else (some (.inl ()))
set_option maxHeartbeats 4000000 in
set_option maxRecDepth 100000 in
theorem c_X11_requireFranchisee (S : St) (p0 : Nat) (p1 : Int32) : CtX yX11_requireFranchisee cX11_requireFranchisee 2 none 6 90 (fun _ => [.ref p0, .int p1]) [(p0, 10)] S (f_X11_requireFranchisee S p0 p1) oU (fun _ => S) := by
  refine CtX_of RX11 rfl (by decide) (fun _ => Nat.le_of_ble_eq_true rfl) 0 (vs := fun _ => [some (.ref p0), some (.int p1)]) (fun _ => rfl) (fun C X E hr tx ht => ?_)
  have t0_ : tT C p0 10 := ht (p0, 10) (by simp)
  show Jd C 2 (QX C oU (fun _ => S) S) S 0 [some (.ref p0), some (.int p1)] [] (f_X11_requireFranchisee S p0 p1)
  unfold f_X11_requireFranchisee
  refine s_run X ok_X11_requireFranchisee 0 1 (pc' := 1) (vs' := [some (.ref p0), some (.int p1)]) (st' := [.ref p0]) rfl ?_
  refine s_getR X fl_X11_41 t0_ (dk okd_X11_requireFranchisee 0 rfl) (fun a1 (t2 : tT C a1 1) => ?_)
  refine s_getR X fl_X11_85 t2 (dk okd_X11_requireFranchisee 1 rfl) (fun a3 (t4 : tT C a3 2) => ?_)
  refine s_run X ok_X11_requireFranchisee 1 1 (pc' := 8) (vs' := [some (.ref p0), some (.int p1)]) (st' := [.int p1, .ref a3]) rfl ?_
  refine s_callV (b := a3) (As := [.int p1]) (rest := []) X E mv_X11_400 (c_X2_has S a3 p1) rfl (ta1 t4) rfl (by decide) t4 rfl rfl (Nat.le_of_ble_eq_true rfl) (Nat.le_of_ble_eq_true rfl) (Nat.le_of_ble_eq_true rfl) (dk okd_X11_requireFranchisee 2 rfl) (st' := fun v5 => [.int v5]) (fun _ => rfl) (fun v5 => ?_)
  refine s_if_ne (tgt := 25) X (dk okd_X11_requireFranchisee 3 rfl) (by decide) ?_ ?_
  · exact s_vretX X hr (dk okd_X11_requireFranchisee 8 rfl) rfl rfl
  · exact s_throwW X E tx xp_X11_403_405 (by decide) (Nat.le_of_ble_eq_true rfl) (dk okd_X11_requireFranchisee 4 rfl) (dkp ok_X11_requireFranchisee 2 (q := (17, 36, 0, 0)) rfl) (dk okd_X11_requireFranchisee 5 rfl) (dk okd_X11_requireFranchisee 6 rfl) (dk okd_X11_requireFranchisee 7 rfl)
def tab_X11_requireOutlet : List En := [(0, 8, 0, 0), (7, 4, 1, 0), (17, 36, 0, 0)]
theorem ok_X11_requireOutlet : tab_X11_requireOutlet.all (okE cX11_requireOutlet) = true := by decide +kernel
def ed_X11_requireOutlet : List (Nat × Instr × Nat) := [(1, .getfield 41, 3), (4, .getfield 133, 3), (8, .invokevirtual 410, 3), (11, .ifCond .ne 14, 3), (14, .new 403, 3), (18, .ldc_w 411, 3), (21, .invokespecial 407, 3), (24, .athrow, 1), (25, .return_, 1)]
theorem okd_X11_requireOutlet : ed_X11_requireOutlet.all (okD cX11_requireOutlet) = true := by decide +kernel
def f_X11_requireOutlet (S : St) (p0 : Nat) (p1 : Int32) : Option ((Unit) ⊕ Nat) := lt (gR S p0 5) fun (a1 : Nat) => lt (gR S a1 2) fun (a3 : Nat) => cl (f_X6_has S a3 p1) fun (v5 : Int32) => if v5 = 0 then (some (.inr 1)) else (some (.inl ()))
set_option maxHeartbeats 4000000 in
set_option maxRecDepth 100000 in
theorem c_X11_requireOutlet (S : St) (p0 : Nat) (p1 : Int32) : CtX yX11_requireOutlet cX11_requireOutlet 2 none 6 90 (fun _ => [.ref p0, .int p1]) [(p0, 10)] S (f_X11_requireOutlet S p0 p1) oU (fun _ => S) := by
  refine CtX_of RX11 rfl (by decide) (fun _ => Nat.le_of_ble_eq_true rfl) 0 (vs := fun _ => [some (.ref p0), some (.int p1)]) (fun _ => rfl) (fun C X E hr tx ht => ?_)
  have t0_ : tT C p0 10 := ht (p0, 10) (by simp)
  show Jd C 2 (QX C oU (fun _ => S) S) S 0 [some (.ref p0), some (.int p1)] [] (f_X11_requireOutlet S p0 p1)
  unfold f_X11_requireOutlet
  refine s_run X ok_X11_requireOutlet 0 1 (pc' := 1) (vs' := [some (.ref p0), some (.int p1)]) (st' := [.ref p0]) rfl ?_
  refine s_getR X fl_X11_41 t0_ (dk okd_X11_requireOutlet 0 rfl) (fun a1 (t2 : tT C a1 1) => ?_)
  refine s_getR X fl_X11_133 t2 (dk okd_X11_requireOutlet 1 rfl) (fun a3 (t4 : tT C a3 6) => ?_)
  refine s_run X ok_X11_requireOutlet 1 1 (pc' := 8) (vs' := [some (.ref p0), some (.int p1)]) (st' := [.int p1, .ref a3]) rfl ?_
  refine s_callV (b := a3) (As := [.int p1]) (rest := []) X E mv_X11_410 (c_X6_has S a3 p1) rfl (ta1 t4) rfl (by decide) t4 rfl rfl (Nat.le_of_ble_eq_true rfl) (Nat.le_of_ble_eq_true rfl) (Nat.le_of_ble_eq_true rfl) (dk okd_X11_requireOutlet 2 rfl) (st' := fun v5 => [.int v5]) (fun _ => rfl) (fun v5 => ?_)
  refine s_if_ne (tgt := 25) X (dk okd_X11_requireOutlet 3 rfl) (by decide) ?_ ?_
  · exact s_vretX X hr (dk okd_X11_requireOutlet 8 rfl) rfl rfl
  · exact s_throwW X E tx xp_X11_403_411 (by decide) (Nat.le_of_ble_eq_true rfl) (dk okd_X11_requireOutlet 4 rfl) (dkp ok_X11_requireOutlet 2 (q := (17, 36, 0, 0)) rfl) (dk okd_X11_requireOutlet 5 rfl) (dk okd_X11_requireOutlet 6 rfl) (dk okd_X11_requireOutlet 7 rfl)
def tab_X11_requirePlan : List En := [(0, 4, 1, 0), (4, 4, 1, 0), (5, 8, 0, 0), (21, 36, 0, 0)]
theorem ok_X11_requirePlan : tab_X11_requirePlan.all (okE cX11_requirePlan) = true := by decide +kernel
def ed_X11_requirePlan : List (Nat × Instr × Nat) := [(1, .ifCond .lt 17, 3), (6, .getfield 41, 3), (9, .getfield 121, 3), (12, .getfield 125, 3), (15, .if_icmp .lt 14, 3), (18, .new 403, 3), (22, .ldc_w 413, 3), (25, .invokespecial 407, 3), (28, .athrow, 1), (29, .return_, 1)]
theorem okd_X11_requirePlan : ed_X11_requirePlan.all (okD cX11_requirePlan) = true := by decide +kernel
def f_X11_requirePlan (S : St) (p0 : Nat) (p1 : Int32) : Option ((Unit) ⊕ Nat) := jn (κ := Option ((Unit) ⊕ Nat)) (some (.inr 1)) fun k1 => if p1 < 0 then (k1) else (lt (gR S p0 5) fun (a3 : Nat) => lt (gR S a3 0) fun (a5 : Nat) => lt (gI S a5 4) fun (v7 : Int32) => if p1 < v7 then (some (.inl ())) else (k1))
set_option maxHeartbeats 4000000 in
set_option maxRecDepth 100000 in
theorem c_X11_requirePlan (S : St) (p0 : Nat) (p1 : Int32) : CtX yX11_requirePlan cX11_requirePlan 2 none 6 90 (fun _ => [.ref p0, .int p1]) [(p0, 10)] S (f_X11_requirePlan S p0 p1) oU (fun _ => S) := by
  refine CtX_of RX11 rfl (by decide) (fun _ => Nat.le_of_ble_eq_true rfl) 0 (vs := fun _ => [some (.ref p0), some (.int p1)]) (fun _ => rfl) (fun C X E hr tx ht => ?_)
  have t0_ : tT C p0 10 := ht (p0, 10) (by simp)
  show Jd C 2 (QX C oU (fun _ => S) S) S 0 [some (.ref p0), some (.int p1)] [] (f_X11_requirePlan S p0 p1)
  unfold f_X11_requirePlan
  refine s_run X ok_X11_requirePlan 0 1 (pc' := 1) (vs' := [some (.ref p0), some (.int p1)]) (st' := [.int p1]) rfl ?_
  refine s_jn (κ := Option ((Unit) ⊕ Nat)) (fun k1 => Jd C 2 (QX C oU (fun _ => S) S) S 18 [none, none] [] k1) ?_ (fun k1 h2 => ?_)
  · exact s_throwW X E tx xp_X11_403_413 (by decide) (Nat.le_of_ble_eq_true rfl) (dk okd_X11_requirePlan 5 rfl) (dkp ok_X11_requirePlan 3 (q := (21, 36, 0, 0)) rfl) (dk okd_X11_requirePlan 6 rfl) (dk okd_X11_requirePlan 7 rfl) (dk okd_X11_requirePlan 8 rfl)
  · refine s_if_lt (tgt := 18) X (dk okd_X11_requirePlan 0 rfl) (by decide) ?_ ?_
    · exact s_less [false, false] rfl (h2)
    · refine s_run X ok_X11_requirePlan 1 2 (pc' := 6) (vs' := [some (.ref p0), some (.int p1)]) (st' := [.ref p0, .int p1]) rfl ?_
      refine s_getR X fl_X11_41 t0_ (dk okd_X11_requirePlan 1 rfl) (fun a3 (t4 : tT C a3 1) => ?_)
      refine s_getR X fl_X11_121 t4 (dk okd_X11_requirePlan 2 rfl) (fun a5 (t6 : tT C a5 7) => ?_)
      refine s_getI X fl_X11_125 t6 (dk okd_X11_requirePlan 3 rfl) (fun v7 => ?_)
      refine s_icmp_lt (tgt := 29) X (dk okd_X11_requirePlan 4 rfl) (by decide) ?_ ?_
      · exact s_vretX X hr (dk okd_X11_requirePlan 9 rfl) rfl rfl
      · exact s_less [false, false] rfl (h2)
def tab_X11_requireClosedMonth : List En := [(0, 4, 1, 0), (4, 4, 1, 0), (5, 8, 0, 0), (21, 36, 0, 0)]
theorem ok_X11_requireClosedMonth : tab_X11_requireClosedMonth.all (okE cX11_requireClosedMonth) = true := by decide +kernel
def ed_X11_requireClosedMonth : List (Nat × Instr × Nat) := [(1, .ifCond .lt 17, 3), (6, .getfield 41, 3), (9, .getfield 140, 3), (12, .getfield 144, 3), (15, .if_icmp .lt 14, 3), (18, .new 415, 3), (22, .ldc_w 417, 3), (25, .invokespecial 419, 3), (28, .athrow, 1), (29, .return_, 1)]
theorem okd_X11_requireClosedMonth : ed_X11_requireClosedMonth.all (okD cX11_requireClosedMonth) = true := by decide +kernel
def f_X11_requireClosedMonth (S : St) (p0 : Nat) (p1 : Int32) : Option ((Unit) ⊕ Nat) := jn (κ := Option ((Unit) ⊕ Nat)) (some (.inr 2)) fun k1 => if p1 < 0 then (k1) else (lt (gR S p0 5) fun (a3 : Nat) => lt (gR S a3 5) fun (a5 : Nat) => lt (gI S a5 6) fun (v7 : Int32) => if p1 < v7 then (some (.inl ())) else (k1))
set_option maxHeartbeats 4000000 in
set_option maxRecDepth 100000 in
theorem c_X11_requireClosedMonth (S : St) (p0 : Nat) (p1 : Int32) : CtX yX11_requireClosedMonth cX11_requireClosedMonth 2 none 6 90 (fun _ => [.ref p0, .int p1]) [(p0, 10)] S (f_X11_requireClosedMonth S p0 p1) oU (fun _ => S) := by
  refine CtX_of RX11 rfl (by decide) (fun _ => Nat.le_of_ble_eq_true rfl) 0 (vs := fun _ => [some (.ref p0), some (.int p1)]) (fun _ => rfl) (fun C X E hr tx ht => ?_)
  have t0_ : tT C p0 10 := ht (p0, 10) (by simp)
  show Jd C 2 (QX C oU (fun _ => S) S) S 0 [some (.ref p0), some (.int p1)] [] (f_X11_requireClosedMonth S p0 p1)
  unfold f_X11_requireClosedMonth
  refine s_run X ok_X11_requireClosedMonth 0 1 (pc' := 1) (vs' := [some (.ref p0), some (.int p1)]) (st' := [.int p1]) rfl ?_
  refine s_jn (κ := Option ((Unit) ⊕ Nat)) (fun k1 => Jd C 2 (QX C oU (fun _ => S) S) S 18 [none, none] [] k1) ?_ (fun k1 h2 => ?_)
  · exact s_throwW X E tx xp_X11_415_417 (by decide) (Nat.le_of_ble_eq_true rfl) (dk okd_X11_requireClosedMonth 5 rfl) (dkp ok_X11_requireClosedMonth 3 (q := (21, 36, 0, 0)) rfl) (dk okd_X11_requireClosedMonth 6 rfl) (dk okd_X11_requireClosedMonth 7 rfl) (dk okd_X11_requireClosedMonth 8 rfl)
  · refine s_if_lt (tgt := 18) X (dk okd_X11_requireClosedMonth 0 rfl) (by decide) ?_ ?_
    · exact s_less [false, false] rfl (h2)
    · refine s_run X ok_X11_requireClosedMonth 1 2 (pc' := 6) (vs' := [some (.ref p0), some (.int p1)]) (st' := [.ref p0, .int p1]) rfl ?_
      refine s_getR X fl_X11_41 t0_ (dk okd_X11_requireClosedMonth 1 rfl) (fun a3 (t4 : tT C a3 1) => ?_)
      refine s_getR X fl_X11_140 t4 (dk okd_X11_requireClosedMonth 2 rfl) (fun a5 (t6 : tT C a5 0) => ?_)
      refine s_getI X fl_X11_144 t6 (dk okd_X11_requireClosedMonth 3 rfl) (fun v7 => ?_)
      refine s_icmp_lt (tgt := 29) X (dk okd_X11_requireClosedMonth 4 rfl) (by decide) ?_ ?_
      · exact s_vretX X hr (dk okd_X11_requireClosedMonth 9 rfl) rfl rfl
      · exact s_less [false, false] rfl (h2)
def tab_X11_requireOpenMonth : List En := [(0, 8, 0, 0), (16, 36, 0, 0)]
theorem ok_X11_requireOpenMonth : tab_X11_requireOpenMonth.all (okE cX11_requireOpenMonth) = true := by decide +kernel
def ed_X11_requireOpenMonth : List (Nat × Instr × Nat) := [(1, .getfield 41, 3), (4, .getfield 140, 3), (7, .invokevirtual 420, 3), (10, .ifCond .ne 14, 3), (13, .new 423, 3), (17, .ldc_w 425, 3), (20, .invokespecial 427, 3), (23, .athrow, 1), (24, .return_, 1)]
theorem okd_X11_requireOpenMonth : ed_X11_requireOpenMonth.all (okD cX11_requireOpenMonth) = true := by decide +kernel
def f_X11_requireOpenMonth (S : St) (p0 : Nat) : Option ((Unit) ⊕ Nat) := lt (gR S p0 5) fun (a1 : Nat) => lt (gR S a1 5) fun (a3 : Nat) => cl (f_X0_hasOpenMonth S a3) fun (v5 : Int32) => if v5 = 0 then (some (.inr 3)) else (some (.inl ()))
set_option maxHeartbeats 4000000 in
set_option maxRecDepth 100000 in
theorem c_X11_requireOpenMonth (S : St) (p0 : Nat) : CtX yX11_requireOpenMonth cX11_requireOpenMonth 1 none 6 90 (fun _ => [.ref p0]) [(p0, 10)] S (f_X11_requireOpenMonth S p0) oU (fun _ => S) := by
  refine CtX_of RX11 rfl (by decide) (fun _ => Nat.le_of_ble_eq_true rfl) 0 (vs := fun _ => [some (.ref p0)]) (fun _ => rfl) (fun C X E hr tx ht => ?_)
  have t0_ : tT C p0 10 := ht (p0, 10) (by simp)
  show Jd C 1 (QX C oU (fun _ => S) S) S 0 [some (.ref p0)] [] (f_X11_requireOpenMonth S p0)
  unfold f_X11_requireOpenMonth
  refine s_run X ok_X11_requireOpenMonth 0 1 (pc' := 1) (vs' := [some (.ref p0)]) (st' := [.ref p0]) rfl ?_
  refine s_getR X fl_X11_41 t0_ (dk okd_X11_requireOpenMonth 0 rfl) (fun a1 (t2 : tT C a1 1) => ?_)
  refine s_getR X fl_X11_140 t2 (dk okd_X11_requireOpenMonth 1 rfl) (fun a3 (t4 : tT C a3 0) => ?_)
  refine s_callV (b := a3) (As := []) (rest := []) X E mv_X11_420 (c_X0_hasOpenMonth S a3) rfl (ta1 t4) rfl (by decide) t4 rfl rfl (Nat.le_of_ble_eq_true rfl) (Nat.le_of_ble_eq_true rfl) (Nat.le_of_ble_eq_true rfl) (dk okd_X11_requireOpenMonth 2 rfl) (st' := fun v5 => [.int v5]) (fun _ => rfl) (fun v5 => ?_)
  refine s_if_ne (tgt := 24) X (dk okd_X11_requireOpenMonth 3 rfl) (by decide) ?_ ?_
  · exact s_vretX X hr (dk okd_X11_requireOpenMonth 8 rfl) rfl rfl
  · exact s_throwW X E tx xp_X11_423_425 (by decide) (Nat.le_of_ble_eq_true rfl) (dk okd_X11_requireOpenMonth 4 rfl) (dkp ok_X11_requireOpenMonth 1 (q := (16, 36, 0, 0)) rfl) (dk okd_X11_requireOpenMonth 5 rfl) (dk okd_X11_requireOpenMonth 6 rfl) (dk okd_X11_requireOpenMonth 7 rfl)
def tab_X11_requireArgument : List En := [(0, 4, 0, 0), (7, 36, 0, 0)]
theorem ok_X11_requireArgument : tab_X11_requireArgument.all (okE cX11_requireArgument) = true := by decide +kernel
def ed_X11_requireArgument : List (Nat × Instr × Nat) := [(1, .ifCond .ne 14, 3), (4, .new 415, 3), (8, .ldc_w 428, 3), (11, .invokespecial 419, 3), (14, .athrow, 1), (15, .return_, 1)]
theorem okd_X11_requireArgument : ed_X11_requireArgument.all (okD cX11_requireArgument) = true := by decide +kernel
def f_X11_requireArgument (S : St) (p0 : Int32) : Option ((Unit) ⊕ Nat) := if p0 = 0 then (some (.inr 2)) else (some (.inl ()))
set_option maxHeartbeats 4000000 in
set_option maxRecDepth 100000 in
theorem c_X11_requireArgument (S : St) (p0 : Int32) : CtX yX11_requireArgument cX11_requireArgument 1 none 6 90 (fun _ => [.int p0]) [] S (f_X11_requireArgument S p0) oU (fun _ => S) := by
  refine CtX_of RX11 rfl (by decide) (fun _ => Nat.le_of_ble_eq_true rfl) 0 (vs := fun _ => [some (.int p0)]) (fun _ => rfl) (fun C X E hr tx ht => ?_)
  show Jd C 1 (QX C oU (fun _ => S) S) S 0 [some (.int p0)] [] (f_X11_requireArgument S p0)
  unfold f_X11_requireArgument
  refine s_run X ok_X11_requireArgument 0 1 (pc' := 1) (vs' := [some (.int p0)]) (st' := [.int p0]) rfl ?_
  refine s_if_ne (tgt := 15) X (dk okd_X11_requireArgument 0 rfl) (by decide) ?_ ?_
  · exact s_vretX X hr (dk okd_X11_requireArgument 5 rfl) rfl rfl
  · exact s_throwW X E tx xp_X11_415_428 (by decide) (Nat.le_of_ble_eq_true rfl) (dk okd_X11_requireArgument 1 rfl) (dkp ok_X11_requireArgument 1 (q := (7, 36, 0, 0)) rfl) (dk okd_X11_requireArgument 2 rfl) (dk okd_X11_requireArgument 3 rfl) (dk okd_X11_requireArgument 4 rfl)
