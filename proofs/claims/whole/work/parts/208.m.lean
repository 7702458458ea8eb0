theorem ci_X5_100 : Cond.constant RX5 100 100000 ∈ TT := TT_4 (i := 12) rfl rfl
theorem ci_X5_107 : Cond.constant RX5 107 999999 ∈ TT := TT_4 (i := 15) rfl rfl
theorem ci_X7_122 : Cond.constant RX7 122 99999 ∈ TT := TT_3 (i := 95) rfl rfl
theorem cl_X4_62 : Cond.constantLong RX4 62 100 ∈ TT := TT_7 (i := 198) rfl rfl
theorem cl_X5_101 : Cond.constantLong RX5 101 100 ∈ TT := TT_4 (i := 13) rfl rfl
theorem cl_X7_79 : Cond.constantLong RX7 79 100 ∈ TT := TT_3 (i := 96) rfl rfl
theorem fl_X1_148 : FL RX1 148 2 2 2 := ⟨RX2, TX2, 9, rfl, by decide, uw_X2, TT_1 (i := 221) rfl rfl, rfl, rfl, by decide⟩
theorem fl_X1_187 : FL RX1 187 0 5 2 := ⟨RX0, TX0, 7, rfl, by decide, uw_X0, TT_2 (i := 65) rfl rfl, rfl, rfl, by decide⟩
theorem fl_X1_190 : FL RX1 190 7 8 0 := ⟨RX8, TX8, 12, rfl, by decide, uw_X8, TT_1 (i := 143) rfl rfl, rfl, rfl, by decide⟩
theorem fl_X11_294 : FL RX11 294 1 6 2 := ⟨RX1, TX1, 7, rfl, by decide, uw_X1, TT_2 (i := 106) rfl rfl, rfl, rfl, by decide⟩
theorem fl_X11_48 : FL RX11 48 10 6 2 := ⟨RX11, TX11, 11, rfl, by decide, uw_X11, TT_2 (i := 190) rfl rfl, rfl, rfl, by decide⟩
theorem fl_X11_58 : FL RX11 58 10 8 2 := ⟨RX11, TX11, 11, rfl, by decide, uw_X11, TT_2 (i := 192) rfl rfl, rfl, rfl, by decide⟩
theorem fl_X5_153 : FL RX5 153 1 3 2 := ⟨RX1, TX1, 7, rfl, by decide, uw_X1, TT_2 (i := 98) rfl rfl, rfl, rfl, by decide⟩
theorem fl_X5_160 : FL RX5 160 1 4 2 := ⟨RX1, TX1, 7, rfl, by decide, uw_X1, TT_2 (i := 100) rfl rfl, rfl, rfl, by decide⟩
theorem fl_X5_24 : FL RX5 24 5 4 2 := ⟨RX5, TX5, 9, rfl, by decide, uw_X5, TT_2 (i := 159) rfl rfl, rfl, rfl, by decide⟩
theorem fl_X5_27 : FL RX5 27 5 5 2 := ⟨RX5, TX5, 9, rfl, by decide, uw_X5, TT_2 (i := 160) rfl rfl, rfl, rfl, by decide⟩
theorem fl_X5_57 : FL RX5 57 8 2 0 := ⟨RX9, TX9, 8, rfl, by decide, uw_X9, TT_1 (i := 48) rfl rfl, rfl, rfl, by decide⟩
theorem fl_X7_112 : FL RX7 112 7 4 0 := ⟨RX8, TX8, 12, rfl, by decide, uw_X8, TT_1 (i := 130) rfl rfl, rfl, rfl, by decide⟩
theorem fl_X7_127 : FL RX7 127 1 3 2 := ⟨RX1, TX1, 7, rfl, by decide, uw_X1, TT_2 (i := 96) rfl rfl, rfl, rfl, by decide⟩
theorem fl_X7_131 : FL RX7 131 2 8 0 := ⟨RX2, TX2, 9, rfl, by decide, uw_X2, TT_2 (i := 0) rfl rfl, rfl, rfl, by decide⟩
theorem fl_X7_140 : FL RX7 140 8 3 0 := ⟨RX9, TX9, 8, rfl, by decide, uw_X9, TT_1 (i := 51) rfl rfl, rfl, rfl, by decide⟩
theorem fl_X7_143 : FL RX7 143 8 4 0 := ⟨RX9, TX9, 8, rfl, by decide, uw_X9, TT_1 (i := 53) rfl rfl, rfl, rfl, by decide⟩
theorem fl_X7_146 : FL RX7 146 8 0 2 := ⟨RX9, TX9, 8, rfl, by decide, uw_X9, TT_1 (i := 43) rfl rfl, rfl, rfl, by decide⟩
theorem fl_X7_154 : FL RX7 154 1 1 2 := ⟨RX1, TX1, 7, rfl, by decide, uw_X1, TT_2 (i := 89) rfl rfl, rfl, rfl, by decide⟩
theorem fl_X7_168 : FL RX7 168 1 2 2 := ⟨RX1, TX1, 7, rfl, by decide, uw_X1, TT_2 (i := 92) rfl rfl, rfl, rfl, by decide⟩
theorem fl_X7_172 : FL RX7 172 6 4 0 := ⟨RX6, TX6, 5, rfl, by decide, uw_X6, TT_1 (i := 199) rfl rfl, rfl, rfl, by decide⟩
theorem fl_X7_21 : FL RX7 21 8 2 0 := ⟨RX9, TX9, 8, rfl, by decide, uw_X9, TT_1 (i := 47) rfl rfl, rfl, rfl, by decide⟩
theorem fl_X7_37 : FL RX7 37 1 0 2 := ⟨RX1, TX1, 7, rfl, by decide, uw_X1, TT_2 (i := 86) rfl rfl, rfl, rfl, by decide⟩
theorem fp_X1_208 : FP RX1 208 0 6 0 := ⟨RX0, TX0, 7, tyX0, tyX0 6, rfl, by decide, uw_X0, TT_2 (i := 69) rfl rfl, rfl, rfl, by decide, tyX0_ok, nmX0, rfl, tyX0_ok 6 (by decide), fun h => rfl, fun h => absurd h (by decide), fun h => absurd h (by decide)⟩
theorem fp_X1_61 : FP RX1 61 6 4 0 := ⟨RX6, TX6, 5, tyX6, tyX6 4, rfl, by decide, uw_X6, TT_1 (i := 197) rfl rfl, rfl, rfl, by decide, tyX6_ok, nmX6, rfl, tyX6_ok 4 (by decide), fun h => rfl, fun h => absurd h (by decide), fun h => absurd h (by decide)⟩
theorem fp_X1_65 : FP RX1 65 2 8 0 := ⟨RX2, TX2, 9, tyX2, tyX2 8, rfl, by decide, uw_X2, TT_1 (i := 238) rfl rfl, rfl, rfl, by decide, tyX2_ok, nmX2, rfl, tyX2_ok 8 (by decide), fun h => rfl, fun h => absurd h (by decide), fun h => absurd h (by decide)⟩
theorem fp_X11_41 : FP RX11 41 10 5 2 := ⟨RX11, TX11, 11, tyX11, tyX11 5, rfl, by decide, uw_X11, TT_2 (i := 189) rfl rfl, rfl, rfl, by decide, tyX11_ok, nmX11, rfl, tyX11_ok 5 (by decide), fun h => absurd h (by decide), fun h => absurd h (by decide), fun h => fun x => ⟨rfl, rfl⟩⟩
theorem fp_X11_48 : FP RX11 48 10 6 2 := ⟨RX11, TX11, 11, tyX11, tyX11 6, rfl, by decide, uw_X11, TT_2 (i := 190) rfl rfl, rfl, rfl, by decide, tyX11_ok, nmX11, rfl, tyX11_ok 6 (by decide), fun h => absurd h (by decide), fun h => absurd h (by decide), fun h => fun x => ⟨rfl, rfl⟩⟩
theorem fp_X11_54 : FP RX11 54 10 7 2 := ⟨RX11, TX11, 11, tyX11, tyX11 7, rfl, by decide, uw_X11, TT_2 (i := 191) rfl rfl, rfl, rfl, by decide, tyX11_ok, nmX11, rfl, tyX11_ok 7 (by decide), fun h => absurd h (by decide), fun h => absurd h (by decide), fun h => fun x => ⟨rfl, rfl⟩⟩
theorem fp_X11_58 : FP RX11 58 10 8 2 := ⟨RX11, TX11, 11, tyX11, tyX11 8, rfl, by decide, uw_X11, TT_2 (i := 192) rfl rfl, rfl, rfl, by decide, tyX11_ok, nmX11, rfl, tyX11_ok 8 (by decide), fun h => absurd h (by decide), fun h => absurd h (by decide), fun h => fun x => ⟨rfl, rfl⟩⟩
theorem fp_X7_101 : FP RX7 101 7 10 0 := ⟨RX8, TX8, 12, tyX8, tyX8 10, rfl, by decide, uw_X8, TT_1 (i := 148) rfl rfl, rfl, rfl, by decide, tyX8_ok, nmX8, rfl, tyX8_ok 10 (by decide), fun h => rfl, fun h => absurd h (by decide), fun h => absurd h (by decide)⟩
theorem fp_X7_105 : FP RX7 105 7 11 0 := ⟨RX8, TX8, 12, tyX8, tyX8 11, rfl, by decide, uw_X8, TT_1 (i := 151) rfl rfl, rfl, rfl, by decide, tyX8_ok, nmX8, rfl, tyX8_ok 11 (by decide), fun h => rfl, fun h => absurd h (by decide), fun h => absurd h (by decide)⟩
theorem fp_X7_74 : FP RX7 74 7 5 0 := ⟨RX8, TX8, 12, tyX8, tyX8 5, rfl, by decide, uw_X8, TT_1 (i := 133) rfl rfl, rfl, rfl, by decide, tyX8_ok, nmX8, rfl, tyX8_ok 5 (by decide), fun h => rfl, fun h => absurd h (by decide), fun h => absurd h (by decide)⟩
theorem fp_X7_81 : FP RX7 81 7 6 1 := ⟨RX8, TX8, 12, tyX8, tyX8 6, rfl, by decide, uw_X8, TT_1 (i := 136) rfl rfl, rfl, rfl, by decide, tyX8_ok, nmX8, rfl, tyX8_ok 6 (by decide), fun h => absurd h (by decide), fun h => rfl, fun h => absurd h (by decide)⟩
theorem fp_X7_87 : FP RX7 87 7 7 0 := ⟨RX8, TX8, 12, tyX8, tyX8 7, rfl, by decide, uw_X8, TT_1 (i := 139) rfl rfl, rfl, rfl, by decide, tyX8_ok, nmX8, rfl, tyX8_ok 7 (by decide), fun h => rfl, fun h => absurd h (by decide), fun h => absurd h (by decide)⟩
theorem fp_X7_92 : FP RX7 92 7 8 0 := ⟨RX8, TX8, 12, tyX8, tyX8 8, rfl, by decide, uw_X8, TT_1 (i := 142) rfl rfl, rfl, rfl, by decide, tyX8_ok, nmX8, rfl, tyX8_ok 8 (by decide), fun h => rfl, fun h => absurd h (by decide), fun h => absurd h (by decide)⟩
theorem fp_X7_97 : FP RX7 97 7 9 1 := ⟨RX8, TX8, 12, tyX8, tyX8 9, rfl, by decide, uw_X8, TT_1 (i := 145) rfl rfl, rfl, rfl, by decide, tyX8_ok, nmX8, rfl, tyX8_ok 9 (by decide), fun h => absurd h (by decide), fun h => rfl, fun h => absurd h (by decide)⟩
theorem mm_X11_111 : Cond.methodLink RX11 111 Lib.Math.min.name ∈ TT := TT_4 (i := 207) rfl rfl
theorem mm_X4_56 : Cond.methodLink RX4 56 Lib.MathLoose.abs_long.x ∈ TT := TT_7 (i := 195) rfl rfl
theorem ms_J0_495 : MS RJ0 495 yJ1_charAt_3b067 cJ1_charAt_3b067 2 (some .char) 2 := ⟨TT_3 (i := 39) rfl rfl, TT_3 (i := 40) rfl rfl, TT_1 (i := 16) rfl rfl, TT_3 (i := 41) rfl rfl, ⟨by decide, by decide, by decide +kernel⟩⟩
theorem ms_X1_142 : MS RX1 142 yJ7_fill_d0a16 cJ7_fill_d0a16 5 none 2 := ⟨TT_5 (i := 31) rfl rfl, TT_2 (i := 147) rfl rfl, TT_1 (i := 11) rfl rfl, TT_2 (i := 148) rfl rfl, ⟨by decide, by decide, by decide +kernel⟩⟩
theorem ms_X11_304 : MS RX11 304 yX11_requireAmount cX11_requireAmount 2 none 1 := ⟨TT_6 (i := 237) rfl rfl, TT_6 (i := 238) rfl rfl, TT_1 (i := 1) rfl rfl, TT_6 (i := 239) rfl rfl, ⟨by decide, by decide, by decide +kernel⟩⟩
theorem ms_X11_75 : MS RX11 75 yX7_read cX7_read 4 (some .int) 2 := ⟨TT_2 (i := 234) rfl rfl, TT_2 (i := 235) rfl rfl, TT_1 (i := 14) rfl rfl, TT_2 (i := 236) rfl rfl, ⟨by decide, by decide, by decide +kernel⟩⟩
theorem ms_X5_64 : MS RX5 64 yX5_kindOfWord cX5_kindOfWord 1 (some .int) 1 := ⟨TT_3 (i := 235) rfl rfl, TT_3 (i := 236) rfl rfl, TT_1 (i := 12) rfl rfl, TT_3 (i := 237) rfl rfl, ⟨by decide, by decide, by decide +kernel⟩⟩
theorem ms_X7_25 : MS RX7 25 yX7_readStatement cX7_readStatement 2 none 2 := ⟨TT_3 (i := 13) rfl rfl, TT_3 (i := 14) rfl rfl, TT_1 (i := 14) rfl rfl, TT_3 (i := 15) rfl rfl, ⟨by decide, by decide, by decide +kernel⟩⟩
theorem ms_X7_43 : MS RX7 43 yX7_readPlan cX7_readPlan 6 none 2 := ⟨TT_3 (i := 69) rfl rfl, TT_3 (i := 70) rfl rfl, TT_1 (i := 14) rfl rfl, TT_3 (i := 71) rfl rfl, ⟨by decide, by decide, by decide +kernel⟩⟩
theorem ms_X7_49 : MS RX7 49 yX7_readFranchisee cX7_readFranchisee 6 none 2 := ⟨TT_3 (i := 99) rfl rfl, TT_3 (i := 100) rfl rfl, TT_1 (i := 14) rfl rfl, TT_3 (i := 101) rfl rfl, ⟨by decide, by decide, by decide +kernel⟩⟩
theorem ms_X7_54 : MS RX7 54 yX7_readArea cX7_readArea 7 none 2 := ⟨TT_3 (i := 137) rfl rfl, TT_3 (i := 138) rfl rfl, TT_1 (i := 14) rfl rfl, TT_3 (i := 139) rfl rfl, ⟨by decide, by decide, by decide +kernel⟩⟩
theorem ms_X7_59 : MS RX7 59 yX7_readOutlet cX7_readOutlet 5 none 2 := ⟨TT_3 (i := 160) rfl rfl, TT_3 (i := 161) rfl rfl, TT_1 (i := 14) rfl rfl, TT_3 (i := 162) rfl rfl, ⟨by decide, by decide, by decide +kernel⟩⟩
theorem ms_X7_62 : MS RX7 62 yX7_readTerm cX7_readTerm 2 none 2 := ⟨TT_3 (i := 185) rfl rfl, TT_3 (i := 186) rfl rfl, TT_1 (i := 14) rfl rfl, TT_3 (i := 187) rfl rfl, ⟨by decide, by decide, by decide +kernel⟩⟩
theorem mv_J0_492 : MV RJ0 492 yJ0_isLatin1_aae02 cJ0_isLatin1_aae02 1 (some .boolean) 0 := ⟨TT_3 (i := 35) rfl rfl, TT_3 (i := 36) rfl rfl, TT_3 (i := 37) rfl rfl, TT_1 (i := 15) rfl rfl, TT_3 (i := 38) rfl rfl, ⟨by decide, by decide, by decide +kernel⟩⟩
theorem mv_X0_58 : MV RX0 58 yX0_ranksBefore cX0_ranksBefore 7 (some .boolean) 2 := ⟨TT_4 (i := 43) rfl rfl, TT_4 (i := 45) rfl rfl, TT_s (i := 7) (by decide +kernel) (by decide +kernel), TT_1 (i := 10) rfl rfl, TT_4 (i := 46) rfl rfl, ⟨by decide, by decide, by decide +kernel⟩⟩
theorem mv_X1_151 : MV RX1 151 yX8_royaltyFor cX8_royaltyFor 11 (some .long) 2 := ⟨TT_5 (i := 32) rfl rfl, TT_5 (i := 33) rfl rfl, TT_5 (i := 34) rfl rfl, TT_1 (i := 6) rfl rfl, TT_5 (i := 35) rfl rfl, ⟨by decide, by decide, by decide +kernel⟩⟩
theorem mv_X1_155 : MV RX1 155 yX8_contributionFor cX8_contributionFor 4 (some .long) 2 := ⟨TT_5 (i := 44) rfl rfl, TT_5 (i := 45) rfl rfl, TT_5 (i := 46) rfl rfl, TT_1 (i := 6) rfl rfl, TT_5 (i := 47) rfl rfl, ⟨by decide, by decide, by decide +kernel⟩⟩
theorem mv_X1_166 : MV RX1 166 yX1_creditsPaid cX1_creditsPaid 5 (some .long) 1 := ⟨TT_5 (i := 54) rfl rfl, TT_5 (i := 56) rfl rfl, TT_s (i := 13) (by decide +kernel) (by decide +kernel), TT_1 (i := 5) rfl rfl, TT_5 (i := 57) rfl rfl, ⟨by decide, by decide, by decide +kernel⟩⟩
theorem mv_X1_169 : MV RX1 169 yX1_creditsReceived cX1_creditsReceived 5 (some .long) 1 := ⟨TT_5 (i := 67) rfl rfl, TT_5 (i := 69) rfl rfl, TT_s (i := 14) (by decide +kernel) (by decide +kernel), TT_1 (i := 5) rfl rfl, TT_5 (i := 70) rfl rfl, ⟨by decide, by decide, by decide +kernel⟩⟩
theorem mv_X1_172 : MV RX1 172 yX0_hasOpenMonth cX0_hasOpenMonth 1 (some .boolean) 0 := ⟨TT_5 (i := 17) rfl rfl, TT_4 (i := 221) rfl rfl, TT_4 (i := 222) rfl rfl, TT_1 (i := 10) rfl rfl, TT_4 (i := 223) rfl rfl, ⟨by decide, by decide, by decide +kernel⟩⟩
theorem mv_X1_176 : MV RX1 176 yX6_salesTogether cX6_salesTogether 2 (some .long) 1 := ⟨TT_5 (i := 18) rfl rfl, TT_5 (i := 19) rfl rfl, TT_5 (i := 20) rfl rfl, TT_1 (i := 7) rfl rfl, TT_5 (i := 21) rfl rfl, ⟨by decide, by decide, by decide +kernel⟩⟩
theorem mv_X1_179 : MV RX1 179 yX1_calculate cX1_calculate 5 none 2 := ⟨TT_5 (i := 27) rfl rfl, TT_5 (i := 28) rfl rfl, TT_5 (i := 29) rfl rfl, TT_1 (i := 5) rfl rfl, TT_5 (i := 30) rfl rfl, ⟨by decide, by decide, by decide +kernel⟩⟩
theorem mv_X1_183 : MV RX1 183 yX1_bill cX1_bill 3 none 1 := ⟨TT_5 (i := 71) rfl rfl, TT_5 (i := 73) rfl rfl, TT_s (i := 15) (by decide +kernel) (by decide +kernel), TT_1 (i := 5) rfl rfl, TT_5 (i := 74) rfl rfl, ⟨by decide, by decide, by decide +kernel⟩⟩
theorem mv_X1_193 : MV RX1 193 yX1_finishTransfer cX1_finishTransfer 2 none 1 := ⟨TT_5 (i := 79) rfl rfl, TT_5 (i := 81) rfl rfl, TT_s (i := 16) (by decide +kernel) (by decide +kernel), TT_1 (i := 5) rfl rfl, TT_5 (i := 82) rfl rfl, ⟨by decide, by decide, by decide +kernel⟩⟩
theorem mv_X1_199 : MV RX1 199 yX0_enterBalance cX0_enterBalance 4 none 2 := ⟨TT_5 (i := 88) rfl rfl, TT_5 (i := 89) rfl rfl, TT_5 (i := 90) rfl rfl, TT_1 (i := 10) rfl rfl, TT_5 (i := 91) rfl rfl, ⟨by decide, by decide, by decide +kernel⟩⟩
theorem mv_X1_202 : MV RX1 202 yX0_enterSales cX0_enterSales 4 none 2 := ⟨TT_5 (i := 92) rfl rfl, TT_5 (i := 93) rfl rfl, TT_5 (i := 94) rfl rfl, TT_1 (i := 10) rfl rfl, TT_5 (i := 95) rfl rfl, ⟨by decide, by decide, by decide +kernel⟩⟩
theorem mv_X1_205 : MV RX1 205 yX0_forgetDeliveries cX0_forgetDeliveries 1 none 0 := ⟨TT_5 (i := 96) rfl rfl, TT_5 (i := 97) rfl rfl, TT_5 (i := 98) rfl rfl, TT_1 (i := 10) rfl rfl, TT_5 (i := 99) rfl rfl, ⟨by decide, by decide, by decide +kernel⟩⟩
theorem mv_X1_57 : MV RX1 57 yX8_clear cX8_clear 1 none 0 := ⟨TT_2 (i := 126) rfl rfl, TT_2 (i := 127) rfl rfl, TT_2 (i := 128) rfl rfl, TT_1 (i := 6) rfl rfl, TT_2 (i := 129) rfl rfl, ⟨by decide, by decide, by decide +kernel⟩⟩
theorem mv_X1_60 : MV RX1 60 yX3_clear cX3_clear 1 none 0 := ⟨TT_2 (i := 130) rfl rfl, TT_2 (i := 131) rfl rfl, TT_2 (i := 132) rfl rfl, TT_1 (i := 4) rfl rfl, TT_2 (i := 133) rfl rfl, ⟨by decide, by decide, by decide +kernel⟩⟩
theorem mv_X1_66 : MV RX1 66 yX10_clear cX10_clear 1 none 0 := ⟨TT_2 (i := 137) rfl rfl, TT_2 (i := 138) rfl rfl, TT_2 (i := 139) rfl rfl, TT_1 (i := 9) rfl rfl, TT_2 (i := 140) rfl rfl, ⟨by decide, by decide, by decide +kernel⟩⟩
theorem mv_X1_67 : MV RX1 67 yX0_clear cX0_clear 1 none 0 := ⟨TT_2 (i := 142) rfl rfl, TT_2 (i := 143) rfl rfl, TT_2 (i := 144) rfl rfl, TT_1 (i := 10) rfl rfl, TT_2 (i := 145) rfl rfl, ⟨by decide, by decide, by decide +kernel⟩⟩
theorem mv_X11_117 : MV RX11 117 yX5_executeNext cX5_executeNext 3 (some .boolean) 1 := ⟨TT_4 (i := 208) rfl rfl, TT_4 (i := 209) rfl rfl, TT_4 (i := 210) rfl rfl, TT_1 (i := 12) rfl rfl, TT_4 (i := 211) rfl rfl, ⟨by decide, by decide, by decide +kernel⟩⟩
theorem mv_X11_273 : MV RX11 273 yX0_atPlace cX0_atPlace 6 (some .int) 2 := ⟨TT_4 (i := 39) rfl rfl, TT_4 (i := 40) rfl rfl, TT_4 (i := 41) rfl rfl, TT_1 (i := 10) rfl rfl, TT_4 (i := 42) rfl rfl, ⟨by decide, by decide, by decide +kernel⟩⟩
theorem mv_X11_279 : MV RX11 279 yX1_close cX1_close 4 (some .boolean) 0 := ⟨TT_6 (i := 202) rfl rfl, TT_5 (i := 14) rfl rfl, TT_5 (i := 15) rfl rfl, TT_1 (i := 5) rfl rfl, TT_5 (i := 16) rfl rfl, ⟨by decide, by decide, by decide +kernel⟩⟩
theorem mv_X11_287 : MV RX11 287 yX6_scaledSales cX6_scaledSales 6 (some .long) 2 := ⟨TT_6 (i := 221) rfl rfl, TT_5 (i := 23) rfl rfl, TT_5 (i := 24) rfl rfl, TT_1 (i := 7) rfl rfl, TT_5 (i := 25) rfl rfl, ⟨by decide, by decide, by decide +kernel⟩⟩
theorem mv_X11_290 : MV RX11 290 yX1_calculate cX1_calculate 5 none 2 := ⟨TT_6 (i := 222) rfl rfl, TT_5 (i := 28) rfl rfl, TT_5 (i := 29) rfl rfl, TT_1 (i := 5) rfl rfl, TT_5 (i := 30) rfl rfl, ⟨by decide, by decide, by decide +kernel⟩⟩
theorem mv_X11_308 : MV RX11 308 yX2_lowerBalance cX2_lowerBalance 4 (some .long) 2 := ⟨TT_7 (i := 0) rfl rfl, TT_5 (i := 129) rfl rfl, TT_5 (i := 130) rfl rfl, TT_1 (i := 8) rfl rfl, TT_5 (i := 131) rfl rfl, ⟨by decide, by decide, by decide +kernel⟩⟩
theorem mv_X11_314 : MV RX11 314 yX1_monthsToPayOff cX1_monthsToPayOff 7 (some .int) 2 := ⟨TT_7 (i := 15) rfl rfl, TT_7 (i := 16) rfl rfl, TT_7 (i := 17) rfl rfl, TT_1 (i := 5) rfl rfl, TT_7 (i := 18) rfl rfl, ⟨by decide, by decide, by decide +kernel⟩⟩
theorem mv_X11_333 : MV RX11 333 yX0_spendNational cX0_spendNational 3 (some .boolean) 1 := ⟨TT_7 (i := 71) rfl rfl, TT_5 (i := 9) rfl rfl, TT_5 (i := 10) rfl rfl, TT_1 (i := 10) rfl rfl, TT_5 (i := 11) rfl rfl, ⟨by decide, by decide, by decide +kernel⟩⟩
theorem mv_X11_337 : MV RX11 337 yX1_spendLocal cX1_spendLocal 4 (some .boolean) 2 := ⟨TT_7 (i := 79) rfl rfl, TT_5 (i := 116) rfl rfl, TT_5 (i := 117) rfl rfl, TT_1 (i := 5) rfl rfl, TT_5 (i := 118) rfl rfl, ⟨by decide, by decide, by decide +kernel⟩⟩
theorem mv_X11_388 : MV RX11 388 yX4_write cX4_write 4 none 3 := ⟨TT_7 (i := 179) rfl rfl, TT_7 (i := 180) rfl rfl, TT_7 (i := 181) rfl rfl, TT_1 (i := 3) rfl rfl, TT_7 (i := 182) rfl rfl, ⟨by decide, by decide, by decide +kernel⟩⟩
theorem mv_X11_45 : MV RX11 45 yX1_clear cX1_clear 1 none 0 := ⟨TT_2 (i := 122) rfl rfl, TT_2 (i := 123) rfl rfl, TT_2 (i := 124) rfl rfl, TT_1 (i := 5) rfl rfl, TT_2 (i := 125) rfl rfl, ⟨by decide, by decide, by decide +kernel⟩⟩
theorem mv_X11_81 : MV RX11 81 yX11_finishReading cX11_finishReading 1 none 0 := ⟨TT_3 (i := 198) rfl rfl, TT_3 (i := 200) rfl rfl, TT_s (i := 4) (by decide +kernel) (by decide +kernel), TT_1 (i := 1) rfl rfl, TT_3 (i := 201) rfl rfl, ⟨by decide, by decide, by decide +kernel⟩⟩
theorem mv_X11_84 : MV RX11 84 yX5_clear cX5_clear 1 none 0 := ⟨TT_3 (i := 202) rfl rfl, TT_3 (i := 203) rfl rfl, TT_3 (i := 204) rfl rfl, TT_1 (i := 12) rfl rfl, TT_3 (i := 205) rfl rfl, ⟨by decide, by decide, by decide +kernel⟩⟩
theorem mv_X11_99 : MV RX11 99 yX5_readFrom cX5_readFrom 4 none 2 := ⟨TT_3 (i := 223) rfl rfl, TT_3 (i := 224) rfl rfl, TT_3 (i := 225) rfl rfl, TT_1 (i := 12) rfl rfl, TT_3 (i := 226) rfl rfl, ⟨by decide, by decide, by decide +kernel⟩⟩
theorem mv_X4_21 : MV RX4 21 yX0_invoicePart cX0_invoicePart 4 (some .long) 3 := ⟨TT_7 (i := 184) rfl rfl, TT_6 (i := 211) rfl rfl, TT_6 (i := 212) rfl rfl, TT_1 (i := 10) rfl rfl, TT_6 (i := 213) rfl rfl, ⟨by decide, by decide, by decide +kernel⟩⟩
theorem mv_X4_27 : MV RX4 27 yX4_addPart cX4_addPart 6 none 2 := ⟨TT_7 (i := 185) rfl rfl, TT_7 (i := 187) rfl rfl, TT_s (i := 26) (by decide +kernel) (by decide +kernel), TT_1 (i := 3) rfl rfl, TT_7 (i := 188) rfl rfl, ⟨by decide, by decide, by decide +kernel⟩⟩
theorem mv_X4_43 : MV RX4 43 yJ0_length_8abf5 cJ0_length_8abf5 1 (some .int) 0 := ⟨TT_7 (i := 189) rfl rfl, TT_3 (i := 22) rfl rfl, TT_3 (i := 23) rfl rfl, TT_1 (i := 15) rfl rfl, TT_3 (i := 24) rfl rfl, ⟨by decide, by decide, by decide +kernel⟩⟩
theorem mv_X4_48 : MV RX4 48 yJ0_charAt_5068e cJ0_charAt_5068e 2 (some .char) 1 := ⟨TT_7 (i := 190) rfl rfl, TT_3 (i := 32) rfl rfl, TT_3 (i := 33) rfl rfl, TT_1 (i := 15) rfl rfl, TT_3 (i := 34) rfl rfl, ⟨by decide, by decide, by decide +kernel⟩⟩
theorem mv_X4_64 : MV RX4 64 yX4_addWhole cX4_addWhole 6 none 1 := ⟨TT_7 (i := 199) rfl rfl, TT_7 (i := 201) rfl rfl, TT_s (i := 28) (by decide +kernel) (by decide +kernel), TT_1 (i := 3) rfl rfl, TT_7 (i := 202) rfl rfl, ⟨by decide, by decide, by decide +kernel⟩⟩
theorem mv_X4_70 : MV RX4 70 yX4_addDigit cX4_addDigit 3 none 1 := ⟨TT_7 (i := 204) rfl rfl, TT_7 (i := 206) rfl rfl, TT_s (i := 29) (by decide +kernel) (by decide +kernel), TT_1 (i := 3) rfl rfl, TT_7 (i := 207) rfl rfl, ⟨by decide, by decide, by decide +kernel⟩⟩
theorem mv_X5_103 : MV RX5 103 yX9_readName cX9_readName 4 (some .int) 2 := ⟨TT_4 (i := 14) rfl rfl, TT_3 (i := 103) rfl rfl, TT_3 (i := 104) rfl rfl, TT_1 (i := 2) rfl rfl, TT_3 (i := 105) rfl rfl, ⟨by decide, by decide, by decide +kernel⟩⟩
theorem mv_X5_108 : MV RX5 108 yX9_readYes cX9_readYes 1 (some .boolean) 0 := ⟨TT_4 (i := 16) rfl rfl, TT_4 (i := 17) rfl rfl, TT_4 (i := 18) rfl rfl, TT_1 (i := 2) rfl rfl, TT_4 (i := 19) rfl rfl, ⟨by decide, by decide, by decide +kernel⟩⟩
theorem mv_X5_111 : MV RX5 111 yX5_executeSales cX5_executeSales 4 (some .boolean) 2 := ⟨TT_4 (i := 212) rfl rfl, TT_4 (i := 214) rfl rfl, TT_s (i := 11) (by decide +kernel) (by decide +kernel), TT_1 (i := 12) rfl rfl, TT_4 (i := 215) rfl rfl, ⟨by decide, by decide, by decide +kernel⟩⟩
theorem mv_X5_121 : MV RX5 121 yX0_spendNational cX0_spendNational 3 (some .boolean) 1 := ⟨TT_5 (i := 8) rfl rfl, TT_5 (i := 9) rfl rfl, TT_5 (i := 10) rfl rfl, TT_1 (i := 10) rfl rfl, TT_5 (i := 11) rfl rfl, ⟨by decide, by decide, by decide +kernel⟩⟩
theorem mv_X5_127 : MV RX5 127 yX1_close cX1_close 4 (some .boolean) 0 := ⟨TT_5 (i := 13) rfl rfl, TT_5 (i := 14) rfl rfl, TT_5 (i := 15) rfl rfl, TT_1 (i := 5) rfl rfl, TT_5 (i := 16) rfl rfl, ⟨by decide, by decide, by decide +kernel⟩⟩
theorem mv_X5_129 : MV RX5 129 yX5_executeForFranchisee cX5_executeForFranchisee 4 (some .boolean) 2 := ⟨TT_5 (i := 100) rfl rfl, TT_5 (i := 102) rfl rfl, TT_s (i := 17) (by decide +kernel) (by decide +kernel), TT_1 (i := 12) rfl rfl, TT_5 (i := 103) rfl rfl, ⟨by decide, by decide, by decide +kernel⟩⟩
theorem mv_X5_157 : MV RX5 157 yX2_has cX2_has 2 (some .boolean) 1 := ⟨TT_5 (i := 104) rfl rfl, TT_5 (i := 1) rfl rfl, TT_5 (i := 2) rfl rfl, TT_1 (i := 8) rfl rfl, TT_5 (i := 3) rfl rfl, ⟨by decide, by decide, by decide +kernel⟩⟩
theorem mv_X5_164 : MV RX5 164 yX10_addVote cX10_addVote 6 (some .int) 3 := ⟨TT_5 (i := 105) rfl rfl, TT_5 (i := 106) rfl rfl, TT_5 (i := 107) rfl rfl, TT_1 (i := 9) rfl rfl, TT_5 (i := 108) rfl rfl, ⟨by decide, by decide, by decide +kernel⟩⟩
theorem mv_X5_170 : MV RX5 170 yX1_spendLocal cX1_spendLocal 4 (some .boolean) 2 := ⟨TT_5 (i := 115) rfl rfl, TT_5 (i := 116) rfl rfl, TT_5 (i := 117) rfl rfl, TT_1 (i := 5) rfl rfl, TT_5 (i := 118) rfl rfl, ⟨by decide, by decide, by decide +kernel⟩⟩
theorem mv_X5_174 : MV RX5 174 yX2_lowerBalance cX2_lowerBalance 4 (some .long) 2 := ⟨TT_5 (i := 132) rfl rfl, TT_5 (i := 129) rfl rfl, TT_5 (i := 130) rfl rfl, TT_1 (i := 8) rfl rfl, TT_5 (i := 131) rfl rfl, ⟨by decide, by decide, by decide +kernel⟩⟩
theorem mv_X5_42 : MV RX5 42 yX5_clear cX5_clear 1 none 0 := ⟨TT_3 (i := 227) rfl rfl, TT_3 (i := 203) rfl rfl, TT_3 (i := 204) rfl rfl, TT_1 (i := 12) rfl rfl, TT_3 (i := 205) rfl rfl, ⟨by decide, by decide, by decide +kernel⟩⟩
theorem mv_X5_45 : MV RX5 45 yX9_begin cX9_begin 1 none 0 := ⟨TT_3 (i := 228) rfl rfl, TT_2 (i := 238) rfl rfl, TT_2 (i := 239) rfl rfl, TT_1 (i := 2) rfl rfl, TT_3 (i := 0) rfl rfl, ⟨by decide, by decide, by decide +kernel⟩⟩
theorem mv_X5_50 : MV RX5 50 yX9_failed cX9_failed 1 (some .boolean) 0 := ⟨TT_3 (i := 229) rfl rfl, TT_3 (i := 2) rfl rfl, TT_3 (i := 3) rfl rfl, TT_1 (i := 2) rfl rfl, TT_3 (i := 4) rfl rfl, ⟨by decide, by decide, by decide +kernel⟩⟩
theorem mv_X5_54 : MV RX5 54 yX9_advance cX9_advance 2 none 0 := ⟨TT_3 (i := 230) rfl rfl, TT_3 (i := 6) rfl rfl, TT_3 (i := 7) rfl rfl, TT_1 (i := 2) rfl rfl, TT_3 (i := 8) rfl rfl, ⟨by decide, by decide, by decide +kernel⟩⟩
theorem mv_X5_60 : MV RX5 60 yX5_readEntry cX5_readEntry 4 none 2 := ⟨TT_3 (i := 231) rfl rfl, TT_3 (i := 233) rfl rfl, TT_s (i := 5) (by decide +kernel) (by decide +kernel), TT_1 (i := 12) rfl rfl, TT_3 (i := 234) rfl rfl, ⟨by decide, by decide, by decide +kernel⟩⟩
theorem mv_X5_68 : MV RX5 68 yX9_fail cX9_fail 2 none 1 := ⟨TT_4 (i := 6) rfl rfl, TT_3 (i := 73) rfl rfl, TT_3 (i := 74) rfl rfl, TT_1 (i := 2) rfl rfl, TT_3 (i := 75) rfl rfl, ⟨by decide, by decide, by decide +kernel⟩⟩
theorem mv_X5_72 : MV RX5 72 yX5_readArguments cX5_readArguments 3 none 2 := ⟨TT_4 (i := 7) rfl rfl, TT_4 (i := 9) rfl rfl, TT_s (i := 6) (by decide +kernel) (by decide +kernel), TT_1 (i := 12) rfl rfl, TT_4 (i := 10) rfl rfl, ⟨by decide, by decide, by decide +kernel⟩⟩
theorem mv_X5_75 : MV RX5 75 yX9_endStatement cX9_endStatement 1 none 0 := ⟨TT_4 (i := 22) rfl rfl, TT_3 (i := 195) rfl rfl, TT_3 (i := 196) rfl rfl, TT_1 (i := 2) rfl rfl, TT_3 (i := 197) rfl rfl, ⟨by decide, by decide, by decide +kernel⟩⟩
theorem mv_X5_80 : MV RX5 80 yX9_isWord cX9_isWord 3 (some .boolean) 1 := ⟨TT_3 (i := 239) rfl rfl, TT_3 (i := 18) rfl rfl, TT_3 (i := 19) rfl rfl, TT_1 (i := 2) rfl rfl, TT_3 (i := 20) rfl rfl, ⟨by decide, by decide, by decide +kernel⟩⟩
theorem mv_X5_96 : MV RX5 96 yX9_readNumber cX9_readNumber 3 (some .int) 2 := ⟨TT_4 (i := 11) rfl rfl, TT_3 (i := 78) rfl rfl, TT_3 (i := 79) rfl rfl, TT_1 (i := 2) rfl rfl, TT_3 (i := 80) rfl rfl, ⟨by decide, by decide, by decide +kernel⟩⟩
theorem mv_X7_108 : MV RX7 108 yX9_fail cX9_fail 2 none 1 := ⟨TT_3 (i := 72) rfl rfl, TT_3 (i := 73) rfl rfl, TT_3 (i := 74) rfl rfl, TT_1 (i := 2) rfl rfl, TT_3 (i := 75) rfl rfl, ⟨by decide, by decide, by decide +kernel⟩⟩
theorem mv_X7_115 : MV RX7 115 yX8_addPlan cX8_addPlan 3 none 2 := ⟨TT_3 (i := 83) rfl rfl, TT_3 (i := 84) rfl rfl, TT_3 (i := 85) rfl rfl, TT_1 (i := 6) rfl rfl, TT_3 (i := 86) rfl rfl, ⟨by decide, by decide, by decide +kernel⟩⟩
theorem mv_X7_119 : MV RX7 119 yX9_semicolonAhead cX9_semicolonAhead 1 (some .boolean) 0 := ⟨TT_3 (i := 91) rfl rfl, TT_3 (i := 92) rfl rfl, TT_3 (i := 93) rfl rfl, TT_1 (i := 2) rfl rfl, TT_3 (i := 94) rfl rfl, ⟨by decide, by decide, by decide +kernel⟩⟩
theorem mv_X7_123 : MV RX7 123 yX8_addStep cX8_addStep 6 none 2 := ⟨TT_3 (i := 97) rfl rfl, TT_3 (i := 88) rfl rfl, TT_3 (i := 89) rfl rfl, TT_1 (i := 6) rfl rfl, TT_3 (i := 90) rfl rfl, ⟨by decide, by decide, by decide +kernel⟩⟩
theorem mv_X7_136 : MV RX7 136 yX9_readName cX9_readName 4 (some .int) 2 := ⟨TT_3 (i := 102) rfl rfl, TT_3 (i := 103) rfl rfl, TT_3 (i := 104) rfl rfl, TT_1 (i := 2) rfl rfl, TT_3 (i := 105) rfl rfl, ⟨by decide, by decide, by decide +kernel⟩⟩
theorem mv_X7_14 : MV RX7 14 yX9_failed cX9_failed 1 (some .boolean) 0 := ⟨TT_3 (i := 1) rfl rfl, TT_3 (i := 2) rfl rfl, TT_3 (i := 3) rfl rfl, TT_1 (i := 2) rfl rfl, TT_3 (i := 4) rfl rfl, ⟨by decide, by decide, by decide +kernel⟩⟩
theorem mv_X7_150 : MV RX7 150 yX2_add cX2_add 6 none 5 := ⟨TT_3 (i := 129) rfl rfl, TT_3 (i := 130) rfl rfl, TT_3 (i := 131) rfl rfl, TT_1 (i := 8) rfl rfl, TT_3 (i := 132) rfl rfl, ⟨by decide, by decide, by decide +kernel⟩⟩
theorem mv_X7_158 : MV RX7 158 yX3_anyOfOthers cX3_anyOfOthers 9 (some .boolean) 5 := ⟨TT_3 (i := 140) rfl rfl, TT_3 (i := 141) rfl rfl, TT_3 (i := 142) rfl rfl, TT_1 (i := 4) rfl rfl, TT_3 (i := 143) rfl rfl, ⟨by decide, by decide, by decide +kernel⟩⟩
theorem mv_X7_164 : MV RX7 164 yX3_move cX3_move 10 (some .int) 6 := ⟨TT_3 (i := 151) rfl rfl, TT_3 (i := 152) rfl rfl, TT_3 (i := 153) rfl rfl, TT_1 (i := 4) rfl rfl, TT_3 (i := 154) rfl rfl, ⟨by decide, by decide, by decide +kernel⟩⟩
theorem mv_X7_175 : MV RX7 175 yX1_hasFreeCell cX1_hasFreeCell 4 (some .boolean) 3 := ⟨TT_3 (i := 163) rfl rfl, TT_3 (i := 164) rfl rfl, TT_3 (i := 165) rfl rfl, TT_1 (i := 5) rfl rfl, TT_3 (i := 166) rfl rfl, ⟨by decide, by decide, by decide +kernel⟩⟩
theorem mv_X7_179 : MV RX7 179 yX6_add cX6_add 5 (some .int) 3 := ⟨TT_3 (i := 181) rfl rfl, TT_3 (i := 182) rfl rfl, TT_3 (i := 183) rfl rfl, TT_1 (i := 7) rfl rfl, TT_3 (i := 184) rfl rfl, ⟨by decide, by decide, by decide +kernel⟩⟩
theorem mv_X7_18 : MV RX7 18 yX9_advance cX9_advance 2 none 0 := ⟨TT_3 (i := 5) rfl rfl, TT_3 (i := 6) rfl rfl, TT_3 (i := 7) rfl rfl, TT_1 (i := 2) rfl rfl, TT_3 (i := 8) rfl rfl, ⟨by decide, by decide, by decide +kernel⟩⟩
theorem mv_X7_33 : MV RX7 33 yX9_isWord cX9_isWord 3 (some .boolean) 1 := ⟨TT_3 (i := 17) rfl rfl, TT_3 (i := 18) rfl rfl, TT_3 (i := 19) rfl rfl, TT_1 (i := 2) rfl rfl, TT_3 (i := 20) rfl rfl, ⟨by decide, by decide, by decide +kernel⟩⟩
theorem mv_X7_65 : MV RX7 65 yX9_endStatement cX9_endStatement 1 none 0 := ⟨TT_3 (i := 194) rfl rfl, TT_3 (i := 195) rfl rfl, TT_3 (i := 196) rfl rfl, TT_1 (i := 2) rfl rfl, TT_3 (i := 197) rfl rfl, ⟨by decide, by decide, by decide +kernel⟩⟩
theorem mv_X7_70 : MV RX7 70 yX9_readNumber cX9_readNumber 3 (some .int) 2 := ⟨TT_3 (i := 77) rfl rfl, TT_3 (i := 78) rfl rfl, TT_3 (i := 79) rfl rfl, TT_1 (i := 2) rfl rfl, TT_3 (i := 80) rfl rfl, ⟨by decide, by decide, by decide +kernel⟩⟩
theorem mv_X7_9 : MV RX7 9 yX9_begin cX9_begin 1 none 0 := ⟨TT_2 (i := 237) rfl rfl, TT_2 (i := 238) rfl rfl, TT_2 (i := 239) rfl rfl, TT_1 (i := 2) rfl rfl, TT_3 (i := 0) rfl rfl, ⟨by decide, by decide, by decide +kernel⟩⟩
theorem mv_X9_45 : MV RX9 45 yJ0_length_8abf5 cJ0_length_8abf5 1 (some .int) 0 := ⟨TT_3 (i := 21) rfl rfl, TT_3 (i := 22) rfl rfl, TT_3 (i := 23) rfl rfl, TT_1 (i := 15) rfl rfl, TT_3 (i := 24) rfl rfl, ⟨by decide, by decide, by decide +kernel⟩⟩
theorem mv_X9_50 : MV RX9 50 yJ0_charAt_5068e cJ0_charAt_5068e 2 (some .char) 1 := ⟨TT_3 (i := 31) rfl rfl, TT_3 (i := 32) rfl rfl, TT_3 (i := 33) rfl rfl, TT_1 (i := 15) rfl rfl, TT_3 (i := 34) rfl rfl, ⟨by decide, by decide, by decide +kernel⟩⟩
theorem mv_X9_56 : MV RX9 56 yX9_isWord cX9_isWord 3 (some .boolean) 1 := ⟨TT_3 (i := 111) rfl rfl, TT_3 (i := 18) rfl rfl, TT_3 (i := 19) rfl rfl, TT_1 (i := 2) rfl rfl, TT_3 (i := 20) rfl rfl, ⟨by decide, by decide, by decide +kernel⟩⟩
theorem mv_X9_85 : MV RX9 85 yX9_isReserved cX9_isReserved 1 (some .boolean) 0 := ⟨TT_3 (i := 106) rfl rfl, TT_3 (i := 108) rfl rfl, TT_s (i := 1) (by decide +kernel) (by decide +kernel), TT_1 (i := 2) rfl rfl, TT_3 (i := 109) rfl rfl, ⟨by decide, by decide, by decide +kernel⟩⟩
theorem mv_X9_88 : MV RX9 88 yX2_named cX2_named 5 (some .int) 3 := ⟨TT_3 (i := 121) rfl rfl, TT_3 (i := 122) rfl rfl, TT_3 (i := 123) rfl rfl, TT_1 (i := 8) rfl rfl, TT_3 (i := 124) rfl rfl, ⟨by decide, by decide, by decide +kernel⟩⟩
theorem sr_X4_19 : (RX4, 19, "royalty ", 100 + 2 * 19) ∈ SR := List.mem_of_getElem? (i := 35) rfl
theorem sr_X4_31 : (RX4, 31, " ad ", 100 + 2 * 20) ∈ SR := List.mem_of_getElem? (i := 36) rfl
theorem sr_X4_33 : (RX4, 33, " interest ", 100 + 2 * 21) ∈ SR := List.mem_of_getElem? (i := 37) rfl
theorem sr_X4_35 : (RX4, 35, " paid ", 100 + 2 * 22) ∈ SR := List.mem_of_getElem? (i := 38) rfl
theorem sr_X4_37 : (RX4, 37, " received ", 100 + 2 * 23) ∈ SR := List.mem_of_getElem? (i := 39) rfl
theorem sr_X4_39 : (RX4, 39, " due ", 100 + 2 * 24) ∈ SR := List.mem_of_getElem? (i := 40) rfl
theorem sr_X4_41 : (RX4, 41, " balance ", 100 + 2 * 25) ∈ SR := List.mem_of_getElem? (i := 41) rfl
theorem sr_X5_78 : (RX5, 78, "sales", 100 + 2 * 10) ∈ SR := List.mem_of_getElem? (i := 20) rfl
theorem sr_X5_84 : (RX5, 84, "deliver", 100 + 2 * 11) ∈ SR := List.mem_of_getElem? (i := 21) rfl
theorem sr_X5_86 : (RX5, 86, "pay", 100 + 2 * 12) ∈ SR := List.mem_of_getElem? (i := 22) rfl
theorem sr_X5_88 : (RX5, 88, "grant", 100 + 2 * 13) ∈ SR := List.mem_of_getElem? (i := 23) rfl
theorem sr_X5_90 : (RX5, 90, "campaign", 100 + 2 * 14) ∈ SR := List.mem_of_getElem? (i := 24) rfl
theorem sr_X5_92 : (RX5, 92, "vote", 100 + 2 * 15) ∈ SR := List.mem_of_getElem? (i := 25) rfl
theorem sr_X5_94 : (RX5, 94, "close", 100 + 2 * 16) ∈ SR := List.mem_of_getElem? (i := 26) rfl
theorem sr_X7_103 : (RX7, 103, "worth", 100 + 2 * 9) ∈ SR := List.mem_of_getElem? (i := 19) rfl
theorem sr_X7_31 : (RX7, 31, "plan", 100 + 2 * 0) ∈ SR := List.mem_of_getElem? (i := 0) rfl
theorem sr_X7_47 : (RX7, 47, "franchisee", 100 + 2 * 1) ∈ SR := List.mem_of_getElem? (i := 1) rfl
theorem sr_X7_52 : (RX7, 52, "area", 100 + 2 * 2) ∈ SR := List.mem_of_getElem? (i := 12) rfl
theorem sr_X7_57 : (RX7, 57, "outlet", 100 + 2 * 3) ∈ SR := List.mem_of_getElem? (i := 13) rfl
theorem sr_X7_68 : (RX7, 68, "credit", 100 + 2 * 4) ∈ SR := List.mem_of_getElem? (i := 14) rfl
theorem sr_X7_85 : (RX7, 85, "interest", 100 + 2 * 5) ∈ SR := List.mem_of_getElem? (i := 15) rfl
theorem sr_X7_90 : (RX7, 90, "admin", 100 + 2 * 6) ∈ SR := List.mem_of_getElem? (i := 16) rfl
theorem sr_X7_95 : (RX7, 95, "fee", 100 + 2 * 7) ∈ SR := List.mem_of_getElem? (i := 17) rfl
theorem sr_X7_99 : (RX7, 99, "delay", 100 + 2 * 8) ∈ SR := List.mem_of_getElem? (i := 18) rfl
theorem sr_X9_54 : (RX9, 54, "plan", 100 + 2 * 0) ∈ SR := List.mem_of_getElem? (i := 2) rfl
theorem sr_X9_60 : (RX9, 60, "franchisee", 100 + 2 * 1) ∈ SR := List.mem_of_getElem? (i := 3) rfl
theorem sr_X9_62 : (RX9, 62, "area", 100 + 2 * 2) ∈ SR := List.mem_of_getElem? (i := 4) rfl
theorem sr_X9_64 : (RX9, 64, "outlet", 100 + 2 * 3) ∈ SR := List.mem_of_getElem? (i := 5) rfl
theorem sr_X9_66 : (RX9, 66, "credit", 100 + 2 * 4) ∈ SR := List.mem_of_getElem? (i := 6) rfl
theorem sr_X9_68 : (RX9, 68, "interest", 100 + 2 * 5) ∈ SR := List.mem_of_getElem? (i := 7) rfl
theorem sr_X9_70 : (RX9, 70, "admin", 100 + 2 * 6) ∈ SR := List.mem_of_getElem? (i := 8) rfl
theorem sr_X9_72 : (RX9, 72, "fee", 100 + 2 * 7) ∈ SR := List.mem_of_getElem? (i := 9) rfl
theorem sr_X9_74 : (RX9, 74, "delay", 100 + 2 * 8) ∈ SR := List.mem_of_getElem? (i := 10) rfl
theorem sr_X9_76 : (RX9, 76, "worth", 100 + 2 * 9) ∈ SR := List.mem_of_getElem? (i := 11) rfl
theorem sr_X9_94 : (RX9, 94, "yes", 100 + 2 * 17) ∈ SR := List.mem_of_getElem? (i := 27) rfl
theorem sr_X9_96 : (RX9, 96, "no", 100 + 2 * 18) ∈ SR := List.mem_of_getElem? (i := 28) rfl
def tab_X0_atPlace : List En := [(0, 0, 0, 0), (1, 10, 3, 0), (2, 4, 3, 0), (3, 4, 2, 0), (7, 0, 0, 0), (8, 11, 4, 0), (10, 0, 0, 0), (11, 11, 5, 0), (13, 5, 5, 0), (15, 4, 2, 0), (19, 8, 0, 0), (20, 5, 5, 0), (22, 4, 3, 0), (29, 16, 4, 1), (32, 16, 5, 1), (35, 41, 13, 0), (38, 5, 4, 0), (40, 4, 1, 0), (44, 4, 3, 0), (46, 16, 3, 1), (49, 41, 2, 0), (52, 0, 0, (-1))]
theorem ok_X0_atPlace : tab_X0_atPlace.all (okE cX0_atPlace) = true := by decide +kernel
def ed_X0_atPlace : List (Nat × Instr × Nat) := [(4, .if_icmp .ge 48, 3), (16, .if_icmp .ge 22, 3), (23, .invokevirtual 58, 3), (26, .ifCond .eq 6, 3), (41, .if_icmp .ne 5, 3), (45, .ireturn, 1), (53, .ireturn, 1)]
theorem okd_X0_atPlace : ed_X0_atPlace.all (okD cX0_atPlace) = true := by decide +kernel
def f_X0_atPlace (S : St) (p0 : Nat) (p1 : Int32) (p2 : Int32) : Option (Int32) := jn (κ := Int32 → Option (Int32)) (fun x1 => some x1) fun k2 => lp (κ := Int32 → Option (Int32)) (fun _ => none) (fun k5 x4 => if p2 ≤ x4 then (some (-1)) else (jn (κ := Int32 → Option (Int32)) (fun x7 => if x7 = p1 then (k2 x4) else (k5 (x4 + 1))) fun k8 => lp (κ := Int32 → Int32 → Option (Int32)) (fun _ _ => none) (fun k12 x10 x11 => if p2 ≤ x11 then (k8 x10) else (cl (f_X0_ranksBefore S p0 x11 x4) fun (v14 : Int32) => jn (κ := Int32 → Option (Int32)) (fun x15 => k12 x15 (x11 + 1)) fun k16 => if v14 = 0 then (k16 x10) else (k16 (x10 + 1)))) FU 0 0)) FU 0
set_option maxHeartbeats 4000000 in
set_option maxRecDepth 100000 in
theorem c_X0_atPlace (S : St) (p0 : Nat) (p1 : Int32) (p2 : Int32) : Ct yX0_atPlace cX0_atPlace 6 (some .int) 4 93 (fun _ => [.ref p0, .int p1, .int p2]) [(p0, 0)] S (f_X0_atPlace S p0 p1 p2) oI (fun _ => S) := by
  refine Ct_of RX0 rfl (by decide) (fun _ => Nat.le_of_ble_eq_true rfl) 3 (vs := fun _ => [some (.ref p0), some (.int p1), some (.int p2), none, none, none]) (fun _ => rfl) (fun C X E hr ht => ?_)
  have t0_ : tT C p0 0 := ht (p0, 0) (by simp)
  show Jd C 6 (QJ C oI (fun _ => S)) S 0 [some (.ref p0), some (.int p1), some (.int p2), none, none, none] [] (f_X0_atPlace S p0 p1 p2)
  unfold f_X0_atPlace
  refine s_run X ok_X0_atPlace 0 2 (pc' := 2) (vs' := [some (.ref p0), some (.int p1), some (.int p2), some (.int 0), none, none]) (st' := []) rfl ?_
  refine s_jn (κ := Int32 → Option (Int32)) (fun k2 => ∀ (x1 : Int32), Jd C 6 (QJ C oI (fun _ => S)) S 44 [none, none, none, some (.int x1), none, none] [] (k2 x1)) (fun x1 => ?_) (fun k2 h3 => ?_)
  · refine s_run X ok_X0_atPlace 18 1 (pc' := 45) (vs' := [none, none, none, some (.int x1), none, none]) (st' := [.int x1]) rfl ?_
    exact s_iret X hr (dk okd_X0_atPlace 5 rfl) rfl rfl
  · refine s_lp (κ := Int32 → Option (Int32)) (fun k5 => ∀ (x4 : Int32), Jd C 6 (QJ C oI (fun _ => S)) S 2 [some (.ref p0), some (.int p1), some (.int p2), some (.int x4), none, none] [] (k5 x4)) (fun _ => s_none) (fun k5 h6 x4 => ?_) FU 0
    refine s_run X ok_X0_atPlace 2 2 (pc' := 4) (vs' := [some (.ref p0), some (.int p1), some (.int p2), some (.int x4), none, none]) (st' := [.int p2, .int x4]) rfl ?_
    refine s_icmp_ge (tgt := 52) X (dk okd_X0_atPlace 0 rfl) (by decide) ?_ ?_
    · refine s_run X ok_X0_atPlace 21 1 (pc' := 53) (vs' := [some (.ref p0), some (.int p1), some (.int p2), some (.int x4), none, none]) (st' := [.int (-1)]) rfl ?_
      exact s_iret X hr (dk okd_X0_atPlace 6 rfl) rfl rfl
    · refine s_run X ok_X0_atPlace 4 4 (pc' := 13) (vs' := [some (.ref p0), some (.int p1), some (.int p2), some (.int x4), some (.int 0), some (.int 0)]) (st' := []) rfl ?_
      refine s_jn (κ := Int32 → Option (Int32)) (fun k8 => ∀ (x7 : Int32), Jd C 6 (QJ C oI (fun _ => S)) S 38 [some (.ref p0), some (.int p1), some (.int p2), some (.int x4), some (.int x7), none] [] (k8 x7)) (fun x7 => ?_) (fun k8 h9 => ?_)
      · refine s_run X ok_X0_atPlace 16 2 (pc' := 41) (vs' := [some (.ref p0), some (.int p1), some (.int p2), some (.int x4), some (.int x7), none]) (st' := [.int p1, .int x7]) rfl ?_
        refine s_icmp_ne (tgt := 46) X (dk okd_X0_atPlace 4 rfl) (by decide) ?_ ?_
        · refine s_run X ok_X0_atPlace 19 2 (pc' := 2) (vs' := [some (.ref p0), some (.int p1), some (.int p2), some (.int (x4 + 1)), some (.int x7), none]) (st' := []) rfl ?_
          exact s_less [true, true, true, true, false, false] rfl (h6 (x4 + 1))
        · exact s_less [false, false, false, true, false, false] rfl (h3 x4)
      · refine s_lp (κ := Int32 → Int32 → Option (Int32)) (fun k12 => ∀ (x10 : Int32) (x11 : Int32), Jd C 6 (QJ C oI (fun _ => S)) S 13 [some (.ref p0), some (.int p1), some (.int p2), some (.int x4), some (.int x10), some (.int x11)] [] (k12 x10 x11)) (fun _ _ => s_none) (fun k12 h13 x10 x11 => ?_) FU 0 0
        refine s_run X ok_X0_atPlace 8 2 (pc' := 16) (vs' := [some (.ref p0), some (.int p1), some (.int p2), some (.int x4), some (.int x10), some (.int x11)]) (st' := [.int p2, .int x11]) rfl ?_
        refine s_icmp_ge (tgt := 38) X (dk okd_X0_atPlace 1 rfl) (by decide) ?_ ?_
        · exact s_less [true, true, true, true, true, false] rfl (h9 x10)
        · refine s_run X ok_X0_atPlace 10 3 (pc' := 23) (vs' := [some (.ref p0), some (.int p1), some (.int p2), some (.int x4), some (.int x10), some (.int x11)]) (st' := [.int x4, .int x11, .ref p0]) rfl ?_
          refine s_callV (b := p0) (As := [.int x11, .int x4]) (rest := []) X E mv_X0_58 (c_X0_ranksBefore S p0 x11 x4) rfl (ta1 t0_) rfl (by decide) t0_ rfl rfl (Nat.le_of_ble_eq_true rfl) (Nat.le_of_ble_eq_true rfl) (Nat.le_of_ble_eq_true rfl) (dk okd_X0_atPlace 2 rfl) (st' := fun v14 => [.int v14]) (fun _ => rfl) (fun v14 => ?_)
          refine s_jn (κ := Int32 → Option (Int32)) (fun k16 => ∀ (x15 : Int32), Jd C 6 (QJ C oI (fun _ => S)) S 32 [some (.ref p0), some (.int p1), some (.int p2), some (.int x4), some (.int x15), some (.int x11)] [] (k16 x15)) (fun x15 => ?_) (fun k16 h17 => ?_)
          · refine s_run X ok_X0_atPlace 14 2 (pc' := 13) (vs' := [some (.ref p0), some (.int p1), some (.int p2), some (.int x4), some (.int x15), some (.int (x11 + 1))]) (st' := []) rfl ?_
            exact h13 x15 (x11 + 1)
          · refine s_if_eq (tgt := 32) X (dk okd_X0_atPlace 3 rfl) (by decide) ?_ ?_
            · exact h17 x10
            · refine s_run X ok_X0_atPlace 13 1 (pc' := 32) (vs' := [some (.ref p0), some (.int p1), some (.int p2), some (.int x4), some (.int (x10 + 1)), some (.int x11)]) (st' := []) rfl ?_
              exact h17 (x10 + 1)
def tab_X1_clear : List En := [(0, 8, 0, 0), (7, 8, 0, 0), (14, 8, 0, 0), (18, 0, 0, 0), (22, 8, 0, 0), (26, 0, 0, 0), (30, 8, 0, 0), (37, 8, 0, 0)]
theorem ok_X1_clear : tab_X1_clear.all (okE cX1_clear) = true := by decide +kernel
def ed_X1_clear : List (Nat × Instr × Nat) := [(1, .getfield 12, 3), (4, .invokevirtual 57, 3), (8, .getfield 21, 3), (11, .invokevirtual 60, 3), (15, .getfield 28, 3), (19, .putfield 61, 3), (23, .getfield 35, 3), (27, .putfield 65, 3), (31, .getfield 42, 3), (34, .invokevirtual 66, 3), (38, .getfield 49, 3), (41, .invokevirtual 67, 3), (44, .return_, 1)]
theorem okd_X1_clear : ed_X1_clear.all (okD cX1_clear) = true := by decide +kernel
def f_X1_clear (S : St) (p0 : Nat) : Option (St) := lt (gR S p0 0) fun (a1 : Nat) => cl (f_X8_clear S a1) fun (S3 : St) => lt (gR S3 p0 1) fun (a4 : Nat) => cl (f_X3_clear S3 a4) fun (S6 : St) => lt (gR S6 p0 2) fun (a7 : Nat) => lt (uI S6 a7 4 0) fun (S9 : St) => lt (gR S9 p0 3) fun (a10 : Nat) => lt (uI S9 a10 8 0) fun (S12 : St) => lt (gR S12 p0 4) fun (a13 : Nat) => cl (f_X10_clear S12 a13) fun (S15 : St) => lt (gR S15 p0 5) fun (a16 : Nat) => cl (f_X0_clear S15 a16) fun (S18 : St) => some S18
set_option maxHeartbeats 4000000 in
set_option maxRecDepth 100000 in
theorem c_X1_clear (S : St) (p0 : Nat) : Ct yX1_clear cX1_clear 1 none 2 44 (fun _ => [.ref p0]) [(p0, 1)] S (f_X1_clear S p0) oV sV := by
  refine Ct_of RX1 rfl (by decide) (fun _ => Nat.le_of_ble_eq_true rfl) 0 (vs := fun _ => [some (.ref p0)]) (fun _ => rfl) (fun C X E hr ht => ?_)
  have t0_ : tT C p0 1 := ht (p0, 1) (by simp)
  show Jd C 1 (QJ C oV sV) S 0 [some (.ref p0)] [] (f_X1_clear S p0)
  unfold f_X1_clear
  refine s_run X ok_X1_clear 0 1 (pc' := 1) (vs' := [some (.ref p0)]) (st' := [.ref p0]) rfl ?_
  refine s_getR X fl_X1_12 t0_ (dk okd_X1_clear 0 rfl) (fun a1 (t2 : tT C a1 7) => ?_)
  refine s_callV (b := a1) (As := []) (rest := []) X E mv_X1_57 (c_X8_clear S a1) rfl (ta1 t2) rfl (by decide) t2 rfl rfl (Nat.le_of_ble_eq_true rfl) (Nat.le_of_ble_eq_true rfl) (Nat.le_of_ble_eq_true rfl) (dk okd_X1_clear 1 rfl) (st' := fun S3 => []) (fun _ => rfl) (fun S3 => ?_)
  refine s_run X ok_X1_clear 1 1 (pc' := 8) (vs' := [some (.ref p0)]) (st' := [.ref p0]) rfl ?_
  refine s_getR X fl_X1_21 t0_ (dk okd_X1_clear 2 rfl) (fun a4 (t5 : tT C a4 3) => ?_)
  refine s_callV (b := a4) (As := []) (rest := []) X E mv_X1_60 (c_X3_clear S3 a4) rfl (ta1 t5) rfl (by decide) t5 rfl rfl (Nat.le_of_ble_eq_true rfl) (Nat.le_of_ble_eq_true rfl) (Nat.le_of_ble_eq_true rfl) (dk okd_X1_clear 3 rfl) (st' := fun S6 => []) (fun _ => rfl) (fun S6 => ?_)
  refine s_run X ok_X1_clear 2 1 (pc' := 15) (vs' := [some (.ref p0)]) (st' := [.ref p0]) rfl ?_
  refine s_getR X fl_X1_28 t0_ (dk okd_X1_clear 4 rfl) (fun a7 (t8 : tT C a7 6) => ?_)
  refine s_run X ok_X1_clear 3 1 (pc' := 19) (vs' := [some (.ref p0)]) (st' := [.int 0, .ref a7]) rfl ?_
  refine s_putI X fp_X1_61 t8 (dk okd_X1_clear 5 rfl) (fun S9 => ?_)
  refine s_run X ok_X1_clear 4 1 (pc' := 23) (vs' := [some (.ref p0)]) (st' := [.ref p0]) rfl ?_
  refine s_getR X fl_X1_35 t0_ (dk okd_X1_clear 6 rfl) (fun a10 (t11 : tT C a10 2) => ?_)
  refine s_run X ok_X1_clear 5 1 (pc' := 27) (vs' := [some (.ref p0)]) (st' := [.int 0, .ref a10]) rfl ?_
  refine s_putI X fp_X1_65 t11 (dk okd_X1_clear 7 rfl) (fun S12 => ?_)
  refine s_run X ok_X1_clear 6 1 (pc' := 31) (vs' := [some (.ref p0)]) (st' := [.ref p0]) rfl ?_
  refine s_getR X fl_X1_42 t0_ (dk okd_X1_clear 8 rfl) (fun a13 (t14 : tT C a13 9) => ?_)
  refine s_callV (b := a13) (As := []) (rest := []) X E mv_X1_66 (c_X10_clear S12 a13) rfl (ta1 t14) rfl (by decide) t14 rfl rfl (Nat.le_of_ble_eq_true rfl) (Nat.le_of_ble_eq_true rfl) (Nat.le_of_ble_eq_true rfl) (dk okd_X1_clear 9 rfl) (st' := fun S15 => []) (fun _ => rfl) (fun S15 => ?_)
  refine s_run X ok_X1_clear 7 1 (pc' := 38) (vs' := [some (.ref p0)]) (st' := [.ref p0]) rfl ?_
  refine s_getR X fl_X1_49 t0_ (dk okd_X1_clear 10 rfl) (fun a16 (t17 : tT C a16 0) => ?_)
  refine s_callV (b := a16) (As := []) (rest := []) X E mv_X1_67 (c_X0_clear S15 a16) rfl (ta1 t17) rfl (by decide) t17 rfl rfl (Nat.le_of_ble_eq_true rfl) (Nat.le_of_ble_eq_true rfl) (Nat.le_of_ble_eq_true rfl) (dk okd_X1_clear 11 rfl) (st' := fun S18 => []) (fun _ => rfl) (fun S18 => ?_)
  exact s_vret X hr (dk okd_X1_clear 12 rfl) rfl rfl
def tab_X1_calculate : List En := [(0, 8, 0, 0), (4, 3, 0, 0), (8, 8, 0, 0), (12, 4, 1, 0), (20, 8, 0, 0), (27, 4, 1, 0), (29, 11, 4, 0), (31, 8, 0, 0), (35, 0, 0, 0), (36, 8, 0, 0), (40, 5, 4, 0), (42, 6, 2, 0), (47, 8, 0, 0), (51, 0, 0, 1), (52, 8, 0, 0), (56, 5, 4, 0), (58, 6, 2, 0), (63, 8, 0, 0), (67, 0, 0, 2), (68, 8, 0, 0), (69, 8, 0, 0), (73, 4, 1, 0), (81, 8, 0, 0), (85, 0, 0, 3), (86, 8, 0, 0), (87, 4, 1, 0), (92, 8, 0, 0), (96, 0, 0, 4), (97, 8, 0, 0), (98, 4, 1, 0), (103, 8, 0, 0), (107, 0, 0, 5), (108, 8, 0, 0), (112, 0, 0, 0), (114, 8, 0, 0), (118, 0, 0, 1), (120, 23, 0, 0), (121, 8, 0, 0), (125, 0, 0, 2), (127, 23, 0, 0), (128, 8, 0, 0), (132, 0, 0, 3), (134, 23, 0, 0), (135, 8, 0, 0), (139, 0, 0, 4), (141, 24, 0, 0)]
theorem ok_X1_calculate : tab_X1_calculate.all (okE cX1_calculate) = true := by decide +kernel
def ed_X1_calculate : List (Nat × Instr × Nat) := [(1, .getfield 53, 3), (5, .invokestatic 142, 3), (9, .getfield 35, 3), (13, .invokevirtual 108, 3), (16, .ifCond .ne 4, 3), (19, .return_, 1), (21, .getfield 35, 3), (24, .getfield 148, 3), (28, .iaload, 1), (32, .getfield 53, 3), (37, .getfield 12, 3), (43, .invokevirtual 151, 3), (46, .lastore, 1), (48, .getfield 53, 3), (53, .getfield 12, 3), (59, .invokevirtual 155, 3), (62, .lastore, 1), (64, .getfield 53, 3), (70, .getfield 35, 3), (74, .invokevirtual 158, 3), (77, .invokevirtual 162, 3), (80, .lastore, 1), (82, .getfield 53, 3), (88, .invokevirtual 166, 3), (91, .lastore, 1), (93, .getfield 53, 3), (99, .invokevirtual 169, 3), (102, .lastore, 1), (104, .getfield 53, 3), (109, .getfield 53, 3), (113, .laload, 1), (115, .getfield 53, 3), (119, .laload, 1), (122, .getfield 53, 3), (126, .laload, 1), (129, .getfield 53, 3), (133, .laload, 1), (136, .getfield 53, 3), (140, .laload, 1), (142, .lastore, 1), (143, .return_, 1)]
theorem okd_X1_calculate : ed_X1_calculate.all (okD cX1_calculate) = true := by decide +kernel
def f_X1_calculate (S : St) (p0 : Nat) (p1 : Int32) (p2 : Int64) : Option (St) := lt (gR S p0 6) fun (a1 : Nat) => cl (f_J7_fill_d0a16 S a1 0) fun (S3 : St) => lt (gR S3 p0 3) fun (a4 : Nat) => cl (f_X2_isActive S3 a4 p1) fun (v6 : Int32) => if v6 = 0 then (some S3) else (lt (gR S3 p0 3) fun (a7 : Nat) => lt (gR S3 a7 2) fun (a9 : Nat) => ldI S3 a9 p1 fun (v11 : Int32) => lt (gR S3 p0 6) fun (a12 : Nat) => lt (gR S3 p0 0) fun (a14 : Nat) => cl (f_X8_royaltyFor S3 a14 v11 p2) fun (v16 : Int64) => stJ S3 a12 0 v16 fun (S17 : St) => lt (gR S17 p0 6) fun (a18 : Nat) => lt (gR S17 p0 0) fun (a20 : Nat) => cl (f_X8_contributionFor S17 a20 v11 p2) fun (v22 : Int64) => stJ S17 a18 1 v22 fun (S23 : St) => lt (gR S23 p0 6) fun (a24 : Nat) => lt (gR S23 p0 3) fun (a26 : Nat) => cl (f_X2_owedBy S23 a26 p1) fun (v28 : Int64) => cl (f_X1_interestOn S23 p0 v28) fun (v29 : Int64) => stJ S23 a24 2 v29 fun (S30 : St) => lt (gR S30 p0 6) fun (a31 : Nat) => cl (f_X1_creditsPaid S30 p0 p1) fun (v33 : Int64) => stJ S30 a31 3 v33 fun (S34 : St) => lt (gR S34 p0 6) fun (a35 : Nat) => cl (f_X1_creditsReceived S34 p0 p1) fun (v37 : Int64) => stJ S34 a35 4 v37 fun (S38 : St) => lt (gR S38 p0 6) fun (a39 : Nat) => lt (gR S38 p0 6) fun (a41 : Nat) => ldJ S38 a41 0 fun (v43 : Int64) => lt (gR S38 p0 6) fun (a44 : Nat) => ldJ S38 a44 1 fun (v46 : Int64) => lt (gR S38 p0 6) fun (a47 : Nat) => ldJ S38 a47 2 fun (v49 : Int64) => lt (gR S38 p0 6) fun (a50 : Nat) => ldJ S38 a50 3 fun (v52 : Int64) => lt (gR S38 p0 6) fun (a53 : Nat) => ldJ S38 a53 4 fun (v55 : Int64) => stJ S38 a39 5 ((((v43 + v46) + v49) + v52) - v55) fun (S56 : St) => some S56)
set_option maxHeartbeats 4000000 in
set_option maxRecDepth 100000 in
theorem c_X1_calculate (S : St) (p0 : Nat) (p1 : Int32) (p2 : Int64) : Ct yX1_calculate cX1_calculate 5 none 3 69 (fun _ => [.ref p0, .int p1, .long p2]) [(p0, 1)] S (f_X1_calculate S p0 p1 p2) oV sV := by
  refine Ct_of RX1 rfl (by decide) (fun _ => Nat.le_of_ble_eq_true rfl) 1 (vs := fun _ => [some (.ref p0), some (.int p1), some (.long p2), none, none]) (fun _ => rfl) (fun C X E hr ht => ?_)
  have t0_ : tT C p0 1 := ht (p0, 1) (by simp)
  show Jd C 5 (QJ C oV sV) S 0 [some (.ref p0), some (.int p1), some (.long p2), none, none] [] (f_X1_calculate S p0 p1 p2)
  unfold f_X1_calculate
  refine s_run X ok_X1_calculate 0 1 (pc' := 1) (vs' := [some (.ref p0), some (.int p1), some (.long p2), none, none]) (st' := [.ref p0]) rfl ?_
  refine s_getR X fl_X1_53 t0_ (dk okd_X1_calculate 0 rfl) (fun a1 (t2 : tT C a1 14) => ?_)
  refine s_run X ok_X1_calculate 1 1 (pc' := 5) (vs' := [some (.ref p0), some (.int p1), some (.long p2), none, none]) (st' := [.long 0, .ref a1]) rfl ?_
  refine s_callS (As := [.ref a1, .long 0]) (rest := []) X E ms_X1_142 (c_J7_fill_d0a16 S a1 0) rfl (ta1 t2) rfl rfl (Nat.le_of_ble_eq_true rfl) (Nat.le_of_ble_eq_true rfl) (Nat.le_of_ble_eq_true rfl) (dk okd_X1_calculate 1 rfl) (st' := fun S3 => []) (fun _ => rfl) (fun S3 => ?_)
  refine s_run X ok_X1_calculate 2 1 (pc' := 9) (vs' := [some (.ref p0), some (.int p1), some (.long p2), none, none]) (st' := [.ref p0]) rfl ?_
  refine s_getR X fl_X1_35 t0_ (dk okd_X1_calculate 2 rfl) (fun a4 (t5 : tT C a4 2) => ?_)
  refine s_run X ok_X1_calculate 3 1 (pc' := 13) (vs' := [some (.ref p0), some (.int p1), some (.long p2), none, none]) (st' := [.int p1, .ref a4]) rfl ?_
  refine s_callV (b := a4) (As := [.int p1]) (rest := []) X E mv_X1_108 (c_X2_isActive S3 a4 p1) rfl (ta1 t5) rfl (by decide) t5 rfl rfl (Nat.le_of_ble_eq_true rfl) (Nat.le_of_ble_eq_true rfl) (Nat.le_of_ble_eq_true rfl) (dk okd_X1_calculate 3 rfl) (st' := fun v6 => [.int v6]) (fun _ => rfl) (fun v6 => ?_)
  refine s_if_ne (tgt := 20) X (dk okd_X1_calculate 4 rfl) (by decide) ?_ ?_
  · refine s_run X ok_X1_calculate 4 1 (pc' := 21) (vs' := [some (.ref p0), some (.int p1), some (.long p2), none, none]) (st' := [.ref p0]) rfl ?_
    refine s_getR X fl_X1_35 t0_ (dk okd_X1_calculate 6 rfl) (fun a7 (t8 : tT C a7 2) => ?_)
    refine s_getR X fl_X1_148 t8 (dk okd_X1_calculate 7 rfl) (fun a9 (t10 : tT C a9 13) => ?_)
    refine s_run X ok_X1_calculate 5 1 (pc' := 28) (vs' := [some (.ref p0), some (.int p1), some (.long p2), none, none]) (st' := [.int p1, .ref a9]) rfl ?_
    refine s_iald X t10 (dk okd_X1_calculate 8 rfl) (fun v11 => ?_)
    refine s_run X ok_X1_calculate 6 2 (pc' := 32) (vs' := [some (.ref p0), some (.int p1), some (.long p2), none, some (.int v11)]) (st' := [.ref p0]) rfl ?_
    refine s_getR X fl_X1_53 t0_ (dk okd_X1_calculate 9 rfl) (fun a12 (t13 : tT C a12 14) => ?_)
    refine s_run X ok_X1_calculate 8 2 (pc' := 37) (vs' := [some (.ref p0), some (.int p1), some (.long p2), none, some (.int v11)]) (st' := [.ref p0, .int 0, .ref a12]) rfl ?_
    refine s_getR X fl_X1_12 t0_ (dk okd_X1_calculate 10 rfl) (fun a14 (t15 : tT C a14 7) => ?_)
    refine s_run X ok_X1_calculate 10 2 (pc' := 43) (vs' := [some (.ref p0), some (.int p1), some (.long p2), none, some (.int v11)]) (st' := [.long p2, .int v11, .ref a14, .int 0, .ref a12]) rfl ?_
    refine s_callV (b := a14) (As := [.int v11, .long p2]) (rest := [.int 0, .ref a12]) X E mv_X1_151 (c_X8_royaltyFor S3 a14 v11 p2) rfl (ta1 t15) rfl (by decide) t15 rfl rfl (Nat.le_of_ble_eq_true rfl) (Nat.le_of_ble_eq_true rfl) (Nat.le_of_ble_eq_true rfl) (dk okd_X1_calculate 11 rfl) (st' := fun v16 => [.long v16, .int 0, .ref a12]) (fun _ => rfl) (fun v16 => ?_)
    refine s_last X t13 (dk okd_X1_calculate 12 rfl) (fun S17 => ?_)
    refine s_run X ok_X1_calculate 12 1 (pc' := 48) (vs' := [some (.ref p0), some (.int p1), some (.long p2), none, some (.int v11)]) (st' := [.ref p0]) rfl ?_
    refine s_getR X fl_X1_53 t0_ (dk okd_X1_calculate 13 rfl) (fun a18 (t19 : tT C a18 14) => ?_)
    refine s_run X ok_X1_calculate 13 2 (pc' := 53) (vs' := [some (.ref p0), some (.int p1), some (.long p2), none, some (.int v11)]) (st' := [.ref p0, .int 1, .ref a18]) rfl ?_
    refine s_getR X fl_X1_12 t0_ (dk okd_X1_calculate 14 rfl) (fun a20 (t21 : tT C a20 7) => ?_)
    refine s_run X ok_X1_calculate 15 2 (pc' := 59) (vs' := [some (.ref p0), some (.int p1), some (.long p2), none, some (.int v11)]) (st' := [.long p2, .int v11, .ref a20, .int 1, .ref a18]) rfl ?_
    refine s_callV (b := a20) (As := [.int v11, .long p2]) (rest := [.int 1, .ref a18]) X E mv_X1_155 (c_X8_contributionFor S17 a20 v11 p2) rfl (ta1 t21) rfl (by decide) t21 rfl rfl (Nat.le_of_ble_eq_true rfl) (Nat.le_of_ble_eq_true rfl) (Nat.le_of_ble_eq_true rfl) (dk okd_X1_calculate 15 rfl) (st' := fun v22 => [.long v22, .int 1, .ref a18]) (fun _ => rfl) (fun v22 => ?_)
    refine s_last X t19 (dk okd_X1_calculate 16 rfl) (fun S23 => ?_)
    refine s_run X ok_X1_calculate 17 1 (pc' := 64) (vs' := [some (.ref p0), some (.int p1), some (.long p2), none, some (.int v11)]) (st' := [.ref p0]) rfl ?_
    refine s_getR X fl_X1_53 t0_ (dk okd_X1_calculate 17 rfl) (fun a24 (t25 : tT C a24 14) => ?_)
    refine s_run X ok_X1_calculate 18 3 (pc' := 70) (vs' := [some (.ref p0), some (.int p1), some (.long p2), none, some (.int v11)]) (st' := [.ref p0, .ref p0, .int 2, .ref a24]) rfl ?_
    refine s_getR X fl_X1_35 t0_ (dk okd_X1_calculate 18 rfl) (fun a26 (t27 : tT C a26 2) => ?_)
    refine s_run X ok_X1_calculate 21 1 (pc' := 74) (vs' := [some (.ref p0), some (.int p1), some (.long p2), none, some (.int v11)]) (st' := [.int p1, .ref a26, .ref p0, .int 2, .ref a24]) rfl ?_
    refine s_callV (b := a26) (As := [.int p1]) (rest := [.ref p0, .int 2, .ref a24]) X E mv_X1_158 (c_X2_owedBy S23 a26 p1) rfl (ta1 t27) rfl (by decide) t27 rfl rfl (Nat.le_of_ble_eq_true rfl) (Nat.le_of_ble_eq_true rfl) (Nat.le_of_ble_eq_true rfl) (dk okd_X1_calculate 19 rfl) (st' := fun v28 => [.long v28, .ref p0, .int 2, .ref a24]) (fun _ => rfl) (fun v28 => ?_)
    refine s_callV (b := p0) (As := [.long v28]) (rest := [.int 2, .ref a24]) X E mv_X1_162 (c_X1_interestOn S23 p0 v28) rfl (ta1 t0_) rfl (by decide) t0_ rfl rfl (Nat.le_of_ble_eq_true rfl) (Nat.le_of_ble_eq_true rfl) (Nat.le_of_ble_eq_true rfl) (dk okd_X1_calculate 20 rfl) (st' := fun v29 => [.long v29, .int 2, .ref a24]) (fun _ => rfl) (fun v29 => ?_)
    refine s_last X t25 (dk okd_X1_calculate 21 rfl) (fun S30 => ?_)
    refine s_run X ok_X1_calculate 22 1 (pc' := 82) (vs' := [some (.ref p0), some (.int p1), some (.long p2), none, some (.int v11)]) (st' := [.ref p0]) rfl ?_
    refine s_getR X fl_X1_53 t0_ (dk okd_X1_calculate 22 rfl) (fun a31 (t32 : tT C a31 14) => ?_)
    refine s_run X ok_X1_calculate 23 3 (pc' := 88) (vs' := [some (.ref p0), some (.int p1), some (.long p2), none, some (.int v11)]) (st' := [.int p1, .ref p0, .int 3, .ref a31]) rfl ?_
    refine s_callV (b := p0) (As := [.int p1]) (rest := [.int 3, .ref a31]) X E mv_X1_166 (c_X1_creditsPaid S30 p0 p1) rfl (ta1 t0_) rfl (by decide) t0_ rfl rfl (Nat.le_of_ble_eq_true rfl) (Nat.le_of_ble_eq_true rfl) (Nat.le_of_ble_eq_true rfl) (dk okd_X1_calculate 23 rfl) (st' := fun v33 => [.long v33, .int 3, .ref a31]) (fun _ => rfl) (fun v33 => ?_)
    refine s_last X t32 (dk okd_X1_calculate 24 rfl) (fun S34 => ?_)
    refine s_run X ok_X1_calculate 26 1 (pc' := 93) (vs' := [some (.ref p0), some (.int p1), some (.long p2), none, some (.int v11)]) (st' := [.ref p0]) rfl ?_
    refine s_getR X fl_X1_53 t0_ (dk okd_X1_calculate 25 rfl) (fun a35 (t36 : tT C a35 14) => ?_)
    refine s_run X ok_X1_calculate 27 3 (pc' := 99) (vs' := [some (.ref p0), some (.int p1), some (.long p2), none, some (.int v11)]) (st' := [.int p1, .ref p0, .int 4, .ref a35]) rfl ?_
    refine s_callV (b := p0) (As := [.int p1]) (rest := [.int 4, .ref a35]) X E mv_X1_169 (c_X1_creditsReceived S34 p0 p1) rfl (ta1 t0_) rfl (by decide) t0_ rfl rfl (Nat.le_of_ble_eq_true rfl) (Nat.le_of_ble_eq_true rfl) (Nat.le_of_ble_eq_true rfl) (dk okd_X1_calculate 26 rfl) (st' := fun v37 => [.long v37, .int 4, .ref a35]) (fun _ => rfl) (fun v37 => ?_)
    refine s_last X t36 (dk okd_X1_calculate 27 rfl) (fun S38 => ?_)
    refine s_run X ok_X1_calculate 30 1 (pc' := 104) (vs' := [some (.ref p0), some (.int p1), some (.long p2), none, some (.int v11)]) (st' := [.ref p0]) rfl ?_
    refine s_getR X fl_X1_53 t0_ (dk okd_X1_calculate 28 rfl) (fun a39 (t40 : tT C a39 14) => ?_)
    refine s_run X ok_X1_calculate 31 2 (pc' := 109) (vs' := [some (.ref p0), some (.int p1), some (.long p2), none, some (.int v11)]) (st' := [.ref p0, .int 5, .ref a39]) rfl ?_
    refine s_getR X fl_X1_53 t0_ (dk okd_X1_calculate 29 rfl) (fun a41 (t42 : tT C a41 14) => ?_)
    refine s_run X ok_X1_calculate 33 1 (pc' := 113) (vs' := [some (.ref p0), some (.int p1), some (.long p2), none, some (.int v11)]) (st' := [.int 0, .ref a41, .int 5, .ref a39]) rfl ?_
    refine s_lald X t42 (dk okd_X1_calculate 30 rfl) (fun v43 => ?_)
    refine s_run X ok_X1_calculate 34 1 (pc' := 115) (vs' := [some (.ref p0), some (.int p1), some (.long p2), none, some (.int v11)]) (st' := [.ref p0, .long v43, .int 5, .ref a39]) rfl ?_
    refine s_getR X fl_X1_53 t0_ (dk okd_X1_calculate 31 rfl) (fun a44 (t45 : tT C a44 14) => ?_)
    refine s_run X ok_X1_calculate 35 1 (pc' := 119) (vs' := [some (.ref p0), some (.int p1), some (.long p2), none, some (.int v11)]) (st' := [.int 1, .ref a44, .long v43, .int 5, .ref a39]) rfl ?_
    refine s_lald X t45 (dk okd_X1_calculate 32 rfl) (fun v46 => ?_)
    refine s_run X ok_X1_calculate 36 2 (pc' := 122) (vs' := [some (.ref p0), some (.int p1), some (.long p2), none, some (.int v11)]) (st' := [.ref p0, .long (v43 + v46), .int 5, .ref a39]) rfl ?_
    refine s_getR X fl_X1_53 t0_ (dk okd_X1_calculate 33 rfl) (fun a47 (t48 : tT C a47 14) => ?_)
    refine s_run X ok_X1_calculate 38 1 (pc' := 126) (vs' := [some (.ref p0), some (.int p1), some (.long p2), none, some (.int v11)]) (st' := [.int 2, .ref a47, .long (v43 + v46), .int 5, .ref a39]) rfl ?_
    refine s_lald X t48 (dk okd_X1_calculate 34 rfl) (fun v49 => ?_)
    refine s_run X ok_X1_calculate 39 2 (pc' := 129) (vs' := [some (.ref p0), some (.int p1), some (.long p2), none, some (.int v11)]) (st' := [.ref p0, .long ((v43 + v46) + v49), .int 5, .ref a39]) rfl ?_
    refine s_getR X fl_X1_53 t0_ (dk okd_X1_calculate 35 rfl) (fun a50 (t51 : tT C a50 14) => ?_)
    refine s_run X ok_X1_calculate 41 1 (pc' := 133) (vs' := [some (.ref p0), some (.int p1), some (.long p2), none, some (.int v11)]) (st' := [.int 3, .ref a50, .long ((v43 + v46) + v49), .int 5, .ref a39]) rfl ?_
    refine s_lald X t51 (dk okd_X1_calculate 36 rfl) (fun v52 => ?_)
    refine s_run X ok_X1_calculate 42 2 (pc' := 136) (vs' := [some (.ref p0), some (.int p1), some (.long p2), none, some (.int v11)]) (st' := [.ref p0, .long (((v43 + v46) + v49) + v52), .int 5, .ref a39]) rfl ?_
    refine s_getR X fl_X1_53 t0_ (dk okd_X1_calculate 37 rfl) (fun a53 (t54 : tT C a53 14) => ?_)
    refine s_run X ok_X1_calculate 44 1 (pc' := 140) (vs' := [some (.ref p0), some (.int p1), some (.long p2), none, some (.int v11)]) (st' := [.int 4, .ref a53, .long (((v43 + v46) + v49) + v52), .int 5, .ref a39]) rfl ?_
    refine s_lald X t54 (dk okd_X1_calculate 38 rfl) (fun v55 => ?_)
    refine s_run X ok_X1_calculate 45 1 (pc' := 142) (vs' := [some (.ref p0), some (.int p1), some (.long p2), none, some (.int v11)]) (st' := [.long ((((v43 + v46) + v49) + v52) - v55), .int 5, .ref a39]) rfl ?_
    refine s_last X t40 (dk okd_X1_calculate 39 rfl) (fun S56 => ?_)
    exact s_vret X hr (dk okd_X1_calculate 40 rfl) rfl rfl
  · exact s_vret X hr (dk okd_X1_calculate 5 rfl) rfl rfl
def tab_X1_close : List En := [(0, 8, 0, 0), (10, 0, 0, 0), (12, 3, 0, 0), (13, 12, 1, 0), (14, 0, 0, 0), (15, 10, 3, 0), (16, 4, 3, 0), (17, 8, 0, 0), (27, 8, 0, 0), (28, 4, 3, 0), (29, 8, 0, 0), (33, 4, 3, 0), (40, 8, 0, 0), (41, 4, 3, 0), (45, 6, 1, 0), (46, 8, 0, 0), (50, 0, 0, 1), (52, 23, 0, 0), (53, 12, 1, 0), (54, 16, 3, 1), (57, 41, 16, 0), (60, 8, 0, 0), (67, 0, 0, 0), (68, 37, 0, 0), (70, 6, 1, 0), (71, 8, 0, 0), (78, 31, 0, 0), (82, 23, 0, 0), (84, 0, 0, 0), (85, 10, 3, 0), (86, 4, 3, 0), (87, 8, 0, 0), (97, 8, 0, 0), (98, 4, 3, 0), (102, 8, 0, 0), (106, 4, 3, 0), (107, 8, 0, 0), (114, 4, 3, 0), (119, 8, 0, 0), (123, 4, 3, 0), (124, 8, 0, 0), (128, 4, 3, 0), (135, 16, 3, 1), (138, 41, 86, 0), (141, 8, 0, 0), (148, 3, 0, 0), (152, 8, 0, 0), (159, 8, 0, 0), (163, 36, 0, 0), (167, 0, 0, 1), (168, 17, 0, 0), (172, 0, 0, 1)]
theorem ok_X1_close : tab_X1_close.all (okE cX1_close) = true := by decide +kernel
def ed_X1_close : List (Nat × Instr × Nat) := [(1, .getfield 49, 3), (4, .invokevirtual 172, 3), (7, .ifCond .ne 5, 3), (11, .ireturn, 1), (18, .getfield 35, 3), (21, .getfield 65, 3), (24, .if_icmp .ge 36, 3), (30, .getfield 28, 3), (34, .invokevirtual 176, 3), (37, .invokevirtual 179, 3), (42, .invokevirtual 183, 3), (47, .getfield 53, 3), (51, .laload, 1), (61, .getfield 49, 3), (64, .getfield 187, 3), (69, .laload, 1), (72, .getfield 12, 3), (75, .getfield 190, 3), (79, .invokestatic 123, 3), (83, .lastore, 1), (88, .getfield 35, 3), (91, .getfield 65, 3), (94, .if_icmp .ge 47, 3), (99, .invokevirtual 193, 3), (103, .getfield 49, 3), (108, .getfield 35, 3), (111, .getfield 196, 3), (115, .laload, 1), (116, .invokevirtual 199, 3), (120, .getfield 49, 3), (125, .getfield 28, 3), (129, .invokevirtual 176, 3), (132, .invokevirtual 202, 3), (142, .getfield 28, 3), (145, .getfield 101, 3), (149, .invokestatic 142, 3), (153, .getfield 49, 3), (156, .invokevirtual 205, 3), (160, .getfield 49, 3), (164, .getfield 208, 3), (169, .putfield 208, 3), (173, .ireturn, 1)]
theorem okd_X1_close : ed_X1_close.all (okD cX1_close) = true := by decide +kernel
def f_X1_close (S : St) (p0 : Nat) : Option (Int32 × St) := lt (gR S p0 5) fun (a1 : Nat) => cl (f_X0_hasOpenMonth S a1) fun (v3 : Int32) => if v3 = 0 then (some (0, S)) else (jn (κ := Int64 → St → Option (Int32 × St)) (fun x4 S5 => lt (gR S5 p0 5) fun (a8 : Nat) => lt (gR S5 a8 5) fun (a10 : Nat) => ldJ S5 a10 0 fun (v12 : Int64) => lt (gR S5 p0 0) fun (a13 : Nat) => lt (gI S5 a13 8) fun (v15 : Int32) => cl (f_X11_rateOf S5 x4 (Int32.toInt64 v15)) fun (v16 : Int64) => stJ S5 a10 0 (v12 + v16) fun (S17 : St) => jn (κ := St → Option (Int32 × St)) (fun S18 => lt (gR S18 p0 2) fun (a21 : Nat) => lt (gR S18 a21 3) fun (a23 : Nat) => cl (f_J7_fill_d0a16 S18 a23 0) fun (S25 : St) => lt (gR S25 p0 5) fun (a26 : Nat) => cl (f_X0_forgetDeliveries S25 a26) fun (S28 : St) => lt (gR S28 p0 5) fun (a29 : Nat) => lt (gI S28 a29 6) fun (v31 : Int32) => lt (uI S28 a29 6 (v31 + 1)) fun (S32 : St) => some (1, S32)) fun k19 => lp (κ := Int32 → St → Option (Int32 × St)) (fun _ _ => none) (fun k35 x33 S34 => lt (gR S34 p0 3) fun (a37 : Nat) => lt (gI S34 a37 8) fun (v39 : Int32) => if v39 ≤ x33 then (k19 S34) else (cl (f_X1_finishTransfer S34 p0 x33) fun (S40 : St) => lt (gR S40 p0 5) fun (a41 : Nat) => lt (gR S40 p0 3) fun (a43 : Nat) => lt (gR S40 a43 7) fun (a45 : Nat) => ldJ S40 a45 x33 fun (v47 : Int64) => cl (f_X0_enterBalance S40 a41 x33 v47) fun (S48 : St) => lt (gR S48 p0 5) fun (a49 : Nat) => lt (gR S48 p0 2) fun (a51 : Nat) => cl (f_X6_salesTogether S48 a51 x33) fun (v53 : Int64) => cl (f_X0_enterSales S48 a49 x33 v53) fun (S54 : St) => k35 (x33 + 1) S54)) FU 0 S17) fun k6 => lp (κ := Int64 → Int32 → St → Option (Int32 × St)) (fun _ _ _ => none) (fun k58 x55 x56 S57 => lt (gR S57 p0 3) fun (a60 : Nat) => lt (gI S57 a60 8) fun (v62 : Int32) => if v62 ≤ x56 then (k6 x55 S57) else (lt (gR S57 p0 2) fun (a63 : Nat) => cl (f_X6_salesTogether S57 a63 x56) fun (v65 : Int64) => cl (f_X1_calculate S57 p0 x56 v65) fun (S66 : St) => cl (f_X1_bill S66 p0 x56) fun (S67 : St) => lt (gR S67 p0 6) fun (a68 : Nat) => ldJ S67 a68 1 fun (v70 : Int64) => lt (x55 + v70) fun (v71 : Int64) => k58 v71 (x56 + 1) S67)) FU 0 0 S)
set_option maxHeartbeats 4000000 in
set_option maxRecDepth 100000 in
theorem c_X1_close (S : St) (p0 : Nat) : Ct yX1_close cX1_close 4 (some .boolean) 4 93 (fun _ => [.ref p0]) [(p0, 1)] S (f_X1_close S p0) oIS sS := by
  refine Ct_of RX1 rfl (by decide) (fun _ => Nat.le_of_ble_eq_true rfl) 3 (vs := fun _ => [some (.ref p0), none, none, none]) (fun _ => rfl) (fun C X E hr ht => ?_)
  have t0_ : tT C p0 1 := ht (p0, 1) (by simp)
  show Jd C 4 (QJ C oIS sS) S 0 [some (.ref p0), none, none, none] [] (f_X1_close S p0)
  unfold f_X1_close
  refine s_run X ok_X1_close 0 1 (pc' := 1) (vs' := [some (.ref p0), none, none, none]) (st' := [.ref p0]) rfl ?_
  refine s_getR X fl_X1_49 t0_ (dk okd_X1_close 0 rfl) (fun a1 (t2 : tT C a1 0) => ?_)
  refine s_callV (b := a1) (As := []) (rest := []) X E mv_X1_172 (c_X0_hasOpenMonth S a1) rfl (ta1 t2) rfl (by decide) t2 rfl rfl (Nat.le_of_ble_eq_true rfl) (Nat.le_of_ble_eq_true rfl) (Nat.le_of_ble_eq_true rfl) (dk okd_X1_close 1 rfl) (st' := fun v3 => [.int v3]) (fun _ => rfl) (fun v3 => ?_)
  refine s_if_ne (tgt := 12) X (dk okd_X1_close 2 rfl) (by decide) ?_ ?_
  · refine s_run X ok_X1_close 2 4 (pc' := 16) (vs' := [some (.ref p0), some (.long 0), none, some (.int 0)]) (st' := []) rfl ?_
    refine s_jn (κ := Int64 → St → Option (Int32 × St)) (fun k6 => ∀ (x4 : Int64) (S5 : St), Jd C 4 (QJ C oIS sS) S5 60 [some (.ref p0), some (.long x4), none, none] [] (k6 x4 S5)) (fun x4 S5 => ?_) (fun k6 h7 => ?_)
    · refine s_run X ok_X1_close 21 1 (pc' := 61) (vs' := [some (.ref p0), some (.long x4), none, none]) (st' := [.ref p0]) rfl ?_
      refine s_getR X fl_X1_49 t0_ (dk okd_X1_close 13 rfl) (fun a8 (t9 : tT C a8 0) => ?_)
      refine s_getR X fl_X1_187 t9 (dk okd_X1_close 14 rfl) (fun a10 (t11 : tT C a10 14) => ?_)
      refine s_run X ok_X1_close 22 2 (pc' := 69) (vs' := [some (.ref p0), some (.long x4), none, none]) (st' := [.int 0, .ref a10, .int 0, .ref a10]) rfl ?_
      refine s_lald X t11 (dk okd_X1_close 15 rfl) (fun v12 => ?_)
      refine s_run X ok_X1_close 24 2 (pc' := 72) (vs' := [some (.ref p0), some (.long x4), none, none]) (st' := [.ref p0, .long x4, .long v12, .int 0, .ref a10]) rfl ?_
      refine s_getR X fl_X1_12 t0_ (dk okd_X1_close 16 rfl) (fun a13 (t14 : tT C a13 7) => ?_)
      refine s_getI X fl_X1_190 t14 (dk okd_X1_close 17 rfl) (fun v15 => ?_)
      refine s_run X ok_X1_close 26 1 (pc' := 79) (vs' := [some (.ref p0), some (.long x4), none, none]) (st' := [.long (Int32.toInt64 v15), .long x4, .long v12, .int 0, .ref a10]) rfl ?_
      refine s_callN (As := [.long x4, .long (Int32.toInt64 v15)]) (rest := [.long v12, .int 0, .ref a10]) X E mn_X1_123 (c_X11_rateOf S5 x4 (Int32.toInt64 v15)) rfl (ta0) rfl rfl (Nat.le_of_ble_eq_true rfl) (Nat.le_of_ble_eq_true rfl) (Nat.le_of_ble_eq_true rfl) (dk okd_X1_close 18 rfl) (st' := fun v16 => [.long v16, .long v12, .int 0, .ref a10]) (fun _ => rfl) (fun v16 => ?_)
      refine s_run X ok_X1_close 27 1 (pc' := 83) (vs' := [some (.ref p0), some (.long x4), none, none]) (st' := [.long (v12 + v16), .int 0, .ref a10]) rfl ?_
      refine s_last X t11 (dk okd_X1_close 19 rfl) (fun S17 => ?_)
      refine s_run X ok_X1_close 28 2 (pc' := 86) (vs' := [some (.ref p0), some (.long x4), none, some (.int 0)]) (st' := []) rfl ?_
      refine s_jn (κ := St → Option (Int32 × St)) (fun k19 => ∀ (S18 : St), Jd C 4 (QJ C oIS sS) S18 141 [some (.ref p0), none, none, none] [] (k19 S18)) (fun S18 => ?_) (fun k19 h20 => ?_)
      · refine s_run X ok_X1_close 44 1 (pc' := 142) (vs' := [some (.ref p0), none, none, none]) (st' := [.ref p0]) rfl ?_
        refine s_getR X fl_X1_28 t0_ (dk okd_X1_close 33 rfl) (fun a21 (t22 : tT C a21 6) => ?_)
        refine s_getR X fl_X1_101 t22 (dk okd_X1_close 34 rfl) (fun a23 (t24 : tT C a23 14) => ?_)
        refine s_run X ok_X1_close 45 1 (pc' := 149) (vs' := [some (.ref p0), none, none, none]) (st' := [.long 0, .ref a23]) rfl ?_
        refine s_callS (As := [.ref a23, .long 0]) (rest := []) X E ms_X1_142 (c_J7_fill_d0a16 S18 a23 0) rfl (ta1 t24) rfl rfl (Nat.le_of_ble_eq_true rfl) (Nat.le_of_ble_eq_true rfl) (Nat.le_of_ble_eq_true rfl) (dk okd_X1_close 35 rfl) (st' := fun S25 => []) (fun _ => rfl) (fun S25 => ?_)
        refine s_run X ok_X1_close 46 1 (pc' := 153) (vs' := [some (.ref p0), none, none, none]) (st' := [.ref p0]) rfl ?_
        refine s_getR X fl_X1_49 t0_ (dk okd_X1_close 36 rfl) (fun a26 (t27 : tT C a26 0) => ?_)
        refine s_callV (b := a26) (As := []) (rest := []) X E mv_X1_205 (c_X0_forgetDeliveries S25 a26) rfl (ta1 t27) rfl (by decide) t27 rfl rfl (Nat.le_of_ble_eq_true rfl) (Nat.le_of_ble_eq_true rfl) (Nat.le_of_ble_eq_true rfl) (dk okd_X1_close 37 rfl) (st' := fun S28 => []) (fun _ => rfl) (fun S28 => ?_)
        refine s_run X ok_X1_close 47 1 (pc' := 160) (vs' := [some (.ref p0), none, none, none]) (st' := [.ref p0]) rfl ?_
        refine s_getR X fl_X1_49 t0_ (dk okd_X1_close 38 rfl) (fun a29 (t30 : tT C a29 0) => ?_)
        refine s_run X ok_X1_close 48 1 (pc' := 164) (vs' := [some (.ref p0), none, none, none]) (st' := [.ref a29, .ref a29]) rfl ?_
        refine s_getI X fl_X1_208 t30 (dk okd_X1_close 39 rfl) (fun v31 => ?_)
        refine s_run X ok_X1_close 49 2 (pc' := 169) (vs' := [some (.ref p0), none, none, none]) (st' := [.int (v31 + 1), .ref a29]) rfl ?_
        refine s_putI X fp_X1_208 t30 (dk okd_X1_close 40 rfl) (fun S32 => ?_)
        refine s_run X ok_X1_close 51 1 (pc' := 173) (vs' := [some (.ref p0), none, none, none]) (st' := [.int 1]) rfl ?_
        exact s_zret0 X hr (dk okd_X1_close 41 rfl) (by decide) rfl rfl
      · refine s_less [true, false, false, true] (vs' := [some (.ref p0), none, none, some (.int 0)]) rfl ?_
        refine s_lp (κ := Int32 → St → Option (Int32 × St)) (fun k35 => ∀ (x33 : Int32) (S34 : St), Jd C 4 (QJ C oIS sS) S34 86 [some (.ref p0), none, none, some (.int x33)] [] (k35 x33 S34)) (fun _ _ => s_none) (fun k35 h36 x33 S34 => ?_) FU 0 S17
        refine s_run X ok_X1_close 30 2 (pc' := 88) (vs' := [some (.ref p0), none, none, some (.int x33)]) (st' := [.ref p0, .int x33]) rfl ?_
        refine s_getR X fl_X1_35 t0_ (dk okd_X1_close 20 rfl) (fun a37 (t38 : tT C a37 2) => ?_)
        refine s_getI X fl_X1_65 t38 (dk okd_X1_close 21 rfl) (fun v39 => ?_)
        refine s_icmp_ge (tgt := 141) X (dk okd_X1_close 22 rfl) (by decide) ?_ ?_
        · exact s_less [true, false, false, false] rfl (h20 S34)
        · refine s_run X ok_X1_close 32 2 (pc' := 99) (vs' := [some (.ref p0), none, none, some (.int x33)]) (st' := [.int x33, .ref p0]) rfl ?_
          refine s_callV (b := p0) (As := [.int x33]) (rest := []) X E mv_X1_193 (c_X1_finishTransfer S34 p0 x33) rfl (ta1 t0_) rfl (by decide) t0_ rfl rfl (Nat.le_of_ble_eq_true rfl) (Nat.le_of_ble_eq_true rfl) (Nat.le_of_ble_eq_true rfl) (dk okd_X1_close 23 rfl) (st' := fun S40 => []) (fun _ => rfl) (fun S40 => ?_)
          refine s_run X ok_X1_close 34 1 (pc' := 103) (vs' := [some (.ref p0), none, none, some (.int x33)]) (st' := [.ref p0]) rfl ?_
          refine s_getR X fl_X1_49 t0_ (dk okd_X1_close 24 rfl) (fun a41 (t42 : tT C a41 0) => ?_)
          refine s_run X ok_X1_close 35 2 (pc' := 108) (vs' := [some (.ref p0), none, none, some (.int x33)]) (st' := [.ref p0, .int x33, .ref a41]) rfl ?_
          refine s_getR X fl_X1_35 t0_ (dk okd_X1_close 25 rfl) (fun a43 (t44 : tT C a43 2) => ?_)
          refine s_getR X fl_X1_196 t44 (dk okd_X1_close 26 rfl) (fun a45 (t46 : tT C a45 14) => ?_)
          refine s_run X ok_X1_close 37 1 (pc' := 115) (vs' := [some (.ref p0), none, none, some (.int x33)]) (st' := [.int x33, .ref a45, .int x33, .ref a41]) rfl ?_
          refine s_lald X t46 (dk okd_X1_close 27 rfl) (fun v47 => ?_)
          refine s_callV (b := a41) (As := [.int x33, .long v47]) (rest := []) X E mv_X1_199 (c_X0_enterBalance S40 a41 x33 v47) rfl (ta1 t42) rfl (by decide) t42 rfl rfl (Nat.le_of_ble_eq_true rfl) (Nat.le_of_ble_eq_true rfl) (Nat.le_of_ble_eq_true rfl) (dk okd_X1_close 28 rfl) (st' := fun S48 => []) (fun _ => rfl) (fun S48 => ?_)
          refine s_run X ok_X1_close 38 1 (pc' := 120) (vs' := [some (.ref p0), none, none, some (.int x33)]) (st' := [.ref p0]) rfl ?_
          refine s_getR X fl_X1_49 t0_ (dk okd_X1_close 29 rfl) (fun a49 (t50 : tT C a49 0) => ?_)
          refine s_run X ok_X1_close 39 2 (pc' := 125) (vs' := [some (.ref p0), none, none, some (.int x33)]) (st' := [.ref p0, .int x33, .ref a49]) rfl ?_
          refine s_getR X fl_X1_28 t0_ (dk okd_X1_close 30 rfl) (fun a51 (t52 : tT C a51 6) => ?_)
          refine s_run X ok_X1_close 41 1 (pc' := 129) (vs' := [some (.ref p0), none, none, some (.int x33)]) (st' := [.int x33, .ref a51, .int x33, .ref a49]) rfl ?_
          refine s_callV (b := a51) (As := [.int x33]) (rest := [.int x33, .ref a49]) X E mv_X1_176 (c_X6_salesTogether S48 a51 x33) rfl (ta1 t52) rfl (by decide) t52 rfl rfl (Nat.le_of_ble_eq_true rfl) (Nat.le_of_ble_eq_true rfl) (Nat.le_of_ble_eq_true rfl) (dk okd_X1_close 31 rfl) (st' := fun v53 => [.long v53, .int x33, .ref a49]) (fun _ => rfl) (fun v53 => ?_)
          refine s_callV (b := a49) (As := [.int x33, .long v53]) (rest := []) X E mv_X1_202 (c_X0_enterSales S48 a49 x33 v53) rfl (ta1 t50) rfl (by decide) t50 rfl rfl (Nat.le_of_ble_eq_true rfl) (Nat.le_of_ble_eq_true rfl) (Nat.le_of_ble_eq_true rfl) (dk okd_X1_close 32 rfl) (st' := fun S54 => []) (fun _ => rfl) (fun S54 => ?_)
          refine s_run X ok_X1_close 42 2 (pc' := 86) (vs' := [some (.ref p0), none, none, some (.int (x33 + 1))]) (st' := []) rfl ?_
          exact h36 (x33 + 1) S54
    · refine s_lp (κ := Int64 → Int32 → St → Option (Int32 × St)) (fun k58 => ∀ (x55 : Int64) (x56 : Int32) (S57 : St), Jd C 4 (QJ C oIS sS) S57 16 [some (.ref p0), some (.long x55), none, some (.int x56)] [] (k58 x55 x56 S57)) (fun _ _ _ => s_none) (fun k58 h59 x55 x56 S57 => ?_) FU 0 0 S
      refine s_run X ok_X1_close 6 2 (pc' := 18) (vs' := [some (.ref p0), some (.long x55), none, some (.int x56)]) (st' := [.ref p0, .int x56]) rfl ?_
      refine s_getR X fl_X1_35 t0_ (dk okd_X1_close 4 rfl) (fun a60 (t61 : tT C a60 2) => ?_)
      refine s_getI X fl_X1_65 t61 (dk okd_X1_close 5 rfl) (fun v62 => ?_)
      refine s_icmp_ge (tgt := 60) X (dk okd_X1_close 6 rfl) (by decide) ?_ ?_
      · exact s_less [true, true, false, false] rfl (h7 x55 S57)
      · refine s_run X ok_X1_close 8 3 (pc' := 30) (vs' := [some (.ref p0), some (.long x55), none, some (.int x56)]) (st' := [.ref p0, .int x56, .ref p0]) rfl ?_
        refine s_getR X fl_X1_28 t0_ (dk okd_X1_close 7 rfl) (fun a63 (t64 : tT C a63 6) => ?_)
        refine s_run X ok_X1_close 11 1 (pc' := 34) (vs' := [some (.ref p0), some (.long x55), none, some (.int x56)]) (st' := [.int x56, .ref a63, .int x56, .ref p0]) rfl ?_
        refine s_callV (b := a63) (As := [.int x56]) (rest := [.int x56, .ref p0]) X E mv_X1_176 (c_X6_salesTogether S57 a63 x56) rfl (ta1 t64) rfl (by decide) t64 rfl rfl (Nat.le_of_ble_eq_true rfl) (Nat.le_of_ble_eq_true rfl) (Nat.le_of_ble_eq_true rfl) (dk okd_X1_close 8 rfl) (st' := fun v65 => [.long v65, .int x56, .ref p0]) (fun _ => rfl) (fun v65 => ?_)
        refine s_callV (b := p0) (As := [.int x56, .long v65]) (rest := []) X E mv_X1_179 (c_X1_calculate S57 p0 x56 v65) rfl (ta1 t0_) rfl (by decide) t0_ rfl rfl (Nat.le_of_ble_eq_true rfl) (Nat.le_of_ble_eq_true rfl) (Nat.le_of_ble_eq_true rfl) (dk okd_X1_close 9 rfl) (st' := fun S66 => []) (fun _ => rfl) (fun S66 => ?_)
        refine s_run X ok_X1_close 12 2 (pc' := 42) (vs' := [some (.ref p0), some (.long x55), none, some (.int x56)]) (st' := [.int x56, .ref p0]) rfl ?_
        refine s_callV (b := p0) (As := [.int x56]) (rest := []) X E mv_X1_183 (c_X1_bill S66 p0 x56) rfl (ta1 t0_) rfl (by decide) t0_ rfl rfl (Nat.le_of_ble_eq_true rfl) (Nat.le_of_ble_eq_true rfl) (Nat.le_of_ble_eq_true rfl) (dk okd_X1_close 10 rfl) (st' := fun S67 => []) (fun _ => rfl) (fun S67 => ?_)
        refine s_run X ok_X1_close 14 2 (pc' := 47) (vs' := [some (.ref p0), some (.long x55), none, some (.int x56)]) (st' := [.ref p0, .long x55]) rfl ?_
        refine s_getR X fl_X1_53 t0_ (dk okd_X1_close 11 rfl) (fun a68 (t69 : tT C a68 14) => ?_)
        refine s_run X ok_X1_close 16 1 (pc' := 51) (vs' := [some (.ref p0), some (.long x55), none, some (.int x56)]) (st' := [.int 1, .ref a68, .long x55]) rfl ?_
        refine s_lald X t69 (dk okd_X1_close 12 rfl) (fun v70 => ?_)
        refine s_run X ok_X1_close 17 1 (pc' := 53) (vs' := [some (.ref p0), some (.long x55), none, some (.int x56)]) (st' := [.long (x55 + v70)]) rfl ?_
        refine s_nmJ (fun v71 => ?_)
        refine s_run X ok_X1_close 18 3 (pc' := 16) (vs' := [some (.ref p0), some (.long v71), none, some (.int (x56 + 1))]) (st' := []) rfl ?_
        exact h59 v71 (x56 + 1) S67
  · refine s_run X ok_X1_close 1 1 (pc' := 11) (vs' := [some (.ref p0), none, none, none]) (st' := [.int 0]) rfl ?_
    exact s_zret0 X hr (dk okd_X1_close 3 rfl) (by decide) rfl rfl
def tab_X4_addWhole : List En := [(0, 3, 1, 0), (1, 12, 3, 0), (2, 0, 0, 1), (3, 11, 5, 0), (5, 5, 5, 0), (7, 1, 0, 18), (12, 6, 1, 0), (13, 6, 3, 0), (18, 40, 0, 0), (22, 6, 3, 0), (26, 25, 0, 0), (27, 12, 3, 0), (28, 16, 5, 1), (31, 41, 5, 0), (34, 6, 3, 0), (35, 3, 0, 0), (36, 40, 0, 0), (40, 8, 0, 0), (41, 6, 1, 0), (42, 6, 3, 0), (47, 6, 3, 0), (52, 12, 3, 0), (53, 41, 34, 0)]
theorem ok_X4_addWhole : tab_X4_addWhole.all (okE cX4_addWhole) = true := by decide +kernel
def ed_X4_addWhole : List (Nat × Instr × Nat) := [(9, .if_icmp .ge 25, 3), (14, .ldiv, 1), (15, .ldc2_w 68, 3), (19, .ifCond .lt 15, 3), (23, .ldc2_w 68, 3), (37, .ifCond .le 19, 3), (43, .ldiv, 1), (44, .invokevirtual 70, 3), (48, .ldc2_w 68, 3), (51, .ldiv, 1), (56, .return_, 1)]
theorem okd_X4_addWhole : ed_X4_addWhole.all (okD cX4_addWhole) = true := by decide +kernel
def f_X4_addWhole (S : St) (p0 : Nat) (p1 : Int64) : Option (St) := jn (κ := Int64 → Option (St)) (fun x1 => lp (κ := Int64 → St → Option (St)) (fun _ _ => none) (fun k6 x4 S5 => if x4 ≤ 0 then (some S5) else (nzL x4 <| cl (f_X4_addDigit S5 p0 (p1 / x4)) fun (S8 : St) => lt (x4 / 10) fun (v9 : Int64) => k6 v9 S8)) FU x1 S) fun k2 => lp (κ := Int64 → Int32 → Option (St)) (fun _ _ => none) (fun k12 x10 x11 => if 18 ≤ x11 then (k2 x10) else (nzL x10 <| if (p1 / x10) < 10 then (k2 x10) else (lt (x10 * 10) fun (v14 : Int64) => k12 v14 (x11 + 1)))) FU 1 1
set_option maxHeartbeats 4000000 in
set_option maxRecDepth 100000 in
theorem c_X4_addWhole (S : St) (p0 : Nat) (p1 : Int64) : Ct yX4_addWhole cX4_addWhole 6 none 2 43 (fun _ => [.ref p0, .long p1]) [(p0, 4)] S (f_X4_addWhole S p0 p1) oV sV := by
  refine Ct_of RX4 rfl (by decide) (fun _ => Nat.le_of_ble_eq_true rfl) 3 (vs := fun _ => [some (.ref p0), some (.long p1), none, none, none, none]) (fun _ => rfl) (fun C X E hr ht => ?_)
  have t0_ : tT C p0 4 := ht (p0, 4) (by simp)
  show Jd C 6 (QJ C oV sV) S 0 [some (.ref p0), some (.long p1), none, none, none, none] [] (f_X4_addWhole S p0 p1)
  unfold f_X4_addWhole
  refine s_run X ok_X4_addWhole 0 4 (pc' := 5) (vs' := [some (.ref p0), some (.long p1), none, some (.long 1), none, some (.int 1)]) (st' := []) rfl ?_
  refine s_jn (κ := Int64 → Option (St)) (fun k2 => ∀ (x1 : Int64), Jd C 6 (QJ C oV sV) S 34 [some (.ref p0), some (.long p1), none, some (.long x1), none, none] [] (k2 x1)) (fun x1 => ?_) (fun k2 h3 => ?_)
  · refine s_lp (κ := Int64 → St → Option (St)) (fun k6 => ∀ (x4 : Int64) (S5 : St), Jd C 6 (QJ C oV sV) S5 34 [some (.ref p0), some (.long p1), none, some (.long x4), none, none] [] (k6 x4 S5)) (fun _ _ => s_none) (fun k6 h7 x4 S5 => ?_) FU x1 S
    refine s_run X ok_X4_addWhole 14 3 (pc' := 37) (vs' := [some (.ref p0), some (.long p1), none, some (.long x4), none, none]) (st' := [.int (lg_cmp x4 0)]) rfl ?_
    refine s_lif_le (tgt := 56) X (dk okd_X4_addWhole 5 rfl) (by decide) ?_ ?_
    · exact s_vret X hr (dk okd_X4_addWhole 10 rfl) rfl rfl
    · refine s_run X ok_X4_addWhole 17 3 (pc' := 43) (vs' := [some (.ref p0), some (.long p1), none, some (.long x4), none, none]) (st' := [.long x4, .long p1, .ref p0]) rfl ?_
      refine s_ldiv X (dk okd_X4_addWhole 6 rfl) ?_
      refine s_callV (b := p0) (As := [.long (p1 / x4)]) (rest := []) X E mv_X4_70 (c_X4_addDigit S5 p0 (p1 / x4)) rfl (ta1 t0_) rfl (by decide) t0_ rfl rfl (Nat.le_of_ble_eq_true rfl) (Nat.le_of_ble_eq_true rfl) (Nat.le_of_ble_eq_true rfl) (dk okd_X4_addWhole 7 rfl) (st' := fun S8 => []) (fun _ => rfl) (fun S8 => ?_)
      refine s_run X ok_X4_addWhole 20 1 (pc' := 48) (vs' := [some (.ref p0), some (.long p1), none, some (.long x4), none, none]) (st' := [.long x4]) rfl ?_
      refine s_ldc2 X cl_X4_68 (dk okd_X4_addWhole 8 rfl) ?_
      refine s_ldiv0 X (dk okd_X4_addWhole 9 rfl) (by decide) ?_
      refine s_nmJ (fun v9 => ?_)
      refine s_run X ok_X4_addWhole 21 2 (pc' := 34) (vs' := [some (.ref p0), some (.long p1), none, some (.long v9), none, none]) (st' := []) rfl ?_
      exact h7 v9 S8
  · refine s_lp (κ := Int64 → Int32 → Option (St)) (fun k12 => ∀ (x10 : Int64) (x11 : Int32), Jd C 6 (QJ C oV sV) S 5 [some (.ref p0), some (.long p1), none, some (.long x10), none, some (.int x11)] [] (k12 x10 x11)) (fun _ _ => s_none) (fun k12 h13 x10 x11 => ?_) FU 1 1
    refine s_run X ok_X4_addWhole 4 2 (pc' := 9) (vs' := [some (.ref p0), some (.long p1), none, some (.long x10), none, some (.int x11)]) (st' := [.int 18, .int x11]) rfl ?_
    refine s_icmp_ge (tgt := 34) X (dk okd_X4_addWhole 0 rfl) (by decide) ?_ ?_
    · exact s_less [true, true, false, true, false, false] rfl (h3 x10)
    · refine s_run X ok_X4_addWhole 6 2 (pc' := 14) (vs' := [some (.ref p0), some (.long p1), none, some (.long x10), none, some (.int x11)]) (st' := [.long x10, .long p1]) rfl ?_
      refine s_ldiv X (dk okd_X4_addWhole 1 rfl) ?_
      refine s_ldc2 X cl_X4_68 (dk okd_X4_addWhole 2 rfl) ?_
      refine s_run X ok_X4_addWhole 8 1 (pc' := 19) (vs' := [some (.ref p0), some (.long p1), none, some (.long x10), none, some (.int x11)]) (st' := [.int (lg_cmp (p1 / x10) 10)]) rfl ?_
      refine s_lif_lt (tgt := 34) X (dk okd_X4_addWhole 3 rfl) (by decide) ?_ ?_
      · exact s_less [true, true, false, true, false, false] rfl (h3 x10)
      · refine s_run X ok_X4_addWhole 9 1 (pc' := 23) (vs' := [some (.ref p0), some (.long p1), none, some (.long x10), none, some (.int x11)]) (st' := [.long x10]) rfl ?_
        refine s_ldc2 X cl_X4_68 (dk okd_X4_addWhole 4 rfl) ?_
        refine s_run X ok_X4_addWhole 10 1 (pc' := 27) (vs' := [some (.ref p0), some (.long p1), none, some (.long x10), none, some (.int x11)]) (st' := [.long (x10 * 10)]) rfl ?_
        refine s_nmJ (fun v14 => ?_)
        refine s_run X ok_X4_addWhole 11 3 (pc' := 5) (vs' := [some (.ref p0), some (.long p1), none, some (.long v14), none, some (.int (x11 + 1))]) (st' := []) rfl ?_
        exact h13 v14 (x11 + 1)
def tab_X5_executeForFranchisee : List En := [(0, 8, 0, 0), (4, 4, 1, 0), (6, 10, 3, 0), (7, 8, 2, 0), (11, 4, 3, 0), (18, 0, 0, 0), (20, 8, 0, 0), (24, 4, 1, 0), (26, 0, 0, 5), (30, 8, 2, 0), (34, 4, 3, 0), (35, 8, 0, 0), (39, 4, 1, 0), (41, 8, 0, 0), (45, 4, 1, 0), (50, 0, 0, (-1)), (54, 0, 0, 1), (55, 41, 59, 0), (58, 0, 0, 0), (60, 8, 0, 0), (64, 4, 1, 0), (66, 0, 0, 3), (70, 8, 2, 0), (71, 4, 3, 0), (72, 8, 0, 0), (76, 4, 1, 0), (82, 8, 2, 0), (86, 4, 3, 0), (87, 8, 0, 0), (91, 4, 1, 0), (96, 39, 0, 0), (97, 0, 0, 1)]
theorem ok_X5_executeForFranchisee : tab_X5_executeForFranchisee.all (okE cX5_executeForFranchisee) = true := by decide +kernel
def ed_X5_executeForFranchisee : List (Nat × Instr × Nat) := [(1, .getfield 15, 3), (5, .iaload, 1), (8, .getfield 153, 3), (12, .invokevirtual 157, 3), (15, .ifCond .ne 5, 3), (19, .ireturn, 1), (21, .getfield 9, 3), (25, .iaload, 1), (27, .if_icmp .ne 33, 3), (31, .getfield 160, 3), (36, .getfield 24, 3), (40, .iaload, 1), (42, .getfield 27, 3), (46, .baload, 1), (47, .invokevirtual 164, 3), (51, .if_icmp .eq 7, 3), (59, .ireturn, 1), (61, .getfield 9, 3), (65, .iaload, 1), (67, .if_icmp .ne 15, 3), (73, .getfield 31, 3), (77, .laload, 1), (78, .invokevirtual 170, 3), (81, .ireturn, 1), (83, .getfield 153, 3), (88, .getfield 31, 3), (92, .laload, 1), (93, .invokevirtual 174, 3), (98, .ireturn, 1)]
theorem okd_X5_executeForFranchisee : ed_X5_executeForFranchisee.all (okD cX5_executeForFranchisee) = true := by decide +kernel
def f_X5_executeForFranchisee (S : St) (p0 : Nat) (p1 : Int32) (p2 : Nat) : Option (Int32 × St) := lt (gR S p0 1) fun (a1 : Nat) => ldI S a1 p1 fun (v3 : Int32) => lt (gR S p2 3) fun (a4 : Nat) => cl (f_X2_has S a4 v3) fun (v6 : Int32) => if v6 = 0 then (some (0, S)) else (lt (gR S p0 0) fun (a7 : Nat) => ldI S a7 p1 fun (v9 : Int32) => if v9 = 5 then (lt (gR S p2 4) fun (a23 : Nat) => lt (gR S p0 4) fun (a25 : Nat) => ldI S a25 p1 fun (v27 : Int32) => lt (gR S p0 5) fun (a28 : Nat) => ldI S a28 p1 fun (v30 : Int32) => cl (f_X10_addVote S a23 v3 v27 v30) fun (o31 : Int32 × St) => if o31.1 = (-1) then (some (0, o31.2)) else (some (1, o31.2))) else (lt (gR S p0 0) fun (a10 : Nat) => ldI S a10 p1 fun (v12 : Int32) => if v12 = 3 then (lt (gR S p0 6) fun (a19 : Nat) => ldJ S a19 p1 fun (v21 : Int64) => cl (f_X1_spendLocal S p2 v3 v21) fun (o22 : Int32 × St) => zc o22.1 (some (o22.1, o22.2))) else (lt (gR S p2 3) fun (a13 : Nat) => lt (gR S p0 6) fun (a15 : Nat) => ldJ S a15 p1 fun (v17 : Int64) => cl (f_X2_lowerBalance S a13 v3 v17) fun (o18 : Int64 × St) => some (1, o18.2))))
set_option maxHeartbeats 4000000 in
set_option maxRecDepth 100000 in
theorem c_X5_executeForFranchisee (S : St) (p0 : Nat) (p1 : Int32) (p2 : Nat) : Ct yX5_executeForFranchisee cX5_executeForFranchisee 4 (some .boolean) 4 89 (fun _ => [.ref p0, .int p1, .ref p2]) [(p0, 5), (p2, 1)] S (f_X5_executeForFranchisee S p0 p1 p2) oIS sS := by
  refine Ct_of RX5 rfl (by decide) (fun _ => Nat.le_of_ble_eq_true rfl) 1 (vs := fun _ => [some (.ref p0), some (.int p1), some (.ref p2), none]) (fun _ => rfl) (fun C X E hr ht => ?_)
  have t0_ : tT C p0 5 := ht (p0, 5) (by simp)
  have t2_ : tT C p2 1 := ht (p2, 1) (by simp)
  show Jd C 4 (QJ C oIS sS) S 0 [some (.ref p0), some (.int p1), some (.ref p2), none] [] (f_X5_executeForFranchisee S p0 p1 p2)
  unfold f_X5_executeForFranchisee
  refine s_run X ok_X5_executeForFranchisee 0 1 (pc' := 1) (vs' := [some (.ref p0), some (.int p1), some (.ref p2), none]) (st' := [.ref p0]) rfl ?_
  refine s_getR X fl_X5_15 t0_ (dk okd_X5_executeForFranchisee 0 rfl) (fun a1 (t2 : tT C a1 13) => ?_)
  refine s_run X ok_X5_executeForFranchisee 1 1 (pc' := 5) (vs' := [some (.ref p0), some (.int p1), some (.ref p2), none]) (st' := [.int p1, .ref a1]) rfl ?_
  refine s_iald X t2 (dk okd_X5_executeForFranchisee 1 rfl) (fun v3 => ?_)
  refine s_run X ok_X5_executeForFranchisee 2 2 (pc' := 8) (vs' := [some (.ref p0), some (.int p1), some (.ref p2), some (.int v3)]) (st' := [.ref p2]) rfl ?_
  refine s_getR X fl_X5_153 t2_ (dk okd_X5_executeForFranchisee 2 rfl) (fun a4 (t5 : tT C a4 2) => ?_)
  refine s_run X ok_X5_executeForFranchisee 4 1 (pc' := 12) (vs' := [some (.ref p0), some (.int p1), some (.ref p2), some (.int v3)]) (st' := [.int v3, .ref a4]) rfl ?_
  refine s_callV (b := a4) (As := [.int v3]) (rest := []) X E mv_X5_157 (c_X2_has S a4 v3) rfl (ta1 t5) rfl (by decide) t5 rfl rfl (Nat.le_of_ble_eq_true rfl) (Nat.le_of_ble_eq_true rfl) (Nat.le_of_ble_eq_true rfl) (dk okd_X5_executeForFranchisee 3 rfl) (st' := fun v6 => [.int v6]) (fun _ => rfl) (fun v6 => ?_)
  refine s_if_ne (tgt := 20) X (dk okd_X5_executeForFranchisee 4 rfl) (by decide) ?_ ?_
  · refine s_run X ok_X5_executeForFranchisee 6 1 (pc' := 21) (vs' := [some (.ref p0), some (.int p1), some (.ref p2), some (.int v3)]) (st' := [.ref p0]) rfl ?_
    refine s_getR X fl_X5_9 t0_ (dk okd_X5_executeForFranchisee 6 rfl) (fun a7 (t8 : tT C a7 13) => ?_)
    refine s_run X ok_X5_executeForFranchisee 7 1 (pc' := 25) (vs' := [some (.ref p0), some (.int p1), some (.ref p2), some (.int v3)]) (st' := [.int p1, .ref a7]) rfl ?_
    refine s_iald X t8 (dk okd_X5_executeForFranchisee 7 rfl) (fun v9 => ?_)
    refine s_run X ok_X5_executeForFranchisee 8 1 (pc' := 27) (vs' := [some (.ref p0), some (.int p1), some (.ref p2), some (.int v3)]) (st' := [.int 5, .int v9]) rfl ?_
    refine s_icmp_ne (tgt := 60) X (dk okd_X5_executeForFranchisee 8 rfl) (by decide) ?_ ?_
    · refine s_run X ok_X5_executeForFranchisee 19 1 (pc' := 61) (vs' := [some (.ref p0), some (.int p1), some (.ref p2), some (.int v3)]) (st' := [.ref p0]) rfl ?_
      refine s_getR X fl_X5_9 t0_ (dk okd_X5_executeForFranchisee 17 rfl) (fun a10 (t11 : tT C a10 13) => ?_)
      refine s_run X ok_X5_executeForFranchisee 20 1 (pc' := 65) (vs' := [some (.ref p0), some (.int p1), some (.ref p2), some (.int v3)]) (st' := [.int p1, .ref a10]) rfl ?_
      refine s_iald X t11 (dk okd_X5_executeForFranchisee 18 rfl) (fun v12 => ?_)
      refine s_run X ok_X5_executeForFranchisee 21 1 (pc' := 67) (vs' := [some (.ref p0), some (.int p1), some (.ref p2), some (.int v3)]) (st' := [.int 3, .int v12]) rfl ?_
      refine s_icmp_ne (tgt := 82) X (dk okd_X5_executeForFranchisee 19 rfl) (by decide) ?_ ?_
      · refine s_run X ok_X5_executeForFranchisee 26 1 (pc' := 83) (vs' := [some (.ref p0), some (.int p1), some (.ref p2), some (.int v3)]) (st' := [.ref p2]) rfl ?_
        refine s_getR X fl_X5_153 t2_ (dk okd_X5_executeForFranchisee 24 rfl) (fun a13 (t14 : tT C a13 2) => ?_)
        refine s_run X ok_X5_executeForFranchisee 27 2 (pc' := 88) (vs' := [some (.ref p0), some (.int p1), some (.ref p2), some (.int v3)]) (st' := [.ref p0, .int v3, .ref a13]) rfl ?_
        refine s_getR X fl_X5_31 t0_ (dk okd_X5_executeForFranchisee 25 rfl) (fun a15 (t16 : tT C a15 14) => ?_)
        refine s_run X ok_X5_executeForFranchisee 29 1 (pc' := 92) (vs' := [some (.ref p0), some (.int p1), some (.ref p2), some (.int v3)]) (st' := [.int p1, .ref a15, .int v3, .ref a13]) rfl ?_
        refine s_lald X t16 (dk okd_X5_executeForFranchisee 26 rfl) (fun v17 => ?_)
        refine s_callV (b := a13) (As := [.int v3, .long v17]) (rest := []) X E mv_X5_174 (c_X2_lowerBalance S a13 v3 v17) rfl (ta1 t14) rfl (by decide) t14 rfl rfl (Nat.le_of_ble_eq_true rfl) (Nat.le_of_ble_eq_true rfl) (Nat.le_of_ble_eq_true rfl) (dk okd_X5_executeForFranchisee 27 rfl) (st' := fun o18 => [.long o18.1]) (fun _ => rfl) (fun o18 => ?_)
        refine s_run X ok_X5_executeForFranchisee 30 2 (pc' := 98) (vs' := [some (.ref p0), some (.int p1), some (.ref p2), some (.int v3)]) (st' := [.int 1]) rfl ?_
        exact s_zret0 X hr (dk okd_X5_executeForFranchisee 28 rfl) (by decide) rfl rfl
      · refine s_run X ok_X5_executeForFranchisee 22 3 (pc' := 73) (vs' := [some (.ref p0), some (.int p1), some (.ref p2), some (.int v3)]) (st' := [.ref p0, .int v3, .ref p2]) rfl ?_
        refine s_getR X fl_X5_31 t0_ (dk okd_X5_executeForFranchisee 20 rfl) (fun a19 (t20 : tT C a19 14) => ?_)
        refine s_run X ok_X5_executeForFranchisee 25 1 (pc' := 77) (vs' := [some (.ref p0), some (.int p1), some (.ref p2), some (.int v3)]) (st' := [.int p1, .ref a19, .int v3, .ref p2]) rfl ?_
        refine s_lald X t20 (dk okd_X5_executeForFranchisee 21 rfl) (fun v21 => ?_)
        refine s_callV (b := p2) (As := [.int v3, .long v21]) (rest := []) X E mv_X5_170 (c_X1_spendLocal S p2 v3 v21) rfl (ta1 t2_) rfl (by decide) t2_ rfl rfl (Nat.le_of_ble_eq_true rfl) (Nat.le_of_ble_eq_true rfl) (Nat.le_of_ble_eq_true rfl) (dk okd_X5_executeForFranchisee 22 rfl) (st' := fun o22 => [.int o22.1]) (fun _ => rfl) (fun o22 => ?_)
        exact s_zret X hr (dk okd_X5_executeForFranchisee 23 rfl) rfl rfl
    · refine s_run X ok_X5_executeForFranchisee 9 1 (pc' := 31) (vs' := [some (.ref p0), some (.int p1), some (.ref p2), some (.int v3)]) (st' := [.ref p2]) rfl ?_
      refine s_getR X fl_X5_160 t2_ (dk okd_X5_executeForFranchisee 9 rfl) (fun a23 (t24 : tT C a23 9) => ?_)
      refine s_run X ok_X5_executeForFranchisee 10 2 (pc' := 36) (vs' := [some (.ref p0), some (.int p1), some (.ref p2), some (.int v3)]) (st' := [.ref p0, .int v3, .ref a23]) rfl ?_
      refine s_getR X fl_X5_24 t0_ (dk okd_X5_executeForFranchisee 10 rfl) (fun a25 (t26 : tT C a25 13) => ?_)
      refine s_run X ok_X5_executeForFranchisee 12 1 (pc' := 40) (vs' := [some (.ref p0), some (.int p1), some (.ref p2), some (.int v3)]) (st' := [.int p1, .ref a25, .int v3, .ref a23]) rfl ?_
      refine s_iald X t26 (dk okd_X5_executeForFranchisee 11 rfl) (fun v27 => ?_)
      refine s_run X ok_X5_executeForFranchisee 13 1 (pc' := 42) (vs' := [some (.ref p0), some (.int p1), some (.ref p2), some (.int v3)]) (st' := [.ref p0, .int v27, .int v3, .ref a23]) rfl ?_
      refine s_getR X fl_X5_27 t0_ (dk okd_X5_executeForFranchisee 12 rfl) (fun a28 (t29 : tT C a28 15) => ?_)
      refine s_run X ok_X5_executeForFranchisee 14 1 (pc' := 46) (vs' := [some (.ref p0), some (.int p1), some (.ref p2), some (.int v3)]) (st' := [.int p1, .ref a28, .int v27, .int v3, .ref a23]) rfl ?_
      refine s_zald X t29 (dk okd_X5_executeForFranchisee 13 rfl) (fun v30 => ?_)
      refine s_callV (b := a23) (As := [.int v3, .int v27, .int v30]) (rest := []) X E mv_X5_164 (c_X10_addVote S a23 v3 v27 v30) rfl (ta1 t24) rfl (by decide) t24 rfl rfl (Nat.le_of_ble_eq_true rfl) (Nat.le_of_ble_eq_true rfl) (Nat.le_of_ble_eq_true rfl) (dk okd_X5_executeForFranchisee 14 rfl) (st' := fun o31 => [.int o31.1]) (fun _ => rfl) (fun o31 => ?_)
      refine s_run X ok_X5_executeForFranchisee 15 1 (pc' := 51) (vs' := [some (.ref p0), some (.int p1), some (.ref p2), some (.int v3)]) (st' := [.int (-1), .int o31.1]) rfl ?_
      refine s_icmp_eq (tgt := 58) X (dk okd_X5_executeForFranchisee 15 rfl) (by decide) ?_ ?_
      · refine s_run X ok_X5_executeForFranchisee 18 1 (pc' := 59) (vs' := [some (.ref p0), some (.int p1), some (.ref p2), some (.int v3)]) (st' := [.int 0]) rfl ?_
        exact s_zret0 X hr (dk okd_X5_executeForFranchisee 16 rfl) (by decide) rfl rfl
      · refine s_run X ok_X5_executeForFranchisee 16 2 (pc' := 59) (vs' := [some (.ref p0), some (.int p1), some (.ref p2), some (.int v3)]) (st' := [.int 1]) rfl ?_
        exact s_zret0 X hr (dk okd_X5_executeForFranchisee 16 rfl) (by decide) rfl rfl
  · refine s_run X ok_X5_executeForFranchisee 5 1 (pc' := 19) (vs' := [some (.ref p0), some (.int p1), some (.ref p2), some (.int v3)]) (st' := [.int 0]) rfl ?_
    exact s_zret0 X hr (dk okd_X5_executeForFranchisee 5 rfl) (by decide) rfl rfl
def tab_X7_readPlan : List En := [(0, 8, 1, 0), (4, 0, 0, 4), (8, 8, 0, 0), (9, 0, 0, 4), (14, 8, 0, 0), (15, 0, 0, 0), (16, 2, 0, 1000), (22, 10, 2, 0), (23, 8, 1, 0), (24, 4, 2, 0), (25, 8, 0, 0), (26, 0, 0, 0), (27, 2, 0, 3000), (36, 0, 0, 1), (37, 10, 3, 0), (38, 0, 0, 0), (39, 11, 4, 0), (41, 5, 4, 0), (43, 0, 0, 4), (47, 8, 0, 0), (54, 8, 0, 0), (61, 8, 0, 0), (62, 4, 3, 0), (68, 11, 5, 0), (70, 5, 4, 0), (72, 0, 0, 4), (76, 8, 0, 0), (77, 0, 0, 4), (81, 8, 1, 0), (82, 5, 5, 0), (84, 31, 0, 0), (88, 25, 0, 0), (89, 8, 0, 0), (90, 0, 0, 0), (91, 2, 0, 3000), (100, 5, 5, 0), (102, 0, 0, 1), (103, 17, 0, 0), (104, 10, 3, 0), (105, 16, 4, 1), (108, 41, 41, 0)]
theorem ok_X7_readPlan : tab_X7_readPlan.all (okE cX7_readPlan) = true := by decide +kernel
def ed_X7_readPlan : List (Nat × Instr × Nat) := [(1, .getfield 112, 3), (5, .if_icmp .lt 9, 3), (10, .invokevirtual 108, 3), (13, .return_, 1), (19, .invokevirtual 70, 3), (30, .invokevirtual 70, 3), (33, .invokevirtual 115, 3), (44, .if_icmp .gt 67, 3), (48, .invokevirtual 14, 3), (51, .ifCond .ne 60, 3), (55, .invokevirtual 119, 3), (58, .ifCond .ne 53, 3), (63, .ldc 122, 2), (65, .invokevirtual 70, 3), (73, .if_icmp .ne 8, 3), (78, .invokevirtual 108, 3), (85, .ldc2_w 79, 3), (94, .invokevirtual 70, 3), (97, .invokevirtual 123, 3), (111, .return_, 1)]
theorem okd_X7_readPlan : ed_X7_readPlan.all (okD cX7_readPlan) = true := by decide +kernel
def f_X7_readPlan (S : St) (p0 : Nat) (p1 : Nat) : Option (St) := lt (gI S p1 4) fun (v1 : Int32) => if v1 < 4 then (cl (f_X9_readNumber S p0 0 1000) fun (o2 : Int32 × St) => cl (f_X9_readNumber o2.2 p0 0 3000) fun (o3 : Int32 × St) => cl (f_X8_addPlan o3.2 p1 o2.1 o3.1) fun (S4 : St) => lp (κ := Int32 → Int32 → St → Option (St)) (fun _ _ _ => none) (fun k8 x5 x6 S7 => if 4 < x6 then (some S7) else (cl (f_X9_failed S7 p0) fun (v10 : Int32) => if v10 = 0 then (cl (f_X9_semicolonAhead S7 p0) fun (o11 : Int32 × St) => if o11.1 = 0 then (cl (f_X9_readNumber o11.2 p0 x5 99999) fun (o12 : Int32 × St) => jn (κ := St → Option (St)) (fun S13 => cl (f_X9_readNumber S13 p0 0 3000) fun (o16 : Int32 × St) => cl (f_X8_addStep o16.2 p1 ((Int32.toInt64 o12.1) * 100) o16.1) fun (S17 : St) => lt (o12.1 + 1) fun (v18 : Int32) => k8 v18 (x6 + 1) S17) fun k14 => if x6 = 4 then (cl (f_X9_fail o12.2 p0 4) fun (S19 : St) => k14 S19) else (k14 o12.2)) else (some o11.2)) else (some S7))) FU 1 0 S4) else (cl (f_X9_fail S p0 4) fun (S20 : St) => some S20)
set_option maxHeartbeats 4000000 in
set_option maxRecDepth 100000 in
theorem c_X7_readPlan (S : St) (p0 : Nat) (p1 : Nat) : Ct yX7_readPlan cX7_readPlan 6 none 3 65 (fun _ => [.ref p0, .ref p1]) [(p0, 8), (p1, 7)] S (f_X7_readPlan S p0 p1) oV sV := by
  refine Ct_of RX7 rfl (by decide) (fun _ => Nat.le_of_ble_eq_true rfl) 4 (vs := fun _ => [some (.ref p0), some (.ref p1), none, none, none, none]) (fun _ => rfl) (fun C X E hr ht => ?_)
  have t0_ : tT C p0 8 := ht (p0, 8) (by simp)
  have t1_ : tT C p1 7 := ht (p1, 7) (by simp)
  show Jd C 6 (QJ C oV sV) S 0 [some (.ref p0), some (.ref p1), none, none, none, none] [] (f_X7_readPlan S p0 p1)
  unfold f_X7_readPlan
  refine s_run X ok_X7_readPlan 0 1 (pc' := 1) (vs' := [some (.ref p0), some (.ref p1), none, none, none, none]) (st' := [.ref p1]) rfl ?_
  refine s_getI X fl_X7_112 t1_ (dk okd_X7_readPlan 0 rfl) (fun v1 => ?_)
  refine s_run X ok_X7_readPlan 1 1 (pc' := 5) (vs' := [some (.ref p0), some (.ref p1), none, none, none, none]) (st' := [.int 4, .int v1]) rfl ?_
  refine s_icmp_lt (tgt := 14) X (dk okd_X7_readPlan 1 rfl) (by decide) ?_ ?_
  · refine s_run X ok_X7_readPlan 4 3 (pc' := 19) (vs' := [some (.ref p0), some (.ref p1), none, none, none, none]) (st' := [.int 1000, .int 0, .ref p0]) rfl ?_
    refine s_callV (b := p0) (As := [.int 0, .int 1000]) (rest := []) X E mv_X7_70 (c_X9_readNumber S p0 0 1000) rfl (ta1 t0_) rfl (by decide) t0_ rfl rfl (Nat.le_of_ble_eq_true rfl) (Nat.le_of_ble_eq_true rfl) (Nat.le_of_ble_eq_true rfl) (dk okd_X7_readPlan 4 rfl) (st' := fun o2 => [.int o2.1]) (fun _ => rfl) (fun o2 => ?_)
    refine s_run X ok_X7_readPlan 7 6 (pc' := 30) (vs' := [some (.ref p0), some (.ref p1), some (.int o2.1), none, none, none]) (st' := [.int 3000, .int 0, .ref p0, .int o2.1, .ref p1]) rfl ?_
    refine s_callV (b := p0) (As := [.int 0, .int 3000]) (rest := [.int o2.1, .ref p1]) X E mv_X7_70 (c_X9_readNumber o2.2 p0 0 3000) rfl (ta1 t0_) rfl (by decide) t0_ rfl rfl (Nat.le_of_ble_eq_true rfl) (Nat.le_of_ble_eq_true rfl) (Nat.le_of_ble_eq_true rfl) (dk okd_X7_readPlan 5 rfl) (st' := fun o3 => [.int o3.1, .int o2.1, .ref p1]) (fun _ => rfl) (fun o3 => ?_)
    refine s_callV (b := p1) (As := [.int o2.1, .int o3.1]) (rest := []) X E mv_X7_115 (c_X8_addPlan o3.2 p1 o2.1 o3.1) rfl (ta1 t1_) rfl (by decide) t1_ rfl rfl (Nat.le_of_ble_eq_true rfl) (Nat.le_of_ble_eq_true rfl) (Nat.le_of_ble_eq_true rfl) (dk okd_X7_readPlan 6 rfl) (st' := fun S4 => []) (fun _ => rfl) (fun S4 => ?_)
    refine s_run X ok_X7_readPlan 13 4 (pc' := 41) (vs' := [some (.ref p0), some (.ref p1), some (.int o2.1), some (.int 1), some (.int 0), none]) (st' := []) rfl ?_
    refine s_less [true, true, false, true, true, false] (vs' := [some (.ref p0), some (.ref p1), none, some (.int 1), some (.int 0), none]) rfl ?_
    refine s_lp (κ := Int32 → Int32 → St → Option (St)) (fun k8 => ∀ (x5 : Int32) (x6 : Int32) (S7 : St), Jd C 6 (QJ C oV sV) S7 41 [some (.ref p0), some (.ref p1), none, some (.int x5), some (.int x6), none] [] (k8 x5 x6 S7)) (fun _ _ _ => s_none) (fun k8 h9 x5 x6 S7 => ?_) FU 1 0 S4
    refine s_run X ok_X7_readPlan 17 2 (pc' := 44) (vs' := [some (.ref p0), some (.ref p1), none, some (.int x5), some (.int x6), none]) (st' := [.int 4, .int x6]) rfl ?_
    refine s_icmp_gt (tgt := 111) X (dk okd_X7_readPlan 7 rfl) (by decide) ?_ ?_
    · exact s_vret X hr (dk okd_X7_readPlan 19 rfl) rfl rfl
    · refine s_run X ok_X7_readPlan 19 1 (pc' := 48) (vs' := [some (.ref p0), some (.ref p1), none, some (.int x5), some (.int x6), none]) (st' := [.ref p0]) rfl ?_
      refine s_callV (b := p0) (As := []) (rest := []) X E mv_X7_14 (c_X9_failed S7 p0) rfl (ta1 t0_) rfl (by decide) t0_ rfl rfl (Nat.le_of_ble_eq_true rfl) (Nat.le_of_ble_eq_true rfl) (Nat.le_of_ble_eq_true rfl) (dk okd_X7_readPlan 8 rfl) (st' := fun v10 => [.int v10]) (fun _ => rfl) (fun v10 => ?_)
      refine s_if_ne (tgt := 111) X (dk okd_X7_readPlan 9 rfl) (by decide) ?_ ?_
      · exact s_vret X hr (dk okd_X7_readPlan 19 rfl) rfl rfl
      · refine s_run X ok_X7_readPlan 20 1 (pc' := 55) (vs' := [some (.ref p0), some (.ref p1), none, some (.int x5), some (.int x6), none]) (st' := [.ref p0]) rfl ?_
        refine s_callV (b := p0) (As := []) (rest := []) X E mv_X7_119 (c_X9_semicolonAhead S7 p0) rfl (ta1 t0_) rfl (by decide) t0_ rfl rfl (Nat.le_of_ble_eq_true rfl) (Nat.le_of_ble_eq_true rfl) (Nat.le_of_ble_eq_true rfl) (dk okd_X7_readPlan 10 rfl) (st' := fun o11 => [.int o11.1]) (fun _ => rfl) (fun o11 => ?_)
        refine s_if_ne (tgt := 111) X (dk okd_X7_readPlan 11 rfl) (by decide) ?_ ?_
        · exact s_vret X hr (dk okd_X7_readPlan 19 rfl) rfl rfl
        · refine s_run X ok_X7_readPlan 21 2 (pc' := 63) (vs' := [some (.ref p0), some (.ref p1), none, some (.int x5), some (.int x6), none]) (st' := [.int x5, .ref p0]) rfl ?_
          refine s_ldc X ci_X7_122 (dk okd_X7_readPlan 12 rfl) ?_
          refine s_callV (b := p0) (As := [.int x5, .int 99999]) (rest := []) X E mv_X7_70 (c_X9_readNumber o11.2 p0 x5 99999) rfl (ta1 t0_) rfl (by decide) t0_ rfl rfl (Nat.le_of_ble_eq_true rfl) (Nat.le_of_ble_eq_true rfl) (Nat.le_of_ble_eq_true rfl) (dk okd_X7_readPlan 13 rfl) (st' := fun o12 => [.int o12.1]) (fun _ => rfl) (fun o12 => ?_)
          refine s_run X ok_X7_readPlan 23 3 (pc' := 73) (vs' := [some (.ref p0), some (.ref p1), none, some (.int x5), some (.int x6), some (.int o12.1)]) (st' := [.int 4, .int x6]) rfl ?_
          refine s_jn (κ := St → Option (St)) (fun k14 => ∀ (S13 : St), Jd C 6 (QJ C oV sV) S13 81 [some (.ref p0), some (.ref p1), none, none, some (.int x6), some (.int o12.1)] [] (k14 S13)) (fun S13 => ?_) (fun k14 h15 => ?_)
          · refine s_run X ok_X7_readPlan 28 3 (pc' := 85) (vs' := [some (.ref p0), some (.ref p1), none, none, some (.int x6), some (.int o12.1)]) (st' := [.long (Int32.toInt64 o12.1), .ref p1]) rfl ?_
            refine s_ldc2 X cl_X7_79 (dk okd_X7_readPlan 16 rfl) ?_
            refine s_run X ok_X7_readPlan 31 4 (pc' := 94) (vs' := [some (.ref p0), some (.ref p1), none, none, some (.int x6), some (.int o12.1)]) (st' := [.int 3000, .int 0, .ref p0, .long ((Int32.toInt64 o12.1) * 100), .ref p1]) rfl ?_
            refine s_callV (b := p0) (As := [.int 0, .int 3000]) (rest := [.long ((Int32.toInt64 o12.1) * 100), .ref p1]) X E mv_X7_70 (c_X9_readNumber S13 p0 0 3000) rfl (ta1 t0_) rfl (by decide) t0_ rfl rfl (Nat.le_of_ble_eq_true rfl) (Nat.le_of_ble_eq_true rfl) (Nat.le_of_ble_eq_true rfl) (dk okd_X7_readPlan 17 rfl) (st' := fun o16 => [.int o16.1, .long ((Int32.toInt64 o12.1) * 100), .ref p1]) (fun _ => rfl) (fun o16 => ?_)
            refine s_callV (b := p1) (As := [.long ((Int32.toInt64 o12.1) * 100), .int o16.1]) (rest := []) X E mv_X7_123 (c_X8_addStep o16.2 p1 ((Int32.toInt64 o12.1) * 100) o16.1) rfl (ta1 t1_) rfl (by decide) t1_ rfl rfl (Nat.le_of_ble_eq_true rfl) (Nat.le_of_ble_eq_true rfl) (Nat.le_of_ble_eq_true rfl) (dk okd_X7_readPlan 18 rfl) (st' := fun S17 => []) (fun _ => rfl) (fun S17 => ?_)
            refine s_run X ok_X7_readPlan 35 3 (pc' := 104) (vs' := [some (.ref p0), some (.ref p1), none, none, some (.int x6), some (.int o12.1)]) (st' := [.int (o12.1 + 1)]) rfl ?_
            refine s_nmI (fun v18 => ?_)
            refine s_run X ok_X7_readPlan 38 3 (pc' := 41) (vs' := [some (.ref p0), some (.ref p1), none, some (.int v18), some (.int (x6 + 1)), some (.int o12.1)]) (st' := []) rfl ?_
            exact s_less [true, true, false, true, true, false] rfl (h9 v18 (x6 + 1) S17)
          · refine s_icmp_ne (tgt := 81) X (dk okd_X7_readPlan 14 rfl) (by decide) ?_ ?_
            · exact s_less [true, true, false, false, true, true] rfl (h15 o12.2)
            · refine s_run X ok_X7_readPlan 26 2 (pc' := 78) (vs' := [some (.ref p0), some (.ref p1), none, some (.int x5), some (.int x6), some (.int o12.1)]) (st' := [.int 4, .ref p0]) rfl ?_
              refine s_callV (b := p0) (As := [.int 4]) (rest := []) X E mv_X7_108 (c_X9_fail o12.2 p0 4) rfl (ta1 t0_) rfl (by decide) t0_ rfl rfl (Nat.le_of_ble_eq_true rfl) (Nat.le_of_ble_eq_true rfl) (Nat.le_of_ble_eq_true rfl) (dk okd_X7_readPlan 15 rfl) (st' := fun S19 => []) (fun _ => rfl) (fun S19 => ?_)
              exact s_less [true, true, false, false, true, true] rfl (h15 S19)
  · refine s_run X ok_X7_readPlan 2 2 (pc' := 10) (vs' := [some (.ref p0), some (.ref p1), none, none, none, none]) (st' := [.int 4, .ref p0]) rfl ?_
    refine s_callV (b := p0) (As := [.int 4]) (rest := []) X E mv_X7_108 (c_X9_fail S p0 4) rfl (ta1 t0_) rfl (by decide) t0_ rfl rfl (Nat.le_of_ble_eq_true rfl) (Nat.le_of_ble_eq_true rfl) (Nat.le_of_ble_eq_true rfl) (dk okd_X7_readPlan 2 rfl) (st' := fun S20 => []) (fun _ => rfl) (fun S20 => ?_)
    exact s_vret X hr (dk okd_X7_readPlan 3 rfl) rfl rfl
def tab_X11_ranked : List En := [(0, 8, 0, 0), (7, 4, 1, 0), (8, 8, 0, 0)]
theorem ok_X11_ranked : tab_X11_ranked.all (okE cX11_ranked) = true := by decide +kernel
def ed_X11_ranked : List (Nat × Instr × Nat) := [(1, .getfield 41, 3), (4, .getfield 140, 3), (9, .getfield 41, 3), (12, .getfield 85, 3), (15, .getfield 130, 3), (18, .invokevirtual 273, 3), (21, .ireturn, 1)]
theorem okd_X11_ranked : ed_X11_ranked.all (okD cX11_ranked) = true := by decide +kernel
def f_X11_ranked (S : St) (p0 : Nat) (p1 : Int32) : Option (Int32) := lt (gR S p0 5) fun (a1 : Nat) => lt (gR S a1 5) fun (a3 : Nat) => lt (gR S p0 5) fun (a5 : Nat) => lt (gR S a5 3) fun (a7 : Nat) => lt (gI S a7 8) fun (v9 : Int32) => cl (f_X0_atPlace S a3 p1 v9) fun (v10 : Int32) => some v10
set_option maxHeartbeats 4000000 in
set_option maxRecDepth 100000 in
theorem c_X11_ranked (S : St) (p0 : Nat) (p1 : Int32) : Ct yX11_ranked cX11_ranked 2 (some .int) 5 118 (fun _ => [.ref p0, .int p1]) [(p0, 10)] S (f_X11_ranked S p0 p1) oI (fun _ => S) := by
  refine Ct_of RX11 rfl (by decide) (fun _ => Nat.le_of_ble_eq_true rfl) 0 (vs := fun _ => [some (.ref p0), some (.int p1)]) (fun _ => rfl) (fun C X E hr ht => ?_)
  have t0_ : tT C p0 10 := ht (p0, 10) (by simp)
  show Jd C 2 (QJ C oI (fun _ => S)) S 0 [some (.ref p0), some (.int p1)] [] (f_X11_ranked S p0 p1)
  unfold f_X11_ranked
  refine s_run X ok_X11_ranked 0 1 (pc' := 1) (vs' := [some (.ref p0), some (.int p1)]) (st' := [.ref p0]) rfl ?_
  refine s_getR X fl_X11_41 t0_ (dk okd_X11_ranked 0 rfl) (fun a1 (t2 : tT C a1 1) => ?_)
  refine s_getR X fl_X11_140 t2 (dk okd_X11_ranked 1 rfl) (fun a3 (t4 : tT C a3 0) => ?_)
  refine s_run X ok_X11_ranked 1 2 (pc' := 9) (vs' := [some (.ref p0), some (.int p1)]) (st' := [.ref p0, .int p1, .ref a3]) rfl ?_
  refine s_getR X fl_X11_41 t0_ (dk okd_X11_ranked 2 rfl) (fun a5 (t6 : tT C a5 1) => ?_)
  refine s_getR X fl_X11_85 t6 (dk okd_X11_ranked 3 rfl) (fun a7 (t8 : tT C a7 2) => ?_)
  refine s_getI X fl_X11_130 t8 (dk okd_X11_ranked 4 rfl) (fun v9 => ?_)
  refine s_callV (b := a3) (As := [.int p1, .int v9]) (rest := []) X E mv_X11_273 (c_X0_atPlace S a3 p1 v9) rfl (ta1 t4) rfl (by decide) t4 rfl rfl (Nat.le_of_ble_eq_true rfl) (Nat.le_of_ble_eq_true rfl) (Nat.le_of_ble_eq_true rfl) (dk okd_X11_ranked 5 rfl) (st' := fun v10 => [.int v10]) (fun _ => rfl) (fun v10 => ?_)
  exact s_iret X hr (dk okd_X11_ranked 6 rfl) rfl rfl
def tab_X11_closeMonth : List En := [(0, 8, 0, 0), (4, 8, 0, 0), (11, 38, 0, 0), (12, 8, 0, 0)]
theorem ok_X11_closeMonth : tab_X11_closeMonth.all (okE cX11_closeMonth) = true := by decide +kernel
def ed_X11_closeMonth : List (Nat × Instr × Nat) := [(1, .invokevirtual 252, 3), (5, .getfield 41, 3), (8, .invokevirtual 279, 3), (13, .getfield 41, 3), (16, .getfield 140, 3), (19, .getfield 144, 3), (22, .ireturn, 1)]
theorem okd_X11_closeMonth : ed_X11_closeMonth.all (okD cX11_closeMonth) = true := by decide +kernel
def f_X11_closeMonth (S : St) (p0 : Nat) : Option ((Int32 × St) ⊕ Nat) := clx (f_X11_requireOpenMonth S p0) fun (u1 : Unit) => lt (gR S p0 5) fun (a2 : Nat) => cl (f_X1_close S a2) fun (o4 : Int32 × St) => lt (gR o4.2 p0 5) fun (a5 : Nat) => lt (gR o4.2 a5 5) fun (a7 : Nat) => lt (gI o4.2 a7 6) fun (v9 : Int32) => some (.inl (v9, o4.2))
set_option maxHeartbeats 4000000 in
set_option maxRecDepth 100000 in
theorem c_X11_closeMonth (S : St) (p0 : Nat) : CtX yX11_closeMonth cX11_closeMonth 1 (some .int) 7 116 (fun _ => [.ref p0]) [(p0, 10)] S (f_X11_closeMonth S p0) oIS sS := by
  refine CtX_of RX11 rfl (by decide) (fun _ => Nat.le_of_ble_eq_true rfl) 0 (vs := fun _ => [some (.ref p0)]) (fun _ => rfl) (fun C X E hr tx ht => ?_)
  have t0_ : tT C p0 10 := ht (p0, 10) (by simp)
  show Jd C 1 (QX C oIS sS S) S 0 [some (.ref p0)] [] (f_X11_closeMonth S p0)
  unfold f_X11_closeMonth
  refine s_run X ok_X11_closeMonth 0 1 (pc' := 1) (vs' := [some (.ref p0)]) (st' := [.ref p0]) rfl ?_
  refine s_callVX (b := p0) (As := []) (rest := []) X E tx mv_X11_252 (c_X11_requireOpenMonth S p0) rfl (ta1 t0_) rfl (by decide) t0_ rfl rfl (Nat.le_of_ble_eq_true rfl) (Nat.le_of_ble_eq_true rfl) (Nat.le_of_ble_eq_true rfl) (dk okd_X11_closeMonth 0 rfl) (st' := fun u1 => []) (fun _ => rfl) (fun u1 => ?_)
  refine s_run X ok_X11_closeMonth 1 1 (pc' := 5) (vs' := [some (.ref p0)]) (st' := [.ref p0]) rfl ?_
  refine s_getR X fl_X11_41 t0_ (dk okd_X11_closeMonth 1 rfl) (fun a2 (t3 : tT C a2 1) => ?_)
  refine s_callV (b := a2) (As := []) (rest := []) X E mv_X11_279 (c_X1_close S a2) rfl (ta1 t3) rfl (by decide) t3 rfl rfl (Nat.le_of_ble_eq_true rfl) (Nat.le_of_ble_eq_true rfl) (Nat.le_of_ble_eq_true rfl) (dk okd_X11_closeMonth 2 rfl) (st' := fun o4 => [.int o4.1]) (fun _ => rfl) (fun o4 => ?_)
  refine s_run X ok_X11_closeMonth 2 2 (pc' := 13) (vs' := [some (.ref p0)]) (st' := [.ref p0]) rfl ?_
  refine s_getR X fl_X11_41 t0_ (dk okd_X11_closeMonth 3 rfl) (fun a5 (t6 : tT C a5 1) => ?_)
  refine s_getR X fl_X11_140 t6 (dk okd_X11_closeMonth 4 rfl) (fun a7 (t8 : tT C a7 0) => ?_)
  refine s_getI X fl_X11_144 t8 (dk okd_X11_closeMonth 5 rfl) (fun v9 => ?_)
  exact s_iretX X hr (dk okd_X11_closeMonth 6 rfl) rfl rfl
def tab_X11_predictDue : List En := [(0, 8, 0, 0), (1, 4, 1, 0), (5, 4, 2, 0), (9, 4, 2, 0), (10, 2, 0, 300), (16, 0, 0, 1), (17, 41, 21, 0), (20, 0, 0, 0), (24, 8, 0, 0), (28, 4, 1, 0), (29, 8, 0, 0), (36, 4, 1, 0), (37, 4, 2, 0), (44, 8, 0, 0), (51, 0, 0, 5)]
theorem ok_X11_predictDue : tab_X11_predictDue.all (okE cX11_predictDue) = true := by decide +kernel
def ed_X11_predictDue : List (Nat × Instr × Nat) := [(2, .invokevirtual 159, 3), (6, .ifCond .lt 14, 3), (13, .if_icmp .gt 7, 3), (21, .invokestatic 107, 3), (25, .getfield 41, 3), (30, .getfield 41, 3), (33, .getfield 133, 3), (38, .invokevirtual 287, 3), (41, .invokevirtual 290, 3), (45, .getfield 41, 3), (48, .getfield 294, 3), (52, .laload, 1), (53, .lreturn, 1)]
theorem okd_X11_predictDue : ed_X11_predictDue.all (okD cX11_predictDue) = true := by decide +kernel
def f_X11_predictDue (S : St) (p0 : Nat) (p1 : Int32) (p2 : Int32) : Option ((Int64 × St) ⊕ Nat) := clx (f_X11_requireFranchisee S p0 p1) fun (u1 : Unit) => jn (κ := Int32 → Option ((Int64 × St) ⊕ Nat)) (fun x2 => clx (f_X11_requireArgument S x2) fun (u5 : Unit) => lt (gR S p0 5) fun (a6 : Nat) => lt (gR S p0 5) fun (a8 : Nat) => lt (gR S a8 2) fun (a10 : Nat) => cl (f_X6_scaledSales S a10 p1 p2) fun (v12 : Int64) => cl (f_X1_calculate S a6 p1 v12) fun (S13 : St) => lt (gR S13 p0 5) fun (a14 : Nat) => lt (gR S13 a14 6) fun (a16 : Nat) => ldJ S13 a16 5 fun (v18 : Int64) => some (.inl (v18, S13))) fun k3 => jn (κ := Option ((Int64 × St) ⊕ Nat)) (k3 0) fun k19 => if p2 < 0 then (k19) else (if 300 < p2 then (k19) else (k3 1))
set_option maxHeartbeats 4000000 in
set_option maxRecDepth 100000 in
theorem c_X11_predictDue (S : St) (p0 : Nat) (p1 : Int32) (p2 : Int32) : CtX yX11_predictDue cX11_predictDue 3 (some .long) 7 111 (fun _ => [.ref p0, .int p1, .int p2]) [(p0, 10)] S (f_X11_predictDue S p0 p1 p2) oLS sL := by
  refine CtX_of RX11 rfl (by decide) (fun _ => Nat.le_of_ble_eq_true rfl) 0 (vs := fun _ => [some (.ref p0), some (.int p1), some (.int p2)]) (fun _ => rfl) (fun C X E hr tx ht => ?_)
  have t0_ : tT C p0 10 := ht (p0, 10) (by simp)
  show Jd C 3 (QX C oLS sL S) S 0 [some (.ref p0), some (.int p1), some (.int p2)] [] (f_X11_predictDue S p0 p1 p2)
  unfold f_X11_predictDue
  refine s_run X ok_X11_predictDue 0 2 (pc' := 2) (vs' := [some (.ref p0), some (.int p1), some (.int p2)]) (st' := [.int p1, .ref p0]) rfl ?_
  refine s_callVX (b := p0) (As := [.int p1]) (rest := []) X E tx mv_X11_159 (c_X11_requireFranchisee S p0 p1) rfl (ta1 t0_) rfl (by decide) t0_ rfl rfl (Nat.le_of_ble_eq_true rfl) (Nat.le_of_ble_eq_true rfl) (Nat.le_of_ble_eq_true rfl) (dk okd_X11_predictDue 0 rfl) (st' := fun u1 => []) (fun _ => rfl) (fun u1 => ?_)
  refine s_run X ok_X11_predictDue 2 1 (pc' := 6) (vs' := [some (.ref p0), some (.int p1), some (.int p2)]) (st' := [.int p2]) rfl ?_
  refine s_jn (κ := Int32 → Option ((Int64 × St) ⊕ Nat)) (fun k3 => ∀ (x2 : Int32), Jd C 3 (QX C oLS sL S) S 21 [some (.ref p0), some (.int p1), some (.int p2)] [.int x2] (k3 x2)) (fun x2 => ?_) (fun k3 h4 => ?_)
  · refine s_callSX (As := [.int x2]) (rest := []) X E tx ms_X11_107 (c_X11_requireArgument S x2) rfl (ta0) rfl rfl (Nat.le_of_ble_eq_true rfl) (Nat.le_of_ble_eq_true rfl) (Nat.le_of_ble_eq_true rfl) (dk okd_X11_predictDue 3 rfl) (st' := fun u5 => []) (fun _ => rfl) (fun u5 => ?_)
    refine s_run X ok_X11_predictDue 8 1 (pc' := 25) (vs' := [some (.ref p0), some (.int p1), some (.int p2)]) (st' := [.ref p0]) rfl ?_
    refine s_getR X fl_X11_41 t0_ (dk okd_X11_predictDue 4 rfl) (fun a6 (t7 : tT C a6 1) => ?_)
    refine s_run X ok_X11_predictDue 9 2 (pc' := 30) (vs' := [some (.ref p0), some (.int p1), some (.int p2)]) (st' := [.ref p0, .int p1, .ref a6]) rfl ?_
    refine s_getR X fl_X11_41 t0_ (dk okd_X11_predictDue 5 rfl) (fun a8 (t9 : tT C a8 1) => ?_)
    refine s_getR X fl_X11_133 t9 (dk okd_X11_predictDue 6 rfl) (fun a10 (t11 : tT C a10 6) => ?_)
    refine s_run X ok_X11_predictDue 11 2 (pc' := 38) (vs' := [some (.ref p0), some (.int p1), some (.int p2)]) (st' := [.int p2, .int p1, .ref a10, .int p1, .ref a6]) rfl ?_
    refine s_callV (b := a10) (As := [.int p1, .int p2]) (rest := [.int p1, .ref a6]) X E mv_X11_287 (c_X6_scaledSales S a10 p1 p2) rfl (ta1 t11) rfl (by decide) t11 rfl rfl (Nat.le_of_ble_eq_true rfl) (Nat.le_of_ble_eq_true rfl) (Nat.le_of_ble_eq_true rfl) (dk okd_X11_predictDue 7 rfl) (st' := fun v12 => [.long v12, .int p1, .ref a6]) (fun _ => rfl) (fun v12 => ?_)
    refine s_callV (b := a6) (As := [.int p1, .long v12]) (rest := []) X E mv_X11_290 (c_X1_calculate S a6 p1 v12) rfl (ta1 t7) rfl (by decide) t7 rfl rfl (Nat.le_of_ble_eq_true rfl) (Nat.le_of_ble_eq_true rfl) (Nat.le_of_ble_eq_true rfl) (dk okd_X11_predictDue 8 rfl) (st' := fun S13 => []) (fun _ => rfl) (fun S13 => ?_)
    refine s_run X ok_X11_predictDue 13 1 (pc' := 45) (vs' := [some (.ref p0), some (.int p1), some (.int p2)]) (st' := [.ref p0]) rfl ?_
    refine s_getR X fl_X11_41 t0_ (dk okd_X11_predictDue 9 rfl) (fun a14 (t15 : tT C a14 1) => ?_)
    refine s_getR X fl_X11_294 t15 (dk okd_X11_predictDue 10 rfl) (fun a16 (t17 : tT C a16 14) => ?_)
    refine s_run X ok_X11_predictDue 14 1 (pc' := 52) (vs' := [some (.ref p0), some (.int p1), some (.int p2)]) (st' := [.int 5, .ref a16]) rfl ?_
    refine s_lald X t17 (dk okd_X11_predictDue 11 rfl) (fun v18 => ?_)
    exact s_lretX X hr (dk okd_X11_predictDue 12 rfl) rfl rfl
  · refine s_jn (κ := Option ((Int64 × St) ⊕ Nat)) (fun k19 => Jd C 3 (QX C oLS sL S) S 20 [some (.ref p0), some (.int p1), some (.int p2)] [] k19) ?_ (fun k19 h20 => ?_)
    · refine s_run X ok_X11_predictDue 7 1 (pc' := 21) (vs' := [some (.ref p0), some (.int p1), some (.int p2)]) (st' := [.int 0]) rfl ?_
      exact h4 0
    · refine s_if_lt (tgt := 20) X (dk okd_X11_predictDue 1 rfl) (by decide) ?_ ?_
      · exact h20
      · refine s_run X ok_X11_predictDue 3 2 (pc' := 13) (vs' := [some (.ref p0), some (.int p1), some (.int p2)]) (st' := [.int 300, .int p2]) rfl ?_
        refine s_icmp_gt (tgt := 20) X (dk okd_X11_predictDue 2 rfl) (by decide) ?_ ?_
        · exact h20
        · refine s_run X ok_X11_predictDue 5 2 (pc' := 21) (vs' := [some (.ref p0), some (.int p1), some (.int p2)]) (st' := [.int 1]) rfl ?_
          exact h4 1
def tab_X11_pay : List En := [(0, 8, 0, 0), (1, 4, 1, 0), (5, 6, 2, 0), (9, 8, 0, 0), (16, 4, 1, 0), (17, 6, 2, 0)]
theorem ok_X11_pay : tab_X11_pay.all (okE cX11_pay) = true := by decide +kernel
def ed_X11_pay : List (Nat × Instr × Nat) := [(2, .invokevirtual 159, 3), (6, .invokestatic 304, 3), (10, .getfield 41, 3), (13, .getfield 85, 3), (18, .invokevirtual 308, 3), (21, .lreturn, 1)]
theorem okd_X11_pay : ed_X11_pay.all (okD cX11_pay) = true := by decide +kernel
def f_X11_pay (S : St) (p0 : Nat) (p1 : Int32) (p2 : Int64) : Option ((Int64 × St) ⊕ Nat) := clx (f_X11_requireFranchisee S p0 p1) fun (u1 : Unit) => clx (f_X11_requireAmount S p2) fun (u2 : Unit) => lt (gR S p0 5) fun (a3 : Nat) => lt (gR S a3 3) fun (a5 : Nat) => cl (f_X2_lowerBalance S a5 p1 p2) fun (o7 : Int64 × St) => some (.inl (o7.1, o7.2))
set_option maxHeartbeats 4000000 in
set_option maxRecDepth 100000 in
theorem c_X11_pay (S : St) (p0 : Nat) (p1 : Int32) (p2 : Int64) : CtX yX11_pay cX11_pay 4 (some .long) 8 131 (fun _ => [.ref p0, .int p1, .long p2]) [(p0, 10)] S (f_X11_pay S p0 p1 p2) oLS sL := by
  refine CtX_of RX11 rfl (by decide) (fun _ => Nat.le_of_ble_eq_true rfl) 0 (vs := fun _ => [some (.ref p0), some (.int p1), some (.long p2), none]) (fun _ => rfl) (fun C X E hr tx ht => ?_)
  have t0_ : tT C p0 10 := ht (p0, 10) (by simp)
  show Jd C 4 (QX C oLS sL S) S 0 [some (.ref p0), some (.int p1), some (.long p2), none] [] (f_X11_pay S p0 p1 p2)
  unfold f_X11_pay
  refine s_run X ok_X11_pay 0 2 (pc' := 2) (vs' := [some (.ref p0), some (.int p1), some (.long p2), none]) (st' := [.int p1, .ref p0]) rfl ?_
  refine s_callVX (b := p0) (As := [.int p1]) (rest := []) X E tx mv_X11_159 (c_X11_requireFranchisee S p0 p1) rfl (ta1 t0_) rfl (by decide) t0_ rfl rfl (Nat.le_of_ble_eq_true rfl) (Nat.le_of_ble_eq_true rfl) (Nat.le_of_ble_eq_true rfl) (dk okd_X11_pay 0 rfl) (st' := fun u1 => []) (fun _ => rfl) (fun u1 => ?_)
  refine s_run X ok_X11_pay 2 1 (pc' := 6) (vs' := [some (.ref p0), some (.int p1), some (.long p2), none]) (st' := [.long p2]) rfl ?_
  refine s_callSX (As := [.long p2]) (rest := []) X E tx ms_X11_304 (c_X11_requireAmount S p2) rfl (ta0) rfl rfl (Nat.le_of_ble_eq_true rfl) (Nat.le_of_ble_eq_true rfl) (Nat.le_of_ble_eq_true rfl) (dk okd_X11_pay 1 rfl) (st' := fun u2 => []) (fun _ => rfl) (fun u2 => ?_)
  refine s_run X ok_X11_pay 3 1 (pc' := 10) (vs' := [some (.ref p0), some (.int p1), some (.long p2), none]) (st' := [.ref p0]) rfl ?_
  refine s_getR X fl_X11_41 t0_ (dk okd_X11_pay 2 rfl) (fun a3 (t4 : tT C a3 1) => ?_)
  refine s_getR X fl_X11_85 t4 (dk okd_X11_pay 3 rfl) (fun a5 (t6 : tT C a5 2) => ?_)
  refine s_run X ok_X11_pay 4 2 (pc' := 18) (vs' := [some (.ref p0), some (.int p1), some (.long p2), none]) (st' := [.long p2, .int p1, .ref a5]) rfl ?_
  refine s_callV (b := a5) (As := [.int p1, .long p2]) (rest := []) X E mv_X11_308 (c_X2_lowerBalance S a5 p1 p2) rfl (ta1 t6) rfl (by decide) t6 rfl rfl (Nat.le_of_ble_eq_true rfl) (Nat.le_of_ble_eq_true rfl) (Nat.le_of_ble_eq_true rfl) (dk okd_X11_pay 4 rfl) (st' := fun o7 => [.long o7.1]) (fun _ => rfl) (fun o7 => ?_)
  exact s_lretX X hr (dk okd_X11_pay 5 rfl) rfl rfl
def tab_X11_payOff : List En := [(0, 8, 0, 0), (1, 4, 1, 0), (5, 6, 2, 0), (9, 8, 0, 0), (13, 4, 1, 0), (14, 6, 2, 0)]
theorem ok_X11_payOff : tab_X11_payOff.all (okE cX11_payOff) = true := by decide +kernel
def ed_X11_payOff : List (Nat × Instr × Nat) := [(2, .invokevirtual 159, 3), (6, .invokestatic 304, 3), (10, .getfield 41, 3), (15, .invokevirtual 314, 3), (18, .ireturn, 1)]
theorem okd_X11_payOff : ed_X11_payOff.all (okD cX11_payOff) = true := by decide +kernel
def f_X11_payOff (S : St) (p0 : Nat) (p1 : Int32) (p2 : Int64) : Option ((Int32) ⊕ Nat) := clx (f_X11_requireFranchisee S p0 p1) fun (u1 : Unit) => clx (f_X11_requireAmount S p2) fun (u2 : Unit) => lt (gR S p0 5) fun (a3 : Nat) => cl (f_X1_monthsToPayOff S a3 p1 p2) fun (v5 : Int32) => some (.inl v5)
set_option maxHeartbeats 4000000 in
set_option maxRecDepth 100000 in
theorem c_X11_payOff (S : St) (p0 : Nat) (p1 : Int32) (p2 : Int64) : CtX yX11_payOff cX11_payOff 4 (some .int) 8 131 (fun _ => [.ref p0, .int p1, .long p2]) [(p0, 10)] S (f_X11_payOff S p0 p1 p2) oI (fun _ => S) := by
  refine CtX_of RX11 rfl (by decide) (fun _ => Nat.le_of_ble_eq_true rfl) 0 (vs := fun _ => [some (.ref p0), some (.int p1), some (.long p2), none]) (fun _ => rfl) (fun C X E hr tx ht => ?_)
  have t0_ : tT C p0 10 := ht (p0, 10) (by simp)
  show Jd C 4 (QX C oI (fun _ => S) S) S 0 [some (.ref p0), some (.int p1), some (.long p2), none] [] (f_X11_payOff S p0 p1 p2)
  unfold f_X11_payOff
  refine s_run X ok_X11_payOff 0 2 (pc' := 2) (vs' := [some (.ref p0), some (.int p1), some (.long p2), none]) (st' := [.int p1, .ref p0]) rfl ?_
  refine s_callVX (b := p0) (As := [.int p1]) (rest := []) X E tx mv_X11_159 (c_X11_requireFranchisee S p0 p1) rfl (ta1 t0_) rfl (by decide) t0_ rfl rfl (Nat.le_of_ble_eq_true rfl) (Nat.le_of_ble_eq_true rfl) (Nat.le_of_ble_eq_true rfl) (dk okd_X11_payOff 0 rfl) (st' := fun u1 => []) (fun _ => rfl) (fun u1 => ?_)
  refine s_run X ok_X11_payOff 2 1 (pc' := 6) (vs' := [some (.ref p0), some (.int p1), some (.long p2), none]) (st' := [.long p2]) rfl ?_
  refine s_callSX (As := [.long p2]) (rest := []) X E tx ms_X11_304 (c_X11_requireAmount S p2) rfl (ta0) rfl rfl (Nat.le_of_ble_eq_true rfl) (Nat.le_of_ble_eq_true rfl) (Nat.le_of_ble_eq_true rfl) (dk okd_X11_payOff 1 rfl) (st' := fun u2 => []) (fun _ => rfl) (fun u2 => ?_)
  refine s_run X ok_X11_payOff 3 1 (pc' := 10) (vs' := [some (.ref p0), some (.int p1), some (.long p2), none]) (st' := [.ref p0]) rfl ?_
  refine s_getR X fl_X11_41 t0_ (dk okd_X11_payOff 2 rfl) (fun a3 (t4 : tT C a3 1) => ?_)
  refine s_run X ok_X11_payOff 4 2 (pc' := 15) (vs' := [some (.ref p0), some (.int p1), some (.long p2), none]) (st' := [.long p2, .int p1, .ref a3]) rfl ?_
  refine s_callV (b := a3) (As := [.int p1, .long p2]) (rest := []) X E mv_X11_314 (c_X1_monthsToPayOff S a3 p1 p2) rfl (ta1 t4) rfl (by decide) t4 rfl rfl (Nat.le_of_ble_eq_true rfl) (Nat.le_of_ble_eq_true rfl) (Nat.le_of_ble_eq_true rfl) (dk okd_X11_payOff 3 rfl) (st' := fun v5 => [.int v5]) (fun _ => rfl) (fun v5 => ?_)
  exact s_iretX X hr (dk okd_X11_payOff 4 rfl) rfl rfl
def tab_X11_campaign : List En := [(0, 6, 1, 0), (4, 8, 0, 0), (11, 6, 1, 0)]
theorem ok_X11_campaign : tab_X11_campaign.all (okE cX11_campaign) = true := by decide +kernel
def ed_X11_campaign : List (Nat × Instr × Nat) := [(1, .invokestatic 304, 3), (5, .getfield 41, 3), (8, .getfield 140, 3), (12, .invokevirtual 333, 3), (15, .ireturn, 1)]
theorem okd_X11_campaign : ed_X11_campaign.all (okD cX11_campaign) = true := by decide +kernel
def f_X11_campaign (S : St) (p0 : Nat) (p1 : Int64) : Option ((Int32 × St) ⊕ Nat) := clx (f_X11_requireAmount S p1) fun (u1 : Unit) => lt (gR S p0 5) fun (a2 : Nat) => lt (gR S a2 5) fun (a4 : Nat) => cl (f_X0_spendNational S a4 p1) fun (o6 : Int32 × St) => zc o6.1 (some (.inl (o6.1, o6.2)))
set_option maxHeartbeats 4000000 in
set_option maxRecDepth 100000 in
theorem c_X11_campaign (S : St) (p0 : Nat) (p1 : Int64) : CtX yX11_campaign cX11_campaign 3 (some .boolean) 8 131 (fun _ => [.ref p0, .long p1]) [(p0, 10)] S (f_X11_campaign S p0 p1) oIS sS := by
  refine CtX_of RX11 rfl (by decide) (fun _ => Nat.le_of_ble_eq_true rfl) 0 (vs := fun _ => [some (.ref p0), some (.long p1), none]) (fun _ => rfl) (fun C X E hr tx ht => ?_)
  have t0_ : tT C p0 10 := ht (p0, 10) (by simp)
  show Jd C 3 (QX C oIS sS S) S 0 [some (.ref p0), some (.long p1), none] [] (f_X11_campaign S p0 p1)
  unfold f_X11_campaign
  refine s_run X ok_X11_campaign 0 1 (pc' := 1) (vs' := [some (.ref p0), some (.long p1), none]) (st' := [.long p1]) rfl ?_
  refine s_callSX (As := [.long p1]) (rest := []) X E tx ms_X11_304 (c_X11_requireAmount S p1) rfl (ta0) rfl rfl (Nat.le_of_ble_eq_true rfl) (Nat.le_of_ble_eq_true rfl) (Nat.le_of_ble_eq_true rfl) (dk okd_X11_campaign 0 rfl) (st' := fun u1 => []) (fun _ => rfl) (fun u1 => ?_)
  refine s_run X ok_X11_campaign 1 1 (pc' := 5) (vs' := [some (.ref p0), some (.long p1), none]) (st' := [.ref p0]) rfl ?_
  refine s_getR X fl_X11_41 t0_ (dk okd_X11_campaign 1 rfl) (fun a2 (t3 : tT C a2 1) => ?_)
  refine s_getR X fl_X11_140 t3 (dk okd_X11_campaign 2 rfl) (fun a4 (t5 : tT C a4 0) => ?_)
  refine s_run X ok_X11_campaign 2 1 (pc' := 12) (vs' := [some (.ref p0), some (.long p1), none]) (st' := [.long p1, .ref a4]) rfl ?_
  refine s_callV (b := a4) (As := [.long p1]) (rest := []) X E mv_X11_333 (c_X0_spendNational S a4 p1) rfl (ta1 t5) rfl (by decide) t5 rfl rfl (Nat.le_of_ble_eq_true rfl) (Nat.le_of_ble_eq_true rfl) (Nat.le_of_ble_eq_true rfl) (dk okd_X11_campaign 3 rfl) (st' := fun o6 => [.int o6.1]) (fun _ => rfl) (fun o6 => ?_)
  exact s_zretX X hr (dk okd_X11_campaign 4 rfl) rfl rfl
def tab_X11_grant : List En := [(0, 8, 0, 0), (1, 4, 1, 0), (5, 6, 2, 0), (9, 8, 0, 0), (13, 4, 1, 0), (14, 6, 2, 0)]
theorem ok_X11_grant : tab_X11_grant.all (okE cX11_grant) = true := by decide +kernel
def ed_X11_grant : List (Nat × Instr × Nat) := [(2, .invokevirtual 159, 3), (6, .invokestatic 304, 3), (10, .getfield 41, 3), (15, .invokevirtual 337, 3), (18, .ireturn, 1)]
theorem okd_X11_grant : ed_X11_grant.all (okD cX11_grant) = true := by decide +kernel
def f_X11_grant (S : St) (p0 : Nat) (p1 : Int32) (p2 : Int64) : Option ((Int32 × St) ⊕ Nat) := clx (f_X11_requireFranchisee S p0 p1) fun (u1 : Unit) => clx (f_X11_requireAmount S p2) fun (u2 : Unit) => lt (gR S p0 5) fun (a3 : Nat) => cl (f_X1_spendLocal S a3 p1 p2) fun (o5 : Int32 × St) => zc o5.1 (some (.inl (o5.1, o5.2)))
set_option maxHeartbeats 4000000 in
set_option maxRecDepth 100000 in
theorem c_X11_grant (S : St) (p0 : Nat) (p1 : Int32) (p2 : Int64) : CtX yX11_grant cX11_grant 4 (some .boolean) 8 131 (fun _ => [.ref p0, .int p1, .long p2]) [(p0, 10)] S (f_X11_grant S p0 p1 p2) oIS sS := by
  refine CtX_of RX11 rfl (by decide) (fun _ => Nat.le_of_ble_eq_true rfl) 0 (vs := fun _ => [some (.ref p0), some (.int p1), some (.long p2), none]) (fun _ => rfl) (fun C X E hr tx ht => ?_)
  have t0_ : tT C p0 10 := ht (p0, 10) (by simp)
  show Jd C 4 (QX C oIS sS S) S 0 [some (.ref p0), some (.int p1), some (.long p2), none] [] (f_X11_grant S p0 p1 p2)
  unfold f_X11_grant
  refine s_run X ok_X11_grant 0 2 (pc' := 2) (vs' := [some (.ref p0), some (.int p1), some (.long p2), none]) (st' := [.int p1, .ref p0]) rfl ?_
  refine s_callVX (b := p0) (As := [.int p1]) (rest := []) X E tx mv_X11_159 (c_X11_requireFranchisee S p0 p1) rfl (ta1 t0_) rfl (by decide) t0_ rfl rfl (Nat.le_of_ble_eq_true rfl) (Nat.le_of_ble_eq_true rfl) (Nat.le_of_ble_eq_true rfl) (dk okd_X11_grant 0 rfl) (st' := fun u1 => []) (fun _ => rfl) (fun u1 => ?_)
  refine s_run X ok_X11_grant 2 1 (pc' := 6) (vs' := [some (.ref p0), some (.int p1), some (.long p2), none]) (st' := [.long p2]) rfl ?_
  refine s_callSX (As := [.long p2]) (rest := []) X E tx ms_X11_304 (c_X11_requireAmount S p2) rfl (ta0) rfl rfl (Nat.le_of_ble_eq_true rfl) (Nat.le_of_ble_eq_true rfl) (Nat.le_of_ble_eq_true rfl) (dk okd_X11_grant 1 rfl) (st' := fun u2 => []) (fun _ => rfl) (fun u2 => ?_)
  refine s_run X ok_X11_grant 3 1 (pc' := 10) (vs' := [some (.ref p0), some (.int p1), some (.long p2), none]) (st' := [.ref p0]) rfl ?_
  refine s_getR X fl_X11_41 t0_ (dk okd_X11_grant 2 rfl) (fun a3 (t4 : tT C a3 1) => ?_)
  refine s_run X ok_X11_grant 4 2 (pc' := 15) (vs' := [some (.ref p0), some (.int p1), some (.long p2), none]) (st' := [.long p2, .int p1, .ref a3]) rfl ?_
  refine s_callV (b := a3) (As := [.int p1, .long p2]) (rest := []) X E mv_X11_337 (c_X1_spendLocal S a3 p1 p2) rfl (ta1 t4) rfl (by decide) t4 rfl rfl (Nat.le_of_ble_eq_true rfl) (Nat.le_of_ble_eq_true rfl) (Nat.le_of_ble_eq_true rfl) (dk okd_X11_grant 3 rfl) (st' := fun o5 => [.int o5.1]) (fun _ => rfl) (fun o5 => ?_)
  exact s_zretX X hr (dk okd_X11_grant 4 rfl) rfl rfl
def tab_J0_charAt_5068e : List En := [(0, 8, 0, 0), (7, 8, 0, 0), (11, 4, 1, 0), (16, 8, 0, 0), (20, 4, 1, 0)]
theorem ok_J0_charAt_5068e : tab_J0_charAt_5068e.all (okE cJ0_charAt_5068e) = true := by decide +kernel
def ed_J0_charAt_5068e : List (Nat × Instr × Nat) := [(1, .invokevirtual 492, 3), (4, .ifCond .eq 12, 3), (8, .getfield 9, 3), (12, .invokestatic 495, 3), (15, .ireturn, 1), (17, .getfield 9, 3), (21, .invokestatic 498, 3), (24, .ireturn, 1)]
theorem okd_J0_charAt_5068e : ed_J0_charAt_5068e.all (okD cJ0_charAt_5068e) = true := by decide +kernel
def f_J0_charAt_5068e (S : St) (p0 : Nat) (p1 : Int32) : Option (Int32) := tk p0 <| cl (f_J0_isLatin1_aae02 S p0) fun (v1 : Int32) => if v1 = 0 then (none) else (tk p0 <| cl (f_J1_charAt_3b067 S p0 p1) fun (v2 : Int32) => nrw .char v2 (some v2))
set_option maxHeartbeats 4000000 in
set_option maxRecDepth 100000 in
theorem c_J0_charAt_5068e (S : St) (p0 : Nat) (p1 : Int32) : Ct yJ0_charAt_5068e cJ0_charAt_5068e 2 (some .char) 3 64 (fun cy => [.ref (cy (100 + 2 * p0)), .int p1]) [] S (f_J0_charAt_5068e S p0 p1) oI (fun _ => S) := by
  refine Ct_of RJ0 rfl (by decide) (fun _ => Nat.le_of_ble_eq_true rfl) 0 (vs := fun cy => [some (.ref (cy (100 + 2 * p0))), some (.int p1)]) (fun _ => rfl) (fun C X E hr ht => ?_)
  show Jd C 2 (QJ C oI (fun _ => S)) S 0 [some (.ref (cS C p0)), some (.int p1)] [] (f_J0_charAt_5068e S p0 p1)
  unfold f_J0_charAt_5068e
  refine s_run X ok_J0_charAt_5068e 0 1 (pc' := 1) (vs' := [some (.ref (cS C p0)), some (.int p1)]) (st' := [.ref (cS C p0)]) rfl ?_
  refine s_callT (i := p0) (As := []) (rest := []) X E mv_J0_492 (c_J0_isLatin1_aae02 S p0) rfl (ta0) rfl rfl rfl (Nat.le_of_ble_eq_true rfl) (Nat.le_of_ble_eq_true rfl) (Nat.le_of_ble_eq_true rfl) (dk okd_J0_charAt_5068e 0 rfl) (st' := fun v1 => [.int v1]) (fun _ => rfl) (fun v1 => ?_)
  refine s_if_eq (tgt := 16) X (dk okd_J0_charAt_5068e 1 rfl) (by decide) ?_ ?_
  · exact s_none
  · refine s_run X ok_J0_charAt_5068e 1 1 (pc' := 8) (vs' := [some (.ref (cS C p0)), some (.int p1)]) (st' := [.ref (cS C p0)]) rfl ?_
    refine s_sval X E sl_J0_9 (dk okd_J0_charAt_5068e 2 rfl) ?_
    refine s_run X ok_J0_charAt_5068e 2 1 (pc' := 12) (vs' := [some (.ref (cS C p0)), some (.int p1)]) (st' := [.int p1, .ref (cV C p0)]) rfl ?_
    refine s_callS (As := [.ref (cV C p0), .int p1]) (rest := []) X E ms_J0_495 (c_J1_charAt_3b067 S p0 p1) rfl (ta0) rfl rfl (Nat.le_of_ble_eq_true rfl) (Nat.le_of_ble_eq_true rfl) (Nat.le_of_ble_eq_true rfl) (dk okd_J0_charAt_5068e 3 rfl) (st' := fun v2 => [.int v2]) (fun _ => rfl) (fun v2 => ?_)
    exact s_nret X hr (dk okd_J0_charAt_5068e 4 rfl) rfl rfl
def tab_X4_addPart : List En := [(0, 0, 0, 0), (1, 11, 4, 0), (3, 5, 4, 0), (5, 8, 1, 0), (12, 8, 0, 0), (13, 8, 1, 0), (14, 5, 4, 0), (22, 16, 4, 1), (25, 41, 3, 0), (28, 6, 2, 0), (29, 3, 0, 0), (30, 40, 0, 0), (34, 8, 0, 0), (35, 1, 0, 45), (40, 6, 2, 0), (44, 13, 4, 0), (46, 8, 0, 0), (47, 7, 4, 0), (56, 8, 0, 0), (57, 1, 0, 46), (62, 8, 0, 0), (63, 7, 4, 0), (72, 8, 0, 0), (73, 7, 4, 0)]
theorem ok_X4_addPart : tab_X4_addPart.all (okE cX4_addPart) = true := by decide +kernel
def ed_X4_addPart : List (Nat × Instr × Nat) := [(6, .invokevirtual 43, 3), (9, .if_icmp .ge 19, 3), (16, .invokevirtual 48, 3), (19, .invokevirtual 52, 3), (31, .ifCond .ge 9, 3), (37, .invokevirtual 52, 3), (41, .invokestatic 56, 3), (49, .ldc2_w 62, 3), (52, .ldiv, 1), (53, .invokevirtual 64, 3), (59, .invokevirtual 52, 3), (65, .ldc2_w 68, 3), (68, .ldiv, 1), (69, .invokevirtual 70, 3), (75, .invokevirtual 70, 3), (78, .return_, 1)]
theorem okd_X4_addPart : ed_X4_addPart.all (okD cX4_addPart) = true := by decide +kernel
def f_X4_addPart (S : St) (p0 : Nat) (p1 : Nat) (p2 : Int64) : Option (St) := jn (κ := St → Option (St)) (fun S1 => jn (κ := St → Option (St)) (fun S4 => lt (if 0 < p2 then p2 else -p2) fun (v7 : Int64) => cl (f_X4_addWhole S4 p0 (v7 / 100)) fun (S8 : St) => cl (f_X4_addByte S8 p0 46) fun (S9 : St) => cl (f_X4_addDigit S9 p0 (v7 / 10)) fun (S10 : St) => cl (f_X4_addDigit S10 p0 v7) fun (S11 : St) => some S11) fun k5 => if 0 ≤ p2 then (k5 S1) else (cl (f_X4_addByte S1 p0 45) fun (S12 : St) => k5 S12)) fun k2 => lp (κ := Int32 → St → Option (St)) (fun _ _ => none) (fun k15 x13 S14 => tk p1 <| cl (f_J0_length_8abf5 S14 p1) fun (v17 : Int32) => if v17 ≤ x13 then (k2 S14) else (tk p1 <| cl (f_J0_charAt_5068e S14 p1 x13) fun (v18 : Int32) => cl (f_X4_addByte S14 p0 v18) fun (S19 : St) => k15 (x13 + 1) S19)) FU 0 S
set_option maxHeartbeats 4000000 in
set_option maxRecDepth 100000 in
theorem c_X4_addPart (S : St) (p0 : Nat) (p1 : Nat) (p2 : Int64) : Ct yX4_addPart cX4_addPart 6 none 4 85 (fun cy => [.ref p0, .ref (cy (100 + 2 * p1)), .long p2]) [(p0, 4)] S (f_X4_addPart S p0 p1 p2) oV sV := by
  refine Ct_of RX4 rfl (by decide) (fun _ => Nat.le_of_ble_eq_true rfl) 2 (vs := fun cy => [some (.ref p0), some (.ref (cy (100 + 2 * p1))), some (.long p2), none, none, none]) (fun _ => rfl) (fun C X E hr ht => ?_)
  have t0_ : tT C p0 4 := ht (p0, 4) (by simp)
  show Jd C 6 (QJ C oV sV) S 0 [some (.ref p0), some (.ref (cS C p1)), some (.long p2), none, none, none] [] (f_X4_addPart S p0 p1 p2)
  unfold f_X4_addPart
  refine s_run X ok_X4_addPart 0 2 (pc' := 3) (vs' := [some (.ref p0), some (.ref (cS C p1)), some (.long p2), none, some (.int 0), none]) (st' := []) rfl ?_
  refine s_jn (κ := St → Option (St)) (fun k2 => ∀ (S1 : St), Jd C 6 (QJ C oV sV) S1 28 [some (.ref p0), none, some (.long p2), none, none, none] [] (k2 S1)) (fun S1 => ?_) (fun k2 h3 => ?_)
  · refine s_run X ok_X4_addPart 9 3 (pc' := 31) (vs' := [some (.ref p0), none, some (.long p2), none, none, none]) (st' := [.int (lg_cmp p2 0)]) rfl ?_
    refine s_jn (κ := St → Option (St)) (fun k5 => ∀ (S4 : St), Jd C 6 (QJ C oV sV) S4 40 [some (.ref p0), none, some (.long p2), none, none, none] [] (k5 S4)) (fun S4 => ?_) (fun k5 h6 => ?_)
    · refine s_run X ok_X4_addPart 14 1 (pc' := 41) (vs' := [some (.ref p0), none, some (.long p2), none, none, none]) (st' := [.long p2]) rfl ?_
      refine s_MabsJ X mm_X4_56 (Nat.le_of_ble_eq_true rfl) (Nat.le_of_ble_eq_true rfl) (dk okd_X4_addPart 6 rfl) (fun v7 => ?_)
      refine s_run X ok_X4_addPart 15 3 (pc' := 49) (vs' := [some (.ref p0), none, some (.long p2), none, some (.long v7), none]) (st' := [.long v7, .ref p0]) rfl ?_
      refine s_ldc2 X cl_X4_62 (dk okd_X4_addPart 7 rfl) ?_
      refine s_ldiv0 X (dk okd_X4_addPart 8 rfl) (by decide) ?_
      refine s_callV (b := p0) (As := [.long (v7 / 100)]) (rest := []) X E mv_X4_64 (c_X4_addWhole S4 p0 (v7 / 100)) rfl (ta1 t0_) rfl (by decide) t0_ rfl rfl (Nat.le_of_ble_eq_true rfl) (Nat.le_of_ble_eq_true rfl) (Nat.le_of_ble_eq_true rfl) (dk okd_X4_addPart 9 rfl) (st' := fun S8 => []) (fun _ => rfl) (fun S8 => ?_)
      refine s_run X ok_X4_addPart 18 2 (pc' := 59) (vs' := [some (.ref p0), none, some (.long p2), none, some (.long v7), none]) (st' := [.int 46, .ref p0]) rfl ?_
      refine s_callV (b := p0) (As := [.int 46]) (rest := []) X E mv_X4_52 (c_X4_addByte S8 p0 46) rfl (ta1 t0_) rfl (by decide) t0_ rfl rfl (Nat.le_of_ble_eq_true rfl) (Nat.le_of_ble_eq_true rfl) (Nat.le_of_ble_eq_true rfl) (dk okd_X4_addPart 10 rfl) (st' := fun S9 => []) (fun _ => rfl) (fun S9 => ?_)
      refine s_run X ok_X4_addPart 20 2 (pc' := 65) (vs' := [some (.ref p0), none, some (.long p2), none, some (.long v7), none]) (st' := [.long v7, .ref p0]) rfl ?_
      refine s_ldc2 X cl_X4_68 (dk okd_X4_addPart 11 rfl) ?_
      refine s_ldiv0 X (dk okd_X4_addPart 12 rfl) (by decide) ?_
      refine s_callV (b := p0) (As := [.long (v7 / 10)]) (rest := []) X E mv_X4_70 (c_X4_addDigit S9 p0 (v7 / 10)) rfl (ta1 t0_) rfl (by decide) t0_ rfl rfl (Nat.le_of_ble_eq_true rfl) (Nat.le_of_ble_eq_true rfl) (Nat.le_of_ble_eq_true rfl) (dk okd_X4_addPart 13 rfl) (st' := fun S10 => []) (fun _ => rfl) (fun S10 => ?_)
      refine s_run X ok_X4_addPart 22 2 (pc' := 75) (vs' := [some (.ref p0), none, some (.long p2), none, some (.long v7), none]) (st' := [.long v7, .ref p0]) rfl ?_
      refine s_callV (b := p0) (As := [.long v7]) (rest := []) X E mv_X4_70 (c_X4_addDigit S10 p0 v7) rfl (ta1 t0_) rfl (by decide) t0_ rfl rfl (Nat.le_of_ble_eq_true rfl) (Nat.le_of_ble_eq_true rfl) (Nat.le_of_ble_eq_true rfl) (dk okd_X4_addPart 14 rfl) (st' := fun S11 => []) (fun _ => rfl) (fun S11 => ?_)
      exact s_vret X hr (dk okd_X4_addPart 15 rfl) rfl rfl
    · refine s_lif_ge (tgt := 40) X (dk okd_X4_addPart 4 rfl) (by decide) ?_ ?_
      · exact h6 S1
      · refine s_run X ok_X4_addPart 12 2 (pc' := 37) (vs' := [some (.ref p0), none, some (.long p2), none, none, none]) (st' := [.int 45, .ref p0]) rfl ?_
        refine s_callV (b := p0) (As := [.int 45]) (rest := []) X E mv_X4_52 (c_X4_addByte S1 p0 45) rfl (ta1 t0_) rfl (by decide) t0_ rfl rfl (Nat.le_of_ble_eq_true rfl) (Nat.le_of_ble_eq_true rfl) (Nat.le_of_ble_eq_true rfl) (dk okd_X4_addPart 5 rfl) (st' := fun S12 => []) (fun _ => rfl) (fun S12 => ?_)
        exact h6 S12
  · refine s_lp (κ := Int32 → St → Option (St)) (fun k15 => ∀ (x13 : Int32) (S14 : St), Jd C 6 (QJ C oV sV) S14 3 [some (.ref p0), some (.ref (cS C p1)), some (.long p2), none, some (.int x13), none] [] (k15 x13 S14)) (fun _ _ => s_none) (fun k15 h16 x13 S14 => ?_) FU 0 S
    refine s_run X ok_X4_addPart 2 2 (pc' := 6) (vs' := [some (.ref p0), some (.ref (cS C p1)), some (.long p2), none, some (.int x13), none]) (st' := [.ref (cS C p1), .int x13]) rfl ?_
    refine s_callT (i := p1) (As := []) (rest := [.int x13]) X E mv_X4_43 (c_J0_length_8abf5 S14 p1) rfl (ta0) rfl rfl rfl (Nat.le_of_ble_eq_true rfl) (Nat.le_of_ble_eq_true rfl) (Nat.le_of_ble_eq_true rfl) (dk okd_X4_addPart 0 rfl) (st' := fun v17 => [.int v17, .int x13]) (fun _ => rfl) (fun v17 => ?_)
    refine s_icmp_ge (tgt := 28) X (dk okd_X4_addPart 1 rfl) (by decide) ?_ ?_
    · exact s_less [true, false, true, false, false, false] rfl (h3 S14)
    · refine s_run X ok_X4_addPart 4 3 (pc' := 16) (vs' := [some (.ref p0), some (.ref (cS C p1)), some (.long p2), none, some (.int x13), none]) (st' := [.int x13, .ref (cS C p1), .ref p0]) rfl ?_
      refine s_callT (i := p1) (As := [.int x13]) (rest := [.ref p0]) X E mv_X4_48 (c_J0_charAt_5068e S14 p1 x13) rfl (ta0) rfl rfl rfl (Nat.le_of_ble_eq_true rfl) (Nat.le_of_ble_eq_true rfl) (Nat.le_of_ble_eq_true rfl) (dk okd_X4_addPart 2 rfl) (st' := fun v18 => [.int v18, .ref p0]) (fun _ => rfl) (fun v18 => ?_)
      refine s_callV (b := p0) (As := [.int v18]) (rest := []) X E mv_X4_52 (c_X4_addByte S14 p0 v18) rfl (ta1 t0_) rfl (by decide) t0_ rfl rfl (Nat.le_of_ble_eq_true rfl) (Nat.le_of_ble_eq_true rfl) (Nat.le_of_ble_eq_true rfl) (dk okd_X4_addPart 3 rfl) (st' := fun S19 => []) (fun _ => rfl) (fun S19 => ?_)
      refine s_run X ok_X4_addPart 7 2 (pc' := 3) (vs' := [some (.ref p0), some (.ref (cS C p1)), some (.long p2), none, some (.int (x13 + 1)), none]) (st' := []) rfl ?_
      exact h16 (x13 + 1) S19
def tab_X5_executeNext : List En := [(0, 8, 0, 0), (7, 8, 0, 0), (11, 8, 0, 0), (18, 0, 0, 0), (20, 8, 0, 0), (24, 10, 2, 0), (25, 8, 0, 0), (26, 36, 0, 0), (30, 0, 0, 1), (31, 17, 0, 0), (35, 8, 0, 0), (39, 4, 2, 0), (84, 8, 0, 0), (85, 4, 2, 0), (86, 8, 1, 0), (91, 8, 1, 0), (95, 8, 0, 0), (99, 4, 2, 0), (105, 8, 1, 0), (110, 8, 0, 0), (111, 4, 2, 0), (112, 8, 1, 0)]
theorem ok_X5_executeNext : tab_X5_executeNext.all (okE cX5_executeNext) = true := by decide +kernel
def ed_X5_executeNext : List (Nat × Instr × Nat) := [(1, .getfield 39, 3), (4, .ifCond .lt 14, 3), (8, .getfield 39, 3), (12, .getfield 35, 3), (15, .if_icmp .lt 5, 3), (19, .ireturn, 1), (21, .getfield 39, 3), (27, .getfield 39, 3), (32, .putfield 39, 3), (36, .getfield 9, 3), (40, .iaload, 1), (41, .tableswitch 69 0 6 #[43, 43, 69, 69, 50, 69, 64], 43), (87, .invokevirtual 111, 3), (90, .ireturn, 1), (92, .getfield 115, 3), (96, .getfield 31, 3), (100, .laload, 1), (101, .invokevirtual 121, 3), (104, .ireturn, 1), (106, .invokevirtual 127, 3), (109, .ireturn, 1), (113, .invokevirtual 129, 3), (116, .ireturn, 1)]
theorem okd_X5_executeNext : ed_X5_executeNext.all (okD cX5_executeNext) = true := by decide +kernel
def f_X5_executeNext (S : St) (p0 : Nat) (p1 : Nat) : Option (Int32 × St) := lt (gI S p0 8) fun (v1 : Int32) => if v1 < 0 then (some (0, S)) else (lt (gI S p0 8) fun (v2 : Int32) => lt (gI S p0 7) fun (v3 : Int32) => if v2 < v3 then (lt (gI S p0 8) fun (v4 : Int32) => lt (gI S p0 8) fun (v5 : Int32) => lt (uI S p0 8 (v5 + 1)) fun (S6 : St) => lt (gR S6 p0 0) fun (a7 : Nat) => ldI S6 a7 v4 fun (v9 : Int32) => jn (κ := Option (Int32 × St)) (cl (f_X5_executeSales S6 p0 v4 p1) fun (o12 : Int32 × St) => zc o12.1 (some (o12.1, o12.2))) fun k10 => jn (κ := Option (Int32 × St)) (cl (f_X5_executeForFranchisee S6 p0 v4 p1) fun (o15 : Int32 × St) => zc o15.1 (some (o15.1, o15.2))) fun k13 => if v9 = 0 then (k10) else (if v9 = 1 then (k10) else (if v9 = 2 then (k13) else (if v9 = 3 then (k13) else (if v9 = 4 then (lt (gR S6 p1 5) fun (a16 : Nat) => lt (gR S6 p0 6) fun (a18 : Nat) => ldJ S6 a18 v4 fun (v20 : Int64) => cl (f_X0_spendNational S6 a16 v20) fun (o21 : Int32 × St) => zc o21.1 (some (o21.1, o21.2))) else (if v9 = 5 then (k13) else (if v9 = 6 then (cl (f_X1_close S6 p1) fun (o22 : Int32 × St) => zc o22.1 (some (o22.1, o22.2))) else (k13)))))))) else (some (0, S)))
set_option maxHeartbeats 4000000 in
set_option maxRecDepth 100000 in
theorem c_X5_executeNext (S : St) (p0 : Nat) (p1 : Nat) : Ct yX5_executeNext cX5_executeNext 3 (some .boolean) 5 116 (fun _ => [.ref p0, .ref p1]) [(p0, 5), (p1, 1)] S (f_X5_executeNext S p0 p1) oIS sS := by
  refine Ct_of RX5 rfl (by decide) (fun _ => Nat.le_of_ble_eq_true rfl) 1 (vs := fun _ => [some (.ref p0), some (.ref p1), none]) (fun _ => rfl) (fun C X E hr ht => ?_)
  have t0_ : tT C p0 5 := ht (p0, 5) (by simp)
  have t1_ : tT C p1 1 := ht (p1, 1) (by simp)
  show Jd C 3 (QJ C oIS sS) S 0 [some (.ref p0), some (.ref p1), none] [] (f_X5_executeNext S p0 p1)
  unfold f_X5_executeNext
  refine s_run X ok_X5_executeNext 0 1 (pc' := 1) (vs' := [some (.ref p0), some (.ref p1), none]) (st' := [.ref p0]) rfl ?_
  refine s_getI X fl_X5_39 t0_ (dk okd_X5_executeNext 0 rfl) (fun v1 => ?_)
  refine s_if_lt (tgt := 18) X (dk okd_X5_executeNext 1 rfl) (by decide) ?_ ?_
  · refine s_run X ok_X5_executeNext 3 1 (pc' := 19) (vs' := [some (.ref p0), some (.ref p1), none]) (st' := [.int 0]) rfl ?_
    exact s_zret0 X hr (dk okd_X5_executeNext 5 rfl) (by decide) rfl rfl
  · refine s_run X ok_X5_executeNext 1 1 (pc' := 8) (vs' := [some (.ref p0), some (.ref p1), none]) (st' := [.ref p0]) rfl ?_
    refine s_getI X fl_X5_39 t0_ (dk okd_X5_executeNext 2 rfl) (fun v2 => ?_)
    refine s_run X ok_X5_executeNext 2 1 (pc' := 12) (vs' := [some (.ref p0), some (.ref p1), none]) (st' := [.ref p0, .int v2]) rfl ?_
    refine s_getI X fl_X5_35 t0_ (dk okd_X5_executeNext 3 rfl) (fun v3 => ?_)
    refine s_icmp_lt (tgt := 20) X (dk okd_X5_executeNext 4 rfl) (by decide) ?_ ?_
    · refine s_run X ok_X5_executeNext 4 1 (pc' := 21) (vs' := [some (.ref p0), some (.ref p1), none]) (st' := [.ref p0]) rfl ?_
      refine s_getI X fl_X5_39 t0_ (dk okd_X5_executeNext 6 rfl) (fun v4 => ?_)
      refine s_run X ok_X5_executeNext 5 3 (pc' := 27) (vs' := [some (.ref p0), some (.ref p1), some (.int v4)]) (st' := [.ref p0, .ref p0]) rfl ?_
      refine s_getI X fl_X5_39 t0_ (dk okd_X5_executeNext 7 rfl) (fun v5 => ?_)
      refine s_run X ok_X5_executeNext 8 2 (pc' := 32) (vs' := [some (.ref p0), some (.ref p1), some (.int v4)]) (st' := [.int (v5 + 1), .ref p0]) rfl ?_
      refine s_putI X fp_X5_39 t0_ (dk okd_X5_executeNext 8 rfl) (fun S6 => ?_)
      refine s_run X ok_X5_executeNext 10 1 (pc' := 36) (vs' := [some (.ref p0), some (.ref p1), some (.int v4)]) (st' := [.ref p0]) rfl ?_
      refine s_getR X fl_X5_9 t0_ (dk okd_X5_executeNext 9 rfl) (fun a7 (t8 : tT C a7 13) => ?_)
      refine s_run X ok_X5_executeNext 11 1 (pc' := 40) (vs' := [some (.ref p0), some (.ref p1), some (.int v4)]) (st' := [.int v4, .ref a7]) rfl ?_
      refine s_iald X t8 (dk okd_X5_executeNext 10 rfl) (fun v9 => ?_)
      refine s_jn (κ := Option (Int32 × St)) (fun k10 => Jd C 3 (QJ C oIS sS) S6 84 [some (.ref p0), some (.ref p1), some (.int v4)] [] k10) ?_ (fun k10 h11 => ?_)
      · refine s_run X ok_X5_executeNext 12 3 (pc' := 87) (vs' := [some (.ref p0), some (.ref p1), some (.int v4)]) (st' := [.ref p1, .int v4, .ref p0]) rfl ?_
        refine s_callV (b := p0) (As := [.int v4, .ref p1]) (rest := []) X E mv_X5_111 (c_X5_executeSales S6 p0 v4 p1) rfl (ta2 t0_ t1_) rfl (by decide) t0_ rfl rfl (Nat.le_of_ble_eq_true rfl) (Nat.le_of_ble_eq_true rfl) (Nat.le_of_ble_eq_true rfl) (dk okd_X5_executeNext 12 rfl) (st' := fun o12 => [.int o12.1]) (fun _ => rfl) (fun o12 => ?_)
        exact s_zret X hr (dk okd_X5_executeNext 13 rfl) rfl rfl
      · refine s_jn (κ := Option (Int32 × St)) (fun k13 => Jd C 3 (QJ C oIS sS) S6 110 [some (.ref p0), some (.ref p1), some (.int v4)] [] k13) ?_ (fun k13 h14 => ?_)
        · refine s_run X ok_X5_executeNext 19 3 (pc' := 113) (vs' := [some (.ref p0), some (.ref p1), some (.int v4)]) (st' := [.ref p1, .int v4, .ref p0]) rfl ?_
          refine s_callV (b := p0) (As := [.int v4, .ref p1]) (rest := []) X E mv_X5_129 (c_X5_executeForFranchisee S6 p0 v4 p1) rfl (ta2 t0_ t1_) rfl (by decide) t0_ rfl rfl (Nat.le_of_ble_eq_true rfl) (Nat.le_of_ble_eq_true rfl) (Nat.le_of_ble_eq_true rfl) (dk okd_X5_executeNext 21 rfl) (st' := fun o15 => [.int o15.1]) (fun _ => rfl) (fun o15 => ?_)
          exact s_zret X hr (dk okd_X5_executeNext 22 rfl) rfl rfl
        · refine s_tabc (c := 0) (tgt := 84) X (dk okd_X5_executeNext 11 rfl) (by decide) (by decide) rfl (by decide) ?_ (fun n0 => ?_)
          · exact h11
          refine s_tabc (c := 1) (tgt := 84) X (dk okd_X5_executeNext 11 rfl) (by decide) (by decide) rfl (by decide) ?_ (fun n1 => ?_)
          · exact h11
          refine s_tabc (c := 2) (tgt := 110) X (dk okd_X5_executeNext 11 rfl) (by decide) (by decide) rfl (by decide) ?_ (fun n2 => ?_)
          · exact h14
          refine s_tabc (c := 3) (tgt := 110) X (dk okd_X5_executeNext 11 rfl) (by decide) (by decide) rfl (by decide) ?_ (fun n3 => ?_)
          · exact h14
          refine s_tabc (c := 4) (tgt := 91) X (dk okd_X5_executeNext 11 rfl) (by decide) (by decide) rfl (by decide) ?_ (fun n4 => ?_)
          · refine s_run X ok_X5_executeNext 15 1 (pc' := 92) (vs' := [some (.ref p0), some (.ref p1), some (.int v4)]) (st' := [.ref p1]) rfl ?_
            refine s_getR X fl_X5_115 t1_ (dk okd_X5_executeNext 14 rfl) (fun a16 (t17 : tT C a16 0) => ?_)
            refine s_run X ok_X5_executeNext 16 1 (pc' := 96) (vs' := [some (.ref p0), some (.ref p1), some (.int v4)]) (st' := [.ref p0, .ref a16]) rfl ?_
            refine s_getR X fl_X5_31 t0_ (dk okd_X5_executeNext 15 rfl) (fun a18 (t19 : tT C a18 14) => ?_)
            refine s_run X ok_X5_executeNext 17 1 (pc' := 100) (vs' := [some (.ref p0), some (.ref p1), some (.int v4)]) (st' := [.int v4, .ref a18, .ref a16]) rfl ?_
            refine s_lald X t19 (dk okd_X5_executeNext 16 rfl) (fun v20 => ?_)
            refine s_callV (b := a16) (As := [.long v20]) (rest := []) X E mv_X5_121 (c_X0_spendNational S6 a16 v20) rfl (ta1 t17) rfl (by decide) t17 rfl rfl (Nat.le_of_ble_eq_true rfl) (Nat.le_of_ble_eq_true rfl) (Nat.le_of_ble_eq_true rfl) (dk okd_X5_executeNext 17 rfl) (st' := fun o21 => [.int o21.1]) (fun _ => rfl) (fun o21 => ?_)
            exact s_zret X hr (dk okd_X5_executeNext 18 rfl) rfl rfl
          refine s_tabc (c := 5) (tgt := 110) X (dk okd_X5_executeNext 11 rfl) (by decide) (by decide) rfl (by decide) ?_ (fun n5 => ?_)
          · exact h14
          refine s_tabc (c := 6) (tgt := 105) X (dk okd_X5_executeNext 11 rfl) (by decide) (by decide) rfl (by decide) ?_ (fun n6 => ?_)
          · refine s_run X ok_X5_executeNext 18 1 (pc' := 106) (vs' := [some (.ref p0), some (.ref p1), some (.int v4)]) (st' := [.ref p1]) rfl ?_
            refine s_callV (b := p1) (As := []) (rest := []) X E mv_X5_127 (c_X1_close S6 p1) rfl (ta1 t1_) rfl (by decide) t1_ rfl rfl (Nat.le_of_ble_eq_true rfl) (Nat.le_of_ble_eq_true rfl) (Nat.le_of_ble_eq_true rfl) (dk okd_X5_executeNext 19 rfl) (st' := fun o22 => [.int o22.1]) (fun _ => rfl) (fun o22 => ?_)
            exact s_zret X hr (dk okd_X5_executeNext 20 rfl) rfl rfl
          refine s_tabd (tgt := 110) X (dk okd_X5_executeNext 11 rfl) (tabout (n := 7) (by decide) (fun j hj => match j, hj with | 0, _ => n0 | 1, _ => n1 | 2, _ => n2 | 3, _ => n3 | 4, _ => n4 | 5, _ => n5 | 6, _ => n6)) (by decide) ?_
          exact h14
    · refine s_run X ok_X5_executeNext 3 1 (pc' := 19) (vs' := [some (.ref p0), some (.ref p1), none]) (st' := [.int 0]) rfl ?_
      exact s_zret0 X hr (dk okd_X5_executeNext 5 rfl) (by decide) rfl rfl
def tab_X9_isWord : List En := [(0, 8, 0, 0), (4, 0, 0, 1), (8, 8, 0, 0), (12, 8, 0, 0), (16, 18, 0, 0), (17, 8, 1, 0), (24, 0, 0, 0), (26, 0, 0, 0), (27, 10, 2, 0), (28, 4, 2, 0), (29, 8, 1, 0), (36, 8, 0, 0), (40, 8, 0, 0), (44, 4, 2, 0), (45, 17, 0, 0), (47, 8, 1, 0), (48, 4, 2, 0), (55, 0, 0, 0), (57, 16, 2, 1), (60, 41, 28, 0), (63, 0, 0, 1)]
theorem ok_X9_isWord : tab_X9_isWord.all (okE cX9_isWord) = true := by decide +kernel
def ed_X9_isWord : List (Nat × Instr × Nat) := [(1, .getfield 39, 3), (5, .if_icmp .ne 19, 3), (9, .getfield 19, 3), (13, .getfield 32, 3), (18, .invokevirtual 45, 3), (21, .if_icmp .eq 5, 3), (25, .ireturn, 1), (30, .invokevirtual 45, 3), (33, .if_icmp .ge 30, 3), (37, .getfield 9, 3), (41, .getfield 32, 3), (46, .baload, 1), (49, .invokevirtual 50, 3), (52, .if_icmp .eq 5, 3), (56, .ireturn, 1), (64, .ireturn, 1)]
theorem okd_X9_isWord : ed_X9_isWord.all (okD cX9_isWord) = true := by decide +kernel
def f_X9_isWord (S : St) (p0 : Nat) (p1 : Nat) : Option (Int32) := lt (gI S p0 2) fun (v1 : Int32) => if v1 = 1 then (lt (gI S p0 4) fun (v2 : Int32) => lt (gI S p0 3) fun (v3 : Int32) => tk p1 <| cl (f_J0_length_8abf5 S p1) fun (v4 : Int32) => if (v2 - v3) = v4 then (lp (κ := Int32 → Option (Int32)) (fun _ => none) (fun k6 x5 => tk p1 <| cl (f_J0_length_8abf5 S p1) fun (v8 : Int32) => if v8 ≤ x5 then (some 1) else (lt (gR S p0 0) fun (a9 : Nat) => lt (gI S p0 3) fun (v11 : Int32) => ldI S a9 (v11 + x5) fun (v12 : Int32) => tk p1 <| cl (f_J0_charAt_5068e S p1 x5) fun (v13 : Int32) => if v12 = v13 then (k6 (x5 + 1)) else (some 0))) FU 0) else (some 0)) else (some 0)
set_option maxHeartbeats 4000000 in
set_option maxRecDepth 100000 in
theorem c_X9_isWord (S : St) (p0 : Nat) (p1 : Nat) : Ct yX9_isWord cX9_isWord 3 (some .boolean) 4 85 (fun cy => [.ref p0, .ref (cy (100 + 2 * p1))]) [(p0, 8)] S (f_X9_isWord S p0 p1) oI (fun _ => S) := by
  refine Ct_of RX9 rfl (by decide) (fun _ => Nat.le_of_ble_eq_true rfl) 1 (vs := fun cy => [some (.ref p0), some (.ref (cy (100 + 2 * p1))), none]) (fun _ => rfl) (fun C X E hr ht => ?_)
  have t0_ : tT C p0 8 := ht (p0, 8) (by simp)
  show Jd C 3 (QJ C oI (fun _ => S)) S 0 [some (.ref p0), some (.ref (cS C p1)), none] [] (f_X9_isWord S p0 p1)
  unfold f_X9_isWord
  refine s_run X ok_X9_isWord 0 1 (pc' := 1) (vs' := [some (.ref p0), some (.ref (cS C p1)), none]) (st' := [.ref p0]) rfl ?_
  refine s_getI X fl_X9_39 t0_ (dk okd_X9_isWord 0 rfl) (fun v1 => ?_)
  refine s_run X ok_X9_isWord 1 1 (pc' := 5) (vs' := [some (.ref p0), some (.ref (cS C p1)), none]) (st' := [.int 1, .int v1]) rfl ?_
  refine s_icmp_ne (tgt := 24) X (dk okd_X9_isWord 1 rfl) (by decide) ?_ ?_
  · refine s_run X ok_X9_isWord 6 1 (pc' := 25) (vs' := [some (.ref p0), some (.ref (cS C p1)), none]) (st' := [.int 0]) rfl ?_
    exact s_zret0 X hr (dk okd_X9_isWord 6 rfl) (by decide) rfl rfl
  · refine s_run X ok_X9_isWord 2 1 (pc' := 9) (vs' := [some (.ref p0), some (.ref (cS C p1)), none]) (st' := [.ref p0]) rfl ?_
    refine s_getI X fl_X9_19 t0_ (dk okd_X9_isWord 2 rfl) (fun v2 => ?_)
    refine s_run X ok_X9_isWord 3 1 (pc' := 13) (vs' := [some (.ref p0), some (.ref (cS C p1)), none]) (st' := [.ref p0, .int v2]) rfl ?_
    refine s_getI X fl_X9_32 t0_ (dk okd_X9_isWord 3 rfl) (fun v3 => ?_)
    refine s_run X ok_X9_isWord 4 2 (pc' := 18) (vs' := [some (.ref p0), some (.ref (cS C p1)), none]) (st' := [.ref (cS C p1), .int (v2 - v3)]) rfl ?_
    refine s_callT (i := p1) (As := []) (rest := [.int (v2 - v3)]) X E mv_X9_45 (c_J0_length_8abf5 S p1) rfl (ta0) rfl rfl rfl (Nat.le_of_ble_eq_true rfl) (Nat.le_of_ble_eq_true rfl) (Nat.le_of_ble_eq_true rfl) (dk okd_X9_isWord 4 rfl) (st' := fun v4 => [.int v4, .int (v2 - v3)]) (fun _ => rfl) (fun v4 => ?_)
    refine s_icmp_eq (tgt := 26) X (dk okd_X9_isWord 5 rfl) (by decide) ?_ ?_
    · refine s_run X ok_X9_isWord 7 2 (pc' := 28) (vs' := [some (.ref p0), some (.ref (cS C p1)), some (.int 0)]) (st' := []) rfl ?_
      refine s_lp (κ := Int32 → Option (Int32)) (fun k6 => ∀ (x5 : Int32), Jd C 3 (QJ C oI (fun _ => S)) S 28 [some (.ref p0), some (.ref (cS C p1)), some (.int x5)] [] (k6 x5)) (fun _ => s_none) (fun k6 h7 x5 => ?_) FU 0
      refine s_run X ok_X9_isWord 9 2 (pc' := 30) (vs' := [some (.ref p0), some (.ref (cS C p1)), some (.int x5)]) (st' := [.ref (cS C p1), .int x5]) rfl ?_
      refine s_callT (i := p1) (As := []) (rest := [.int x5]) X E mv_X9_45 (c_J0_length_8abf5 S p1) rfl (ta0) rfl rfl rfl (Nat.le_of_ble_eq_true rfl) (Nat.le_of_ble_eq_true rfl) (Nat.le_of_ble_eq_true rfl) (dk okd_X9_isWord 7 rfl) (st' := fun v8 => [.int v8, .int x5]) (fun _ => rfl) (fun v8 => ?_)
      refine s_icmp_ge (tgt := 63) X (dk okd_X9_isWord 8 rfl) (by decide) ?_ ?_
      · refine s_run X ok_X9_isWord 20 1 (pc' := 64) (vs' := [some (.ref p0), some (.ref (cS C p1)), some (.int x5)]) (st' := [.int 1]) rfl ?_
        exact s_zret0 X hr (dk okd_X9_isWord 15 rfl) (by decide) rfl rfl
      · refine s_run X ok_X9_isWord 11 1 (pc' := 37) (vs' := [some (.ref p0), some (.ref (cS C p1)), some (.int x5)]) (st' := [.ref p0]) rfl ?_
        refine s_getR X fl_X9_9 t0_ (dk okd_X9_isWord 9 rfl) (fun a9 (t10 : tT C a9 12) => ?_)
        refine s_run X ok_X9_isWord 12 1 (pc' := 41) (vs' := [some (.ref p0), some (.ref (cS C p1)), some (.int x5)]) (st' := [.ref p0, .ref a9]) rfl ?_
        refine s_getI X fl_X9_32 t0_ (dk okd_X9_isWord 10 rfl) (fun v11 => ?_)
        refine s_run X ok_X9_isWord 13 2 (pc' := 46) (vs' := [some (.ref p0), some (.ref (cS C p1)), some (.int x5)]) (st' := [.int (v11 + x5), .ref a9]) rfl ?_
        refine s_bald X t10 (dk okd_X9_isWord 11 rfl) (fun v12 => ?_)
        refine s_run X ok_X9_isWord 15 2 (pc' := 49) (vs' := [some (.ref p0), some (.ref (cS C p1)), some (.int x5)]) (st' := [.int x5, .ref (cS C p1), .int v12]) rfl ?_
        refine s_callT (i := p1) (As := [.int x5]) (rest := [.int v12]) X E mv_X9_50 (c_J0_charAt_5068e S p1 x5) rfl (ta0) rfl rfl rfl (Nat.le_of_ble_eq_true rfl) (Nat.le_of_ble_eq_true rfl) (Nat.le_of_ble_eq_true rfl) (dk okd_X9_isWord 12 rfl) (st' := fun v13 => [.int v13, .int v12]) (fun _ => rfl) (fun v13 => ?_)
        refine s_icmp_eq (tgt := 57) X (dk okd_X9_isWord 13 rfl) (by decide) ?_ ?_
        · refine s_run X ok_X9_isWord 18 2 (pc' := 28) (vs' := [some (.ref p0), some (.ref (cS C p1)), some (.int (x5 + 1))]) (st' := []) rfl ?_
          exact h7 (x5 + 1)
        · refine s_run X ok_X9_isWord 17 1 (pc' := 56) (vs' := [some (.ref p0), some (.ref (cS C p1)), some (.int x5)]) (st' := [.int 0]) rfl ?_
          exact s_zret0 X hr (dk okd_X9_isWord 14 rfl) (by decide) rfl rfl
    · refine s_run X ok_X9_isWord 6 1 (pc' := 25) (vs' := [some (.ref p0), some (.ref (cS C p1)), none]) (st' := [.int 0]) rfl ?_
      exact s_zret0 X hr (dk okd_X9_isWord 6 rfl) (by decide) rfl rfl
def tab_X9_isReserved : List En := [(0, 8, 0, 0), (9, 8, 0, 0), (18, 8, 0, 0), (27, 8, 0, 0), (36, 8, 0, 0), (45, 8, 0, 0), (54, 8, 0, 0), (63, 8, 0, 0), (72, 8, 0, 0), (81, 8, 0, 0), (90, 0, 0, 1), (91, 41, 95, 0), (94, 0, 0, 0)]
theorem ok_X9_isReserved : tab_X9_isReserved.all (okE cX9_isReserved) = true := by decide +kernel
def ed_X9_isReserved : List (Nat × Instr × Nat) := [(1, .ldc 54, 2), (3, .invokevirtual 56, 3), (6, .ifCond .ne 84, 3), (10, .ldc 60, 2), (12, .invokevirtual 56, 3), (15, .ifCond .ne 75, 3), (19, .ldc 62, 2), (21, .invokevirtual 56, 3), (24, .ifCond .ne 66, 3), (28, .ldc 64, 2), (30, .invokevirtual 56, 3), (33, .ifCond .ne 57, 3), (37, .ldc 66, 2), (39, .invokevirtual 56, 3), (42, .ifCond .ne 48, 3), (46, .ldc 68, 2), (48, .invokevirtual 56, 3), (51, .ifCond .ne 39, 3), (55, .ldc 70, 2), (57, .invokevirtual 56, 3), (60, .ifCond .ne 30, 3), (64, .ldc 72, 2), (66, .invokevirtual 56, 3), (69, .ifCond .ne 21, 3), (73, .ldc 74, 2), (75, .invokevirtual 56, 3), (78, .ifCond .ne 12, 3), (82, .ldc 76, 2), (84, .invokevirtual 56, 3), (87, .ifCond .eq 7, 3), (95, .ireturn, 1)]
theorem okd_X9_isReserved : ed_X9_isReserved.all (okD cX9_isReserved) = true := by decide +kernel
def f_X9_isReserved (S : St) (p0 : Nat) : Option (Int32) := cl (f_X9_isWord S p0 0) fun (v1 : Int32) => jn (κ := Option (Int32)) (some 1) fun k2 => if v1 = 0 then (cl (f_X9_isWord S p0 1) fun (v4 : Int32) => if v4 = 0 then (cl (f_X9_isWord S p0 2) fun (v5 : Int32) => if v5 = 0 then (cl (f_X9_isWord S p0 3) fun (v6 : Int32) => if v6 = 0 then (cl (f_X9_isWord S p0 4) fun (v7 : Int32) => if v7 = 0 then (cl (f_X9_isWord S p0 5) fun (v8 : Int32) => if v8 = 0 then (cl (f_X9_isWord S p0 6) fun (v9 : Int32) => if v9 = 0 then (cl (f_X9_isWord S p0 7) fun (v10 : Int32) => if v10 = 0 then (cl (f_X9_isWord S p0 8) fun (v11 : Int32) => if v11 = 0 then (cl (f_X9_isWord S p0 9) fun (v12 : Int32) => if v12 = 0 then (some 0) else (k2)) else (k2)) else (k2)) else (k2)) else (k2)) else (k2)) else (k2)) else (k2)) else (k2)) else (k2)
set_option maxHeartbeats 4000000 in
set_option maxRecDepth 100000 in
theorem c_X9_isReserved (S : St) (p0 : Nat) : Ct yX9_isReserved cX9_isReserved 1 (some .boolean) 5 107 (fun _ => [.ref p0]) [(p0, 8)] S (f_X9_isReserved S p0) oI (fun _ => S) := by
  refine Ct_of RX9 rfl (by decide) (fun _ => Nat.le_of_ble_eq_true rfl) 0 (vs := fun _ => [some (.ref p0)]) (fun _ => rfl) (fun C X E hr ht => ?_)
  have t0_ : tT C p0 8 := ht (p0, 8) (by simp)
  show Jd C 1 (QJ C oI (fun _ => S)) S 0 [some (.ref p0)] [] (f_X9_isReserved S p0)
  unfold f_X9_isReserved
  refine s_run X ok_X9_isReserved 0 1 (pc' := 1) (vs' := [some (.ref p0)]) (st' := [.ref p0]) rfl ?_
  refine s_ldcS X E 0 sr_X9_54 (dk okd_X9_isReserved 0 rfl) ?_
  refine s_callV (b := p0) (As := [.ref (cS C 0)]) (rest := []) X E mv_X9_56 (c_X9_isWord S p0 0) rfl (ta1 t0_) rfl (by decide) t0_ rfl rfl (Nat.le_of_ble_eq_true rfl) (Nat.le_of_ble_eq_true rfl) (Nat.le_of_ble_eq_true rfl) (dk okd_X9_isReserved 1 rfl) (st' := fun v1 => [.int v1]) (fun _ => rfl) (fun v1 => ?_)
  refine s_jn (κ := Option (Int32)) (fun k2 => Jd C 1 (QJ C oI (fun _ => S)) S 90 [none] [] k2) ?_ (fun k2 h3 => ?_)
  · refine s_run X ok_X9_isReserved 10 2 (pc' := 95) (vs' := [none]) (st' := [.int 1]) rfl ?_
    exact s_zret0 X hr (dk okd_X9_isReserved 30 rfl) (by decide) rfl rfl
  · refine s_if_ne (tgt := 90) X (dk okd_X9_isReserved 2 rfl) (by decide) ?_ ?_
    · exact s_less [false] rfl (h3)
    · refine s_run X ok_X9_isReserved 1 1 (pc' := 10) (vs' := [some (.ref p0)]) (st' := [.ref p0]) rfl ?_
      refine s_ldcS X E 1 sr_X9_60 (dk okd_X9_isReserved 3 rfl) ?_
      refine s_callV (b := p0) (As := [.ref (cS C 1)]) (rest := []) X E mv_X9_56 (c_X9_isWord S p0 1) rfl (ta1 t0_) rfl (by decide) t0_ rfl rfl (Nat.le_of_ble_eq_true rfl) (Nat.le_of_ble_eq_true rfl) (Nat.le_of_ble_eq_true rfl) (dk okd_X9_isReserved 4 rfl) (st' := fun v4 => [.int v4]) (fun _ => rfl) (fun v4 => ?_)
      refine s_if_ne (tgt := 90) X (dk okd_X9_isReserved 5 rfl) (by decide) ?_ ?_
      · exact s_less [false] rfl (h3)
      · refine s_run X ok_X9_isReserved 2 1 (pc' := 19) (vs' := [some (.ref p0)]) (st' := [.ref p0]) rfl ?_
        refine s_ldcS X E 2 sr_X9_62 (dk okd_X9_isReserved 6 rfl) ?_
        refine s_callV (b := p0) (As := [.ref (cS C 2)]) (rest := []) X E mv_X9_56 (c_X9_isWord S p0 2) rfl (ta1 t0_) rfl (by decide) t0_ rfl rfl (Nat.le_of_ble_eq_true rfl) (Nat.le_of_ble_eq_true rfl) (Nat.le_of_ble_eq_true rfl) (dk okd_X9_isReserved 7 rfl) (st' := fun v5 => [.int v5]) (fun _ => rfl) (fun v5 => ?_)
        refine s_if_ne (tgt := 90) X (dk okd_X9_isReserved 8 rfl) (by decide) ?_ ?_
        · exact s_less [false] rfl (h3)
        · refine s_run X ok_X9_isReserved 3 1 (pc' := 28) (vs' := [some (.ref p0)]) (st' := [.ref p0]) rfl ?_
          refine s_ldcS X E 3 sr_X9_64 (dk okd_X9_isReserved 9 rfl) ?_
          refine s_callV (b := p0) (As := [.ref (cS C 3)]) (rest := []) X E mv_X9_56 (c_X9_isWord S p0 3) rfl (ta1 t0_) rfl (by decide) t0_ rfl rfl (Nat.le_of_ble_eq_true rfl) (Nat.le_of_ble_eq_true rfl) (Nat.le_of_ble_eq_true rfl) (dk okd_X9_isReserved 10 rfl) (st' := fun v6 => [.int v6]) (fun _ => rfl) (fun v6 => ?_)
          refine s_if_ne (tgt := 90) X (dk okd_X9_isReserved 11 rfl) (by decide) ?_ ?_
          · exact s_less [false] rfl (h3)
          · refine s_run X ok_X9_isReserved 4 1 (pc' := 37) (vs' := [some (.ref p0)]) (st' := [.ref p0]) rfl ?_
            refine s_ldcS X E 4 sr_X9_66 (dk okd_X9_isReserved 12 rfl) ?_
            refine s_callV (b := p0) (As := [.ref (cS C 4)]) (rest := []) X E mv_X9_56 (c_X9_isWord S p0 4) rfl (ta1 t0_) rfl (by decide) t0_ rfl rfl (Nat.le_of_ble_eq_true rfl) (Nat.le_of_ble_eq_true rfl) (Nat.le_of_ble_eq_true rfl) (dk okd_X9_isReserved 13 rfl) (st' := fun v7 => [.int v7]) (fun _ => rfl) (fun v7 => ?_)
            refine s_if_ne (tgt := 90) X (dk okd_X9_isReserved 14 rfl) (by decide) ?_ ?_
            · exact s_less [false] rfl (h3)
            · refine s_run X ok_X9_isReserved 5 1 (pc' := 46) (vs' := [some (.ref p0)]) (st' := [.ref p0]) rfl ?_
              refine s_ldcS X E 5 sr_X9_68 (dk okd_X9_isReserved 15 rfl) ?_
              refine s_callV (b := p0) (As := [.ref (cS C 5)]) (rest := []) X E mv_X9_56 (c_X9_isWord S p0 5) rfl (ta1 t0_) rfl (by decide) t0_ rfl rfl (Nat.le_of_ble_eq_true rfl) (Nat.le_of_ble_eq_true rfl) (Nat.le_of_ble_eq_true rfl) (dk okd_X9_isReserved 16 rfl) (st' := fun v8 => [.int v8]) (fun _ => rfl) (fun v8 => ?_)
              refine s_if_ne (tgt := 90) X (dk okd_X9_isReserved 17 rfl) (by decide) ?_ ?_
              · exact s_less [false] rfl (h3)
              · refine s_run X ok_X9_isReserved 6 1 (pc' := 55) (vs' := [some (.ref p0)]) (st' := [.ref p0]) rfl ?_
                refine s_ldcS X E 6 sr_X9_70 (dk okd_X9_isReserved 18 rfl) ?_
                refine s_callV (b := p0) (As := [.ref (cS C 6)]) (rest := []) X E mv_X9_56 (c_X9_isWord S p0 6) rfl (ta1 t0_) rfl (by decide) t0_ rfl rfl (Nat.le_of_ble_eq_true rfl) (Nat.le_of_ble_eq_true rfl) (Nat.le_of_ble_eq_true rfl) (dk okd_X9_isReserved 19 rfl) (st' := fun v9 => [.int v9]) (fun _ => rfl) (fun v9 => ?_)
                refine s_if_ne (tgt := 90) X (dk okd_X9_isReserved 20 rfl) (by decide) ?_ ?_
                · exact s_less [false] rfl (h3)
                · refine s_run X ok_X9_isReserved 7 1 (pc' := 64) (vs' := [some (.ref p0)]) (st' := [.ref p0]) rfl ?_
                  refine s_ldcS X E 7 sr_X9_72 (dk okd_X9_isReserved 21 rfl) ?_
                  refine s_callV (b := p0) (As := [.ref (cS C 7)]) (rest := []) X E mv_X9_56 (c_X9_isWord S p0 7) rfl (ta1 t0_) rfl (by decide) t0_ rfl rfl (Nat.le_of_ble_eq_true rfl) (Nat.le_of_ble_eq_true rfl) (Nat.le_of_ble_eq_true rfl) (dk okd_X9_isReserved 22 rfl) (st' := fun v10 => [.int v10]) (fun _ => rfl) (fun v10 => ?_)
                  refine s_if_ne (tgt := 90) X (dk okd_X9_isReserved 23 rfl) (by decide) ?_ ?_
                  · exact s_less [false] rfl (h3)
                  · refine s_run X ok_X9_isReserved 8 1 (pc' := 73) (vs' := [some (.ref p0)]) (st' := [.ref p0]) rfl ?_
                    refine s_ldcS X E 8 sr_X9_74 (dk okd_X9_isReserved 24 rfl) ?_
                    refine s_callV (b := p0) (As := [.ref (cS C 8)]) (rest := []) X E mv_X9_56 (c_X9_isWord S p0 8) rfl (ta1 t0_) rfl (by decide) t0_ rfl rfl (Nat.le_of_ble_eq_true rfl) (Nat.le_of_ble_eq_true rfl) (Nat.le_of_ble_eq_true rfl) (dk okd_X9_isReserved 25 rfl) (st' := fun v11 => [.int v11]) (fun _ => rfl) (fun v11 => ?_)
                    refine s_if_ne (tgt := 90) X (dk okd_X9_isReserved 26 rfl) (by decide) ?_ ?_
                    · exact s_less [false] rfl (h3)
                    · refine s_run X ok_X9_isReserved 9 1 (pc' := 82) (vs' := [some (.ref p0)]) (st' := [.ref p0]) rfl ?_
                      refine s_ldcS X E 9 sr_X9_76 (dk okd_X9_isReserved 27 rfl) ?_
                      refine s_callV (b := p0) (As := [.ref (cS C 9)]) (rest := []) X E mv_X9_56 (c_X9_isWord S p0 9) rfl (ta1 t0_) rfl (by decide) t0_ rfl rfl (Nat.le_of_ble_eq_true rfl) (Nat.le_of_ble_eq_true rfl) (Nat.le_of_ble_eq_true rfl) (dk okd_X9_isReserved 28 rfl) (st' := fun v12 => [.int v12]) (fun _ => rfl) (fun v12 => ?_)
                      refine s_if_eq (tgt := 94) X (dk okd_X9_isReserved 29 rfl) (by decide) ?_ ?_
                      · refine s_run X ok_X9_isReserved 12 1 (pc' := 95) (vs' := [some (.ref p0)]) (st' := [.int 0]) rfl ?_
                        exact s_zret0 X hr (dk okd_X9_isReserved 30 rfl) (by decide) rfl rfl
                      · exact s_less [false] rfl (h3)
def tab_X9_readName : List En := [(0, 8, 0, 0), (4, 8, 0, 0), (8, 0, 0, 1), (12, 8, 0, 0), (19, 8, 0, 0), (20, 0, 0, 1), (24, 8, 1, 0), (25, 8, 0, 0), (29, 8, 0, 0), (33, 8, 0, 0), (37, 8, 0, 0), (41, 18, 0, 0), (45, 10, 3, 0), (46, 4, 2, 0), (47, 4, 3, 0), (48, 0, 0, (-1)), (52, 0, 0, 1), (53, 41, 57, 0), (56, 0, 0, 0), (60, 8, 0, 0), (61, 0, 0, 3), (65, 4, 3, 0)]
theorem ok_X9_readName : tab_X9_readName.all (okE cX9_readName) = true := by decide +kernel
def ed_X9_readName : List (Nat × Instr × Nat) := [(1, .invokevirtual 78, 3), (5, .getfield 39, 3), (9, .if_icmp .ne 10, 3), (13, .invokevirtual 85, 3), (16, .ifCond .eq 8, 3), (21, .invokevirtual 81, 3), (26, .getfield 9, 3), (30, .getfield 32, 3), (34, .getfield 19, 3), (38, .getfield 32, 3), (42, .invokevirtual 88, 3), (49, .if_icmp .eq 7, 3), (57, .if_icmp .eq 8, 3), (62, .invokevirtual 81, 3), (66, .ireturn, 1)]
theorem okd_X9_readName : ed_X9_readName.all (okD cX9_readName) = true := by decide +kernel
def f_X9_readName (S : St) (p0 : Nat) (p1 : Nat) (p2 : Int32) : Option (Int32 × St) := cl (f_X9_advance S p0) fun (S1 : St) => lt (gI S1 p0 2) fun (v2 : Int32) => jn (κ := St → Option (Int32 × St)) (fun S3 => lt (gR S3 p0 0) fun (a6 : Nat) => lt (gI S3 p0 3) fun (v8 : Int32) => lt (gI S3 p0 4) fun (v9 : Int32) => lt (gI S3 p0 3) fun (v10 : Int32) => cl (f_X2_named S3 p1 a6 v8 (v9 - v10)) fun (v11 : Int32) => jn (κ := Int32 → Option (Int32 × St)) (fun x12 => jn (κ := St → Option (Int32 × St)) (fun S15 => some (v11, S15)) fun k16 => if p2 = x12 then (k16 S3) else (cl (f_X9_fail S3 p0 3) fun (S18 : St) => k16 S18)) fun k13 => if v11 = (-1) then (k13 0) else (k13 1)) fun k4 => jn (κ := Option (Int32 × St)) (cl (f_X9_fail S1 p0 1) fun (S21 : St) => k4 S21) fun k19 => if v2 = 1 then (cl (f_X9_isReserved S1 p0) fun (v22 : Int32) => if v22 = 0 then (k4 S1) else (k19)) else (k19)
set_option maxHeartbeats 4000000 in
set_option maxRecDepth 100000 in
theorem c_X9_readName (S : St) (p0 : Nat) (p1 : Nat) (p2 : Int32) : Ct yX9_readName cX9_readName 4 (some .int) 6 127 (fun _ => [.ref p0, .ref p1, .int p2]) [(p0, 8), (p1, 2)] S (f_X9_readName S p0 p1 p2) oIS sS := by
  refine Ct_of RX9 rfl (by decide) (fun _ => Nat.le_of_ble_eq_true rfl) 1 (vs := fun _ => [some (.ref p0), some (.ref p1), some (.int p2), none]) (fun _ => rfl) (fun C X E hr ht => ?_)
  have t0_ : tT C p0 8 := ht (p0, 8) (by simp)
  have t1_ : tT C p1 2 := ht (p1, 2) (by simp)
  show Jd C 4 (QJ C oIS sS) S 0 [some (.ref p0), some (.ref p1), some (.int p2), none] [] (f_X9_readName S p0 p1 p2)
  unfold f_X9_readName
  refine s_run X ok_X9_readName 0 1 (pc' := 1) (vs' := [some (.ref p0), some (.ref p1), some (.int p2), none]) (st' := [.ref p0]) rfl ?_
  refine s_callV (b := p0) (As := []) (rest := []) X E mv_X9_78 (c_X9_advance S p0) rfl (ta1 t0_) rfl (by decide) t0_ rfl rfl (Nat.le_of_ble_eq_true rfl) (Nat.le_of_ble_eq_true rfl) (Nat.le_of_ble_eq_true rfl) (dk okd_X9_readName 0 rfl) (st' := fun S1 => []) (fun _ => rfl) (fun S1 => ?_)
  refine s_run X ok_X9_readName 1 1 (pc' := 5) (vs' := [some (.ref p0), some (.ref p1), some (.int p2), none]) (st' := [.ref p0]) rfl ?_
  refine s_getI X fl_X9_39 t0_ (dk okd_X9_readName 1 rfl) (fun v2 => ?_)
  refine s_run X ok_X9_readName 2 1 (pc' := 9) (vs' := [some (.ref p0), some (.ref p1), some (.int p2), none]) (st' := [.int 1, .int v2]) rfl ?_
  refine s_jn (κ := St → Option (Int32 × St)) (fun k4 => ∀ (S3 : St), Jd C 4 (QJ C oIS sS) S3 24 [some (.ref p0), some (.ref p1), some (.int p2), none] [] (k4 S3)) (fun S3 => ?_) (fun k4 h5 => ?_)
  · refine s_run X ok_X9_readName 6 2 (pc' := 26) (vs' := [some (.ref p0), some (.ref p1), some (.int p2), none]) (st' := [.ref p0, .ref p1]) rfl ?_
    refine s_getR X fl_X9_9 t0_ (dk okd_X9_readName 6 rfl) (fun a6 (t7 : tT C a6 12) => ?_)
    refine s_run X ok_X9_readName 8 1 (pc' := 30) (vs' := [some (.ref p0), some (.ref p1), some (.int p2), none]) (st' := [.ref p0, .ref a6, .ref p1]) rfl ?_
    refine s_getI X fl_X9_32 t0_ (dk okd_X9_readName 7 rfl) (fun v8 => ?_)
    refine s_run X ok_X9_readName 9 1 (pc' := 34) (vs' := [some (.ref p0), some (.ref p1), some (.int p2), none]) (st' := [.ref p0, .int v8, .ref a6, .ref p1]) rfl ?_
    refine s_getI X fl_X9_19 t0_ (dk okd_X9_readName 8 rfl) (fun v9 => ?_)
    refine s_run X ok_X9_readName 10 1 (pc' := 38) (vs' := [some (.ref p0), some (.ref p1), some (.int p2), none]) (st' := [.ref p0, .int v9, .int v8, .ref a6, .ref p1]) rfl ?_
    refine s_getI X fl_X9_32 t0_ (dk okd_X9_readName 9 rfl) (fun v10 => ?_)
    refine s_run X ok_X9_readName 11 1 (pc' := 42) (vs' := [some (.ref p0), some (.ref p1), some (.int p2), none]) (st' := [.int (v9 - v10), .int v8, .ref a6, .ref p1]) rfl ?_
    refine s_callV (b := p1) (As := [.ref a6, .int v8, .int (v9 - v10)]) (rest := []) X E mv_X9_88 (c_X2_named S3 p1 a6 v8 (v9 - v10)) rfl (ta2 t1_ t7) rfl (by decide) t1_ rfl rfl (Nat.le_of_ble_eq_true rfl) (Nat.le_of_ble_eq_true rfl) (Nat.le_of_ble_eq_true rfl) (dk okd_X9_readName 10 rfl) (st' := fun v11 => [.int v11]) (fun _ => rfl) (fun v11 => ?_)
    refine s_run X ok_X9_readName 12 4 (pc' := 49) (vs' := [some (.ref p0), some (.ref p1), some (.int p2), some (.int v11)]) (st' := [.int (-1), .int v11, .int p2]) rfl ?_
    refine s_jn (κ := Int32 → Option (Int32 × St)) (fun k13 => ∀ (x12 : Int32), Jd C 4 (QJ C oIS sS) S3 57 [some (.ref p0), none, none, some (.int v11)] [.int x12, .int p2] (k13 x12)) (fun x12 => ?_) (fun k13 h14 => ?_)
    · refine s_jn (κ := St → Option (Int32 × St)) (fun k16 => ∀ (S15 : St), Jd C 4 (QJ C oIS sS) S15 65 [none, none, none, some (.int v11)] [] (k16 S15)) (fun S15 => ?_) (fun k16 h17 => ?_)
      · refine s_run X ok_X9_readName 21 1 (pc' := 66) (vs' := [none, none, none, some (.int v11)]) (st' := [.int v11]) rfl ?_
        exact s_iret X hr (dk okd_X9_readName 14 rfl) rfl rfl
      · refine s_icmp_eq (tgt := 65) X (dk okd_X9_readName 12 rfl) (by decide) ?_ ?_
        · exact s_less [false, false, false, true] rfl (h17 S3)
        · refine s_run X ok_X9_readName 19 2 (pc' := 62) (vs' := [some (.ref p0), none, none, some (.int v11)]) (st' := [.int 3, .ref p0]) rfl ?_
          refine s_callV (b := p0) (As := [.int 3]) (rest := []) X E mv_X9_81 (c_X9_fail S3 p0 3) rfl (ta1 t0_) rfl (by decide) t0_ rfl rfl (Nat.le_of_ble_eq_true rfl) (Nat.le_of_ble_eq_true rfl) (Nat.le_of_ble_eq_true rfl) (dk okd_X9_readName 13 rfl) (st' := fun S18 => []) (fun _ => rfl) (fun S18 => ?_)
          exact s_less [false, false, false, true] rfl (h17 S18)
    · refine s_icmp_eq (tgt := 56) X (dk okd_X9_readName 11 rfl) (by decide) ?_ ?_
      · refine s_run X ok_X9_readName 18 1 (pc' := 57) (vs' := [some (.ref p0), some (.ref p1), some (.int p2), some (.int v11)]) (st' := [.int 0, .int p2]) rfl ?_
        exact s_less [true, false, false, true] rfl (h14 0)
      · refine s_run X ok_X9_readName 16 2 (pc' := 57) (vs' := [some (.ref p0), some (.ref p1), some (.int p2), some (.int v11)]) (st' := [.int 1, .int p2]) rfl ?_
        exact s_less [true, false, false, true] rfl (h14 1)
  · refine s_jn (κ := Option (Int32 × St)) (fun k19 => Jd C 4 (QJ C oIS sS) S1 19 [some (.ref p0), some (.ref p1), some (.int p2), none] [] k19) ?_ (fun k19 h20 => ?_)
    · refine s_run X ok_X9_readName 4 2 (pc' := 21) (vs' := [some (.ref p0), some (.ref p1), some (.int p2), none]) (st' := [.int 1, .ref p0]) rfl ?_
      refine s_callV (b := p0) (As := [.int 1]) (rest := []) X E mv_X9_81 (c_X9_fail S1 p0 1) rfl (ta1 t0_) rfl (by decide) t0_ rfl rfl (Nat.le_of_ble_eq_true rfl) (Nat.le_of_ble_eq_true rfl) (Nat.le_of_ble_eq_true rfl) (dk okd_X9_readName 5 rfl) (st' := fun S21 => []) (fun _ => rfl) (fun S21 => ?_)
      exact h5 S21
    · refine s_icmp_ne (tgt := 19) X (dk okd_X9_readName 2 rfl) (by decide) ?_ ?_
      · exact h20
      · refine s_run X ok_X9_readName 3 1 (pc' := 13) (vs' := [some (.ref p0), some (.ref p1), some (.int p2), none]) (st' := [.ref p0]) rfl ?_
        refine s_callV (b := p0) (As := []) (rest := []) X E mv_X9_85 (c_X9_isReserved S1 p0) rfl (ta1 t0_) rfl (by decide) t0_ rfl rfl (Nat.le_of_ble_eq_true rfl) (Nat.le_of_ble_eq_true rfl) (Nat.le_of_ble_eq_true rfl) (dk okd_X9_readName 3 rfl) (st' := fun v22 => [.int v22]) (fun _ => rfl) (fun v22 => ?_)
        refine s_if_eq (tgt := 24) X (dk okd_X9_readName 4 rfl) (by decide) ?_ ?_
        · exact h5 S1
        · exact h20
def tab_X9_readYes : List En := [(0, 8, 0, 0), (4, 8, 0, 0), (13, 8, 0, 0), (22, 8, 0, 0), (23, 0, 0, 1), (27, 8, 0, 0)]
theorem ok_X9_readYes : tab_X9_readYes.all (okE cX9_readYes) = true := by decide +kernel
def ed_X9_readYes : List (Nat × Instr × Nat) := [(1, .invokevirtual 78, 3), (5, .ldc 94, 2), (7, .invokevirtual 56, 3), (10, .ifCond .ne 17, 3), (14, .ldc 96, 2), (16, .invokevirtual 56, 3), (19, .ifCond .ne 8, 3), (24, .invokevirtual 81, 3), (28, .ldc 94, 2), (30, .invokevirtual 56, 3), (33, .ireturn, 1)]
theorem okd_X9_readYes : ed_X9_readYes.all (okD cX9_readYes) = true := by decide +kernel
def f_X9_readYes (S : St) (p0 : Nat) : Option (Int32 × St) := cl (f_X9_advance S p0) fun (S1 : St) => cl (f_X9_isWord S1 p0 17) fun (v2 : Int32) => jn (κ := St → Option (Int32 × St)) (fun S3 => cl (f_X9_isWord S3 p0 17) fun (v6 : Int32) => zc v6 (some (v6, S3))) fun k4 => if v2 = 0 then (cl (f_X9_isWord S1 p0 18) fun (v7 : Int32) => if v7 = 0 then (cl (f_X9_fail S1 p0 1) fun (S8 : St) => k4 S8) else (k4 S1)) else (k4 S1)
set_option maxHeartbeats 4000000 in
set_option maxRecDepth 100000 in
theorem c_X9_readYes (S : St) (p0 : Nat) : Ct yX9_readYes cX9_readYes 1 (some .boolean) 5 107 (fun _ => [.ref p0]) [(p0, 8)] S (f_X9_readYes S p0) oIS sS := by
  refine Ct_of RX9 rfl (by decide) (fun _ => Nat.le_of_ble_eq_true rfl) 0 (vs := fun _ => [some (.ref p0)]) (fun _ => rfl) (fun C X E hr ht => ?_)
  have t0_ : tT C p0 8 := ht (p0, 8) (by simp)
  show Jd C 1 (QJ C oIS sS) S 0 [some (.ref p0)] [] (f_X9_readYes S p0)
  unfold f_X9_readYes
  refine s_run X ok_X9_readYes 0 1 (pc' := 1) (vs' := [some (.ref p0)]) (st' := [.ref p0]) rfl ?_
  refine s_callV (b := p0) (As := []) (rest := []) X E mv_X9_78 (c_X9_advance S p0) rfl (ta1 t0_) rfl (by decide) t0_ rfl rfl (Nat.le_of_ble_eq_true rfl) (Nat.le_of_ble_eq_true rfl) (Nat.le_of_ble_eq_true rfl) (dk okd_X9_readYes 0 rfl) (st' := fun S1 => []) (fun _ => rfl) (fun S1 => ?_)
  refine s_run X ok_X9_readYes 1 1 (pc' := 5) (vs' := [some (.ref p0)]) (st' := [.ref p0]) rfl ?_
  refine s_ldcS X E 17 sr_X9_94 (dk okd_X9_readYes 1 rfl) ?_
  refine s_callV (b := p0) (As := [.ref (cS C 17)]) (rest := []) X E mv_X9_56 (c_X9_isWord S1 p0 17) rfl (ta1 t0_) rfl (by decide) t0_ rfl rfl (Nat.le_of_ble_eq_true rfl) (Nat.le_of_ble_eq_true rfl) (Nat.le_of_ble_eq_true rfl) (dk okd_X9_readYes 2 rfl) (st' := fun v2 => [.int v2]) (fun _ => rfl) (fun v2 => ?_)
  refine s_jn (κ := St → Option (Int32 × St)) (fun k4 => ∀ (S3 : St), Jd C 1 (QJ C oIS sS) S3 27 [some (.ref p0)] [] (k4 S3)) (fun S3 => ?_) (fun k4 h5 => ?_)
  · refine s_run X ok_X9_readYes 5 1 (pc' := 28) (vs' := [some (.ref p0)]) (st' := [.ref p0]) rfl ?_
    refine s_ldcS X E 17 sr_X9_94 (dk okd_X9_readYes 8 rfl) ?_
    refine s_callV (b := p0) (As := [.ref (cS C 17)]) (rest := []) X E mv_X9_56 (c_X9_isWord S3 p0 17) rfl (ta1 t0_) rfl (by decide) t0_ rfl rfl (Nat.le_of_ble_eq_true rfl) (Nat.le_of_ble_eq_true rfl) (Nat.le_of_ble_eq_true rfl) (dk okd_X9_readYes 9 rfl) (st' := fun v6 => [.int v6]) (fun _ => rfl) (fun v6 => ?_)
    exact s_zret X hr (dk okd_X9_readYes 10 rfl) rfl rfl
  · refine s_if_ne (tgt := 27) X (dk okd_X9_readYes 3 rfl) (by decide) ?_ ?_
    · exact h5 S1
    · refine s_run X ok_X9_readYes 2 1 (pc' := 14) (vs' := [some (.ref p0)]) (st' := [.ref p0]) rfl ?_
      refine s_ldcS X E 18 sr_X9_96 (dk okd_X9_readYes 4 rfl) ?_
      refine s_callV (b := p0) (As := [.ref (cS C 18)]) (rest := []) X E mv_X9_56 (c_X9_isWord S1 p0 18) rfl (ta1 t0_) rfl (by decide) t0_ rfl rfl (Nat.le_of_ble_eq_true rfl) (Nat.le_of_ble_eq_true rfl) (Nat.le_of_ble_eq_true rfl) (dk okd_X9_readYes 5 rfl) (st' := fun v7 => [.int v7]) (fun _ => rfl) (fun v7 => ?_)
      refine s_if_ne (tgt := 27) X (dk okd_X9_readYes 6 rfl) (by decide) ?_ ?_
      · exact h5 S1
      · refine s_run X ok_X9_readYes 3 2 (pc' := 24) (vs' := [some (.ref p0)]) (st' := [.int 1, .ref p0]) rfl ?_
        refine s_callV (b := p0) (As := [.int 1]) (rest := []) X E mv_X9_81 (c_X9_fail S1 p0 1) rfl (ta1 t0_) rfl (by decide) t0_ rfl rfl (Nat.le_of_ble_eq_true rfl) (Nat.le_of_ble_eq_true rfl) (Nat.le_of_ble_eq_true rfl) (dk okd_X9_readYes 7 rfl) (st' := fun S8 => []) (fun _ => rfl) (fun S8 => ?_)
        exact h5 S8
def tab_X11_runJournal : List En := [(0, 4, 1, 0), (1, 0, 0, 1), (5, 4, 1, 0), (6, 1, 0, 40), (11, 0, 0, 1), (12, 41, 16, 0), (15, 0, 0, 0), (19, 0, 0, 0), (20, 10, 2, 0), (21, 4, 1, 0), (22, 8, 0, 0), (32, 10, 3, 0), (33, 0, 0, 0), (34, 11, 4, 0), (36, 5, 4, 0), (38, 4, 3, 0), (42, 8, 0, 0), (46, 8, 0, 0), (56, 16, 2, 1), (59, 16, 4, 1), (62, 41, 36, 0), (65, 4, 2, 0)]
theorem ok_X11_runJournal : tab_X11_runJournal.all (okE cX11_runJournal) = true := by decide +kernel
def ed_X11_runJournal : List (Nat × Instr × Nat) := [(2, .if_icmp .lt 13, 3), (8, .if_icmp .gt 7, 3), (16, .invokestatic 107, 3), (23, .getfield 54, 3), (26, .invokevirtual 103, 3), (29, .invokestatic 111, 3), (39, .if_icmp .ge 26, 3), (43, .getfield 54, 3), (47, .getfield 41, 3), (50, .invokevirtual 117, 3), (53, .ifCond .eq 6, 3), (66, .ireturn, 1)]
theorem okd_X11_runJournal : ed_X11_runJournal.all (okD cX11_runJournal) = true := by decide +kernel
def f_X11_runJournal (S : St) (p0 : Nat) (p1 : Int32) : Option ((Int32 × St) ⊕ Nat) := jn (κ := Int32 → Option ((Int32 × St) ⊕ Nat)) (fun x1 => clx (f_X11_requireArgument S x1) fun (u4 : Unit) => lt (gR S p0 7) fun (a5 : Nat) => cl (f_X5_left S a5) fun (v7 : Int32) => lt (if v7 < p1 then v7 else p1) fun (v8 : Int32) => jn (κ := Int32 → St → Option ((Int32 × St) ⊕ Nat)) (fun x9 S10 => some (.inl (x9, S10))) fun k11 => lp (κ := Int32 → Int32 → St → Option ((Int32 × St) ⊕ Nat)) (fun _ _ _ => none) (fun k16 x13 x14 S15 => if v8 ≤ x14 then (k11 x13 S15) else (lt (gR S15 p0 7) fun (a18 : Nat) => lt (gR S15 p0 5) fun (a20 : Nat) => cl (f_X5_executeNext S15 a18 a20) fun (o22 : Int32 × St) => jn (κ := Int32 → Option ((Int32 × St) ⊕ Nat)) (fun x23 => k16 x23 (x14 + 1) o22.2) fun k24 => if o22.1 = 0 then (k24 x13) else (k24 (x13 + 1)))) FU 0 0 S) fun k2 => jn (κ := Option ((Int32 × St) ⊕ Nat)) (k2 0) fun k26 => if p1 < 1 then (k26) else (if 40 < p1 then (k26) else (k2 1))
set_option maxHeartbeats 4000000 in
set_option maxRecDepth 100000 in
theorem c_X11_runJournal (S : St) (p0 : Nat) (p1 : Int32) : CtX yX11_runJournal cX11_runJournal 5 (some .int) 7 138 (fun _ => [.ref p0, .int p1]) [(p0, 10)] S (f_X11_runJournal S p0 p1) oIS sS := by
  refine CtX_of RX11 rfl (by decide) (fun _ => Nat.le_of_ble_eq_true rfl) 3 (vs := fun _ => [some (.ref p0), some (.int p1), none, none, none]) (fun _ => rfl) (fun C X E hr tx ht => ?_)
  have t0_ : tT C p0 10 := ht (p0, 10) (by simp)
  show Jd C 5 (QX C oIS sS S) S 0 [some (.ref p0), some (.int p1), none, none, none] [] (f_X11_runJournal S p0 p1)
  unfold f_X11_runJournal
  refine s_run X ok_X11_runJournal 0 2 (pc' := 2) (vs' := [some (.ref p0), some (.int p1), none, none, none]) (st' := [.int 1, .int p1]) rfl ?_
  refine s_jn (κ := Int32 → Option ((Int32 × St) ⊕ Nat)) (fun k2 => ∀ (x1 : Int32), Jd C 5 (QX C oIS sS S) S 16 [some (.ref p0), some (.int p1), none, none, none] [.int x1] (k2 x1)) (fun x1 => ?_) (fun k2 h3 => ?_)
  · refine s_callSX (As := [.int x1]) (rest := []) X E tx ms_X11_107 (c_X11_requireArgument S x1) rfl (ta0) rfl rfl (Nat.le_of_ble_eq_true rfl) (Nat.le_of_ble_eq_true rfl) (Nat.le_of_ble_eq_true rfl) (dk okd_X11_runJournal 2 rfl) (st' := fun u4 => []) (fun _ => rfl) (fun u4 => ?_)
    refine s_run X ok_X11_runJournal 7 4 (pc' := 23) (vs' := [some (.ref p0), some (.int p1), some (.int 0), none, none]) (st' := [.ref p0, .int p1]) rfl ?_
    refine s_getR X fl_X11_54 t0_ (dk okd_X11_runJournal 3 rfl) (fun a5 (t6 : tT C a5 5) => ?_)
    refine s_callV (b := a5) (As := []) (rest := [.int p1]) X E mv_X11_103 (c_X5_left S a5) rfl (ta1 t6) rfl (by decide) t6 rfl rfl (Nat.le_of_ble_eq_true rfl) (Nat.le_of_ble_eq_true rfl) (Nat.le_of_ble_eq_true rfl) (dk okd_X11_runJournal 4 rfl) (st' := fun v7 => [.int v7, .int p1]) (fun _ => rfl) (fun v7 => ?_)
    refine s_Mmin X mm_X11_111 (Nat.le_of_ble_eq_true rfl) (Nat.le_of_ble_eq_true rfl) (dk okd_X11_runJournal 5 rfl) (fun v8 => ?_)
    refine s_run X ok_X11_runJournal 11 3 (pc' := 36) (vs' := [some (.ref p0), some (.int p1), some (.int 0), some (.int v8), some (.int 0)]) (st' := []) rfl ?_
    refine s_jn (κ := Int32 → St → Option ((Int32 × St) ⊕ Nat)) (fun k11 => ∀ (x9 : Int32) (S10 : St), Jd C 5 (QX C oIS sS S) S10 65 [none, none, some (.int x9), none, none] [] (k11 x9 S10)) (fun x9 S10 => ?_) (fun k11 h12 => ?_)
    · refine s_run X ok_X11_runJournal 21 1 (pc' := 66) (vs' := [none, none, some (.int x9), none, none]) (st' := [.int x9]) rfl ?_
      exact s_iretX X hr (dk okd_X11_runJournal 11 rfl) rfl rfl
    · refine s_less [true, false, true, true, true] (vs' := [some (.ref p0), none, some (.int 0), some (.int v8), some (.int 0)]) rfl ?_
      refine s_lp (κ := Int32 → Int32 → St → Option ((Int32 × St) ⊕ Nat)) (fun k16 => ∀ (x13 : Int32) (x14 : Int32) (S15 : St), Jd C 5 (QX C oIS sS S) S15 36 [some (.ref p0), none, some (.int x13), some (.int v8), some (.int x14)] [] (k16 x13 x14 S15)) (fun _ _ _ => s_none) (fun k16 h17 x13 x14 S15 => ?_) FU 0 0 S
      refine s_run X ok_X11_runJournal 14 2 (pc' := 39) (vs' := [some (.ref p0), none, some (.int x13), some (.int v8), some (.int x14)]) (st' := [.int v8, .int x14]) rfl ?_
      refine s_icmp_ge (tgt := 65) X (dk okd_X11_runJournal 6 rfl) (by decide) ?_ ?_
      · exact s_less [false, false, true, false, false] rfl (h12 x13 S15)
      · refine s_run X ok_X11_runJournal 16 1 (pc' := 43) (vs' := [some (.ref p0), none, some (.int x13), some (.int v8), some (.int x14)]) (st' := [.ref p0]) rfl ?_
        refine s_getR X fl_X11_54 t0_ (dk okd_X11_runJournal 7 rfl) (fun a18 (t19 : tT C a18 5) => ?_)
        refine s_run X ok_X11_runJournal 17 1 (pc' := 47) (vs' := [some (.ref p0), none, some (.int x13), some (.int v8), some (.int x14)]) (st' := [.ref p0, .ref a18]) rfl ?_
        refine s_getR X fl_X11_41 t0_ (dk okd_X11_runJournal 8 rfl) (fun a20 (t21 : tT C a20 1) => ?_)
        refine s_callV (b := a18) (As := [.ref a20]) (rest := []) X E mv_X11_117 (c_X5_executeNext S15 a18 a20) rfl (ta2 t19 t21) rfl (by decide) t19 rfl rfl (Nat.le_of_ble_eq_true rfl) (Nat.le_of_ble_eq_true rfl) (Nat.le_of_ble_eq_true rfl) (dk okd_X11_runJournal 9 rfl) (st' := fun o22 => [.int o22.1]) (fun _ => rfl) (fun o22 => ?_)
        refine s_jn (κ := Int32 → Option ((Int32 × St) ⊕ Nat)) (fun k24 => ∀ (x23 : Int32), Jd C 5 (QX C oIS sS S) o22.2 59 [some (.ref p0), none, some (.int x23), some (.int v8), some (.int x14)] [] (k24 x23)) (fun x23 => ?_) (fun k24 h25 => ?_)
        · refine s_run X ok_X11_runJournal 19 2 (pc' := 36) (vs' := [some (.ref p0), none, some (.int x23), some (.int v8), some (.int (x14 + 1))]) (st' := []) rfl ?_
          exact h17 x23 (x14 + 1) o22.2
        · refine s_if_eq (tgt := 59) X (dk okd_X11_runJournal 10 rfl) (by decide) ?_ ?_
          · exact h25 x13
          · refine s_run X ok_X11_runJournal 18 1 (pc' := 59) (vs' := [some (.ref p0), none, some (.int (x13 + 1)), some (.int v8), some (.int x14)]) (st' := []) rfl ?_
            exact h25 (x13 + 1)
  · refine s_jn (κ := Option ((Int32 × St) ⊕ Nat)) (fun k26 => Jd C 5 (QX C oIS sS S) S 15 [some (.ref p0), some (.int p1), none, none, none] [] k26) ?_ (fun k26 h27 => ?_)
    · refine s_run X ok_X11_runJournal 6 1 (pc' := 16) (vs' := [some (.ref p0), some (.int p1), none, none, none]) (st' := [.int 0]) rfl ?_
      exact h3 0
    · refine s_icmp_lt (tgt := 15) X (dk okd_X11_runJournal 0 rfl) (by decide) ?_ ?_
      · exact h27
      · refine s_run X ok_X11_runJournal 2 2 (pc' := 8) (vs' := [some (.ref p0), some (.int p1), none, none, none]) (st' := [.int 40, .int p1]) rfl ?_
        refine s_icmp_gt (tgt := 15) X (dk okd_X11_runJournal 1 rfl) (by decide) ?_ ?_
        · exact h27
        · refine s_run X ok_X11_runJournal 4 2 (pc' := 16) (vs' := [some (.ref p0), some (.int p1), none, none, none]) (st' := [.int 1]) rfl ?_
          exact h3 1
def tab_X4_write : List En := [(0, 8, 0, 0), (1, 0, 0, 0), (5, 8, 0, 0), (8, 8, 1, 0), (9, 4, 2, 0), (10, 4, 3, 0), (11, 0, 0, 0), (18, 8, 0, 0), (21, 8, 1, 0), (22, 4, 2, 0), (23, 4, 3, 0), (24, 0, 0, 1), (31, 8, 0, 0), (34, 8, 1, 0), (35, 4, 2, 0), (36, 4, 3, 0), (37, 0, 0, 2), (44, 8, 0, 0), (47, 8, 1, 0), (48, 4, 2, 0), (49, 4, 3, 0), (50, 0, 0, 3), (57, 8, 0, 0), (60, 8, 1, 0), (61, 4, 2, 0), (62, 4, 3, 0), (63, 0, 0, 4), (70, 8, 0, 0), (73, 8, 1, 0), (74, 4, 2, 0), (75, 4, 3, 0), (76, 0, 0, 5), (83, 8, 0, 0), (86, 8, 1, 0), (87, 4, 2, 0), (88, 4, 3, 0), (89, 1, 0, 6)]
theorem ok_X4_write : tab_X4_write.all (okE cX4_write) = true := by decide +kernel
def ed_X4_write : List (Nat × Instr × Nat) := [(2, .putfield 15, 3), (6, .ldc 19, 2), (12, .invokevirtual 21, 3), (15, .invokevirtual 27, 3), (19, .ldc 31, 2), (25, .invokevirtual 21, 3), (28, .invokevirtual 27, 3), (32, .ldc 33, 2), (38, .invokevirtual 21, 3), (41, .invokevirtual 27, 3), (45, .ldc 35, 2), (51, .invokevirtual 21, 3), (54, .invokevirtual 27, 3), (58, .ldc 37, 2), (64, .invokevirtual 21, 3), (67, .invokevirtual 27, 3), (71, .ldc 39, 2), (77, .invokevirtual 21, 3), (80, .invokevirtual 27, 3), (84, .ldc 41, 2), (91, .invokevirtual 21, 3), (94, .invokevirtual 27, 3), (97, .return_, 1)]
theorem okd_X4_write : ed_X4_write.all (okD cX4_write) = true := by decide +kernel
def f_X4_write (S : St) (p0 : Nat) (p1 : Nat) (p2 : Int32) (p3 : Int32) : Option (St) := lt (uI S p0 1 0) fun (S1 : St) => cl (f_X0_invoicePart S1 p1 p2 p3 0) fun (v2 : Int64) => cl (f_X4_addPart S1 p0 19 v2) fun (S3 : St) => cl (f_X0_invoicePart S3 p1 p2 p3 1) fun (v4 : Int64) => cl (f_X4_addPart S3 p0 20 v4) fun (S5 : St) => cl (f_X0_invoicePart S5 p1 p2 p3 2) fun (v6 : Int64) => cl (f_X4_addPart S5 p0 21 v6) fun (S7 : St) => cl (f_X0_invoicePart S7 p1 p2 p3 3) fun (v8 : Int64) => cl (f_X4_addPart S7 p0 22 v8) fun (S9 : St) => cl (f_X0_invoicePart S9 p1 p2 p3 4) fun (v10 : Int64) => cl (f_X4_addPart S9 p0 23 v10) fun (S11 : St) => cl (f_X0_invoicePart S11 p1 p2 p3 5) fun (v12 : Int64) => cl (f_X4_addPart S11 p0 24 v12) fun (S13 : St) => cl (f_X0_invoicePart S13 p1 p2 p3 6) fun (v14 : Int64) => cl (f_X4_addPart S13 p0 25 v14) fun (S15 : St) => some S15
set_option maxHeartbeats 4000000 in
set_option maxRecDepth 100000 in
theorem c_X4_write (S : St) (p0 : Nat) (p1 : Nat) (p2 : Int32) (p3 : Int32) : Ct yX4_write cX4_write 4 none 5 110 (fun _ => [.ref p0, .ref p1, .int p2, .int p3]) [(p0, 4), (p1, 0)] S (f_X4_write S p0 p1 p2 p3) oV sV := by
  refine Ct_of RX4 rfl (by decide) (fun _ => Nat.le_of_ble_eq_true rfl) 0 (vs := fun _ => [some (.ref p0), some (.ref p1), some (.int p2), some (.int p3)]) (fun _ => rfl) (fun C X E hr ht => ?_)
  have t0_ : tT C p0 4 := ht (p0, 4) (by simp)
  have t1_ : tT C p1 0 := ht (p1, 0) (by simp)
  show Jd C 4 (QJ C oV sV) S 0 [some (.ref p0), some (.ref p1), some (.int p2), some (.int p3)] [] (f_X4_write S p0 p1 p2 p3)
  unfold f_X4_write
  refine s_run X ok_X4_write 0 2 (pc' := 2) (vs' := [some (.ref p0), some (.ref p1), some (.int p2), some (.int p3)]) (st' := [.int 0, .ref p0]) rfl ?_
  refine s_putI X fp_X4_15 t0_ (dk okd_X4_write 0 rfl) (fun S1 => ?_)
  refine s_run X ok_X4_write 2 1 (pc' := 6) (vs' := [some (.ref p0), some (.ref p1), some (.int p2), some (.int p3)]) (st' := [.ref p0]) rfl ?_
  refine s_ldcS X E 19 sr_X4_19 (dk okd_X4_write 1 rfl) ?_
  refine s_run X ok_X4_write 3 4 (pc' := 12) (vs' := [some (.ref p0), some (.ref p1), some (.int p2), some (.int p3)]) (st' := [.int 0, .int p3, .int p2, .ref p1, .ref (cS C 19), .ref p0]) rfl ?_
  refine s_callV (b := p1) (As := [.int p2, .int p3, .int 0]) (rest := [.ref (cS C 19), .ref p0]) X E mv_X4_21 (c_X0_invoicePart S1 p1 p2 p3 0) rfl (ta1 t1_) rfl (by decide) t1_ rfl rfl (Nat.le_of_ble_eq_true rfl) (Nat.le_of_ble_eq_true rfl) (Nat.le_of_ble_eq_true rfl) (dk okd_X4_write 2 rfl) (st' := fun v2 => [.long v2, .ref (cS C 19), .ref p0]) (fun _ => rfl) (fun v2 => ?_)
  refine s_callV (b := p0) (As := [.ref (cS C 19), .long v2]) (rest := []) X E mv_X4_27 (c_X4_addPart S1 p0 19 v2) rfl (ta1 t0_) rfl (by decide) t0_ rfl rfl (Nat.le_of_ble_eq_true rfl) (Nat.le_of_ble_eq_true rfl) (Nat.le_of_ble_eq_true rfl) (dk okd_X4_write 3 rfl) (st' := fun S3 => []) (fun _ => rfl) (fun S3 => ?_)
  refine s_run X ok_X4_write 7 1 (pc' := 19) (vs' := [some (.ref p0), some (.ref p1), some (.int p2), some (.int p3)]) (st' := [.ref p0]) rfl ?_
  refine s_ldcS X E 20 sr_X4_31 (dk okd_X4_write 4 rfl) ?_
  refine s_run X ok_X4_write 8 4 (pc' := 25) (vs' := [some (.ref p0), some (.ref p1), some (.int p2), some (.int p3)]) (st' := [.int 1, .int p3, .int p2, .ref p1, .ref (cS C 20), .ref p0]) rfl ?_
  refine s_callV (b := p1) (As := [.int p2, .int p3, .int 1]) (rest := [.ref (cS C 20), .ref p0]) X E mv_X4_21 (c_X0_invoicePart S3 p1 p2 p3 1) rfl (ta1 t1_) rfl (by decide) t1_ rfl rfl (Nat.le_of_ble_eq_true rfl) (Nat.le_of_ble_eq_true rfl) (Nat.le_of_ble_eq_true rfl) (dk okd_X4_write 5 rfl) (st' := fun v4 => [.long v4, .ref (cS C 20), .ref p0]) (fun _ => rfl) (fun v4 => ?_)
  refine s_callV (b := p0) (As := [.ref (cS C 20), .long v4]) (rest := []) X E mv_X4_27 (c_X4_addPart S3 p0 20 v4) rfl (ta1 t0_) rfl (by decide) t0_ rfl rfl (Nat.le_of_ble_eq_true rfl) (Nat.le_of_ble_eq_true rfl) (Nat.le_of_ble_eq_true rfl) (dk okd_X4_write 6 rfl) (st' := fun S5 => []) (fun _ => rfl) (fun S5 => ?_)
  refine s_run X ok_X4_write 12 1 (pc' := 32) (vs' := [some (.ref p0), some (.ref p1), some (.int p2), some (.int p3)]) (st' := [.ref p0]) rfl ?_
  refine s_ldcS X E 21 sr_X4_33 (dk okd_X4_write 7 rfl) ?_
  refine s_run X ok_X4_write 13 4 (pc' := 38) (vs' := [some (.ref p0), some (.ref p1), some (.int p2), some (.int p3)]) (st' := [.int 2, .int p3, .int p2, .ref p1, .ref (cS C 21), .ref p0]) rfl ?_
  refine s_callV (b := p1) (As := [.int p2, .int p3, .int 2]) (rest := [.ref (cS C 21), .ref p0]) X E mv_X4_21 (c_X0_invoicePart S5 p1 p2 p3 2) rfl (ta1 t1_) rfl (by decide) t1_ rfl rfl (Nat.le_of_ble_eq_true rfl) (Nat.le_of_ble_eq_true rfl) (Nat.le_of_ble_eq_true rfl) (dk okd_X4_write 8 rfl) (st' := fun v6 => [.long v6, .ref (cS C 21), .ref p0]) (fun _ => rfl) (fun v6 => ?_)
  refine s_callV (b := p0) (As := [.ref (cS C 21), .long v6]) (rest := []) X E mv_X4_27 (c_X4_addPart S5 p0 21 v6) rfl (ta1 t0_) rfl (by decide) t0_ rfl rfl (Nat.le_of_ble_eq_true rfl) (Nat.le_of_ble_eq_true rfl) (Nat.le_of_ble_eq_true rfl) (dk okd_X4_write 9 rfl) (st' := fun S7 => []) (fun _ => rfl) (fun S7 => ?_)
  refine s_run X ok_X4_write 17 1 (pc' := 45) (vs' := [some (.ref p0), some (.ref p1), some (.int p2), some (.int p3)]) (st' := [.ref p0]) rfl ?_
  refine s_ldcS X E 22 sr_X4_35 (dk okd_X4_write 10 rfl) ?_
  refine s_run X ok_X4_write 18 4 (pc' := 51) (vs' := [some (.ref p0), some (.ref p1), some (.int p2), some (.int p3)]) (st' := [.int 3, .int p3, .int p2, .ref p1, .ref (cS C 22), .ref p0]) rfl ?_
  refine s_callV (b := p1) (As := [.int p2, .int p3, .int 3]) (rest := [.ref (cS C 22), .ref p0]) X E mv_X4_21 (c_X0_invoicePart S7 p1 p2 p3 3) rfl (ta1 t1_) rfl (by decide) t1_ rfl rfl (Nat.le_of_ble_eq_true rfl) (Nat.le_of_ble_eq_true rfl) (Nat.le_of_ble_eq_true rfl) (dk okd_X4_write 11 rfl) (st' := fun v8 => [.long v8, .ref (cS C 22), .ref p0]) (fun _ => rfl) (fun v8 => ?_)
  refine s_callV (b := p0) (As := [.ref (cS C 22), .long v8]) (rest := []) X E mv_X4_27 (c_X4_addPart S7 p0 22 v8) rfl (ta1 t0_) rfl (by decide) t0_ rfl rfl (Nat.le_of_ble_eq_true rfl) (Nat.le_of_ble_eq_true rfl) (Nat.le_of_ble_eq_true rfl) (dk okd_X4_write 12 rfl) (st' := fun S9 => []) (fun _ => rfl) (fun S9 => ?_)
  refine s_run X ok_X4_write 22 1 (pc' := 58) (vs' := [some (.ref p0), some (.ref p1), some (.int p2), some (.int p3)]) (st' := [.ref p0]) rfl ?_
  refine s_ldcS X E 23 sr_X4_37 (dk okd_X4_write 13 rfl) ?_
  refine s_run X ok_X4_write 23 4 (pc' := 64) (vs' := [some (.ref p0), some (.ref p1), some (.int p2), some (.int p3)]) (st' := [.int 4, .int p3, .int p2, .ref p1, .ref (cS C 23), .ref p0]) rfl ?_
  refine s_callV (b := p1) (As := [.int p2, .int p3, .int 4]) (rest := [.ref (cS C 23), .ref p0]) X E mv_X4_21 (c_X0_invoicePart S9 p1 p2 p3 4) rfl (ta1 t1_) rfl (by decide) t1_ rfl rfl (Nat.le_of_ble_eq_true rfl) (Nat.le_of_ble_eq_true rfl) (Nat.le_of_ble_eq_true rfl) (dk okd_X4_write 14 rfl) (st' := fun v10 => [.long v10, .ref (cS C 23), .ref p0]) (fun _ => rfl) (fun v10 => ?_)
  refine s_callV (b := p0) (As := [.ref (cS C 23), .long v10]) (rest := []) X E mv_X4_27 (c_X4_addPart S9 p0 23 v10) rfl (ta1 t0_) rfl (by decide) t0_ rfl rfl (Nat.le_of_ble_eq_true rfl) (Nat.le_of_ble_eq_true rfl) (Nat.le_of_ble_eq_true rfl) (dk okd_X4_write 15 rfl) (st' := fun S11 => []) (fun _ => rfl) (fun S11 => ?_)
  refine s_run X ok_X4_write 27 1 (pc' := 71) (vs' := [some (.ref p0), some (.ref p1), some (.int p2), some (.int p3)]) (st' := [.ref p0]) rfl ?_
  refine s_ldcS X E 24 sr_X4_39 (dk okd_X4_write 16 rfl) ?_
  refine s_run X ok_X4_write 28 4 (pc' := 77) (vs' := [some (.ref p0), some (.ref p1), some (.int p2), some (.int p3)]) (st' := [.int 5, .int p3, .int p2, .ref p1, .ref (cS C 24), .ref p0]) rfl ?_
  refine s_callV (b := p1) (As := [.int p2, .int p3, .int 5]) (rest := [.ref (cS C 24), .ref p0]) X E mv_X4_21 (c_X0_invoicePart S11 p1 p2 p3 5) rfl (ta1 t1_) rfl (by decide) t1_ rfl rfl (Nat.le_of_ble_eq_true rfl) (Nat.le_of_ble_eq_true rfl) (Nat.le_of_ble_eq_true rfl) (dk okd_X4_write 17 rfl) (st' := fun v12 => [.long v12, .ref (cS C 24), .ref p0]) (fun _ => rfl) (fun v12 => ?_)
  refine s_callV (b := p0) (As := [.ref (cS C 24), .long v12]) (rest := []) X E mv_X4_27 (c_X4_addPart S11 p0 24 v12) rfl (ta1 t0_) rfl (by decide) t0_ rfl rfl (Nat.le_of_ble_eq_true rfl) (Nat.le_of_ble_eq_true rfl) (Nat.le_of_ble_eq_true rfl) (dk okd_X4_write 18 rfl) (st' := fun S13 => []) (fun _ => rfl) (fun S13 => ?_)
  refine s_run X ok_X4_write 32 1 (pc' := 84) (vs' := [some (.ref p0), some (.ref p1), some (.int p2), some (.int p3)]) (st' := [.ref p0]) rfl ?_
  refine s_ldcS X E 25 sr_X4_41 (dk okd_X4_write 19 rfl) ?_
  refine s_run X ok_X4_write 33 4 (pc' := 91) (vs' := [some (.ref p0), some (.ref p1), some (.int p2), some (.int p3)]) (st' := [.int 6, .int p3, .int p2, .ref p1, .ref (cS C 25), .ref p0]) rfl ?_
  refine s_callV (b := p1) (As := [.int p2, .int p3, .int 6]) (rest := [.ref (cS C 25), .ref p0]) X E mv_X4_21 (c_X0_invoicePart S13 p1 p2 p3 6) rfl (ta1 t1_) rfl (by decide) t1_ rfl rfl (Nat.le_of_ble_eq_true rfl) (Nat.le_of_ble_eq_true rfl) (Nat.le_of_ble_eq_true rfl) (dk okd_X4_write 20 rfl) (st' := fun v14 => [.long v14, .ref (cS C 25), .ref p0]) (fun _ => rfl) (fun v14 => ?_)
  refine s_callV (b := p0) (As := [.ref (cS C 25), .long v14]) (rest := []) X E mv_X4_27 (c_X4_addPart S13 p0 25 v14) rfl (ta1 t0_) rfl (by decide) t0_ rfl rfl (Nat.le_of_ble_eq_true rfl) (Nat.le_of_ble_eq_true rfl) (Nat.le_of_ble_eq_true rfl) (dk okd_X4_write 21 rfl) (st' := fun S15 => []) (fun _ => rfl) (fun S15 => ?_)
  exact s_vret X hr (dk okd_X4_write 22 rfl) rfl rfl
def tab_X5_kindOfWord : List En := [(0, 8, 0, 0), (9, 0, 0, 0), (11, 8, 0, 0), (20, 0, 0, 1), (22, 8, 0, 0), (31, 0, 0, 2), (33, 8, 0, 0), (42, 0, 0, 3), (44, 8, 0, 0), (53, 0, 0, 4), (55, 8, 0, 0), (64, 0, 0, 5), (66, 8, 0, 0), (75, 1, 0, 6), (77, 41, 81, 0), (80, 0, 0, (-1))]
theorem ok_X5_kindOfWord : tab_X5_kindOfWord.all (okE cX5_kindOfWord) = true := by decide +kernel
def ed_X5_kindOfWord : List (Nat × Instr × Nat) := [(1, .ldc 78, 2), (3, .invokevirtual 80, 3), (6, .ifCond .eq 5, 3), (10, .ireturn, 1), (12, .ldc 84, 2), (14, .invokevirtual 80, 3), (17, .ifCond .eq 5, 3), (21, .ireturn, 1), (23, .ldc 86, 2), (25, .invokevirtual 80, 3), (28, .ifCond .eq 5, 3), (32, .ireturn, 1), (34, .ldc 88, 2), (36, .invokevirtual 80, 3), (39, .ifCond .eq 5, 3), (43, .ireturn, 1), (45, .ldc 90, 2), (47, .invokevirtual 80, 3), (50, .ifCond .eq 5, 3), (54, .ireturn, 1), (56, .ldc 92, 2), (58, .invokevirtual 80, 3), (61, .ifCond .eq 5, 3), (65, .ireturn, 1), (67, .ldc 94, 2), (69, .invokevirtual 80, 3), (72, .ifCond .eq 8, 3), (81, .ireturn, 1)]
theorem okd_X5_kindOfWord : ed_X5_kindOfWord.all (okD cX5_kindOfWord) = true := by decide +kernel
def f_X5_kindOfWord (S : St) (p0 : Nat) : Option (Int32) := cl (f_X9_isWord S p0 10) fun (v1 : Int32) => if v1 = 0 then (cl (f_X9_isWord S p0 11) fun (v2 : Int32) => if v2 = 0 then (cl (f_X9_isWord S p0 12) fun (v3 : Int32) => if v3 = 0 then (cl (f_X9_isWord S p0 13) fun (v4 : Int32) => if v4 = 0 then (cl (f_X9_isWord S p0 14) fun (v5 : Int32) => if v5 = 0 then (cl (f_X9_isWord S p0 15) fun (v6 : Int32) => if v6 = 0 then (cl (f_X9_isWord S p0 16) fun (v7 : Int32) => if v7 = 0 then (some (-1)) else (some 6)) else (some 5)) else (some 4)) else (some 3)) else (some 2)) else (some 1)) else (some 0)
set_option maxHeartbeats 4000000 in
set_option maxRecDepth 100000 in
theorem c_X5_kindOfWord (S : St) (p0 : Nat) : Ct yX5_kindOfWord cX5_kindOfWord 1 (some .int) 5 107 (fun _ => [.ref p0]) [(p0, 8)] S (f_X5_kindOfWord S p0) oI (fun _ => S) := by
  refine Ct_of RX5 rfl (by decide) (fun _ => Nat.le_of_ble_eq_true rfl) 0 (vs := fun _ => [some (.ref p0)]) (fun _ => rfl) (fun C X E hr ht => ?_)
  have t0_ : tT C p0 8 := ht (p0, 8) (by simp)
  show Jd C 1 (QJ C oI (fun _ => S)) S 0 [some (.ref p0)] [] (f_X5_kindOfWord S p0)
  unfold f_X5_kindOfWord
  refine s_run X ok_X5_kindOfWord 0 1 (pc' := 1) (vs' := [some (.ref p0)]) (st' := [.ref p0]) rfl ?_
  refine s_ldcS X E 10 sr_X5_78 (dk okd_X5_kindOfWord 0 rfl) ?_
  refine s_callV (b := p0) (As := [.ref (cS C 10)]) (rest := []) X E mv_X5_80 (c_X9_isWord S p0 10) rfl (ta1 t0_) rfl (by decide) t0_ rfl rfl (Nat.le_of_ble_eq_true rfl) (Nat.le_of_ble_eq_true rfl) (Nat.le_of_ble_eq_true rfl) (dk okd_X5_kindOfWord 1 rfl) (st' := fun v1 => [.int v1]) (fun _ => rfl) (fun v1 => ?_)
  refine s_if_eq (tgt := 11) X (dk okd_X5_kindOfWord 2 rfl) (by decide) ?_ ?_
  · refine s_run X ok_X5_kindOfWord 2 1 (pc' := 12) (vs' := [some (.ref p0)]) (st' := [.ref p0]) rfl ?_
    refine s_ldcS X E 11 sr_X5_84 (dk okd_X5_kindOfWord 4 rfl) ?_
    refine s_callV (b := p0) (As := [.ref (cS C 11)]) (rest := []) X E mv_X5_80 (c_X9_isWord S p0 11) rfl (ta1 t0_) rfl (by decide) t0_ rfl rfl (Nat.le_of_ble_eq_true rfl) (Nat.le_of_ble_eq_true rfl) (Nat.le_of_ble_eq_true rfl) (dk okd_X5_kindOfWord 5 rfl) (st' := fun v2 => [.int v2]) (fun _ => rfl) (fun v2 => ?_)
    refine s_if_eq (tgt := 22) X (dk okd_X5_kindOfWord 6 rfl) (by decide) ?_ ?_
    · refine s_run X ok_X5_kindOfWord 4 1 (pc' := 23) (vs' := [some (.ref p0)]) (st' := [.ref p0]) rfl ?_
      refine s_ldcS X E 12 sr_X5_86 (dk okd_X5_kindOfWord 8 rfl) ?_
      refine s_callV (b := p0) (As := [.ref (cS C 12)]) (rest := []) X E mv_X5_80 (c_X9_isWord S p0 12) rfl (ta1 t0_) rfl (by decide) t0_ rfl rfl (Nat.le_of_ble_eq_true rfl) (Nat.le_of_ble_eq_true rfl) (Nat.le_of_ble_eq_true rfl) (dk okd_X5_kindOfWord 9 rfl) (st' := fun v3 => [.int v3]) (fun _ => rfl) (fun v3 => ?_)
      refine s_if_eq (tgt := 33) X (dk okd_X5_kindOfWord 10 rfl) (by decide) ?_ ?_
      · refine s_run X ok_X5_kindOfWord 6 1 (pc' := 34) (vs' := [some (.ref p0)]) (st' := [.ref p0]) rfl ?_
        refine s_ldcS X E 13 sr_X5_88 (dk okd_X5_kindOfWord 12 rfl) ?_
        refine s_callV (b := p0) (As := [.ref (cS C 13)]) (rest := []) X E mv_X5_80 (c_X9_isWord S p0 13) rfl (ta1 t0_) rfl (by decide) t0_ rfl rfl (Nat.le_of_ble_eq_true rfl) (Nat.le_of_ble_eq_true rfl) (Nat.le_of_ble_eq_true rfl) (dk okd_X5_kindOfWord 13 rfl) (st' := fun v4 => [.int v4]) (fun _ => rfl) (fun v4 => ?_)
        refine s_if_eq (tgt := 44) X (dk okd_X5_kindOfWord 14 rfl) (by decide) ?_ ?_
        · refine s_run X ok_X5_kindOfWord 8 1 (pc' := 45) (vs' := [some (.ref p0)]) (st' := [.ref p0]) rfl ?_
          refine s_ldcS X E 14 sr_X5_90 (dk okd_X5_kindOfWord 16 rfl) ?_
          refine s_callV (b := p0) (As := [.ref (cS C 14)]) (rest := []) X E mv_X5_80 (c_X9_isWord S p0 14) rfl (ta1 t0_) rfl (by decide) t0_ rfl rfl (Nat.le_of_ble_eq_true rfl) (Nat.le_of_ble_eq_true rfl) (Nat.le_of_ble_eq_true rfl) (dk okd_X5_kindOfWord 17 rfl) (st' := fun v5 => [.int v5]) (fun _ => rfl) (fun v5 => ?_)
          refine s_if_eq (tgt := 55) X (dk okd_X5_kindOfWord 18 rfl) (by decide) ?_ ?_
          · refine s_run X ok_X5_kindOfWord 10 1 (pc' := 56) (vs' := [some (.ref p0)]) (st' := [.ref p0]) rfl ?_
            refine s_ldcS X E 15 sr_X5_92 (dk okd_X5_kindOfWord 20 rfl) ?_
            refine s_callV (b := p0) (As := [.ref (cS C 15)]) (rest := []) X E mv_X5_80 (c_X9_isWord S p0 15) rfl (ta1 t0_) rfl (by decide) t0_ rfl rfl (Nat.le_of_ble_eq_true rfl) (Nat.le_of_ble_eq_true rfl) (Nat.le_of_ble_eq_true rfl) (dk okd_X5_kindOfWord 21 rfl) (st' := fun v6 => [.int v6]) (fun _ => rfl) (fun v6 => ?_)
            refine s_if_eq (tgt := 66) X (dk okd_X5_kindOfWord 22 rfl) (by decide) ?_ ?_
            · refine s_run X ok_X5_kindOfWord 12 1 (pc' := 67) (vs' := [some (.ref p0)]) (st' := [.ref p0]) rfl ?_
              refine s_ldcS X E 16 sr_X5_94 (dk okd_X5_kindOfWord 24 rfl) ?_
              refine s_callV (b := p0) (As := [.ref (cS C 16)]) (rest := []) X E mv_X5_80 (c_X9_isWord S p0 16) rfl (ta1 t0_) rfl (by decide) t0_ rfl rfl (Nat.le_of_ble_eq_true rfl) (Nat.le_of_ble_eq_true rfl) (Nat.le_of_ble_eq_true rfl) (dk okd_X5_kindOfWord 25 rfl) (st' := fun v7 => [.int v7]) (fun _ => rfl) (fun v7 => ?_)
              refine s_if_eq (tgt := 80) X (dk okd_X5_kindOfWord 26 rfl) (by decide) ?_ ?_
              · refine s_run X ok_X5_kindOfWord 15 1 (pc' := 81) (vs' := [some (.ref p0)]) (st' := [.int (-1)]) rfl ?_
                exact s_iret X hr (dk okd_X5_kindOfWord 27 rfl) rfl rfl
              · refine s_run X ok_X5_kindOfWord 13 2 (pc' := 81) (vs' := [some (.ref p0)]) (st' := [.int 6]) rfl ?_
                exact s_iret X hr (dk okd_X5_kindOfWord 27 rfl) rfl rfl
            · refine s_run X ok_X5_kindOfWord 11 1 (pc' := 65) (vs' := [some (.ref p0)]) (st' := [.int 5]) rfl ?_
              exact s_iret X hr (dk okd_X5_kindOfWord 23 rfl) rfl rfl
          · refine s_run X ok_X5_kindOfWord 9 1 (pc' := 54) (vs' := [some (.ref p0)]) (st' := [.int 4]) rfl ?_
            exact s_iret X hr (dk okd_X5_kindOfWord 19 rfl) rfl rfl
        · refine s_run X ok_X5_kindOfWord 7 1 (pc' := 43) (vs' := [some (.ref p0)]) (st' := [.int 3]) rfl ?_
          exact s_iret X hr (dk okd_X5_kindOfWord 15 rfl) rfl rfl
      · refine s_run X ok_X5_kindOfWord 5 1 (pc' := 32) (vs' := [some (.ref p0)]) (st' := [.int 2]) rfl ?_
        exact s_iret X hr (dk okd_X5_kindOfWord 11 rfl) rfl rfl
    · refine s_run X ok_X5_kindOfWord 3 1 (pc' := 21) (vs' := [some (.ref p0)]) (st' := [.int 1]) rfl ?_
      exact s_iret X hr (dk okd_X5_kindOfWord 7 rfl) rfl rfl
  · refine s_run X ok_X5_kindOfWord 1 1 (pc' := 10) (vs' := [some (.ref p0)]) (st' := [.int 0]) rfl ?_
    exact s_iret X hr (dk okd_X5_kindOfWord 3 rfl) rfl rfl
def tab_X5_readArguments : List En := [(0, 8, 0, 0), (4, 8, 0, 0), (48, 8, 0, 0), (52, 8, 0, 0), (56, 8, 1, 0), (57, 0, 0, 0), (58, 1, 0, 15), (64, 8, 0, 0), (68, 8, 0, 0), (72, 8, 1, 0), (73, 0, 0, 0), (79, 31, 0, 0), (83, 25, 0, 0), (85, 41, 269, 0), (88, 8, 0, 0), (92, 8, 0, 0), (96, 8, 1, 0), (97, 0, 0, 0), (98, 1, 0, 15), (104, 8, 0, 0), (108, 8, 0, 0), (112, 8, 1, 0), (113, 0, 0, 0), (114, 1, 0, 29), (120, 8, 0, 0), (124, 8, 0, 0), (128, 8, 1, 0), (129, 0, 0, 0), (130, 1, 0, 29), (136, 8, 0, 0), (140, 8, 0, 0), (144, 8, 1, 0), (145, 0, 0, 1), (151, 31, 0, 0), (155, 25, 0, 0), (157, 41, 269, 0), (160, 8, 0, 0), (164, 8, 0, 0), (168, 8, 1, 0), (169, 8, 2, 0), (170, 0, 0, 1), (175, 8, 0, 0), (179, 8, 0, 0), (183, 8, 1, 0), (184, 0, 0, 1), (190, 31, 0, 0), (194, 25, 0, 0), (196, 41, 269, 0), (199, 8, 0, 0), (203, 8, 0, 0), (207, 8, 1, 0), (208, 0, 0, 1), (214, 31, 0, 0), (218, 25, 0, 0), (220, 41, 269, 0), (223, 8, 0, 0), (227, 8, 0, 0), (231, 8, 1, 0), (232, 8, 2, 0), (233, 0, 0, 1), (238, 8, 0, 0), (242, 8, 0, 0), (246, 8, 1, 0), (247, 0, 0, 0), (248, 0, 0, 4), (253, 8, 0, 0), (257, 8, 0, 0), (261, 8, 1, 0), (266, 41, 269, 0)]
theorem ok_X5_readArguments : tab_X5_readArguments.all (okE cX5_readArguments) = true := by decide +kernel
def ed_X5_readArguments : List (Nat × Instr × Nat) := [(1, .getfield 9, 3), (5, .getfield 35, 3), (8, .iaload, 1), (9, .tableswitch 260 0 5 #[39, 79, 151, 151, 190, 214], 39), (49, .getfield 15, 3), (53, .getfield 35, 3), (60, .invokevirtual 96, 3), (63, .iastore, 1), (65, .getfield 31, 3), (69, .getfield 35, 3), (74, .ldc 100, 2), (76, .invokevirtual 96, 3), (80, .ldc2_w 101, 3), (84, .lastore, 1), (89, .getfield 15, 3), (93, .getfield 35, 3), (100, .invokevirtual 96, 3), (103, .iastore, 1), (105, .getfield 18, 3), (109, .getfield 35, 3), (116, .invokevirtual 96, 3), (119, .iastore, 1), (121, .getfield 21, 3), (125, .getfield 35, 3), (132, .invokevirtual 96, 3), (135, .iastore, 1), (137, .getfield 31, 3), (141, .getfield 35, 3), (146, .ldc 100, 2), (148, .invokevirtual 96, 3), (152, .ldc2_w 101, 3), (156, .lastore, 1), (161, .getfield 15, 3), (165, .getfield 35, 3), (171, .invokevirtual 103, 3), (174, .iastore, 1), (176, .getfield 31, 3), (180, .getfield 35, 3), (185, .ldc 107, 2), (187, .invokevirtual 96, 3), (191, .ldc2_w 101, 3), (195, .lastore, 1), (200, .getfield 31, 3), (204, .getfield 35, 3), (209, .ldc 107, 2), (211, .invokevirtual 96, 3), (215, .ldc2_w 101, 3), (219, .lastore, 1), (224, .getfield 15, 3), (228, .getfield 35, 3), (234, .invokevirtual 103, 3), (237, .iastore, 1), (239, .getfield 24, 3), (243, .getfield 35, 3), (249, .invokevirtual 96, 3), (252, .iastore, 1), (254, .getfield 27, 3), (258, .getfield 35, 3), (262, .invokevirtual 108, 3), (265, .bastore, 1), (269, .return_, 1)]
theorem okd_X5_readArguments : ed_X5_readArguments.all (okD cX5_readArguments) = true := by decide +kernel
def f_X5_readArguments (S : St) (p0 : Nat) (p1 : Nat) (p2 : Nat) : Option (St) := lt (gR S p0 0) fun (a1 : Nat) => lt (gI S p0 7) fun (v3 : Int32) => ldI S a1 v3 fun (v4 : Int32) => jn (κ := Option (St)) (lt (gR S p0 1) fun (a7 : Nat) => lt (gI S p0 7) fun (v9 : Int32) => cl (f_X9_readName S p1 p2 1) fun (o10 : Int32 × St) => stI o10.2 a7 v9 o10.1 fun (S11 : St) => lt (gR S11 p0 6) fun (a12 : Nat) => lt (gI S11 p0 7) fun (v14 : Int32) => cl (f_X9_readNumber S11 p1 1 999999) fun (o15 : Int32 × St) => stJ o15.2 a12 v14 ((Int32.toInt64 o15.1) * 100) fun (S16 : St) => some S16) fun k5 => if v4 = 0 then (lt (gR S p0 1) fun (a17 : Nat) => lt (gI S p0 7) fun (v19 : Int32) => cl (f_X9_readNumber S p1 0 15) fun (o20 : Int32 × St) => stI o20.2 a17 v19 o20.1 fun (S21 : St) => lt (gR S21 p0 6) fun (a22 : Nat) => lt (gI S21 p0 7) fun (v24 : Int32) => cl (f_X9_readNumber S21 p1 0 100000) fun (o25 : Int32 × St) => stJ o25.2 a22 v24 ((Int32.toInt64 o25.1) * 100) fun (S26 : St) => some S26) else (if v4 = 1 then (lt (gR S p0 1) fun (a27 : Nat) => lt (gI S p0 7) fun (v29 : Int32) => cl (f_X9_readNumber S p1 0 15) fun (o30 : Int32 × St) => stI o30.2 a27 v29 o30.1 fun (S31 : St) => lt (gR S31 p0 2) fun (a32 : Nat) => lt (gI S31 p0 7) fun (v34 : Int32) => cl (f_X9_readNumber S31 p1 0 29) fun (o35 : Int32 × St) => stI o35.2 a32 v34 o35.1 fun (S36 : St) => lt (gR S36 p0 3) fun (a37 : Nat) => lt (gI S36 p0 7) fun (v39 : Int32) => cl (f_X9_readNumber S36 p1 0 29) fun (o40 : Int32 × St) => stI o40.2 a37 v39 o40.1 fun (S41 : St) => lt (gR S41 p0 6) fun (a42 : Nat) => lt (gI S41 p0 7) fun (v44 : Int32) => cl (f_X9_readNumber S41 p1 1 100000) fun (o45 : Int32 × St) => stJ o45.2 a42 v44 ((Int32.toInt64 o45.1) * 100) fun (S46 : St) => some S46) else (if v4 = 2 then (k5) else (if v4 = 3 then (k5) else (if v4 = 4 then (lt (gR S p0 6) fun (a47 : Nat) => lt (gI S p0 7) fun (v49 : Int32) => cl (f_X9_readNumber S p1 1 999999) fun (o50 : Int32 × St) => stJ o50.2 a47 v49 ((Int32.toInt64 o50.1) * 100) fun (S51 : St) => some S51) else (if v4 = 5 then (lt (gR S p0 1) fun (a52 : Nat) => lt (gI S p0 7) fun (v54 : Int32) => cl (f_X9_readName S p1 p2 1) fun (o55 : Int32 × St) => stI o55.2 a52 v54 o55.1 fun (S56 : St) => lt (gR S56 p0 4) fun (a57 : Nat) => lt (gI S56 p0 7) fun (v59 : Int32) => cl (f_X9_readNumber S56 p1 0 4) fun (o60 : Int32 × St) => stI o60.2 a57 v59 o60.1 fun (S61 : St) => lt (gR S61 p0 5) fun (a62 : Nat) => lt (gI S61 p0 7) fun (v64 : Int32) => cl (f_X9_readYes S61 p1) fun (o65 : Int32 × St) => stI o65.2 a62 v64 (vp_nar .boolean o65.1) fun (S66 : St) => some S66) else (some S))))))
set_option maxHeartbeats 4000000 in
set_option maxRecDepth 100000 in
theorem c_X5_readArguments (S : St) (p0 : Nat) (p1 : Nat) (p2 : Nat) : Ct yX5_readArguments cX5_readArguments 3 none 7 150 (fun _ => [.ref p0, .ref p1, .ref p2]) [(p0, 5), (p1, 8), (p2, 2)] S (f_X5_readArguments S p0 p1 p2) oV sV := by
  refine Ct_of RX5 rfl (by decide) (fun _ => Nat.le_of_ble_eq_true rfl) 0 (vs := fun _ => [some (.ref p0), some (.ref p1), some (.ref p2)]) (fun _ => rfl) (fun C X E hr ht => ?_)
  have t0_ : tT C p0 5 := ht (p0, 5) (by simp)
  have t1_ : tT C p1 8 := ht (p1, 8) (by simp)
  have t2_ : tT C p2 2 := ht (p2, 2) (by simp)
  show Jd C 3 (QJ C oV sV) S 0 [some (.ref p0), some (.ref p1), some (.ref p2)] [] (f_X5_readArguments S p0 p1 p2)
  unfold f_X5_readArguments
  refine s_run X ok_X5_readArguments 0 1 (pc' := 1) (vs' := [some (.ref p0), some (.ref p1), some (.ref p2)]) (st' := [.ref p0]) rfl ?_
  refine s_getR X fl_X5_9 t0_ (dk okd_X5_readArguments 0 rfl) (fun a1 (t2 : tT C a1 13) => ?_)
  refine s_run X ok_X5_readArguments 1 1 (pc' := 5) (vs' := [some (.ref p0), some (.ref p1), some (.ref p2)]) (st' := [.ref p0, .ref a1]) rfl ?_
  refine s_getI X fl_X5_35 t0_ (dk okd_X5_readArguments 1 rfl) (fun v3 => ?_)
  refine s_iald X t2 (dk okd_X5_readArguments 2 rfl) (fun v4 => ?_)
  refine s_jn (κ := Option (St)) (fun k5 => Jd C 3 (QJ C oV sV) S 160 [some (.ref p0), some (.ref p1), some (.ref p2)] [] k5) ?_ (fun k5 h6 => ?_)
  · refine s_run X ok_X5_readArguments 36 1 (pc' := 161) (vs' := [some (.ref p0), some (.ref p1), some (.ref p2)]) (st' := [.ref p0]) rfl ?_
    refine s_getR X fl_X5_15 t0_ (dk okd_X5_readArguments 32 rfl) (fun a7 (t8 : tT C a7 13) => ?_)
    refine s_run X ok_X5_readArguments 37 1 (pc' := 165) (vs' := [some (.ref p0), some (.ref p1), some (.ref p2)]) (st' := [.ref p0, .ref a7]) rfl ?_
    refine s_getI X fl_X5_35 t0_ (dk okd_X5_readArguments 33 rfl) (fun v9 => ?_)
    refine s_run X ok_X5_readArguments 38 3 (pc' := 171) (vs' := [some (.ref p0), some (.ref p1), some (.ref p2)]) (st' := [.int 1, .ref p2, .ref p1, .int v9, .ref a7]) rfl ?_
    refine s_callV (b := p1) (As := [.ref p2, .int 1]) (rest := [.int v9, .ref a7]) X E mv_X5_103 (c_X9_readName S p1 p2 1) rfl (ta2 t1_ t2_) rfl (by decide) t1_ rfl rfl (Nat.le_of_ble_eq_true rfl) (Nat.le_of_ble_eq_true rfl) (Nat.le_of_ble_eq_true rfl) (dk okd_X5_readArguments 34 rfl) (st' := fun o10 => [.int o10.1, .int v9, .ref a7]) (fun _ => rfl) (fun o10 => ?_)
    refine s_iast X t8 (dk okd_X5_readArguments 35 rfl) (fun S11 => ?_)
    refine s_run X ok_X5_readArguments 41 1 (pc' := 176) (vs' := [some (.ref p0), some (.ref p1), some (.ref p2)]) (st' := [.ref p0]) rfl ?_
    refine s_getR X fl_X5_31 t0_ (dk okd_X5_readArguments 36 rfl) (fun a12 (t13 : tT C a12 14) => ?_)
    refine s_run X ok_X5_readArguments 42 1 (pc' := 180) (vs' := [some (.ref p0), some (.ref p1), some (.ref p2)]) (st' := [.ref p0, .ref a12]) rfl ?_
    refine s_getI X fl_X5_35 t0_ (dk okd_X5_readArguments 37 rfl) (fun v14 => ?_)
    refine s_run X ok_X5_readArguments 43 2 (pc' := 185) (vs' := [some (.ref p0), some (.ref p1), some (.ref p2)]) (st' := [.int 1, .ref p1, .int v14, .ref a12]) rfl ?_
    refine s_ldc X ci_X5_107 (dk okd_X5_readArguments 38 rfl) ?_
    refine s_callV (b := p1) (As := [.int 1, .int 999999]) (rest := [.int v14, .ref a12]) X E mv_X5_96 (c_X9_readNumber S11 p1 1 999999) rfl (ta1 t1_) rfl (by decide) t1_ rfl rfl (Nat.le_of_ble_eq_true rfl) (Nat.le_of_ble_eq_true rfl) (Nat.le_of_ble_eq_true rfl) (dk okd_X5_readArguments 39 rfl) (st' := fun o15 => [.int o15.1, .int v14, .ref a12]) (fun _ => rfl) (fun o15 => ?_)
    refine s_run X ok_X5_readArguments 45 1 (pc' := 191) (vs' := [some (.ref p0), some (.ref p1), some (.ref p2)]) (st' := [.long (Int32.toInt64 o15.1), .int v14, .ref a12]) rfl ?_
    refine s_ldc2 X cl_X5_101 (dk okd_X5_readArguments 40 rfl) ?_
    refine s_run X ok_X5_readArguments 46 1 (pc' := 195) (vs' := [some (.ref p0), some (.ref p1), some (.ref p2)]) (st' := [.long ((Int32.toInt64 o15.1) * 100), .int v14, .ref a12]) rfl ?_
    refine s_last X t13 (dk okd_X5_readArguments 41 rfl) (fun S16 => ?_)
    refine s_run X ok_X5_readArguments 47 1 (pc' := 269) (vs' := [some (.ref p0), some (.ref p1), some (.ref p2)]) (st' := []) rfl ?_
    exact s_vret X hr (dk okd_X5_readArguments 60 rfl) rfl rfl
  · refine s_tabc (c := 0) (tgt := 48) X (dk okd_X5_readArguments 3 rfl) (by decide) (by decide) rfl (by decide) ?_ (fun n0 => ?_)
    · refine s_run X ok_X5_readArguments 2 1 (pc' := 49) (vs' := [some (.ref p0), some (.ref p1), some (.ref p2)]) (st' := [.ref p0]) rfl ?_
      refine s_getR X fl_X5_15 t0_ (dk okd_X5_readArguments 4 rfl) (fun a17 (t18 : tT C a17 13) => ?_)
      refine s_run X ok_X5_readArguments 3 1 (pc' := 53) (vs' := [some (.ref p0), some (.ref p1), some (.ref p2)]) (st' := [.ref p0, .ref a17]) rfl ?_
      refine s_getI X fl_X5_35 t0_ (dk okd_X5_readArguments 5 rfl) (fun v19 => ?_)
      refine s_run X ok_X5_readArguments 4 3 (pc' := 60) (vs' := [some (.ref p0), some (.ref p1), some (.ref p2)]) (st' := [.int 15, .int 0, .ref p1, .int v19, .ref a17]) rfl ?_
      refine s_callV (b := p1) (As := [.int 0, .int 15]) (rest := [.int v19, .ref a17]) X E mv_X5_96 (c_X9_readNumber S p1 0 15) rfl (ta1 t1_) rfl (by decide) t1_ rfl rfl (Nat.le_of_ble_eq_true rfl) (Nat.le_of_ble_eq_true rfl) (Nat.le_of_ble_eq_true rfl) (dk okd_X5_readArguments 6 rfl) (st' := fun o20 => [.int o20.1, .int v19, .ref a17]) (fun _ => rfl) (fun o20 => ?_)
      refine s_iast X t18 (dk okd_X5_readArguments 7 rfl) (fun S21 => ?_)
      refine s_run X ok_X5_readArguments 7 1 (pc' := 65) (vs' := [some (.ref p0), some (.ref p1), some (.ref p2)]) (st' := [.ref p0]) rfl ?_
      refine s_getR X fl_X5_31 t0_ (dk okd_X5_readArguments 8 rfl) (fun a22 (t23 : tT C a22 14) => ?_)
      refine s_run X ok_X5_readArguments 8 1 (pc' := 69) (vs' := [some (.ref p0), some (.ref p1), some (.ref p2)]) (st' := [.ref p0, .ref a22]) rfl ?_
      refine s_getI X fl_X5_35 t0_ (dk okd_X5_readArguments 9 rfl) (fun v24 => ?_)
      refine s_run X ok_X5_readArguments 9 2 (pc' := 74) (vs' := [some (.ref p0), some (.ref p1), some (.ref p2)]) (st' := [.int 0, .ref p1, .int v24, .ref a22]) rfl ?_
      refine s_ldc X ci_X5_100 (dk okd_X5_readArguments 10 rfl) ?_
      refine s_callV (b := p1) (As := [.int 0, .int 100000]) (rest := [.int v24, .ref a22]) X E mv_X5_96 (c_X9_readNumber S21 p1 0 100000) rfl (ta1 t1_) rfl (by decide) t1_ rfl rfl (Nat.le_of_ble_eq_true rfl) (Nat.le_of_ble_eq_true rfl) (Nat.le_of_ble_eq_true rfl) (dk okd_X5_readArguments 11 rfl) (st' := fun o25 => [.int o25.1, .int v24, .ref a22]) (fun _ => rfl) (fun o25 => ?_)
      refine s_run X ok_X5_readArguments 11 1 (pc' := 80) (vs' := [some (.ref p0), some (.ref p1), some (.ref p2)]) (st' := [.long (Int32.toInt64 o25.1), .int v24, .ref a22]) rfl ?_
      refine s_ldc2 X cl_X5_101 (dk okd_X5_readArguments 12 rfl) ?_
      refine s_run X ok_X5_readArguments 12 1 (pc' := 84) (vs' := [some (.ref p0), some (.ref p1), some (.ref p2)]) (st' := [.long ((Int32.toInt64 o25.1) * 100), .int v24, .ref a22]) rfl ?_
      refine s_last X t23 (dk okd_X5_readArguments 13 rfl) (fun S26 => ?_)
      refine s_run X ok_X5_readArguments 13 1 (pc' := 269) (vs' := [some (.ref p0), some (.ref p1), some (.ref p2)]) (st' := []) rfl ?_
      exact s_vret X hr (dk okd_X5_readArguments 60 rfl) rfl rfl
    refine s_tabc (c := 1) (tgt := 88) X (dk okd_X5_readArguments 3 rfl) (by decide) (by decide) rfl (by decide) ?_ (fun n1 => ?_)
    · refine s_run X ok_X5_readArguments 14 1 (pc' := 89) (vs' := [some (.ref p0), some (.ref p1), some (.ref p2)]) (st' := [.ref p0]) rfl ?_
      refine s_getR X fl_X5_15 t0_ (dk okd_X5_readArguments 14 rfl) (fun a27 (t28 : tT C a27 13) => ?_)
      refine s_run X ok_X5_readArguments 15 1 (pc' := 93) (vs' := [some (.ref p0), some (.ref p1), some (.ref p2)]) (st' := [.ref p0, .ref a27]) rfl ?_
      refine s_getI X fl_X5_35 t0_ (dk okd_X5_readArguments 15 rfl) (fun v29 => ?_)
      refine s_run X ok_X5_readArguments 16 3 (pc' := 100) (vs' := [some (.ref p0), some (.ref p1), some (.ref p2)]) (st' := [.int 15, .int 0, .ref p1, .int v29, .ref a27]) rfl ?_
      refine s_callV (b := p1) (As := [.int 0, .int 15]) (rest := [.int v29, .ref a27]) X E mv_X5_96 (c_X9_readNumber S p1 0 15) rfl (ta1 t1_) rfl (by decide) t1_ rfl rfl (Nat.le_of_ble_eq_true rfl) (Nat.le_of_ble_eq_true rfl) (Nat.le_of_ble_eq_true rfl) (dk okd_X5_readArguments 16 rfl) (st' := fun o30 => [.int o30.1, .int v29, .ref a27]) (fun _ => rfl) (fun o30 => ?_)
      refine s_iast X t28 (dk okd_X5_readArguments 17 rfl) (fun S31 => ?_)
      refine s_run X ok_X5_readArguments 19 1 (pc' := 105) (vs' := [some (.ref p0), some (.ref p1), some (.ref p2)]) (st' := [.ref p0]) rfl ?_
      refine s_getR X fl_X5_18 t0_ (dk okd_X5_readArguments 18 rfl) (fun a32 (t33 : tT C a32 13) => ?_)
      refine s_run X ok_X5_readArguments 20 1 (pc' := 109) (vs' := [some (.ref p0), some (.ref p1), some (.ref p2)]) (st' := [.ref p0, .ref a32]) rfl ?_
      refine s_getI X fl_X5_35 t0_ (dk okd_X5_readArguments 19 rfl) (fun v34 => ?_)
      refine s_run X ok_X5_readArguments 21 3 (pc' := 116) (vs' := [some (.ref p0), some (.ref p1), some (.ref p2)]) (st' := [.int 29, .int 0, .ref p1, .int v34, .ref a32]) rfl ?_
      refine s_callV (b := p1) (As := [.int 0, .int 29]) (rest := [.int v34, .ref a32]) X E mv_X5_96 (c_X9_readNumber S31 p1 0 29) rfl (ta1 t1_) rfl (by decide) t1_ rfl rfl (Nat.le_of_ble_eq_true rfl) (Nat.le_of_ble_eq_true rfl) (Nat.le_of_ble_eq_true rfl) (dk okd_X5_readArguments 20 rfl) (st' := fun o35 => [.int o35.1, .int v34, .ref a32]) (fun _ => rfl) (fun o35 => ?_)
      refine s_iast X t33 (dk okd_X5_readArguments 21 rfl) (fun S36 => ?_)
      refine s_run X ok_X5_readArguments 24 1 (pc' := 121) (vs' := [some (.ref p0), some (.ref p1), some (.ref p2)]) (st' := [.ref p0]) rfl ?_
      refine s_getR X fl_X5_21 t0_ (dk okd_X5_readArguments 22 rfl) (fun a37 (t38 : tT C a37 13) => ?_)
      refine s_run X ok_X5_readArguments 25 1 (pc' := 125) (vs' := [some (.ref p0), some (.ref p1), some (.ref p2)]) (st' := [.ref p0, .ref a37]) rfl ?_
      refine s_getI X fl_X5_35 t0_ (dk okd_X5_readArguments 23 rfl) (fun v39 => ?_)
      refine s_run X ok_X5_readArguments 26 3 (pc' := 132) (vs' := [some (.ref p0), some (.ref p1), some (.ref p2)]) (st' := [.int 29, .int 0, .ref p1, .int v39, .ref a37]) rfl ?_
      refine s_callV (b := p1) (As := [.int 0, .int 29]) (rest := [.int v39, .ref a37]) X E mv_X5_96 (c_X9_readNumber S36 p1 0 29) rfl (ta1 t1_) rfl (by decide) t1_ rfl rfl (Nat.le_of_ble_eq_true rfl) (Nat.le_of_ble_eq_true rfl) (Nat.le_of_ble_eq_true rfl) (dk okd_X5_readArguments 24 rfl) (st' := fun o40 => [.int o40.1, .int v39, .ref a37]) (fun _ => rfl) (fun o40 => ?_)
      refine s_iast X t38 (dk okd_X5_readArguments 25 rfl) (fun S41 => ?_)
      refine s_run X ok_X5_readArguments 29 1 (pc' := 137) (vs' := [some (.ref p0), some (.ref p1), some (.ref p2)]) (st' := [.ref p0]) rfl ?_
      refine s_getR X fl_X5_31 t0_ (dk okd_X5_readArguments 26 rfl) (fun a42 (t43 : tT C a42 14) => ?_)
      refine s_run X ok_X5_readArguments 30 1 (pc' := 141) (vs' := [some (.ref p0), some (.ref p1), some (.ref p2)]) (st' := [.ref p0, .ref a42]) rfl ?_
      refine s_getI X fl_X5_35 t0_ (dk okd_X5_readArguments 27 rfl) (fun v44 => ?_)
      refine s_run X ok_X5_readArguments 31 2 (pc' := 146) (vs' := [some (.ref p0), some (.ref p1), some (.ref p2)]) (st' := [.int 1, .ref p1, .int v44, .ref a42]) rfl ?_
      refine s_ldc X ci_X5_100 (dk okd_X5_readArguments 28 rfl) ?_
      refine s_callV (b := p1) (As := [.int 1, .int 100000]) (rest := [.int v44, .ref a42]) X E mv_X5_96 (c_X9_readNumber S41 p1 1 100000) rfl (ta1 t1_) rfl (by decide) t1_ rfl rfl (Nat.le_of_ble_eq_true rfl) (Nat.le_of_ble_eq_true rfl) (Nat.le_of_ble_eq_true rfl) (dk okd_X5_readArguments 29 rfl) (st' := fun o45 => [.int o45.1, .int v44, .ref a42]) (fun _ => rfl) (fun o45 => ?_)
      refine s_run X ok_X5_readArguments 33 1 (pc' := 152) (vs' := [some (.ref p0), some (.ref p1), some (.ref p2)]) (st' := [.long (Int32.toInt64 o45.1), .int v44, .ref a42]) rfl ?_
      refine s_ldc2 X cl_X5_101 (dk okd_X5_readArguments 30 rfl) ?_
      refine s_run X ok_X5_readArguments 34 1 (pc' := 156) (vs' := [some (.ref p0), some (.ref p1), some (.ref p2)]) (st' := [.long ((Int32.toInt64 o45.1) * 100), .int v44, .ref a42]) rfl ?_
      refine s_last X t43 (dk okd_X5_readArguments 31 rfl) (fun S46 => ?_)
      refine s_run X ok_X5_readArguments 35 1 (pc' := 269) (vs' := [some (.ref p0), some (.ref p1), some (.ref p2)]) (st' := []) rfl ?_
      exact s_vret X hr (dk okd_X5_readArguments 60 rfl) rfl rfl
    refine s_tabc (c := 2) (tgt := 160) X (dk okd_X5_readArguments 3 rfl) (by decide) (by decide) rfl (by decide) ?_ (fun n2 => ?_)
    · exact h6
    refine s_tabc (c := 3) (tgt := 160) X (dk okd_X5_readArguments 3 rfl) (by decide) (by decide) rfl (by decide) ?_ (fun n3 => ?_)
    · exact h6
    refine s_tabc (c := 4) (tgt := 199) X (dk okd_X5_readArguments 3 rfl) (by decide) (by decide) rfl (by decide) ?_ (fun n4 => ?_)
    · refine s_run X ok_X5_readArguments 48 1 (pc' := 200) (vs' := [some (.ref p0), some (.ref p1), some (.ref p2)]) (st' := [.ref p0]) rfl ?_
      refine s_getR X fl_X5_31 t0_ (dk okd_X5_readArguments 42 rfl) (fun a47 (t48 : tT C a47 14) => ?_)
      refine s_run X ok_X5_readArguments 49 1 (pc' := 204) (vs' := [some (.ref p0), some (.ref p1), some (.ref p2)]) (st' := [.ref p0, .ref a47]) rfl ?_
      refine s_getI X fl_X5_35 t0_ (dk okd_X5_readArguments 43 rfl) (fun v49 => ?_)
      refine s_run X ok_X5_readArguments 50 2 (pc' := 209) (vs' := [some (.ref p0), some (.ref p1), some (.ref p2)]) (st' := [.int 1, .ref p1, .int v49, .ref a47]) rfl ?_
      refine s_ldc X ci_X5_107 (dk okd_X5_readArguments 44 rfl) ?_
      refine s_callV (b := p1) (As := [.int 1, .int 999999]) (rest := [.int v49, .ref a47]) X E mv_X5_96 (c_X9_readNumber S p1 1 999999) rfl (ta1 t1_) rfl (by decide) t1_ rfl rfl (Nat.le_of_ble_eq_true rfl) (Nat.le_of_ble_eq_true rfl) (Nat.le_of_ble_eq_true rfl) (dk okd_X5_readArguments 45 rfl) (st' := fun o50 => [.int o50.1, .int v49, .ref a47]) (fun _ => rfl) (fun o50 => ?_)
      refine s_run X ok_X5_readArguments 52 1 (pc' := 215) (vs' := [some (.ref p0), some (.ref p1), some (.ref p2)]) (st' := [.long (Int32.toInt64 o50.1), .int v49, .ref a47]) rfl ?_
      refine s_ldc2 X cl_X5_101 (dk okd_X5_readArguments 46 rfl) ?_
      refine s_run X ok_X5_readArguments 53 1 (pc' := 219) (vs' := [some (.ref p0), some (.ref p1), some (.ref p2)]) (st' := [.long ((Int32.toInt64 o50.1) * 100), .int v49, .ref a47]) rfl ?_
      refine s_last X t48 (dk okd_X5_readArguments 47 rfl) (fun S51 => ?_)
      refine s_run X ok_X5_readArguments 54 1 (pc' := 269) (vs' := [some (.ref p0), some (.ref p1), some (.ref p2)]) (st' := []) rfl ?_
      exact s_vret X hr (dk okd_X5_readArguments 60 rfl) rfl rfl
    refine s_tabc (c := 5) (tgt := 223) X (dk okd_X5_readArguments 3 rfl) (by decide) (by decide) rfl (by decide) ?_ (fun n5 => ?_)
    · refine s_run X ok_X5_readArguments 55 1 (pc' := 224) (vs' := [some (.ref p0), some (.ref p1), some (.ref p2)]) (st' := [.ref p0]) rfl ?_
      refine s_getR X fl_X5_15 t0_ (dk okd_X5_readArguments 48 rfl) (fun a52 (t53 : tT C a52 13) => ?_)
      refine s_run X ok_X5_readArguments 56 1 (pc' := 228) (vs' := [some (.ref p0), some (.ref p1), some (.ref p2)]) (st' := [.ref p0, .ref a52]) rfl ?_
      refine s_getI X fl_X5_35 t0_ (dk okd_X5_readArguments 49 rfl) (fun v54 => ?_)
      refine s_run X ok_X5_readArguments 57 3 (pc' := 234) (vs' := [some (.ref p0), some (.ref p1), some (.ref p2)]) (st' := [.int 1, .ref p2, .ref p1, .int v54, .ref a52]) rfl ?_
      refine s_callV (b := p1) (As := [.ref p2, .int 1]) (rest := [.int v54, .ref a52]) X E mv_X5_103 (c_X9_readName S p1 p2 1) rfl (ta2 t1_ t2_) rfl (by decide) t1_ rfl rfl (Nat.le_of_ble_eq_true rfl) (Nat.le_of_ble_eq_true rfl) (Nat.le_of_ble_eq_true rfl) (dk okd_X5_readArguments 50 rfl) (st' := fun o55 => [.int o55.1, .int v54, .ref a52]) (fun _ => rfl) (fun o55 => ?_)
      refine s_iast X t53 (dk okd_X5_readArguments 51 rfl) (fun S56 => ?_)
      refine s_run X ok_X5_readArguments 60 1 (pc' := 239) (vs' := [some (.ref p0), some (.ref p1), some (.ref p2)]) (st' := [.ref p0]) rfl ?_
      refine s_getR X fl_X5_24 t0_ (dk okd_X5_readArguments 52 rfl) (fun a57 (t58 : tT C a57 13) => ?_)
      refine s_run X ok_X5_readArguments 61 1 (pc' := 243) (vs' := [some (.ref p0), some (.ref p1), some (.ref p2)]) (st' := [.ref p0, .ref a57]) rfl ?_
      refine s_getI X fl_X5_35 t0_ (dk okd_X5_readArguments 53 rfl) (fun v59 => ?_)
      refine s_run X ok_X5_readArguments 62 3 (pc' := 249) (vs' := [some (.ref p0), some (.ref p1), some (.ref p2)]) (st' := [.int 4, .int 0, .ref p1, .int v59, .ref a57]) rfl ?_
      refine s_callV (b := p1) (As := [.int 0, .int 4]) (rest := [.int v59, .ref a57]) X E mv_X5_96 (c_X9_readNumber S56 p1 0 4) rfl (ta1 t1_) rfl (by decide) t1_ rfl rfl (Nat.le_of_ble_eq_true rfl) (Nat.le_of_ble_eq_true rfl) (Nat.le_of_ble_eq_true rfl) (dk okd_X5_readArguments 54 rfl) (st' := fun o60 => [.int o60.1, .int v59, .ref a57]) (fun _ => rfl) (fun o60 => ?_)
      refine s_iast X t58 (dk okd_X5_readArguments 55 rfl) (fun S61 => ?_)
      refine s_run X ok_X5_readArguments 65 1 (pc' := 254) (vs' := [some (.ref p0), some (.ref p1), some (.ref p2)]) (st' := [.ref p0]) rfl ?_
      refine s_getR X fl_X5_27 t0_ (dk okd_X5_readArguments 56 rfl) (fun a62 (t63 : tT C a62 15) => ?_)
      refine s_run X ok_X5_readArguments 66 1 (pc' := 258) (vs' := [some (.ref p0), some (.ref p1), some (.ref p2)]) (st' := [.ref p0, .ref a62]) rfl ?_
      refine s_getI X fl_X5_35 t0_ (dk okd_X5_readArguments 57 rfl) (fun v64 => ?_)
      refine s_run X ok_X5_readArguments 67 1 (pc' := 262) (vs' := [some (.ref p0), some (.ref p1), some (.ref p2)]) (st' := [.ref p1, .int v64, .ref a62]) rfl ?_
      refine s_callV (b := p1) (As := []) (rest := [.int v64, .ref a62]) X E mv_X5_108 (c_X9_readYes S61 p1) rfl (ta1 t1_) rfl (by decide) t1_ rfl rfl (Nat.le_of_ble_eq_true rfl) (Nat.le_of_ble_eq_true rfl) (Nat.le_of_ble_eq_true rfl) (dk okd_X5_readArguments 58 rfl) (st' := fun o65 => [.int o65.1, .int v64, .ref a62]) (fun _ => rfl) (fun o65 => ?_)
      refine s_zast X t63 (dk okd_X5_readArguments 59 rfl) (fun S66 => ?_)
      refine s_run X ok_X5_readArguments 68 1 (pc' := 269) (vs' := [some (.ref p0), some (.ref p1), some (.ref p2)]) (st' := []) rfl ?_
      exact s_vret X hr (dk okd_X5_readArguments 60 rfl) rfl rfl
    refine s_tabd (tgt := 269) X (dk okd_X5_readArguments 3 rfl) (tabout (n := 6) (by decide) (fun j hj => match j, hj with | 0, _ => n0 | 1, _ => n1 | 2, _ => n2 | 3, _ => n3 | 4, _ => n4 | 5, _ => n5)) (by decide) ?_
    exact s_vret X hr (dk okd_X5_readArguments 60 rfl) rfl rfl
def tab_X7_readTerm : List En := [(0, 8, 0, 0), (9, 8, 1, 0), (10, 8, 0, 0), (11, 0, 0, 0), (12, 2, 0, 5000), (21, 8, 1, 0), (22, 8, 0, 0), (23, 0, 0, 0), (24, 2, 0, 9999), (30, 31, 0, 0), (34, 25, 0, 0), (38, 41, 170, 0), (41, 8, 0, 0), (50, 8, 1, 0), (51, 8, 0, 0), (52, 0, 0, 0), (53, 2, 0, 500), (62, 41, 170, 0), (65, 8, 0, 0), (74, 8, 1, 0), (75, 8, 0, 0), (76, 0, 0, 0), (77, 2, 0, 2000), (86, 41, 170, 0), (89, 8, 0, 0), (98, 8, 1, 0), (99, 8, 0, 0), (100, 0, 0, 0), (101, 2, 0, 9999), (107, 31, 0, 0), (111, 25, 0, 0), (115, 41, 170, 0), (118, 8, 0, 0), (127, 8, 1, 0), (128, 8, 0, 0), (129, 0, 0, 0), (130, 1, 0, 12), (138, 41, 170, 0), (141, 8, 0, 0), (150, 8, 1, 0), (151, 8, 0, 0), (152, 0, 0, 0), (153, 2, 0, 999), (162, 41, 170, 0), (165, 8, 0, 0), (166, 0, 0, 1)]
theorem ok_X7_readTerm : tab_X7_readTerm.all (okE cX7_readTerm) = true := by decide +kernel
def ed_X7_readTerm : List (Nat × Instr × Nat) := [(1, .ldc 68, 2), (3, .invokevirtual 33, 3), (6, .ifCond .eq 35, 3), (15, .invokevirtual 70, 3), (18, .putfield 74, 3), (27, .invokevirtual 70, 3), (31, .ldc2_w 79, 3), (35, .putfield 81, 3), (42, .ldc 85, 2), (44, .invokevirtual 33, 3), (47, .ifCond .eq 18, 3), (56, .invokevirtual 70, 3), (59, .putfield 87, 3), (66, .ldc 90, 2), (68, .invokevirtual 33, 3), (71, .ifCond .eq 18, 3), (80, .invokevirtual 70, 3), (83, .putfield 92, 3), (90, .ldc 95, 2), (92, .invokevirtual 33, 3), (95, .ifCond .eq 23, 3), (104, .invokevirtual 70, 3), (108, .ldc2_w 79, 3), (112, .putfield 97, 3), (119, .ldc 99, 2), (121, .invokevirtual 33, 3), (124, .ifCond .eq 17, 3), (132, .invokevirtual 70, 3), (135, .putfield 101, 3), (142, .ldc 103, 2), (144, .invokevirtual 33, 3), (147, .ifCond .eq 18, 3), (156, .invokevirtual 70, 3), (159, .putfield 105, 3), (167, .invokevirtual 108, 3), (170, .return_, 1)]
theorem okd_X7_readTerm : ed_X7_readTerm.all (okD cX7_readTerm) = true := by decide +kernel
def f_X7_readTerm (S : St) (p0 : Nat) (p1 : Nat) : Option (St) := cl (f_X9_isWord S p0 4) fun (v1 : Int32) => if v1 = 0 then (cl (f_X9_isWord S p0 5) fun (v2 : Int32) => if v2 = 0 then (cl (f_X9_isWord S p0 6) fun (v3 : Int32) => if v3 = 0 then (cl (f_X9_isWord S p0 7) fun (v4 : Int32) => if v4 = 0 then (cl (f_X9_isWord S p0 8) fun (v5 : Int32) => if v5 = 0 then (cl (f_X9_isWord S p0 9) fun (v6 : Int32) => if v6 = 0 then (cl (f_X9_fail S p0 1) fun (S7 : St) => some S7) else (cl (f_X9_readNumber S p0 0 999) fun (o8 : Int32 × St) => lt (uI o8.2 p1 11 o8.1) fun (S9 : St) => some S9)) else (cl (f_X9_readNumber S p0 0 12) fun (o10 : Int32 × St) => lt (uI o10.2 p1 10 o10.1) fun (S11 : St) => some S11)) else (cl (f_X9_readNumber S p0 0 9999) fun (o12 : Int32 × St) => lt (uJ o12.2 p1 9 ((Int32.toInt64 o12.1) * 100)) fun (S13 : St) => some S13)) else (cl (f_X9_readNumber S p0 0 2000) fun (o14 : Int32 × St) => lt (uI o14.2 p1 8 o14.1) fun (S15 : St) => some S15)) else (cl (f_X9_readNumber S p0 0 500) fun (o16 : Int32 × St) => lt (uI o16.2 p1 7 o16.1) fun (S17 : St) => some S17)) else (cl (f_X9_readNumber S p0 0 5000) fun (o18 : Int32 × St) => lt (uI o18.2 p1 5 o18.1) fun (S19 : St) => cl (f_X9_readNumber S19 p0 0 9999) fun (o20 : Int32 × St) => lt (uJ o20.2 p1 6 ((Int32.toInt64 o20.1) * 100)) fun (S21 : St) => some S21)
set_option maxHeartbeats 4000000 in
set_option maxRecDepth 100000 in
theorem c_X7_readTerm (S : St) (p0 : Nat) (p1 : Nat) : Ct yX7_readTerm cX7_readTerm 2 none 5 107 (fun _ => [.ref p0, .ref p1]) [(p0, 8), (p1, 7)] S (f_X7_readTerm S p0 p1) oV sV := by
  refine Ct_of RX7 rfl (by decide) (fun _ => Nat.le_of_ble_eq_true rfl) 0 (vs := fun _ => [some (.ref p0), some (.ref p1)]) (fun _ => rfl) (fun C X E hr ht => ?_)
  have t0_ : tT C p0 8 := ht (p0, 8) (by simp)
  have t1_ : tT C p1 7 := ht (p1, 7) (by simp)
  show Jd C 2 (QJ C oV sV) S 0 [some (.ref p0), some (.ref p1)] [] (f_X7_readTerm S p0 p1)
  unfold f_X7_readTerm
  refine s_run X ok_X7_readTerm 0 1 (pc' := 1) (vs' := [some (.ref p0), some (.ref p1)]) (st' := [.ref p0]) rfl ?_
  refine s_ldcS X E 4 sr_X7_68 (dk okd_X7_readTerm 0 rfl) ?_
  refine s_callV (b := p0) (As := [.ref (cS C 4)]) (rest := []) X E mv_X7_33 (c_X9_isWord S p0 4) rfl (ta1 t0_) rfl (by decide) t0_ rfl rfl (Nat.le_of_ble_eq_true rfl) (Nat.le_of_ble_eq_true rfl) (Nat.le_of_ble_eq_true rfl) (dk okd_X7_readTerm 1 rfl) (st' := fun v1 => [.int v1]) (fun _ => rfl) (fun v1 => ?_)
  refine s_if_eq (tgt := 41) X (dk okd_X7_readTerm 2 rfl) (by decide) ?_ ?_
  · refine s_run X ok_X7_readTerm 12 1 (pc' := 42) (vs' := [some (.ref p0), some (.ref p1)]) (st' := [.ref p0]) rfl ?_
    refine s_ldcS X E 5 sr_X7_85 (dk okd_X7_readTerm 8 rfl) ?_
    refine s_callV (b := p0) (As := [.ref (cS C 5)]) (rest := []) X E mv_X7_33 (c_X9_isWord S p0 5) rfl (ta1 t0_) rfl (by decide) t0_ rfl rfl (Nat.le_of_ble_eq_true rfl) (Nat.le_of_ble_eq_true rfl) (Nat.le_of_ble_eq_true rfl) (dk okd_X7_readTerm 9 rfl) (st' := fun v2 => [.int v2]) (fun _ => rfl) (fun v2 => ?_)
    refine s_if_eq (tgt := 65) X (dk okd_X7_readTerm 10 rfl) (by decide) ?_ ?_
    · refine s_run X ok_X7_readTerm 18 1 (pc' := 66) (vs' := [some (.ref p0), some (.ref p1)]) (st' := [.ref p0]) rfl ?_
      refine s_ldcS X E 6 sr_X7_90 (dk okd_X7_readTerm 13 rfl) ?_
      refine s_callV (b := p0) (As := [.ref (cS C 6)]) (rest := []) X E mv_X7_33 (c_X9_isWord S p0 6) rfl (ta1 t0_) rfl (by decide) t0_ rfl rfl (Nat.le_of_ble_eq_true rfl) (Nat.le_of_ble_eq_true rfl) (Nat.le_of_ble_eq_true rfl) (dk okd_X7_readTerm 14 rfl) (st' := fun v3 => [.int v3]) (fun _ => rfl) (fun v3 => ?_)
      refine s_if_eq (tgt := 89) X (dk okd_X7_readTerm 15 rfl) (by decide) ?_ ?_
      · refine s_run X ok_X7_readTerm 24 1 (pc' := 90) (vs' := [some (.ref p0), some (.ref p1)]) (st' := [.ref p0]) rfl ?_
        refine s_ldcS X E 7 sr_X7_95 (dk okd_X7_readTerm 18 rfl) ?_
        refine s_callV (b := p0) (As := [.ref (cS C 7)]) (rest := []) X E mv_X7_33 (c_X9_isWord S p0 7) rfl (ta1 t0_) rfl (by decide) t0_ rfl rfl (Nat.le_of_ble_eq_true rfl) (Nat.le_of_ble_eq_true rfl) (Nat.le_of_ble_eq_true rfl) (dk okd_X7_readTerm 19 rfl) (st' := fun v4 => [.int v4]) (fun _ => rfl) (fun v4 => ?_)
        refine s_if_eq (tgt := 118) X (dk okd_X7_readTerm 20 rfl) (by decide) ?_ ?_
        · refine s_run X ok_X7_readTerm 32 1 (pc' := 119) (vs' := [some (.ref p0), some (.ref p1)]) (st' := [.ref p0]) rfl ?_
          refine s_ldcS X E 8 sr_X7_99 (dk okd_X7_readTerm 24 rfl) ?_
          refine s_callV (b := p0) (As := [.ref (cS C 8)]) (rest := []) X E mv_X7_33 (c_X9_isWord S p0 8) rfl (ta1 t0_) rfl (by decide) t0_ rfl rfl (Nat.le_of_ble_eq_true rfl) (Nat.le_of_ble_eq_true rfl) (Nat.le_of_ble_eq_true rfl) (dk okd_X7_readTerm 25 rfl) (st' := fun v5 => [.int v5]) (fun _ => rfl) (fun v5 => ?_)
          refine s_if_eq (tgt := 141) X (dk okd_X7_readTerm 26 rfl) (by decide) ?_ ?_
          · refine s_run X ok_X7_readTerm 38 1 (pc' := 142) (vs' := [some (.ref p0), some (.ref p1)]) (st' := [.ref p0]) rfl ?_
            refine s_ldcS X E 9 sr_X7_103 (dk okd_X7_readTerm 29 rfl) ?_
            refine s_callV (b := p0) (As := [.ref (cS C 9)]) (rest := []) X E mv_X7_33 (c_X9_isWord S p0 9) rfl (ta1 t0_) rfl (by decide) t0_ rfl rfl (Nat.le_of_ble_eq_true rfl) (Nat.le_of_ble_eq_true rfl) (Nat.le_of_ble_eq_true rfl) (dk okd_X7_readTerm 30 rfl) (st' := fun v6 => [.int v6]) (fun _ => rfl) (fun v6 => ?_)
            refine s_if_eq (tgt := 165) X (dk okd_X7_readTerm 31 rfl) (by decide) ?_ ?_
            · refine s_run X ok_X7_readTerm 44 2 (pc' := 167) (vs' := [some (.ref p0), some (.ref p1)]) (st' := [.int 1, .ref p0]) rfl ?_
              refine s_callV (b := p0) (As := [.int 1]) (rest := []) X E mv_X7_108 (c_X9_fail S p0 1) rfl (ta1 t0_) rfl (by decide) t0_ rfl rfl (Nat.le_of_ble_eq_true rfl) (Nat.le_of_ble_eq_true rfl) (Nat.le_of_ble_eq_true rfl) (dk okd_X7_readTerm 34 rfl) (st' := fun S7 => []) (fun _ => rfl) (fun S7 => ?_)
              exact s_vret X hr (dk okd_X7_readTerm 35 rfl) rfl rfl
            · refine s_run X ok_X7_readTerm 39 4 (pc' := 156) (vs' := [some (.ref p0), some (.ref p1)]) (st' := [.int 999, .int 0, .ref p0, .ref p1]) rfl ?_
              refine s_callV (b := p0) (As := [.int 0, .int 999]) (rest := [.ref p1]) X E mv_X7_70 (c_X9_readNumber S p0 0 999) rfl (ta1 t0_) rfl (by decide) t0_ rfl rfl (Nat.le_of_ble_eq_true rfl) (Nat.le_of_ble_eq_true rfl) (Nat.le_of_ble_eq_true rfl) (dk okd_X7_readTerm 32 rfl) (st' := fun o8 => [.int o8.1, .ref p1]) (fun _ => rfl) (fun o8 => ?_)
              refine s_putI X fp_X7_105 t1_ (dk okd_X7_readTerm 33 rfl) (fun S9 => ?_)
              refine s_run X ok_X7_readTerm 43 1 (pc' := 170) (vs' := [some (.ref p0), some (.ref p1)]) (st' := []) rfl ?_
              exact s_vret X hr (dk okd_X7_readTerm 35 rfl) rfl rfl
          · refine s_run X ok_X7_readTerm 33 4 (pc' := 132) (vs' := [some (.ref p0), some (.ref p1)]) (st' := [.int 12, .int 0, .ref p0, .ref p1]) rfl ?_
            refine s_callV (b := p0) (As := [.int 0, .int 12]) (rest := [.ref p1]) X E mv_X7_70 (c_X9_readNumber S p0 0 12) rfl (ta1 t0_) rfl (by decide) t0_ rfl rfl (Nat.le_of_ble_eq_true rfl) (Nat.le_of_ble_eq_true rfl) (Nat.le_of_ble_eq_true rfl) (dk okd_X7_readTerm 27 rfl) (st' := fun o10 => [.int o10.1, .ref p1]) (fun _ => rfl) (fun o10 => ?_)
            refine s_putI X fp_X7_101 t1_ (dk okd_X7_readTerm 28 rfl) (fun S11 => ?_)
            refine s_run X ok_X7_readTerm 37 1 (pc' := 170) (vs' := [some (.ref p0), some (.ref p1)]) (st' := []) rfl ?_
            exact s_vret X hr (dk okd_X7_readTerm 35 rfl) rfl rfl
        · refine s_run X ok_X7_readTerm 25 4 (pc' := 104) (vs' := [some (.ref p0), some (.ref p1)]) (st' := [.int 9999, .int 0, .ref p0, .ref p1]) rfl ?_
          refine s_callV (b := p0) (As := [.int 0, .int 9999]) (rest := [.ref p1]) X E mv_X7_70 (c_X9_readNumber S p0 0 9999) rfl (ta1 t0_) rfl (by decide) t0_ rfl rfl (Nat.le_of_ble_eq_true rfl) (Nat.le_of_ble_eq_true rfl) (Nat.le_of_ble_eq_true rfl) (dk okd_X7_readTerm 21 rfl) (st' := fun o12 => [.int o12.1, .ref p1]) (fun _ => rfl) (fun o12 => ?_)
          refine s_run X ok_X7_readTerm 29 1 (pc' := 108) (vs' := [some (.ref p0), some (.ref p1)]) (st' := [.long (Int32.toInt64 o12.1), .ref p1]) rfl ?_
          refine s_ldc2 X cl_X7_79 (dk okd_X7_readTerm 22 rfl) ?_
          refine s_run X ok_X7_readTerm 30 1 (pc' := 112) (vs' := [some (.ref p0), some (.ref p1)]) (st' := [.long ((Int32.toInt64 o12.1) * 100), .ref p1]) rfl ?_
          refine s_putJ X fp_X7_97 t1_ (dk okd_X7_readTerm 23 rfl) (fun S13 => ?_)
          refine s_run X ok_X7_readTerm 31 1 (pc' := 170) (vs' := [some (.ref p0), some (.ref p1)]) (st' := []) rfl ?_
          exact s_vret X hr (dk okd_X7_readTerm 35 rfl) rfl rfl
      · refine s_run X ok_X7_readTerm 19 4 (pc' := 80) (vs' := [some (.ref p0), some (.ref p1)]) (st' := [.int 2000, .int 0, .ref p0, .ref p1]) rfl ?_
        refine s_callV (b := p0) (As := [.int 0, .int 2000]) (rest := [.ref p1]) X E mv_X7_70 (c_X9_readNumber S p0 0 2000) rfl (ta1 t0_) rfl (by decide) t0_ rfl rfl (Nat.le_of_ble_eq_true rfl) (Nat.le_of_ble_eq_true rfl) (Nat.le_of_ble_eq_true rfl) (dk okd_X7_readTerm 16 rfl) (st' := fun o14 => [.int o14.1, .ref p1]) (fun _ => rfl) (fun o14 => ?_)
        refine s_putI X fp_X7_92 t1_ (dk okd_X7_readTerm 17 rfl) (fun S15 => ?_)
        refine s_run X ok_X7_readTerm 23 1 (pc' := 170) (vs' := [some (.ref p0), some (.ref p1)]) (st' := []) rfl ?_
        exact s_vret X hr (dk okd_X7_readTerm 35 rfl) rfl rfl
    · refine s_run X ok_X7_readTerm 13 4 (pc' := 56) (vs' := [some (.ref p0), some (.ref p1)]) (st' := [.int 500, .int 0, .ref p0, .ref p1]) rfl ?_
      refine s_callV (b := p0) (As := [.int 0, .int 500]) (rest := [.ref p1]) X E mv_X7_70 (c_X9_readNumber S p0 0 500) rfl (ta1 t0_) rfl (by decide) t0_ rfl rfl (Nat.le_of_ble_eq_true rfl) (Nat.le_of_ble_eq_true rfl) (Nat.le_of_ble_eq_true rfl) (dk okd_X7_readTerm 11 rfl) (st' := fun o16 => [.int o16.1, .ref p1]) (fun _ => rfl) (fun o16 => ?_)
      refine s_putI X fp_X7_87 t1_ (dk okd_X7_readTerm 12 rfl) (fun S17 => ?_)
      refine s_run X ok_X7_readTerm 17 1 (pc' := 170) (vs' := [some (.ref p0), some (.ref p1)]) (st' := []) rfl ?_
      exact s_vret X hr (dk okd_X7_readTerm 35 rfl) rfl rfl
  · refine s_run X ok_X7_readTerm 1 4 (pc' := 15) (vs' := [some (.ref p0), some (.ref p1)]) (st' := [.int 5000, .int 0, .ref p0, .ref p1]) rfl ?_
    refine s_callV (b := p0) (As := [.int 0, .int 5000]) (rest := [.ref p1]) X E mv_X7_70 (c_X9_readNumber S p0 0 5000) rfl (ta1 t0_) rfl (by decide) t0_ rfl rfl (Nat.le_of_ble_eq_true rfl) (Nat.le_of_ble_eq_true rfl) (Nat.le_of_ble_eq_true rfl) (dk okd_X7_readTerm 3 rfl) (st' := fun o18 => [.int o18.1, .ref p1]) (fun _ => rfl) (fun o18 => ?_)
    refine s_putI X fp_X7_74 t1_ (dk okd_X7_readTerm 4 rfl) (fun S19 => ?_)
    refine s_run X ok_X7_readTerm 5 4 (pc' := 27) (vs' := [some (.ref p0), some (.ref p1)]) (st' := [.int 9999, .int 0, .ref p0, .ref p1]) rfl ?_
    refine s_callV (b := p0) (As := [.int 0, .int 9999]) (rest := [.ref p1]) X E mv_X7_70 (c_X9_readNumber S19 p0 0 9999) rfl (ta1 t0_) rfl (by decide) t0_ rfl rfl (Nat.le_of_ble_eq_true rfl) (Nat.le_of_ble_eq_true rfl) (Nat.le_of_ble_eq_true rfl) (dk okd_X7_readTerm 5 rfl) (st' := fun o20 => [.int o20.1, .ref p1]) (fun _ => rfl) (fun o20 => ?_)
    refine s_run X ok_X7_readTerm 9 1 (pc' := 31) (vs' := [some (.ref p0), some (.ref p1)]) (st' := [.long (Int32.toInt64 o20.1), .ref p1]) rfl ?_
    refine s_ldc2 X cl_X7_79 (dk okd_X7_readTerm 6 rfl) ?_
    refine s_run X ok_X7_readTerm 10 1 (pc' := 35) (vs' := [some (.ref p0), some (.ref p1)]) (st' := [.long ((Int32.toInt64 o20.1) * 100), .ref p1]) rfl ?_
    refine s_putJ X fp_X7_81 t1_ (dk okd_X7_readTerm 7 rfl) (fun S21 => ?_)
    refine s_run X ok_X7_readTerm 11 1 (pc' := 170) (vs' := [some (.ref p0), some (.ref p1)]) (st' := []) rfl ?_
    exact s_vret X hr (dk okd_X7_readTerm 35 rfl) rfl rfl
def tab_X7_readFranchisee : List En := [(0, 8, 1, 0), (7, 1, 0, 8), (12, 8, 0, 0), (13, 0, 0, 4), (18, 8, 0, 0), (19, 8, 1, 0), (23, 0, 0, 0), (27, 38, 0, 0), (28, 8, 0, 0), (32, 10, 2, 0), (33, 8, 0, 0), (37, 4, 2, 0), (38, 18, 0, 0), (39, 10, 3, 0), (40, 8, 0, 0), (41, 0, 0, 0), (42, 8, 1, 0), (49, 0, 0, 1), (50, 18, 0, 0), (54, 11, 4, 0), (56, 8, 0, 0), (57, 0, 0, 0), (58, 2, 0, 999), (64, 11, 5, 0), (66, 8, 0, 0), (73, 8, 1, 0), (77, 8, 0, 0), (81, 4, 2, 0), (82, 4, 3, 0), (83, 5, 4, 0), (85, 5, 5, 0)]
theorem ok_X7_readFranchisee : tab_X7_readFranchisee.all (okE cX7_readFranchisee) = true := by decide +kernel
def ed_X7_readFranchisee : List (Nat × Instr × Nat) := [(1, .getfield 127, 3), (4, .getfield 131, 3), (9, .if_icmp .lt 9, 3), (14, .invokevirtual 108, 3), (17, .return_, 1), (20, .getfield 127, 3), (24, .invokevirtual 136, 3), (29, .getfield 140, 3), (34, .getfield 143, 3), (43, .getfield 37, 3), (46, .getfield 112, 3), (51, .invokevirtual 70, 3), (61, .invokevirtual 70, 3), (67, .invokevirtual 14, 3), (70, .ifCond .ne 20, 3), (74, .getfield 127, 3), (78, .getfield 146, 3), (87, .invokevirtual 150, 3), (90, .return_, 1)]
theorem okd_X7_readFranchisee : ed_X7_readFranchisee.all (okD cX7_readFranchisee) = true := by decide +kernel
def f_X7_readFranchisee (S : St) (p0 : Nat) (p1 : Nat) : Option (St) := lt (gR S p1 3) fun (a1 : Nat) => lt (gI S a1 8) fun (v3 : Int32) => if v3 < 8 then (lt (gR S p1 3) fun (a4 : Nat) => cl (f_X9_readName S p0 a4 0) fun (o6 : Int32 × St) => lt (gI o6.2 p0 3) fun (v7 : Int32) => lt (gI o6.2 p0 4) fun (v8 : Int32) => lt (v8 - v7) fun (v9 : Int32) => lt (gR o6.2 p1 0) fun (a10 : Nat) => lt (gI o6.2 a10 4) fun (v12 : Int32) => cl (f_X9_readNumber o6.2 p0 0 (v12 - 1)) fun (o13 : Int32 × St) => cl (f_X9_readNumber o13.2 p0 0 999) fun (o14 : Int32 × St) => cl (f_X9_failed o14.2 p0) fun (v15 : Int32) => if v15 = 0 then (lt (gR o14.2 p1 3) fun (a16 : Nat) => lt (gR o14.2 p0 0) fun (a18 : Nat) => cl (f_X2_add o14.2 a16 a18 v7 v9 o13.1 o14.1) fun (S20 : St) => some S20) else (some o14.2)) else (cl (f_X9_fail S p0 4) fun (S21 : St) => some S21)
set_option maxHeartbeats 4000000 in
set_option maxRecDepth 100000 in
theorem c_X7_readFranchisee (S : St) (p0 : Nat) (p1 : Nat) : Ct yX7_readFranchisee cX7_readFranchisee 6 none 7 150 (fun _ => [.ref p0, .ref p1]) [(p0, 8), (p1, 1)] S (f_X7_readFranchisee S p0 p1) oV sV := by
  refine Ct_of RX7 rfl (by decide) (fun _ => Nat.le_of_ble_eq_true rfl) 4 (vs := fun _ => [some (.ref p0), some (.ref p1), none, none, none, none]) (fun _ => rfl) (fun C X E hr ht => ?_)
  have t0_ : tT C p0 8 := ht (p0, 8) (by simp)
  have t1_ : tT C p1 1 := ht (p1, 1) (by simp)
  show Jd C 6 (QJ C oV sV) S 0 [some (.ref p0), some (.ref p1), none, none, none, none] [] (f_X7_readFranchisee S p0 p1)
  unfold f_X7_readFranchisee
  refine s_run X ok_X7_readFranchisee 0 1 (pc' := 1) (vs' := [some (.ref p0), some (.ref p1), none, none, none, none]) (st' := [.ref p1]) rfl ?_
  refine s_getR X fl_X7_127 t1_ (dk okd_X7_readFranchisee 0 rfl) (fun a1 (t2 : tT C a1 2) => ?_)
  refine s_getI X fl_X7_131 t2 (dk okd_X7_readFranchisee 1 rfl) (fun v3 => ?_)
  refine s_run X ok_X7_readFranchisee 1 1 (pc' := 9) (vs' := [some (.ref p0), some (.ref p1), none, none, none, none]) (st' := [.int 8, .int v3]) rfl ?_
  refine s_icmp_lt (tgt := 18) X (dk okd_X7_readFranchisee 2 rfl) (by decide) ?_ ?_
  · refine s_run X ok_X7_readFranchisee 4 2 (pc' := 20) (vs' := [some (.ref p0), some (.ref p1), none, none, none, none]) (st' := [.ref p1, .ref p0]) rfl ?_
    refine s_getR X fl_X7_127 t1_ (dk okd_X7_readFranchisee 5 rfl) (fun a4 (t5 : tT C a4 2) => ?_)
    refine s_run X ok_X7_readFranchisee 6 1 (pc' := 24) (vs' := [some (.ref p0), some (.ref p1), none, none, none, none]) (st' := [.int 0, .ref a4, .ref p0]) rfl ?_
    refine s_callV (b := p0) (As := [.ref a4, .int 0]) (rest := []) X E mv_X7_136 (c_X9_readName S p0 a4 0) rfl (ta2 t0_ t5) rfl (by decide) t0_ rfl rfl (Nat.le_of_ble_eq_true rfl) (Nat.le_of_ble_eq_true rfl) (Nat.le_of_ble_eq_true rfl) (dk okd_X7_readFranchisee 6 rfl) (st' := fun o6 => [.int o6.1]) (fun _ => rfl) (fun o6 => ?_)
    refine s_run X ok_X7_readFranchisee 7 2 (pc' := 29) (vs' := [some (.ref p0), some (.ref p1), none, none, none, none]) (st' := [.ref p0]) rfl ?_
    refine s_getI X fl_X7_140 t0_ (dk okd_X7_readFranchisee 7 rfl) (fun v7 => ?_)
    refine s_run X ok_X7_readFranchisee 9 2 (pc' := 34) (vs' := [some (.ref p0), some (.ref p1), some (.int v7), none, none, none]) (st' := [.ref p0]) rfl ?_
    refine s_getI X fl_X7_143 t0_ (dk okd_X7_readFranchisee 8 rfl) (fun v8 => ?_)
    refine s_run X ok_X7_readFranchisee 11 2 (pc' := 39) (vs' := [some (.ref p0), some (.ref p1), some (.int v7), none, none, none]) (st' := [.int (v8 - v7)]) rfl ?_
    refine s_nmI (fun v9 => ?_)
    refine s_run X ok_X7_readFranchisee 13 4 (pc' := 43) (vs' := [some (.ref p0), some (.ref p1), some (.int v7), some (.int v9), none, none]) (st' := [.ref p1, .int 0, .ref p0]) rfl ?_
    refine s_getR X fl_X7_37 t1_ (dk okd_X7_readFranchisee 9 rfl) (fun a10 (t11 : tT C a10 7) => ?_)
    refine s_getI X fl_X7_112 t11 (dk okd_X7_readFranchisee 10 rfl) (fun v12 => ?_)
    refine s_run X ok_X7_readFranchisee 17 2 (pc' := 51) (vs' := [some (.ref p0), some (.ref p1), some (.int v7), some (.int v9), none, none]) (st' := [.int (v12 - 1), .int 0, .ref p0]) rfl ?_
    refine s_callV (b := p0) (As := [.int 0, .int (v12 - 1)]) (rest := []) X E mv_X7_70 (c_X9_readNumber o6.2 p0 0 (v12 - 1)) rfl (ta1 t0_) rfl (by decide) t0_ rfl rfl (Nat.le_of_ble_eq_true rfl) (Nat.le_of_ble_eq_true rfl) (Nat.le_of_ble_eq_true rfl) (dk okd_X7_readFranchisee 11 rfl) (st' := fun o13 => [.int o13.1]) (fun _ => rfl) (fun o13 => ?_)
    refine s_run X ok_X7_readFranchisee 19 4 (pc' := 61) (vs' := [some (.ref p0), some (.ref p1), some (.int v7), some (.int v9), some (.int o13.1), none]) (st' := [.int 999, .int 0, .ref p0]) rfl ?_
    refine s_callV (b := p0) (As := [.int 0, .int 999]) (rest := []) X E mv_X7_70 (c_X9_readNumber o13.2 p0 0 999) rfl (ta1 t0_) rfl (by decide) t0_ rfl rfl (Nat.le_of_ble_eq_true rfl) (Nat.le_of_ble_eq_true rfl) (Nat.le_of_ble_eq_true rfl) (dk okd_X7_readFranchisee 12 rfl) (st' := fun o14 => [.int o14.1]) (fun _ => rfl) (fun o14 => ?_)
    refine s_run X ok_X7_readFranchisee 23 2 (pc' := 67) (vs' := [some (.ref p0), some (.ref p1), some (.int v7), some (.int v9), some (.int o13.1), some (.int o14.1)]) (st' := [.ref p0]) rfl ?_
    refine s_callV (b := p0) (As := []) (rest := []) X E mv_X7_14 (c_X9_failed o14.2 p0) rfl (ta1 t0_) rfl (by decide) t0_ rfl rfl (Nat.le_of_ble_eq_true rfl) (Nat.le_of_ble_eq_true rfl) (Nat.le_of_ble_eq_true rfl) (dk okd_X7_readFranchisee 13 rfl) (st' := fun v15 => [.int v15]) (fun _ => rfl) (fun v15 => ?_)
    refine s_if_ne (tgt := 90) X (dk okd_X7_readFranchisee 14 rfl) (by decide) ?_ ?_
    · exact s_vret X hr (dk okd_X7_readFranchisee 18 rfl) rfl rfl
    · refine s_run X ok_X7_readFranchisee 25 1 (pc' := 74) (vs' := [some (.ref p0), some (.ref p1), some (.int v7), some (.int v9), some (.int o13.1), some (.int o14.1)]) (st' := [.ref p1]) rfl ?_
      refine s_getR X fl_X7_127 t1_ (dk okd_X7_readFranchisee 15 rfl) (fun a16 (t17 : tT C a16 2) => ?_)
      refine s_run X ok_X7_readFranchisee 26 1 (pc' := 78) (vs' := [some (.ref p0), some (.ref p1), some (.int v7), some (.int v9), some (.int o13.1), some (.int o14.1)]) (st' := [.ref p0, .ref a16]) rfl ?_
      refine s_getR X fl_X7_146 t0_ (dk okd_X7_readFranchisee 16 rfl) (fun a18 (t19 : tT C a18 12) => ?_)
      refine s_run X ok_X7_readFranchisee 27 4 (pc' := 87) (vs' := [some (.ref p0), some (.ref p1), some (.int v7), some (.int v9), some (.int o13.1), some (.int o14.1)]) (st' := [.int o14.1, .int o13.1, .int v9, .int v7, .ref a18, .ref a16]) rfl ?_
      refine s_callV (b := a16) (As := [.ref a18, .int v7, .int v9, .int o13.1, .int o14.1]) (rest := []) X E mv_X7_150 (c_X2_add o14.2 a16 a18 v7 v9 o13.1 o14.1) rfl (ta2 t17 t19) rfl (by decide) t17 rfl rfl (Nat.le_of_ble_eq_true rfl) (Nat.le_of_ble_eq_true rfl) (Nat.le_of_ble_eq_true rfl) (dk okd_X7_readFranchisee 17 rfl) (st' := fun S20 => []) (fun _ => rfl) (fun S20 => ?_)
      exact s_vret X hr (dk okd_X7_readFranchisee 18 rfl) rfl rfl
  · refine s_run X ok_X7_readFranchisee 2 2 (pc' := 14) (vs' := [some (.ref p0), some (.ref p1), none, none, none, none]) (st' := [.int 4, .ref p0]) rfl ?_
    refine s_callV (b := p0) (As := [.int 4]) (rest := []) X E mv_X7_108 (c_X9_fail S p0 4) rfl (ta1 t0_) rfl (by decide) t0_ rfl rfl (Nat.le_of_ble_eq_true rfl) (Nat.le_of_ble_eq_true rfl) (Nat.le_of_ble_eq_true rfl) (dk okd_X7_readFranchisee 3 rfl) (st' := fun S21 => []) (fun _ => rfl) (fun S21 => ?_)
    exact s_vret X hr (dk okd_X7_readFranchisee 4 rfl) rfl rfl
def tab_X7_readArea : List En := [(0, 8, 0, 0), (1, 8, 1, 0), (5, 0, 0, 1), (9, 10, 2, 0), (10, 8, 0, 0), (11, 0, 0, 0), (12, 1, 0, 29), (17, 10, 3, 0), (18, 8, 0, 0), (19, 0, 0, 0), (20, 1, 0, 29), (25, 11, 4, 0), (27, 8, 0, 0), (28, 4, 3, 0), (29, 0, 0, 1), (30, 17, 0, 0), (31, 1, 0, 30), (36, 11, 5, 0), (38, 8, 0, 0), (39, 5, 4, 0), (41, 0, 0, 1), (42, 17, 0, 0), (43, 1, 0, 30), (48, 11, 6, 0), (50, 8, 1, 0), (54, 4, 2, 0), (55, 4, 3, 0), (56, 5, 4, 0), (58, 5, 5, 0), (60, 5, 6, 0), (68, 8, 0, 0), (69, 0, 0, 5), (73, 8, 1, 0), (77, 0, 0, (-1)), (78, 4, 2, 0), (79, 4, 3, 0), (80, 5, 4, 0), (82, 5, 5, 0), (84, 5, 6, 0), (89, 38, 0, 0)]
theorem ok_X7_readArea : tab_X7_readArea.all (okE cX7_readArea) = true := by decide +kernel
def ed_X7_readArea : List (Nat × Instr × Nat) := [(2, .getfield 127, 3), (6, .invokevirtual 136, 3), (14, .invokevirtual 70, 3), (22, .invokevirtual 70, 3), (33, .invokevirtual 70, 3), (45, .invokevirtual 70, 3), (51, .getfield 154, 3), (62, .invokevirtual 158, 3), (65, .ifCond .eq 8, 3), (70, .invokevirtual 108, 3), (74, .getfield 154, 3), (86, .invokevirtual 164, 3), (90, .return_, 1)]
theorem okd_X7_readArea : ed_X7_readArea.all (okD cX7_readArea) = true := by decide +kernel
def f_X7_readArea (S : St) (p0 : Nat) (p1 : Nat) : Option (St) := lt (gR S p1 3) fun (a1 : Nat) => cl (f_X9_readName S p0 a1 1) fun (o3 : Int32 × St) => cl (f_X9_readNumber o3.2 p0 0 29) fun (o4 : Int32 × St) => cl (f_X9_readNumber o4.2 p0 0 29) fun (o5 : Int32 × St) => cl (f_X9_readNumber o5.2 p0 (o4.1 + 1) 30) fun (o6 : Int32 × St) => cl (f_X9_readNumber o6.2 p0 (o5.1 + 1) 30) fun (o7 : Int32 × St) => lt (gR o7.2 p1 1) fun (a8 : Nat) => cl (f_X3_anyOfOthers o7.2 a8 o3.1 o4.1 o5.1 o6.1 o7.1) fun (v10 : Int32) => jn (κ := St → Option (St)) (fun S11 => lt (gR S11 p1 1) fun (a14 : Nat) => cl (f_X3_move S11 a14 (-1) o3.1 o4.1 o5.1 o6.1 o7.1) fun (o16 : Int32 × St) => some o16.2) fun k12 => if v10 = 0 then (k12 o7.2) else (cl (f_X9_fail o7.2 p0 5) fun (S17 : St) => k12 S17)
set_option maxHeartbeats 4000000 in
set_option maxRecDepth 100000 in
theorem c_X7_readArea (S : St) (p0 : Nat) (p1 : Nat) : Ct yX7_readArea cX7_readArea 7 none 7 150 (fun _ => [.ref p0, .ref p1]) [(p0, 8), (p1, 1)] S (f_X7_readArea S p0 p1) oV sV := by
  refine Ct_of RX7 rfl (by decide) (fun _ => Nat.le_of_ble_eq_true rfl) 5 (vs := fun _ => [some (.ref p0), some (.ref p1), none, none, none, none, none]) (fun _ => rfl) (fun C X E hr ht => ?_)
  have t0_ : tT C p0 8 := ht (p0, 8) (by simp)
  have t1_ : tT C p1 1 := ht (p1, 1) (by simp)
  show Jd C 7 (QJ C oV sV) S 0 [some (.ref p0), some (.ref p1), none, none, none, none, none] [] (f_X7_readArea S p0 p1)
  unfold f_X7_readArea
  refine s_run X ok_X7_readArea 0 2 (pc' := 2) (vs' := [some (.ref p0), some (.ref p1), none, none, none, none, none]) (st' := [.ref p1, .ref p0]) rfl ?_
  refine s_getR X fl_X7_127 t1_ (dk okd_X7_readArea 0 rfl) (fun a1 (t2 : tT C a1 2) => ?_)
  refine s_run X ok_X7_readArea 2 1 (pc' := 6) (vs' := [some (.ref p0), some (.ref p1), none, none, none, none, none]) (st' := [.int 1, .ref a1, .ref p0]) rfl ?_
  refine s_callV (b := p0) (As := [.ref a1, .int 1]) (rest := []) X E mv_X7_136 (c_X9_readName S p0 a1 1) rfl (ta2 t0_ t2) rfl (by decide) t0_ rfl rfl (Nat.le_of_ble_eq_true rfl) (Nat.le_of_ble_eq_true rfl) (Nat.le_of_ble_eq_true rfl) (dk okd_X7_readArea 1 rfl) (st' := fun o3 => [.int o3.1]) (fun _ => rfl) (fun o3 => ?_)
  refine s_run X ok_X7_readArea 3 4 (pc' := 14) (vs' := [some (.ref p0), some (.ref p1), some (.int o3.1), none, none, none, none]) (st' := [.int 29, .int 0, .ref p0]) rfl ?_
  refine s_callV (b := p0) (As := [.int 0, .int 29]) (rest := []) X E mv_X7_70 (c_X9_readNumber o3.2 p0 0 29) rfl (ta1 t0_) rfl (by decide) t0_ rfl rfl (Nat.le_of_ble_eq_true rfl) (Nat.le_of_ble_eq_true rfl) (Nat.le_of_ble_eq_true rfl) (dk okd_X7_readArea 2 rfl) (st' := fun o4 => [.int o4.1]) (fun _ => rfl) (fun o4 => ?_)
  refine s_run X ok_X7_readArea 7 4 (pc' := 22) (vs' := [some (.ref p0), some (.ref p1), some (.int o3.1), some (.int o4.1), none, none, none]) (st' := [.int 29, .int 0, .ref p0]) rfl ?_
  refine s_callV (b := p0) (As := [.int 0, .int 29]) (rest := []) X E mv_X7_70 (c_X9_readNumber o4.2 p0 0 29) rfl (ta1 t0_) rfl (by decide) t0_ rfl rfl (Nat.le_of_ble_eq_true rfl) (Nat.le_of_ble_eq_true rfl) (Nat.le_of_ble_eq_true rfl) (dk okd_X7_readArea 3 rfl) (st' := fun o5 => [.int o5.1]) (fun _ => rfl) (fun o5 => ?_)
  refine s_run X ok_X7_readArea 11 6 (pc' := 33) (vs' := [some (.ref p0), some (.ref p1), some (.int o3.1), some (.int o4.1), some (.int o5.1), none, none]) (st' := [.int 30, .int (o4.1 + 1), .ref p0]) rfl ?_
  refine s_callV (b := p0) (As := [.int (o4.1 + 1), .int 30]) (rest := []) X E mv_X7_70 (c_X9_readNumber o5.2 p0 (o4.1 + 1) 30) rfl (ta1 t0_) rfl (by decide) t0_ rfl rfl (Nat.le_of_ble_eq_true rfl) (Nat.le_of_ble_eq_true rfl) (Nat.le_of_ble_eq_true rfl) (dk okd_X7_readArea 4 rfl) (st' := fun o6 => [.int o6.1]) (fun _ => rfl) (fun o6 => ?_)
  refine s_run X ok_X7_readArea 17 6 (pc' := 45) (vs' := [some (.ref p0), some (.ref p1), some (.int o3.1), some (.int o4.1), some (.int o5.1), some (.int o6.1), none]) (st' := [.int 30, .int (o5.1 + 1), .ref p0]) rfl ?_
  refine s_callV (b := p0) (As := [.int (o5.1 + 1), .int 30]) (rest := []) X E mv_X7_70 (c_X9_readNumber o6.2 p0 (o5.1 + 1) 30) rfl (ta1 t0_) rfl (by decide) t0_ rfl rfl (Nat.le_of_ble_eq_true rfl) (Nat.le_of_ble_eq_true rfl) (Nat.le_of_ble_eq_true rfl) (dk okd_X7_readArea 5 rfl) (st' := fun o7 => [.int o7.1]) (fun _ => rfl) (fun o7 => ?_)
  refine s_run X ok_X7_readArea 23 2 (pc' := 51) (vs' := [some (.ref p0), some (.ref p1), some (.int o3.1), some (.int o4.1), some (.int o5.1), some (.int o6.1), some (.int o7.1)]) (st' := [.ref p1]) rfl ?_
  refine s_getR X fl_X7_154 t1_ (dk okd_X7_readArea 6 rfl) (fun a8 (t9 : tT C a8 3) => ?_)
  refine s_run X ok_X7_readArea 25 5 (pc' := 62) (vs' := [some (.ref p0), some (.ref p1), some (.int o3.1), some (.int o4.1), some (.int o5.1), some (.int o6.1), some (.int o7.1)]) (st' := [.int o7.1, .int o6.1, .int o5.1, .int o4.1, .int o3.1, .ref a8]) rfl ?_
  refine s_callV (b := a8) (As := [.int o3.1, .int o4.1, .int o5.1, .int o6.1, .int o7.1]) (rest := []) X E mv_X7_158 (c_X3_anyOfOthers o7.2 a8 o3.1 o4.1 o5.1 o6.1 o7.1) rfl (ta1 t9) rfl (by decide) t9 rfl rfl (Nat.le_of_ble_eq_true rfl) (Nat.le_of_ble_eq_true rfl) (Nat.le_of_ble_eq_true rfl) (dk okd_X7_readArea 7 rfl) (st' := fun v10 => [.int v10]) (fun _ => rfl) (fun v10 => ?_)
  refine s_jn (κ := St → Option (St)) (fun k12 => ∀ (S11 : St), Jd C 7 (QJ C oV sV) S11 73 [none, some (.ref p1), some (.int o3.1), some (.int o4.1), some (.int o5.1), some (.int o6.1), some (.int o7.1)] [] (k12 S11)) (fun S11 => ?_) (fun k12 h13 => ?_)
  · refine s_run X ok_X7_readArea 32 1 (pc' := 74) (vs' := [none, some (.ref p1), some (.int o3.1), some (.int o4.1), some (.int o5.1), some (.int o6.1), some (.int o7.1)]) (st' := [.ref p1]) rfl ?_
    refine s_getR X fl_X7_154 t1_ (dk okd_X7_readArea 10 rfl) (fun a14 (t15 : tT C a14 3) => ?_)
    refine s_run X ok_X7_readArea 33 6 (pc' := 86) (vs' := [none, some (.ref p1), some (.int o3.1), some (.int o4.1), some (.int o5.1), some (.int o6.1), some (.int o7.1)]) (st' := [.int o7.1, .int o6.1, .int o5.1, .int o4.1, .int o3.1, .int (-1), .ref a14]) rfl ?_
    refine s_callV (b := a14) (As := [.int (-1), .int o3.1, .int o4.1, .int o5.1, .int o6.1, .int o7.1]) (rest := []) X E mv_X7_164 (c_X3_move S11 a14 (-1) o3.1 o4.1 o5.1 o6.1 o7.1) rfl (ta1 t15) rfl (by decide) t15 rfl rfl (Nat.le_of_ble_eq_true rfl) (Nat.le_of_ble_eq_true rfl) (Nat.le_of_ble_eq_true rfl) (dk okd_X7_readArea 11 rfl) (st' := fun o16 => [.int o16.1]) (fun _ => rfl) (fun o16 => ?_)
    refine s_run X ok_X7_readArea 39 1 (pc' := 90) (vs' := [none, some (.ref p1), some (.int o3.1), some (.int o4.1), some (.int o5.1), some (.int o6.1), some (.int o7.1)]) (st' := []) rfl ?_
    exact s_vret X hr (dk okd_X7_readArea 12 rfl) rfl rfl
  · refine s_if_eq (tgt := 73) X (dk okd_X7_readArea 8 rfl) (by decide) ?_ ?_
    · exact s_less [false, true, true, true, true, true, true] rfl (h13 o7.2)
    · refine s_run X ok_X7_readArea 30 2 (pc' := 70) (vs' := [some (.ref p0), some (.ref p1), some (.int o3.1), some (.int o4.1), some (.int o5.1), some (.int o6.1), some (.int o7.1)]) (st' := [.int 5, .ref p0]) rfl ?_
      refine s_callV (b := p0) (As := [.int 5]) (rest := []) X E mv_X7_108 (c_X9_fail o7.2 p0 5) rfl (ta1 t0_) rfl (by decide) t0_ rfl rfl (Nat.le_of_ble_eq_true rfl) (Nat.le_of_ble_eq_true rfl) (Nat.le_of_ble_eq_true rfl) (dk okd_X7_readArea 9 rfl) (st' := fun S17 => []) (fun _ => rfl) (fun S17 => ?_)
      exact s_less [false, true, true, true, true, true, true] rfl (h13 S17)
def tab_X7_readOutlet : List En := [(0, 8, 1, 0), (7, 1, 0, 16), (12, 8, 0, 0), (13, 0, 0, 4), (18, 8, 0, 0), (19, 8, 1, 0), (23, 0, 0, 1), (27, 10, 2, 0), (28, 8, 0, 0), (29, 0, 0, 0), (30, 1, 0, 29), (35, 10, 3, 0), (36, 8, 0, 0), (37, 0, 0, 0), (38, 1, 0, 29), (43, 11, 4, 0), (45, 8, 1, 0), (46, 4, 2, 0), (47, 4, 3, 0), (48, 5, 4, 0), (56, 8, 0, 0), (57, 0, 0, 5), (61, 8, 1, 0), (65, 4, 2, 0), (66, 4, 3, 0), (67, 5, 4, 0), (72, 38, 0, 0)]
theorem ok_X7_readOutlet : tab_X7_readOutlet.all (okE cX7_readOutlet) = true := by decide +kernel
def ed_X7_readOutlet : List (Nat × Instr × Nat) := [(1, .getfield 168, 3), (4, .getfield 172, 3), (9, .if_icmp .lt 9, 3), (14, .invokevirtual 108, 3), (17, .return_, 1), (20, .getfield 127, 3), (24, .invokevirtual 136, 3), (32, .invokevirtual 70, 3), (40, .invokevirtual 70, 3), (50, .invokevirtual 175, 3), (53, .ifCond .ne 8, 3), (58, .invokevirtual 108, 3), (62, .getfield 168, 3), (69, .invokevirtual 179, 3), (73, .return_, 1)]
theorem okd_X7_readOutlet : ed_X7_readOutlet.all (okD cX7_readOutlet) = true := by decide +kernel
def f_X7_readOutlet (S : St) (p0 : Nat) (p1 : Nat) : Option (St) := lt (gR S p1 2) fun (a1 : Nat) => lt (gI S a1 4) fun (v3 : Int32) => if v3 < 16 then (lt (gR S p1 3) fun (a4 : Nat) => cl (f_X9_readName S p0 a4 1) fun (o6 : Int32 × St) => cl (f_X9_readNumber o6.2 p0 0 29) fun (o7 : Int32 × St) => cl (f_X9_readNumber o7.2 p0 0 29) fun (o8 : Int32 × St) => cl (f_X1_hasFreeCell o8.2 p1 o6.1 o7.1 o8.1) fun (v9 : Int32) => jn (κ := St → Option (St)) (fun S10 => lt (gR S10 p1 2) fun (a13 : Nat) => cl (f_X6_add S10 a13 o6.1 o7.1 o8.1) fun (o15 : Int32 × St) => some o15.2) fun k11 => if v9 = 0 then (cl (f_X9_fail o8.2 p0 5) fun (S16 : St) => k11 S16) else (k11 o8.2)) else (cl (f_X9_fail S p0 4) fun (S17 : St) => some S17)
set_option maxHeartbeats 4000000 in
set_option maxRecDepth 100000 in
theorem c_X7_readOutlet (S : St) (p0 : Nat) (p1 : Nat) : Ct yX7_readOutlet cX7_readOutlet 5 none 7 150 (fun _ => [.ref p0, .ref p1]) [(p0, 8), (p1, 1)] S (f_X7_readOutlet S p0 p1) oV sV := by
  refine Ct_of RX7 rfl (by decide) (fun _ => Nat.le_of_ble_eq_true rfl) 3 (vs := fun _ => [some (.ref p0), some (.ref p1), none, none, none]) (fun _ => rfl) (fun C X E hr ht => ?_)
  have t0_ : tT C p0 8 := ht (p0, 8) (by simp)
  have t1_ : tT C p1 1 := ht (p1, 1) (by simp)
  show Jd C 5 (QJ C oV sV) S 0 [some (.ref p0), some (.ref p1), none, none, none] [] (f_X7_readOutlet S p0 p1)
  unfold f_X7_readOutlet
  refine s_run X ok_X7_readOutlet 0 1 (pc' := 1) (vs' := [some (.ref p0), some (.ref p1), none, none, none]) (st' := [.ref p1]) rfl ?_
  refine s_getR X fl_X7_168 t1_ (dk okd_X7_readOutlet 0 rfl) (fun a1 (t2 : tT C a1 6) => ?_)
  refine s_getI X fl_X7_172 t2 (dk okd_X7_readOutlet 1 rfl) (fun v3 => ?_)
  refine s_run X ok_X7_readOutlet 1 1 (pc' := 9) (vs' := [some (.ref p0), some (.ref p1), none, none, none]) (st' := [.int 16, .int v3]) rfl ?_
  refine s_icmp_lt (tgt := 18) X (dk okd_X7_readOutlet 2 rfl) (by decide) ?_ ?_
  · refine s_run X ok_X7_readOutlet 4 2 (pc' := 20) (vs' := [some (.ref p0), some (.ref p1), none, none, none]) (st' := [.ref p1, .ref p0]) rfl ?_
    refine s_getR X fl_X7_127 t1_ (dk okd_X7_readOutlet 5 rfl) (fun a4 (t5 : tT C a4 2) => ?_)
    refine s_run X ok_X7_readOutlet 6 1 (pc' := 24) (vs' := [some (.ref p0), some (.ref p1), none, none, none]) (st' := [.int 1, .ref a4, .ref p0]) rfl ?_
    refine s_callV (b := p0) (As := [.ref a4, .int 1]) (rest := []) X E mv_X7_136 (c_X9_readName S p0 a4 1) rfl (ta2 t0_ t5) rfl (by decide) t0_ rfl rfl (Nat.le_of_ble_eq_true rfl) (Nat.le_of_ble_eq_true rfl) (Nat.le_of_ble_eq_true rfl) (dk okd_X7_readOutlet 6 rfl) (st' := fun o6 => [.int o6.1]) (fun _ => rfl) (fun o6 => ?_)
    refine s_run X ok_X7_readOutlet 7 4 (pc' := 32) (vs' := [some (.ref p0), some (.ref p1), some (.int o6.1), none, none]) (st' := [.int 29, .int 0, .ref p0]) rfl ?_
    refine s_callV (b := p0) (As := [.int 0, .int 29]) (rest := []) X E mv_X7_70 (c_X9_readNumber o6.2 p0 0 29) rfl (ta1 t0_) rfl (by decide) t0_ rfl rfl (Nat.le_of_ble_eq_true rfl) (Nat.le_of_ble_eq_true rfl) (Nat.le_of_ble_eq_true rfl) (dk okd_X7_readOutlet 7 rfl) (st' := fun o7 => [.int o7.1]) (fun _ => rfl) (fun o7 => ?_)
    refine s_run X ok_X7_readOutlet 11 4 (pc' := 40) (vs' := [some (.ref p0), some (.ref p1), some (.int o6.1), some (.int o7.1), none]) (st' := [.int 29, .int 0, .ref p0]) rfl ?_
    refine s_callV (b := p0) (As := [.int 0, .int 29]) (rest := []) X E mv_X7_70 (c_X9_readNumber o7.2 p0 0 29) rfl (ta1 t0_) rfl (by decide) t0_ rfl rfl (Nat.le_of_ble_eq_true rfl) (Nat.le_of_ble_eq_true rfl) (Nat.le_of_ble_eq_true rfl) (dk okd_X7_readOutlet 8 rfl) (st' := fun o8 => [.int o8.1]) (fun _ => rfl) (fun o8 => ?_)
    refine s_run X ok_X7_readOutlet 15 5 (pc' := 50) (vs' := [some (.ref p0), some (.ref p1), some (.int o6.1), some (.int o7.1), some (.int o8.1)]) (st' := [.int o8.1, .int o7.1, .int o6.1, .ref p1]) rfl ?_
    refine s_callV (b := p1) (As := [.int o6.1, .int o7.1, .int o8.1]) (rest := []) X E mv_X7_175 (c_X1_hasFreeCell o8.2 p1 o6.1 o7.1 o8.1) rfl (ta1 t1_) rfl (by decide) t1_ rfl rfl (Nat.le_of_ble_eq_true rfl) (Nat.le_of_ble_eq_true rfl) (Nat.le_of_ble_eq_true rfl) (dk okd_X7_readOutlet 9 rfl) (st' := fun v9 => [.int v9]) (fun _ => rfl) (fun v9 => ?_)
    refine s_jn (κ := St → Option (St)) (fun k11 => ∀ (S10 : St), Jd C 5 (QJ C oV sV) S10 61 [none, some (.ref p1), some (.int o6.1), some (.int o7.1), some (.int o8.1)] [] (k11 S10)) (fun S10 => ?_) (fun k11 h12 => ?_)
    · refine s_run X ok_X7_readOutlet 22 1 (pc' := 62) (vs' := [none, some (.ref p1), some (.int o6.1), some (.int o7.1), some (.int o8.1)]) (st' := [.ref p1]) rfl ?_
      refine s_getR X fl_X7_168 t1_ (dk okd_X7_readOutlet 12 rfl) (fun a13 (t14 : tT C a13 6) => ?_)
      refine s_run X ok_X7_readOutlet 23 3 (pc' := 69) (vs' := [none, some (.ref p1), some (.int o6.1), some (.int o7.1), some (.int o8.1)]) (st' := [.int o8.1, .int o7.1, .int o6.1, .ref a13]) rfl ?_
      refine s_callV (b := a13) (As := [.int o6.1, .int o7.1, .int o8.1]) (rest := []) X E mv_X7_179 (c_X6_add S10 a13 o6.1 o7.1 o8.1) rfl (ta1 t14) rfl (by decide) t14 rfl rfl (Nat.le_of_ble_eq_true rfl) (Nat.le_of_ble_eq_true rfl) (Nat.le_of_ble_eq_true rfl) (dk okd_X7_readOutlet 13 rfl) (st' := fun o15 => [.int o15.1]) (fun _ => rfl) (fun o15 => ?_)
      refine s_run X ok_X7_readOutlet 26 1 (pc' := 73) (vs' := [none, some (.ref p1), some (.int o6.1), some (.int o7.1), some (.int o8.1)]) (st' := []) rfl ?_
      exact s_vret X hr (dk okd_X7_readOutlet 14 rfl) rfl rfl
    · refine s_if_ne (tgt := 61) X (dk okd_X7_readOutlet 10 rfl) (by decide) ?_ ?_
      · exact s_less [false, true, true, true, true] rfl (h12 o8.2)
      · refine s_run X ok_X7_readOutlet 20 2 (pc' := 58) (vs' := [some (.ref p0), some (.ref p1), some (.int o6.1), some (.int o7.1), some (.int o8.1)]) (st' := [.int 5, .ref p0]) rfl ?_
        refine s_callV (b := p0) (As := [.int 5]) (rest := []) X E mv_X7_108 (c_X9_fail o8.2 p0 5) rfl (ta1 t0_) rfl (by decide) t0_ rfl rfl (Nat.le_of_ble_eq_true rfl) (Nat.le_of_ble_eq_true rfl) (Nat.le_of_ble_eq_true rfl) (dk okd_X7_readOutlet 11 rfl) (st' := fun S16 => []) (fun _ => rfl) (fun S16 => ?_)
        exact s_less [false, true, true, true, true] rfl (h12 S16)
  · refine s_run X ok_X7_readOutlet 2 2 (pc' := 14) (vs' := [some (.ref p0), some (.ref p1), none, none, none]) (st' := [.int 4, .ref p0]) rfl ?_
    refine s_callV (b := p0) (As := [.int 4]) (rest := []) X E mv_X7_108 (c_X9_fail S p0 4) rfl (ta1 t0_) rfl (by decide) t0_ rfl rfl (Nat.le_of_ble_eq_true rfl) (Nat.le_of_ble_eq_true rfl) (Nat.le_of_ble_eq_true rfl) (dk okd_X7_readOutlet 3 rfl) (st' := fun S17 => []) (fun _ => rfl) (fun S17 => ?_)
    exact s_vret X hr (dk okd_X7_readOutlet 4 rfl) rfl rfl
def tab_X11_formatInvoice : List En := [(0, 8, 0, 0), (1, 4, 1, 0), (5, 8, 0, 0), (6, 4, 2, 0), (10, 8, 0, 0), (14, 8, 0, 0), (21, 4, 1, 0), (22, 4, 2, 0), (26, 8, 0, 0)]
theorem ok_X11_formatInvoice : tab_X11_formatInvoice.all (okE cX11_formatInvoice) = true := by decide +kernel
def ed_X11_formatInvoice : List (Nat × Instr × Nat) := [(2, .invokevirtual 159, 3), (7, .invokevirtual 266, 3), (11, .getfield 19, 3), (15, .getfield 41, 3), (18, .getfield 140, 3), (23, .invokevirtual 388, 3), (27, .getfield 19, 3), (30, .getfield 392, 3), (33, .ireturn, 1)]
theorem okd_X11_formatInvoice : ed_X11_formatInvoice.all (okD cX11_formatInvoice) = true := by decide +kernel
def f_X11_formatInvoice (S : St) (p0 : Nat) (p1 : Int32) (p2 : Int32) : Option ((Int32 × St) ⊕ Nat) := clx (f_X11_requireFranchisee S p0 p1) fun (u1 : Unit) => clx (f_X11_requireClosedMonth S p0 p2) fun (u2 : Unit) => lt (gR S p0 1) fun (a3 : Nat) => lt (gR S p0 5) fun (a5 : Nat) => lt (gR S a5 5) fun (a7 : Nat) => cl (f_X4_write S a3 a7 p1 p2) fun (S9 : St) => lt (gR S9 p0 1) fun (a10 : Nat) => lt (gI S9 a10 1) fun (v12 : Int32) => some (.inl (v12, S9))
set_option maxHeartbeats 4000000 in
set_option maxRecDepth 100000 in
theorem c_X11_formatInvoice (S : St) (p0 : Nat) (p1 : Int32) (p2 : Int32) : CtX yX11_formatInvoice cX11_formatInvoice 3 (some .int) 7 133 (fun _ => [.ref p0, .int p1, .int p2]) [(p0, 10)] S (f_X11_formatInvoice S p0 p1 p2) oIS sS := by
  refine CtX_of RX11 rfl (by decide) (fun _ => Nat.le_of_ble_eq_true rfl) 0 (vs := fun _ => [some (.ref p0), some (.int p1), some (.int p2)]) (fun _ => rfl) (fun C X E hr tx ht => ?_)
  have t0_ : tT C p0 10 := ht (p0, 10) (by simp)
  show Jd C 3 (QX C oIS sS S) S 0 [some (.ref p0), some (.int p1), some (.int p2)] [] (f_X11_formatInvoice S p0 p1 p2)
  unfold f_X11_formatInvoice
  refine s_run X ok_X11_formatInvoice 0 2 (pc' := 2) (vs' := [some (.ref p0), some (.int p1), some (.int p2)]) (st' := [.int p1, .ref p0]) rfl ?_
  refine s_callVX (b := p0) (As := [.int p1]) (rest := []) X E tx mv_X11_159 (c_X11_requireFranchisee S p0 p1) rfl (ta1 t0_) rfl (by decide) t0_ rfl rfl (Nat.le_of_ble_eq_true rfl) (Nat.le_of_ble_eq_true rfl) (Nat.le_of_ble_eq_true rfl) (dk okd_X11_formatInvoice 0 rfl) (st' := fun u1 => []) (fun _ => rfl) (fun u1 => ?_)
  refine s_run X ok_X11_formatInvoice 2 2 (pc' := 7) (vs' := [some (.ref p0), some (.int p1), some (.int p2)]) (st' := [.int p2, .ref p0]) rfl ?_
  refine s_callVX (b := p0) (As := [.int p2]) (rest := []) X E tx mv_X11_266 (c_X11_requireClosedMonth S p0 p2) rfl (ta1 t0_) rfl (by decide) t0_ rfl rfl (Nat.le_of_ble_eq_true rfl) (Nat.le_of_ble_eq_true rfl) (Nat.le_of_ble_eq_true rfl) (dk okd_X11_formatInvoice 1 rfl) (st' := fun u2 => []) (fun _ => rfl) (fun u2 => ?_)
  refine s_run X ok_X11_formatInvoice 4 1 (pc' := 11) (vs' := [some (.ref p0), some (.int p1), some (.int p2)]) (st' := [.ref p0]) rfl ?_
  refine s_getR X fl_X11_19 t0_ (dk okd_X11_formatInvoice 2 rfl) (fun a3 (t4 : tT C a3 4) => ?_)
  refine s_run X ok_X11_formatInvoice 5 1 (pc' := 15) (vs' := [some (.ref p0), some (.int p1), some (.int p2)]) (st' := [.ref p0, .ref a3]) rfl ?_
  refine s_getR X fl_X11_41 t0_ (dk okd_X11_formatInvoice 3 rfl) (fun a5 (t6 : tT C a5 1) => ?_)
  refine s_getR X fl_X11_140 t6 (dk okd_X11_formatInvoice 4 rfl) (fun a7 (t8 : tT C a7 0) => ?_)
  refine s_run X ok_X11_formatInvoice 6 2 (pc' := 23) (vs' := [some (.ref p0), some (.int p1), some (.int p2)]) (st' := [.int p2, .int p1, .ref a7, .ref a3]) rfl ?_
  refine s_callV (b := a3) (As := [.ref a7, .int p1, .int p2]) (rest := []) X E mv_X11_388 (c_X4_write S a3 a7 p1 p2) rfl (ta2 t4 t8) rfl (by decide) t4 rfl rfl (Nat.le_of_ble_eq_true rfl) (Nat.le_of_ble_eq_true rfl) (Nat.le_of_ble_eq_true rfl) (dk okd_X11_formatInvoice 5 rfl) (st' := fun S9 => []) (fun _ => rfl) (fun S9 => ?_)
  refine s_run X ok_X11_formatInvoice 8 1 (pc' := 27) (vs' := [some (.ref p0), some (.int p1), some (.int p2)]) (st' := [.ref p0]) rfl ?_
  refine s_getR X fl_X11_19 t0_ (dk okd_X11_formatInvoice 6 rfl) (fun a10 (t11 : tT C a10 4) => ?_)
  refine s_getI X fl_X11_392 t11 (dk okd_X11_formatInvoice 7 rfl) (fun v12 => ?_)
  exact s_iretX X hr (dk okd_X11_formatInvoice 8 rfl) rfl rfl
def tab_X5_readEntry : List En := [(0, 8, 1, 0), (4, 10, 3, 0), (5, 4, 3, 0), (6, 0, 0, (-1)), (10, 8, 1, 0), (11, 0, 0, 1), (15, 41, 65, 0), (18, 8, 0, 0), (22, 1, 0, 40), (27, 8, 1, 0), (28, 0, 0, 4), (32, 41, 65, 0), (35, 8, 0, 0), (39, 8, 0, 0), (43, 4, 3, 0), (45, 8, 0, 0), (46, 8, 1, 0), (47, 8, 2, 0), (51, 8, 1, 0), (55, 8, 0, 0), (56, 36, 0, 0), (60, 0, 0, 1), (61, 17, 0, 0)]
theorem ok_X5_readEntry : tab_X5_readEntry.all (okE cX5_readEntry) = true := by decide +kernel
def ed_X5_readEntry : List (Nat × Instr × Nat) := [(1, .invokestatic 64, 3), (7, .if_icmp .ne 11, 3), (12, .invokevirtual 68, 3), (19, .getfield 35, 3), (24, .if_icmp .lt 11, 3), (29, .invokevirtual 68, 3), (36, .getfield 9, 3), (40, .getfield 35, 3), (44, .iastore, 1), (48, .invokevirtual 72, 3), (52, .invokevirtual 75, 3), (57, .getfield 35, 3), (62, .putfield 35, 3), (65, .return_, 1)]
theorem okd_X5_readEntry : ed_X5_readEntry.all (okD cX5_readEntry) = true := by decide +kernel
def f_X5_readEntry (S : St) (p0 : Nat) (p1 : Nat) (p2 : Nat) : Option (St) := cl (f_X5_kindOfWord S p1) fun (v1 : Int32) => if v1 = (-1) then (cl (f_X9_fail S p1 1) fun (S12 : St) => some S12) else (lt (gI S p0 7) fun (v2 : Int32) => if v2 < 40 then (lt (gR S p0 0) fun (a3 : Nat) => lt (gI S p0 7) fun (v5 : Int32) => stI S a3 v5 v1 fun (S6 : St) => cl (f_X5_readArguments S6 p0 p1 p2) fun (S7 : St) => cl (f_X9_endStatement S7 p1) fun (S8 : St) => lt (gI S8 p0 7) fun (v9 : Int32) => lt (uI S8 p0 7 (v9 + 1)) fun (S10 : St) => some S10) else (cl (f_X9_fail S p1 4) fun (S11 : St) => some S11))
set_option maxHeartbeats 4000000 in
set_option maxRecDepth 100000 in
theorem c_X5_readEntry (S : St) (p0 : Nat) (p1 : Nat) (p2 : Nat) : Ct yX5_readEntry cX5_readEntry 4 none 8 172 (fun _ => [.ref p0, .ref p1, .ref p2]) [(p0, 5), (p1, 8), (p2, 2)] S (f_X5_readEntry S p0 p1 p2) oV sV := by
  refine Ct_of RX5 rfl (by decide) (fun _ => Nat.le_of_ble_eq_true rfl) 1 (vs := fun _ => [some (.ref p0), some (.ref p1), some (.ref p2), none]) (fun _ => rfl) (fun C X E hr ht => ?_)
  have t0_ : tT C p0 5 := ht (p0, 5) (by simp)
  have t1_ : tT C p1 8 := ht (p1, 8) (by simp)
  have t2_ : tT C p2 2 := ht (p2, 2) (by simp)
  show Jd C 4 (QJ C oV sV) S 0 [some (.ref p0), some (.ref p1), some (.ref p2), none] [] (f_X5_readEntry S p0 p1 p2)
  unfold f_X5_readEntry
  refine s_run X ok_X5_readEntry 0 1 (pc' := 1) (vs' := [some (.ref p0), some (.ref p1), some (.ref p2), none]) (st' := [.ref p1]) rfl ?_
  refine s_callS (As := [.ref p1]) (rest := []) X E ms_X5_64 (c_X5_kindOfWord S p1) rfl (ta1 t1_) rfl rfl (Nat.le_of_ble_eq_true rfl) (Nat.le_of_ble_eq_true rfl) (Nat.le_of_ble_eq_true rfl) (dk okd_X5_readEntry 0 rfl) (st' := fun v1 => [.int v1]) (fun _ => rfl) (fun v1 => ?_)
  refine s_run X ok_X5_readEntry 1 3 (pc' := 7) (vs' := [some (.ref p0), some (.ref p1), some (.ref p2), some (.int v1)]) (st' := [.int (-1), .int v1]) rfl ?_
  refine s_icmp_ne (tgt := 18) X (dk okd_X5_readEntry 1 rfl) (by decide) ?_ ?_
  · refine s_run X ok_X5_readEntry 7 1 (pc' := 19) (vs' := [some (.ref p0), some (.ref p1), some (.ref p2), some (.int v1)]) (st' := [.ref p0]) rfl ?_
    refine s_getI X fl_X5_35 t0_ (dk okd_X5_readEntry 3 rfl) (fun v2 => ?_)
    refine s_run X ok_X5_readEntry 8 1 (pc' := 24) (vs' := [some (.ref p0), some (.ref p1), some (.ref p2), some (.int v1)]) (st' := [.int 40, .int v2]) rfl ?_
    refine s_icmp_lt (tgt := 35) X (dk okd_X5_readEntry 4 rfl) (by decide) ?_ ?_
    · refine s_run X ok_X5_readEntry 12 1 (pc' := 36) (vs' := [some (.ref p0), some (.ref p1), some (.ref p2), some (.int v1)]) (st' := [.ref p0]) rfl ?_
      refine s_getR X fl_X5_9 t0_ (dk okd_X5_readEntry 6 rfl) (fun a3 (t4 : tT C a3 13) => ?_)
      refine s_run X ok_X5_readEntry 13 1 (pc' := 40) (vs' := [some (.ref p0), some (.ref p1), some (.ref p2), some (.int v1)]) (st' := [.ref p0, .ref a3]) rfl ?_
      refine s_getI X fl_X5_35 t0_ (dk okd_X5_readEntry 7 rfl) (fun v5 => ?_)
      refine s_run X ok_X5_readEntry 14 1 (pc' := 44) (vs' := [some (.ref p0), some (.ref p1), some (.ref p2), some (.int v1)]) (st' := [.int v1, .int v5, .ref a3]) rfl ?_
      refine s_iast X t4 (dk okd_X5_readEntry 8 rfl) (fun S6 => ?_)
      refine s_run X ok_X5_readEntry 15 3 (pc' := 48) (vs' := [some (.ref p0), some (.ref p1), some (.ref p2), some (.int v1)]) (st' := [.ref p2, .ref p1, .ref p0]) rfl ?_
      refine s_callV (b := p0) (As := [.ref p1, .ref p2]) (rest := []) X E mv_X5_72 (c_X5_readArguments S6 p0 p1 p2) rfl (ta3 t0_ t1_ t2_) rfl (by decide) t0_ rfl rfl (Nat.le_of_ble_eq_true rfl) (Nat.le_of_ble_eq_true rfl) (Nat.le_of_ble_eq_true rfl) (dk okd_X5_readEntry 9 rfl) (st' := fun S7 => []) (fun _ => rfl) (fun S7 => ?_)
      refine s_run X ok_X5_readEntry 18 1 (pc' := 52) (vs' := [some (.ref p0), some (.ref p1), some (.ref p2), some (.int v1)]) (st' := [.ref p1]) rfl ?_
      refine s_callV (b := p1) (As := []) (rest := []) X E mv_X5_75 (c_X9_endStatement S7 p1) rfl (ta1 t1_) rfl (by decide) t1_ rfl rfl (Nat.le_of_ble_eq_true rfl) (Nat.le_of_ble_eq_true rfl) (Nat.le_of_ble_eq_true rfl) (dk okd_X5_readEntry 10 rfl) (st' := fun S8 => []) (fun _ => rfl) (fun S8 => ?_)
      refine s_run X ok_X5_readEntry 19 2 (pc' := 57) (vs' := [some (.ref p0), some (.ref p1), some (.ref p2), some (.int v1)]) (st' := [.ref p0, .ref p0]) rfl ?_
      refine s_getI X fl_X5_35 t0_ (dk okd_X5_readEntry 11 rfl) (fun v9 => ?_)
      refine s_run X ok_X5_readEntry 21 2 (pc' := 62) (vs' := [some (.ref p0), some (.ref p1), some (.ref p2), some (.int v1)]) (st' := [.int (v9 + 1), .ref p0]) rfl ?_
      refine s_putI X fp_X5_35 t0_ (dk okd_X5_readEntry 12 rfl) (fun S10 => ?_)
      exact s_vret X hr (dk okd_X5_readEntry 13 rfl) rfl rfl
    · refine s_run X ok_X5_readEntry 9 2 (pc' := 29) (vs' := [some (.ref p0), some (.ref p1), some (.ref p2), some (.int v1)]) (st' := [.int 4, .ref p1]) rfl ?_
      refine s_callV (b := p1) (As := [.int 4]) (rest := []) X E mv_X5_68 (c_X9_fail S p1 4) rfl (ta1 t1_) rfl (by decide) t1_ rfl rfl (Nat.le_of_ble_eq_true rfl) (Nat.le_of_ble_eq_true rfl) (Nat.le_of_ble_eq_true rfl) (dk okd_X5_readEntry 5 rfl) (st' := fun S11 => []) (fun _ => rfl) (fun S11 => ?_)
      refine s_run X ok_X5_readEntry 11 1 (pc' := 65) (vs' := [some (.ref p0), some (.ref p1), some (.ref p2), some (.int v1)]) (st' := []) rfl ?_
      exact s_vret X hr (dk okd_X5_readEntry 13 rfl) rfl rfl
  · refine s_run X ok_X5_readEntry 4 2 (pc' := 12) (vs' := [some (.ref p0), some (.ref p1), some (.ref p2), some (.int v1)]) (st' := [.int 1, .ref p1]) rfl ?_
    refine s_callV (b := p1) (As := [.int 1]) (rest := []) X E mv_X5_68 (c_X9_fail S p1 1) rfl (ta1 t1_) rfl (by decide) t1_ rfl rfl (Nat.le_of_ble_eq_true rfl) (Nat.le_of_ble_eq_true rfl) (Nat.le_of_ble_eq_true rfl) (dk okd_X5_readEntry 2 rfl) (st' := fun S12 => []) (fun _ => rfl) (fun S12 => ?_)
    refine s_run X ok_X5_readEntry 6 1 (pc' := 65) (vs' := [some (.ref p0), some (.ref p1), some (.ref p2), some (.int v1)]) (st' := []) rfl ?_
    exact s_vret X hr (dk okd_X5_readEntry 13 rfl) rfl rfl
def tab_X7_readStatement : List En := [(0, 8, 0, 0), (9, 8, 0, 0), (10, 8, 1, 0), (17, 41, 79, 0), (20, 8, 0, 0), (29, 8, 0, 0), (30, 8, 1, 0), (34, 41, 79, 0), (37, 8, 0, 0), (46, 8, 0, 0), (47, 8, 1, 0), (51, 41, 79, 0), (54, 8, 0, 0), (63, 8, 0, 0), (64, 8, 1, 0), (68, 41, 79, 0), (71, 8, 0, 0), (72, 8, 1, 0), (79, 8, 0, 0)]
theorem ok_X7_readStatement : tab_X7_readStatement.all (okE cX7_readStatement) = true := by decide +kernel
def ed_X7_readStatement : List (Nat × Instr × Nat) := [(1, .ldc 31, 2), (3, .invokevirtual 33, 3), (6, .ifCond .eq 14, 3), (11, .getfield 37, 3), (14, .invokestatic 43, 3), (21, .ldc 47, 2), (23, .invokevirtual 33, 3), (26, .ifCond .eq 11, 3), (31, .invokestatic 49, 3), (38, .ldc 52, 2), (40, .invokevirtual 33, 3), (43, .ifCond .eq 11, 3), (48, .invokestatic 54, 3), (55, .ldc 57, 2), (57, .invokevirtual 33, 3), (60, .ifCond .eq 11, 3), (65, .invokestatic 59, 3), (73, .getfield 37, 3), (76, .invokestatic 62, 3), (80, .invokevirtual 65, 3), (83, .return_, 1)]
theorem okd_X7_readStatement : ed_X7_readStatement.all (okD cX7_readStatement) = true := by decide +kernel
def f_X7_readStatement (S : St) (p0 : Nat) (p1 : Nat) : Option (St) := cl (f_X9_isWord S p0 0) fun (v1 : Int32) => jn (κ := St → Option (St)) (fun S2 => cl (f_X9_endStatement S2 p0) fun (S5 : St) => some S5) fun k3 => if v1 = 0 then (cl (f_X9_isWord S p0 1) fun (v6 : Int32) => if v6 = 0 then (cl (f_X9_isWord S p0 2) fun (v7 : Int32) => if v7 = 0 then (cl (f_X9_isWord S p0 3) fun (v8 : Int32) => if v8 = 0 then (lt (gR S p1 0) fun (a9 : Nat) => cl (f_X7_readTerm S p0 a9) fun (S11 : St) => k3 S11) else (cl (f_X7_readOutlet S p0 p1) fun (S12 : St) => k3 S12)) else (cl (f_X7_readArea S p0 p1) fun (S13 : St) => k3 S13)) else (cl (f_X7_readFranchisee S p0 p1) fun (S14 : St) => k3 S14)) else (lt (gR S p1 0) fun (a15 : Nat) => cl (f_X7_readPlan S p0 a15) fun (S17 : St) => k3 S17)
set_option maxHeartbeats 4000000 in
set_option maxRecDepth 100000 in
theorem c_X7_readStatement (S : St) (p0 : Nat) (p1 : Nat) : Ct yX7_readStatement cX7_readStatement 2 none 8 176 (fun _ => [.ref p0, .ref p1]) [(p0, 8), (p1, 1)] S (f_X7_readStatement S p0 p1) oV sV := by
  refine Ct_of RX7 rfl (by decide) (fun _ => Nat.le_of_ble_eq_true rfl) 0 (vs := fun _ => [some (.ref p0), some (.ref p1)]) (fun _ => rfl) (fun C X E hr ht => ?_)
  have t0_ : tT C p0 8 := ht (p0, 8) (by simp)
  have t1_ : tT C p1 1 := ht (p1, 1) (by simp)
  show Jd C 2 (QJ C oV sV) S 0 [some (.ref p0), some (.ref p1)] [] (f_X7_readStatement S p0 p1)
  unfold f_X7_readStatement
  refine s_run X ok_X7_readStatement 0 1 (pc' := 1) (vs' := [some (.ref p0), some (.ref p1)]) (st' := [.ref p0]) rfl ?_
  refine s_ldcS X E 0 sr_X7_31 (dk okd_X7_readStatement 0 rfl) ?_
  refine s_callV (b := p0) (As := [.ref (cS C 0)]) (rest := []) X E mv_X7_33 (c_X9_isWord S p0 0) rfl (ta1 t0_) rfl (by decide) t0_ rfl rfl (Nat.le_of_ble_eq_true rfl) (Nat.le_of_ble_eq_true rfl) (Nat.le_of_ble_eq_true rfl) (dk okd_X7_readStatement 1 rfl) (st' := fun v1 => [.int v1]) (fun _ => rfl) (fun v1 => ?_)
  refine s_jn (κ := St → Option (St)) (fun k3 => ∀ (S2 : St), Jd C 2 (QJ C oV sV) S2 79 [some (.ref p0), none] [] (k3 S2)) (fun S2 => ?_) (fun k3 h4 => ?_)
  · refine s_run X ok_X7_readStatement 18 1 (pc' := 80) (vs' := [some (.ref p0), none]) (st' := [.ref p0]) rfl ?_
    refine s_callV (b := p0) (As := []) (rest := []) X E mv_X7_65 (c_X9_endStatement S2 p0) rfl (ta1 t0_) rfl (by decide) t0_ rfl rfl (Nat.le_of_ble_eq_true rfl) (Nat.le_of_ble_eq_true rfl) (Nat.le_of_ble_eq_true rfl) (dk okd_X7_readStatement 19 rfl) (st' := fun S5 => []) (fun _ => rfl) (fun S5 => ?_)
    exact s_vret X hr (dk okd_X7_readStatement 20 rfl) rfl rfl
  · refine s_if_eq (tgt := 20) X (dk okd_X7_readStatement 2 rfl) (by decide) ?_ ?_
    · refine s_run X ok_X7_readStatement 4 1 (pc' := 21) (vs' := [some (.ref p0), some (.ref p1)]) (st' := [.ref p0]) rfl ?_
      refine s_ldcS X E 1 sr_X7_47 (dk okd_X7_readStatement 5 rfl) ?_
      refine s_callV (b := p0) (As := [.ref (cS C 1)]) (rest := []) X E mv_X7_33 (c_X9_isWord S p0 1) rfl (ta1 t0_) rfl (by decide) t0_ rfl rfl (Nat.le_of_ble_eq_true rfl) (Nat.le_of_ble_eq_true rfl) (Nat.le_of_ble_eq_true rfl) (dk okd_X7_readStatement 6 rfl) (st' := fun v6 => [.int v6]) (fun _ => rfl) (fun v6 => ?_)
      refine s_if_eq (tgt := 37) X (dk okd_X7_readStatement 7 rfl) (by decide) ?_ ?_
      · refine s_run X ok_X7_readStatement 8 1 (pc' := 38) (vs' := [some (.ref p0), some (.ref p1)]) (st' := [.ref p0]) rfl ?_
        refine s_ldcS X E 2 sr_X7_52 (dk okd_X7_readStatement 9 rfl) ?_
        refine s_callV (b := p0) (As := [.ref (cS C 2)]) (rest := []) X E mv_X7_33 (c_X9_isWord S p0 2) rfl (ta1 t0_) rfl (by decide) t0_ rfl rfl (Nat.le_of_ble_eq_true rfl) (Nat.le_of_ble_eq_true rfl) (Nat.le_of_ble_eq_true rfl) (dk okd_X7_readStatement 10 rfl) (st' := fun v7 => [.int v7]) (fun _ => rfl) (fun v7 => ?_)
        refine s_if_eq (tgt := 54) X (dk okd_X7_readStatement 11 rfl) (by decide) ?_ ?_
        · refine s_run X ok_X7_readStatement 12 1 (pc' := 55) (vs' := [some (.ref p0), some (.ref p1)]) (st' := [.ref p0]) rfl ?_
          refine s_ldcS X E 3 sr_X7_57 (dk okd_X7_readStatement 13 rfl) ?_
          refine s_callV (b := p0) (As := [.ref (cS C 3)]) (rest := []) X E mv_X7_33 (c_X9_isWord S p0 3) rfl (ta1 t0_) rfl (by decide) t0_ rfl rfl (Nat.le_of_ble_eq_true rfl) (Nat.le_of_ble_eq_true rfl) (Nat.le_of_ble_eq_true rfl) (dk okd_X7_readStatement 14 rfl) (st' := fun v8 => [.int v8]) (fun _ => rfl) (fun v8 => ?_)
          refine s_if_eq (tgt := 71) X (dk okd_X7_readStatement 15 rfl) (by decide) ?_ ?_
          · refine s_run X ok_X7_readStatement 16 2 (pc' := 73) (vs' := [some (.ref p0), some (.ref p1)]) (st' := [.ref p1, .ref p0]) rfl ?_
            refine s_getR X fl_X7_37 t1_ (dk okd_X7_readStatement 17 rfl) (fun a9 (t10 : tT C a9 7) => ?_)
            refine s_callS (As := [.ref p0, .ref a9]) (rest := []) X E ms_X7_62 (c_X7_readTerm S p0 a9) rfl (ta2 t0_ t10) rfl rfl (Nat.le_of_ble_eq_true rfl) (Nat.le_of_ble_eq_true rfl) (Nat.le_of_ble_eq_true rfl) (dk okd_X7_readStatement 18 rfl) (st' := fun S11 => []) (fun _ => rfl) (fun S11 => ?_)
            exact s_less [true, false] rfl (h4 S11)
          · refine s_run X ok_X7_readStatement 13 2 (pc' := 65) (vs' := [some (.ref p0), some (.ref p1)]) (st' := [.ref p1, .ref p0]) rfl ?_
            refine s_callS (As := [.ref p0, .ref p1]) (rest := []) X E ms_X7_59 (c_X7_readOutlet S p0 p1) rfl (ta2 t0_ t1_) rfl rfl (Nat.le_of_ble_eq_true rfl) (Nat.le_of_ble_eq_true rfl) (Nat.le_of_ble_eq_true rfl) (dk okd_X7_readStatement 16 rfl) (st' := fun S12 => []) (fun _ => rfl) (fun S12 => ?_)
            refine s_run X ok_X7_readStatement 15 1 (pc' := 79) (vs' := [some (.ref p0), some (.ref p1)]) (st' := []) rfl ?_
            exact s_less [true, false] rfl (h4 S12)
        · refine s_run X ok_X7_readStatement 9 2 (pc' := 48) (vs' := [some (.ref p0), some (.ref p1)]) (st' := [.ref p1, .ref p0]) rfl ?_
          refine s_callS (As := [.ref p0, .ref p1]) (rest := []) X E ms_X7_54 (c_X7_readArea S p0 p1) rfl (ta2 t0_ t1_) rfl rfl (Nat.le_of_ble_eq_true rfl) (Nat.le_of_ble_eq_true rfl) (Nat.le_of_ble_eq_true rfl) (dk okd_X7_readStatement 12 rfl) (st' := fun S13 => []) (fun _ => rfl) (fun S13 => ?_)
          refine s_run X ok_X7_readStatement 11 1 (pc' := 79) (vs' := [some (.ref p0), some (.ref p1)]) (st' := []) rfl ?_
          exact s_less [true, false] rfl (h4 S13)
      · refine s_run X ok_X7_readStatement 5 2 (pc' := 31) (vs' := [some (.ref p0), some (.ref p1)]) (st' := [.ref p1, .ref p0]) rfl ?_
        refine s_callS (As := [.ref p0, .ref p1]) (rest := []) X E ms_X7_49 (c_X7_readFranchisee S p0 p1) rfl (ta2 t0_ t1_) rfl rfl (Nat.le_of_ble_eq_true rfl) (Nat.le_of_ble_eq_true rfl) (Nat.le_of_ble_eq_true rfl) (dk okd_X7_readStatement 8 rfl) (st' := fun S14 => []) (fun _ => rfl) (fun S14 => ?_)
        refine s_run X ok_X7_readStatement 7 1 (pc' := 79) (vs' := [some (.ref p0), some (.ref p1)]) (st' := []) rfl ?_
        exact s_less [true, false] rfl (h4 S14)
    · refine s_run X ok_X7_readStatement 1 2 (pc' := 11) (vs' := [some (.ref p0), some (.ref p1)]) (st' := [.ref p1, .ref p0]) rfl ?_
      refine s_getR X fl_X7_37 t1_ (dk okd_X7_readStatement 3 rfl) (fun a15 (t16 : tT C a15 7) => ?_)
      refine s_callS (As := [.ref p0, .ref a15]) (rest := []) X E ms_X7_43 (c_X7_readPlan S p0 a15) rfl (ta2 t0_ t16) rfl rfl (Nat.le_of_ble_eq_true rfl) (Nat.le_of_ble_eq_true rfl) (Nat.le_of_ble_eq_true rfl) (dk okd_X7_readStatement 4 rfl) (st' := fun S17 => []) (fun _ => rfl) (fun S17 => ?_)
      refine s_run X ok_X7_readStatement 3 1 (pc' := 79) (vs' := [some (.ref p0), some (.ref p1)]) (st' := []) rfl ?_
      exact s_less [true, false] rfl (h4 S17)
def tab_X5_readFrom : List En := [(0, 8, 0, 0), (4, 8, 1, 0), (8, 0, 0, 0), (9, 10, 3, 0), (10, 4, 3, 0), (11, 2, 0, 1500), (17, 8, 1, 0), (24, 8, 1, 0), (28, 8, 1, 0), (36, 8, 0, 0), (37, 8, 1, 0), (38, 8, 2, 0), (42, 16, 3, 1), (45, 41, 10, 0)]
theorem ok_X5_readFrom : tab_X5_readFrom.all (okE cX5_readFrom) = true := by decide +kernel
def ed_X5_readFrom : List (Nat × Instr × Nat) := [(1, .invokevirtual 42, 3), (5, .invokevirtual 45, 3), (14, .if_icmp .gt 34, 3), (18, .invokevirtual 50, 3), (21, .ifCond .ne 27, 3), (25, .invokevirtual 54, 3), (29, .getfield 57, 3), (32, .ifCond .ne 4, 3), (35, .return_, 1), (39, .invokevirtual 60, 3), (48, .return_, 1)]
theorem okd_X5_readFrom : ed_X5_readFrom.all (okD cX5_readFrom) = true := by decide +kernel
def f_X5_readFrom (S : St) (p0 : Nat) (p1 : Nat) (p2 : Nat) : Option (St) := cl (f_X5_clear S p0) fun (S1 : St) => cl (f_X9_begin S1 p1) fun (S2 : St) => lp (κ := Int32 → St → Option (St)) (fun _ _ => none) (fun k5 x3 S4 => if 1500 < x3 then (some S4) else (cl (f_X9_failed S4 p1) fun (v7 : Int32) => if v7 = 0 then (cl (f_X9_advance S4 p1) fun (S8 : St) => lt (gI S8 p1 2) fun (v9 : Int32) => if v9 = 0 then (some S8) else (cl (f_X5_readEntry S8 p0 p1 p2) fun (S10 : St) => k5 (x3 + 1) S10)) else (some S4))) FU 0 S2
set_option maxHeartbeats 4000000 in
set_option maxRecDepth 100000 in
theorem c_X5_readFrom (S : St) (p0 : Nat) (p1 : Nat) (p2 : Nat) : Ct yX5_readFrom cX5_readFrom 4 none 9 195 (fun _ => [.ref p0, .ref p1, .ref p2]) [(p0, 5), (p1, 8), (p2, 2)] S (f_X5_readFrom S p0 p1 p2) oV sV := by
  refine Ct_of RX5 rfl (by decide) (fun _ => Nat.le_of_ble_eq_true rfl) 1 (vs := fun _ => [some (.ref p0), some (.ref p1), some (.ref p2), none]) (fun _ => rfl) (fun C X E hr ht => ?_)
  have t0_ : tT C p0 5 := ht (p0, 5) (by simp)
  have t1_ : tT C p1 8 := ht (p1, 8) (by simp)
  have t2_ : tT C p2 2 := ht (p2, 2) (by simp)
  show Jd C 4 (QJ C oV sV) S 0 [some (.ref p0), some (.ref p1), some (.ref p2), none] [] (f_X5_readFrom S p0 p1 p2)
  unfold f_X5_readFrom
  refine s_run X ok_X5_readFrom 0 1 (pc' := 1) (vs' := [some (.ref p0), some (.ref p1), some (.ref p2), none]) (st' := [.ref p0]) rfl ?_
  refine s_callV (b := p0) (As := []) (rest := []) X E mv_X5_42 (c_X5_clear S p0) rfl (ta1 t0_) rfl (by decide) t0_ rfl rfl (Nat.le_of_ble_eq_true rfl) (Nat.le_of_ble_eq_true rfl) (Nat.le_of_ble_eq_true rfl) (dk okd_X5_readFrom 0 rfl) (st' := fun S1 => []) (fun _ => rfl) (fun S1 => ?_)
  refine s_run X ok_X5_readFrom 1 1 (pc' := 5) (vs' := [some (.ref p0), some (.ref p1), some (.ref p2), none]) (st' := [.ref p1]) rfl ?_
  refine s_callV (b := p1) (As := []) (rest := []) X E mv_X5_45 (c_X9_begin S1 p1) rfl (ta1 t1_) rfl (by decide) t1_ rfl rfl (Nat.le_of_ble_eq_true rfl) (Nat.le_of_ble_eq_true rfl) (Nat.le_of_ble_eq_true rfl) (dk okd_X5_readFrom 1 rfl) (st' := fun S2 => []) (fun _ => rfl) (fun S2 => ?_)
  refine s_run X ok_X5_readFrom 2 2 (pc' := 10) (vs' := [some (.ref p0), some (.ref p1), some (.ref p2), some (.int 0)]) (st' := []) rfl ?_
  refine s_lp (κ := Int32 → St → Option (St)) (fun k5 => ∀ (x3 : Int32) (S4 : St), Jd C 4 (QJ C oV sV) S4 10 [some (.ref p0), some (.ref p1), some (.ref p2), some (.int x3)] [] (k5 x3 S4)) (fun _ _ => s_none) (fun k5 h6 x3 S4 => ?_) FU 0 S2
  refine s_run X ok_X5_readFrom 4 2 (pc' := 14) (vs' := [some (.ref p0), some (.ref p1), some (.ref p2), some (.int x3)]) (st' := [.int 1500, .int x3]) rfl ?_
  refine s_icmp_gt (tgt := 48) X (dk okd_X5_readFrom 2 rfl) (by decide) ?_ ?_
  · exact s_vret X hr (dk okd_X5_readFrom 10 rfl) rfl rfl
  · refine s_run X ok_X5_readFrom 6 1 (pc' := 18) (vs' := [some (.ref p0), some (.ref p1), some (.ref p2), some (.int x3)]) (st' := [.ref p1]) rfl ?_
    refine s_callV (b := p1) (As := []) (rest := []) X E mv_X5_50 (c_X9_failed S4 p1) rfl (ta1 t1_) rfl (by decide) t1_ rfl rfl (Nat.le_of_ble_eq_true rfl) (Nat.le_of_ble_eq_true rfl) (Nat.le_of_ble_eq_true rfl) (dk okd_X5_readFrom 3 rfl) (st' := fun v7 => [.int v7]) (fun _ => rfl) (fun v7 => ?_)
    refine s_if_ne (tgt := 48) X (dk okd_X5_readFrom 4 rfl) (by decide) ?_ ?_
    · exact s_vret X hr (dk okd_X5_readFrom 10 rfl) rfl rfl
    · refine s_run X ok_X5_readFrom 7 1 (pc' := 25) (vs' := [some (.ref p0), some (.ref p1), some (.ref p2), some (.int x3)]) (st' := [.ref p1]) rfl ?_
      refine s_callV (b := p1) (As := []) (rest := []) X E mv_X5_54 (c_X9_advance S4 p1) rfl (ta1 t1_) rfl (by decide) t1_ rfl rfl (Nat.le_of_ble_eq_true rfl) (Nat.le_of_ble_eq_true rfl) (Nat.le_of_ble_eq_true rfl) (dk okd_X5_readFrom 5 rfl) (st' := fun S8 => []) (fun _ => rfl) (fun S8 => ?_)
      refine s_run X ok_X5_readFrom 8 1 (pc' := 29) (vs' := [some (.ref p0), some (.ref p1), some (.ref p2), some (.int x3)]) (st' := [.ref p1]) rfl ?_
      refine s_getI X fl_X5_57 t1_ (dk okd_X5_readFrom 6 rfl) (fun v9 => ?_)
      refine s_if_ne (tgt := 36) X (dk okd_X5_readFrom 7 rfl) (by decide) ?_ ?_
      · refine s_run X ok_X5_readFrom 9 3 (pc' := 39) (vs' := [some (.ref p0), some (.ref p1), some (.ref p2), some (.int x3)]) (st' := [.ref p2, .ref p1, .ref p0]) rfl ?_
        refine s_callV (b := p0) (As := [.ref p1, .ref p2]) (rest := []) X E mv_X5_60 (c_X5_readEntry S8 p0 p1 p2) rfl (ta3 t0_ t1_ t2_) rfl (by decide) t0_ rfl rfl (Nat.le_of_ble_eq_true rfl) (Nat.le_of_ble_eq_true rfl) (Nat.le_of_ble_eq_true rfl) (dk okd_X5_readFrom 9 rfl) (st' := fun S10 => []) (fun _ => rfl) (fun S10 => ?_)
        refine s_run X ok_X5_readFrom 12 2 (pc' := 10) (vs' := [some (.ref p0), some (.ref p1), some (.ref p2), some (.int (x3 + 1))]) (st' := []) rfl ?_
        exact h6 (x3 + 1) S10
      · exact s_vret X hr (dk okd_X5_readFrom 8 rfl) rfl rfl
def tab_X7_read : List En := [(0, 8, 0, 0), (4, 0, 0, 0), (5, 10, 2, 0), (6, 0, 0, 0), (7, 10, 3, 0), (8, 4, 3, 0), (9, 2, 0, 1500), (15, 8, 0, 0), (22, 8, 0, 0), (26, 8, 0, 0), (33, 4, 2, 0), (35, 8, 0, 0), (36, 8, 1, 0), (40, 16, 2, 1), (43, 16, 3, 1), (46, 41, 8, 0), (49, 4, 2, 0)]
theorem ok_X7_read : tab_X7_read.all (okE cX7_read) = true := by decide +kernel
def ed_X7_read : List (Nat × Instr × Nat) := [(1, .invokevirtual 9, 3), (12, .if_icmp .gt 37, 3), (16, .invokevirtual 14, 3), (19, .ifCond .ne 30, 3), (23, .invokevirtual 18, 3), (27, .getfield 21, 3), (30, .ifCond .ne 5, 3), (34, .ireturn, 1), (37, .invokestatic 25, 3), (50, .ireturn, 1)]
theorem okd_X7_read : ed_X7_read.all (okD cX7_read) = true := by decide +kernel
def f_X7_read (S : St) (p0 : Nat) (p1 : Nat) : Option (Int32 × St) := cl (f_X9_begin S p0) fun (S1 : St) => jn (κ := Int32 → St → Option (Int32 × St)) (fun x2 S3 => some (x2, S3)) fun k4 => jn (κ := Int32 → St → Option (Int32 × St)) (fun x6 S7 => some (x6, S7)) fun k8 => lp (κ := Int32 → Int32 → St → Option (Int32 × St)) (fun _ _ _ => none) (fun k13 x10 x11 S12 => if 1500 < x11 then (k4 x10 S12) else (cl (f_X9_failed S12 p0) fun (v15 : Int32) => if v15 = 0 then (cl (f_X9_advance S12 p0) fun (S16 : St) => lt (gI S16 p0 2) fun (v17 : Int32) => if v17 = 0 then (k8 x10 S16) else (cl (f_X7_readStatement S16 p0 p1) fun (S18 : St) => k13 (x10 + 1) (x11 + 1) S18)) else (k4 x10 S12))) FU 0 0 S1
set_option maxHeartbeats 4000000 in
set_option maxRecDepth 100000 in
theorem c_X7_read (S : St) (p0 : Nat) (p1 : Nat) : Ct yX7_read cX7_read 4 (some .int) 9 197 (fun _ => [.ref p0, .ref p1]) [(p0, 8), (p1, 1)] S (f_X7_read S p0 p1) oIS sS := by
  refine Ct_of RX7 rfl (by decide) (fun _ => Nat.le_of_ble_eq_true rfl) 2 (vs := fun _ => [some (.ref p0), some (.ref p1), none, none]) (fun _ => rfl) (fun C X E hr ht => ?_)
  have t0_ : tT C p0 8 := ht (p0, 8) (by simp)
  have t1_ : tT C p1 1 := ht (p1, 1) (by simp)
  show Jd C 4 (QJ C oIS sS) S 0 [some (.ref p0), some (.ref p1), none, none] [] (f_X7_read S p0 p1)
  unfold f_X7_read
  refine s_run X ok_X7_read 0 1 (pc' := 1) (vs' := [some (.ref p0), some (.ref p1), none, none]) (st' := [.ref p0]) rfl ?_
  refine s_callV (b := p0) (As := []) (rest := []) X E mv_X7_9 (c_X9_begin S p0) rfl (ta1 t0_) rfl (by decide) t0_ rfl rfl (Nat.le_of_ble_eq_true rfl) (Nat.le_of_ble_eq_true rfl) (Nat.le_of_ble_eq_true rfl) (dk okd_X7_read 0 rfl) (st' := fun S1 => []) (fun _ => rfl) (fun S1 => ?_)
  refine s_run X ok_X7_read 1 4 (pc' := 8) (vs' := [some (.ref p0), some (.ref p1), some (.int 0), some (.int 0)]) (st' := []) rfl ?_
  refine s_jn (κ := Int32 → St → Option (Int32 × St)) (fun k4 => ∀ (x2 : Int32) (S3 : St), Jd C 4 (QJ C oIS sS) S3 49 [none, none, some (.int x2), none] [] (k4 x2 S3)) (fun x2 S3 => ?_) (fun k4 h5 => ?_)
  · refine s_run X ok_X7_read 16 1 (pc' := 50) (vs' := [none, none, some (.int x2), none]) (st' := [.int x2]) rfl ?_
    exact s_iret X hr (dk okd_X7_read 9 rfl) rfl rfl
  · refine s_jn (κ := Int32 → St → Option (Int32 × St)) (fun k8 => ∀ (x6 : Int32) (S7 : St), Jd C 4 (QJ C oIS sS) S7 33 [none, none, some (.int x6), none] [] (k8 x6 S7)) (fun x6 S7 => ?_) (fun k8 h9 => ?_)
    · refine s_run X ok_X7_read 10 1 (pc' := 34) (vs' := [none, none, some (.int x6), none]) (st' := [.int x6]) rfl ?_
      exact s_iret X hr (dk okd_X7_read 7 rfl) rfl rfl
    · refine s_lp (κ := Int32 → Int32 → St → Option (Int32 × St)) (fun k13 => ∀ (x10 : Int32) (x11 : Int32) (S12 : St), Jd C 4 (QJ C oIS sS) S12 8 [some (.ref p0), some (.ref p1), some (.int x10), some (.int x11)] [] (k13 x10 x11 S12)) (fun _ _ _ => s_none) (fun k13 h14 x10 x11 S12 => ?_) FU 0 0 S1
      refine s_run X ok_X7_read 5 2 (pc' := 12) (vs' := [some (.ref p0), some (.ref p1), some (.int x10), some (.int x11)]) (st' := [.int 1500, .int x11]) rfl ?_
      refine s_icmp_gt (tgt := 49) X (dk okd_X7_read 1 rfl) (by decide) ?_ ?_
      · exact s_less [false, false, true, false] rfl (h5 x10 S12)
      · refine s_run X ok_X7_read 7 1 (pc' := 16) (vs' := [some (.ref p0), some (.ref p1), some (.int x10), some (.int x11)]) (st' := [.ref p0]) rfl ?_
        refine s_callV (b := p0) (As := []) (rest := []) X E mv_X7_14 (c_X9_failed S12 p0) rfl (ta1 t0_) rfl (by decide) t0_ rfl rfl (Nat.le_of_ble_eq_true rfl) (Nat.le_of_ble_eq_true rfl) (Nat.le_of_ble_eq_true rfl) (dk okd_X7_read 2 rfl) (st' := fun v15 => [.int v15]) (fun _ => rfl) (fun v15 => ?_)
        refine s_if_ne (tgt := 49) X (dk okd_X7_read 3 rfl) (by decide) ?_ ?_
        · exact s_less [false, false, true, false] rfl (h5 x10 S12)
        · refine s_run X ok_X7_read 8 1 (pc' := 23) (vs' := [some (.ref p0), some (.ref p1), some (.int x10), some (.int x11)]) (st' := [.ref p0]) rfl ?_
          refine s_callV (b := p0) (As := []) (rest := []) X E mv_X7_18 (c_X9_advance S12 p0) rfl (ta1 t0_) rfl (by decide) t0_ rfl rfl (Nat.le_of_ble_eq_true rfl) (Nat.le_of_ble_eq_true rfl) (Nat.le_of_ble_eq_true rfl) (dk okd_X7_read 4 rfl) (st' := fun S16 => []) (fun _ => rfl) (fun S16 => ?_)
          refine s_run X ok_X7_read 9 1 (pc' := 27) (vs' := [some (.ref p0), some (.ref p1), some (.int x10), some (.int x11)]) (st' := [.ref p0]) rfl ?_
          refine s_getI X fl_X7_21 t0_ (dk okd_X7_read 5 rfl) (fun v17 => ?_)
          refine s_if_ne (tgt := 35) X (dk okd_X7_read 6 rfl) (by decide) ?_ ?_
          · refine s_run X ok_X7_read 11 2 (pc' := 37) (vs' := [some (.ref p0), some (.ref p1), some (.int x10), some (.int x11)]) (st' := [.ref p1, .ref p0]) rfl ?_
            refine s_callS (As := [.ref p0, .ref p1]) (rest := []) X E ms_X7_25 (c_X7_readStatement S16 p0 p1) rfl (ta2 t0_ t1_) rfl rfl (Nat.le_of_ble_eq_true rfl) (Nat.le_of_ble_eq_true rfl) (Nat.le_of_ble_eq_true rfl) (dk okd_X7_read 8 rfl) (st' := fun S18 => []) (fun _ => rfl) (fun S18 => ?_)
            refine s_run X ok_X7_read 13 3 (pc' := 8) (vs' := [some (.ref p0), some (.ref p1), some (.int (x10 + 1)), some (.int (x11 + 1))]) (st' := []) rfl ?_
            exact h14 (x10 + 1) (x11 + 1) S18
          · exact s_less [false, false, true, false] rfl (h9 x10 S16)
def tab_X11_load : List En := [(0, 8, 0, 0), (7, 8, 0, 0), (11, 8, 0, 0), (18, 10, 1, 0), (19, 8, 0, 0), (23, 8, 0, 0), (30, 1, 0, (-4)), (33, 8, 0, 0), (37, 14, 2, 0), (38, 8, 0, 0), (39, 8, 0, 0), (46, 8, 0, 0), (47, 8, 2, 0), (51, 8, 0, 0), (58, 0, 0, 0), (59, 10, 3, 0), (60, 4, 3, 0), (61, 0, 0, 2), (65, 8, 0, 0), (69, 4, 3, 0), (70, 0, 0, 0), (72, 16, 3, 1), (75, 41, 60, 0), (78, 4, 1, 0)]
theorem ok_X11_load : tab_X11_load.all (okE cX11_load) = true := by decide +kernel
def ed_X11_load : List (Nat × Instr × Nat) := [(1, .getfield 48, 3), (4, .invokevirtual 45, 3), (8, .getfield 12, 3), (12, .getfield 48, 3), (15, .invokestatic 75, 3), (20, .invokevirtual 81, 3), (24, .getfield 61, 3), (27, .ifCond .eq 6, 3), (32, .ireturn, 1), (34, .getfield 41, 3), (40, .getfield 48, 3), (43, .putfield 41, 3), (48, .putfield 48, 3), (52, .getfield 54, 3), (55, .invokevirtual 84, 3), (62, .if_icmp .ge 16, 3), (66, .getfield 37, 3), (71, .bastore, 1), (79, .ireturn, 1)]
theorem okd_X11_load : ed_X11_load.all (okD cX11_load) = true := by decide +kernel
def f_X11_load (S : St) (p0 : Nat) : Option (Int32 × St) := lt (gR S p0 6) fun (a1 : Nat) => cl (f_X1_clear S a1) fun (S3 : St) => lt (gR S3 p0 0) fun (a4 : Nat) => lt (gR S3 p0 6) fun (a6 : Nat) => cl (f_X7_read S3 a4 a6) fun (o8 : Int32 × St) => cl (f_X11_finishReading o8.2 p0) fun (S9 : St) => lt (gI S9 p0 9) fun (v10 : Int32) => if v10 = 0 then (lt (gR S9 p0 5) fun (a11 : Nat) => lt (gR S9 p0 6) fun (a13 : Nat) => lt (uR S9 p0 5 a13) fun (S15 : St) => lt (uR S15 p0 6 a11) fun (S16 : St) => lt (gR S16 p0 7) fun (a17 : Nat) => cl (f_X5_clear S16 a17) fun (S19 : St) => jn (κ := St → Option (Int32 × St)) (fun S20 => some (o8.1, S20)) fun k21 => lp (κ := Int32 → St → Option (Int32 × St)) (fun _ _ => none) (fun k25 x23 S24 => if 2 ≤ x23 then (k21 S24) else (lt (gR S24 p0 4) fun (a27 : Nat) => stI S24 a27 x23 (vp_nar .boolean 0) fun (S29 : St) => k25 (x23 + 1) S29)) FU 0 S19) else (some ((-4), S9))
set_option maxHeartbeats 4000000 in
set_option maxRecDepth 100000 in
theorem c_X11_load (S : St) (p0 : Nat) : Ct yX11_load cX11_load 4 (some .int) 10 220 (fun _ => [.ref p0]) [(p0, 10)] S (f_X11_load S p0) oIS sS := by
  refine Ct_of RX11 rfl (by decide) (fun _ => Nat.le_of_ble_eq_true rfl) 3 (vs := fun _ => [some (.ref p0), none, none, none]) (fun _ => rfl) (fun C X E hr ht => ?_)
  have t0_ : tT C p0 10 := ht (p0, 10) (by simp)
  show Jd C 4 (QJ C oIS sS) S 0 [some (.ref p0), none, none, none] [] (f_X11_load S p0)
  unfold f_X11_load
  refine s_run X ok_X11_load 0 1 (pc' := 1) (vs' := [some (.ref p0), none, none, none]) (st' := [.ref p0]) rfl ?_
  refine s_getR X fl_X11_48 t0_ (dk okd_X11_load 0 rfl) (fun a1 (t2 : tT C a1 1) => ?_)
  refine s_callV (b := a1) (As := []) (rest := []) X E mv_X11_45 (c_X1_clear S a1) rfl (ta1 t2) rfl (by decide) t2 rfl rfl (Nat.le_of_ble_eq_true rfl) (Nat.le_of_ble_eq_true rfl) (Nat.le_of_ble_eq_true rfl) (dk okd_X11_load 1 rfl) (st' := fun S3 => []) (fun _ => rfl) (fun S3 => ?_)
  refine s_run X ok_X11_load 1 1 (pc' := 8) (vs' := [some (.ref p0), none, none, none]) (st' := [.ref p0]) rfl ?_
  refine s_getR X fl_X11_12 t0_ (dk okd_X11_load 2 rfl) (fun a4 (t5 : tT C a4 8) => ?_)
  refine s_run X ok_X11_load 2 1 (pc' := 12) (vs' := [some (.ref p0), none, none, none]) (st' := [.ref p0, .ref a4]) rfl ?_
  refine s_getR X fl_X11_48 t0_ (dk okd_X11_load 3 rfl) (fun a6 (t7 : tT C a6 1) => ?_)
  refine s_callS (As := [.ref a4, .ref a6]) (rest := []) X E ms_X11_75 (c_X7_read S3 a4 a6) rfl (ta2 t5 t7) rfl rfl (Nat.le_of_ble_eq_true rfl) (Nat.le_of_ble_eq_true rfl) (Nat.le_of_ble_eq_true rfl) (dk okd_X11_load 4 rfl) (st' := fun o8 => [.int o8.1]) (fun _ => rfl) (fun o8 => ?_)
  refine s_run X ok_X11_load 3 2 (pc' := 20) (vs' := [some (.ref p0), some (.int o8.1), none, none]) (st' := [.ref p0]) rfl ?_
  refine s_callV (b := p0) (As := []) (rest := []) X E mv_X11_81 (c_X11_finishReading o8.2 p0) rfl (ta1 t0_) rfl (by decide) t0_ rfl rfl (Nat.le_of_ble_eq_true rfl) (Nat.le_of_ble_eq_true rfl) (Nat.le_of_ble_eq_true rfl) (dk okd_X11_load 5 rfl) (st' := fun S9 => []) (fun _ => rfl) (fun S9 => ?_)
  refine s_run X ok_X11_load 5 1 (pc' := 24) (vs' := [some (.ref p0), some (.int o8.1), none, none]) (st' := [.ref p0]) rfl ?_
  refine s_getI X fl_X11_61 t0_ (dk okd_X11_load 6 rfl) (fun v10 => ?_)
  refine s_if_eq (tgt := 33) X (dk okd_X11_load 7 rfl) (by decide) ?_ ?_
  · refine s_run X ok_X11_load 7 1 (pc' := 34) (vs' := [some (.ref p0), some (.int o8.1), none, none]) (st' := [.ref p0]) rfl ?_
    refine s_getR X fl_X11_41 t0_ (dk okd_X11_load 9 rfl) (fun a11 (t12 : tT C a11 1) => ?_)
    refine s_run X ok_X11_load 8 3 (pc' := 40) (vs' := [some (.ref p0), some (.int o8.1), some (.ref a11), none]) (st' := [.ref p0, .ref p0]) rfl ?_
    refine s_getR X fl_X11_48 t0_ (dk okd_X11_load 10 rfl) (fun a13 (t14 : tT C a13 1) => ?_)
    refine s_putR X fp_X11_41 t0_ (dk okd_X11_load 11 rfl) t14 (fun S15 => ?_)
    refine s_run X ok_X11_load 11 2 (pc' := 48) (vs' := [some (.ref p0), some (.int o8.1), some (.ref a11), none]) (st' := [.ref a11, .ref p0]) rfl ?_
    refine s_putR X fp_X11_48 t0_ (dk okd_X11_load 12 rfl) t12 (fun S16 => ?_)
    refine s_run X ok_X11_load 13 1 (pc' := 52) (vs' := [some (.ref p0), some (.int o8.1), some (.ref a11), none]) (st' := [.ref p0]) rfl ?_
    refine s_getR X fl_X11_54 t0_ (dk okd_X11_load 13 rfl) (fun a17 (t18 : tT C a17 5) => ?_)
    refine s_callV (b := a17) (As := []) (rest := []) X E mv_X11_84 (c_X5_clear S16 a17) rfl (ta1 t18) rfl (by decide) t18 rfl rfl (Nat.le_of_ble_eq_true rfl) (Nat.le_of_ble_eq_true rfl) (Nat.le_of_ble_eq_true rfl) (dk okd_X11_load 14 rfl) (st' := fun S19 => []) (fun _ => rfl) (fun S19 => ?_)
    refine s_run X ok_X11_load 14 2 (pc' := 60) (vs' := [some (.ref p0), some (.int o8.1), some (.ref a11), some (.int 0)]) (st' := []) rfl ?_
    refine s_jn (κ := St → Option (Int32 × St)) (fun k21 => ∀ (S20 : St), Jd C 4 (QJ C oIS sS) S20 78 [none, some (.int o8.1), none, none] [] (k21 S20)) (fun S20 => ?_) (fun k21 h22 => ?_)
    · refine s_run X ok_X11_load 23 1 (pc' := 79) (vs' := [none, some (.int o8.1), none, none]) (st' := [.int o8.1]) rfl ?_
      exact s_iret X hr (dk okd_X11_load 18 rfl) rfl rfl
    · refine s_less [true, true, false, true] (vs' := [some (.ref p0), some (.int o8.1), none, some (.int 0)]) rfl ?_
      refine s_lp (κ := Int32 → St → Option (Int32 × St)) (fun k25 => ∀ (x23 : Int32) (S24 : St), Jd C 4 (QJ C oIS sS) S24 60 [some (.ref p0), some (.int o8.1), none, some (.int x23)] [] (k25 x23 S24)) (fun _ _ => s_none) (fun k25 h26 x23 S24 => ?_) FU 0 S19
      refine s_run X ok_X11_load 16 2 (pc' := 62) (vs' := [some (.ref p0), some (.int o8.1), none, some (.int x23)]) (st' := [.int 2, .int x23]) rfl ?_
      refine s_icmp_ge (tgt := 78) X (dk okd_X11_load 15 rfl) (by decide) ?_ ?_
      · exact s_less [false, true, false, false] rfl (h22 S24)
      · refine s_run X ok_X11_load 18 1 (pc' := 66) (vs' := [some (.ref p0), some (.int o8.1), none, some (.int x23)]) (st' := [.ref p0]) rfl ?_
        refine s_getR X fl_X11_37 t0_ (dk okd_X11_load 16 rfl) (fun a27 (t28 : tT C a27 15) => ?_)
        refine s_run X ok_X11_load 19 2 (pc' := 71) (vs' := [some (.ref p0), some (.int o8.1), none, some (.int x23)]) (st' := [.int 0, .int x23, .ref a27]) rfl ?_
        refine s_zast X t28 (dk okd_X11_load 17 rfl) (fun S29 => ?_)
        refine s_run X ok_X11_load 21 2 (pc' := 60) (vs' := [some (.ref p0), some (.int o8.1), none, some (.int (x23 + 1))]) (st' := []) rfl ?_
        exact h26 (x23 + 1) S29
  · refine s_run X ok_X11_load 6 1 (pc' := 32) (vs' := [some (.ref p0), some (.int o8.1), none, none]) (st' := [.int (-4)]) rfl ?_
    exact s_iret X hr (dk okd_X11_load 8 rfl) rfl rfl
def tab_X11_loadJournal : List En := [(0, 8, 0, 0), (4, 8, 0, 0), (8, 8, 0, 0), (18, 8, 0, 0), (22, 8, 0, 0), (29, 1, 0, (-4)), (32, 8, 0, 0), (36, 14, 1, 0), (37, 8, 0, 0), (38, 8, 0, 0), (45, 8, 0, 0), (46, 8, 1, 0), (50, 8, 0, 0)]
theorem ok_X11_loadJournal : tab_X11_loadJournal.all (okE cX11_loadJournal) = true := by decide +kernel
def ed_X11_loadJournal : List (Nat × Instr × Nat) := [(1, .getfield 58, 3), (5, .getfield 12, 3), (9, .getfield 41, 3), (12, .getfield 85, 3), (15, .invokevirtual 99, 3), (19, .invokevirtual 81, 3), (23, .getfield 61, 3), (26, .ifCond .eq 6, 3), (31, .ireturn, 1), (33, .getfield 54, 3), (39, .getfield 58, 3), (42, .putfield 54, 3), (47, .putfield 58, 3), (51, .getfield 54, 3), (54, .invokevirtual 103, 3), (57, .ireturn, 1)]
theorem okd_X11_loadJournal : ed_X11_loadJournal.all (okD cX11_loadJournal) = true := by decide +kernel
def f_X11_loadJournal (S : St) (p0 : Nat) : Option (Int32 × St) := lt (gR S p0 8) fun (a1 : Nat) => lt (gR S p0 0) fun (a3 : Nat) => lt (gR S p0 5) fun (a5 : Nat) => lt (gR S a5 3) fun (a7 : Nat) => cl (f_X5_readFrom S a1 a3 a7) fun (S9 : St) => cl (f_X11_finishReading S9 p0) fun (S10 : St) => lt (gI S10 p0 9) fun (v11 : Int32) => if v11 = 0 then (lt (gR S10 p0 7) fun (a12 : Nat) => lt (gR S10 p0 8) fun (a14 : Nat) => lt (uR S10 p0 7 a14) fun (S16 : St) => lt (uR S16 p0 8 a12) fun (S17 : St) => lt (gR S17 p0 7) fun (a18 : Nat) => cl (f_X5_left S17 a18) fun (v20 : Int32) => some (v20, S17)) else (some ((-4), S10))
set_option maxHeartbeats 4000000 in
set_option maxRecDepth 100000 in
theorem c_X11_loadJournal (S : St) (p0 : Nat) : Ct yX11_loadJournal cX11_loadJournal 2 (some .int) 10 218 (fun _ => [.ref p0]) [(p0, 10)] S (f_X11_loadJournal S p0) oIS sS := by
  refine Ct_of RX11 rfl (by decide) (fun _ => Nat.le_of_ble_eq_true rfl) 1 (vs := fun _ => [some (.ref p0), none]) (fun _ => rfl) (fun C X E hr ht => ?_)
  have t0_ : tT C p0 10 := ht (p0, 10) (by simp)
  show Jd C 2 (QJ C oIS sS) S 0 [some (.ref p0), none] [] (f_X11_loadJournal S p0)
  unfold f_X11_loadJournal
  refine s_run X ok_X11_loadJournal 0 1 (pc' := 1) (vs' := [some (.ref p0), none]) (st' := [.ref p0]) rfl ?_
  refine s_getR X fl_X11_58 t0_ (dk okd_X11_loadJournal 0 rfl) (fun a1 (t2 : tT C a1 5) => ?_)
  refine s_run X ok_X11_loadJournal 1 1 (pc' := 5) (vs' := [some (.ref p0), none]) (st' := [.ref p0, .ref a1]) rfl ?_
  refine s_getR X fl_X11_12 t0_ (dk okd_X11_loadJournal 1 rfl) (fun a3 (t4 : tT C a3 8) => ?_)
  refine s_run X ok_X11_loadJournal 2 1 (pc' := 9) (vs' := [some (.ref p0), none]) (st' := [.ref p0, .ref a3, .ref a1]) rfl ?_
  refine s_getR X fl_X11_41 t0_ (dk okd_X11_loadJournal 2 rfl) (fun a5 (t6 : tT C a5 1) => ?_)
  refine s_getR X fl_X11_85 t6 (dk okd_X11_loadJournal 3 rfl) (fun a7 (t8 : tT C a7 2) => ?_)
  refine s_callV (b := a1) (As := [.ref a3, .ref a7]) (rest := []) X E mv_X11_99 (c_X5_readFrom S a1 a3 a7) rfl (ta3 t2 t4 t8) rfl (by decide) t2 rfl rfl (Nat.le_of_ble_eq_true rfl) (Nat.le_of_ble_eq_true rfl) (Nat.le_of_ble_eq_true rfl) (dk okd_X11_loadJournal 4 rfl) (st' := fun S9 => []) (fun _ => rfl) (fun S9 => ?_)
  refine s_run X ok_X11_loadJournal 3 1 (pc' := 19) (vs' := [some (.ref p0), none]) (st' := [.ref p0]) rfl ?_
  refine s_callV (b := p0) (As := []) (rest := []) X E mv_X11_81 (c_X11_finishReading S9 p0) rfl (ta1 t0_) rfl (by decide) t0_ rfl rfl (Nat.le_of_ble_eq_true rfl) (Nat.le_of_ble_eq_true rfl) (Nat.le_of_ble_eq_true rfl) (dk okd_X11_loadJournal 5 rfl) (st' := fun S10 => []) (fun _ => rfl) (fun S10 => ?_)
  refine s_run X ok_X11_loadJournal 4 1 (pc' := 23) (vs' := [some (.ref p0), none]) (st' := [.ref p0]) rfl ?_
  refine s_getI X fl_X11_61 t0_ (dk okd_X11_loadJournal 6 rfl) (fun v11 => ?_)
  refine s_if_eq (tgt := 32) X (dk okd_X11_loadJournal 7 rfl) (by decide) ?_ ?_
  · refine s_run X ok_X11_loadJournal 6 1 (pc' := 33) (vs' := [some (.ref p0), none]) (st' := [.ref p0]) rfl ?_
    refine s_getR X fl_X11_54 t0_ (dk okd_X11_loadJournal 9 rfl) (fun a12 (t13 : tT C a12 5) => ?_)
    refine s_run X ok_X11_loadJournal 7 3 (pc' := 39) (vs' := [some (.ref p0), some (.ref a12)]) (st' := [.ref p0, .ref p0]) rfl ?_
    refine s_getR X fl_X11_58 t0_ (dk okd_X11_loadJournal 10 rfl) (fun a14 (t15 : tT C a14 5) => ?_)
    refine s_putR X fp_X11_54 t0_ (dk okd_X11_loadJournal 11 rfl) t15 (fun S16 => ?_)
    refine s_run X ok_X11_loadJournal 10 2 (pc' := 47) (vs' := [some (.ref p0), some (.ref a12)]) (st' := [.ref a12, .ref p0]) rfl ?_
    refine s_putR X fp_X11_58 t0_ (dk okd_X11_loadJournal 12 rfl) t13 (fun S17 => ?_)
    refine s_run X ok_X11_loadJournal 12 1 (pc' := 51) (vs' := [some (.ref p0), some (.ref a12)]) (st' := [.ref p0]) rfl ?_
    refine s_getR X fl_X11_54 t0_ (dk okd_X11_loadJournal 13 rfl) (fun a18 (t19 : tT C a18 5) => ?_)
    refine s_callV (b := a18) (As := []) (rest := []) X E mv_X11_103 (c_X5_left S17 a18) rfl (ta1 t19) rfl (by decide) t19 rfl rfl (Nat.le_of_ble_eq_true rfl) (Nat.le_of_ble_eq_true rfl) (Nat.le_of_ble_eq_true rfl) (dk okd_X11_loadJournal 14 rfl) (st' := fun v20 => [.int v20]) (fun _ => rfl) (fun v20 => ?_)
    exact s_iret X hr (dk okd_X11_loadJournal 15 rfl) rfl rfl
  · refine s_run X ok_X11_loadJournal 5 1 (pc' := 31) (vs' := [some (.ref p0), none]) (st' := [.int (-4)]) rfl ?_
    exact s_iret X hr (dk okd_X11_loadJournal 8 rfl) rfl rfl
