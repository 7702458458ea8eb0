theorem cl_X1_104 : Cond.constantLong RX1 104 10000000 ∈ TT := TT_4 (i := 234) rfl rfl
theorem cl_X1_106 : Cond.constantLong RX1 106 (-3) ∈ TT := TT_4 (i := 235) rfl rfl
theorem cl_X1_99 : Cond.constantLong RX1 99 (-1) ∈ TT := TT_4 (i := 233) rfl rfl
theorem cl_X4_68 : Cond.constantLong RX4 68 10 ∈ TT := TT_7 (i := 203) rfl rfl
theorem cl_X8_66 : Cond.constantLong RX8 66 9223372036854775807 ∈ TT := TT_6 (i := 125) rfl rfl
theorem fl_X1_101 : FL RX1 101 6 3 2 := ⟨RX6, TX6, 5, rfl, by decide, uw_X6, TT_1 (i := 195) rfl rfl, rfl, rfl, by decide⟩
theorem fl_X1_120 : FL RX1 120 7 5 0 := ⟨RX8, TX8, 12, rfl, by decide, uw_X8, TT_1 (i := 134) rfl rfl, rfl, rfl, by decide⟩
theorem fl_X1_127 : FL RX1 127 7 6 1 := ⟨RX8, TX8, 12, rfl, by decide, uw_X8, TT_1 (i := 137) rfl rfl, rfl, rfl, by decide⟩
theorem fl_X1_139 : FL RX1 139 7 7 0 := ⟨RX8, TX8, 12, rfl, by decide, uw_X8, TT_1 (i := 140) rfl rfl, rfl, rfl, by decide⟩
theorem fl_X1_196 : FL RX1 196 2 7 2 := ⟨RX2, TX2, 9, rfl, by decide, uw_X2, TT_1 (i := 236) rfl rfl, rfl, rfl, by decide⟩
theorem fl_X1_215 : FL RX1 215 2 6 2 := ⟨RX2, TX2, 9, rfl, by decide, uw_X2, TT_1 (i := 233) rfl rfl, rfl, rfl, by decide⟩
theorem fl_X1_218 : FL RX1 218 0 3 2 := ⟨RX0, TX0, 7, rfl, by decide, uw_X0, TT_2 (i := 61) rfl rfl, rfl, rfl, by decide⟩
theorem fl_X1_221 : FL RX1 221 9 0 2 := ⟨RX10, TX10, 6, rfl, by decide, uw_X10, TT_2 (i := 28) rfl rfl, rfl, rfl, by decide⟩
theorem fl_X1_228 : FL RX1 228 2 3 2 := ⟨RX2, TX2, 9, rfl, by decide, uw_X2, TT_1 (i := 224) rfl rfl, rfl, rfl, by decide⟩
theorem fl_X1_231 : FL RX1 231 9 2 2 := ⟨RX10, TX10, 6, rfl, by decide, uw_X10, TT_2 (i := 33) rfl rfl, rfl, rfl, by decide⟩
theorem fl_X1_234 : FL RX1 234 2 5 2 := ⟨RX2, TX2, 9, rfl, by decide, uw_X2, TT_1 (i := 230) rfl rfl, rfl, rfl, by decide⟩
theorem fl_X1_237 : FL RX1 237 7 9 1 := ⟨RX8, TX8, 12, rfl, by decide, uw_X8, TT_1 (i := 146) rfl rfl, rfl, rfl, by decide⟩
theorem fl_X1_252 : FL RX1 252 7 11 0 := ⟨RX8, TX8, 12, rfl, by decide, uw_X8, TT_1 (i := 152) rfl rfl, rfl, rfl, by decide⟩
theorem fl_X1_259 : FL RX1 259 2 4 2 := ⟨RX2, TX2, 9, rfl, by decide, uw_X2, TT_1 (i := 227) rfl rfl, rfl, rfl, by decide⟩
theorem fl_X1_262 : FL RX1 262 9 3 2 := ⟨RX10, TX10, 6, rfl, by decide, uw_X10, TT_2 (i := 35) rfl rfl, rfl, rfl, by decide⟩
theorem fl_X1_53 : FL RX1 53 1 6 2 := ⟨RX1, TX1, 7, rfl, by decide, uw_X1, TT_2 (i := 105) rfl rfl, rfl, rfl, by decide⟩
theorem fl_X1_65 : FL RX1 65 2 8 0 := ⟨RX2, TX2, 9, rfl, by decide, uw_X2, TT_1 (i := 238) rfl rfl, rfl, rfl, by decide⟩
theorem fl_X1_95 : FL RX1 95 6 0 2 := ⟨RX6, TX6, 5, rfl, by decide, uw_X6, TT_1 (i := 188) rfl rfl, rfl, rfl, by decide⟩
theorem fl_X11_153 : FL RX11 153 1 1 2 := ⟨RX1, TX1, 7, rfl, by decide, uw_X1, TT_2 (i := 90) rfl rfl, rfl, rfl, by decide⟩
theorem fl_X11_198 : FL RX11 198 6 0 2 := ⟨RX6, TX6, 5, rfl, by decide, uw_X6, TT_1 (i := 189) rfl rfl, rfl, rfl, by decide⟩
theorem fl_X11_26 : FL RX11 26 10 2 2 := ⟨RX11, TX11, 11, rfl, by decide, uw_X11, TT_2 (i := 186) rfl rfl, rfl, rfl, by decide⟩
theorem fl_X11_89 : FL RX11 89 8 0 2 := ⟨RX9, TX9, 8, rfl, by decide, uw_X9, TT_1 (i := 44) rfl rfl, rfl, rfl, by decide⟩
theorem fl_X5_115 : FL RX5 115 1 5 2 := ⟨RX1, TX1, 7, rfl, by decide, uw_X1, TT_2 (i := 103) rfl rfl, rfl, rfl, by decide⟩
theorem fl_X5_132 : FL RX5 132 1 2 2 := ⟨RX1, TX1, 7, rfl, by decide, uw_X1, TT_2 (i := 93) rfl rfl, rfl, rfl, by decide⟩
theorem fl_X5_15 : FL RX5 15 5 1 2 := ⟨RX5, TX5, 9, rfl, by decide, uw_X5, TT_2 (i := 156) rfl rfl, rfl, rfl, by decide⟩
theorem fl_X5_18 : FL RX5 18 5 2 2 := ⟨RX5, TX5, 9, rfl, by decide, uw_X5, TT_2 (i := 157) rfl rfl, rfl, rfl, by decide⟩
theorem fl_X5_21 : FL RX5 21 5 3 2 := ⟨RX5, TX5, 9, rfl, by decide, uw_X5, TT_2 (i := 158) rfl rfl, rfl, rfl, by decide⟩
theorem fl_X5_31 : FL RX5 31 5 6 2 := ⟨RX5, TX5, 9, rfl, by decide, uw_X5, TT_2 (i := 161) rfl rfl, rfl, rfl, by decide⟩
theorem fl_X5_9 : FL RX5 9 5 0 2 := ⟨RX5, TX5, 9, rfl, by decide, uw_X5, TT_2 (i := 155) rfl rfl, rfl, rfl, by decide⟩
theorem fl_X8_9 : FL RX8 9 7 0 2 := ⟨RX8, TX8, 12, rfl, by decide, uw_X8, TT_1 (i := 125) rfl rfl, rfl, rfl, by decide⟩
theorem mm_X1_131 : Cond.methodLink RX1 131 Lib.MathLoose.min_long.x ∈ TT := TT_5 (i := 66) rfl rfl
theorem mm_X8_55 : Cond.methodLink RX8 55 Lib.MathLoose.min_long.x ∈ TT := TT_5 (i := 36) rfl rfl
theorem mn_X1_123 : MN RX1 123 yX11_rateOf cX11_rateOf 4 (some .long) 2 := ⟨⟨"FranchiseLedger", List.mem_filter.mpr ⟨lw_5 (List.mem_of_getElem? (i := 53) rfl), rfl⟩⟩, TT_5 (i := 40) rfl rfl, TT_1 (i := 1) rfl rfl, TT_5 (i := 41) rfl rfl, ⟨by decide, by decide, by decide +kernel⟩⟩
theorem mn_X1_92 : MN RX1 92 yX11_cellCode cX11_cellCode 2 (some .int) 2 := ⟨⟨"FranchiseLedger", List.mem_filter.mpr ⟨lw_6 (List.mem_of_getElem? (i := 47) rfl), rfl⟩⟩, TT_6 (i := 25) rfl rfl, TT_1 (i := 1) rfl rfl, TT_6 (i := 26) rfl rfl, ⟨by decide, by decide, by decide +kernel⟩⟩
theorem mn_X8_61 : MN RX8 61 yX11_rateOf cX11_rateOf 4 (some .long) 2 := ⟨⟨"FranchiseLedger", List.mem_filter.mpr ⟨lw_5 (List.mem_of_getElem? (i := 39) rfl), rfl⟩⟩, TT_5 (i := 40) rfl rfl, TT_1 (i := 1) rfl rfl, TT_5 (i := 41) rfl rfl, ⟨by decide, by decide, by decide +kernel⟩⟩
theorem ms_X10_31 : MS RX10 31 yJ7_fill_53178 cJ7_fill_53178 4 none 2 := ⟨TT_2 (i := 141) rfl rfl, TT_2 (i := 135) rfl rfl, TT_1 (i := 11) rfl rfl, TT_2 (i := 136) rfl rfl, ⟨by decide, by decide, by decide +kernel⟩⟩
theorem ms_X10_47 : MS RX10 47 yJ6_bitCount_0f7a4 cJ6_bitCount_0f7a4 1 (some .int) 1 := ⟨TT_5 (i := 109) rfl rfl, TT_5 (i := 110) rfl rfl, TT_1 (i := 25) rfl rfl, TT_5 (i := 111) rfl rfl, ⟨by decide, by decide, by decide +kernel⟩⟩
theorem ms_X11_107 : MS RX11 107 yX11_requireArgument cX11_requireArgument 1 none 1 := ⟨TT_4 (i := 137) rfl rfl, TT_4 (i := 138) rfl rfl, TT_1 (i := 1) rfl rfl, TT_4 (i := 139) rfl rfl, ⟨by decide, by decide, by decide +kernel⟩⟩
theorem ms_X11_149 : MS RX11 149 yX3_contains cX3_contains 2 (some .boolean) 2 := ⟨TT_5 (i := 140) rfl rfl, TT_3 (i := 149) rfl rfl, TT_1 (i := 4) rfl rfl, TT_3 (i := 150) rfl rfl, ⟨by decide, by decide, by decide +kernel⟩⟩
theorem ms_X3_27 : MS RX3 27 yJ7_fill_53178 cJ7_fill_53178 4 none 2 := ⟨TT_2 (i := 134) rfl rfl, TT_2 (i := 135) rfl rfl, TT_1 (i := 11) rfl rfl, TT_2 (i := 136) rfl rfl, ⟨by decide, by decide, by decide +kernel⟩⟩
theorem mv_X1_108 : MV RX1 108 yX2_isActive cX2_isActive 2 (some .boolean) 1 := ⟨TT_4 (i := 236) rfl rfl, TT_4 (i := 237) rfl rfl, TT_4 (i := 238) rfl rfl, TT_1 (i := 8) rfl rfl, TT_4 (i := 239) rfl rfl, ⟨by decide, by decide, by decide +kernel⟩⟩
theorem mv_X1_112 : MV RX1 112 yX0_addDelivered cX0_addDelivered 5 none 3 := ⟨TT_5 (i := 4) rfl rfl, TT_5 (i := 5) rfl rfl, TT_5 (i := 6) rfl rfl, TT_1 (i := 10) rfl rfl, TT_5 (i := 7) rfl rfl, ⟨by decide, by decide, by decide +kernel⟩⟩
theorem mv_X1_116 : MV RX1 116 yX0_delivered cX0_delivered 3 (some .long) 2 := ⟨TT_5 (i := 62) rfl rfl, TT_5 (i := 63) rfl rfl, TT_5 (i := 64) rfl rfl, TT_1 (i := 10) rfl rfl, TT_5 (i := 65) rfl rfl, ⟨by decide, by decide, by decide +kernel⟩⟩
theorem mv_X1_136 : MV RX1 136 yX1_creditBetween cX1_creditBetween 3 (some .long) 2 := ⟨TT_5 (i := 58) rfl rfl, TT_5 (i := 59) rfl rfl, TT_5 (i := 60) rfl rfl, TT_1 (i := 5) rfl rfl, TT_5 (i := 61) rfl rfl, ⟨by decide, by decide, by decide +kernel⟩⟩
theorem mv_X1_158 : MV RX1 158 yX2_owedBy cX2_owedBy 2 (some .long) 1 := ⟨TT_5 (i := 48) rfl rfl, TT_4 (i := 67) rfl rfl, TT_4 (i := 68) rfl rfl, TT_1 (i := 8) rfl rfl, TT_4 (i := 69) rfl rfl, ⟨by decide, by decide, by decide +kernel⟩⟩
theorem mv_X1_162 : MV RX1 162 yX1_interestOn cX1_interestOn 3 (some .long) 1 := ⟨TT_5 (i := 49) rfl rfl, TT_5 (i := 51) rfl rfl, TT_s (i := 12) (by decide +kernel) (by decide +kernel), TT_1 (i := 5) rfl rfl, TT_5 (i := 52) rfl rfl, ⟨by decide, by decide, by decide +kernel⟩⟩
theorem mv_X1_211 : MV RX1 211 yX0_enterInvoice cX0_enterInvoice 3 none 2 := ⟨TT_5 (i := 75) rfl rfl, TT_5 (i := 76) rfl rfl, TT_5 (i := 77) rfl rfl, TT_1 (i := 10) rfl rfl, TT_5 (i := 78) rfl rfl, ⟨by decide, by decide, by decide +kernel⟩⟩
theorem mv_X1_224 : MV RX1 224 yX1_monthsOfDelayLeft cX1_monthsOfDelayLeft 2 (some .int) 1 := ⟨TT_5 (i := 83) rfl rfl, TT_5 (i := 84) rfl rfl, TT_5 (i := 85) rfl rfl, TT_1 (i := 5) rfl rfl, TT_5 (i := 86) rfl rfl, ⟨by decide, by decide, by decide +kernel⟩⟩
theorem mv_X1_249 : MV RX1 249 yX10_isOpen cX10_isOpen 2 (some .boolean) 1 := ⟨TT_7 (i := 110) rfl rfl, TT_7 (i := 40) rfl rfl, TT_7 (i := 41) rfl rfl, TT_1 (i := 9) rfl rfl, TT_7 (i := 42) rfl rfl, ⟨by decide, by decide, by decide +kernel⟩⟩
theorem mv_X1_255 : MV RX1 255 yX10_endOpen cX10_endOpen 3 (some .boolean) 2 := ⟨TT_7 (i := 35) rfl rfl, TT_7 (i := 36) rfl rfl, TT_7 (i := 37) rfl rfl, TT_1 (i := 9) rfl rfl, TT_7 (i := 38) rfl rfl, ⟨by decide, by decide, by decide +kernel⟩⟩
theorem mv_X1_265 : MV RX1 265 yX2_lowerBalance cX2_lowerBalance 4 (some .long) 2 := ⟨TT_5 (i := 128) rfl rfl, TT_5 (i := 129) rfl rfl, TT_5 (i := 130) rfl rfl, TT_1 (i := 8) rfl rfl, TT_5 (i := 131) rfl rfl, ⟨by decide, by decide, by decide +kernel⟩⟩
theorem mv_X1_268 : MV RX1 268 yX6_closeAllOf cX6_closeAllOf 3 none 1 := ⟨TT_7 (i := 30) rfl rfl, TT_7 (i := 31) rfl rfl, TT_7 (i := 32) rfl rfl, TT_1 (i := 7) rfl rfl, TT_7 (i := 33) rfl rfl, ⟨by decide, by decide, by decide +kernel⟩⟩
theorem mv_X1_271 : MV RX1 271 yX3_move cX3_move 10 (some .int) 6 := ⟨TT_7 (i := 34) rfl rfl, TT_3 (i := 152) rfl rfl, TT_3 (i := 153) rfl rfl, TT_1 (i := 4) rfl rfl, TT_3 (i := 154) rfl rfl, ⟨by decide, by decide, by decide +kernel⟩⟩
theorem mv_X1_275 : MV RX1 275 yX0_spendGrant cX0_spendGrant 4 (some .boolean) 2 := ⟨TT_5 (i := 119) rfl rfl, TT_5 (i := 120) rfl rfl, TT_5 (i := 121) rfl rfl, TT_1 (i := 10) rfl rfl, TT_5 (i := 122) rfl rfl, ⟨by decide, by decide, by decide +kernel⟩⟩
theorem mv_X1_84 : MV RX1 84 yX3_ownerAt cX3_ownerAt 3 (some .int) 2 := ⟨TT_3 (i := 167) rfl rfl, TT_3 (i := 145) rfl rfl, TT_3 (i := 146) rfl rfl, TT_1 (i := 4) rfl rfl, TT_3 (i := 147) rfl rfl, ⟨by decide, by decide, by decide +kernel⟩⟩
theorem mv_X1_88 : MV RX1 88 yX6_nearest cX6_nearest 6 (some .int) 3 := ⟨TT_3 (i := 168) rfl rfl, TT_3 (i := 169) rfl rfl, TT_3 (i := 170) rfl rfl, TT_1 (i := 7) rfl rfl, TT_3 (i := 171) rfl rfl, ⟨by decide, by decide, by decide +kernel⟩⟩
theorem mv_X11_156 : MV RX11 156 yX3_ownerAt cX3_ownerAt 3 (some .int) 2 := ⟨TT_5 (i := 141) rfl rfl, TT_3 (i := 145) rfl rfl, TT_3 (i := 146) rfl rfl, TT_1 (i := 4) rfl rfl, TT_3 (i := 147) rfl rfl, ⟨by decide, by decide, by decide +kernel⟩⟩
theorem mv_X11_159 : MV RX11 159 yX11_requireFranchisee cX11_requireFranchisee 2 none 1 := ⟨TT_5 (i := 150) rfl rfl, TT_5 (i := 152) rfl rfl, TT_s (i := 18) (by decide +kernel) (by decide +kernel), TT_1 (i := 1) rfl rfl, TT_5 (i := 153) rfl rfl, ⟨by decide, by decide, by decide +kernel⟩⟩
theorem mv_X11_162 : MV RX11 162 yX3_sizeOf cX3_sizeOf 4 (some .int) 1 := ⟨TT_5 (i := 171) rfl rfl, TT_5 (i := 172) rfl rfl, TT_5 (i := 173) rfl rfl, TT_1 (i := 4) rfl rfl, TT_5 (i := 174) rfl rfl, ⟨by decide, by decide, by decide +kernel⟩⟩
theorem mv_X11_166 : MV RX11 166 yX3_outerSides cX3_outerSides 4 (some .int) 1 := ⟨TT_5 (i := 182) rfl rfl, TT_5 (i := 183) rfl rfl, TT_5 (i := 184) rfl rfl, TT_1 (i := 4) rfl rfl, TT_5 (i := 185) rfl rfl, ⟨by decide, by decide, by decide +kernel⟩⟩
theorem mv_X11_169 : MV RX11 169 yX3_sharedSides cX3_sharedSides 5 (some .int) 2 := ⟨TT_5 (i := 197) rfl rfl, TT_5 (i := 198) rfl rfl, TT_5 (i := 199) rfl rfl, TT_1 (i := 4) rfl rfl, TT_5 (i := 200) rfl rfl, ⟨by decide, by decide, by decide +kernel⟩⟩
theorem mv_X11_172 : MV RX11 172 yX3_isWhole cX3_isWhole 6 (some .boolean) 1 := ⟨TT_5 (i := 208) rfl rfl, TT_5 (i := 209) rfl rfl, TT_5 (i := 210) rfl rfl, TT_1 (i := 4) rfl rfl, TT_5 (i := 211) rfl rfl, ⟨by decide, by decide, by decide +kernel⟩⟩
theorem mv_X11_176 : MV RX11 176 yX3_leastDistance cX3_leastDistance 6 (some .int) 3 := ⟨TT_5 (i := 224) rfl rfl, TT_5 (i := 225) rfl rfl, TT_5 (i := 226) rfl rfl, TT_1 (i := 4) rfl rfl, TT_5 (i := 227) rfl rfl, ⟨by decide, by decide, by decide +kernel⟩⟩
theorem mv_X11_180 : MV RX11 180 yX2_isActive cX2_isActive 2 (some .boolean) 1 := ⟨TT_5 (i := 237) rfl rfl, TT_4 (i := 237) rfl rfl, TT_4 (i := 238) rfl rfl, TT_1 (i := 8) rfl rfl, TT_4 (i := 239) rfl rfl, ⟨by decide, by decide, by decide +kernel⟩⟩
theorem mv_X11_183 : MV RX11 183 yX3_copyFrom cX3_copyFrom 2 none 1 := ⟨TT_5 (i := 238) rfl rfl, TT_4 (i := 94) rfl rfl, TT_4 (i := 95) rfl rfl, TT_1 (i := 4) rfl rfl, TT_4 (i := 96) rfl rfl, ⟨by decide, by decide, by decide +kernel⟩⟩
theorem mv_X11_187 : MV RX11 187 yX3_move cX3_move 10 (some .int) 6 := ⟨TT_5 (i := 239) rfl rfl, TT_3 (i := 152) rfl rfl, TT_3 (i := 153) rfl rfl, TT_1 (i := 4) rfl rfl, TT_3 (i := 154) rfl rfl, ⟨by decide, by decide, by decide +kernel⟩⟩
theorem mv_X11_191 : MV RX11 191 yX6_anyWithin cX6_anyWithin 7 (some .boolean) 5 := ⟨TT_6 (i := 0) rfl rfl, TT_6 (i := 1) rfl rfl, TT_6 (i := 2) rfl rfl, TT_1 (i := 7) rfl rfl, TT_6 (i := 3) rfl rfl, ⟨by decide, by decide, by decide +kernel⟩⟩
theorem mv_X11_195 : MV RX11 195 yX11_requireOutlet cX11_requireOutlet 2 none 1 := ⟨TT_6 (i := 11) rfl rfl, TT_6 (i := 13) rfl rfl, TT_s (i := 21) (by decide +kernel) (by decide +kernel), TT_1 (i := 1) rfl rfl, TT_6 (i := 14) rfl rfl, ⟨by decide, by decide, by decide +kernel⟩⟩
theorem mv_X11_93 : MV RX11 93 yX2_named cX2_named 5 (some .int) 3 := ⟨TT_3 (i := 218) rfl rfl, TT_3 (i := 122) rfl rfl, TT_3 (i := 123) rfl rfl, TT_1 (i := 8) rfl rfl, TT_3 (i := 124) rfl rfl, ⟨by decide, by decide, by decide +kernel⟩⟩
theorem mv_X2_52 : MV RX2 52 yX2_hasLetters cX2_hasLetters 6 (some .boolean) 3 := ⟨TT_3 (i := 125) rfl rfl, TT_3 (i := 127) rfl rfl, TT_s (i := 2) (by decide +kernel) (by decide +kernel), TT_1 (i := 8) rfl rfl, TT_3 (i := 128) rfl rfl, ⟨by decide, by decide, by decide +kernel⟩⟩
theorem mv_X3_51 : MV RX3 51 yX3_neighboursOf cX3_neighboursOf 5 (some .int) 2 := ⟨TT_5 (i := 186) rfl rfl, TT_5 (i := 188) rfl rfl, TT_s (i := 19) (by decide +kernel) (by decide +kernel), TT_1 (i := 4) rfl rfl, TT_5 (i := 189) rfl rfl, ⟨by decide, by decide, by decide +kernel⟩⟩
theorem mv_X3_54 : MV RX3 54 yX3_sizeOf cX3_sizeOf 4 (some .int) 1 := ⟨TT_5 (i := 212) rfl rfl, TT_5 (i := 172) rfl rfl, TT_5 (i := 173) rfl rfl, TT_1 (i := 4) rfl rfl, TT_5 (i := 174) rfl rfl, ⟨by decide, by decide, by decide +kernel⟩⟩
theorem mv_X3_61 : MV RX3 61 yX3_reach cX3_reach 5 none 3 := ⟨TT_5 (i := 213) rfl rfl, TT_5 (i := 215) rfl rfl, TT_s (i := 20) (by decide +kernel) (by decide +kernel), TT_1 (i := 4) rfl rfl, TT_5 (i := 216) rfl rfl, ⟨by decide, by decide, by decide +kernel⟩⟩
theorem mv_X3_72 : MV RX3 72 yX3_sizeWithin cX3_sizeWithin 9 (some .int) 5 := ⟨TT_6 (i := 81) rfl rfl, TT_6 (i := 83) rfl rfl, TT_s (i := 22) (by decide +kernel) (by decide +kernel), TT_1 (i := 4) rfl rfl, TT_6 (i := 84) rfl rfl, ⟨by decide, by decide, by decide +kernel⟩⟩
theorem mv_X4_52 : MV RX4 52 yX4_addByte cX4_addByte 2 none 1 := ⟨TT_7 (i := 191) rfl rfl, TT_7 (i := 193) rfl rfl, TT_s (i := 27) (by decide +kernel) (by decide +kernel), TT_1 (i := 3) rfl rfl, TT_7 (i := 194) rfl rfl, ⟨by decide, by decide, by decide +kernel⟩⟩
theorem mv_X5_136 : MV RX5 136 yX6_has cX6_has 2 (some .boolean) 1 := ⟨TT_4 (i := 216) rfl rfl, TT_4 (i := 217) rfl rfl, TT_4 (i := 218) rfl rfl, TT_1 (i := 7) rfl rfl, TT_4 (i := 219) rfl rfl, ⟨by decide, by decide, by decide +kernel⟩⟩
theorem mv_X5_142 : MV RX5 142 yX0_hasOpenMonth cX0_hasOpenMonth 1 (some .boolean) 0 := ⟨TT_4 (i := 220) rfl rfl, TT_4 (i := 221) rfl rfl, TT_4 (i := 222) rfl rfl, TT_1 (i := 10) rfl rfl, TT_4 (i := 223) rfl rfl, ⟨by decide, by decide, by decide +kernel⟩⟩
theorem mv_X5_145 : MV RX5 145 yX6_replaceSales cX6_replaceSales 6 (some .long) 2 := ⟨TT_4 (i := 224) rfl rfl, TT_4 (i := 225) rfl rfl, TT_4 (i := 226) rfl rfl, TT_1 (i := 7) rfl rfl, TT_4 (i := 227) rfl rfl, ⟨by decide, by decide, by decide +kernel⟩⟩
theorem mv_X5_149 : MV RX5 149 yX1_addDelivery cX1_addDelivery 8 (some .long) 4 := ⟨TT_4 (i := 229) rfl rfl, TT_4 (i := 230) rfl rfl, TT_4 (i := 231) rfl rfl, TT_1 (i := 5) rfl rfl, TT_4 (i := 232) rfl rfl, ⟨by decide, by decide, by decide +kernel⟩⟩
theorem mv_X6_49 : MV RX6 49 yX6_scaledSales cX6_scaledSales 6 (some .long) 2 := ⟨TT_5 (i := 22) rfl rfl, TT_5 (i := 23) rfl rfl, TT_5 (i := 24) rfl rfl, TT_1 (i := 7) rfl rfl, TT_5 (i := 25) rfl rfl, ⟨by decide, by decide, by decide +kernel⟩⟩
theorem mv_X8_51 : MV RX8 51 yX8_addStep cX8_addStep 6 none 2 := ⟨TT_3 (i := 87) rfl rfl, TT_3 (i := 88) rfl rfl, TT_3 (i := 89) rfl rfl, TT_1 (i := 6) rfl rfl, TT_3 (i := 90) rfl rfl, ⟨by decide, by decide, by decide +kernel⟩⟩
theorem mv_X8_68 : MV RX8 68 yX8_royaltyFor cX8_royaltyFor 11 (some .long) 2 := ⟨TT_6 (i := 126) rfl rfl, TT_5 (i := 33) rfl rfl, TT_5 (i := 34) rfl rfl, TT_1 (i := 6) rfl rfl, TT_5 (i := 35) rfl rfl, ⟨by decide, by decide, by decide +kernel⟩⟩
theorem mv_X8_72 : MV RX8 72 yX8_contributionFor cX8_contributionFor 4 (some .long) 2 := ⟨TT_6 (i := 127) rfl rfl, TT_5 (i := 45) rfl rfl, TT_5 (i := 46) rfl rfl, TT_1 (i := 6) rfl rfl, TT_5 (i := 47) rfl rfl, ⟨by decide, by decide, by decide +kernel⟩⟩
def tab_X1_hasFreeCell : List En := [(0, 8, 0, 0), (4, 4, 2, 0), (5, 4, 3, 0), (9, 4, 1, 0), (13, 8, 0, 0), (17, 0, 0, (-1)), (18, 4, 2, 0), (19, 4, 3, 0), (26, 0, 0, 1), (27, 41, 31, 0), (30, 0, 0, 0)]
theorem ok_X1_hasFreeCell : tab_X1_hasFreeCell.all (okE cX1_hasFreeCell) = true := by decide +kernel
def ed_X1_hasFreeCell : List (Nat × Instr × Nat) := [(1, .getfield 21, 3), (6, .invokevirtual 84, 3), (10, .if_icmp .ne 20, 3), (14, .getfield 28, 3), (20, .invokevirtual 88, 3), (23, .ifCond .le 7, 3), (31, .ireturn, 1)]
theorem okd_X1_hasFreeCell : ed_X1_hasFreeCell.all (okD cX1_hasFreeCell) = true := by decide +kernel
def f_X1_hasFreeCell (S : St) (p0 : Nat) (p1 : Int32) (p2 : Int32) (p3 : Int32) : Option (Int32) := lt (gR S p0 1) fun (a1 : Nat) => cl (f_X3_ownerAt S a1 p2 p3) fun (v3 : Int32) => jn (κ := Option (Int32)) (some 0) fun k4 => if v3 = p1 then (lt (gR S p0 2) fun (a6 : Nat) => cl (f_X6_nearest S a6 (-1) p2 p3) fun (v8 : Int32) => if v8 ≤ 0 then (k4) else (some 1)) else (k4)
set_option maxHeartbeats 4000000 in
set_option maxRecDepth 100000 in
theorem c_X1_hasFreeCell (S : St) (p0 : Nat) (p1 : Int32) (p2 : Int32) (p3 : Int32) : Ct yX1_hasFreeCell cX1_hasFreeCell 4 (some .boolean) 3 71 (fun _ => [.ref p0, .int p1, .int p2, .int p3]) [(p0, 1)] S (f_X1_hasFreeCell S p0 p1 p2 p3) oI (fun _ => S) := by
  refine Ct_of RX1 rfl (by decide) (fun _ => Nat.le_of_ble_eq_true rfl) 0 (vs := fun _ => [some (.ref p0), some (.int p1), some (.int p2), some (.int p3)]) (fun _ => rfl) (fun C X E hr ht => ?_)
  have t0_ : tT C p0 1 := ht (p0, 1) (by simp)
  show Jd C 4 (QJ C oI (fun _ => S)) S 0 [some (.ref p0), some (.int p1), some (.int p2), some (.int p3)] [] (f_X1_hasFreeCell S p0 p1 p2 p3)
  unfold f_X1_hasFreeCell
  refine s_run X ok_X1_hasFreeCell 0 1 (pc' := 1) (vs' := [some (.ref p0), some (.int p1), some (.int p2), some (.int p3)]) (st' := [.ref p0]) rfl ?_
  refine s_getR X fl_X1_21 t0_ (dk okd_X1_hasFreeCell 0 rfl) (fun a1 (t2 : tT C a1 3) => ?_)
  refine s_run X ok_X1_hasFreeCell 1 2 (pc' := 6) (vs' := [some (.ref p0), some (.int p1), some (.int p2), some (.int p3)]) (st' := [.int p3, .int p2, .ref a1]) rfl ?_
  refine s_callV (b := a1) (As := [.int p2, .int p3]) (rest := []) X E mv_X1_84 (c_X3_ownerAt S a1 p2 p3) rfl (ta1 t2) rfl (by decide) t2 rfl rfl (Nat.le_of_ble_eq_true rfl) (Nat.le_of_ble_eq_true rfl) (Nat.le_of_ble_eq_true rfl) (dk okd_X1_hasFreeCell 1 rfl) (st' := fun v3 => [.int v3]) (fun _ => rfl) (fun v3 => ?_)
  refine s_run X ok_X1_hasFreeCell 3 1 (pc' := 10) (vs' := [some (.ref p0), some (.int p1), some (.int p2), some (.int p3)]) (st' := [.int p1, .int v3]) rfl ?_
  refine s_jn (κ := Option (Int32)) (fun k4 => Jd C 4 (QJ C oI (fun _ => S)) S 30 [none, none, none, none] [] k4) ?_ (fun k4 h5 => ?_)
  · refine s_run X ok_X1_hasFreeCell 10 1 (pc' := 31) (vs' := [none, none, none, none]) (st' := [.int 0]) rfl ?_
    exact s_zret0 X hr (dk okd_X1_hasFreeCell 6 rfl) (by decide) rfl rfl
  · refine s_icmp_ne (tgt := 30) X (dk okd_X1_hasFreeCell 2 rfl) (by decide) ?_ ?_
    · exact s_less [false, false, false, false] rfl (h5)
    · refine s_run X ok_X1_hasFreeCell 4 1 (pc' := 14) (vs' := [some (.ref p0), some (.int p1), some (.int p2), some (.int p3)]) (st' := [.ref p0]) rfl ?_
      refine s_getR X fl_X1_28 t0_ (dk okd_X1_hasFreeCell 3 rfl) (fun a6 (t7 : tT C a6 6) => ?_)
      refine s_run X ok_X1_hasFreeCell 5 3 (pc' := 20) (vs' := [some (.ref p0), some (.int p1), some (.int p2), some (.int p3)]) (st' := [.int p3, .int p2, .int (-1), .ref a6]) rfl ?_
      refine s_callV (b := a6) (As := [.int (-1), .int p2, .int p3]) (rest := []) X E mv_X1_88 (c_X6_nearest S a6 (-1) p2 p3) rfl (ta1 t7) rfl (by decide) t7 rfl rfl (Nat.le_of_ble_eq_true rfl) (Nat.le_of_ble_eq_true rfl) (Nat.le_of_ble_eq_true rfl) (dk okd_X1_hasFreeCell 4 rfl) (st' := fun v8 => [.int v8]) (fun _ => rfl) (fun v8 => ?_)
      refine s_if_le (tgt := 30) X (dk okd_X1_hasFreeCell 5 rfl) (by decide) ?_ ?_
      · exact s_less [false, false, false, false] rfl (h5)
      · refine s_run X ok_X1_hasFreeCell 8 2 (pc' := 31) (vs' := [some (.ref p0), some (.int p1), some (.int p2), some (.int p3)]) (st' := [.int 1]) rfl ?_
        exact s_zret0 X hr (dk okd_X1_hasFreeCell 6 rfl) (by decide) rfl rfl
def tab_X1_farthestCell : List En := [(0, 0, 0, (-1)), (1, 10, 2, 0), (2, 0, 0, 0), (3, 10, 3, 0), (4, 0, 0, 0), (5, 11, 4, 0), (7, 5, 4, 0), (9, 1, 0, 30), (14, 0, 0, 0), (15, 11, 5, 0), (17, 5, 5, 0), (19, 1, 0, 30), (24, 8, 0, 0), (28, 5, 5, 0), (30, 5, 4, 0), (35, 4, 1, 0), (39, 8, 0, 0), (43, 0, 0, (-1)), (44, 5, 5, 0), (46, 5, 4, 0), (51, 41, 55, 0), (54, 0, 0, 0), (55, 11, 6, 0), (57, 5, 6, 0), (59, 4, 3, 0), (63, 5, 6, 0), (65, 10, 3, 0), (66, 5, 5, 0), (68, 5, 4, 0), (73, 10, 2, 0), (74, 16, 5, 1), (77, 41, 17, 0), (80, 16, 4, 1), (83, 41, 7, 0), (86, 4, 2, 0)]
theorem ok_X1_farthestCell : tab_X1_farthestCell.all (okE cX1_farthestCell) = true := by decide +kernel
def ed_X1_farthestCell : List (Nat × Instr × Nat) := [(11, .if_icmp .ge 75, 3), (21, .if_icmp .ge 59, 3), (25, .getfield 21, 3), (32, .invokevirtual 84, 3), (36, .if_icmp .ne 18, 3), (40, .getfield 28, 3), (48, .invokevirtual 88, 3), (60, .if_icmp .le 14, 3), (70, .invokestatic 92, 3), (87, .ireturn, 1)]
theorem okd_X1_farthestCell : ed_X1_farthestCell.all (okD cX1_farthestCell) = true := by decide +kernel
def f_X1_farthestCell (S : St) (p0 : Nat) (p1 : Int32) : Option (Int32) := jn (κ := Int32 → Option (Int32)) (fun x1 => some x1) fun k2 => lp (κ := Int32 → Int32 → Int32 → Option (Int32)) (fun _ _ _ => none) (fun k7 x4 x5 x6 => if 30 ≤ x6 then (k2 x4) else (jn (κ := Int32 → Int32 → Option (Int32)) (fun x9 x10 => k7 x9 x10 (x6 + 1)) fun k11 => lp (κ := Int32 → Int32 → Int32 → Option (Int32)) (fun _ _ _ => none) (fun k16 x13 x14 x15 => if 30 ≤ x15 then (k11 x13 x14) else (lt (gR S p0 1) fun (a18 : Nat) => cl (f_X3_ownerAt S a18 x15 x6) fun (v20 : Int32) => jn (κ := Int32 → Option (Int32)) (fun x21 => jn (κ := Int32 → Int32 → Option (Int32)) (fun x24 x25 => k16 x24 x25 (x15 + 1)) fun k26 => if x21 ≤ x14 then (k26 x13 x14) else (cl (f_X11_cellCode S x15 x6) fun (v28 : Int32) => k26 v28 x21)) fun k22 => if v20 = p1 then (lt (gR S p0 2) fun (a29 : Nat) => cl (f_X6_nearest S a29 (-1) x15 x6) fun (v31 : Int32) => k22 v31) else (k22 0))) FU x4 x5 0)) FU (-1) 0 0
set_option maxHeartbeats 4000000 in
set_option maxRecDepth 100000 in
theorem c_X1_farthestCell (S : St) (p0 : Nat) (p1 : Int32) : Ct yX1_farthestCell cX1_farthestCell 7 (some .int) 3 71 (fun _ => [.ref p0, .int p1]) [(p0, 1)] S (f_X1_farthestCell S p0 p1) oI (fun _ => S) := by
  refine Ct_of RX1 rfl (by decide) (fun _ => Nat.le_of_ble_eq_true rfl) 5 (vs := fun _ => [some (.ref p0), some (.int p1), none, none, none, none, none]) (fun _ => rfl) (fun C X E hr ht => ?_)
  have t0_ : tT C p0 1 := ht (p0, 1) (by simp)
  show Jd C 7 (QJ C oI (fun _ => S)) S 0 [some (.ref p0), some (.int p1), none, none, none, none, none] [] (f_X1_farthestCell S p0 p1)
  unfold f_X1_farthestCell
  refine s_run X ok_X1_farthestCell 0 6 (pc' := 7) (vs' := [some (.ref p0), some (.int p1), some (.int (-1)), some (.int 0), some (.int 0), none, none]) (st' := []) rfl ?_
  refine s_jn (κ := Int32 → Option (Int32)) (fun k2 => ∀ (x1 : Int32), Jd C 7 (QJ C oI (fun _ => S)) S 86 [none, none, some (.int x1), none, none, none, none] [] (k2 x1)) (fun x1 => ?_) (fun k2 h3 => ?_)
  · refine s_run X ok_X1_farthestCell 34 1 (pc' := 87) (vs' := [none, none, some (.int x1), none, none, none, none]) (st' := [.int x1]) rfl ?_
    exact s_iret X hr (dk okd_X1_farthestCell 9 rfl) rfl rfl
  · refine s_lp (κ := Int32 → Int32 → Int32 → Option (Int32)) (fun k7 => ∀ (x4 : Int32) (x5 : Int32) (x6 : Int32), Jd C 7 (QJ C oI (fun _ => S)) S 7 [some (.ref p0), some (.int p1), some (.int x4), some (.int x5), some (.int x6), none, none] [] (k7 x4 x5 x6)) (fun _ _ _ => s_none) (fun k7 h8 x4 x5 x6 => ?_) FU (-1) 0 0
    refine s_run X ok_X1_farthestCell 6 2 (pc' := 11) (vs' := [some (.ref p0), some (.int p1), some (.int x4), some (.int x5), some (.int x6), none, none]) (st' := [.int 30, .int x6]) rfl ?_
    refine s_icmp_ge (tgt := 86) X (dk okd_X1_farthestCell 0 rfl) (by decide) ?_ ?_
    · exact s_less [false, false, true, false, false, false, false] rfl (h3 x4)
    · refine s_run X ok_X1_farthestCell 8 2 (pc' := 17) (vs' := [some (.ref p0), some (.int p1), some (.int x4), some (.int x5), some (.int x6), some (.int 0), none]) (st' := []) rfl ?_
      refine s_jn (κ := Int32 → Int32 → Option (Int32)) (fun k11 => ∀ (x9 : Int32) (x10 : Int32), Jd C 7 (QJ C oI (fun _ => S)) S 80 [some (.ref p0), some (.int p1), some (.int x9), some (.int x10), some (.int x6), none, none] [] (k11 x9 x10)) (fun x9 x10 => ?_) (fun k11 h12 => ?_)
      · refine s_run X ok_X1_farthestCell 32 2 (pc' := 7) (vs' := [some (.ref p0), some (.int p1), some (.int x9), some (.int x10), some (.int (x6 + 1)), none, none]) (st' := []) rfl ?_
        exact h8 x9 x10 (x6 + 1)
      · refine s_lp (κ := Int32 → Int32 → Int32 → Option (Int32)) (fun k16 => ∀ (x13 : Int32) (x14 : Int32) (x15 : Int32), Jd C 7 (QJ C oI (fun _ => S)) S 17 [some (.ref p0), some (.int p1), some (.int x13), some (.int x14), some (.int x6), some (.int x15), none] [] (k16 x13 x14 x15)) (fun _ _ _ => s_none) (fun k16 h17 x13 x14 x15 => ?_) FU x4 x5 0
        refine s_run X ok_X1_farthestCell 10 2 (pc' := 21) (vs' := [some (.ref p0), some (.int p1), some (.int x13), some (.int x14), some (.int x6), some (.int x15), none]) (st' := [.int 30, .int x15]) rfl ?_
        refine s_icmp_ge (tgt := 80) X (dk okd_X1_farthestCell 1 rfl) (by decide) ?_ ?_
        · exact s_less [true, true, true, true, true, false, false] rfl (h12 x13 x14)
        · refine s_run X ok_X1_farthestCell 12 1 (pc' := 25) (vs' := [some (.ref p0), some (.int p1), some (.int x13), some (.int x14), some (.int x6), some (.int x15), none]) (st' := [.ref p0]) rfl ?_
          refine s_getR X fl_X1_21 t0_ (dk okd_X1_farthestCell 2 rfl) (fun a18 (t19 : tT C a18 3) => ?_)
          refine s_run X ok_X1_farthestCell 13 2 (pc' := 32) (vs' := [some (.ref p0), some (.int p1), some (.int x13), some (.int x14), some (.int x6), some (.int x15), none]) (st' := [.int x6, .int x15, .ref a18]) rfl ?_
          refine s_callV (b := a18) (As := [.int x15, .int x6]) (rest := []) X E mv_X1_84 (c_X3_ownerAt S a18 x15 x6) rfl (ta1 t19) rfl (by decide) t19 rfl rfl (Nat.le_of_ble_eq_true rfl) (Nat.le_of_ble_eq_true rfl) (Nat.le_of_ble_eq_true rfl) (dk okd_X1_farthestCell 3 rfl) (st' := fun v20 => [.int v20]) (fun _ => rfl) (fun v20 => ?_)
          refine s_run X ok_X1_farthestCell 15 1 (pc' := 36) (vs' := [some (.ref p0), some (.int p1), some (.int x13), some (.int x14), some (.int x6), some (.int x15), none]) (st' := [.int p1, .int v20]) rfl ?_
          refine s_jn (κ := Int32 → Option (Int32)) (fun k22 => ∀ (x21 : Int32), Jd C 7 (QJ C oI (fun _ => S)) S 55 [some (.ref p0), some (.int p1), some (.int x13), some (.int x14), some (.int x6), some (.int x15), none] [.int x21] (k22 x21)) (fun x21 => ?_) (fun k22 h23 => ?_)
          · refine s_run X ok_X1_farthestCell 22 3 (pc' := 60) (vs' := [some (.ref p0), some (.int p1), some (.int x13), some (.int x14), some (.int x6), some (.int x15), some (.int x21)]) (st' := [.int x14, .int x21]) rfl ?_
            refine s_jn (κ := Int32 → Int32 → Option (Int32)) (fun k26 => ∀ (x24 : Int32) (x25 : Int32), Jd C 7 (QJ C oI (fun _ => S)) S 74 [some (.ref p0), some (.int p1), some (.int x24), some (.int x25), some (.int x6), some (.int x15), none] [] (k26 x24 x25)) (fun x24 x25 => ?_) (fun k26 h27 => ?_)
            · refine s_run X ok_X1_farthestCell 30 2 (pc' := 17) (vs' := [some (.ref p0), some (.int p1), some (.int x24), some (.int x25), some (.int x6), some (.int (x15 + 1)), none]) (st' := []) rfl ?_
              exact h17 x24 x25 (x15 + 1)
            · refine s_icmp_le (tgt := 74) X (dk okd_X1_farthestCell 7 rfl) (by decide) ?_ ?_
              · exact s_less [true, true, true, true, true, true, false] rfl (h27 x13 x14)
              · refine s_run X ok_X1_farthestCell 25 4 (pc' := 70) (vs' := [some (.ref p0), some (.int p1), some (.int x13), some (.int x21), some (.int x6), some (.int x15), some (.int x21)]) (st' := [.int x6, .int x15]) rfl ?_
                refine s_callN (As := [.int x15, .int x6]) (rest := []) X E mn_X1_92 (c_X11_cellCode S x15 x6) rfl (ta0) rfl rfl (Nat.le_of_ble_eq_true rfl) (Nat.le_of_ble_eq_true rfl) (Nat.le_of_ble_eq_true rfl) (dk okd_X1_farthestCell 8 rfl) (st' := fun v28 => [.int v28]) (fun _ => rfl) (fun v28 => ?_)
                refine s_run X ok_X1_farthestCell 29 1 (pc' := 74) (vs' := [some (.ref p0), some (.int p1), some (.int v28), some (.int x21), some (.int x6), some (.int x15), some (.int x21)]) (st' := []) rfl ?_
                exact s_less [true, true, true, true, true, true, false] rfl (h27 v28 x21)
          · refine s_icmp_ne (tgt := 54) X (dk okd_X1_farthestCell 4 rfl) (by decide) ?_ ?_
            · refine s_run X ok_X1_farthestCell 21 1 (pc' := 55) (vs' := [some (.ref p0), some (.int p1), some (.int x13), some (.int x14), some (.int x6), some (.int x15), none]) (st' := [.int 0]) rfl ?_
              exact h23 0
            · refine s_run X ok_X1_farthestCell 16 1 (pc' := 40) (vs' := [some (.ref p0), some (.int p1), some (.int x13), some (.int x14), some (.int x6), some (.int x15), none]) (st' := [.ref p0]) rfl ?_
              refine s_getR X fl_X1_28 t0_ (dk okd_X1_farthestCell 5 rfl) (fun a29 (t30 : tT C a29 6) => ?_)
              refine s_run X ok_X1_farthestCell 17 3 (pc' := 48) (vs' := [some (.ref p0), some (.int p1), some (.int x13), some (.int x14), some (.int x6), some (.int x15), none]) (st' := [.int x6, .int x15, .int (-1), .ref a29]) rfl ?_
              refine s_callV (b := a29) (As := [.int (-1), .int x15, .int x6]) (rest := []) X E mv_X1_88 (c_X6_nearest S a29 (-1) x15 x6) rfl (ta1 t30) rfl (by decide) t30 rfl rfl (Nat.le_of_ble_eq_true rfl) (Nat.le_of_ble_eq_true rfl) (Nat.le_of_ble_eq_true rfl) (dk okd_X1_farthestCell 6 rfl) (st' := fun v31 => [.int v31]) (fun _ => rfl) (fun v31 => ?_)
              refine s_run X ok_X1_farthestCell 20 1 (pc' := 55) (vs' := [some (.ref p0), some (.int p1), some (.int x13), some (.int x14), some (.int x6), some (.int x15), none]) (st' := [.int v31]) rfl ?_
              exact h23 v31
def tab_X1_cellsWithin : List En := [(0, 0, 0, 0), (1, 10, 3, 0), (2, 0, 0, 0), (3, 11, 4, 0), (5, 5, 4, 0), (7, 1, 0, 30), (12, 0, 0, 0), (13, 11, 5, 0), (15, 5, 5, 0), (17, 1, 0, 30), (22, 8, 0, 0), (26, 5, 5, 0), (28, 5, 4, 0), (33, 4, 1, 0), (37, 8, 0, 0), (41, 4, 1, 0), (42, 5, 5, 0), (44, 5, 4, 0), (49, 4, 2, 0), (53, 16, 3, 1), (56, 16, 5, 1), (59, 41, 15, 0), (62, 16, 4, 1), (65, 41, 5, 0), (68, 4, 3, 0)]
theorem ok_X1_cellsWithin : tab_X1_cellsWithin.all (okE cX1_cellsWithin) = true := by decide +kernel
def ed_X1_cellsWithin : List (Nat × Instr × Nat) := [(9, .if_icmp .ge 59, 3), (19, .if_icmp .ge 43, 3), (23, .getfield 21, 3), (30, .invokevirtual 84, 3), (34, .if_icmp .ne 22, 3), (38, .getfield 28, 3), (46, .invokevirtual 88, 3), (50, .if_icmp .gt 6, 3), (69, .ireturn, 1)]
theorem okd_X1_cellsWithin : ed_X1_cellsWithin.all (okD cX1_cellsWithin) = true := by decide +kernel
def f_X1_cellsWithin (S : St) (p0 : Nat) (p1 : Int32) (p2 : Int32) : Option (Int32) := jn (κ := Int32 → Option (Int32)) (fun x1 => some x1) fun k2 => lp (κ := Int32 → Int32 → Option (Int32)) (fun _ _ => none) (fun k6 x4 x5 => if 30 ≤ x5 then (k2 x4) else (jn (κ := Int32 → Option (Int32)) (fun x8 => k6 x8 (x5 + 1)) fun k9 => lp (κ := Int32 → Int32 → Option (Int32)) (fun _ _ => none) (fun k13 x11 x12 => if 30 ≤ x12 then (k9 x11) else (lt (gR S p0 1) fun (a15 : Nat) => cl (f_X3_ownerAt S a15 x12 x5) fun (v17 : Int32) => jn (κ := Int32 → Option (Int32)) (fun x18 => k13 x18 (x12 + 1)) fun k19 => if v17 = p1 then (lt (gR S p0 2) fun (a21 : Nat) => cl (f_X6_nearest S a21 p1 x12 x5) fun (v23 : Int32) => if p2 < v23 then (k19 x11) else (k19 (x11 + 1))) else (k19 x11))) FU x4 0)) FU 0 0
set_option maxHeartbeats 4000000 in
set_option maxRecDepth 100000 in
theorem c_X1_cellsWithin (S : St) (p0 : Nat) (p1 : Int32) (p2 : Int32) : Ct yX1_cellsWithin cX1_cellsWithin 6 (some .int) 3 71 (fun _ => [.ref p0, .int p1, .int p2]) [(p0, 1)] S (f_X1_cellsWithin S p0 p1 p2) oI (fun _ => S) := by
  refine Ct_of RX1 rfl (by decide) (fun _ => Nat.le_of_ble_eq_true rfl) 3 (vs := fun _ => [some (.ref p0), some (.int p1), some (.int p2), none, none, none]) (fun _ => rfl) (fun C X E hr ht => ?_)
  have t0_ : tT C p0 1 := ht (p0, 1) (by simp)
  show Jd C 6 (QJ C oI (fun _ => S)) S 0 [some (.ref p0), some (.int p1), some (.int p2), none, none, none] [] (f_X1_cellsWithin S p0 p1 p2)
  unfold f_X1_cellsWithin
  refine s_run X ok_X1_cellsWithin 0 4 (pc' := 5) (vs' := [some (.ref p0), some (.int p1), some (.int p2), some (.int 0), some (.int 0), none]) (st' := []) rfl ?_
  refine s_jn (κ := Int32 → Option (Int32)) (fun k2 => ∀ (x1 : Int32), Jd C 6 (QJ C oI (fun _ => S)) S 68 [none, none, none, some (.int x1), none, none] [] (k2 x1)) (fun x1 => ?_) (fun k2 h3 => ?_)
  · refine s_run X ok_X1_cellsWithin 24 1 (pc' := 69) (vs' := [none, none, none, some (.int x1), none, none]) (st' := [.int x1]) rfl ?_
    exact s_iret X hr (dk okd_X1_cellsWithin 8 rfl) rfl rfl
  · refine s_lp (κ := Int32 → Int32 → Option (Int32)) (fun k6 => ∀ (x4 : Int32) (x5 : Int32), Jd C 6 (QJ C oI (fun _ => S)) S 5 [some (.ref p0), some (.int p1), some (.int p2), some (.int x4), some (.int x5), none] [] (k6 x4 x5)) (fun _ _ => s_none) (fun k6 h7 x4 x5 => ?_) FU 0 0
    refine s_run X ok_X1_cellsWithin 4 2 (pc' := 9) (vs' := [some (.ref p0), some (.int p1), some (.int p2), some (.int x4), some (.int x5), none]) (st' := [.int 30, .int x5]) rfl ?_
    refine s_icmp_ge (tgt := 68) X (dk okd_X1_cellsWithin 0 rfl) (by decide) ?_ ?_
    · exact s_less [false, false, false, true, false, false] rfl (h3 x4)
    · refine s_run X ok_X1_cellsWithin 6 2 (pc' := 15) (vs' := [some (.ref p0), some (.int p1), some (.int p2), some (.int x4), some (.int x5), some (.int 0)]) (st' := []) rfl ?_
      refine s_jn (κ := Int32 → Option (Int32)) (fun k9 => ∀ (x8 : Int32), Jd C 6 (QJ C oI (fun _ => S)) S 62 [some (.ref p0), some (.int p1), some (.int p2), some (.int x8), some (.int x5), none] [] (k9 x8)) (fun x8 => ?_) (fun k9 h10 => ?_)
      · refine s_run X ok_X1_cellsWithin 22 2 (pc' := 5) (vs' := [some (.ref p0), some (.int p1), some (.int p2), some (.int x8), some (.int (x5 + 1)), none]) (st' := []) rfl ?_
        exact h7 x8 (x5 + 1)
      · refine s_lp (κ := Int32 → Int32 → Option (Int32)) (fun k13 => ∀ (x11 : Int32) (x12 : Int32), Jd C 6 (QJ C oI (fun _ => S)) S 15 [some (.ref p0), some (.int p1), some (.int p2), some (.int x11), some (.int x5), some (.int x12)] [] (k13 x11 x12)) (fun _ _ => s_none) (fun k13 h14 x11 x12 => ?_) FU x4 0
        refine s_run X ok_X1_cellsWithin 8 2 (pc' := 19) (vs' := [some (.ref p0), some (.int p1), some (.int p2), some (.int x11), some (.int x5), some (.int x12)]) (st' := [.int 30, .int x12]) rfl ?_
        refine s_icmp_ge (tgt := 62) X (dk okd_X1_cellsWithin 1 rfl) (by decide) ?_ ?_
        · exact s_less [true, true, true, true, true, false] rfl (h10 x11)
        · refine s_run X ok_X1_cellsWithin 10 1 (pc' := 23) (vs' := [some (.ref p0), some (.int p1), some (.int p2), some (.int x11), some (.int x5), some (.int x12)]) (st' := [.ref p0]) rfl ?_
          refine s_getR X fl_X1_21 t0_ (dk okd_X1_cellsWithin 2 rfl) (fun a15 (t16 : tT C a15 3) => ?_)
          refine s_run X ok_X1_cellsWithin 11 2 (pc' := 30) (vs' := [some (.ref p0), some (.int p1), some (.int p2), some (.int x11), some (.int x5), some (.int x12)]) (st' := [.int x5, .int x12, .ref a15]) rfl ?_
          refine s_callV (b := a15) (As := [.int x12, .int x5]) (rest := []) X E mv_X1_84 (c_X3_ownerAt S a15 x12 x5) rfl (ta1 t16) rfl (by decide) t16 rfl rfl (Nat.le_of_ble_eq_true rfl) (Nat.le_of_ble_eq_true rfl) (Nat.le_of_ble_eq_true rfl) (dk okd_X1_cellsWithin 3 rfl) (st' := fun v17 => [.int v17]) (fun _ => rfl) (fun v17 => ?_)
          refine s_run X ok_X1_cellsWithin 13 1 (pc' := 34) (vs' := [some (.ref p0), some (.int p1), some (.int p2), some (.int x11), some (.int x5), some (.int x12)]) (st' := [.int p1, .int v17]) rfl ?_
          refine s_jn (κ := Int32 → Option (Int32)) (fun k19 => ∀ (x18 : Int32), Jd C 6 (QJ C oI (fun _ => S)) S 56 [some (.ref p0), some (.int p1), some (.int p2), some (.int x18), some (.int x5), some (.int x12)] [] (k19 x18)) (fun x18 => ?_) (fun k19 h20 => ?_)
          · refine s_run X ok_X1_cellsWithin 20 2 (pc' := 15) (vs' := [some (.ref p0), some (.int p1), some (.int p2), some (.int x18), some (.int x5), some (.int (x12 + 1))]) (st' := []) rfl ?_
            exact h14 x18 (x12 + 1)
          · refine s_icmp_ne (tgt := 56) X (dk okd_X1_cellsWithin 4 rfl) (by decide) ?_ ?_
            · exact h20 x11
            · refine s_run X ok_X1_cellsWithin 14 1 (pc' := 38) (vs' := [some (.ref p0), some (.int p1), some (.int p2), some (.int x11), some (.int x5), some (.int x12)]) (st' := [.ref p0]) rfl ?_
              refine s_getR X fl_X1_28 t0_ (dk okd_X1_cellsWithin 5 rfl) (fun a21 (t22 : tT C a21 6) => ?_)
              refine s_run X ok_X1_cellsWithin 15 3 (pc' := 46) (vs' := [some (.ref p0), some (.int p1), some (.int p2), some (.int x11), some (.int x5), some (.int x12)]) (st' := [.int x5, .int x12, .int p1, .ref a21]) rfl ?_
              refine s_callV (b := a21) (As := [.int p1, .int x12, .int x5]) (rest := []) X E mv_X1_88 (c_X6_nearest S a21 p1 x12 x5) rfl (ta1 t22) rfl (by decide) t22 rfl rfl (Nat.le_of_ble_eq_true rfl) (Nat.le_of_ble_eq_true rfl) (Nat.le_of_ble_eq_true rfl) (dk okd_X1_cellsWithin 6 rfl) (st' := fun v23 => [.int v23]) (fun _ => rfl) (fun v23 => ?_)
              refine s_run X ok_X1_cellsWithin 18 1 (pc' := 50) (vs' := [some (.ref p0), some (.int p1), some (.int p2), some (.int x11), some (.int x5), some (.int x12)]) (st' := [.int p2, .int v23]) rfl ?_
              refine s_icmp_gt (tgt := 56) X (dk okd_X1_cellsWithin 7 rfl) (by decide) ?_ ?_
              · exact h20 x11
              · refine s_run X ok_X1_cellsWithin 19 1 (pc' := 56) (vs' := [some (.ref p0), some (.int p1), some (.int p2), some (.int (x11 + 1)), some (.int x5), some (.int x12)]) (st' := []) rfl ?_
                exact h20 (x11 + 1)
def tab_X1_cellsNearerTo : List En := [(0, 0, 0, 0), (1, 10, 3, 0), (2, 0, 0, 0), (3, 11, 4, 0), (5, 5, 4, 0), (7, 1, 0, 30), (12, 0, 0, 0), (13, 11, 5, 0), (15, 5, 5, 0), (17, 1, 0, 30), (22, 8, 0, 0), (26, 5, 5, 0), (28, 5, 4, 0), (33, 4, 1, 0), (37, 8, 0, 0), (41, 4, 2, 0), (42, 5, 5, 0), (44, 5, 4, 0), (49, 8, 0, 0), (53, 4, 1, 0), (54, 5, 5, 0), (56, 5, 4, 0), (64, 16, 3, 1), (67, 16, 5, 1), (70, 41, 15, 0), (73, 16, 4, 1), (76, 41, 5, 0), (79, 4, 3, 0)]
theorem ok_X1_cellsNearerTo : tab_X1_cellsNearerTo.all (okE cX1_cellsNearerTo) = true := by decide +kernel
def ed_X1_cellsNearerTo : List (Nat × Instr × Nat) := [(9, .if_icmp .ge 70, 3), (19, .if_icmp .ge 54, 3), (23, .getfield 21, 3), (30, .invokevirtual 84, 3), (34, .if_icmp .ne 33, 3), (38, .getfield 28, 3), (46, .invokevirtual 88, 3), (50, .getfield 28, 3), (58, .invokevirtual 88, 3), (61, .if_icmp .ge 6, 3), (80, .ireturn, 1)]
theorem okd_X1_cellsNearerTo : ed_X1_cellsNearerTo.all (okD cX1_cellsNearerTo) = true := by decide +kernel
def f_X1_cellsNearerTo (S : St) (p0 : Nat) (p1 : Int32) (p2 : Int32) : Option (Int32) := jn (κ := Int32 → Option (Int32)) (fun x1 => some x1) fun k2 => lp (κ := Int32 → Int32 → Option (Int32)) (fun _ _ => none) (fun k6 x4 x5 => if 30 ≤ x5 then (k2 x4) else (jn (κ := Int32 → Option (Int32)) (fun x8 => k6 x8 (x5 + 1)) fun k9 => lp (κ := Int32 → Int32 → Option (Int32)) (fun _ _ => none) (fun k13 x11 x12 => if 30 ≤ x12 then (k9 x11) else (lt (gR S p0 1) fun (a15 : Nat) => cl (f_X3_ownerAt S a15 x12 x5) fun (v17 : Int32) => jn (κ := Int32 → Option (Int32)) (fun x18 => k13 x18 (x12 + 1)) fun k19 => if v17 = p1 then (lt (gR S p0 2) fun (a21 : Nat) => cl (f_X6_nearest S a21 p2 x12 x5) fun (v23 : Int32) => lt (gR S p0 2) fun (a24 : Nat) => cl (f_X6_nearest S a24 p1 x12 x5) fun (v26 : Int32) => if v26 ≤ v23 then (k19 x11) else (k19 (x11 + 1))) else (k19 x11))) FU x4 0)) FU 0 0
set_option maxHeartbeats 4000000 in
set_option maxRecDepth 100000 in
theorem c_X1_cellsNearerTo (S : St) (p0 : Nat) (p1 : Int32) (p2 : Int32) : Ct yX1_cellsNearerTo cX1_cellsNearerTo 6 (some .int) 3 71 (fun _ => [.ref p0, .int p1, .int p2]) [(p0, 1)] S (f_X1_cellsNearerTo S p0 p1 p2) oI (fun _ => S) := by
  refine Ct_of RX1 rfl (by decide) (fun _ => Nat.le_of_ble_eq_true rfl) 3 (vs := fun _ => [some (.ref p0), some (.int p1), some (.int p2), none, none, none]) (fun _ => rfl) (fun C X E hr ht => ?_)
  have t0_ : tT C p0 1 := ht (p0, 1) (by simp)
  show Jd C 6 (QJ C oI (fun _ => S)) S 0 [some (.ref p0), some (.int p1), some (.int p2), none, none, none] [] (f_X1_cellsNearerTo S p0 p1 p2)
  unfold f_X1_cellsNearerTo
  refine s_run X ok_X1_cellsNearerTo 0 4 (pc' := 5) (vs' := [some (.ref p0), some (.int p1), some (.int p2), some (.int 0), some (.int 0), none]) (st' := []) rfl ?_
  refine s_jn (κ := Int32 → Option (Int32)) (fun k2 => ∀ (x1 : Int32), Jd C 6 (QJ C oI (fun _ => S)) S 79 [none, none, none, some (.int x1), none, none] [] (k2 x1)) (fun x1 => ?_) (fun k2 h3 => ?_)
  · refine s_run X ok_X1_cellsNearerTo 27 1 (pc' := 80) (vs' := [none, none, none, some (.int x1), none, none]) (st' := [.int x1]) rfl ?_
    exact s_iret X hr (dk okd_X1_cellsNearerTo 10 rfl) rfl rfl
  · refine s_lp (κ := Int32 → Int32 → Option (Int32)) (fun k6 => ∀ (x4 : Int32) (x5 : Int32), Jd C 6 (QJ C oI (fun _ => S)) S 5 [some (.ref p0), some (.int p1), some (.int p2), some (.int x4), some (.int x5), none] [] (k6 x4 x5)) (fun _ _ => s_none) (fun k6 h7 x4 x5 => ?_) FU 0 0
    refine s_run X ok_X1_cellsNearerTo 4 2 (pc' := 9) (vs' := [some (.ref p0), some (.int p1), some (.int p2), some (.int x4), some (.int x5), none]) (st' := [.int 30, .int x5]) rfl ?_
    refine s_icmp_ge (tgt := 79) X (dk okd_X1_cellsNearerTo 0 rfl) (by decide) ?_ ?_
    · exact s_less [false, false, false, true, false, false] rfl (h3 x4)
    · refine s_run X ok_X1_cellsNearerTo 6 2 (pc' := 15) (vs' := [some (.ref p0), some (.int p1), some (.int p2), some (.int x4), some (.int x5), some (.int 0)]) (st' := []) rfl ?_
      refine s_jn (κ := Int32 → Option (Int32)) (fun k9 => ∀ (x8 : Int32), Jd C 6 (QJ C oI (fun _ => S)) S 73 [some (.ref p0), some (.int p1), some (.int p2), some (.int x8), some (.int x5), none] [] (k9 x8)) (fun x8 => ?_) (fun k9 h10 => ?_)
      · refine s_run X ok_X1_cellsNearerTo 25 2 (pc' := 5) (vs' := [some (.ref p0), some (.int p1), some (.int p2), some (.int x8), some (.int (x5 + 1)), none]) (st' := []) rfl ?_
        exact h7 x8 (x5 + 1)
      · refine s_lp (κ := Int32 → Int32 → Option (Int32)) (fun k13 => ∀ (x11 : Int32) (x12 : Int32), Jd C 6 (QJ C oI (fun _ => S)) S 15 [some (.ref p0), some (.int p1), some (.int p2), some (.int x11), some (.int x5), some (.int x12)] [] (k13 x11 x12)) (fun _ _ => s_none) (fun k13 h14 x11 x12 => ?_) FU x4 0
        refine s_run X ok_X1_cellsNearerTo 8 2 (pc' := 19) (vs' := [some (.ref p0), some (.int p1), some (.int p2), some (.int x11), some (.int x5), some (.int x12)]) (st' := [.int 30, .int x12]) rfl ?_
        refine s_icmp_ge (tgt := 73) X (dk okd_X1_cellsNearerTo 1 rfl) (by decide) ?_ ?_
        · exact s_less [true, true, true, true, true, false] rfl (h10 x11)
        · refine s_run X ok_X1_cellsNearerTo 10 1 (pc' := 23) (vs' := [some (.ref p0), some (.int p1), some (.int p2), some (.int x11), some (.int x5), some (.int x12)]) (st' := [.ref p0]) rfl ?_
          refine s_getR X fl_X1_21 t0_ (dk okd_X1_cellsNearerTo 2 rfl) (fun a15 (t16 : tT C a15 3) => ?_)
          refine s_run X ok_X1_cellsNearerTo 11 2 (pc' := 30) (vs' := [some (.ref p0), some (.int p1), some (.int p2), some (.int x11), some (.int x5), some (.int x12)]) (st' := [.int x5, .int x12, .ref a15]) rfl ?_
          refine s_callV (b := a15) (As := [.int x12, .int x5]) (rest := []) X E mv_X1_84 (c_X3_ownerAt S a15 x12 x5) rfl (ta1 t16) rfl (by decide) t16 rfl rfl (Nat.le_of_ble_eq_true rfl) (Nat.le_of_ble_eq_true rfl) (Nat.le_of_ble_eq_true rfl) (dk okd_X1_cellsNearerTo 3 rfl) (st' := fun v17 => [.int v17]) (fun _ => rfl) (fun v17 => ?_)
          refine s_run X ok_X1_cellsNearerTo 13 1 (pc' := 34) (vs' := [some (.ref p0), some (.int p1), some (.int p2), some (.int x11), some (.int x5), some (.int x12)]) (st' := [.int p1, .int v17]) rfl ?_
          refine s_jn (κ := Int32 → Option (Int32)) (fun k19 => ∀ (x18 : Int32), Jd C 6 (QJ C oI (fun _ => S)) S 67 [some (.ref p0), some (.int p1), some (.int p2), some (.int x18), some (.int x5), some (.int x12)] [] (k19 x18)) (fun x18 => ?_) (fun k19 h20 => ?_)
          · refine s_run X ok_X1_cellsNearerTo 23 2 (pc' := 15) (vs' := [some (.ref p0), some (.int p1), some (.int p2), some (.int x18), some (.int x5), some (.int (x12 + 1))]) (st' := []) rfl ?_
            exact h14 x18 (x12 + 1)
          · refine s_icmp_ne (tgt := 67) X (dk okd_X1_cellsNearerTo 4 rfl) (by decide) ?_ ?_
            · exact h20 x11
            · refine s_run X ok_X1_cellsNearerTo 14 1 (pc' := 38) (vs' := [some (.ref p0), some (.int p1), some (.int p2), some (.int x11), some (.int x5), some (.int x12)]) (st' := [.ref p0]) rfl ?_
              refine s_getR X fl_X1_28 t0_ (dk okd_X1_cellsNearerTo 5 rfl) (fun a21 (t22 : tT C a21 6) => ?_)
              refine s_run X ok_X1_cellsNearerTo 15 3 (pc' := 46) (vs' := [some (.ref p0), some (.int p1), some (.int p2), some (.int x11), some (.int x5), some (.int x12)]) (st' := [.int x5, .int x12, .int p2, .ref a21]) rfl ?_
              refine s_callV (b := a21) (As := [.int p2, .int x12, .int x5]) (rest := []) X E mv_X1_88 (c_X6_nearest S a21 p2 x12 x5) rfl (ta1 t22) rfl (by decide) t22 rfl rfl (Nat.le_of_ble_eq_true rfl) (Nat.le_of_ble_eq_true rfl) (Nat.le_of_ble_eq_true rfl) (dk okd_X1_cellsNearerTo 6 rfl) (st' := fun v23 => [.int v23]) (fun _ => rfl) (fun v23 => ?_)
              refine s_run X ok_X1_cellsNearerTo 18 1 (pc' := 50) (vs' := [some (.ref p0), some (.int p1), some (.int p2), some (.int x11), some (.int x5), some (.int x12)]) (st' := [.ref p0, .int v23]) rfl ?_
              refine s_getR X fl_X1_28 t0_ (dk okd_X1_cellsNearerTo 7 rfl) (fun a24 (t25 : tT C a24 6) => ?_)
              refine s_run X ok_X1_cellsNearerTo 19 3 (pc' := 58) (vs' := [some (.ref p0), some (.int p1), some (.int p2), some (.int x11), some (.int x5), some (.int x12)]) (st' := [.int x5, .int x12, .int p1, .ref a24, .int v23]) rfl ?_
              refine s_callV (b := a24) (As := [.int p1, .int x12, .int x5]) (rest := [.int v23]) X E mv_X1_88 (c_X6_nearest S a24 p1 x12 x5) rfl (ta1 t25) rfl (by decide) t25 rfl rfl (Nat.le_of_ble_eq_true rfl) (Nat.le_of_ble_eq_true rfl) (Nat.le_of_ble_eq_true rfl) (dk okd_X1_cellsNearerTo 8 rfl) (st' := fun v26 => [.int v26, .int v23]) (fun _ => rfl) (fun v26 => ?_)
              refine s_icmp_ge (tgt := 67) X (dk okd_X1_cellsNearerTo 9 rfl) (by decide) ?_ ?_
              · exact h20 x11
              · refine s_run X ok_X1_cellsNearerTo 22 1 (pc' := 67) (vs' := [some (.ref p0), some (.int p1), some (.int p2), some (.int (x11 + 1)), some (.int x5), some (.int x12)]) (st' := []) rfl ?_
                exact h20 (x11 + 1)
def tab_X1_addDelivery : List En := [(0, 8, 0, 0), (7, 4, 1, 0), (9, 11, 6, 0), (11, 5, 6, 0), (13, 0, 0, (-1)), (21, 8, 0, 0), (28, 4, 1, 0), (30, 7, 4, 0), (32, 23, 0, 0), (36, 40, 0, 0), (44, 8, 0, 0), (51, 4, 1, 0), (52, 37, 0, 0), (54, 7, 4, 0), (56, 23, 0, 0), (58, 8, 0, 0), (62, 4, 2, 0), (63, 4, 3, 0), (67, 11, 7, 0), (69, 5, 7, 0), (71, 5, 6, 0), (76, 8, 0, 0), (80, 5, 6, 0), (88, 8, 0, 0), (92, 5, 7, 0), (100, 8, 0, 0), (104, 5, 6, 0), (106, 5, 7, 0), (108, 7, 4, 0), (113, 8, 0, 0), (120, 4, 1, 0)]
theorem ok_X1_addDelivery : tab_X1_addDelivery.all (okE cX1_addDelivery) = true := by decide +kernel
def ed_X1_addDelivery : List (Nat × Instr × Nat) := [(1, .getfield 28, 3), (4, .getfield 95, 3), (8, .iaload, 1), (14, .if_icmp .ne 7, 3), (17, .ldc2_w 99, 3), (20, .lreturn, 1), (22, .getfield 28, 3), (25, .getfield 101, 3), (29, .laload, 1), (33, .ldc2_w 104, 3), (37, .ifCond .le 7, 3), (40, .ldc2_w 106, 3), (43, .lreturn, 1), (45, .getfield 28, 3), (48, .getfield 101, 3), (53, .laload, 1), (57, .lastore, 1), (59, .getfield 21, 3), (64, .invokevirtual 84, 3), (73, .if_icmp .eq 40, 3), (77, .getfield 35, 3), (82, .invokevirtual 108, 3), (85, .ifCond .eq 28, 3), (89, .getfield 35, 3), (94, .invokevirtual 108, 3), (97, .ifCond .eq 16, 3), (101, .getfield 49, 3), (110, .invokevirtual 112, 3), (114, .getfield 28, 3), (117, .getfield 101, 3), (121, .laload, 1), (122, .lreturn, 1)]
theorem okd_X1_addDelivery : ed_X1_addDelivery.all (okD cX1_addDelivery) = true := by decide +kernel
def f_X1_addDelivery (S : St) (p0 : Nat) (p1 : Int32) (p2 : Int32) (p3 : Int32) (p4 : Int64) : Option (Int64 × St) := lt (gR S p0 2) fun (a1 : Nat) => lt (gR S a1 0) fun (a3 : Nat) => ldI S a3 p1 fun (v5 : Int32) => if v5 = (-1) then (some ((-1), S)) else (lt (gR S p0 2) fun (a6 : Nat) => lt (gR S a6 3) fun (a8 : Nat) => ldJ S a8 p1 fun (v10 : Int64) => if (v10 + p4) ≤ 10000000 then (lt (gR S p0 2) fun (a11 : Nat) => lt (gR S a11 3) fun (a13 : Nat) => ldJ S a13 p1 fun (v15 : Int64) => stJ S a13 p1 (v15 + p4) fun (S16 : St) => lt (gR S16 p0 1) fun (a17 : Nat) => cl (f_X3_ownerAt S16 a17 p2 p3) fun (v19 : Int32) => jn (κ := St → Option (Int64 × St)) (fun S20 => lt (gR S20 p0 2) fun (a23 : Nat) => lt (gR S20 a23 3) fun (a25 : Nat) => ldJ S20 a25 p1 fun (v27 : Int64) => some (v27, S20)) fun k21 => if v19 = v5 then (k21 S16) else (lt (gR S16 p0 3) fun (a28 : Nat) => cl (f_X2_isActive S16 a28 v5) fun (v30 : Int32) => if v30 = 0 then (k21 S16) else (lt (gR S16 p0 3) fun (a31 : Nat) => cl (f_X2_isActive S16 a31 v19) fun (v33 : Int32) => if v33 = 0 then (k21 S16) else (lt (gR S16 p0 5) fun (a34 : Nat) => cl (f_X0_addDelivered S16 a34 v5 v19 p4) fun (S36 : St) => k21 S36)))) else (some ((-3), S)))
set_option maxHeartbeats 4000000 in
set_option maxRecDepth 100000 in
theorem c_X1_addDelivery (S : St) (p0 : Nat) (p1 : Int32) (p2 : Int32) (p3 : Int32) (p4 : Int64) : Ct yX1_addDelivery cX1_addDelivery 8 (some .long) 2 43 (fun _ => [.ref p0, .int p1, .int p2, .int p3, .long p4]) [(p0, 1)] S (f_X1_addDelivery S p0 p1 p2 p3 p4) oLS sL := by
  refine Ct_of RX1 rfl (by decide) (fun _ => Nat.le_of_ble_eq_true rfl) 2 (vs := fun _ => [some (.ref p0), some (.int p1), some (.int p2), some (.int p3), some (.long p4), none, none, none]) (fun _ => rfl) (fun C X E hr ht => ?_)
  have t0_ : tT C p0 1 := ht (p0, 1) (by simp)
  show Jd C 8 (QJ C oLS sL) S 0 [some (.ref p0), some (.int p1), some (.int p2), some (.int p3), some (.long p4), none, none, none] [] (f_X1_addDelivery S p0 p1 p2 p3 p4)
  unfold f_X1_addDelivery
  refine s_run X ok_X1_addDelivery 0 1 (pc' := 1) (vs' := [some (.ref p0), some (.int p1), some (.int p2), some (.int p3), some (.long p4), none, none, none]) (st' := [.ref p0]) rfl ?_
  refine s_getR X fl_X1_28 t0_ (dk okd_X1_addDelivery 0 rfl) (fun a1 (t2 : tT C a1 6) => ?_)
  refine s_getR X fl_X1_95 t2 (dk okd_X1_addDelivery 1 rfl) (fun a3 (t4 : tT C a3 13) => ?_)
  refine s_run X ok_X1_addDelivery 1 1 (pc' := 8) (vs' := [some (.ref p0), some (.int p1), some (.int p2), some (.int p3), some (.long p4), none, none, none]) (st' := [.int p1, .ref a3]) rfl ?_
  refine s_iald X t4 (dk okd_X1_addDelivery 2 rfl) (fun v5 => ?_)
  refine s_run X ok_X1_addDelivery 2 3 (pc' := 14) (vs' := [some (.ref p0), some (.int p1), some (.int p2), some (.int p3), some (.long p4), none, some (.int v5), none]) (st' := [.int (-1), .int v5]) rfl ?_
  refine s_icmp_ne (tgt := 21) X (dk okd_X1_addDelivery 3 rfl) (by decide) ?_ ?_
  · refine s_run X ok_X1_addDelivery 5 1 (pc' := 22) (vs' := [some (.ref p0), some (.int p1), some (.int p2), some (.int p3), some (.long p4), none, some (.int v5), none]) (st' := [.ref p0]) rfl ?_
    refine s_getR X fl_X1_28 t0_ (dk okd_X1_addDelivery 6 rfl) (fun a6 (t7 : tT C a6 6) => ?_)
    refine s_getR X fl_X1_101 t7 (dk okd_X1_addDelivery 7 rfl) (fun a8 (t9 : tT C a8 14) => ?_)
    refine s_run X ok_X1_addDelivery 6 1 (pc' := 29) (vs' := [some (.ref p0), some (.int p1), some (.int p2), some (.int p3), some (.long p4), none, some (.int v5), none]) (st' := [.int p1, .ref a8]) rfl ?_
    refine s_lald X t9 (dk okd_X1_addDelivery 8 rfl) (fun v10 => ?_)
    refine s_run X ok_X1_addDelivery 7 2 (pc' := 33) (vs' := [some (.ref p0), some (.int p1), some (.int p2), some (.int p3), some (.long p4), none, some (.int v5), none]) (st' := [.long (v10 + p4)]) rfl ?_
    refine s_ldc2 X cl_X1_104 (dk okd_X1_addDelivery 9 rfl) ?_
    refine s_run X ok_X1_addDelivery 9 1 (pc' := 37) (vs' := [some (.ref p0), some (.int p1), some (.int p2), some (.int p3), some (.long p4), none, some (.int v5), none]) (st' := [.int (lg_cmp (v10 + p4) 10000000)]) rfl ?_
    refine s_lif_le (tgt := 44) X (dk okd_X1_addDelivery 10 rfl) (by decide) ?_ ?_
    · refine s_run X ok_X1_addDelivery 10 1 (pc' := 45) (vs' := [some (.ref p0), some (.int p1), some (.int p2), some (.int p3), some (.long p4), none, some (.int v5), none]) (st' := [.ref p0]) rfl ?_
      refine s_getR X fl_X1_28 t0_ (dk okd_X1_addDelivery 13 rfl) (fun a11 (t12 : tT C a11 6) => ?_)
      refine s_getR X fl_X1_101 t12 (dk okd_X1_addDelivery 14 rfl) (fun a13 (t14 : tT C a13 14) => ?_)
      refine s_run X ok_X1_addDelivery 11 2 (pc' := 53) (vs' := [some (.ref p0), some (.int p1), some (.int p2), some (.int p3), some (.long p4), none, some (.int v5), none]) (st' := [.int p1, .ref a13, .int p1, .ref a13]) rfl ?_
      refine s_lald X t14 (dk okd_X1_addDelivery 15 rfl) (fun v15 => ?_)
      refine s_run X ok_X1_addDelivery 13 2 (pc' := 57) (vs' := [some (.ref p0), some (.int p1), some (.int p2), some (.int p3), some (.long p4), none, some (.int v5), none]) (st' := [.long (v15 + p4), .int p1, .ref a13]) rfl ?_
      refine s_last X t14 (dk okd_X1_addDelivery 16 rfl) (fun S16 => ?_)
      refine s_run X ok_X1_addDelivery 15 1 (pc' := 59) (vs' := [some (.ref p0), some (.int p1), some (.int p2), some (.int p3), some (.long p4), none, some (.int v5), none]) (st' := [.ref p0]) rfl ?_
      refine s_getR X fl_X1_21 t0_ (dk okd_X1_addDelivery 17 rfl) (fun a17 (t18 : tT C a17 3) => ?_)
      refine s_run X ok_X1_addDelivery 16 2 (pc' := 64) (vs' := [some (.ref p0), some (.int p1), some (.int p2), some (.int p3), some (.long p4), none, some (.int v5), none]) (st' := [.int p3, .int p2, .ref a17]) rfl ?_
      refine s_callV (b := a17) (As := [.int p2, .int p3]) (rest := []) X E mv_X1_84 (c_X3_ownerAt S16 a17 p2 p3) rfl (ta1 t18) rfl (by decide) t18 rfl rfl (Nat.le_of_ble_eq_true rfl) (Nat.le_of_ble_eq_true rfl) (Nat.le_of_ble_eq_true rfl) (dk okd_X1_addDelivery 18 rfl) (st' := fun v19 => [.int v19]) (fun _ => rfl) (fun v19 => ?_)
      refine s_run X ok_X1_addDelivery 18 3 (pc' := 73) (vs' := [some (.ref p0), some (.int p1), some (.int p2), some (.int p3), some (.long p4), none, some (.int v5), some (.int v19)]) (st' := [.int v5, .int v19]) rfl ?_
      refine s_jn (κ := St → Option (Int64 × St)) (fun k21 => ∀ (S20 : St), Jd C 8 (QJ C oLS sL) S20 113 [some (.ref p0), some (.int p1), none, none, none, none, none, none] [] (k21 S20)) (fun S20 => ?_) (fun k21 h22 => ?_)
      · refine s_run X ok_X1_addDelivery 29 1 (pc' := 114) (vs' := [some (.ref p0), some (.int p1), none, none, none, none, none, none]) (st' := [.ref p0]) rfl ?_
        refine s_getR X fl_X1_28 t0_ (dk okd_X1_addDelivery 28 rfl) (fun a23 (t24 : tT C a23 6) => ?_)
        refine s_getR X fl_X1_101 t24 (dk okd_X1_addDelivery 29 rfl) (fun a25 (t26 : tT C a25 14) => ?_)
        refine s_run X ok_X1_addDelivery 30 1 (pc' := 121) (vs' := [some (.ref p0), some (.int p1), none, none, none, none, none, none]) (st' := [.int p1, .ref a25]) rfl ?_
        refine s_lald X t26 (dk okd_X1_addDelivery 30 rfl) (fun v27 => ?_)
        exact s_lret X hr (dk okd_X1_addDelivery 31 rfl) rfl rfl
      · refine s_icmp_eq (tgt := 113) X (dk okd_X1_addDelivery 19 rfl) (by decide) ?_ ?_
        · exact s_less [true, true, false, false, false, false, false, false] rfl (h22 S16)
        · refine s_run X ok_X1_addDelivery 21 1 (pc' := 77) (vs' := [some (.ref p0), some (.int p1), some (.int p2), some (.int p3), some (.long p4), none, some (.int v5), some (.int v19)]) (st' := [.ref p0]) rfl ?_
          refine s_getR X fl_X1_35 t0_ (dk okd_X1_addDelivery 20 rfl) (fun a28 (t29 : tT C a28 2) => ?_)
          refine s_run X ok_X1_addDelivery 22 1 (pc' := 82) (vs' := [some (.ref p0), some (.int p1), some (.int p2), some (.int p3), some (.long p4), none, some (.int v5), some (.int v19)]) (st' := [.int v5, .ref a28]) rfl ?_
          refine s_callV (b := a28) (As := [.int v5]) (rest := []) X E mv_X1_108 (c_X2_isActive S16 a28 v5) rfl (ta1 t29) rfl (by decide) t29 rfl rfl (Nat.le_of_ble_eq_true rfl) (Nat.le_of_ble_eq_true rfl) (Nat.le_of_ble_eq_true rfl) (dk okd_X1_addDelivery 21 rfl) (st' := fun v30 => [.int v30]) (fun _ => rfl) (fun v30 => ?_)
          refine s_if_eq (tgt := 113) X (dk okd_X1_addDelivery 22 rfl) (by decide) ?_ ?_
          · exact s_less [true, true, false, false, false, false, false, false] rfl (h22 S16)
          · refine s_run X ok_X1_addDelivery 23 1 (pc' := 89) (vs' := [some (.ref p0), some (.int p1), some (.int p2), some (.int p3), some (.long p4), none, some (.int v5), some (.int v19)]) (st' := [.ref p0]) rfl ?_
            refine s_getR X fl_X1_35 t0_ (dk okd_X1_addDelivery 23 rfl) (fun a31 (t32 : tT C a31 2) => ?_)
            refine s_run X ok_X1_addDelivery 24 1 (pc' := 94) (vs' := [some (.ref p0), some (.int p1), some (.int p2), some (.int p3), some (.long p4), none, some (.int v5), some (.int v19)]) (st' := [.int v19, .ref a31]) rfl ?_
            refine s_callV (b := a31) (As := [.int v19]) (rest := []) X E mv_X1_108 (c_X2_isActive S16 a31 v19) rfl (ta1 t32) rfl (by decide) t32 rfl rfl (Nat.le_of_ble_eq_true rfl) (Nat.le_of_ble_eq_true rfl) (Nat.le_of_ble_eq_true rfl) (dk okd_X1_addDelivery 24 rfl) (st' := fun v33 => [.int v33]) (fun _ => rfl) (fun v33 => ?_)
            refine s_if_eq (tgt := 113) X (dk okd_X1_addDelivery 25 rfl) (by decide) ?_ ?_
            · exact s_less [true, true, false, false, false, false, false, false] rfl (h22 S16)
            · refine s_run X ok_X1_addDelivery 25 1 (pc' := 101) (vs' := [some (.ref p0), some (.int p1), some (.int p2), some (.int p3), some (.long p4), none, some (.int v5), some (.int v19)]) (st' := [.ref p0]) rfl ?_
              refine s_getR X fl_X1_49 t0_ (dk okd_X1_addDelivery 26 rfl) (fun a34 (t35 : tT C a34 0) => ?_)
              refine s_run X ok_X1_addDelivery 26 3 (pc' := 110) (vs' := [some (.ref p0), some (.int p1), some (.int p2), some (.int p3), some (.long p4), none, some (.int v5), some (.int v19)]) (st' := [.long p4, .int v19, .int v5, .ref a34]) rfl ?_
              refine s_callV (b := a34) (As := [.int v5, .int v19, .long p4]) (rest := []) X E mv_X1_112 (c_X0_addDelivered S16 a34 v5 v19 p4) rfl (ta1 t35) rfl (by decide) t35 rfl rfl (Nat.le_of_ble_eq_true rfl) (Nat.le_of_ble_eq_true rfl) (Nat.le_of_ble_eq_true rfl) (dk okd_X1_addDelivery 27 rfl) (st' := fun S36 => []) (fun _ => rfl) (fun S36 => ?_)
              exact s_less [true, true, false, false, false, false, false, false] rfl (h22 S36)
    · refine s_ldc2 X cl_X1_106 (dk okd_X1_addDelivery 11 rfl) ?_
      exact s_lret X hr (dk okd_X1_addDelivery 12 rfl) rfl rfl
  · refine s_ldc2 X cl_X1_99 (dk okd_X1_addDelivery 4 rfl) ?_
    exact s_lret X hr (dk okd_X1_addDelivery 5 rfl) rfl rfl
def tab_X1_creditBetween : List En := [(0, 8, 0, 0), (4, 4, 1, 0), (5, 4, 2, 0), (9, 8, 0, 0), (16, 31, 0, 0), (20, 8, 0, 0)]
theorem ok_X1_creditBetween : tab_X1_creditBetween.all (okE cX1_creditBetween) = true := by decide +kernel
def ed_X1_creditBetween : List (Nat × Instr × Nat) := [(1, .getfield 49, 3), (6, .invokevirtual 116, 3), (10, .getfield 12, 3), (13, .getfield 120, 3), (17, .invokestatic 123, 3), (21, .getfield 12, 3), (24, .getfield 127, 3), (27, .invokestatic 131, 3), (30, .lreturn, 1)]
theorem okd_X1_creditBetween : ed_X1_creditBetween.all (okD cX1_creditBetween) = true := by decide +kernel
def f_X1_creditBetween (S : St) (p0 : Nat) (p1 : Int32) (p2 : Int32) : Option (Int64) := lt (gR S p0 5) fun (a1 : Nat) => cl (f_X0_delivered S a1 p1 p2) fun (v3 : Int64) => lt (gR S p0 0) fun (a4 : Nat) => lt (gI S a4 5) fun (v6 : Int32) => cl (f_X11_rateOf S v3 (Int32.toInt64 v6)) fun (v7 : Int64) => lt (gR S p0 0) fun (a8 : Nat) => lt (gJ S a8 6) fun (v10 : Int64) => lt (if v10 < v7 then v10 else v7) fun (v11 : Int64) => some v11
set_option maxHeartbeats 4000000 in
set_option maxRecDepth 100000 in
theorem c_X1_creditBetween (S : St) (p0 : Nat) (p1 : Int32) (p2 : Int32) : Ct yX1_creditBetween cX1_creditBetween 3 (some .long) 1 23 (fun _ => [.ref p0, .int p1, .int p2]) [(p0, 1)] S (f_X1_creditBetween S p0 p1 p2) oL (fun _ => S) := by
  refine Ct_of RX1 rfl (by decide) (fun _ => Nat.le_of_ble_eq_true rfl) 0 (vs := fun _ => [some (.ref p0), some (.int p1), some (.int p2)]) (fun _ => rfl) (fun C X E hr ht => ?_)
  have t0_ : tT C p0 1 := ht (p0, 1) (by simp)
  show Jd C 3 (QJ C oL (fun _ => S)) S 0 [some (.ref p0), some (.int p1), some (.int p2)] [] (f_X1_creditBetween S p0 p1 p2)
  unfold f_X1_creditBetween
  refine s_run X ok_X1_creditBetween 0 1 (pc' := 1) (vs' := [some (.ref p0), some (.int p1), some (.int p2)]) (st' := [.ref p0]) rfl ?_
  refine s_getR X fl_X1_49 t0_ (dk okd_X1_creditBetween 0 rfl) (fun a1 (t2 : tT C a1 0) => ?_)
  refine s_run X ok_X1_creditBetween 1 2 (pc' := 6) (vs' := [some (.ref p0), some (.int p1), some (.int p2)]) (st' := [.int p2, .int p1, .ref a1]) rfl ?_
  refine s_callV (b := a1) (As := [.int p1, .int p2]) (rest := []) X E mv_X1_116 (c_X0_delivered S a1 p1 p2) rfl (ta1 t2) rfl (by decide) t2 rfl rfl (Nat.le_of_ble_eq_true rfl) (Nat.le_of_ble_eq_true rfl) (Nat.le_of_ble_eq_true rfl) (dk okd_X1_creditBetween 1 rfl) (st' := fun v3 => [.long v3]) (fun _ => rfl) (fun v3 => ?_)
  refine s_run X ok_X1_creditBetween 3 1 (pc' := 10) (vs' := [some (.ref p0), some (.int p1), some (.int p2)]) (st' := [.ref p0, .long v3]) rfl ?_
  refine s_getR X fl_X1_12 t0_ (dk okd_X1_creditBetween 2 rfl) (fun a4 (t5 : tT C a4 7) => ?_)
  refine s_getI X fl_X1_120 t5 (dk okd_X1_creditBetween 3 rfl) (fun v6 => ?_)
  refine s_run X ok_X1_creditBetween 4 1 (pc' := 17) (vs' := [some (.ref p0), some (.int p1), some (.int p2)]) (st' := [.long (Int32.toInt64 v6), .long v3]) rfl ?_
  refine s_callN (As := [.long v3, .long (Int32.toInt64 v6)]) (rest := []) X E mn_X1_123 (c_X11_rateOf S v3 (Int32.toInt64 v6)) rfl (ta0) rfl rfl (Nat.le_of_ble_eq_true rfl) (Nat.le_of_ble_eq_true rfl) (Nat.le_of_ble_eq_true rfl) (dk okd_X1_creditBetween 4 rfl) (st' := fun v7 => [.long v7]) (fun _ => rfl) (fun v7 => ?_)
  refine s_run X ok_X1_creditBetween 5 1 (pc' := 21) (vs' := [some (.ref p0), some (.int p1), some (.int p2)]) (st' := [.ref p0, .long v7]) rfl ?_
  refine s_getR X fl_X1_12 t0_ (dk okd_X1_creditBetween 5 rfl) (fun a8 (t9 : tT C a8 7) => ?_)
  refine s_getJ X fl_X1_127 t9 (dk okd_X1_creditBetween 6 rfl) (fun v10 => ?_)
  refine s_MminJ X mm_X1_131 (Nat.le_of_ble_eq_true rfl) (Nat.le_of_ble_eq_true rfl) (dk okd_X1_creditBetween 7 rfl) (fun v11 => ?_)
  exact s_lret X hr (dk okd_X1_creditBetween 8 rfl) rfl rfl
def tab_X1_creditsPaid : List En := [(0, 3, 0, 0), (1, 12, 2, 0), (2, 0, 0, 0), (3, 11, 4, 0), (5, 5, 4, 0), (7, 8, 0, 0), (17, 6, 2, 0), (18, 8, 0, 0), (19, 4, 1, 0), (20, 5, 4, 0), (25, 23, 0, 0), (26, 12, 2, 0), (27, 16, 4, 1), (30, 41, 5, 0), (33, 6, 2, 0)]
theorem ok_X1_creditsPaid : tab_X1_creditsPaid.all (okE cX1_creditsPaid) = true := by decide +kernel
def ed_X1_creditsPaid : List (Nat × Instr × Nat) := [(8, .getfield 35, 3), (11, .getfield 65, 3), (14, .if_icmp .ge 19, 3), (22, .invokevirtual 136, 3), (34, .lreturn, 1)]
theorem okd_X1_creditsPaid : ed_X1_creditsPaid.all (okD cX1_creditsPaid) = true := by decide +kernel
def f_X1_creditsPaid (S : St) (p0 : Nat) (p1 : Int32) : Option (Int64) := jn (κ := Int64 → Option (Int64)) (fun x1 => some x1) fun k2 => lp (κ := Int64 → Int32 → Option (Int64)) (fun _ _ => none) (fun k6 x4 x5 => lt (gR S p0 3) fun (a8 : Nat) => lt (gI S a8 8) fun (v10 : Int32) => if v10 ≤ x5 then (k2 x4) else (cl (f_X1_creditBetween S p0 p1 x5) fun (v11 : Int64) => lt (x4 + v11) fun (v12 : Int64) => k6 v12 (x5 + 1))) FU 0 0
set_option maxHeartbeats 4000000 in
set_option maxRecDepth 100000 in
theorem c_X1_creditsPaid (S : St) (p0 : Nat) (p1 : Int32) : Ct yX1_creditsPaid cX1_creditsPaid 5 (some .long) 2 45 (fun _ => [.ref p0, .int p1]) [(p0, 1)] S (f_X1_creditsPaid S p0 p1) oL (fun _ => S) := by
  refine Ct_of RX1 rfl (by decide) (fun _ => Nat.le_of_ble_eq_true rfl) 3 (vs := fun _ => [some (.ref p0), some (.int p1), none, none, none]) (fun _ => rfl) (fun C X E hr ht => ?_)
  have t0_ : tT C p0 1 := ht (p0, 1) (by simp)
  show Jd C 5 (QJ C oL (fun _ => S)) S 0 [some (.ref p0), some (.int p1), none, none, none] [] (f_X1_creditsPaid S p0 p1)
  unfold f_X1_creditsPaid
  refine s_run X ok_X1_creditsPaid 0 4 (pc' := 5) (vs' := [some (.ref p0), some (.int p1), some (.long 0), none, some (.int 0)]) (st' := []) rfl ?_
  refine s_jn (κ := Int64 → Option (Int64)) (fun k2 => ∀ (x1 : Int64), Jd C 5 (QJ C oL (fun _ => S)) S 33 [none, none, some (.long x1), none, none] [] (k2 x1)) (fun x1 => ?_) (fun k2 h3 => ?_)
  · refine s_run X ok_X1_creditsPaid 14 1 (pc' := 34) (vs' := [none, none, some (.long x1), none, none]) (st' := [.long x1]) rfl ?_
    exact s_lret X hr (dk okd_X1_creditsPaid 4 rfl) rfl rfl
  · refine s_lp (κ := Int64 → Int32 → Option (Int64)) (fun k6 => ∀ (x4 : Int64) (x5 : Int32), Jd C 5 (QJ C oL (fun _ => S)) S 5 [some (.ref p0), some (.int p1), some (.long x4), none, some (.int x5)] [] (k6 x4 x5)) (fun _ _ => s_none) (fun k6 h7 x4 x5 => ?_) FU 0 0
    refine s_run X ok_X1_creditsPaid 4 2 (pc' := 8) (vs' := [some (.ref p0), some (.int p1), some (.long x4), none, some (.int x5)]) (st' := [.ref p0, .int x5]) rfl ?_
    refine s_getR X fl_X1_35 t0_ (dk okd_X1_creditsPaid 0 rfl) (fun a8 (t9 : tT C a8 2) => ?_)
    refine s_getI X fl_X1_65 t9 (dk okd_X1_creditsPaid 1 rfl) (fun v10 => ?_)
    refine s_icmp_ge (tgt := 33) X (dk okd_X1_creditsPaid 2 rfl) (by decide) ?_ ?_
    · exact s_less [false, false, true, false, false] rfl (h3 x4)
    · refine s_run X ok_X1_creditsPaid 6 4 (pc' := 22) (vs' := [some (.ref p0), some (.int p1), some (.long x4), none, some (.int x5)]) (st' := [.int x5, .int p1, .ref p0, .long x4]) rfl ?_
      refine s_callV (b := p0) (As := [.int p1, .int x5]) (rest := [.long x4]) X E mv_X1_136 (c_X1_creditBetween S p0 p1 x5) rfl (ta1 t0_) rfl (by decide) t0_ rfl rfl (Nat.le_of_ble_eq_true rfl) (Nat.le_of_ble_eq_true rfl) (Nat.le_of_ble_eq_true rfl) (dk okd_X1_creditsPaid 3 rfl) (st' := fun v11 => [.long v11, .long x4]) (fun _ => rfl) (fun v11 => ?_)
      refine s_run X ok_X1_creditsPaid 10 1 (pc' := 26) (vs' := [some (.ref p0), some (.int p1), some (.long x4), none, some (.int x5)]) (st' := [.long (x4 + v11)]) rfl ?_
      refine s_nmJ (fun v12 => ?_)
      refine s_run X ok_X1_creditsPaid 11 3 (pc' := 5) (vs' := [some (.ref p0), some (.int p1), some (.long v12), none, some (.int (x5 + 1))]) (st' := []) rfl ?_
      exact h7 v12 (x5 + 1)
def tab_X1_creditsReceived : List En := [(0, 3, 0, 0), (1, 12, 2, 0), (2, 0, 0, 0), (3, 11, 4, 0), (5, 5, 4, 0), (7, 8, 0, 0), (17, 6, 2, 0), (18, 8, 0, 0), (19, 5, 4, 0), (21, 4, 1, 0), (25, 23, 0, 0), (26, 12, 2, 0), (27, 16, 4, 1), (30, 41, 5, 0), (33, 6, 2, 0)]
theorem ok_X1_creditsReceived : tab_X1_creditsReceived.all (okE cX1_creditsReceived) = true := by decide +kernel
def ed_X1_creditsReceived : List (Nat × Instr × Nat) := [(8, .getfield 35, 3), (11, .getfield 65, 3), (14, .if_icmp .ge 19, 3), (22, .invokevirtual 136, 3), (34, .lreturn, 1)]
theorem okd_X1_creditsReceived : ed_X1_creditsReceived.all (okD cX1_creditsReceived) = true := by decide +kernel
def f_X1_creditsReceived (S : St) (p0 : Nat) (p1 : Int32) : Option (Int64) := jn (κ := Int64 → Option (Int64)) (fun x1 => some x1) fun k2 => lp (κ := Int64 → Int32 → Option (Int64)) (fun _ _ => none) (fun k6 x4 x5 => lt (gR S p0 3) fun (a8 : Nat) => lt (gI S a8 8) fun (v10 : Int32) => if v10 ≤ x5 then (k2 x4) else (cl (f_X1_creditBetween S p0 x5 p1) fun (v11 : Int64) => lt (x4 + v11) fun (v12 : Int64) => k6 v12 (x5 + 1))) FU 0 0
set_option maxHeartbeats 4000000 in
set_option maxRecDepth 100000 in
theorem c_X1_creditsReceived (S : St) (p0 : Nat) (p1 : Int32) : Ct yX1_creditsReceived cX1_creditsReceived 5 (some .long) 2 45 (fun _ => [.ref p0, .int p1]) [(p0, 1)] S (f_X1_creditsReceived S p0 p1) oL (fun _ => S) := by
  refine Ct_of RX1 rfl (by decide) (fun _ => Nat.le_of_ble_eq_true rfl) 3 (vs := fun _ => [some (.ref p0), some (.int p1), none, none, none]) (fun _ => rfl) (fun C X E hr ht => ?_)
  have t0_ : tT C p0 1 := ht (p0, 1) (by simp)
  show Jd C 5 (QJ C oL (fun _ => S)) S 0 [some (.ref p0), some (.int p1), none, none, none] [] (f_X1_creditsReceived S p0 p1)
  unfold f_X1_creditsReceived
  refine s_run X ok_X1_creditsReceived 0 4 (pc' := 5) (vs' := [some (.ref p0), some (.int p1), some (.long 0), none, some (.int 0)]) (st' := []) rfl ?_
  refine s_jn (κ := Int64 → Option (Int64)) (fun k2 => ∀ (x1 : Int64), Jd C 5 (QJ C oL (fun _ => S)) S 33 [none, none, some (.long x1), none, none] [] (k2 x1)) (fun x1 => ?_) (fun k2 h3 => ?_)
  · refine s_run X ok_X1_creditsReceived 14 1 (pc' := 34) (vs' := [none, none, some (.long x1), none, none]) (st' := [.long x1]) rfl ?_
    exact s_lret X hr (dk okd_X1_creditsReceived 4 rfl) rfl rfl
  · refine s_lp (κ := Int64 → Int32 → Option (Int64)) (fun k6 => ∀ (x4 : Int64) (x5 : Int32), Jd C 5 (QJ C oL (fun _ => S)) S 5 [some (.ref p0), some (.int p1), some (.long x4), none, some (.int x5)] [] (k6 x4 x5)) (fun _ _ => s_none) (fun k6 h7 x4 x5 => ?_) FU 0 0
    refine s_run X ok_X1_creditsReceived 4 2 (pc' := 8) (vs' := [some (.ref p0), some (.int p1), some (.long x4), none, some (.int x5)]) (st' := [.ref p0, .int x5]) rfl ?_
    refine s_getR X fl_X1_35 t0_ (dk okd_X1_creditsReceived 0 rfl) (fun a8 (t9 : tT C a8 2) => ?_)
    refine s_getI X fl_X1_65 t9 (dk okd_X1_creditsReceived 1 rfl) (fun v10 => ?_)
    refine s_icmp_ge (tgt := 33) X (dk okd_X1_creditsReceived 2 rfl) (by decide) ?_ ?_
    · exact s_less [false, false, true, false, false] rfl (h3 x4)
    · refine s_run X ok_X1_creditsReceived 6 4 (pc' := 22) (vs' := [some (.ref p0), some (.int p1), some (.long x4), none, some (.int x5)]) (st' := [.int p1, .int x5, .ref p0, .long x4]) rfl ?_
      refine s_callV (b := p0) (As := [.int x5, .int p1]) (rest := [.long x4]) X E mv_X1_136 (c_X1_creditBetween S p0 x5 p1) rfl (ta1 t0_) rfl (by decide) t0_ rfl rfl (Nat.le_of_ble_eq_true rfl) (Nat.le_of_ble_eq_true rfl) (Nat.le_of_ble_eq_true rfl) (dk okd_X1_creditsReceived 3 rfl) (st' := fun v11 => [.long v11, .long x4]) (fun _ => rfl) (fun v11 => ?_)
      refine s_run X ok_X1_creditsReceived 10 1 (pc' := 26) (vs' := [some (.ref p0), some (.int p1), some (.long x4), none, some (.int x5)]) (st' := [.long (x4 + v11)]) rfl ?_
      refine s_nmJ (fun v12 => ?_)
      refine s_run X ok_X1_creditsReceived 11 3 (pc' := 5) (vs' := [some (.ref p0), some (.int p1), some (.long v12), none, some (.int (x5 + 1))]) (st' := []) rfl ?_
      exact h7 v12 (x5 + 1)
def tab_X1_interestOn : List En := [(0, 6, 1, 0), (1, 8, 0, 0), (8, 31, 0, 0)]
theorem ok_X1_interestOn : tab_X1_interestOn.all (okE cX1_interestOn) = true := by decide +kernel
def ed_X1_interestOn : List (Nat × Instr × Nat) := [(2, .getfield 12, 3), (5, .getfield 139, 3), (9, .invokestatic 123, 3), (12, .lreturn, 1)]
theorem okd_X1_interestOn : ed_X1_interestOn.all (okD cX1_interestOn) = true := by decide +kernel
def f_X1_interestOn (S : St) (p0 : Nat) (p1 : Int64) : Option (Int64) := lt (gR S p0 0) fun (a1 : Nat) => lt (gI S a1 7) fun (v3 : Int32) => cl (f_X11_rateOf S p1 (Int32.toInt64 v3)) fun (v4 : Int64) => some v4
set_option maxHeartbeats 4000000 in
set_option maxRecDepth 100000 in
theorem c_X1_interestOn (S : St) (p0 : Nat) (p1 : Int64) : Ct yX1_interestOn cX1_interestOn 3 (some .long) 1 23 (fun _ => [.ref p0, .long p1]) [(p0, 1)] S (f_X1_interestOn S p0 p1) oL (fun _ => S) := by
  refine Ct_of RX1 rfl (by decide) (fun _ => Nat.le_of_ble_eq_true rfl) 0 (vs := fun _ => [some (.ref p0), some (.long p1), none]) (fun _ => rfl) (fun C X E hr ht => ?_)
  have t0_ : tT C p0 1 := ht (p0, 1) (by simp)
  show Jd C 3 (QJ C oL (fun _ => S)) S 0 [some (.ref p0), some (.long p1), none] [] (f_X1_interestOn S p0 p1)
  unfold f_X1_interestOn
  refine s_run X ok_X1_interestOn 0 2 (pc' := 2) (vs' := [some (.ref p0), some (.long p1), none]) (st' := [.ref p0, .long p1]) rfl ?_
  refine s_getR X fl_X1_12 t0_ (dk okd_X1_interestOn 0 rfl) (fun a1 (t2 : tT C a1 7) => ?_)
  refine s_getI X fl_X1_139 t2 (dk okd_X1_interestOn 1 rfl) (fun v3 => ?_)
  refine s_run X ok_X1_interestOn 2 1 (pc' := 9) (vs' := [some (.ref p0), some (.long p1), none]) (st' := [.long (Int32.toInt64 v3), .long p1]) rfl ?_
  refine s_callN (As := [.long p1, .long (Int32.toInt64 v3)]) (rest := []) X E mn_X1_123 (c_X11_rateOf S p1 (Int32.toInt64 v3)) rfl (ta0) rfl rfl (Nat.le_of_ble_eq_true rfl) (Nat.le_of_ble_eq_true rfl) (Nat.le_of_ble_eq_true rfl) (dk okd_X1_interestOn 2 rfl) (st' := fun v4 => [.long v4]) (fun _ => rfl) (fun v4 => ?_)
  exact s_lret X hr (dk okd_X1_interestOn 3 rfl) rfl rfl
def tab_X1_bill : List En := [(0, 8, 0, 0), (4, 4, 1, 0), (5, 8, 0, 0), (12, 8, 0, 0), (16, 4, 1, 0), (24, 8, 0, 0), (28, 4, 1, 0), (32, 3, 0, 0), (33, 40, 0, 0), (37, 0, 0, 1), (38, 41, 42, 0), (41, 0, 0, 0), (42, 10, 2, 0), (43, 8, 0, 0), (50, 4, 1, 0), (51, 4, 2, 0), (55, 8, 0, 0), (62, 4, 1, 0), (64, 0, 0, 1), (65, 17, 0, 0), (66, 41, 70, 0), (69, 0, 0, 0), (71, 8, 0, 0), (78, 4, 1, 0), (79, 37, 0, 0), (81, 8, 0, 0), (85, 0, 0, 5), (87, 23, 0, 0), (89, 8, 0, 0), (96, 4, 1, 0), (97, 37, 0, 0), (99, 8, 0, 0), (103, 0, 0, 1), (105, 23, 0, 0)]
theorem ok_X1_bill : tab_X1_bill.all (okE cX1_bill) = true := by decide +kernel
def ed_X1_bill : List (Nat × Instr × Nat) := [(1, .getfield 49, 3), (6, .getfield 53, 3), (9, .invokevirtual 211, 3), (13, .getfield 35, 3), (17, .invokevirtual 108, 3), (20, .ifCond .ne 4, 3), (23, .return_, 1), (25, .getfield 35, 3), (29, .invokevirtual 158, 3), (34, .ifCond .le 7, 3), (44, .getfield 35, 3), (47, .getfield 215, 3), (52, .ifCond .eq 17, 3), (56, .getfield 35, 3), (59, .getfield 215, 3), (63, .iaload, 1), (70, .iastore, 1), (72, .getfield 35, 3), (75, .getfield 196, 3), (80, .laload, 1), (82, .getfield 53, 3), (86, .laload, 1), (88, .lastore, 1), (90, .getfield 49, 3), (93, .getfield 218, 3), (98, .laload, 1), (100, .getfield 53, 3), (104, .laload, 1), (106, .lastore, 1), (107, .return_, 1)]
theorem okd_X1_bill : ed_X1_bill.all (okD cX1_bill) = true := by decide +kernel
def f_X1_bill (S : St) (p0 : Nat) (p1 : Int32) : Option (St) := lt (gR S p0 5) fun (a1 : Nat) => lt (gR S p0 6) fun (a3 : Nat) => cl (f_X0_enterInvoice S a1 p1 a3) fun (S5 : St) => lt (gR S5 p0 3) fun (a6 : Nat) => cl (f_X2_isActive S5 a6 p1) fun (v8 : Int32) => if v8 = 0 then (some S5) else (lt (gR S5 p0 3) fun (a9 : Nat) => cl (f_X2_owedBy S5 a9 p1) fun (v11 : Int64) => jn (κ := Int32 → Option (St)) (fun x12 => lt (gR S5 p0 3) fun (a15 : Nat) => lt (gR S5 a15 6) fun (a17 : Nat) => jn (κ := Int32 → Option (St)) (fun x19 => stI S5 a17 p1 x19 fun (S22 : St) => lt (gR S22 p0 3) fun (a23 : Nat) => lt (gR S22 a23 7) fun (a25 : Nat) => ldJ S22 a25 p1 fun (v27 : Int64) => lt (gR S22 p0 6) fun (a28 : Nat) => ldJ S22 a28 5 fun (v30 : Int64) => stJ S22 a25 p1 (v27 + v30) fun (S31 : St) => lt (gR S31 p0 5) fun (a32 : Nat) => lt (gR S31 a32 3) fun (a34 : Nat) => ldJ S31 a34 p1 fun (v36 : Int64) => lt (gR S31 p0 6) fun (a37 : Nat) => ldJ S31 a37 1 fun (v39 : Int64) => stJ S31 a34 p1 (v36 + v39) fun (S40 : St) => some S40) fun k20 => if x12 = 0 then (k20 0) else (lt (gR S5 p0 3) fun (a41 : Nat) => lt (gR S5 a41 6) fun (a43 : Nat) => ldI S5 a43 p1 fun (v45 : Int32) => k20 (v45 + 1))) fun k13 => if v11 ≤ 0 then (k13 0) else (k13 1))
set_option maxHeartbeats 4000000 in
set_option maxRecDepth 100000 in
theorem c_X1_bill (S : St) (p0 : Nat) (p1 : Int32) : Ct yX1_bill cX1_bill 3 none 2 70 (fun _ => [.ref p0, .int p1]) [(p0, 1)] S (f_X1_bill S p0 p1) oV sV := by
  refine Ct_of RX1 rfl (by decide) (fun _ => Nat.le_of_ble_eq_true rfl) 1 (vs := fun _ => [some (.ref p0), some (.int p1), none]) (fun _ => rfl) (fun C X E hr ht => ?_)
  have t0_ : tT C p0 1 := ht (p0, 1) (by simp)
  show Jd C 3 (QJ C oV sV) S 0 [some (.ref p0), some (.int p1), none] [] (f_X1_bill S p0 p1)
  unfold f_X1_bill
  refine s_run X ok_X1_bill 0 1 (pc' := 1) (vs' := [some (.ref p0), some (.int p1), none]) (st' := [.ref p0]) rfl ?_
  refine s_getR X fl_X1_49 t0_ (dk okd_X1_bill 0 rfl) (fun a1 (t2 : tT C a1 0) => ?_)
  refine s_run X ok_X1_bill 1 2 (pc' := 6) (vs' := [some (.ref p0), some (.int p1), none]) (st' := [.ref p0, .int p1, .ref a1]) rfl ?_
  refine s_getR X fl_X1_53 t0_ (dk okd_X1_bill 1 rfl) (fun a3 (t4 : tT C a3 14) => ?_)
  refine s_callV (b := a1) (As := [.int p1, .ref a3]) (rest := []) X E mv_X1_211 (c_X0_enterInvoice S a1 p1 a3) rfl (ta2 t2 t4) rfl (by decide) t2 rfl rfl (Nat.le_of_ble_eq_true rfl) (Nat.le_of_ble_eq_true rfl) (Nat.le_of_ble_eq_true rfl) (dk okd_X1_bill 2 rfl) (st' := fun S5 => []) (fun _ => rfl) (fun S5 => ?_)
  refine s_run X ok_X1_bill 3 1 (pc' := 13) (vs' := [some (.ref p0), some (.int p1), none]) (st' := [.ref p0]) rfl ?_
  refine s_getR X fl_X1_35 t0_ (dk okd_X1_bill 3 rfl) (fun a6 (t7 : tT C a6 2) => ?_)
  refine s_run X ok_X1_bill 4 1 (pc' := 17) (vs' := [some (.ref p0), some (.int p1), none]) (st' := [.int p1, .ref a6]) rfl ?_
  refine s_callV (b := a6) (As := [.int p1]) (rest := []) X E mv_X1_108 (c_X2_isActive S5 a6 p1) rfl (ta1 t7) rfl (by decide) t7 rfl rfl (Nat.le_of_ble_eq_true rfl) (Nat.le_of_ble_eq_true rfl) (Nat.le_of_ble_eq_true rfl) (dk okd_X1_bill 4 rfl) (st' := fun v8 => [.int v8]) (fun _ => rfl) (fun v8 => ?_)
  refine s_if_ne (tgt := 24) X (dk okd_X1_bill 5 rfl) (by decide) ?_ ?_
  · refine s_run X ok_X1_bill 5 1 (pc' := 25) (vs' := [some (.ref p0), some (.int p1), none]) (st' := [.ref p0]) rfl ?_
    refine s_getR X fl_X1_35 t0_ (dk okd_X1_bill 7 rfl) (fun a9 (t10 : tT C a9 2) => ?_)
    refine s_run X ok_X1_bill 6 1 (pc' := 29) (vs' := [some (.ref p0), some (.int p1), none]) (st' := [.int p1, .ref a9]) rfl ?_
    refine s_callV (b := a9) (As := [.int p1]) (rest := []) X E mv_X1_158 (c_X2_owedBy S5 a9 p1) rfl (ta1 t10) rfl (by decide) t10 rfl rfl (Nat.le_of_ble_eq_true rfl) (Nat.le_of_ble_eq_true rfl) (Nat.le_of_ble_eq_true rfl) (dk okd_X1_bill 8 rfl) (st' := fun v11 => [.long v11]) (fun _ => rfl) (fun v11 => ?_)
    refine s_run X ok_X1_bill 7 2 (pc' := 34) (vs' := [some (.ref p0), some (.int p1), none]) (st' := [.int (lg_cmp v11 0)]) rfl ?_
    refine s_jn (κ := Int32 → Option (St)) (fun k13 => ∀ (x12 : Int32), Jd C 3 (QJ C oV sV) S5 42 [some (.ref p0), some (.int p1), none] [.int x12] (k13 x12)) (fun x12 => ?_) (fun k13 h14 => ?_)
    · refine s_run X ok_X1_bill 12 2 (pc' := 44) (vs' := [some (.ref p0), some (.int p1), some (.int x12)]) (st' := [.ref p0]) rfl ?_
      refine s_getR X fl_X1_35 t0_ (dk okd_X1_bill 10 rfl) (fun a15 (t16 : tT C a15 2) => ?_)
      refine s_getR X fl_X1_215 t16 (dk okd_X1_bill 11 rfl) (fun a17 (t18 : tT C a17 13) => ?_)
      refine s_run X ok_X1_bill 14 2 (pc' := 52) (vs' := [some (.ref p0), some (.int p1), some (.int x12)]) (st' := [.int x12, .int p1, .ref a17]) rfl ?_
      refine s_jn (κ := Int32 → Option (St)) (fun k20 => ∀ (x19 : Int32), Jd C 3 (QJ C oV sV) S5 70 [some (.ref p0), some (.int p1), none] [.int x19, .int p1, .ref a17] (k20 x19)) (fun x19 => ?_) (fun k20 h21 => ?_)
      · refine s_iast X t18 (dk okd_X1_bill 16 rfl) (fun S22 => ?_)
        refine s_run X ok_X1_bill 22 1 (pc' := 72) (vs' := [some (.ref p0), some (.int p1), none]) (st' := [.ref p0]) rfl ?_
        refine s_getR X fl_X1_35 t0_ (dk okd_X1_bill 17 rfl) (fun a23 (t24 : tT C a23 2) => ?_)
        refine s_getR X fl_X1_196 t24 (dk okd_X1_bill 18 rfl) (fun a25 (t26 : tT C a25 14) => ?_)
        refine s_run X ok_X1_bill 23 2 (pc' := 80) (vs' := [some (.ref p0), some (.int p1), none]) (st' := [.int p1, .ref a25, .int p1, .ref a25]) rfl ?_
        refine s_lald X t26 (dk okd_X1_bill 19 rfl) (fun v27 => ?_)
        refine s_run X ok_X1_bill 25 1 (pc' := 82) (vs' := [some (.ref p0), some (.int p1), none]) (st' := [.ref p0, .long v27, .int p1, .ref a25]) rfl ?_
        refine s_getR X fl_X1_53 t0_ (dk okd_X1_bill 20 rfl) (fun a28 (t29 : tT C a28 14) => ?_)
        refine s_run X ok_X1_bill 26 1 (pc' := 86) (vs' := [some (.ref p0), some (.int p1), none]) (st' := [.int 5, .ref a28, .long v27, .int p1, .ref a25]) rfl ?_
        refine s_lald X t29 (dk okd_X1_bill 21 rfl) (fun v30 => ?_)
        refine s_run X ok_X1_bill 27 1 (pc' := 88) (vs' := [some (.ref p0), some (.int p1), none]) (st' := [.long (v27 + v30), .int p1, .ref a25]) rfl ?_
        refine s_last X t26 (dk okd_X1_bill 22 rfl) (fun S31 => ?_)
        refine s_run X ok_X1_bill 28 1 (pc' := 90) (vs' := [some (.ref p0), some (.int p1), none]) (st' := [.ref p0]) rfl ?_
        refine s_getR X fl_X1_49 t0_ (dk okd_X1_bill 23 rfl) (fun a32 (t33 : tT C a32 0) => ?_)
        refine s_getR X fl_X1_218 t33 (dk okd_X1_bill 24 rfl) (fun a34 (t35 : tT C a34 14) => ?_)
        refine s_run X ok_X1_bill 29 2 (pc' := 98) (vs' := [some (.ref p0), some (.int p1), none]) (st' := [.int p1, .ref a34, .int p1, .ref a34]) rfl ?_
        refine s_lald X t35 (dk okd_X1_bill 25 rfl) (fun v36 => ?_)
        refine s_run X ok_X1_bill 31 1 (pc' := 100) (vs' := [some (.ref p0), some (.int p1), none]) (st' := [.ref p0, .long v36, .int p1, .ref a34]) rfl ?_
        refine s_getR X fl_X1_53 t0_ (dk okd_X1_bill 26 rfl) (fun a37 (t38 : tT C a37 14) => ?_)
        refine s_run X ok_X1_bill 32 1 (pc' := 104) (vs' := [some (.ref p0), some (.int p1), none]) (st' := [.int 1, .ref a37, .long v36, .int p1, .ref a34]) rfl ?_
        refine s_lald X t38 (dk okd_X1_bill 27 rfl) (fun v39 => ?_)
        refine s_run X ok_X1_bill 33 1 (pc' := 106) (vs' := [some (.ref p0), some (.int p1), none]) (st' := [.long (v36 + v39), .int p1, .ref a34]) rfl ?_
        refine s_last X t35 (dk okd_X1_bill 28 rfl) (fun S40 => ?_)
        exact s_vret X hr (dk okd_X1_bill 29 rfl) rfl rfl
      · refine s_if_eq (tgt := 69) X (dk okd_X1_bill 12 rfl) (by decide) ?_ ?_
        · refine s_run X ok_X1_bill 21 1 (pc' := 70) (vs' := [some (.ref p0), some (.int p1), some (.int x12)]) (st' := [.int 0, .int p1, .ref a17]) rfl ?_
          exact s_less [true, true, false] rfl (h21 0)
        · refine s_run X ok_X1_bill 16 1 (pc' := 56) (vs' := [some (.ref p0), some (.int p1), some (.int x12)]) (st' := [.ref p0, .int p1, .ref a17]) rfl ?_
          refine s_getR X fl_X1_35 t0_ (dk okd_X1_bill 13 rfl) (fun a41 (t42 : tT C a41 2) => ?_)
          refine s_getR X fl_X1_215 t42 (dk okd_X1_bill 14 rfl) (fun a43 (t44 : tT C a43 13) => ?_)
          refine s_run X ok_X1_bill 17 1 (pc' := 63) (vs' := [some (.ref p0), some (.int p1), some (.int x12)]) (st' := [.int p1, .ref a43, .int p1, .ref a17]) rfl ?_
          refine s_iald X t44 (dk okd_X1_bill 15 rfl) (fun v45 => ?_)
          refine s_run X ok_X1_bill 18 3 (pc' := 70) (vs' := [some (.ref p0), some (.int p1), some (.int x12)]) (st' := [.int (v45 + 1), .int p1, .ref a17]) rfl ?_
          exact s_less [true, true, false] rfl (h21 (v45 + 1))
    · refine s_lif_le (tgt := 41) X (dk okd_X1_bill 9 rfl) (by decide) ?_ ?_
      · refine s_run X ok_X1_bill 11 1 (pc' := 42) (vs' := [some (.ref p0), some (.int p1), none]) (st' := [.int 0]) rfl ?_
        exact h14 0
      · refine s_run X ok_X1_bill 9 2 (pc' := 42) (vs' := [some (.ref p0), some (.int p1), none]) (st' := [.int 1]) rfl ?_
        exact h14 1
  · exact s_vret X hr (dk okd_X1_bill 6 rfl) rfl rfl
def tab_X1_finishTransfer : List En := [(0, 8, 0, 0), (7, 4, 1, 0), (9, 0, 0, 2), (13, 8, 0, 0), (14, 4, 1, 0), (22, 8, 0, 0), (29, 4, 1, 0), (30, 0, 0, 4), (32, 8, 0, 0), (39, 4, 1, 0), (40, 8, 0, 0), (47, 4, 1, 0), (50, 8, 0, 0), (57, 4, 1, 0), (58, 37, 0, 0), (60, 0, 0, 1), (61, 17, 0, 0), (63, 8, 0, 0), (70, 4, 1, 0), (71, 0, 0, 0), (73, 8, 0, 0), (80, 4, 1, 0), (81, 37, 0, 0), (83, 8, 0, 0), (90, 23, 0, 0)]
theorem ok_X1_finishTransfer : tab_X1_finishTransfer.all (okE cX1_finishTransfer) = true := by decide +kernel
def ed_X1_finishTransfer : List (Nat × Instr × Nat) := [(1, .getfield 42, 3), (4, .getfield 221, 3), (8, .iaload, 1), (10, .if_icmp .ne 11, 3), (15, .invokevirtual 224, 3), (18, .ifCond .le 4, 3), (21, .return_, 1), (23, .getfield 42, 3), (26, .getfield 221, 3), (31, .iastore, 1), (33, .getfield 35, 3), (36, .getfield 228, 3), (41, .getfield 42, 3), (44, .getfield 231, 3), (48, .iaload, 1), (49, .iastore, 1), (51, .getfield 35, 3), (54, .getfield 234, 3), (59, .iaload, 1), (62, .iastore, 1), (64, .getfield 35, 3), (67, .getfield 215, 3), (72, .iastore, 1), (74, .getfield 35, 3), (77, .getfield 196, 3), (82, .laload, 1), (84, .getfield 12, 3), (87, .getfield 237, 3), (91, .lastore, 1), (92, .return_, 1)]
theorem okd_X1_finishTransfer : ed_X1_finishTransfer.all (okD cX1_finishTransfer) = true := by decide +kernel
def f_X1_finishTransfer (S : St) (p0 : Nat) (p1 : Int32) : Option (St) := lt (gR S p0 4) fun (a1 : Nat) => lt (gR S a1 0) fun (a3 : Nat) => ldI S a3 p1 fun (v5 : Int32) => if v5 = 2 then (cl (f_X1_monthsOfDelayLeft S p0 p1) fun (v6 : Int32) => if v6 ≤ 0 then (lt (gR S p0 4) fun (a7 : Nat) => lt (gR S a7 0) fun (a9 : Nat) => stI S a9 p1 4 fun (S11 : St) => lt (gR S11 p0 3) fun (a12 : Nat) => lt (gR S11 a12 3) fun (a14 : Nat) => lt (gR S11 p0 4) fun (a16 : Nat) => lt (gR S11 a16 2) fun (a18 : Nat) => ldI S11 a18 p1 fun (v20 : Int32) => stI S11 a14 p1 v20 fun (S21 : St) => lt (gR S21 p0 3) fun (a22 : Nat) => lt (gR S21 a22 5) fun (a24 : Nat) => ldI S21 a24 p1 fun (v26 : Int32) => stI S21 a24 p1 (v26 + 1) fun (S27 : St) => lt (gR S27 p0 3) fun (a28 : Nat) => lt (gR S27 a28 6) fun (a30 : Nat) => stI S27 a30 p1 0 fun (S32 : St) => lt (gR S32 p0 3) fun (a33 : Nat) => lt (gR S32 a33 7) fun (a35 : Nat) => ldJ S32 a35 p1 fun (v37 : Int64) => lt (gR S32 p0 0) fun (a38 : Nat) => lt (gJ S32 a38 9) fun (v40 : Int64) => stJ S32 a35 p1 (v37 + v40) fun (S41 : St) => some S41) else (some S)) else (some S)
set_option maxHeartbeats 4000000 in
set_option maxRecDepth 100000 in
theorem c_X1_finishTransfer (S : St) (p0 : Nat) (p1 : Int32) : Ct yX1_finishTransfer cX1_finishTransfer 2 none 2 44 (fun _ => [.ref p0, .int p1]) [(p0, 1)] S (f_X1_finishTransfer S p0 p1) oV sV := by
  refine Ct_of RX1 rfl (by decide) (fun _ => Nat.le_of_ble_eq_true rfl) 0 (vs := fun _ => [some (.ref p0), some (.int p1)]) (fun _ => rfl) (fun C X E hr ht => ?_)
  have t0_ : tT C p0 1 := ht (p0, 1) (by simp)
  show Jd C 2 (QJ C oV sV) S 0 [some (.ref p0), some (.int p1)] [] (f_X1_finishTransfer S p0 p1)
  unfold f_X1_finishTransfer
  refine s_run X ok_X1_finishTransfer 0 1 (pc' := 1) (vs' := [some (.ref p0), some (.int p1)]) (st' := [.ref p0]) rfl ?_
  refine s_getR X fl_X1_42 t0_ (dk okd_X1_finishTransfer 0 rfl) (fun a1 (t2 : tT C a1 9) => ?_)
  refine s_getR X fl_X1_221 t2 (dk okd_X1_finishTransfer 1 rfl) (fun a3 (t4 : tT C a3 13) => ?_)
  refine s_run X ok_X1_finishTransfer 1 1 (pc' := 8) (vs' := [some (.ref p0), some (.int p1)]) (st' := [.int p1, .ref a3]) rfl ?_
  refine s_iald X t4 (dk okd_X1_finishTransfer 2 rfl) (fun v5 => ?_)
  refine s_run X ok_X1_finishTransfer 2 1 (pc' := 10) (vs' := [some (.ref p0), some (.int p1)]) (st' := [.int 2, .int v5]) rfl ?_
  refine s_icmp_ne (tgt := 21) X (dk okd_X1_finishTransfer 3 rfl) (by decide) ?_ ?_
  · exact s_vret X hr (dk okd_X1_finishTransfer 6 rfl) rfl rfl
  · refine s_run X ok_X1_finishTransfer 3 2 (pc' := 15) (vs' := [some (.ref p0), some (.int p1)]) (st' := [.int p1, .ref p0]) rfl ?_
    refine s_callV (b := p0) (As := [.int p1]) (rest := []) X E mv_X1_224 (c_X1_monthsOfDelayLeft S p0 p1) rfl (ta1 t0_) rfl (by decide) t0_ rfl rfl (Nat.le_of_ble_eq_true rfl) (Nat.le_of_ble_eq_true rfl) (Nat.le_of_ble_eq_true rfl) (dk okd_X1_finishTransfer 4 rfl) (st' := fun v6 => [.int v6]) (fun _ => rfl) (fun v6 => ?_)
    refine s_if_le (tgt := 22) X (dk okd_X1_finishTransfer 5 rfl) (by decide) ?_ ?_
    · refine s_run X ok_X1_finishTransfer 5 1 (pc' := 23) (vs' := [some (.ref p0), some (.int p1)]) (st' := [.ref p0]) rfl ?_
      refine s_getR X fl_X1_42 t0_ (dk okd_X1_finishTransfer 7 rfl) (fun a7 (t8 : tT C a7 9) => ?_)
      refine s_getR X fl_X1_221 t8 (dk okd_X1_finishTransfer 8 rfl) (fun a9 (t10 : tT C a9 13) => ?_)
      refine s_run X ok_X1_finishTransfer 6 2 (pc' := 31) (vs' := [some (.ref p0), some (.int p1)]) (st' := [.int 4, .int p1, .ref a9]) rfl ?_
      refine s_iast X t10 (dk okd_X1_finishTransfer 9 rfl) (fun S11 => ?_)
      refine s_run X ok_X1_finishTransfer 8 1 (pc' := 33) (vs' := [some (.ref p0), some (.int p1)]) (st' := [.ref p0]) rfl ?_
      refine s_getR X fl_X1_35 t0_ (dk okd_X1_finishTransfer 10 rfl) (fun a12 (t13 : tT C a12 2) => ?_)
      refine s_getR X fl_X1_228 t13 (dk okd_X1_finishTransfer 11 rfl) (fun a14 (t15 : tT C a14 13) => ?_)
      refine s_run X ok_X1_finishTransfer 9 2 (pc' := 41) (vs' := [some (.ref p0), some (.int p1)]) (st' := [.ref p0, .int p1, .ref a14]) rfl ?_
      refine s_getR X fl_X1_42 t0_ (dk okd_X1_finishTransfer 12 rfl) (fun a16 (t17 : tT C a16 9) => ?_)
      refine s_getR X fl_X1_231 t17 (dk okd_X1_finishTransfer 13 rfl) (fun a18 (t19 : tT C a18 13) => ?_)
      refine s_run X ok_X1_finishTransfer 11 1 (pc' := 48) (vs' := [some (.ref p0), some (.int p1)]) (st' := [.int p1, .ref a18, .int p1, .ref a14]) rfl ?_
      refine s_iald X t19 (dk okd_X1_finishTransfer 14 rfl) (fun v20 => ?_)
      refine s_iast X t15 (dk okd_X1_finishTransfer 15 rfl) (fun S21 => ?_)
      refine s_run X ok_X1_finishTransfer 12 1 (pc' := 51) (vs' := [some (.ref p0), some (.int p1)]) (st' := [.ref p0]) rfl ?_
      refine s_getR X fl_X1_35 t0_ (dk okd_X1_finishTransfer 16 rfl) (fun a22 (t23 : tT C a22 2) => ?_)
      refine s_getR X fl_X1_234 t23 (dk okd_X1_finishTransfer 17 rfl) (fun a24 (t25 : tT C a24 13) => ?_)
      refine s_run X ok_X1_finishTransfer 13 2 (pc' := 59) (vs' := [some (.ref p0), some (.int p1)]) (st' := [.int p1, .ref a24, .int p1, .ref a24]) rfl ?_
      refine s_iald X t25 (dk okd_X1_finishTransfer 18 rfl) (fun v26 => ?_)
      refine s_run X ok_X1_finishTransfer 15 2 (pc' := 62) (vs' := [some (.ref p0), some (.int p1)]) (st' := [.int (v26 + 1), .int p1, .ref a24]) rfl ?_
      refine s_iast X t25 (dk okd_X1_finishTransfer 19 rfl) (fun S27 => ?_)
      refine s_run X ok_X1_finishTransfer 17 1 (pc' := 64) (vs' := [some (.ref p0), some (.int p1)]) (st' := [.ref p0]) rfl ?_
      refine s_getR X fl_X1_35 t0_ (dk okd_X1_finishTransfer 20 rfl) (fun a28 (t29 : tT C a28 2) => ?_)
      refine s_getR X fl_X1_215 t29 (dk okd_X1_finishTransfer 21 rfl) (fun a30 (t31 : tT C a30 13) => ?_)
      refine s_run X ok_X1_finishTransfer 18 2 (pc' := 72) (vs' := [some (.ref p0), some (.int p1)]) (st' := [.int 0, .int p1, .ref a30]) rfl ?_
      refine s_iast X t31 (dk okd_X1_finishTransfer 22 rfl) (fun S32 => ?_)
      refine s_run X ok_X1_finishTransfer 20 1 (pc' := 74) (vs' := [some (.ref p0), some (.int p1)]) (st' := [.ref p0]) rfl ?_
      refine s_getR X fl_X1_35 t0_ (dk okd_X1_finishTransfer 23 rfl) (fun a33 (t34 : tT C a33 2) => ?_)
      refine s_getR X fl_X1_196 t34 (dk okd_X1_finishTransfer 24 rfl) (fun a35 (t36 : tT C a35 14) => ?_)
      refine s_run X ok_X1_finishTransfer 21 2 (pc' := 82) (vs' := [some (.ref p0), some (.int p1)]) (st' := [.int p1, .ref a35, .int p1, .ref a35]) rfl ?_
      refine s_lald X t36 (dk okd_X1_finishTransfer 25 rfl) (fun v37 => ?_)
      refine s_run X ok_X1_finishTransfer 23 1 (pc' := 84) (vs' := [some (.ref p0), some (.int p1)]) (st' := [.ref p0, .long v37, .int p1, .ref a35]) rfl ?_
      refine s_getR X fl_X1_12 t0_ (dk okd_X1_finishTransfer 26 rfl) (fun a38 (t39 : tT C a38 7) => ?_)
      refine s_getJ X fl_X1_237 t39 (dk okd_X1_finishTransfer 27 rfl) (fun v40 => ?_)
      refine s_run X ok_X1_finishTransfer 24 1 (pc' := 91) (vs' := [some (.ref p0), some (.int p1)]) (st' := [.long (v37 + v40), .int p1, .ref a35]) rfl ?_
      refine s_last X t36 (dk okd_X1_finishTransfer 28 rfl) (fun S41 => ?_)
      exact s_vret X hr (dk okd_X1_finishTransfer 29 rfl) rfl rfl
    · exact s_vret X hr (dk okd_X1_finishTransfer 6 rfl) rfl rfl
def tab_X1_mayTransfer : List En := [(0, 8, 0, 0), (4, 4, 1, 0), (11, 8, 0, 0), (15, 4, 1, 0), (22, 8, 0, 0), (29, 4, 1, 0), (31, 3, 0, 0), (32, 40, 0, 0), (36, 4, 2, 0), (37, 8, 0, 0), (47, 0, 0, 1), (48, 41, 52, 0), (51, 0, 0, 0)]
theorem ok_X1_mayTransfer : tab_X1_mayTransfer.all (okE cX1_mayTransfer) = true := by decide +kernel
def ed_X1_mayTransfer : List (Nat × Instr × Nat) := [(1, .getfield 35, 3), (5, .invokevirtual 108, 3), (8, .ifCond .eq 43, 3), (12, .getfield 42, 3), (16, .invokevirtual 249, 3), (19, .ifCond .ne 32, 3), (23, .getfield 35, 3), (26, .getfield 196, 3), (30, .laload, 1), (33, .ifCond .gt 18, 3), (38, .getfield 12, 3), (41, .getfield 252, 3), (44, .if_icmp .lt 7, 3), (52, .ireturn, 1)]
theorem okd_X1_mayTransfer : ed_X1_mayTransfer.all (okD cX1_mayTransfer) = true := by decide +kernel
def f_X1_mayTransfer (S : St) (p0 : Nat) (p1 : Int32) (p2 : Int32) : Option (Int32) := lt (gR S p0 3) fun (a1 : Nat) => cl (f_X2_isActive S a1 p1) fun (v3 : Int32) => jn (κ := Option (Int32)) (some 0) fun k4 => if v3 = 0 then (k4) else (lt (gR S p0 4) fun (a6 : Nat) => cl (f_X10_isOpen S a6 p1) fun (v8 : Int32) => if v8 = 0 then (lt (gR S p0 3) fun (a9 : Nat) => lt (gR S a9 7) fun (a11 : Nat) => ldJ S a11 p1 fun (v13 : Int64) => if 0 < v13 then (k4) else (lt (gR S p0 0) fun (a14 : Nat) => lt (gI S a14 11) fun (v16 : Int32) => if p2 < v16 then (k4) else (some 1))) else (k4))
set_option maxHeartbeats 4000000 in
set_option maxRecDepth 100000 in
theorem c_X1_mayTransfer (S : St) (p0 : Nat) (p1 : Int32) (p2 : Int32) : Ct yX1_mayTransfer cX1_mayTransfer 3 (some .boolean) 2 42 (fun _ => [.ref p0, .int p1, .int p2]) [(p0, 1)] S (f_X1_mayTransfer S p0 p1 p2) oI (fun _ => S) := by
  refine Ct_of RX1 rfl (by decide) (fun _ => Nat.le_of_ble_eq_true rfl) 0 (vs := fun _ => [some (.ref p0), some (.int p1), some (.int p2)]) (fun _ => rfl) (fun C X E hr ht => ?_)
  have t0_ : tT C p0 1 := ht (p0, 1) (by simp)
  show Jd C 3 (QJ C oI (fun _ => S)) S 0 [some (.ref p0), some (.int p1), some (.int p2)] [] (f_X1_mayTransfer S p0 p1 p2)
  unfold f_X1_mayTransfer
  refine s_run X ok_X1_mayTransfer 0 1 (pc' := 1) (vs' := [some (.ref p0), some (.int p1), some (.int p2)]) (st' := [.ref p0]) rfl ?_
  refine s_getR X fl_X1_35 t0_ (dk okd_X1_mayTransfer 0 rfl) (fun a1 (t2 : tT C a1 2) => ?_)
  refine s_run X ok_X1_mayTransfer 1 1 (pc' := 5) (vs' := [some (.ref p0), some (.int p1), some (.int p2)]) (st' := [.int p1, .ref a1]) rfl ?_
  refine s_callV (b := a1) (As := [.int p1]) (rest := []) X E mv_X1_108 (c_X2_isActive S a1 p1) rfl (ta1 t2) rfl (by decide) t2 rfl rfl (Nat.le_of_ble_eq_true rfl) (Nat.le_of_ble_eq_true rfl) (Nat.le_of_ble_eq_true rfl) (dk okd_X1_mayTransfer 1 rfl) (st' := fun v3 => [.int v3]) (fun _ => rfl) (fun v3 => ?_)
  refine s_jn (κ := Option (Int32)) (fun k4 => Jd C 3 (QJ C oI (fun _ => S)) S 51 [none, none, none] [] k4) ?_ (fun k4 h5 => ?_)
  · refine s_run X ok_X1_mayTransfer 12 1 (pc' := 52) (vs' := [none, none, none]) (st' := [.int 0]) rfl ?_
    exact s_zret0 X hr (dk okd_X1_mayTransfer 13 rfl) (by decide) rfl rfl
  · refine s_if_eq (tgt := 51) X (dk okd_X1_mayTransfer 2 rfl) (by decide) ?_ ?_
    · exact s_less [false, false, false] rfl (h5)
    · refine s_run X ok_X1_mayTransfer 2 1 (pc' := 12) (vs' := [some (.ref p0), some (.int p1), some (.int p2)]) (st' := [.ref p0]) rfl ?_
      refine s_getR X fl_X1_42 t0_ (dk okd_X1_mayTransfer 3 rfl) (fun a6 (t7 : tT C a6 9) => ?_)
      refine s_run X ok_X1_mayTransfer 3 1 (pc' := 16) (vs' := [some (.ref p0), some (.int p1), some (.int p2)]) (st' := [.int p1, .ref a6]) rfl ?_
      refine s_callV (b := a6) (As := [.int p1]) (rest := []) X E mv_X1_249 (c_X10_isOpen S a6 p1) rfl (ta1 t7) rfl (by decide) t7 rfl rfl (Nat.le_of_ble_eq_true rfl) (Nat.le_of_ble_eq_true rfl) (Nat.le_of_ble_eq_true rfl) (dk okd_X1_mayTransfer 4 rfl) (st' := fun v8 => [.int v8]) (fun _ => rfl) (fun v8 => ?_)
      refine s_if_ne (tgt := 51) X (dk okd_X1_mayTransfer 5 rfl) (by decide) ?_ ?_
      · exact s_less [false, false, false] rfl (h5)
      · refine s_run X ok_X1_mayTransfer 4 1 (pc' := 23) (vs' := [some (.ref p0), some (.int p1), some (.int p2)]) (st' := [.ref p0]) rfl ?_
        refine s_getR X fl_X1_35 t0_ (dk okd_X1_mayTransfer 6 rfl) (fun a9 (t10 : tT C a9 2) => ?_)
        refine s_getR X fl_X1_196 t10 (dk okd_X1_mayTransfer 7 rfl) (fun a11 (t12 : tT C a11 14) => ?_)
        refine s_run X ok_X1_mayTransfer 5 1 (pc' := 30) (vs' := [some (.ref p0), some (.int p1), some (.int p2)]) (st' := [.int p1, .ref a11]) rfl ?_
        refine s_lald X t12 (dk okd_X1_mayTransfer 8 rfl) (fun v13 => ?_)
        refine s_run X ok_X1_mayTransfer 6 2 (pc' := 33) (vs' := [some (.ref p0), some (.int p1), some (.int p2)]) (st' := [.int (lg_cmp v13 0)]) rfl ?_
        refine s_lif_gt (tgt := 51) X (dk okd_X1_mayTransfer 9 rfl) (by decide) ?_ ?_
        · exact s_less [false, false, false] rfl (h5)
        · refine s_run X ok_X1_mayTransfer 8 2 (pc' := 38) (vs' := [some (.ref p0), some (.int p1), some (.int p2)]) (st' := [.ref p0, .int p2]) rfl ?_
          refine s_getR X fl_X1_12 t0_ (dk okd_X1_mayTransfer 10 rfl) (fun a14 (t15 : tT C a14 7) => ?_)
          refine s_getI X fl_X1_252 t15 (dk okd_X1_mayTransfer 11 rfl) (fun v16 => ?_)
          refine s_icmp_lt (tgt := 51) X (dk okd_X1_mayTransfer 12 rfl) (by decide) ?_ ?_
          · exact s_less [false, false, false] rfl (h5)
          · refine s_run X ok_X1_mayTransfer 10 2 (pc' := 52) (vs' := [some (.ref p0), some (.int p1), some (.int p2)]) (st' := [.int 1]) rfl ?_
            exact s_zret0 X hr (dk okd_X1_mayTransfer 13 rfl) (by decide) rfl rfl
def tab_X1_takeOver : List En := [(0, 8, 0, 0), (1, 4, 1, 0), (8, 8, 0, 0), (12, 4, 1, 0), (13, 0, 0, 5), (20, 0, 0, 0), (22, 8, 0, 0), (29, 4, 1, 0), (30, 0, 0, 2), (32, 8, 0, 0), (36, 4, 1, 0), (37, 8, 0, 0), (44, 4, 1, 0), (49, 39, 0, 0), (50, 0, 0, 1)]
theorem ok_X1_takeOver : tab_X1_takeOver.all (okE cX1_takeOver) = true := by decide +kernel
def ed_X1_takeOver : List (Nat × Instr × Nat) := [(2, .invokevirtual 224, 3), (5, .ifCond .eq 15, 3), (9, .getfield 42, 3), (14, .invokevirtual 255, 3), (17, .ifCond .ne 5, 3), (21, .ireturn, 1), (23, .getfield 35, 3), (26, .getfield 259, 3), (31, .iastore, 1), (33, .getfield 35, 3), (38, .getfield 42, 3), (41, .getfield 262, 3), (45, .laload, 1), (46, .invokevirtual 265, 3), (51, .ireturn, 1)]
theorem okd_X1_takeOver : ed_X1_takeOver.all (okD cX1_takeOver) = true := by decide +kernel
def f_X1_takeOver (S : St) (p0 : Nat) (p1 : Int32) : Option (Int32 × St) := cl (f_X1_monthsOfDelayLeft S p0 p1) fun (v1 : Int32) => if v1 = 0 then (some (0, S)) else (lt (gR S p0 4) fun (a2 : Nat) => cl (f_X10_endOpen S a2 p1 5) fun (o4 : Int32 × St) => if o4.1 = 0 then (some (0, o4.2)) else (lt (gR o4.2 p0 3) fun (a5 : Nat) => lt (gR o4.2 a5 4) fun (a7 : Nat) => stI o4.2 a7 p1 2 fun (S9 : St) => lt (gR S9 p0 3) fun (a10 : Nat) => lt (gR S9 p0 4) fun (a12 : Nat) => lt (gR S9 a12 3) fun (a14 : Nat) => ldJ S9 a14 p1 fun (v16 : Int64) => cl (f_X2_lowerBalance S9 a10 p1 v16) fun (o17 : Int64 × St) => some (1, o17.2)))
set_option maxHeartbeats 4000000 in
set_option maxRecDepth 100000 in
theorem c_X1_takeOver (S : St) (p0 : Nat) (p1 : Int32) : Ct yX1_takeOver cX1_takeOver 2 (some .boolean) 2 44 (fun _ => [.ref p0, .int p1]) [(p0, 1)] S (f_X1_takeOver S p0 p1) oIS sS := by
  refine Ct_of RX1 rfl (by decide) (fun _ => Nat.le_of_ble_eq_true rfl) 0 (vs := fun _ => [some (.ref p0), some (.int p1)]) (fun _ => rfl) (fun C X E hr ht => ?_)
  have t0_ : tT C p0 1 := ht (p0, 1) (by simp)
  show Jd C 2 (QJ C oIS sS) S 0 [some (.ref p0), some (.int p1)] [] (f_X1_takeOver S p0 p1)
  unfold f_X1_takeOver
  refine s_run X ok_X1_takeOver 0 2 (pc' := 2) (vs' := [some (.ref p0), some (.int p1)]) (st' := [.int p1, .ref p0]) rfl ?_
  refine s_callV (b := p0) (As := [.int p1]) (rest := []) X E mv_X1_224 (c_X1_monthsOfDelayLeft S p0 p1) rfl (ta1 t0_) rfl (by decide) t0_ rfl rfl (Nat.le_of_ble_eq_true rfl) (Nat.le_of_ble_eq_true rfl) (Nat.le_of_ble_eq_true rfl) (dk okd_X1_takeOver 0 rfl) (st' := fun v1 => [.int v1]) (fun _ => rfl) (fun v1 => ?_)
  refine s_if_eq (tgt := 20) X (dk okd_X1_takeOver 1 rfl) (by decide) ?_ ?_
  · refine s_run X ok_X1_takeOver 5 1 (pc' := 21) (vs' := [some (.ref p0), some (.int p1)]) (st' := [.int 0]) rfl ?_
    exact s_zret0 X hr (dk okd_X1_takeOver 5 rfl) (by decide) rfl rfl
  · refine s_run X ok_X1_takeOver 2 1 (pc' := 9) (vs' := [some (.ref p0), some (.int p1)]) (st' := [.ref p0]) rfl ?_
    refine s_getR X fl_X1_42 t0_ (dk okd_X1_takeOver 2 rfl) (fun a2 (t3 : tT C a2 9) => ?_)
    refine s_run X ok_X1_takeOver 3 2 (pc' := 14) (vs' := [some (.ref p0), some (.int p1)]) (st' := [.int 5, .int p1, .ref a2]) rfl ?_
    refine s_callV (b := a2) (As := [.int p1, .int 5]) (rest := []) X E mv_X1_255 (c_X10_endOpen S a2 p1 5) rfl (ta1 t3) rfl (by decide) t3 rfl rfl (Nat.le_of_ble_eq_true rfl) (Nat.le_of_ble_eq_true rfl) (Nat.le_of_ble_eq_true rfl) (dk okd_X1_takeOver 3 rfl) (st' := fun o4 => [.int o4.1]) (fun _ => rfl) (fun o4 => ?_)
    refine s_if_ne (tgt := 22) X (dk okd_X1_takeOver 4 rfl) (by decide) ?_ ?_
    · refine s_run X ok_X1_takeOver 6 1 (pc' := 23) (vs' := [some (.ref p0), some (.int p1)]) (st' := [.ref p0]) rfl ?_
      refine s_getR X fl_X1_35 t0_ (dk okd_X1_takeOver 6 rfl) (fun a5 (t6 : tT C a5 2) => ?_)
      refine s_getR X fl_X1_259 t6 (dk okd_X1_takeOver 7 rfl) (fun a7 (t8 : tT C a7 13) => ?_)
      refine s_run X ok_X1_takeOver 7 2 (pc' := 31) (vs' := [some (.ref p0), some (.int p1)]) (st' := [.int 2, .int p1, .ref a7]) rfl ?_
      refine s_iast X t8 (dk okd_X1_takeOver 8 rfl) (fun S9 => ?_)
      refine s_run X ok_X1_takeOver 9 1 (pc' := 33) (vs' := [some (.ref p0), some (.int p1)]) (st' := [.ref p0]) rfl ?_
      refine s_getR X fl_X1_35 t0_ (dk okd_X1_takeOver 9 rfl) (fun a10 (t11 : tT C a10 2) => ?_)
      refine s_run X ok_X1_takeOver 10 2 (pc' := 38) (vs' := [some (.ref p0), some (.int p1)]) (st' := [.ref p0, .int p1, .ref a10]) rfl ?_
      refine s_getR X fl_X1_42 t0_ (dk okd_X1_takeOver 10 rfl) (fun a12 (t13 : tT C a12 9) => ?_)
      refine s_getR X fl_X1_262 t13 (dk okd_X1_takeOver 11 rfl) (fun a14 (t15 : tT C a14 14) => ?_)
      refine s_run X ok_X1_takeOver 12 1 (pc' := 45) (vs' := [some (.ref p0), some (.int p1)]) (st' := [.int p1, .ref a14, .int p1, .ref a10]) rfl ?_
      refine s_lald X t15 (dk okd_X1_takeOver 12 rfl) (fun v16 => ?_)
      refine s_callV (b := a10) (As := [.int p1, .long v16]) (rest := []) X E mv_X1_265 (c_X2_lowerBalance S9 a10 p1 v16) rfl (ta1 t11) rfl (by decide) t11 rfl rfl (Nat.le_of_ble_eq_true rfl) (Nat.le_of_ble_eq_true rfl) (Nat.le_of_ble_eq_true rfl) (dk okd_X1_takeOver 13 rfl) (st' := fun o17 => [.long o17.1]) (fun _ => rfl) (fun o17 => ?_)
      refine s_run X ok_X1_takeOver 13 2 (pc' := 51) (vs' := [some (.ref p0), some (.int p1)]) (st' := [.int 1]) rfl ?_
      exact s_zret0 X hr (dk okd_X1_takeOver 14 rfl) (by decide) rfl rfl
    · refine s_run X ok_X1_takeOver 5 1 (pc' := 21) (vs' := [some (.ref p0), some (.int p1)]) (st' := [.int 0]) rfl ?_
      exact s_zret0 X hr (dk okd_X1_takeOver 5 rfl) (by decide) rfl rfl
def tab_X1_endContract : List En := [(0, 8, 0, 0), (4, 4, 1, 0), (11, 8, 0, 0), (18, 4, 1, 0), (20, 0, 0, 3), (24, 0, 0, 0), (26, 8, 0, 0), (33, 4, 1, 0), (34, 0, 0, 1), (36, 8, 0, 0), (40, 4, 1, 0), (44, 8, 0, 0), (48, 4, 1, 0), (49, 0, 0, (-1)), (50, 0, 0, 0), (51, 0, 0, 0), (52, 1, 0, 30), (54, 1, 0, 30), (59, 38, 0, 0), (60, 8, 0, 0), (64, 4, 1, 0), (65, 0, 0, 3), (69, 38, 0, 0), (70, 0, 0, 1)]
theorem ok_X1_endContract : tab_X1_endContract.all (okE cX1_endContract) = true := by decide +kernel
def ed_X1_endContract : List (Nat × Instr × Nat) := [(1, .getfield 35, 3), (5, .invokevirtual 108, 3), (8, .ifCond .eq 16, 3), (12, .getfield 35, 3), (15, .getfield 215, 3), (19, .iaload, 1), (21, .if_icmp .ge 5, 3), (25, .ireturn, 1), (27, .getfield 35, 3), (30, .getfield 259, 3), (35, .iastore, 1), (37, .getfield 28, 3), (41, .invokevirtual 268, 3), (45, .getfield 21, 3), (56, .invokevirtual 271, 3), (61, .getfield 42, 3), (66, .invokevirtual 255, 3), (71, .ireturn, 1)]
theorem okd_X1_endContract : ed_X1_endContract.all (okD cX1_endContract) = true := by decide +kernel
def f_X1_endContract (S : St) (p0 : Nat) (p1 : Int32) : Option (Int32 × St) := lt (gR S p0 3) fun (a1 : Nat) => cl (f_X2_isActive S a1 p1) fun (v3 : Int32) => if v3 = 0 then (some (0, S)) else (lt (gR S p0 3) fun (a4 : Nat) => lt (gR S a4 6) fun (a6 : Nat) => ldI S a6 p1 fun (v8 : Int32) => if 3 ≤ v8 then (lt (gR S p0 3) fun (a9 : Nat) => lt (gR S a9 4) fun (a11 : Nat) => stI S a11 p1 1 fun (S13 : St) => lt (gR S13 p0 2) fun (a14 : Nat) => cl (f_X6_closeAllOf S13 a14 p1) fun (S16 : St) => lt (gR S16 p0 1) fun (a17 : Nat) => cl (f_X3_move S16 a17 p1 (-1) 0 0 30 30) fun (o19 : Int32 × St) => lt (gR o19.2 p0 4) fun (a20 : Nat) => cl (f_X10_endOpen o19.2 a20 p1 3) fun (o22 : Int32 × St) => some (1, o22.2)) else (some (0, S)))
set_option maxHeartbeats 4000000 in
set_option maxRecDepth 100000 in
theorem c_X1_endContract (S : St) (p0 : Nat) (p1 : Int32) : Ct yX1_endContract cX1_endContract 2 (some .boolean) 3 73 (fun _ => [.ref p0, .int p1]) [(p0, 1)] S (f_X1_endContract S p0 p1) oIS sS := by
  refine Ct_of RX1 rfl (by decide) (fun _ => Nat.le_of_ble_eq_true rfl) 0 (vs := fun _ => [some (.ref p0), some (.int p1)]) (fun _ => rfl) (fun C X E hr ht => ?_)
  have t0_ : tT C p0 1 := ht (p0, 1) (by simp)
  show Jd C 2 (QJ C oIS sS) S 0 [some (.ref p0), some (.int p1)] [] (f_X1_endContract S p0 p1)
  unfold f_X1_endContract
  refine s_run X ok_X1_endContract 0 1 (pc' := 1) (vs' := [some (.ref p0), some (.int p1)]) (st' := [.ref p0]) rfl ?_
  refine s_getR X fl_X1_35 t0_ (dk okd_X1_endContract 0 rfl) (fun a1 (t2 : tT C a1 2) => ?_)
  refine s_run X ok_X1_endContract 1 1 (pc' := 5) (vs' := [some (.ref p0), some (.int p1)]) (st' := [.int p1, .ref a1]) rfl ?_
  refine s_callV (b := a1) (As := [.int p1]) (rest := []) X E mv_X1_108 (c_X2_isActive S a1 p1) rfl (ta1 t2) rfl (by decide) t2 rfl rfl (Nat.le_of_ble_eq_true rfl) (Nat.le_of_ble_eq_true rfl) (Nat.le_of_ble_eq_true rfl) (dk okd_X1_endContract 1 rfl) (st' := fun v3 => [.int v3]) (fun _ => rfl) (fun v3 => ?_)
  refine s_if_eq (tgt := 24) X (dk okd_X1_endContract 2 rfl) (by decide) ?_ ?_
  · refine s_run X ok_X1_endContract 5 1 (pc' := 25) (vs' := [some (.ref p0), some (.int p1)]) (st' := [.int 0]) rfl ?_
    exact s_zret0 X hr (dk okd_X1_endContract 7 rfl) (by decide) rfl rfl
  · refine s_run X ok_X1_endContract 2 1 (pc' := 12) (vs' := [some (.ref p0), some (.int p1)]) (st' := [.ref p0]) rfl ?_
    refine s_getR X fl_X1_35 t0_ (dk okd_X1_endContract 3 rfl) (fun a4 (t5 : tT C a4 2) => ?_)
    refine s_getR X fl_X1_215 t5 (dk okd_X1_endContract 4 rfl) (fun a6 (t7 : tT C a6 13) => ?_)
    refine s_run X ok_X1_endContract 3 1 (pc' := 19) (vs' := [some (.ref p0), some (.int p1)]) (st' := [.int p1, .ref a6]) rfl ?_
    refine s_iald X t7 (dk okd_X1_endContract 5 rfl) (fun v8 => ?_)
    refine s_run X ok_X1_endContract 4 1 (pc' := 21) (vs' := [some (.ref p0), some (.int p1)]) (st' := [.int 3, .int v8]) rfl ?_
    refine s_icmp_ge (tgt := 26) X (dk okd_X1_endContract 6 rfl) (by decide) ?_ ?_
    · refine s_run X ok_X1_endContract 6 1 (pc' := 27) (vs' := [some (.ref p0), some (.int p1)]) (st' := [.ref p0]) rfl ?_
      refine s_getR X fl_X1_35 t0_ (dk okd_X1_endContract 8 rfl) (fun a9 (t10 : tT C a9 2) => ?_)
      refine s_getR X fl_X1_259 t10 (dk okd_X1_endContract 9 rfl) (fun a11 (t12 : tT C a11 13) => ?_)
      refine s_run X ok_X1_endContract 7 2 (pc' := 35) (vs' := [some (.ref p0), some (.int p1)]) (st' := [.int 1, .int p1, .ref a11]) rfl ?_
      refine s_iast X t12 (dk okd_X1_endContract 10 rfl) (fun S13 => ?_)
      refine s_run X ok_X1_endContract 9 1 (pc' := 37) (vs' := [some (.ref p0), some (.int p1)]) (st' := [.ref p0]) rfl ?_
      refine s_getR X fl_X1_28 t0_ (dk okd_X1_endContract 11 rfl) (fun a14 (t15 : tT C a14 6) => ?_)
      refine s_run X ok_X1_endContract 10 1 (pc' := 41) (vs' := [some (.ref p0), some (.int p1)]) (st' := [.int p1, .ref a14]) rfl ?_
      refine s_callV (b := a14) (As := [.int p1]) (rest := []) X E mv_X1_268 (c_X6_closeAllOf S13 a14 p1) rfl (ta1 t15) rfl (by decide) t15 rfl rfl (Nat.le_of_ble_eq_true rfl) (Nat.le_of_ble_eq_true rfl) (Nat.le_of_ble_eq_true rfl) (dk okd_X1_endContract 12 rfl) (st' := fun S16 => []) (fun _ => rfl) (fun S16 => ?_)
      refine s_run X ok_X1_endContract 11 1 (pc' := 45) (vs' := [some (.ref p0), some (.int p1)]) (st' := [.ref p0]) rfl ?_
      refine s_getR X fl_X1_21 t0_ (dk okd_X1_endContract 13 rfl) (fun a17 (t18 : tT C a17 3) => ?_)
      refine s_run X ok_X1_endContract 12 6 (pc' := 56) (vs' := [some (.ref p0), some (.int p1)]) (st' := [.int 30, .int 30, .int 0, .int 0, .int (-1), .int p1, .ref a17]) rfl ?_
      refine s_callV (b := a17) (As := [.int p1, .int (-1), .int 0, .int 0, .int 30, .int 30]) (rest := []) X E mv_X1_271 (c_X3_move S16 a17 p1 (-1) 0 0 30 30) rfl (ta1 t18) rfl (by decide) t18 rfl rfl (Nat.le_of_ble_eq_true rfl) (Nat.le_of_ble_eq_true rfl) (Nat.le_of_ble_eq_true rfl) (dk okd_X1_endContract 14 rfl) (st' := fun o19 => [.int o19.1]) (fun _ => rfl) (fun o19 => ?_)
      refine s_run X ok_X1_endContract 18 2 (pc' := 61) (vs' := [some (.ref p0), some (.int p1)]) (st' := [.ref p0]) rfl ?_
      refine s_getR X fl_X1_42 t0_ (dk okd_X1_endContract 15 rfl) (fun a20 (t21 : tT C a20 9) => ?_)
      refine s_run X ok_X1_endContract 20 2 (pc' := 66) (vs' := [some (.ref p0), some (.int p1)]) (st' := [.int 3, .int p1, .ref a20]) rfl ?_
      refine s_callV (b := a20) (As := [.int p1, .int 3]) (rest := []) X E mv_X1_255 (c_X10_endOpen o19.2 a20 p1 3) rfl (ta1 t21) rfl (by decide) t21 rfl rfl (Nat.le_of_ble_eq_true rfl) (Nat.le_of_ble_eq_true rfl) (Nat.le_of_ble_eq_true rfl) (dk okd_X1_endContract 16 rfl) (st' := fun o22 => [.int o22.1]) (fun _ => rfl) (fun o22 => ?_)
      refine s_run X ok_X1_endContract 22 2 (pc' := 71) (vs' := [some (.ref p0), some (.int p1)]) (st' := [.int 1]) rfl ?_
      exact s_zret0 X hr (dk okd_X1_endContract 17 rfl) (by decide) rfl rfl
    · refine s_run X ok_X1_endContract 5 1 (pc' := 25) (vs' := [some (.ref p0), some (.int p1)]) (st' := [.int 0]) rfl ?_
      exact s_zret0 X hr (dk okd_X1_endContract 7 rfl) (by decide) rfl rfl
def tab_X1_spendLocal : List En := [(0, 8, 0, 0), (4, 4, 1, 0), (11, 8, 0, 0), (15, 4, 1, 0), (16, 6, 2, 0), (23, 0, 0, 0), (25, 8, 0, 0), (29, 4, 1, 0), (30, 6, 2, 0), (34, 39, 0, 0), (35, 0, 0, 1)]
theorem ok_X1_spendLocal : tab_X1_spendLocal.all (okE cX1_spendLocal) = true := by decide +kernel
def ed_X1_spendLocal : List (Nat × Instr × Nat) := [(1, .getfield 35, 3), (5, .invokevirtual 108, 3), (8, .ifCond .eq 15, 3), (12, .getfield 49, 3), (17, .invokevirtual 275, 3), (20, .ifCond .ne 5, 3), (24, .ireturn, 1), (26, .getfield 35, 3), (31, .invokevirtual 265, 3), (36, .ireturn, 1)]
theorem okd_X1_spendLocal : ed_X1_spendLocal.all (okD cX1_spendLocal) = true := by decide +kernel
def f_X1_spendLocal (S : St) (p0 : Nat) (p1 : Int32) (p2 : Int64) : Option (Int32 × St) := lt (gR S p0 3) fun (a1 : Nat) => cl (f_X2_isActive S a1 p1) fun (v3 : Int32) => if v3 = 0 then (some (0, S)) else (lt (gR S p0 5) fun (a4 : Nat) => cl (f_X0_spendGrant S a4 p1 p2) fun (o6 : Int32 × St) => if o6.1 = 0 then (some (0, o6.2)) else (lt (gR o6.2 p0 3) fun (a7 : Nat) => cl (f_X2_lowerBalance o6.2 a7 p1 p2) fun (o9 : Int64 × St) => some (1, o9.2)))
set_option maxHeartbeats 4000000 in
set_option maxRecDepth 100000 in
theorem c_X1_spendLocal (S : St) (p0 : Nat) (p1 : Int32) (p2 : Int64) : Ct yX1_spendLocal cX1_spendLocal 4 (some .boolean) 3 66 (fun _ => [.ref p0, .int p1, .long p2]) [(p0, 1)] S (f_X1_spendLocal S p0 p1 p2) oIS sS := by
  refine Ct_of RX1 rfl (by decide) (fun _ => Nat.le_of_ble_eq_true rfl) 0 (vs := fun _ => [some (.ref p0), some (.int p1), some (.long p2), none]) (fun _ => rfl) (fun C X E hr ht => ?_)
  have t0_ : tT C p0 1 := ht (p0, 1) (by simp)
  show Jd C 4 (QJ C oIS sS) S 0 [some (.ref p0), some (.int p1), some (.long p2), none] [] (f_X1_spendLocal S p0 p1 p2)
  unfold f_X1_spendLocal
  refine s_run X ok_X1_spendLocal 0 1 (pc' := 1) (vs' := [some (.ref p0), some (.int p1), some (.long p2), none]) (st' := [.ref p0]) rfl ?_
  refine s_getR X fl_X1_35 t0_ (dk okd_X1_spendLocal 0 rfl) (fun a1 (t2 : tT C a1 2) => ?_)
  refine s_run X ok_X1_spendLocal 1 1 (pc' := 5) (vs' := [some (.ref p0), some (.int p1), some (.long p2), none]) (st' := [.int p1, .ref a1]) rfl ?_
  refine s_callV (b := a1) (As := [.int p1]) (rest := []) X E mv_X1_108 (c_X2_isActive S a1 p1) rfl (ta1 t2) rfl (by decide) t2 rfl rfl (Nat.le_of_ble_eq_true rfl) (Nat.le_of_ble_eq_true rfl) (Nat.le_of_ble_eq_true rfl) (dk okd_X1_spendLocal 1 rfl) (st' := fun v3 => [.int v3]) (fun _ => rfl) (fun v3 => ?_)
  refine s_if_eq (tgt := 23) X (dk okd_X1_spendLocal 2 rfl) (by decide) ?_ ?_
  · refine s_run X ok_X1_spendLocal 5 1 (pc' := 24) (vs' := [some (.ref p0), some (.int p1), some (.long p2), none]) (st' := [.int 0]) rfl ?_
    exact s_zret0 X hr (dk okd_X1_spendLocal 6 rfl) (by decide) rfl rfl
  · refine s_run X ok_X1_spendLocal 2 1 (pc' := 12) (vs' := [some (.ref p0), some (.int p1), some (.long p2), none]) (st' := [.ref p0]) rfl ?_
    refine s_getR X fl_X1_49 t0_ (dk okd_X1_spendLocal 3 rfl) (fun a4 (t5 : tT C a4 0) => ?_)
    refine s_run X ok_X1_spendLocal 3 2 (pc' := 17) (vs' := [some (.ref p0), some (.int p1), some (.long p2), none]) (st' := [.long p2, .int p1, .ref a4]) rfl ?_
    refine s_callV (b := a4) (As := [.int p1, .long p2]) (rest := []) X E mv_X1_275 (c_X0_spendGrant S a4 p1 p2) rfl (ta1 t5) rfl (by decide) t5 rfl rfl (Nat.le_of_ble_eq_true rfl) (Nat.le_of_ble_eq_true rfl) (Nat.le_of_ble_eq_true rfl) (dk okd_X1_spendLocal 4 rfl) (st' := fun o6 => [.int o6.1]) (fun _ => rfl) (fun o6 => ?_)
    refine s_if_ne (tgt := 25) X (dk okd_X1_spendLocal 5 rfl) (by decide) ?_ ?_
    · refine s_run X ok_X1_spendLocal 6 1 (pc' := 26) (vs' := [some (.ref p0), some (.int p1), some (.long p2), none]) (st' := [.ref p0]) rfl ?_
      refine s_getR X fl_X1_35 t0_ (dk okd_X1_spendLocal 7 rfl) (fun a7 (t8 : tT C a7 2) => ?_)
      refine s_run X ok_X1_spendLocal 7 2 (pc' := 31) (vs' := [some (.ref p0), some (.int p1), some (.long p2), none]) (st' := [.long p2, .int p1, .ref a7]) rfl ?_
      refine s_callV (b := a7) (As := [.int p1, .long p2]) (rest := []) X E mv_X1_265 (c_X2_lowerBalance o6.2 a7 p1 p2) rfl (ta1 t8) rfl (by decide) t8 rfl rfl (Nat.le_of_ble_eq_true rfl) (Nat.le_of_ble_eq_true rfl) (Nat.le_of_ble_eq_true rfl) (dk okd_X1_spendLocal 8 rfl) (st' := fun o9 => [.long o9.1]) (fun _ => rfl) (fun o9 => ?_)
      refine s_run X ok_X1_spendLocal 9 2 (pc' := 36) (vs' := [some (.ref p0), some (.int p1), some (.long p2), none]) (st' := [.int 1]) rfl ?_
      exact s_zret0 X hr (dk okd_X1_spendLocal 9 rfl) (by decide) rfl rfl
    · refine s_run X ok_X1_spendLocal 5 1 (pc' := 24) (vs' := [some (.ref p0), some (.int p1), some (.long p2), none]) (st' := [.int 0]) rfl ?_
      exact s_zret0 X hr (dk okd_X1_spendLocal 6 rfl) (by decide) rfl rfl
def tab_X1_monthsToPayOff : List En := [(0, 8, 0, 0), (7, 4, 1, 0), (9, 13, 4, 0), (11, 0, 0, 0), (12, 11, 6, 0), (14, 5, 6, 0), (16, 1, 0, 120), (21, 7, 4, 0), (23, 3, 0, 0), (24, 40, 0, 0), (28, 5, 6, 0), (31, 7, 4, 0), (33, 8, 0, 0), (34, 7, 4, 0), (39, 6, 2, 0), (40, 24, 0, 0), (41, 23, 0, 0), (42, 13, 4, 0), (44, 16, 6, 1), (47, 41, 14, 0), (50, 0, 0, (-1))]
theorem ok_X1_monthsToPayOff : tab_X1_monthsToPayOff.all (okE cX1_monthsToPayOff) = true := by decide +kernel
def ed_X1_monthsToPayOff : List (Nat × Instr × Nat) := [(1, .getfield 35, 3), (4, .getfield 196, 3), (8, .laload, 1), (18, .if_icmp .gt 32, 3), (25, .ifCond .gt 6, 3), (30, .ireturn, 1), (36, .invokevirtual 162, 3), (51, .ireturn, 1)]
theorem okd_X1_monthsToPayOff : ed_X1_monthsToPayOff.all (okD cX1_monthsToPayOff) = true := by decide +kernel
def f_X1_monthsToPayOff (S : St) (p0 : Nat) (p1 : Int32) (p2 : Int64) : Option (Int32) := lt (gR S p0 3) fun (a1 : Nat) => lt (gR S a1 7) fun (a3 : Nat) => ldJ S a3 p1 fun (v5 : Int64) => jn (κ := Int32 → Option (Int32)) (fun x6 => some x6) fun k7 => lp (κ := Int64 → Int32 → Option (Int32)) (fun _ _ => none) (fun k11 x9 x10 => if 120 < x10 then (some (-1)) else (if 0 < x9 then (cl (f_X1_interestOn S p0 x9) fun (v13 : Int64) => lt (x9 + (v13 - p2)) fun (v14 : Int64) => k11 v14 (x10 + 1)) else (k7 x10))) FU v5 0
set_option maxHeartbeats 4000000 in
set_option maxRecDepth 100000 in
theorem c_X1_monthsToPayOff (S : St) (p0 : Nat) (p1 : Int32) (p2 : Int64) : Ct yX1_monthsToPayOff cX1_monthsToPayOff 7 (some .int) 2 45 (fun _ => [.ref p0, .int p1, .long p2]) [(p0, 1)] S (f_X1_monthsToPayOff S p0 p1 p2) oI (fun _ => S) := by
  refine Ct_of RX1 rfl (by decide) (fun _ => Nat.le_of_ble_eq_true rfl) 3 (vs := fun _ => [some (.ref p0), some (.int p1), some (.long p2), none, none, none, none]) (fun _ => rfl) (fun C X E hr ht => ?_)
  have t0_ : tT C p0 1 := ht (p0, 1) (by simp)
  show Jd C 7 (QJ C oI (fun _ => S)) S 0 [some (.ref p0), some (.int p1), some (.long p2), none, none, none, none] [] (f_X1_monthsToPayOff S p0 p1 p2)
  unfold f_X1_monthsToPayOff
  refine s_run X ok_X1_monthsToPayOff 0 1 (pc' := 1) (vs' := [some (.ref p0), some (.int p1), some (.long p2), none, none, none, none]) (st' := [.ref p0]) rfl ?_
  refine s_getR X fl_X1_35 t0_ (dk okd_X1_monthsToPayOff 0 rfl) (fun a1 (t2 : tT C a1 2) => ?_)
  refine s_getR X fl_X1_196 t2 (dk okd_X1_monthsToPayOff 1 rfl) (fun a3 (t4 : tT C a3 14) => ?_)
  refine s_run X ok_X1_monthsToPayOff 1 1 (pc' := 8) (vs' := [some (.ref p0), some (.int p1), some (.long p2), none, none, none, none]) (st' := [.int p1, .ref a3]) rfl ?_
  refine s_lald X t4 (dk okd_X1_monthsToPayOff 2 rfl) (fun v5 => ?_)
  refine s_run X ok_X1_monthsToPayOff 2 3 (pc' := 14) (vs' := [some (.ref p0), some (.int p1), some (.long p2), none, some (.long v5), none, some (.int 0)]) (st' := []) rfl ?_
  refine s_jn (κ := Int32 → Option (Int32)) (fun k7 => ∀ (x6 : Int32), Jd C 7 (QJ C oI (fun _ => S)) S 28 [none, none, none, none, none, none, some (.int x6)] [] (k7 x6)) (fun x6 => ?_) (fun k7 h8 => ?_)
  · refine s_run X ok_X1_monthsToPayOff 10 1 (pc' := 30) (vs' := [none, none, none, none, none, none, some (.int x6)]) (st' := [.int x6]) rfl ?_
    exact s_iret X hr (dk okd_X1_monthsToPayOff 5 rfl) rfl rfl
  · refine s_less [true, false, true, false, true, false, true] (vs' := [some (.ref p0), none, some (.long p2), none, some (.long v5), none, some (.int 0)]) rfl ?_
    refine s_lp (κ := Int64 → Int32 → Option (Int32)) (fun k11 => ∀ (x9 : Int64) (x10 : Int32), Jd C 7 (QJ C oI (fun _ => S)) S 14 [some (.ref p0), none, some (.long p2), none, some (.long x9), none, some (.int x10)] [] (k11 x9 x10)) (fun _ _ => s_none) (fun k11 h12 x9 x10 => ?_) FU v5 0
    refine s_run X ok_X1_monthsToPayOff 5 2 (pc' := 18) (vs' := [some (.ref p0), none, some (.long p2), none, some (.long x9), none, some (.int x10)]) (st' := [.int 120, .int x10]) rfl ?_
    refine s_icmp_gt (tgt := 50) X (dk okd_X1_monthsToPayOff 3 rfl) (by decide) ?_ ?_
    · refine s_run X ok_X1_monthsToPayOff 20 1 (pc' := 51) (vs' := [some (.ref p0), none, some (.long p2), none, some (.long x9), none, some (.int x10)]) (st' := [.int (-1)]) rfl ?_
      exact s_iret X hr (dk okd_X1_monthsToPayOff 7 rfl) rfl rfl
    · refine s_run X ok_X1_monthsToPayOff 7 3 (pc' := 25) (vs' := [some (.ref p0), none, some (.long p2), none, some (.long x9), none, some (.int x10)]) (st' := [.int (lg_cmp x9 0)]) rfl ?_
      refine s_lif_gt (tgt := 31) X (dk okd_X1_monthsToPayOff 4 rfl) (by decide) ?_ ?_
      · refine s_run X ok_X1_monthsToPayOff 11 3 (pc' := 36) (vs' := [some (.ref p0), none, some (.long p2), none, some (.long x9), none, some (.int x10)]) (st' := [.long x9, .ref p0, .long x9]) rfl ?_
        refine s_callV (b := p0) (As := [.long x9]) (rest := [.long x9]) X E mv_X1_162 (c_X1_interestOn S p0 x9) rfl (ta1 t0_) rfl (by decide) t0_ rfl rfl (Nat.le_of_ble_eq_true rfl) (Nat.le_of_ble_eq_true rfl) (Nat.le_of_ble_eq_true rfl) (dk okd_X1_monthsToPayOff 6 rfl) (st' := fun v13 => [.long v13, .long x9]) (fun _ => rfl) (fun v13 => ?_)
        refine s_run X ok_X1_monthsToPayOff 14 3 (pc' := 42) (vs' := [some (.ref p0), none, some (.long p2), none, some (.long x9), none, some (.int x10)]) (st' := [.long (x9 + (v13 - p2))]) rfl ?_
        refine s_nmJ (fun v14 => ?_)
        refine s_run X ok_X1_monthsToPayOff 17 3 (pc' := 14) (vs' := [some (.ref p0), none, some (.long p2), none, some (.long v14), none, some (.int (x10 + 1))]) (st' := []) rfl ?_
        exact h12 v14 (x10 + 1)
      · exact s_less [false, false, false, false, false, false, true] rfl (h8 x10)
def tab_X2_named : List En := [(0, 0, 0, 0), (1, 11, 4, 0), (3, 5, 4, 0), (5, 8, 0, 0), (12, 8, 0, 0), (16, 5, 4, 0), (19, 4, 3, 0), (23, 8, 0, 0), (24, 5, 4, 0), (26, 8, 1, 0), (27, 4, 2, 0), (34, 5, 4, 0), (37, 16, 4, 1), (40, 41, 3, 0), (43, 0, 0, (-1))]
theorem ok_X2_named : tab_X2_named.all (okE cX2_named) = true := by decide +kernel
def ed_X2_named : List (Nat × Instr × Nat) := [(6, .getfield 44, 3), (9, .if_icmp .ge 34, 3), (13, .getfield 15, 3), (18, .iaload, 1), (20, .if_icmp .ne 17, 3), (28, .invokevirtual 52, 3), (31, .ifCond .eq 6, 3), (36, .ireturn, 1), (44, .ireturn, 1)]
theorem okd_X2_named : ed_X2_named.all (okD cX2_named) = true := by decide +kernel
def f_X2_named (S : St) (p0 : Nat) (p1 : Nat) (p2 : Int32) (p3 : Int32) : Option (Int32) := jn (κ := Int32 → Option (Int32)) (fun x1 => some x1) fun k2 => lp (κ := Int32 → Option (Int32)) (fun _ => none) (fun k5 x4 => lt (gI S p0 8) fun (v7 : Int32) => if v7 ≤ x4 then (some (-1)) else (lt (gR S p0 1) fun (a8 : Nat) => ldI S a8 x4 fun (v10 : Int32) => jn (κ := Option (Int32)) (k5 (x4 + 1)) fun k11 => if v10 = p3 then (cl (f_X2_hasLetters S p0 x4 p1 p2) fun (v13 : Int32) => if v13 = 0 then (k11) else (k2 x4)) else (k11))) FU 0
set_option maxHeartbeats 4000000 in
set_option maxRecDepth 100000 in
theorem c_X2_named (S : St) (p0 : Nat) (p1 : Nat) (p2 : Int32) (p3 : Int32) : Ct yX2_named cX2_named 5 (some .int) 1 25 (fun _ => [.ref p0, .ref p1, .int p2, .int p3]) [(p0, 2), (p1, 12)] S (f_X2_named S p0 p1 p2 p3) oI (fun _ => S) := by
  refine Ct_of RX2 rfl (by decide) (fun _ => Nat.le_of_ble_eq_true rfl) 1 (vs := fun _ => [some (.ref p0), some (.ref p1), some (.int p2), some (.int p3), none]) (fun _ => rfl) (fun C X E hr ht => ?_)
  have t0_ : tT C p0 2 := ht (p0, 2) (by simp)
  have t1_ : tT C p1 12 := ht (p1, 12) (by simp)
  show Jd C 5 (QJ C oI (fun _ => S)) S 0 [some (.ref p0), some (.ref p1), some (.int p2), some (.int p3), none] [] (f_X2_named S p0 p1 p2 p3)
  unfold f_X2_named
  refine s_run X ok_X2_named 0 2 (pc' := 3) (vs' := [some (.ref p0), some (.ref p1), some (.int p2), some (.int p3), some (.int 0)]) (st' := []) rfl ?_
  refine s_jn (κ := Int32 → Option (Int32)) (fun k2 => ∀ (x1 : Int32), Jd C 5 (QJ C oI (fun _ => S)) S 34 [none, none, none, none, some (.int x1)] [] (k2 x1)) (fun x1 => ?_) (fun k2 h3 => ?_)
  · refine s_run X ok_X2_named 11 1 (pc' := 36) (vs' := [none, none, none, none, some (.int x1)]) (st' := [.int x1]) rfl ?_
    exact s_iret X hr (dk okd_X2_named 7 rfl) rfl rfl
  · refine s_lp (κ := Int32 → Option (Int32)) (fun k5 => ∀ (x4 : Int32), Jd C 5 (QJ C oI (fun _ => S)) S 3 [some (.ref p0), some (.ref p1), some (.int p2), some (.int p3), some (.int x4)] [] (k5 x4)) (fun _ => s_none) (fun k5 h6 x4 => ?_) FU 0
    refine s_run X ok_X2_named 2 2 (pc' := 6) (vs' := [some (.ref p0), some (.ref p1), some (.int p2), some (.int p3), some (.int x4)]) (st' := [.ref p0, .int x4]) rfl ?_
    refine s_getI X fl_X2_44 t0_ (dk okd_X2_named 0 rfl) (fun v7 => ?_)
    refine s_icmp_ge (tgt := 43) X (dk okd_X2_named 1 rfl) (by decide) ?_ ?_
    · refine s_run X ok_X2_named 14 1 (pc' := 44) (vs' := [some (.ref p0), some (.ref p1), some (.int p2), some (.int p3), some (.int x4)]) (st' := [.int (-1)]) rfl ?_
      exact s_iret X hr (dk okd_X2_named 8 rfl) rfl rfl
    · refine s_run X ok_X2_named 4 1 (pc' := 13) (vs' := [some (.ref p0), some (.ref p1), some (.int p2), some (.int p3), some (.int x4)]) (st' := [.ref p0]) rfl ?_
      refine s_getR X fl_X2_15 t0_ (dk okd_X2_named 2 rfl) (fun a8 (t9 : tT C a8 13) => ?_)
      refine s_run X ok_X2_named 5 1 (pc' := 18) (vs' := [some (.ref p0), some (.ref p1), some (.int p2), some (.int p3), some (.int x4)]) (st' := [.int x4, .ref a8]) rfl ?_
      refine s_iald X t9 (dk okd_X2_named 3 rfl) (fun v10 => ?_)
      refine s_run X ok_X2_named 6 1 (pc' := 20) (vs' := [some (.ref p0), some (.ref p1), some (.int p2), some (.int p3), some (.int x4)]) (st' := [.int p3, .int v10]) rfl ?_
      refine s_jn (κ := Option (Int32)) (fun k11 => Jd C 5 (QJ C oI (fun _ => S)) S 37 [some (.ref p0), some (.ref p1), some (.int p2), some (.int p3), some (.int x4)] [] k11) ?_ (fun k11 h12 => ?_)
      · refine s_run X ok_X2_named 12 2 (pc' := 3) (vs' := [some (.ref p0), some (.ref p1), some (.int p2), some (.int p3), some (.int (x4 + 1))]) (st' := []) rfl ?_
        exact h6 (x4 + 1)
      · refine s_icmp_ne (tgt := 37) X (dk okd_X2_named 4 rfl) (by decide) ?_ ?_
        · exact h12
        · refine s_run X ok_X2_named 7 4 (pc' := 28) (vs' := [some (.ref p0), some (.ref p1), some (.int p2), some (.int p3), some (.int x4)]) (st' := [.int p2, .ref p1, .int x4, .ref p0]) rfl ?_
          refine s_callV (b := p0) (As := [.int x4, .ref p1, .int p2]) (rest := []) X E mv_X2_52 (c_X2_hasLetters S p0 x4 p1 p2) rfl (ta2 t0_ t1_) rfl (by decide) t0_ rfl rfl (Nat.le_of_ble_eq_true rfl) (Nat.le_of_ble_eq_true rfl) (Nat.le_of_ble_eq_true rfl) (dk okd_X2_named 5 rfl) (st' := fun v13 => [.int v13]) (fun _ => rfl) (fun v13 => ?_)
          refine s_if_eq (tgt := 37) X (dk okd_X2_named 6 rfl) (by decide) ?_ ?_
          · exact h12
          · exact s_less [false, false, false, false, true] rfl (h3 x4)
def tab_X3_clear : List En := [(0, 8, 0, 0), (4, 0, 0, (-1))]
theorem ok_X3_clear : tab_X3_clear.all (okE cX3_clear) = true := by decide +kernel
def ed_X3_clear : List (Nat × Instr × Nat) := [(1, .getfield 9, 3), (5, .invokestatic 27, 3), (8, .return_, 1)]
theorem okd_X3_clear : ed_X3_clear.all (okD cX3_clear) = true := by decide +kernel
def f_X3_clear (S : St) (p0 : Nat) : Option (St) := lt (gR S p0 0) fun (a1 : Nat) => cl (f_J7_fill_53178 S a1 (-1)) fun (S3 : St) => some S3
set_option maxHeartbeats 4000000 in
set_option maxRecDepth 100000 in
theorem c_X3_clear (S : St) (p0 : Nat) : Ct yX3_clear cX3_clear 1 none 1 23 (fun _ => [.ref p0]) [(p0, 3)] S (f_X3_clear S p0) oV sV := by
  refine Ct_of RX3 rfl (by decide) (fun _ => Nat.le_of_ble_eq_true rfl) 0 (vs := fun _ => [some (.ref p0)]) (fun _ => rfl) (fun C X E hr ht => ?_)
  have t0_ : tT C p0 3 := ht (p0, 3) (by simp)
  show Jd C 1 (QJ C oV sV) S 0 [some (.ref p0)] [] (f_X3_clear S p0)
  unfold f_X3_clear
  refine s_run X ok_X3_clear 0 1 (pc' := 1) (vs' := [some (.ref p0)]) (st' := [.ref p0]) rfl ?_
  refine s_getR X fl_X3_9 t0_ (dk okd_X3_clear 0 rfl) (fun a1 (t2 : tT C a1 13) => ?_)
  refine s_run X ok_X3_clear 1 1 (pc' := 5) (vs' := [some (.ref p0)]) (st' := [.int (-1), .ref a1]) rfl ?_
  refine s_callS (As := [.ref a1, .int (-1)]) (rest := []) X E ms_X3_27 (c_J7_fill_53178 S a1 (-1)) rfl (ta1 t2) rfl rfl (Nat.le_of_ble_eq_true rfl) (Nat.le_of_ble_eq_true rfl) (Nat.le_of_ble_eq_true rfl) (dk okd_X3_clear 1 rfl) (st' := fun S3 => []) (fun _ => rfl) (fun S3 => ?_)
  exact s_vret X hr (dk okd_X3_clear 2 rfl) rfl rfl
def tab_X3_outerSides : List En := [(0, 0, 0, 0), (1, 10, 2, 0), (2, 0, 0, 0), (3, 10, 3, 0), (4, 4, 3, 0), (5, 2, 0, 900), (11, 8, 0, 0), (15, 4, 3, 0), (17, 4, 1, 0), (21, 4, 2, 0), (22, 0, 0, 4), (23, 8, 0, 0), (24, 4, 1, 0), (25, 4, 3, 0), (29, 18, 0, 0), (30, 17, 0, 0), (31, 10, 2, 0), (32, 16, 3, 1), (35, 41, 4, 0), (38, 4, 2, 0)]
theorem ok_X3_outerSides : tab_X3_outerSides.all (okE cX3_outerSides) = true := by decide +kernel
def ed_X3_outerSides : List (Nat × Instr × Nat) := [(8, .if_icmp .ge 30, 3), (12, .getfield 9, 3), (16, .iaload, 1), (18, .if_icmp .ne 14, 3), (26, .invokevirtual 51, 3), (39, .ireturn, 1)]
theorem okd_X3_outerSides : ed_X3_outerSides.all (okD cX3_outerSides) = true := by decide +kernel
def f_X3_outerSides (S : St) (p0 : Nat) (p1 : Int32) : Option (Int32) := jn (κ := Int32 → Option (Int32)) (fun x1 => some x1) fun k2 => lp (κ := Int32 → Int32 → Option (Int32)) (fun _ _ => none) (fun k6 x4 x5 => if 900 ≤ x5 then (k2 x4) else (lt (gR S p0 0) fun (a8 : Nat) => ldI S a8 x5 fun (v10 : Int32) => jn (κ := Int32 → Option (Int32)) (fun x11 => k6 x11 (x5 + 1)) fun k12 => if v10 = p1 then (cl (f_X3_neighboursOf S p0 p1 x5) fun (v14 : Int32) => lt (x4 + (4 - v14)) fun (v15 : Int32) => k12 v15) else (k12 x4))) FU 0 0
set_option maxHeartbeats 4000000 in
set_option maxRecDepth 100000 in
theorem c_X3_outerSides (S : St) (p0 : Nat) (p1 : Int32) : Ct yX3_outerSides cX3_outerSides 4 (some .int) 3 68 (fun _ => [.ref p0, .int p1]) [(p0, 3)] S (f_X3_outerSides S p0 p1) oI (fun _ => S) := by
  refine Ct_of RX3 rfl (by decide) (fun _ => Nat.le_of_ble_eq_true rfl) 2 (vs := fun _ => [some (.ref p0), some (.int p1), none, none]) (fun _ => rfl) (fun C X E hr ht => ?_)
  have t0_ : tT C p0 3 := ht (p0, 3) (by simp)
  show Jd C 4 (QJ C oI (fun _ => S)) S 0 [some (.ref p0), some (.int p1), none, none] [] (f_X3_outerSides S p0 p1)
  unfold f_X3_outerSides
  refine s_run X ok_X3_outerSides 0 4 (pc' := 4) (vs' := [some (.ref p0), some (.int p1), some (.int 0), some (.int 0)]) (st' := []) rfl ?_
  refine s_jn (κ := Int32 → Option (Int32)) (fun k2 => ∀ (x1 : Int32), Jd C 4 (QJ C oI (fun _ => S)) S 38 [none, none, some (.int x1), none] [] (k2 x1)) (fun x1 => ?_) (fun k2 h3 => ?_)
  · refine s_run X ok_X3_outerSides 19 1 (pc' := 39) (vs' := [none, none, some (.int x1), none]) (st' := [.int x1]) rfl ?_
    exact s_iret X hr (dk okd_X3_outerSides 5 rfl) rfl rfl
  · refine s_lp (κ := Int32 → Int32 → Option (Int32)) (fun k6 => ∀ (x4 : Int32) (x5 : Int32), Jd C 4 (QJ C oI (fun _ => S)) S 4 [some (.ref p0), some (.int p1), some (.int x4), some (.int x5)] [] (k6 x4 x5)) (fun _ _ => s_none) (fun k6 h7 x4 x5 => ?_) FU 0 0
    refine s_run X ok_X3_outerSides 4 2 (pc' := 8) (vs' := [some (.ref p0), some (.int p1), some (.int x4), some (.int x5)]) (st' := [.int 900, .int x5]) rfl ?_
    refine s_icmp_ge (tgt := 38) X (dk okd_X3_outerSides 0 rfl) (by decide) ?_ ?_
    · exact s_less [false, false, true, false] rfl (h3 x4)
    · refine s_run X ok_X3_outerSides 6 1 (pc' := 12) (vs' := [some (.ref p0), some (.int p1), some (.int x4), some (.int x5)]) (st' := [.ref p0]) rfl ?_
      refine s_getR X fl_X3_9 t0_ (dk okd_X3_outerSides 1 rfl) (fun a8 (t9 : tT C a8 13) => ?_)
      refine s_run X ok_X3_outerSides 7 1 (pc' := 16) (vs' := [some (.ref p0), some (.int p1), some (.int x4), some (.int x5)]) (st' := [.int x5, .ref a8]) rfl ?_
      refine s_iald X t9 (dk okd_X3_outerSides 2 rfl) (fun v10 => ?_)
      refine s_run X ok_X3_outerSides 8 1 (pc' := 18) (vs' := [some (.ref p0), some (.int p1), some (.int x4), some (.int x5)]) (st' := [.int p1, .int v10]) rfl ?_
      refine s_jn (κ := Int32 → Option (Int32)) (fun k12 => ∀ (x11 : Int32), Jd C 4 (QJ C oI (fun _ => S)) S 32 [some (.ref p0), some (.int p1), some (.int x11), some (.int x5)] [] (k12 x11)) (fun x11 => ?_) (fun k12 h13 => ?_)
      · refine s_run X ok_X3_outerSides 17 2 (pc' := 4) (vs' := [some (.ref p0), some (.int p1), some (.int x11), some (.int (x5 + 1))]) (st' := []) rfl ?_
        exact h7 x11 (x5 + 1)
      · refine s_icmp_ne (tgt := 32) X (dk okd_X3_outerSides 3 rfl) (by decide) ?_ ?_
        · exact h13 x4
        · refine s_run X ok_X3_outerSides 9 5 (pc' := 26) (vs' := [some (.ref p0), some (.int p1), some (.int x4), some (.int x5)]) (st' := [.int x5, .int p1, .ref p0, .int 4, .int x4]) rfl ?_
          refine s_callV (b := p0) (As := [.int p1, .int x5]) (rest := [.int 4, .int x4]) X E mv_X3_51 (c_X3_neighboursOf S p0 p1 x5) rfl (ta1 t0_) rfl (by decide) t0_ rfl rfl (Nat.le_of_ble_eq_true rfl) (Nat.le_of_ble_eq_true rfl) (Nat.le_of_ble_eq_true rfl) (dk okd_X3_outerSides 4 rfl) (st' := fun v14 => [.int v14, .int 4, .int x4]) (fun _ => rfl) (fun v14 => ?_)
          refine s_run X ok_X3_outerSides 14 2 (pc' := 31) (vs' := [some (.ref p0), some (.int p1), some (.int x4), some (.int x5)]) (st' := [.int (x4 + (4 - v14))]) rfl ?_
          refine s_nmI (fun v15 => ?_)
          refine s_run X ok_X3_outerSides 16 1 (pc' := 32) (vs' := [some (.ref p0), some (.int p1), some (.int v15), some (.int x5)]) (st' := []) rfl ?_
          exact h13 v15
def tab_X3_sharedSides : List En := [(0, 0, 0, 0), (1, 10, 3, 0), (2, 0, 0, 0), (3, 11, 4, 0), (5, 5, 4, 0), (7, 2, 0, 900), (13, 8, 0, 0), (17, 5, 4, 0), (20, 4, 1, 0), (24, 4, 3, 0), (25, 8, 0, 0), (26, 4, 2, 0), (27, 5, 4, 0), (32, 17, 0, 0), (33, 10, 3, 0), (34, 16, 4, 1), (37, 41, 5, 0), (40, 4, 3, 0)]
theorem ok_X3_sharedSides : tab_X3_sharedSides.all (okE cX3_sharedSides) = true := by decide +kernel
def ed_X3_sharedSides : List (Nat × Instr × Nat) := [(10, .if_icmp .ge 30, 3), (14, .getfield 9, 3), (19, .iaload, 1), (21, .if_icmp .ne 13, 3), (29, .invokevirtual 51, 3), (41, .ireturn, 1)]
theorem okd_X3_sharedSides : ed_X3_sharedSides.all (okD cX3_sharedSides) = true := by decide +kernel
def f_X3_sharedSides (S : St) (p0 : Nat) (p1 : Int32) (p2 : Int32) : Option (Int32) := jn (κ := Int32 → Option (Int32)) (fun x1 => some x1) fun k2 => lp (κ := Int32 → Int32 → Option (Int32)) (fun _ _ => none) (fun k6 x4 x5 => if 900 ≤ x5 then (k2 x4) else (lt (gR S p0 0) fun (a8 : Nat) => ldI S a8 x5 fun (v10 : Int32) => jn (κ := Int32 → Option (Int32)) (fun x11 => k6 x11 (x5 + 1)) fun k12 => if v10 = p1 then (cl (f_X3_neighboursOf S p0 p2 x5) fun (v14 : Int32) => lt (x4 + v14) fun (v15 : Int32) => k12 v15) else (k12 x4))) FU 0 0
set_option maxHeartbeats 4000000 in
set_option maxRecDepth 100000 in
theorem c_X3_sharedSides (S : St) (p0 : Nat) (p1 : Int32) (p2 : Int32) : Ct yX3_sharedSides cX3_sharedSides 5 (some .int) 3 68 (fun _ => [.ref p0, .int p1, .int p2]) [(p0, 3)] S (f_X3_sharedSides S p0 p1 p2) oI (fun _ => S) := by
  refine Ct_of RX3 rfl (by decide) (fun _ => Nat.le_of_ble_eq_true rfl) 2 (vs := fun _ => [some (.ref p0), some (.int p1), some (.int p2), none, none]) (fun _ => rfl) (fun C X E hr ht => ?_)
  have t0_ : tT C p0 3 := ht (p0, 3) (by simp)
  show Jd C 5 (QJ C oI (fun _ => S)) S 0 [some (.ref p0), some (.int p1), some (.int p2), none, none] [] (f_X3_sharedSides S p0 p1 p2)
  unfold f_X3_sharedSides
  refine s_run X ok_X3_sharedSides 0 4 (pc' := 5) (vs' := [some (.ref p0), some (.int p1), some (.int p2), some (.int 0), some (.int 0)]) (st' := []) rfl ?_
  refine s_jn (κ := Int32 → Option (Int32)) (fun k2 => ∀ (x1 : Int32), Jd C 5 (QJ C oI (fun _ => S)) S 40 [none, none, none, some (.int x1), none] [] (k2 x1)) (fun x1 => ?_) (fun k2 h3 => ?_)
  · refine s_run X ok_X3_sharedSides 17 1 (pc' := 41) (vs' := [none, none, none, some (.int x1), none]) (st' := [.int x1]) rfl ?_
    exact s_iret X hr (dk okd_X3_sharedSides 5 rfl) rfl rfl
  · refine s_lp (κ := Int32 → Int32 → Option (Int32)) (fun k6 => ∀ (x4 : Int32) (x5 : Int32), Jd C 5 (QJ C oI (fun _ => S)) S 5 [some (.ref p0), some (.int p1), some (.int p2), some (.int x4), some (.int x5)] [] (k6 x4 x5)) (fun _ _ => s_none) (fun k6 h7 x4 x5 => ?_) FU 0 0
    refine s_run X ok_X3_sharedSides 4 2 (pc' := 10) (vs' := [some (.ref p0), some (.int p1), some (.int p2), some (.int x4), some (.int x5)]) (st' := [.int 900, .int x5]) rfl ?_
    refine s_icmp_ge (tgt := 40) X (dk okd_X3_sharedSides 0 rfl) (by decide) ?_ ?_
    · exact s_less [false, false, false, true, false] rfl (h3 x4)
    · refine s_run X ok_X3_sharedSides 6 1 (pc' := 14) (vs' := [some (.ref p0), some (.int p1), some (.int p2), some (.int x4), some (.int x5)]) (st' := [.ref p0]) rfl ?_
      refine s_getR X fl_X3_9 t0_ (dk okd_X3_sharedSides 1 rfl) (fun a8 (t9 : tT C a8 13) => ?_)
      refine s_run X ok_X3_sharedSides 7 1 (pc' := 19) (vs' := [some (.ref p0), some (.int p1), some (.int p2), some (.int x4), some (.int x5)]) (st' := [.int x5, .ref a8]) rfl ?_
      refine s_iald X t9 (dk okd_X3_sharedSides 2 rfl) (fun v10 => ?_)
      refine s_run X ok_X3_sharedSides 8 1 (pc' := 21) (vs' := [some (.ref p0), some (.int p1), some (.int p2), some (.int x4), some (.int x5)]) (st' := [.int p1, .int v10]) rfl ?_
      refine s_jn (κ := Int32 → Option (Int32)) (fun k12 => ∀ (x11 : Int32), Jd C 5 (QJ C oI (fun _ => S)) S 34 [some (.ref p0), some (.int p1), some (.int p2), some (.int x11), some (.int x5)] [] (k12 x11)) (fun x11 => ?_) (fun k12 h13 => ?_)
      · refine s_run X ok_X3_sharedSides 15 2 (pc' := 5) (vs' := [some (.ref p0), some (.int p1), some (.int p2), some (.int x11), some (.int (x5 + 1))]) (st' := []) rfl ?_
        exact h7 x11 (x5 + 1)
      · refine s_icmp_ne (tgt := 34) X (dk okd_X3_sharedSides 3 rfl) (by decide) ?_ ?_
        · exact h13 x4
        · refine s_run X ok_X3_sharedSides 9 4 (pc' := 29) (vs' := [some (.ref p0), some (.int p1), some (.int p2), some (.int x4), some (.int x5)]) (st' := [.int x5, .int p2, .ref p0, .int x4]) rfl ?_
          refine s_callV (b := p0) (As := [.int p2, .int x5]) (rest := [.int x4]) X E mv_X3_51 (c_X3_neighboursOf S p0 p2 x5) rfl (ta1 t0_) rfl (by decide) t0_ rfl rfl (Nat.le_of_ble_eq_true rfl) (Nat.le_of_ble_eq_true rfl) (Nat.le_of_ble_eq_true rfl) (dk okd_X3_sharedSides 4 rfl) (st' := fun v14 => [.int v14, .int x4]) (fun _ => rfl) (fun v14 => ?_)
          refine s_run X ok_X3_sharedSides 13 1 (pc' := 33) (vs' := [some (.ref p0), some (.int p1), some (.int p2), some (.int x4), some (.int x5)]) (st' := [.int (x4 + v14)]) rfl ?_
          refine s_nmI (fun v15 => ?_)
          refine s_run X ok_X3_sharedSides 14 1 (pc' := 34) (vs' := [some (.ref p0), some (.int p1), some (.int p2), some (.int v15), some (.int x5)]) (st' := []) rfl ?_
          exact h13 v15
def tab_X3_isWhole : List En := [(0, 8, 0, 0), (1, 4, 1, 0), (5, 10, 2, 0), (6, 4, 2, 0), (10, 0, 0, 0), (12, 8, 0, 0), (16, 0, 0, 0), (20, 8, 0, 0), (21, 0, 0, 0), (25, 0, 0, 0), (26, 10, 3, 0), (27, 4, 3, 0), (28, 2, 0, 900), (34, 8, 0, 0), (41, 8, 0, 0), (42, 4, 1, 0), (43, 4, 3, 0), (44, 1, 0, 30), (47, 4, 3, 0), (48, 1, 0, 30), (54, 16, 3, 1), (57, 41, 27, 0), (60, 0, 0, 0), (61, 10, 3, 0), (62, 4, 3, 0), (63, 8, 0, 0), (70, 8, 0, 0), (74, 4, 3, 0), (76, 1, 0, 30), (79, 11, 4, 0), (81, 8, 0, 0), (85, 4, 3, 0), (87, 1, 0, 30), (90, 11, 5, 0), (92, 8, 0, 0), (93, 4, 1, 0), (94, 5, 4, 0), (96, 0, 0, 1), (97, 18, 0, 0), (98, 5, 5, 0), (103, 8, 0, 0), (104, 4, 1, 0), (105, 5, 4, 0), (107, 0, 0, 1), (108, 17, 0, 0), (109, 5, 5, 0), (114, 8, 0, 0), (115, 4, 1, 0), (116, 5, 4, 0), (118, 5, 5, 0), (120, 0, 0, 1), (121, 18, 0, 0), (125, 8, 0, 0), (126, 4, 1, 0), (127, 5, 4, 0), (129, 5, 5, 0), (131, 0, 0, 1), (132, 17, 0, 0), (136, 16, 3, 1), (139, 41, 62, 0), (142, 8, 0, 0), (146, 4, 2, 0), (150, 0, 0, 1), (151, 41, 155, 0), (154, 0, 0, 0)]
theorem ok_X3_isWhole : tab_X3_isWhole.all (okE cX3_isWhole) = true := by decide +kernel
def ed_X3_isWhole : List (Nat × Instr × Nat) := [(2, .invokevirtual 54, 3), (7, .ifCond .ne 5, 3), (11, .ireturn, 1), (13, .getfield 18, 3), (17, .invokestatic 27, 3), (22, .putfield 57, 3), (31, .if_icmp .ge 29, 3), (35, .getfield 57, 3), (38, .ifCond .ne 22, 3), (46, .irem, 1), (50, .idiv, 1), (51, .invokevirtual 61, 3), (64, .getfield 57, 3), (67, .if_icmp .ge 75, 3), (71, .getfield 15, 3), (75, .iaload, 1), (78, .irem, 1), (82, .getfield 15, 3), (86, .iaload, 1), (89, .idiv, 1), (100, .invokevirtual 61, 3), (111, .invokevirtual 61, 3), (122, .invokevirtual 61, 3), (133, .invokevirtual 61, 3), (143, .getfield 57, 3), (147, .if_icmp .ne 7, 3), (155, .ireturn, 1)]
theorem okd_X3_isWhole : ed_X3_isWhole.all (okD cX3_isWhole) = true := by decide +kernel
def f_X3_isWhole (S : St) (p0 : Nat) (p1 : Int32) : Option (Int32 × St) := cl (f_X3_sizeOf S p0 p1) fun (v1 : Int32) => if v1 = 0 then (some (0, S)) else (lt (gR S p0 2) fun (a2 : Nat) => cl (f_J7_fill_53178 S a2 0) fun (S4 : St) => lt (uI S4 p0 3 0) fun (S5 : St) => jn (κ := St → Option (Int32 × St)) (fun S6 => jn (κ := St → Option (Int32 × St)) (fun S9 => lt (gI S9 p0 3) fun (v12 : Int32) => if v12 = v1 then (some (1, S9)) else (some (0, S9))) fun k10 => lp (κ := Int32 → St → Option (Int32 × St)) (fun _ _ => none) (fun k15 x13 S14 => lt (gI S14 p0 3) fun (v17 : Int32) => if v17 ≤ x13 then (k10 S14) else (lt (gR S14 p0 1) fun (a18 : Nat) => ldI S14 a18 x13 fun (v20 : Int32) => lt (v20 - v20 / 30 * 30) fun (v21 : Int32) => lt (gR S14 p0 1) fun (a22 : Nat) => ldI S14 a22 x13 fun (v24 : Int32) => lt (v24 / 30) fun (v25 : Int32) => cl (f_X3_reach S14 p0 p1 (v21 - 1) v25) fun (S26 : St) => cl (f_X3_reach S26 p0 p1 (v21 + 1) v25) fun (S27 : St) => cl (f_X3_reach S27 p0 p1 v21 (v25 - 1)) fun (S28 : St) => cl (f_X3_reach S28 p0 p1 v21 (v25 + 1)) fun (S29 : St) => k15 (x13 + 1) S29)) FU 0 S6) fun k7 => lp (κ := Int32 → St → Option (Int32 × St)) (fun _ _ => none) (fun k32 x30 S31 => if 900 ≤ x30 then (k7 S31) else (lt (gI S31 p0 3) fun (v34 : Int32) => if v34 = 0 then (cl (f_X3_reach S31 p0 p1 (x30 - x30 / 30 * 30) (x30 / 30)) fun (S35 : St) => k32 (x30 + 1) S35) else (k7 S31))) FU 0 S5)
set_option maxHeartbeats 4000000 in
set_option maxRecDepth 100000 in
theorem c_X3_isWhole (S : St) (p0 : Nat) (p1 : Int32) : Ct yX3_isWhole cX3_isWhole 6 (some .boolean) 3 68 (fun _ => [.ref p0, .int p1]) [(p0, 3)] S (f_X3_isWhole S p0 p1) oIS sS := by
  refine Ct_of RX3 rfl (by decide) (fun _ => Nat.le_of_ble_eq_true rfl) 4 (vs := fun _ => [some (.ref p0), some (.int p1), none, none, none, none]) (fun _ => rfl) (fun C X E hr ht => ?_)
  have t0_ : tT C p0 3 := ht (p0, 3) (by simp)
  show Jd C 6 (QJ C oIS sS) S 0 [some (.ref p0), some (.int p1), none, none, none, none] [] (f_X3_isWhole S p0 p1)
  unfold f_X3_isWhole
  refine s_run X ok_X3_isWhole 0 2 (pc' := 2) (vs' := [some (.ref p0), some (.int p1), none, none, none, none]) (st' := [.int p1, .ref p0]) rfl ?_
  refine s_callV (b := p0) (As := [.int p1]) (rest := []) X E mv_X3_54 (c_X3_sizeOf S p0 p1) rfl (ta1 t0_) rfl (by decide) t0_ rfl rfl (Nat.le_of_ble_eq_true rfl) (Nat.le_of_ble_eq_true rfl) (Nat.le_of_ble_eq_true rfl) (dk okd_X3_isWhole 0 rfl) (st' := fun v1 => [.int v1]) (fun _ => rfl) (fun v1 => ?_)
  refine s_run X ok_X3_isWhole 2 2 (pc' := 7) (vs' := [some (.ref p0), some (.int p1), some (.int v1), none, none, none]) (st' := [.int v1]) rfl ?_
  refine s_if_ne (tgt := 12) X (dk okd_X3_isWhole 1 rfl) (by decide) ?_ ?_
  · refine s_run X ok_X3_isWhole 5 1 (pc' := 13) (vs' := [some (.ref p0), some (.int p1), some (.int v1), none, none, none]) (st' := [.ref p0]) rfl ?_
    refine s_getR X fl_X3_18 t0_ (dk okd_X3_isWhole 3 rfl) (fun a2 (t3 : tT C a2 13) => ?_)
    refine s_run X ok_X3_isWhole 6 1 (pc' := 17) (vs' := [some (.ref p0), some (.int p1), some (.int v1), none, none, none]) (st' := [.int 0, .ref a2]) rfl ?_
    refine s_callS (As := [.ref a2, .int 0]) (rest := []) X E ms_X3_27 (c_J7_fill_53178 S a2 0) rfl (ta1 t3) rfl rfl (Nat.le_of_ble_eq_true rfl) (Nat.le_of_ble_eq_true rfl) (Nat.le_of_ble_eq_true rfl) (dk okd_X3_isWhole 4 rfl) (st' := fun S4 => []) (fun _ => rfl) (fun S4 => ?_)
    refine s_run X ok_X3_isWhole 7 2 (pc' := 22) (vs' := [some (.ref p0), some (.int p1), some (.int v1), none, none, none]) (st' := [.int 0, .ref p0]) rfl ?_
    refine s_putI X fp_X3_57 t0_ (dk okd_X3_isWhole 5 rfl) (fun S5 => ?_)
    refine s_run X ok_X3_isWhole 9 2 (pc' := 27) (vs' := [some (.ref p0), some (.int p1), some (.int v1), some (.int 0), none, none]) (st' := []) rfl ?_
    refine s_jn (κ := St → Option (Int32 × St)) (fun k7 => ∀ (S6 : St), Jd C 6 (QJ C oIS sS) S6 60 [some (.ref p0), some (.int p1), some (.int v1), none, none, none] [] (k7 S6)) (fun S6 => ?_) (fun k7 h8 => ?_)
    · refine s_run X ok_X3_isWhole 22 2 (pc' := 62) (vs' := [some (.ref p0), some (.int p1), some (.int v1), some (.int 0), none, none]) (st' := []) rfl ?_
      refine s_jn (κ := St → Option (Int32 × St)) (fun k10 => ∀ (S9 : St), Jd C 6 (QJ C oIS sS) S9 142 [some (.ref p0), none, some (.int v1), none, none, none] [] (k10 S9)) (fun S9 => ?_) (fun k10 h11 => ?_)
      · refine s_run X ok_X3_isWhole 60 1 (pc' := 143) (vs' := [some (.ref p0), none, some (.int v1), none, none, none]) (st' := [.ref p0]) rfl ?_
        refine s_getI X fl_X3_57 t0_ (dk okd_X3_isWhole 24 rfl) (fun v12 => ?_)
        refine s_run X ok_X3_isWhole 61 1 (pc' := 147) (vs' := [some (.ref p0), none, some (.int v1), none, none, none]) (st' := [.int v1, .int v12]) rfl ?_
        refine s_icmp_ne (tgt := 154) X (dk okd_X3_isWhole 25 rfl) (by decide) ?_ ?_
        · refine s_run X ok_X3_isWhole 64 1 (pc' := 155) (vs' := [some (.ref p0), none, some (.int v1), none, none, none]) (st' := [.int 0]) rfl ?_
          exact s_zret0 X hr (dk okd_X3_isWhole 26 rfl) (by decide) rfl rfl
        · refine s_run X ok_X3_isWhole 62 2 (pc' := 155) (vs' := [some (.ref p0), none, some (.int v1), none, none, none]) (st' := [.int 1]) rfl ?_
          exact s_zret0 X hr (dk okd_X3_isWhole 26 rfl) (by decide) rfl rfl
      · refine s_lp (κ := Int32 → St → Option (Int32 × St)) (fun k15 => ∀ (x13 : Int32) (S14 : St), Jd C 6 (QJ C oIS sS) S14 62 [some (.ref p0), some (.int p1), some (.int v1), some (.int x13), none, none] [] (k15 x13 S14)) (fun _ _ => s_none) (fun k15 h16 x13 S14 => ?_) FU 0 S6
        refine s_run X ok_X3_isWhole 24 2 (pc' := 64) (vs' := [some (.ref p0), some (.int p1), some (.int v1), some (.int x13), none, none]) (st' := [.ref p0, .int x13]) rfl ?_
        refine s_getI X fl_X3_57 t0_ (dk okd_X3_isWhole 12 rfl) (fun v17 => ?_)
        refine s_icmp_ge (tgt := 142) X (dk okd_X3_isWhole 13 rfl) (by decide) ?_ ?_
        · exact s_less [true, false, true, false, false, false] rfl (h11 S14)
        · refine s_run X ok_X3_isWhole 26 1 (pc' := 71) (vs' := [some (.ref p0), some (.int p1), some (.int v1), some (.int x13), none, none]) (st' := [.ref p0]) rfl ?_
          refine s_getR X fl_X3_15 t0_ (dk okd_X3_isWhole 14 rfl) (fun a18 (t19 : tT C a18 13) => ?_)
          refine s_run X ok_X3_isWhole 27 1 (pc' := 75) (vs' := [some (.ref p0), some (.int p1), some (.int v1), some (.int x13), none, none]) (st' := [.int x13, .ref a18]) rfl ?_
          refine s_iald X t19 (dk okd_X3_isWhole 15 rfl) (fun v20 => ?_)
          refine s_run X ok_X3_isWhole 28 1 (pc' := 78) (vs' := [some (.ref p0), some (.int p1), some (.int v1), some (.int x13), none, none]) (st' := [.int 30, .int v20]) rfl ?_
          refine s_irem0 X (dk okd_X3_isWhole 16 rfl) (by decide) ?_
          refine s_nmI (fun v21 => ?_)
          refine s_run X ok_X3_isWhole 29 2 (pc' := 82) (vs' := [some (.ref p0), some (.int p1), some (.int v1), some (.int x13), some (.int v21), none]) (st' := [.ref p0]) rfl ?_
          refine s_getR X fl_X3_15 t0_ (dk okd_X3_isWhole 17 rfl) (fun a22 (t23 : tT C a22 13) => ?_)
          refine s_run X ok_X3_isWhole 31 1 (pc' := 86) (vs' := [some (.ref p0), some (.int p1), some (.int v1), some (.int x13), some (.int v21), none]) (st' := [.int x13, .ref a22]) rfl ?_
          refine s_iald X t23 (dk okd_X3_isWhole 18 rfl) (fun v24 => ?_)
          refine s_run X ok_X3_isWhole 32 1 (pc' := 89) (vs' := [some (.ref p0), some (.int p1), some (.int v1), some (.int x13), some (.int v21), none]) (st' := [.int 30, .int v24]) rfl ?_
          refine s_idiv0 X (dk okd_X3_isWhole 19 rfl) (by decide) ?_
          refine s_nmI (fun v25 => ?_)
          refine s_run X ok_X3_isWhole 33 7 (pc' := 100) (vs' := [some (.ref p0), some (.int p1), some (.int v1), some (.int x13), some (.int v21), some (.int v25)]) (st' := [.int v25, .int (v21 - 1), .int p1, .ref p0]) rfl ?_
          refine s_callV (b := p0) (As := [.int p1, .int (v21 - 1), .int v25]) (rest := []) X E mv_X3_61 (c_X3_reach S14 p0 p1 (v21 - 1) v25) rfl (ta1 t0_) rfl (by decide) t0_ rfl rfl (Nat.le_of_ble_eq_true rfl) (Nat.le_of_ble_eq_true rfl) (Nat.le_of_ble_eq_true rfl) (dk okd_X3_isWhole 20 rfl) (st' := fun S26 => []) (fun _ => rfl) (fun S26 => ?_)
          refine s_run X ok_X3_isWhole 40 6 (pc' := 111) (vs' := [some (.ref p0), some (.int p1), some (.int v1), some (.int x13), some (.int v21), some (.int v25)]) (st' := [.int v25, .int (v21 + 1), .int p1, .ref p0]) rfl ?_
          refine s_callV (b := p0) (As := [.int p1, .int (v21 + 1), .int v25]) (rest := []) X E mv_X3_61 (c_X3_reach S26 p0 p1 (v21 + 1) v25) rfl (ta1 t0_) rfl (by decide) t0_ rfl rfl (Nat.le_of_ble_eq_true rfl) (Nat.le_of_ble_eq_true rfl) (Nat.le_of_ble_eq_true rfl) (dk okd_X3_isWhole 21 rfl) (st' := fun S27 => []) (fun _ => rfl) (fun S27 => ?_)
          refine s_run X ok_X3_isWhole 46 6 (pc' := 122) (vs' := [some (.ref p0), some (.int p1), some (.int v1), some (.int x13), some (.int v21), some (.int v25)]) (st' := [.int (v25 - 1), .int v21, .int p1, .ref p0]) rfl ?_
          refine s_callV (b := p0) (As := [.int p1, .int v21, .int (v25 - 1)]) (rest := []) X E mv_X3_61 (c_X3_reach S27 p0 p1 v21 (v25 - 1)) rfl (ta1 t0_) rfl (by decide) t0_ rfl rfl (Nat.le_of_ble_eq_true rfl) (Nat.le_of_ble_eq_true rfl) (Nat.le_of_ble_eq_true rfl) (dk okd_X3_isWhole 22 rfl) (st' := fun S28 => []) (fun _ => rfl) (fun S28 => ?_)
          refine s_run X ok_X3_isWhole 52 6 (pc' := 133) (vs' := [some (.ref p0), some (.int p1), some (.int v1), some (.int x13), some (.int v21), some (.int v25)]) (st' := [.int (v25 + 1), .int v21, .int p1, .ref p0]) rfl ?_
          refine s_callV (b := p0) (As := [.int p1, .int v21, .int (v25 + 1)]) (rest := []) X E mv_X3_61 (c_X3_reach S28 p0 p1 v21 (v25 + 1)) rfl (ta1 t0_) rfl (by decide) t0_ rfl rfl (Nat.le_of_ble_eq_true rfl) (Nat.le_of_ble_eq_true rfl) (Nat.le_of_ble_eq_true rfl) (dk okd_X3_isWhole 23 rfl) (st' := fun S29 => []) (fun _ => rfl) (fun S29 => ?_)
          refine s_run X ok_X3_isWhole 58 2 (pc' := 62) (vs' := [some (.ref p0), some (.int p1), some (.int v1), some (.int (x13 + 1)), some (.int v21), some (.int v25)]) (st' := []) rfl ?_
          exact s_less [true, true, true, true, false, false] rfl (h16 (x13 + 1) S29)
    · refine s_lp (κ := Int32 → St → Option (Int32 × St)) (fun k32 => ∀ (x30 : Int32) (S31 : St), Jd C 6 (QJ C oIS sS) S31 27 [some (.ref p0), some (.int p1), some (.int v1), some (.int x30), none, none] [] (k32 x30 S31)) (fun _ _ => s_none) (fun k32 h33 x30 S31 => ?_) FU 0 S5
      refine s_run X ok_X3_isWhole 11 2 (pc' := 31) (vs' := [some (.ref p0), some (.int p1), some (.int v1), some (.int x30), none, none]) (st' := [.int 900, .int x30]) rfl ?_
      refine s_icmp_ge (tgt := 60) X (dk okd_X3_isWhole 6 rfl) (by decide) ?_ ?_
      · exact s_less [true, true, true, false, false, false] rfl (h8 S31)
      · refine s_run X ok_X3_isWhole 13 1 (pc' := 35) (vs' := [some (.ref p0), some (.int p1), some (.int v1), some (.int x30), none, none]) (st' := [.ref p0]) rfl ?_
        refine s_getI X fl_X3_57 t0_ (dk okd_X3_isWhole 7 rfl) (fun v34 => ?_)
        refine s_if_ne (tgt := 60) X (dk okd_X3_isWhole 8 rfl) (by decide) ?_ ?_
        · exact s_less [true, true, true, false, false, false] rfl (h8 S31)
        · refine s_run X ok_X3_isWhole 14 4 (pc' := 46) (vs' := [some (.ref p0), some (.int p1), some (.int v1), some (.int x30), none, none]) (st' := [.int 30, .int x30, .int p1, .ref p0]) rfl ?_
          refine s_irem0 X (dk okd_X3_isWhole 9 rfl) (by decide) ?_
          refine s_run X ok_X3_isWhole 18 2 (pc' := 50) (vs' := [some (.ref p0), some (.int p1), some (.int v1), some (.int x30), none, none]) (st' := [.int 30, .int x30, .int (x30 - x30 / 30 * 30), .int p1, .ref p0]) rfl ?_
          refine s_idiv0 X (dk okd_X3_isWhole 10 rfl) (by decide) ?_
          refine s_callV (b := p0) (As := [.int p1, .int (x30 - x30 / 30 * 30), .int (x30 / 30)]) (rest := []) X E mv_X3_61 (c_X3_reach S31 p0 p1 (x30 - x30 / 30 * 30) (x30 / 30)) rfl (ta1 t0_) rfl (by decide) t0_ rfl rfl (Nat.le_of_ble_eq_true rfl) (Nat.le_of_ble_eq_true rfl) (Nat.le_of_ble_eq_true rfl) (dk okd_X3_isWhole 11 rfl) (st' := fun S35 => []) (fun _ => rfl) (fun S35 => ?_)
          refine s_run X ok_X3_isWhole 20 2 (pc' := 27) (vs' := [some (.ref p0), some (.int p1), some (.int v1), some (.int (x30 + 1)), none, none]) (st' := []) rfl ?_
          exact h33 (x30 + 1) S35
  · refine s_run X ok_X3_isWhole 4 1 (pc' := 11) (vs' := [some (.ref p0), some (.int p1), some (.int v1), none, none, none]) (st' := [.int 0]) rfl ?_
    exact s_zret0 X hr (dk okd_X3_isWhole 2 rfl) (by decide) rfl rfl
def tab_X3_bestHalving : List En := [(0, 8, 0, 0), (1, 4, 1, 0), (5, 10, 2, 0), (6, 4, 2, 0), (10, 0, 0, (-1)), (12, 0, 0, (-1)), (13, 10, 3, 0), (14, 4, 2, 0), (15, 0, 0, 1), (16, 17, 0, 0), (17, 11, 4, 0), (19, 0, 0, 0), (20, 11, 5, 0), (22, 0, 0, 1), (23, 11, 6, 0), (25, 5, 6, 0), (27, 1, 0, 30), (32, 5, 5, 0), (34, 8, 0, 0), (35, 4, 1, 0), (36, 5, 6, 0), (38, 0, 0, 1), (39, 18, 0, 0), (40, 0, 0, 0), (41, 5, 6, 0), (43, 1, 0, 30), (48, 17, 0, 0), (49, 11, 5, 0), (51, 4, 2, 0), (52, 0, 0, 2), (53, 5, 5, 0), (55, 19, 0, 0), (56, 18, 0, 0), (60, 5, 4, 0), (65, 4, 2, 0), (66, 0, 0, 2), (67, 5, 5, 0), (69, 19, 0, 0), (70, 18, 0, 0), (74, 11, 4, 0), (76, 5, 6, 0), (78, 10, 3, 0), (79, 16, 6, 1), (82, 41, 25, 0), (85, 0, 0, 0), (86, 11, 5, 0), (88, 0, 0, 1), (89, 11, 6, 0), (91, 5, 6, 0), (93, 1, 0, 30), (98, 5, 5, 0), (100, 8, 0, 0), (101, 4, 1, 0), (102, 0, 0, 0), (103, 5, 6, 0), (105, 0, 0, 1), (106, 18, 0, 0), (107, 1, 0, 30), (109, 5, 6, 0), (114, 17, 0, 0), (115, 11, 5, 0), (117, 4, 2, 0), (118, 0, 0, 2), (119, 5, 5, 0), (121, 19, 0, 0), (122, 18, 0, 0), (126, 5, 4, 0), (131, 4, 2, 0), (132, 0, 0, 2), (133, 5, 5, 0), (135, 19, 0, 0), (136, 18, 0, 0), (140, 11, 4, 0), (142, 1, 0, 100), (144, 5, 6, 0), (146, 17, 0, 0), (147, 10, 3, 0), (148, 16, 6, 1), (151, 41, 91, 0), (154, 4, 3, 0)]
theorem ok_X3_bestHalving : tab_X3_bestHalving.all (okE cX3_bestHalving) = true := by decide +kernel
def ed_X3_bestHalving : List (Nat × Instr × Nat) := [(2, .invokevirtual 54, 3), (7, .ifCond .ne 5, 3), (11, .ireturn, 1), (29, .if_icmp .ge 56, 3), (45, .invokevirtual 72, 3), (57, .invokestatic 21, 3), (62, .if_icmp .ge 17, 3), (71, .invokestatic 21, 3), (95, .if_icmp .ge 59, 3), (111, .invokevirtual 72, 3), (123, .invokestatic 21, 3), (128, .if_icmp .ge 20, 3), (137, .invokestatic 21, 3), (155, .ireturn, 1)]
theorem okd_X3_bestHalving : ed_X3_bestHalving.all (okD cX3_bestHalving) = true := by decide +kernel
def f_X3_bestHalving (S : St) (p0 : Nat) (p1 : Int32) : Option (Int32) := cl (f_X3_sizeOf S p0 p1) fun (v1 : Int32) => if v1 = 0 then (some (-1)) else (lt (v1 + 1) fun (v2 : Int32) => jn (κ := Int32 → Int32 → Option (Int32)) (fun x3 x4 => jn (κ := Int32 → Option (Int32)) (fun x7 => some x7) fun k8 => lp (κ := Int32 → Int32 → Int32 → Int32 → Option (Int32)) (fun _ _ _ _ => none) (fun k14 x10 x11 x12 x13 => if 30 ≤ x13 then (k8 x10) else (cl (f_X3_sizeWithin S p0 p1 0 (x13 - 1) 30 x13) fun (v16 : Int32) => lt (x12 + v16) fun (v17 : Int32) => lt (if 0 ≤ (v1 - (2 * v17)) then (v1 - (2 * v17)) else 0 - (v1 - (2 * v17))) fun (v18 : Int32) => jn (κ := Int32 → Int32 → Option (Int32)) (fun x19 x20 => k14 x19 x20 v17 (x13 + 1)) fun k21 => if x11 ≤ v18 then (k21 x10 x11) else (lt (if 0 ≤ (v1 - (2 * v17)) then (v1 - (2 * v17)) else 0 - (v1 - (2 * v17))) fun (v23 : Int32) => lt (100 + x13) fun (v24 : Int32) => k21 v24 v23))) FU x3 x4 0 1) fun k5 => lp (κ := Int32 → Int32 → Int32 → Int32 → Option (Int32)) (fun _ _ _ _ => none) (fun k29 x25 x26 x27 x28 => if 30 ≤ x28 then (k5 x25 x26) else (cl (f_X3_sizeWithin S p0 p1 (x28 - 1) 0 x28 30) fun (v31 : Int32) => lt (x27 + v31) fun (v32 : Int32) => lt (if 0 ≤ (v1 - (2 * v32)) then (v1 - (2 * v32)) else 0 - (v1 - (2 * v32))) fun (v33 : Int32) => jn (κ := Int32 → Int32 → Option (Int32)) (fun x34 x35 => k29 x34 x35 v32 (x28 + 1)) fun k36 => if x26 ≤ v33 then (k36 x25 x26) else (lt (if 0 ≤ (v1 - (2 * v32)) then (v1 - (2 * v32)) else 0 - (v1 - (2 * v32))) fun (v38 : Int32) => k36 x28 v38))) FU (-1) v2 0 1)
set_option maxHeartbeats 4000000 in
set_option maxRecDepth 100000 in
theorem c_X3_bestHalving (S : St) (p0 : Nat) (p1 : Int32) : Ct yX3_bestHalving cX3_bestHalving 7 (some .int) 3 72 (fun _ => [.ref p0, .int p1]) [(p0, 3)] S (f_X3_bestHalving S p0 p1) oI (fun _ => S) := by
  refine Ct_of RX3 rfl (by decide) (fun _ => Nat.le_of_ble_eq_true rfl) 5 (vs := fun _ => [some (.ref p0), some (.int p1), none, none, none, none, none]) (fun _ => rfl) (fun C X E hr ht => ?_)
  have t0_ : tT C p0 3 := ht (p0, 3) (by simp)
  show Jd C 7 (QJ C oI (fun _ => S)) S 0 [some (.ref p0), some (.int p1), none, none, none, none, none] [] (f_X3_bestHalving S p0 p1)
  unfold f_X3_bestHalving
  refine s_run X ok_X3_bestHalving 0 2 (pc' := 2) (vs' := [some (.ref p0), some (.int p1), none, none, none, none, none]) (st' := [.int p1, .ref p0]) rfl ?_
  refine s_callV (b := p0) (As := [.int p1]) (rest := []) X E mv_X3_54 (c_X3_sizeOf S p0 p1) rfl (ta1 t0_) rfl (by decide) t0_ rfl rfl (Nat.le_of_ble_eq_true rfl) (Nat.le_of_ble_eq_true rfl) (Nat.le_of_ble_eq_true rfl) (dk okd_X3_bestHalving 0 rfl) (st' := fun v1 => [.int v1]) (fun _ => rfl) (fun v1 => ?_)
  refine s_run X ok_X3_bestHalving 2 2 (pc' := 7) (vs' := [some (.ref p0), some (.int p1), some (.int v1), none, none, none, none]) (st' := [.int v1]) rfl ?_
  refine s_if_ne (tgt := 12) X (dk okd_X3_bestHalving 1 rfl) (by decide) ?_ ?_
  · refine s_run X ok_X3_bestHalving 5 5 (pc' := 17) (vs' := [some (.ref p0), some (.int p1), some (.int v1), some (.int (-1)), none, none, none]) (st' := [.int (v1 + 1)]) rfl ?_
    refine s_nmI (fun v2 => ?_)
    refine s_run X ok_X3_bestHalving 10 5 (pc' := 25) (vs' := [some (.ref p0), some (.int p1), some (.int v1), some (.int (-1)), some (.int v2), some (.int 0), some (.int 1)]) (st' := []) rfl ?_
    refine s_jn (κ := Int32 → Int32 → Option (Int32)) (fun k5 => ∀ (x3 : Int32) (x4 : Int32), Jd C 7 (QJ C oI (fun _ => S)) S 85 [some (.ref p0), some (.int p1), some (.int v1), some (.int x3), some (.int x4), none, none] [] (k5 x3 x4)) (fun x3 x4 => ?_) (fun k5 h6 => ?_)
    · refine s_run X ok_X3_bestHalving 44 4 (pc' := 91) (vs' := [some (.ref p0), some (.int p1), some (.int v1), some (.int x3), some (.int x4), some (.int 0), some (.int 1)]) (st' := []) rfl ?_
      refine s_jn (κ := Int32 → Option (Int32)) (fun k8 => ∀ (x7 : Int32), Jd C 7 (QJ C oI (fun _ => S)) S 154 [none, none, none, some (.int x7), none, none, none] [] (k8 x7)) (fun x7 => ?_) (fun k8 h9 => ?_)
      · refine s_run X ok_X3_bestHalving 79 1 (pc' := 155) (vs' := [none, none, none, some (.int x7), none, none, none]) (st' := [.int x7]) rfl ?_
        exact s_iret X hr (dk okd_X3_bestHalving 13 rfl) rfl rfl
      · refine s_lp (κ := Int32 → Int32 → Int32 → Int32 → Option (Int32)) (fun k14 => ∀ (x10 : Int32) (x11 : Int32) (x12 : Int32) (x13 : Int32), Jd C 7 (QJ C oI (fun _ => S)) S 91 [some (.ref p0), some (.int p1), some (.int v1), some (.int x10), some (.int x11), some (.int x12), some (.int x13)] [] (k14 x10 x11 x12 x13)) (fun _ _ _ _ => s_none) (fun k14 h15 x10 x11 x12 x13 => ?_) FU x3 x4 0 1
        refine s_run X ok_X3_bestHalving 48 2 (pc' := 95) (vs' := [some (.ref p0), some (.int p1), some (.int v1), some (.int x10), some (.int x11), some (.int x12), some (.int x13)]) (st' := [.int 30, .int x13]) rfl ?_
        refine s_icmp_ge (tgt := 154) X (dk okd_X3_bestHalving 8 rfl) (by decide) ?_ ?_
        · exact s_less [false, false, false, true, false, false, false] rfl (h9 x10)
        · refine s_run X ok_X3_bestHalving 50 9 (pc' := 111) (vs' := [some (.ref p0), some (.int p1), some (.int v1), some (.int x10), some (.int x11), some (.int x12), some (.int x13)]) (st' := [.int x13, .int 30, .int (x13 - 1), .int 0, .int p1, .ref p0, .int x12]) rfl ?_
          refine s_callV (b := p0) (As := [.int p1, .int 0, .int (x13 - 1), .int 30, .int x13]) (rest := [.int x12]) X E mv_X3_72 (c_X3_sizeWithin S p0 p1 0 (x13 - 1) 30 x13) rfl (ta1 t0_) rfl (by decide) t0_ rfl rfl (Nat.le_of_ble_eq_true rfl) (Nat.le_of_ble_eq_true rfl) (Nat.le_of_ble_eq_true rfl) (dk okd_X3_bestHalving 9 rfl) (st' := fun v16 => [.int v16, .int x12]) (fun _ => rfl) (fun v16 => ?_)
          refine s_run X ok_X3_bestHalving 59 1 (pc' := 115) (vs' := [some (.ref p0), some (.int p1), some (.int v1), some (.int x10), some (.int x11), some (.int x12), some (.int x13)]) (st' := [.int (x12 + v16)]) rfl ?_
          refine s_nmI (fun v17 => ?_)
          refine s_run X ok_X3_bestHalving 60 6 (pc' := 123) (vs' := [some (.ref p0), some (.int p1), some (.int v1), some (.int x10), some (.int x11), some (.int v17), some (.int x13)]) (st' := [.int (v1 - (2 * v17))]) rfl ?_
          refine s_Mabs X mm_X3_21 (Nat.le_of_ble_eq_true rfl) (Nat.le_of_ble_eq_true rfl) (dk okd_X3_bestHalving 10 rfl) (fun v18 => ?_)
          refine s_run X ok_X3_bestHalving 66 1 (pc' := 128) (vs' := [some (.ref p0), some (.int p1), some (.int v1), some (.int x10), some (.int x11), some (.int v17), some (.int x13)]) (st' := [.int x11, .int v18]) rfl ?_
          refine s_jn (κ := Int32 → Int32 → Option (Int32)) (fun k21 => ∀ (x19 : Int32) (x20 : Int32), Jd C 7 (QJ C oI (fun _ => S)) S 148 [some (.ref p0), some (.int p1), some (.int v1), some (.int x19), some (.int x20), some (.int v17), some (.int x13)] [] (k21 x19 x20)) (fun x19 x20 => ?_) (fun k21 h22 => ?_)
          · refine s_run X ok_X3_bestHalving 77 2 (pc' := 91) (vs' := [some (.ref p0), some (.int p1), some (.int v1), some (.int x19), some (.int x20), some (.int v17), some (.int (x13 + 1))]) (st' := []) rfl ?_
            exact h15 x19 x20 v17 (x13 + 1)
          · refine s_icmp_ge (tgt := 148) X (dk okd_X3_bestHalving 11 rfl) (by decide) ?_ ?_
            · exact h22 x10 x11
            · refine s_run X ok_X3_bestHalving 67 5 (pc' := 137) (vs' := [some (.ref p0), some (.int p1), some (.int v1), some (.int x10), some (.int x11), some (.int v17), some (.int x13)]) (st' := [.int (v1 - (2 * v17))]) rfl ?_
              refine s_Mabs X mm_X3_21 (Nat.le_of_ble_eq_true rfl) (Nat.le_of_ble_eq_true rfl) (dk okd_X3_bestHalving 12 rfl) (fun v23 => ?_)
              refine s_run X ok_X3_bestHalving 72 4 (pc' := 147) (vs' := [some (.ref p0), some (.int p1), some (.int v1), some (.int x10), some (.int v23), some (.int v17), some (.int x13)]) (st' := [.int (100 + x13)]) rfl ?_
              refine s_nmI (fun v24 => ?_)
              refine s_run X ok_X3_bestHalving 76 1 (pc' := 148) (vs' := [some (.ref p0), some (.int p1), some (.int v1), some (.int v24), some (.int v23), some (.int v17), some (.int x13)]) (st' := []) rfl ?_
              exact h22 v24 v23
    · refine s_lp (κ := Int32 → Int32 → Int32 → Int32 → Option (Int32)) (fun k29 => ∀ (x25 : Int32) (x26 : Int32) (x27 : Int32) (x28 : Int32), Jd C 7 (QJ C oI (fun _ => S)) S 25 [some (.ref p0), some (.int p1), some (.int v1), some (.int x25), some (.int x26), some (.int x27), some (.int x28)] [] (k29 x25 x26 x27 x28)) (fun _ _ _ _ => s_none) (fun k29 h30 x25 x26 x27 x28 => ?_) FU (-1) v2 0 1
      refine s_run X ok_X3_bestHalving 15 2 (pc' := 29) (vs' := [some (.ref p0), some (.int p1), some (.int v1), some (.int x25), some (.int x26), some (.int x27), some (.int x28)]) (st' := [.int 30, .int x28]) rfl ?_
      refine s_icmp_ge (tgt := 85) X (dk okd_X3_bestHalving 3 rfl) (by decide) ?_ ?_
      · exact s_less [true, true, true, true, true, false, false] rfl (h6 x25 x26)
      · refine s_run X ok_X3_bestHalving 17 9 (pc' := 45) (vs' := [some (.ref p0), some (.int p1), some (.int v1), some (.int x25), some (.int x26), some (.int x27), some (.int x28)]) (st' := [.int 30, .int x28, .int 0, .int (x28 - 1), .int p1, .ref p0, .int x27]) rfl ?_
        refine s_callV (b := p0) (As := [.int p1, .int (x28 - 1), .int 0, .int x28, .int 30]) (rest := [.int x27]) X E mv_X3_72 (c_X3_sizeWithin S p0 p1 (x28 - 1) 0 x28 30) rfl (ta1 t0_) rfl (by decide) t0_ rfl rfl (Nat.le_of_ble_eq_true rfl) (Nat.le_of_ble_eq_true rfl) (Nat.le_of_ble_eq_true rfl) (dk okd_X3_bestHalving 4 rfl) (st' := fun v31 => [.int v31, .int x27]) (fun _ => rfl) (fun v31 => ?_)
        refine s_run X ok_X3_bestHalving 26 1 (pc' := 49) (vs' := [some (.ref p0), some (.int p1), some (.int v1), some (.int x25), some (.int x26), some (.int x27), some (.int x28)]) (st' := [.int (x27 + v31)]) rfl ?_
        refine s_nmI (fun v32 => ?_)
        refine s_run X ok_X3_bestHalving 27 6 (pc' := 57) (vs' := [some (.ref p0), some (.int p1), some (.int v1), some (.int x25), some (.int x26), some (.int v32), some (.int x28)]) (st' := [.int (v1 - (2 * v32))]) rfl ?_
        refine s_Mabs X mm_X3_21 (Nat.le_of_ble_eq_true rfl) (Nat.le_of_ble_eq_true rfl) (dk okd_X3_bestHalving 5 rfl) (fun v33 => ?_)
        refine s_run X ok_X3_bestHalving 33 1 (pc' := 62) (vs' := [some (.ref p0), some (.int p1), some (.int v1), some (.int x25), some (.int x26), some (.int v32), some (.int x28)]) (st' := [.int x26, .int v33]) rfl ?_
        refine s_jn (κ := Int32 → Int32 → Option (Int32)) (fun k36 => ∀ (x34 : Int32) (x35 : Int32), Jd C 7 (QJ C oI (fun _ => S)) S 79 [some (.ref p0), some (.int p1), some (.int v1), some (.int x34), some (.int x35), some (.int v32), some (.int x28)] [] (k36 x34 x35)) (fun x34 x35 => ?_) (fun k36 h37 => ?_)
        · refine s_run X ok_X3_bestHalving 42 2 (pc' := 25) (vs' := [some (.ref p0), some (.int p1), some (.int v1), some (.int x34), some (.int x35), some (.int v32), some (.int (x28 + 1))]) (st' := []) rfl ?_
          exact h30 x34 x35 v32 (x28 + 1)
        · refine s_icmp_ge (tgt := 79) X (dk okd_X3_bestHalving 6 rfl) (by decide) ?_ ?_
          · exact h37 x25 x26
          · refine s_run X ok_X3_bestHalving 34 5 (pc' := 71) (vs' := [some (.ref p0), some (.int p1), some (.int v1), some (.int x25), some (.int x26), some (.int v32), some (.int x28)]) (st' := [.int (v1 - (2 * v32))]) rfl ?_
            refine s_Mabs X mm_X3_21 (Nat.le_of_ble_eq_true rfl) (Nat.le_of_ble_eq_true rfl) (dk okd_X3_bestHalving 7 rfl) (fun v38 => ?_)
            refine s_run X ok_X3_bestHalving 39 3 (pc' := 79) (vs' := [some (.ref p0), some (.int p1), some (.int v1), some (.int x28), some (.int v38), some (.int v32), some (.int x28)]) (st' := []) rfl ?_
            exact h37 x28 v38
  · refine s_run X ok_X3_bestHalving 4 1 (pc' := 11) (vs' := [some (.ref p0), some (.int p1), some (.int v1), none, none, none, none]) (st' := [.int (-1)]) rfl ?_
    exact s_iret X hr (dk okd_X3_bestHalving 2 rfl) rfl rfl
def tab_X4_addDigit : List En := [(0, 8, 0, 0), (1, 1, 0, 48), (3, 6, 1, 0), (8, 32, 0, 0), (9, 17, 0, 0)]
theorem ok_X4_addDigit : tab_X4_addDigit.all (okE cX4_addDigit) = true := by decide +kernel
def ed_X4_addDigit : List (Nat × Instr × Nat) := [(4, .ldc2_w 68, 3), (7, .lrem, 1), (10, .invokevirtual 52, 3), (13, .return_, 1)]
theorem okd_X4_addDigit : ed_X4_addDigit.all (okD cX4_addDigit) = true := by decide +kernel
def f_X4_addDigit (S : St) (p0 : Nat) (p1 : Int64) : Option (St) := cl (f_X4_addByte S p0 (48 + (Int64.toInt32 (p1 - p1 / 10 * 10)))) fun (S1 : St) => some S1
set_option maxHeartbeats 4000000 in
set_option maxRecDepth 100000 in
theorem c_X4_addDigit (S : St) (p0 : Nat) (p1 : Int64) : Ct yX4_addDigit cX4_addDigit 3 none 1 21 (fun _ => [.ref p0, .long p1]) [(p0, 4)] S (f_X4_addDigit S p0 p1) oV sV := by
  refine Ct_of RX4 rfl (by decide) (fun _ => Nat.le_of_ble_eq_true rfl) 0 (vs := fun _ => [some (.ref p0), some (.long p1), none]) (fun _ => rfl) (fun C X E hr ht => ?_)
  have t0_ : tT C p0 4 := ht (p0, 4) (by simp)
  show Jd C 3 (QJ C oV sV) S 0 [some (.ref p0), some (.long p1), none] [] (f_X4_addDigit S p0 p1)
  unfold f_X4_addDigit
  refine s_run X ok_X4_addDigit 0 3 (pc' := 4) (vs' := [some (.ref p0), some (.long p1), none]) (st' := [.long p1, .int 48, .ref p0]) rfl ?_
  refine s_ldc2 X cl_X4_68 (dk okd_X4_addDigit 0 rfl) ?_
  refine s_lrem0 X (dk okd_X4_addDigit 1 rfl) (by decide) ?_
  refine s_run X ok_X4_addDigit 3 2 (pc' := 10) (vs' := [some (.ref p0), some (.long p1), none]) (st' := [.int (48 + (Int64.toInt32 (p1 - p1 / 10 * 10))), .ref p0]) rfl ?_
  refine s_callV (b := p0) (As := [.int (48 + (Int64.toInt32 (p1 - p1 / 10 * 10)))]) (rest := []) X E mv_X4_52 (c_X4_addByte S p0 (48 + (Int64.toInt32 (p1 - p1 / 10 * 10)))) rfl (ta1 t0_) rfl (by decide) t0_ rfl rfl (Nat.le_of_ble_eq_true rfl) (Nat.le_of_ble_eq_true rfl) (Nat.le_of_ble_eq_true rfl) (dk okd_X4_addDigit 2 rfl) (st' := fun S1 => []) (fun _ => rfl) (fun S1 => ?_)
  exact s_vret X hr (dk okd_X4_addDigit 3 rfl) rfl rfl
def tab_X5_executeSales : List En := [(0, 8, 0, 0), (4, 4, 1, 0), (6, 10, 3, 0), (7, 8, 2, 0), (11, 4, 3, 0), (18, 8, 2, 0), (28, 0, 0, 0), (30, 8, 0, 0), (34, 4, 1, 0), (39, 8, 2, 0), (43, 4, 3, 0), (44, 8, 0, 0), (48, 4, 1, 0), (53, 3, 0, 0), (54, 40, 0, 0), (58, 0, 0, 1), (59, 41, 63, 0), (62, 0, 0, 0), (64, 8, 2, 0), (65, 4, 3, 0), (66, 8, 0, 0), (70, 4, 1, 0), (72, 8, 0, 0), (76, 4, 1, 0), (78, 8, 0, 0), (82, 4, 1, 0), (87, 3, 0, 0), (88, 40, 0, 0), (92, 0, 0, 1), (93, 41, 97, 0), (96, 0, 0, 0)]
theorem ok_X5_executeSales : tab_X5_executeSales.all (okE cX5_executeSales) = true := by decide +kernel
def ed_X5_executeSales : List (Nat × Instr × Nat) := [(1, .getfield 15, 3), (5, .iaload, 1), (8, .getfield 132, 3), (12, .invokevirtual 136, 3), (15, .ifCond .eq 13, 3), (19, .getfield 115, 3), (22, .invokevirtual 142, 3), (25, .ifCond .ne 5, 3), (29, .ireturn, 1), (31, .getfield 9, 3), (35, .iaload, 1), (36, .ifCond .ne 28, 3), (40, .getfield 132, 3), (45, .getfield 31, 3), (49, .laload, 1), (50, .invokevirtual 145, 3), (55, .ifCond .lt 7, 3), (63, .ireturn, 1), (67, .getfield 18, 3), (71, .iaload, 1), (73, .getfield 21, 3), (77, .iaload, 1), (79, .getfield 31, 3), (83, .laload, 1), (84, .invokevirtual 149, 3), (89, .ifCond .lt 7, 3), (97, .ireturn, 1)]
theorem okd_X5_executeSales : ed_X5_executeSales.all (okD cX5_executeSales) = true := by decide +kernel
def f_X5_executeSales (S : St) (p0 : Nat) (p1 : Int32) (p2 : Nat) : Option (Int32 × St) := lt (gR S p0 1) fun (a1 : Nat) => ldI S a1 p1 fun (v3 : Int32) => lt (gR S p2 2) fun (a4 : Nat) => cl (f_X6_has S a4 v3) fun (v6 : Int32) => if v6 = 0 then (some (0, S)) else (lt (gR S p2 5) fun (a7 : Nat) => cl (f_X0_hasOpenMonth S a7) fun (v9 : Int32) => if v9 = 0 then (some (0, S)) else (lt (gR S p0 0) fun (a10 : Nat) => ldI S a10 p1 fun (v12 : Int32) => if v12 = 0 then (lt (gR S p2 2) fun (a23 : Nat) => lt (gR S p0 6) fun (a25 : Nat) => ldJ S a25 p1 fun (v27 : Int64) => cl (f_X6_replaceSales S a23 v3 v27) fun (o28 : Int64 × St) => if o28.1 < 0 then (some (0, o28.2)) else (some (1, o28.2))) else (lt (gR S p0 2) fun (a13 : Nat) => ldI S a13 p1 fun (v15 : Int32) => lt (gR S p0 3) fun (a16 : Nat) => ldI S a16 p1 fun (v18 : Int32) => lt (gR S p0 6) fun (a19 : Nat) => ldJ S a19 p1 fun (v21 : Int64) => cl (f_X1_addDelivery S p2 v3 v15 v18 v21) fun (o22 : Int64 × St) => if o22.1 < 0 then (some (0, o22.2)) else (some (1, o22.2)))))
set_option maxHeartbeats 4000000 in
set_option maxRecDepth 100000 in
theorem c_X5_executeSales (S : St) (p0 : Nat) (p1 : Int32) (p2 : Nat) : Ct yX5_executeSales cX5_executeSales 4 (some .boolean) 3 70 (fun _ => [.ref p0, .int p1, .ref p2]) [(p0, 5), (p2, 1)] S (f_X5_executeSales S p0 p1 p2) oIS sS := by
  refine Ct_of RX5 rfl (by decide) (fun _ => Nat.le_of_ble_eq_true rfl) 1 (vs := fun _ => [some (.ref p0), some (.int p1), some (.ref p2), none]) (fun _ => rfl) (fun C X E hr ht => ?_)
  have t0_ : tT C p0 5 := ht (p0, 5) (by simp)
  have t2_ : tT C p2 1 := ht (p2, 1) (by simp)
  show Jd C 4 (QJ C oIS sS) S 0 [some (.ref p0), some (.int p1), some (.ref p2), none] [] (f_X5_executeSales S p0 p1 p2)
  unfold f_X5_executeSales
  refine s_run X ok_X5_executeSales 0 1 (pc' := 1) (vs' := [some (.ref p0), some (.int p1), some (.ref p2), none]) (st' := [.ref p0]) rfl ?_
  refine s_getR X fl_X5_15 t0_ (dk okd_X5_executeSales 0 rfl) (fun a1 (t2 : tT C a1 13) => ?_)
  refine s_run X ok_X5_executeSales 1 1 (pc' := 5) (vs' := [some (.ref p0), some (.int p1), some (.ref p2), none]) (st' := [.int p1, .ref a1]) rfl ?_
  refine s_iald X t2 (dk okd_X5_executeSales 1 rfl) (fun v3 => ?_)
  refine s_run X ok_X5_executeSales 2 2 (pc' := 8) (vs' := [some (.ref p0), some (.int p1), some (.ref p2), some (.int v3)]) (st' := [.ref p2]) rfl ?_
  refine s_getR X fl_X5_132 t2_ (dk okd_X5_executeSales 2 rfl) (fun a4 (t5 : tT C a4 6) => ?_)
  refine s_run X ok_X5_executeSales 4 1 (pc' := 12) (vs' := [some (.ref p0), some (.int p1), some (.ref p2), some (.int v3)]) (st' := [.int v3, .ref a4]) rfl ?_
  refine s_callV (b := a4) (As := [.int v3]) (rest := []) X E mv_X5_136 (c_X6_has S a4 v3) rfl (ta1 t5) rfl (by decide) t5 rfl rfl (Nat.le_of_ble_eq_true rfl) (Nat.le_of_ble_eq_true rfl) (Nat.le_of_ble_eq_true rfl) (dk okd_X5_executeSales 3 rfl) (st' := fun v6 => [.int v6]) (fun _ => rfl) (fun v6 => ?_)
  refine s_if_eq (tgt := 28) X (dk okd_X5_executeSales 4 rfl) (by decide) ?_ ?_
  · refine s_run X ok_X5_executeSales 6 1 (pc' := 29) (vs' := [some (.ref p0), some (.int p1), some (.ref p2), some (.int v3)]) (st' := [.int 0]) rfl ?_
    exact s_zret0 X hr (dk okd_X5_executeSales 8 rfl) (by decide) rfl rfl
  · refine s_run X ok_X5_executeSales 5 1 (pc' := 19) (vs' := [some (.ref p0), some (.int p1), some (.ref p2), some (.int v3)]) (st' := [.ref p2]) rfl ?_
    refine s_getR X fl_X5_115 t2_ (dk okd_X5_executeSales 5 rfl) (fun a7 (t8 : tT C a7 0) => ?_)
    refine s_callV (b := a7) (As := []) (rest := []) X E mv_X5_142 (c_X0_hasOpenMonth S a7) rfl (ta1 t8) rfl (by decide) t8 rfl rfl (Nat.le_of_ble_eq_true rfl) (Nat.le_of_ble_eq_true rfl) (Nat.le_of_ble_eq_true rfl) (dk okd_X5_executeSales 6 rfl) (st' := fun v9 => [.int v9]) (fun _ => rfl) (fun v9 => ?_)
    refine s_if_ne (tgt := 30) X (dk okd_X5_executeSales 7 rfl) (by decide) ?_ ?_
    · refine s_run X ok_X5_executeSales 7 1 (pc' := 31) (vs' := [some (.ref p0), some (.int p1), some (.ref p2), some (.int v3)]) (st' := [.ref p0]) rfl ?_
      refine s_getR X fl_X5_9 t0_ (dk okd_X5_executeSales 9 rfl) (fun a10 (t11 : tT C a10 13) => ?_)
      refine s_run X ok_X5_executeSales 8 1 (pc' := 35) (vs' := [some (.ref p0), some (.int p1), some (.ref p2), some (.int v3)]) (st' := [.int p1, .ref a10]) rfl ?_
      refine s_iald X t11 (dk okd_X5_executeSales 10 rfl) (fun v12 => ?_)
      refine s_if_ne (tgt := 64) X (dk okd_X5_executeSales 11 rfl) (by decide) ?_ ?_
      · refine s_run X ok_X5_executeSales 18 3 (pc' := 67) (vs' := [some (.ref p0), some (.int p1), some (.ref p2), some (.int v3)]) (st' := [.ref p0, .int v3, .ref p2]) rfl ?_
        refine s_getR X fl_X5_18 t0_ (dk okd_X5_executeSales 18 rfl) (fun a13 (t14 : tT C a13 13) => ?_)
        refine s_run X ok_X5_executeSales 21 1 (pc' := 71) (vs' := [some (.ref p0), some (.int p1), some (.ref p2), some (.int v3)]) (st' := [.int p1, .ref a13, .int v3, .ref p2]) rfl ?_
        refine s_iald X t14 (dk okd_X5_executeSales 19 rfl) (fun v15 => ?_)
        refine s_run X ok_X5_executeSales 22 1 (pc' := 73) (vs' := [some (.ref p0), some (.int p1), some (.ref p2), some (.int v3)]) (st' := [.ref p0, .int v15, .int v3, .ref p2]) rfl ?_
        refine s_getR X fl_X5_21 t0_ (dk okd_X5_executeSales 20 rfl) (fun a16 (t17 : tT C a16 13) => ?_)
        refine s_run X ok_X5_executeSales 23 1 (pc' := 77) (vs' := [some (.ref p0), some (.int p1), some (.ref p2), some (.int v3)]) (st' := [.int p1, .ref a16, .int v15, .int v3, .ref p2]) rfl ?_
        refine s_iald X t17 (dk okd_X5_executeSales 21 rfl) (fun v18 => ?_)
        refine s_run X ok_X5_executeSales 24 1 (pc' := 79) (vs' := [some (.ref p0), some (.int p1), some (.ref p2), some (.int v3)]) (st' := [.ref p0, .int v18, .int v15, .int v3, .ref p2]) rfl ?_
        refine s_getR X fl_X5_31 t0_ (dk okd_X5_executeSales 22 rfl) (fun a19 (t20 : tT C a19 14) => ?_)
        refine s_run X ok_X5_executeSales 25 1 (pc' := 83) (vs' := [some (.ref p0), some (.int p1), some (.ref p2), some (.int v3)]) (st' := [.int p1, .ref a19, .int v18, .int v15, .int v3, .ref p2]) rfl ?_
        refine s_lald X t20 (dk okd_X5_executeSales 23 rfl) (fun v21 => ?_)
        refine s_callV (b := p2) (As := [.int v3, .int v15, .int v18, .long v21]) (rest := []) X E mv_X5_149 (c_X1_addDelivery S p2 v3 v15 v18 v21) rfl (ta1 t2_) rfl (by decide) t2_ rfl rfl (Nat.le_of_ble_eq_true rfl) (Nat.le_of_ble_eq_true rfl) (Nat.le_of_ble_eq_true rfl) (dk okd_X5_executeSales 24 rfl) (st' := fun o22 => [.long o22.1]) (fun _ => rfl) (fun o22 => ?_)
        refine s_run X ok_X5_executeSales 26 2 (pc' := 89) (vs' := [some (.ref p0), some (.int p1), some (.ref p2), some (.int v3)]) (st' := [.int (lg_cmp o22.1 0)]) rfl ?_
        refine s_lif_lt (tgt := 96) X (dk okd_X5_executeSales 25 rfl) (by decide) ?_ ?_
        · refine s_run X ok_X5_executeSales 30 1 (pc' := 97) (vs' := [some (.ref p0), some (.int p1), some (.ref p2), some (.int v3)]) (st' := [.int 0]) rfl ?_
          exact s_zret0 X hr (dk okd_X5_executeSales 26 rfl) (by decide) rfl rfl
        · refine s_run X ok_X5_executeSales 28 2 (pc' := 97) (vs' := [some (.ref p0), some (.int p1), some (.ref p2), some (.int v3)]) (st' := [.int 1]) rfl ?_
          exact s_zret0 X hr (dk okd_X5_executeSales 26 rfl) (by decide) rfl rfl
      · refine s_run X ok_X5_executeSales 9 1 (pc' := 40) (vs' := [some (.ref p0), some (.int p1), some (.ref p2), some (.int v3)]) (st' := [.ref p2]) rfl ?_
        refine s_getR X fl_X5_132 t2_ (dk okd_X5_executeSales 12 rfl) (fun a23 (t24 : tT C a23 6) => ?_)
        refine s_run X ok_X5_executeSales 10 2 (pc' := 45) (vs' := [some (.ref p0), some (.int p1), some (.ref p2), some (.int v3)]) (st' := [.ref p0, .int v3, .ref a23]) rfl ?_
        refine s_getR X fl_X5_31 t0_ (dk okd_X5_executeSales 13 rfl) (fun a25 (t26 : tT C a25 14) => ?_)
        refine s_run X ok_X5_executeSales 12 1 (pc' := 49) (vs' := [some (.ref p0), some (.int p1), some (.ref p2), some (.int v3)]) (st' := [.int p1, .ref a25, .int v3, .ref a23]) rfl ?_
        refine s_lald X t26 (dk okd_X5_executeSales 14 rfl) (fun v27 => ?_)
        refine s_callV (b := a23) (As := [.int v3, .long v27]) (rest := []) X E mv_X5_145 (c_X6_replaceSales S a23 v3 v27) rfl (ta1 t24) rfl (by decide) t24 rfl rfl (Nat.le_of_ble_eq_true rfl) (Nat.le_of_ble_eq_true rfl) (Nat.le_of_ble_eq_true rfl) (dk okd_X5_executeSales 15 rfl) (st' := fun o28 => [.long o28.1]) (fun _ => rfl) (fun o28 => ?_)
        refine s_run X ok_X5_executeSales 13 2 (pc' := 55) (vs' := [some (.ref p0), some (.int p1), some (.ref p2), some (.int v3)]) (st' := [.int (lg_cmp o28.1 0)]) rfl ?_
        refine s_lif_lt (tgt := 62) X (dk okd_X5_executeSales 16 rfl) (by decide) ?_ ?_
        · refine s_run X ok_X5_executeSales 17 1 (pc' := 63) (vs' := [some (.ref p0), some (.int p1), some (.ref p2), some (.int v3)]) (st' := [.int 0]) rfl ?_
          exact s_zret0 X hr (dk okd_X5_executeSales 17 rfl) (by decide) rfl rfl
        · refine s_run X ok_X5_executeSales 15 2 (pc' := 63) (vs' := [some (.ref p0), some (.int p1), some (.ref p2), some (.int v3)]) (st' := [.int 1]) rfl ?_
          exact s_zret0 X hr (dk okd_X5_executeSales 17 rfl) (by decide) rfl rfl
    · refine s_run X ok_X5_executeSales 6 1 (pc' := 29) (vs' := [some (.ref p0), some (.int p1), some (.ref p2), some (.int v3)]) (st' := [.int 0]) rfl ?_
      exact s_zret0 X hr (dk okd_X5_executeSales 8 rfl) (by decide) rfl rfl
def tab_X6_salesTogether : List En := [(0, 8, 0, 0), (1, 4, 1, 0), (2, 1, 0, 100)]
theorem ok_X6_salesTogether : tab_X6_salesTogether.all (okE cX6_salesTogether) = true := by decide +kernel
def ed_X6_salesTogether : List (Nat × Instr × Nat) := [(4, .invokevirtual 49, 3), (7, .lreturn, 1)]
theorem okd_X6_salesTogether : ed_X6_salesTogether.all (okD cX6_salesTogether) = true := by decide +kernel
def f_X6_salesTogether (S : St) (p0 : Nat) (p1 : Int32) : Option (Int64) := cl (f_X6_scaledSales S p0 p1 100) fun (v1 : Int64) => some v1
set_option maxHeartbeats 4000000 in
set_option maxRecDepth 100000 in
theorem c_X6_salesTogether (S : St) (p0 : Nat) (p1 : Int32) : Ct yX6_salesTogether cX6_salesTogether 2 (some .long) 1 25 (fun _ => [.ref p0, .int p1]) [(p0, 6)] S (f_X6_salesTogether S p0 p1) oL (fun _ => S) := by
  refine Ct_of RX6 rfl (by decide) (fun _ => Nat.le_of_ble_eq_true rfl) 0 (vs := fun _ => [some (.ref p0), some (.int p1)]) (fun _ => rfl) (fun C X E hr ht => ?_)
  have t0_ : tT C p0 6 := ht (p0, 6) (by simp)
  show Jd C 2 (QJ C oL (fun _ => S)) S 0 [some (.ref p0), some (.int p1)] [] (f_X6_salesTogether S p0 p1)
  unfold f_X6_salesTogether
  refine s_run X ok_X6_salesTogether 0 3 (pc' := 4) (vs' := [some (.ref p0), some (.int p1)]) (st' := [.int 100, .int p1, .ref p0]) rfl ?_
  refine s_callV (b := p0) (As := [.int p1, .int 100]) (rest := []) X E mv_X6_49 (c_X6_scaledSales S p0 p1 100) rfl (ta1 t0_) rfl (by decide) t0_ rfl rfl (Nat.le_of_ble_eq_true rfl) (Nat.le_of_ble_eq_true rfl) (Nat.le_of_ble_eq_true rfl) (dk okd_X6_salesTogether 0 rfl) (st' := fun v1 => [.long v1]) (fun _ => rfl) (fun v1 => ?_)
  exact s_lret X hr (dk okd_X6_salesTogether 1 rfl) rfl rfl
def tab_X8_addPlan : List En := [(0, 8, 0, 0), (4, 0, 0, 4), (9, 8, 0, 0), (13, 8, 0, 0), (17, 4, 1, 0), (19, 8, 0, 0), (23, 8, 0, 0), (27, 0, 0, 0), (29, 8, 0, 0), (30, 36, 0, 0), (34, 0, 0, 1), (35, 17, 0, 0), (39, 8, 0, 0), (40, 3, 0, 0), (41, 4, 2, 0)]
theorem ok_X8_addPlan : tab_X8_addPlan.all (okE cX8_addPlan) = true := by decide +kernel
def ed_X8_addPlan : List (Nat × Instr × Nat) := [(1, .getfield 25, 3), (5, .if_icmp .lt 4, 3), (8, .return_, 1), (10, .getfield 9, 3), (14, .getfield 25, 3), (18, .iastore, 1), (20, .getfield 15, 3), (24, .getfield 25, 3), (28, .iastore, 1), (31, .getfield 25, 3), (36, .putfield 25, 3), (42, .invokevirtual 51, 3), (45, .return_, 1)]
theorem okd_X8_addPlan : ed_X8_addPlan.all (okD cX8_addPlan) = true := by decide +kernel
def f_X8_addPlan (S : St) (p0 : Nat) (p1 : Int32) (p2 : Int32) : Option (St) := lt (gI S p0 4) fun (v1 : Int32) => if v1 < 4 then (lt (gR S p0 0) fun (a2 : Nat) => lt (gI S p0 4) fun (v4 : Int32) => stI S a2 v4 p1 fun (S5 : St) => lt (gR S5 p0 1) fun (a6 : Nat) => lt (gI S5 p0 4) fun (v8 : Int32) => stI S5 a6 v8 0 fun (S9 : St) => lt (gI S9 p0 4) fun (v10 : Int32) => lt (uI S9 p0 4 (v10 + 1)) fun (S11 : St) => cl (f_X8_addStep S11 p0 0 p2) fun (S12 : St) => some S12) else (some S)
set_option maxHeartbeats 4000000 in
set_option maxRecDepth 100000 in
theorem c_X8_addPlan (S : St) (p0 : Nat) (p1 : Int32) (p2 : Int32) : Ct yX8_addPlan cX8_addPlan 3 none 1 25 (fun _ => [.ref p0, .int p1, .int p2]) [(p0, 7)] S (f_X8_addPlan S p0 p1 p2) oV sV := by
  refine Ct_of RX8 rfl (by decide) (fun _ => Nat.le_of_ble_eq_true rfl) 0 (vs := fun _ => [some (.ref p0), some (.int p1), some (.int p2)]) (fun _ => rfl) (fun C X E hr ht => ?_)
  have t0_ : tT C p0 7 := ht (p0, 7) (by simp)
  show Jd C 3 (QJ C oV sV) S 0 [some (.ref p0), some (.int p1), some (.int p2)] [] (f_X8_addPlan S p0 p1 p2)
  unfold f_X8_addPlan
  refine s_run X ok_X8_addPlan 0 1 (pc' := 1) (vs' := [some (.ref p0), some (.int p1), some (.int p2)]) (st' := [.ref p0]) rfl ?_
  refine s_getI X fl_X8_25 t0_ (dk okd_X8_addPlan 0 rfl) (fun v1 => ?_)
  refine s_run X ok_X8_addPlan 1 1 (pc' := 5) (vs' := [some (.ref p0), some (.int p1), some (.int p2)]) (st' := [.int 4, .int v1]) rfl ?_
  refine s_icmp_lt (tgt := 9) X (dk okd_X8_addPlan 1 rfl) (by decide) ?_ ?_
  · refine s_run X ok_X8_addPlan 2 1 (pc' := 10) (vs' := [some (.ref p0), some (.int p1), some (.int p2)]) (st' := [.ref p0]) rfl ?_
    refine s_getR X fl_X8_9 t0_ (dk okd_X8_addPlan 3 rfl) (fun a2 (t3 : tT C a2 13) => ?_)
    refine s_run X ok_X8_addPlan 3 1 (pc' := 14) (vs' := [some (.ref p0), some (.int p1), some (.int p2)]) (st' := [.ref p0, .ref a2]) rfl ?_
    refine s_getI X fl_X8_25 t0_ (dk okd_X8_addPlan 4 rfl) (fun v4 => ?_)
    refine s_run X ok_X8_addPlan 4 1 (pc' := 18) (vs' := [some (.ref p0), some (.int p1), some (.int p2)]) (st' := [.int p1, .int v4, .ref a2]) rfl ?_
    refine s_iast X t3 (dk okd_X8_addPlan 5 rfl) (fun S5 => ?_)
    refine s_run X ok_X8_addPlan 5 1 (pc' := 20) (vs' := [some (.ref p0), some (.int p1), some (.int p2)]) (st' := [.ref p0]) rfl ?_
    refine s_getR X fl_X8_15 t0_ (dk okd_X8_addPlan 6 rfl) (fun a6 (t7 : tT C a6 13) => ?_)
    refine s_run X ok_X8_addPlan 6 1 (pc' := 24) (vs' := [some (.ref p0), some (.int p1), some (.int p2)]) (st' := [.ref p0, .ref a6]) rfl ?_
    refine s_getI X fl_X8_25 t0_ (dk okd_X8_addPlan 7 rfl) (fun v8 => ?_)
    refine s_run X ok_X8_addPlan 7 1 (pc' := 28) (vs' := [some (.ref p0), some (.int p1), some (.int p2)]) (st' := [.int 0, .int v8, .ref a6]) rfl ?_
    refine s_iast X t7 (dk okd_X8_addPlan 8 rfl) (fun S9 => ?_)
    refine s_run X ok_X8_addPlan 8 2 (pc' := 31) (vs' := [some (.ref p0), some (.int p1), some (.int p2)]) (st' := [.ref p0, .ref p0]) rfl ?_
    refine s_getI X fl_X8_25 t0_ (dk okd_X8_addPlan 9 rfl) (fun v10 => ?_)
    refine s_run X ok_X8_addPlan 10 2 (pc' := 36) (vs' := [some (.ref p0), some (.int p1), some (.int p2)]) (st' := [.int (v10 + 1), .ref p0]) rfl ?_
    refine s_putI X fp_X8_25 t0_ (dk okd_X8_addPlan 10 rfl) (fun S11 => ?_)
    refine s_run X ok_X8_addPlan 12 3 (pc' := 42) (vs' := [some (.ref p0), some (.int p1), some (.int p2)]) (st' := [.int p2, .long 0, .ref p0]) rfl ?_
    refine s_callV (b := p0) (As := [.long 0, .int p2]) (rest := []) X E mv_X8_51 (c_X8_addStep S11 p0 0 p2) rfl (ta1 t0_) rfl (by decide) t0_ rfl rfl (Nat.le_of_ble_eq_true rfl) (Nat.le_of_ble_eq_true rfl) (Nat.le_of_ble_eq_true rfl) (dk okd_X8_addPlan 11 rfl) (st' := fun S12 => []) (fun _ => rfl) (fun S12 => ?_)
    exact s_vret X hr (dk okd_X8_addPlan 12 rfl) rfl rfl
  · exact s_vret X hr (dk okd_X8_addPlan 2 rfl) rfl rfl
def tab_X8_royaltyFor : List En := [(0, 3, 0, 0), (1, 13, 4, 0), (3, 4, 1, 0), (4, 0, 0, 5), (5, 19, 0, 0), (6, 11, 6, 0), (8, 5, 6, 0), (10, 8, 0, 0), (14, 4, 1, 0), (16, 17, 0, 0), (17, 0, 0, 1), (18, 18, 0, 0), (19, 11, 7, 0), (21, 5, 6, 0), (23, 11, 8, 0), (25, 5, 8, 0), (27, 5, 7, 0), (32, 5, 8, 0), (34, 5, 7, 0), (39, 6, 2, 0), (40, 8, 0, 0), (44, 5, 8, 0), (46, 0, 0, 1), (47, 17, 0, 0), (52, 41, 56, 0), (55, 6, 2, 0), (56, 13, 9, 0), (58, 7, 9, 0), (60, 8, 0, 0), (64, 5, 8, 0), (67, 40, 0, 0), (71, 7, 4, 0), (73, 7, 9, 0), (75, 8, 0, 0), (79, 5, 8, 0), (82, 24, 0, 0), (83, 8, 0, 0), (87, 5, 8, 0), (90, 31, 0, 0), (91, 25, 0, 0), (92, 23, 0, 0), (93, 13, 4, 0), (95, 16, 8, 1), (98, 41, 25, 0), (101, 7, 4, 0), (103, 3, 1, 0)]
theorem ok_X8_royaltyFor : tab_X8_royaltyFor.all (okE cX8_royaltyFor) = true := by decide +kernel
def ed_X8_royaltyFor : List (Nat × Instr × Nat) := [(11, .getfield 15, 3), (15, .iaload, 1), (29, .if_icmp .gt 72, 3), (36, .if_icmp .ge 19, 3), (41, .getfield 18, 3), (48, .laload, 1), (49, .invokestatic 55, 3), (61, .getfield 18, 3), (66, .laload, 1), (68, .ifCond .le 27, 3), (76, .getfield 18, 3), (81, .laload, 1), (84, .getfield 22, 3), (89, .iaload, 1), (104, .invokestatic 61, 3), (107, .lreturn, 1)]
theorem okd_X8_royaltyFor : ed_X8_royaltyFor.all (okD cX8_royaltyFor) = true := by decide +kernel
def f_X8_royaltyFor (S : St) (p0 : Nat) (p1 : Int32) (p2 : Int64) : Option (Int64) := lt (p1 * 5) fun (v1 : Int32) => lt (gR S p0 1) fun (a2 : Nat) => ldI S a2 p1 fun (v4 : Int32) => lt ((v1 + v4) - 1) fun (v5 : Int32) => jn (κ := Int64 → Option (Int64)) (fun x6 => cl (f_X11_rateOf S x6 1) fun (v9 : Int64) => some v9) fun k7 => lp (κ := Int64 → Int32 → Option (Int64)) (fun _ _ => none) (fun k12 x10 x11 => if v5 < x11 then (k7 x10) else (jn (κ := Int64 → Option (Int64)) (fun x14 => lt (gR S p0 2) fun (a17 : Nat) => ldJ S a17 x11 fun (v19 : Int64) => jn (κ := Int64 → Option (Int64)) (fun x20 => k12 x20 (x11 + 1)) fun k21 => if x14 ≤ v19 then (k21 x10) else (lt (gR S p0 2) fun (a23 : Nat) => ldJ S a23 x11 fun (v25 : Int64) => lt (gR S p0 3) fun (a26 : Nat) => ldI S a26 x11 fun (v28 : Int32) => lt (x10 + ((x14 - v25) * (Int32.toInt64 v28))) fun (v29 : Int64) => k21 v29)) fun k15 => if v5 ≤ x11 then (k15 p2) else (lt (gR S p0 2) fun (a30 : Nat) => ldJ S a30 (x11 + 1) fun (v32 : Int64) => lt (if v32 < p2 then v32 else p2) fun (v33 : Int64) => k15 v33))) FU 0 v1
set_option maxHeartbeats 4000000 in
set_option maxRecDepth 100000 in
theorem c_X8_royaltyFor (S : St) (p0 : Nat) (p1 : Int32) (p2 : Int64) : Ct yX8_royaltyFor cX8_royaltyFor 11 (some .long) 1 23 (fun _ => [.ref p0, .int p1, .long p2]) [(p0, 7)] S (f_X8_royaltyFor S p0 p1 p2) oL (fun _ => S) := by
  refine Ct_of RX8 rfl (by decide) (fun _ => Nat.le_of_ble_eq_true rfl) 7 (vs := fun _ => [some (.ref p0), some (.int p1), some (.long p2), none, none, none, none, none, none, none, none]) (fun _ => rfl) (fun C X E hr ht => ?_)
  have t0_ : tT C p0 7 := ht (p0, 7) (by simp)
  show Jd C 11 (QJ C oL (fun _ => S)) S 0 [some (.ref p0), some (.int p1), some (.long p2), none, none, none, none, none, none, none, none] [] (f_X8_royaltyFor S p0 p1 p2)
  unfold f_X8_royaltyFor
  refine s_run X ok_X8_royaltyFor 0 5 (pc' := 6) (vs' := [some (.ref p0), some (.int p1), some (.long p2), none, some (.long 0), none, none, none, none, none, none]) (st' := [.int (p1 * 5)]) rfl ?_
  refine s_nmI (fun v1 => ?_)
  refine s_run X ok_X8_royaltyFor 5 3 (pc' := 11) (vs' := [some (.ref p0), some (.int p1), some (.long p2), none, some (.long 0), none, some (.int v1), none, none, none, none]) (st' := [.ref p0, .int v1]) rfl ?_
  refine s_getR X fl_X8_15 t0_ (dk okd_X8_royaltyFor 0 rfl) (fun a2 (t3 : tT C a2 13) => ?_)
  refine s_run X ok_X8_royaltyFor 8 1 (pc' := 15) (vs' := [some (.ref p0), some (.int p1), some (.long p2), none, some (.long 0), none, some (.int v1), none, none, none, none]) (st' := [.int p1, .ref a2, .int v1]) rfl ?_
  refine s_iald X t3 (dk okd_X8_royaltyFor 1 rfl) (fun v4 => ?_)
  refine s_run X ok_X8_royaltyFor 9 3 (pc' := 19) (vs' := [some (.ref p0), some (.int p1), some (.long p2), none, some (.long 0), none, some (.int v1), none, none, none, none]) (st' := [.int ((v1 + v4) - 1)]) rfl ?_
  refine s_nmI (fun v5 => ?_)
  refine s_run X ok_X8_royaltyFor 12 3 (pc' := 25) (vs' := [some (.ref p0), some (.int p1), some (.long p2), none, some (.long 0), none, some (.int v1), some (.int v5), some (.int v1), none, none]) (st' := []) rfl ?_
  refine s_jn (κ := Int64 → Option (Int64)) (fun k7 => ∀ (x6 : Int64), Jd C 11 (QJ C oL (fun _ => S)) S 101 [none, none, none, none, some (.long x6), none, none, none, none, none, none] [] (k7 x6)) (fun x6 => ?_) (fun k7 h8 => ?_)
  · refine s_run X ok_X8_royaltyFor 44 2 (pc' := 104) (vs' := [none, none, none, none, some (.long x6), none, none, none, none, none, none]) (st' := [.long 1, .long x6]) rfl ?_
    refine s_callN (As := [.long x6, .long 1]) (rest := []) X E mn_X8_61 (c_X11_rateOf S x6 1) rfl (ta0) rfl rfl (Nat.le_of_ble_eq_true rfl) (Nat.le_of_ble_eq_true rfl) (Nat.le_of_ble_eq_true rfl) (dk okd_X8_royaltyFor 14 rfl) (st' := fun v9 => [.long v9]) (fun _ => rfl) (fun v9 => ?_)
    exact s_lret X hr (dk okd_X8_royaltyFor 15 rfl) rfl rfl
  · refine s_less [true, false, true, false, true, false, false, true, true, false, false] (vs' := [some (.ref p0), none, some (.long p2), none, some (.long 0), none, none, some (.int v5), some (.int v1), none, none]) rfl ?_
    refine s_lp (κ := Int64 → Int32 → Option (Int64)) (fun k12 => ∀ (x10 : Int64) (x11 : Int32), Jd C 11 (QJ C oL (fun _ => S)) S 25 [some (.ref p0), none, some (.long p2), none, some (.long x10), none, none, some (.int v5), some (.int x11), none, none] [] (k12 x10 x11)) (fun _ _ => s_none) (fun k12 h13 x10 x11 => ?_) FU 0 v1
    refine s_run X ok_X8_royaltyFor 15 2 (pc' := 29) (vs' := [some (.ref p0), none, some (.long p2), none, some (.long x10), none, none, some (.int v5), some (.int x11), none, none]) (st' := [.int v5, .int x11]) rfl ?_
    refine s_icmp_gt (tgt := 101) X (dk okd_X8_royaltyFor 2 rfl) (by decide) ?_ ?_
    · exact s_less [false, false, false, false, true, false, false, false, false, false, false] rfl (h8 x10)
    · refine s_run X ok_X8_royaltyFor 17 2 (pc' := 36) (vs' := [some (.ref p0), none, some (.long p2), none, some (.long x10), none, none, some (.int v5), some (.int x11), none, none]) (st' := [.int v5, .int x11]) rfl ?_
      refine s_jn (κ := Int64 → Option (Int64)) (fun k15 => ∀ (x14 : Int64), Jd C 11 (QJ C oL (fun _ => S)) S 56 [some (.ref p0), none, some (.long p2), none, some (.long x10), none, none, some (.int v5), some (.int x11), none, none] [.long x14] (k15 x14)) (fun x14 => ?_) (fun k15 h16 => ?_)
      · refine s_run X ok_X8_royaltyFor 26 3 (pc' := 61) (vs' := [some (.ref p0), none, some (.long p2), none, some (.long x10), none, none, some (.int v5), some (.int x11), some (.long x14), none]) (st' := [.ref p0, .long x14]) rfl ?_
        refine s_getR X fl_X8_18 t0_ (dk okd_X8_royaltyFor 7 rfl) (fun a17 (t18 : tT C a17 14) => ?_)
        refine s_run X ok_X8_royaltyFor 29 1 (pc' := 66) (vs' := [some (.ref p0), none, some (.long p2), none, some (.long x10), none, none, some (.int v5), some (.int x11), some (.long x14), none]) (st' := [.int x11, .ref a17, .long x14]) rfl ?_
        refine s_lald X t18 (dk okd_X8_royaltyFor 8 rfl) (fun v19 => ?_)
        refine s_run X ok_X8_royaltyFor 30 1 (pc' := 68) (vs' := [some (.ref p0), none, some (.long p2), none, some (.long x10), none, none, some (.int v5), some (.int x11), some (.long x14), none]) (st' := [.int (lg_cmp x14 v19)]) rfl ?_
        refine s_jn (κ := Int64 → Option (Int64)) (fun k21 => ∀ (x20 : Int64), Jd C 11 (QJ C oL (fun _ => S)) S 95 [some (.ref p0), none, some (.long p2), none, some (.long x20), none, none, some (.int v5), some (.int x11), none, none] [] (k21 x20)) (fun x20 => ?_) (fun k21 h22 => ?_)
        · refine s_run X ok_X8_royaltyFor 42 2 (pc' := 25) (vs' := [some (.ref p0), none, some (.long p2), none, some (.long x20), none, none, some (.int v5), some (.int (x11 + 1)), none, none]) (st' := []) rfl ?_
          exact h13 x20 (x11 + 1)
        · refine s_lif_le (tgt := 95) X (dk okd_X8_royaltyFor 9 rfl) (by decide) ?_ ?_
          · exact s_less [true, false, true, false, true, false, false, true, true, false, false] rfl (h22 x10)
          · refine s_run X ok_X8_royaltyFor 31 3 (pc' := 76) (vs' := [some (.ref p0), none, some (.long p2), none, some (.long x10), none, none, some (.int v5), some (.int x11), some (.long x14), none]) (st' := [.ref p0, .long x14, .long x10]) rfl ?_
            refine s_getR X fl_X8_18 t0_ (dk okd_X8_royaltyFor 10 rfl) (fun a23 (t24 : tT C a23 14) => ?_)
            refine s_run X ok_X8_royaltyFor 34 1 (pc' := 81) (vs' := [some (.ref p0), none, some (.long p2), none, some (.long x10), none, none, some (.int v5), some (.int x11), some (.long x14), none]) (st' := [.int x11, .ref a23, .long x14, .long x10]) rfl ?_
            refine s_lald X t24 (dk okd_X8_royaltyFor 11 rfl) (fun v25 => ?_)
            refine s_run X ok_X8_royaltyFor 35 2 (pc' := 84) (vs' := [some (.ref p0), none, some (.long p2), none, some (.long x10), none, none, some (.int v5), some (.int x11), some (.long x14), none]) (st' := [.ref p0, .long (x14 - v25), .long x10]) rfl ?_
            refine s_getR X fl_X8_22 t0_ (dk okd_X8_royaltyFor 12 rfl) (fun a26 (t27 : tT C a26 13) => ?_)
            refine s_run X ok_X8_royaltyFor 37 1 (pc' := 89) (vs' := [some (.ref p0), none, some (.long p2), none, some (.long x10), none, none, some (.int v5), some (.int x11), some (.long x14), none]) (st' := [.int x11, .ref a26, .long (x14 - v25), .long x10]) rfl ?_
            refine s_iald X t27 (dk okd_X8_royaltyFor 13 rfl) (fun v28 => ?_)
            refine s_run X ok_X8_royaltyFor 38 3 (pc' := 93) (vs' := [some (.ref p0), none, some (.long p2), none, some (.long x10), none, none, some (.int v5), some (.int x11), some (.long x14), none]) (st' := [.long (x10 + ((x14 - v25) * (Int32.toInt64 v28)))]) rfl ?_
            refine s_nmJ (fun v29 => ?_)
            refine s_run X ok_X8_royaltyFor 41 1 (pc' := 95) (vs' := [some (.ref p0), none, some (.long p2), none, some (.long v29), none, none, some (.int v5), some (.int x11), some (.long x14), none]) (st' := []) rfl ?_
            exact s_less [true, false, true, false, true, false, false, true, true, false, false] rfl (h22 v29)
      · refine s_icmp_ge (tgt := 55) X (dk okd_X8_royaltyFor 3 rfl) (by decide) ?_ ?_
        · refine s_run X ok_X8_royaltyFor 25 1 (pc' := 56) (vs' := [some (.ref p0), none, some (.long p2), none, some (.long x10), none, none, some (.int v5), some (.int x11), none, none]) (st' := [.long p2]) rfl ?_
          exact h16 p2
        · refine s_run X ok_X8_royaltyFor 19 2 (pc' := 41) (vs' := [some (.ref p0), none, some (.long p2), none, some (.long x10), none, none, some (.int v5), some (.int x11), none, none]) (st' := [.ref p0, .long p2]) rfl ?_
          refine s_getR X fl_X8_18 t0_ (dk okd_X8_royaltyFor 4 rfl) (fun a30 (t31 : tT C a30 14) => ?_)
          refine s_run X ok_X8_royaltyFor 21 3 (pc' := 48) (vs' := [some (.ref p0), none, some (.long p2), none, some (.long x10), none, none, some (.int v5), some (.int x11), none, none]) (st' := [.int (x11 + 1), .ref a30, .long p2]) rfl ?_
          refine s_lald X t31 (dk okd_X8_royaltyFor 5 rfl) (fun v32 => ?_)
          refine s_MminJ X mm_X8_55 (Nat.le_of_ble_eq_true rfl) (Nat.le_of_ble_eq_true rfl) (dk okd_X8_royaltyFor 6 rfl) (fun v33 => ?_)
          refine s_run X ok_X8_royaltyFor 24 1 (pc' := 56) (vs' := [some (.ref p0), none, some (.long p2), none, some (.long x10), none, none, some (.int v5), some (.int x11), none, none]) (st' := [.long v33]) rfl ?_
          exact h16 v33
def tab_X8_contributionFor : List En := [(0, 6, 2, 0), (1, 8, 0, 0), (5, 4, 1, 0), (7, 31, 0, 0)]
theorem ok_X8_contributionFor : tab_X8_contributionFor.all (okE cX8_contributionFor) = true := by decide +kernel
def ed_X8_contributionFor : List (Nat × Instr × Nat) := [(2, .getfield 9, 3), (6, .iaload, 1), (8, .invokestatic 61, 3), (11, .lreturn, 1)]
theorem okd_X8_contributionFor : ed_X8_contributionFor.all (okD cX8_contributionFor) = true := by decide +kernel
def f_X8_contributionFor (S : St) (p0 : Nat) (p1 : Int32) (p2 : Int64) : Option (Int64) := lt (gR S p0 0) fun (a1 : Nat) => ldI S a1 p1 fun (v3 : Int32) => cl (f_X11_rateOf S p2 (Int32.toInt64 v3)) fun (v4 : Int64) => some v4
set_option maxHeartbeats 4000000 in
set_option maxRecDepth 100000 in
theorem c_X8_contributionFor (S : St) (p0 : Nat) (p1 : Int32) (p2 : Int64) : Ct yX8_contributionFor cX8_contributionFor 4 (some .long) 1 23 (fun _ => [.ref p0, .int p1, .long p2]) [(p0, 7)] S (f_X8_contributionFor S p0 p1 p2) oL (fun _ => S) := by
  refine Ct_of RX8 rfl (by decide) (fun _ => Nat.le_of_ble_eq_true rfl) 0 (vs := fun _ => [some (.ref p0), some (.int p1), some (.long p2), none]) (fun _ => rfl) (fun C X E hr ht => ?_)
  have t0_ : tT C p0 7 := ht (p0, 7) (by simp)
  show Jd C 4 (QJ C oL (fun _ => S)) S 0 [some (.ref p0), some (.int p1), some (.long p2), none] [] (f_X8_contributionFor S p0 p1 p2)
  unfold f_X8_contributionFor
  refine s_run X ok_X8_contributionFor 0 2 (pc' := 2) (vs' := [some (.ref p0), some (.int p1), some (.long p2), none]) (st' := [.ref p0, .long p2]) rfl ?_
  refine s_getR X fl_X8_9 t0_ (dk okd_X8_contributionFor 0 rfl) (fun a1 (t2 : tT C a1 13) => ?_)
  refine s_run X ok_X8_contributionFor 2 1 (pc' := 6) (vs' := [some (.ref p0), some (.int p1), some (.long p2), none]) (st' := [.int p1, .ref a1, .long p2]) rfl ?_
  refine s_iald X t2 (dk okd_X8_contributionFor 1 rfl) (fun v3 => ?_)
  refine s_run X ok_X8_contributionFor 3 1 (pc' := 8) (vs' := [some (.ref p0), some (.int p1), some (.long p2), none]) (st' := [.long (Int32.toInt64 v3), .long p2]) rfl ?_
  refine s_callN (As := [.long p2, .long (Int32.toInt64 v3)]) (rest := []) X E mn_X8_61 (c_X11_rateOf S p2 (Int32.toInt64 v3)) rfl (ta0) rfl rfl (Nat.le_of_ble_eq_true rfl) (Nat.le_of_ble_eq_true rfl) (Nat.le_of_ble_eq_true rfl) (dk okd_X8_contributionFor 2 rfl) (st' := fun v4 => [.long v4]) (fun _ => rfl) (fun v4 => ?_)
  exact s_lret X hr (dk okd_X8_contributionFor 3 rfl) rfl rfl
def tab_X8_cheapestFor : List En := [(0, 0, 0, 0), (1, 10, 3, 0), (5, 13, 4, 0), (7, 0, 0, 0), (8, 11, 6, 0), (10, 5, 6, 0), (12, 8, 0, 0), (19, 8, 0, 0), (20, 5, 6, 0), (22, 6, 1, 0), (26, 8, 0, 0), (27, 5, 6, 0), (29, 6, 1, 0), (33, 23, 0, 0), (34, 13, 7, 0), (36, 7, 7, 0), (38, 7, 4, 0), (40, 40, 0, 0), (44, 7, 7, 0), (46, 13, 4, 0), (48, 5, 6, 0), (50, 10, 3, 0), (51, 16, 6, 1), (54, 41, 10, 0), (57, 4, 3, 0)]
theorem ok_X8_cheapestFor : tab_X8_cheapestFor.all (okE cX8_cheapestFor) = true := by decide +kernel
def ed_X8_cheapestFor : List (Nat × Instr × Nat) := [(2, .ldc2_w 66, 3), (13, .getfield 25, 3), (16, .if_icmp .ge 41, 3), (23, .invokevirtual 68, 3), (30, .invokevirtual 72, 3), (41, .ifCond .ge 10, 3), (58, .ireturn, 1)]
theorem okd_X8_cheapestFor : ed_X8_cheapestFor.all (okD cX8_cheapestFor) = true := by decide +kernel
def f_X8_cheapestFor (S : St) (p0 : Nat) (p1 : Int64) : Option (Int32) := jn (κ := Int32 → Option (Int32)) (fun x1 => some x1) fun k2 => lp (κ := Int32 → Int64 → Int32 → Option (Int32)) (fun _ _ _ => none) (fun k7 x4 x5 x6 => lt (gI S p0 4) fun (v9 : Int32) => if v9 ≤ x6 then (k2 x4) else (cl (f_X8_royaltyFor S p0 x6 p1) fun (v10 : Int64) => cl (f_X8_contributionFor S p0 x6 p1) fun (v11 : Int64) => lt (v10 + v11) fun (v12 : Int64) => jn (κ := Int32 → Int64 → Option (Int32)) (fun x13 x14 => k7 x13 x14 (x6 + 1)) fun k15 => if x5 ≤ v12 then (k15 x4 x5) else (k15 x6 v12))) FU 0 9223372036854775807 0
set_option maxHeartbeats 4000000 in
set_option maxRecDepth 100000 in
theorem c_X8_cheapestFor (S : St) (p0 : Nat) (p1 : Int64) : Ct yX8_cheapestFor cX8_cheapestFor 9 (some .int) 2 53 (fun _ => [.ref p0, .long p1]) [(p0, 7)] S (f_X8_cheapestFor S p0 p1) oI (fun _ => S) := by
  refine Ct_of RX8 rfl (by decide) (fun _ => Nat.le_of_ble_eq_true rfl) 6 (vs := fun _ => [some (.ref p0), some (.long p1), none, none, none, none, none, none, none]) (fun _ => rfl) (fun C X E hr ht => ?_)
  have t0_ : tT C p0 7 := ht (p0, 7) (by simp)
  show Jd C 9 (QJ C oI (fun _ => S)) S 0 [some (.ref p0), some (.long p1), none, none, none, none, none, none, none] [] (f_X8_cheapestFor S p0 p1)
  unfold f_X8_cheapestFor
  refine s_run X ok_X8_cheapestFor 0 2 (pc' := 2) (vs' := [some (.ref p0), some (.long p1), none, some (.int 0), none, none, none, none, none]) (st' := []) rfl ?_
  refine s_ldc2 X cl_X8_66 (dk okd_X8_cheapestFor 0 rfl) ?_
  refine s_run X ok_X8_cheapestFor 2 3 (pc' := 10) (vs' := [some (.ref p0), some (.long p1), none, some (.int 0), some (.long 9223372036854775807), none, some (.int 0), none, none]) (st' := []) rfl ?_
  refine s_jn (κ := Int32 → Option (Int32)) (fun k2 => ∀ (x1 : Int32), Jd C 9 (QJ C oI (fun _ => S)) S 57 [none, none, none, some (.int x1), none, none, none, none, none] [] (k2 x1)) (fun x1 => ?_) (fun k2 h3 => ?_)
  · refine s_run X ok_X8_cheapestFor 24 1 (pc' := 58) (vs' := [none, none, none, some (.int x1), none, none, none, none, none]) (st' := [.int x1]) rfl ?_
    exact s_iret X hr (dk okd_X8_cheapestFor 6 rfl) rfl rfl
  · refine s_lp (κ := Int32 → Int64 → Int32 → Option (Int32)) (fun k7 => ∀ (x4 : Int32) (x5 : Int64) (x6 : Int32), Jd C 9 (QJ C oI (fun _ => S)) S 10 [some (.ref p0), some (.long p1), none, some (.int x4), some (.long x5), none, some (.int x6), none, none] [] (k7 x4 x5 x6)) (fun _ _ _ => s_none) (fun k7 h8 x4 x5 x6 => ?_) FU 0 9223372036854775807 0
    refine s_run X ok_X8_cheapestFor 5 2 (pc' := 13) (vs' := [some (.ref p0), some (.long p1), none, some (.int x4), some (.long x5), none, some (.int x6), none, none]) (st' := [.ref p0, .int x6]) rfl ?_
    refine s_getI X fl_X8_25 t0_ (dk okd_X8_cheapestFor 1 rfl) (fun v9 => ?_)
    refine s_icmp_ge (tgt := 57) X (dk okd_X8_cheapestFor 2 rfl) (by decide) ?_ ?_
    · exact s_less [false, false, false, true, false, false, false, false, false] rfl (h3 x4)
    · refine s_run X ok_X8_cheapestFor 7 3 (pc' := 23) (vs' := [some (.ref p0), some (.long p1), none, some (.int x4), some (.long x5), none, some (.int x6), none, none]) (st' := [.long p1, .int x6, .ref p0]) rfl ?_
      refine s_callV (b := p0) (As := [.int x6, .long p1]) (rest := []) X E mv_X8_68 (c_X8_royaltyFor S p0 x6 p1) rfl (ta1 t0_) rfl (by decide) t0_ rfl rfl (Nat.le_of_ble_eq_true rfl) (Nat.le_of_ble_eq_true rfl) (Nat.le_of_ble_eq_true rfl) (dk okd_X8_cheapestFor 3 rfl) (st' := fun v10 => [.long v10]) (fun _ => rfl) (fun v10 => ?_)
      refine s_run X ok_X8_cheapestFor 10 3 (pc' := 30) (vs' := [some (.ref p0), some (.long p1), none, some (.int x4), some (.long x5), none, some (.int x6), none, none]) (st' := [.long p1, .int x6, .ref p0, .long v10]) rfl ?_
      refine s_callV (b := p0) (As := [.int x6, .long p1]) (rest := [.long v10]) X E mv_X8_72 (c_X8_contributionFor S p0 x6 p1) rfl (ta1 t0_) rfl (by decide) t0_ rfl rfl (Nat.le_of_ble_eq_true rfl) (Nat.le_of_ble_eq_true rfl) (Nat.le_of_ble_eq_true rfl) (dk okd_X8_cheapestFor 4 rfl) (st' := fun v11 => [.long v11, .long v10]) (fun _ => rfl) (fun v11 => ?_)
      refine s_run X ok_X8_cheapestFor 13 1 (pc' := 34) (vs' := [some (.ref p0), some (.long p1), none, some (.int x4), some (.long x5), none, some (.int x6), none, none]) (st' := [.long (v10 + v11)]) rfl ?_
      refine s_nmJ (fun v12 => ?_)
      refine s_run X ok_X8_cheapestFor 14 4 (pc' := 41) (vs' := [some (.ref p0), some (.long p1), none, some (.int x4), some (.long x5), none, some (.int x6), some (.long v12), none]) (st' := [.int (lg_cmp v12 x5)]) rfl ?_
      refine s_jn (κ := Int32 → Int64 → Option (Int32)) (fun k15 => ∀ (x13 : Int32) (x14 : Int64), Jd C 9 (QJ C oI (fun _ => S)) S 51 [some (.ref p0), some (.long p1), none, some (.int x13), some (.long x14), none, some (.int x6), none, none] [] (k15 x13 x14)) (fun x13 x14 => ?_) (fun k15 h16 => ?_)
      · refine s_run X ok_X8_cheapestFor 22 2 (pc' := 10) (vs' := [some (.ref p0), some (.long p1), none, some (.int x13), some (.long x14), none, some (.int (x6 + 1)), none, none]) (st' := []) rfl ?_
        exact h8 x13 x14 (x6 + 1)
      · refine s_lif_ge (tgt := 51) X (dk okd_X8_cheapestFor 5 rfl) (by decide) ?_ ?_
        · exact s_less [true, true, false, true, true, false, true, false, false] rfl (h16 x4 x5)
        · refine s_run X ok_X8_cheapestFor 18 4 (pc' := 51) (vs' := [some (.ref p0), some (.long p1), none, some (.int x6), some (.long v12), none, some (.int x6), some (.long v12), none]) (st' := []) rfl ?_
          exact s_less [true, true, false, true, true, false, true, false, false] rfl (h16 x6 v12)
def tab_X10_clear : List En := [(0, 8, 0, 0), (4, 0, 0, 0)]
theorem ok_X10_clear : tab_X10_clear.all (okE cX10_clear) = true := by decide +kernel
def ed_X10_clear : List (Nat × Instr × Nat) := [(1, .getfield 9, 3), (5, .invokestatic 31, 3), (8, .return_, 1)]
theorem okd_X10_clear : ed_X10_clear.all (okD cX10_clear) = true := by decide +kernel
def f_X10_clear (S : St) (p0 : Nat) : Option (St) := lt (gR S p0 0) fun (a1 : Nat) => cl (f_J7_fill_53178 S a1 0) fun (S3 : St) => some S3
set_option maxHeartbeats 4000000 in
set_option maxRecDepth 100000 in
theorem c_X10_clear (S : St) (p0 : Nat) : Ct yX10_clear cX10_clear 1 none 1 23 (fun _ => [.ref p0]) [(p0, 9)] S (f_X10_clear S p0) oV sV := by
  refine Ct_of RX10 rfl (by decide) (fun _ => Nat.le_of_ble_eq_true rfl) 0 (vs := fun _ => [some (.ref p0)]) (fun _ => rfl) (fun C X E hr ht => ?_)
  have t0_ : tT C p0 9 := ht (p0, 9) (by simp)
  show Jd C 1 (QJ C oV sV) S 0 [some (.ref p0)] [] (f_X10_clear S p0)
  unfold f_X10_clear
  refine s_run X ok_X10_clear 0 1 (pc' := 1) (vs' := [some (.ref p0)]) (st' := [.ref p0]) rfl ?_
  refine s_getR X fl_X10_9 t0_ (dk okd_X10_clear 0 rfl) (fun a1 (t2 : tT C a1 13) => ?_)
  refine s_run X ok_X10_clear 1 1 (pc' := 5) (vs' := [some (.ref p0)]) (st' := [.int 0, .ref a1]) rfl ?_
  refine s_callS (As := [.ref a1, .int 0]) (rest := []) X E ms_X10_31 (c_J7_fill_53178 S a1 0) rfl (ta1 t2) rfl rfl (Nat.le_of_ble_eq_true rfl) (Nat.le_of_ble_eq_true rfl) (Nat.le_of_ble_eq_true rfl) (dk okd_X10_clear 1 rfl) (st' := fun S3 => []) (fun _ => rfl) (fun S3 => ?_)
  exact s_vret X hr (dk okd_X10_clear 2 rfl) rfl rfl
def tab_X10_addVote : List En := [(0, 0, 0, 1), (1, 4, 2, 0), (2, 29, 0, 0), (3, 11, 4, 0), (5, 8, 0, 0), (9, 4, 1, 0), (11, 8, 0, 0), (15, 4, 1, 0), (17, 21, 0, 0), (18, 5, 4, 0), (20, 20, 0, 0), (24, 0, 0, 1), (25, 41, 29, 0), (28, 0, 0, 0), (29, 11, 5, 0), (31, 8, 0, 0), (35, 4, 1, 0), (37, 0, 0, 1), (41, 5, 5, 0), (46, 0, 0, (-1)), (48, 4, 3, 0), (52, 8, 0, 0), (56, 4, 1, 0), (57, 37, 0, 0), (59, 5, 4, 0), (61, 21, 0, 0), (63, 41, 77, 0), (66, 8, 0, 0), (70, 4, 1, 0), (71, 37, 0, 0), (73, 5, 4, 0), (75, 21, 0, 0), (77, 8, 0, 0), (81, 4, 1, 0), (86, 0, 0, 3), (90, 8, 0, 0), (94, 4, 1, 0), (95, 0, 0, 2), (97, 41, 120, 0), (100, 8, 0, 0), (104, 4, 1, 0), (109, 0, 0, 3), (113, 8, 0, 0), (117, 4, 1, 0), (118, 0, 0, 3), (120, 8, 0, 0), (124, 4, 1, 0)]
theorem ok_X10_addVote : tab_X10_addVote.all (okE cX10_addVote) = true := by decide +kernel
def ed_X10_addVote : List (Nat × Instr × Nat) := [(6, .getfield 25, 3), (10, .iaload, 1), (12, .getfield 28, 3), (16, .iaload, 1), (21, .ifCond .eq 7, 3), (32, .getfield 9, 3), (36, .iaload, 1), (38, .if_icmp .ne 8, 3), (43, .ifCond .eq 5, 3), (47, .ireturn, 1), (49, .ifCond .eq 17, 3), (53, .getfield 25, 3), (58, .iaload, 1), (62, .iastore, 1), (67, .getfield 28, 3), (72, .iaload, 1), (76, .iastore, 1), (78, .getfield 25, 3), (82, .iaload, 1), (83, .invokestatic 47, 3), (87, .if_icmp .lt 13, 3), (91, .getfield 9, 3), (96, .iastore, 1), (101, .getfield 28, 3), (105, .iaload, 1), (106, .invokestatic 47, 3), (110, .if_icmp .lt 10, 3), (114, .getfield 9, 3), (119, .iastore, 1), (121, .getfield 9, 3), (125, .iaload, 1), (126, .ireturn, 1)]
theorem okd_X10_addVote : ed_X10_addVote.all (okD cX10_addVote) = true := by decide +kernel
def f_X10_addVote (S : St) (p0 : Nat) (p1 : Int32) (p2 : Int32) (p3 : Int32) : Option (Int32 × St) := lt (1 <<< (p2 &&& 31)) fun (v1 : Int32) => lt (gR S p0 4) fun (a2 : Nat) => ldI S a2 p1 fun (v4 : Int32) => lt (gR S p0 5) fun (a5 : Nat) => ldI S a5 p1 fun (v7 : Int32) => jn (κ := Int32 → Option (Int32 × St)) (fun x8 => lt (gR S p0 0) fun (a11 : Nat) => ldI S a11 p1 fun (v13 : Int32) => if v13 = 1 then (if x8 = 0 then (jn (κ := St → Option (Int32 × St)) (fun S14 => lt (gR S14 p0 4) fun (a17 : Nat) => ldI S14 a17 p1 fun (v19 : Int32) => cl (f_J6_bitCount_0f7a4 S14 v19) fun (v20 : Int32) => jn (κ := St → Option (Int32 × St)) (fun S21 => lt (gR S21 p0 0) fun (a24 : Nat) => ldI S21 a24 p1 fun (v26 : Int32) => some (v26, S21)) fun k22 => if v20 < 3 then (lt (gR S14 p0 5) fun (a27 : Nat) => ldI S14 a27 p1 fun (v29 : Int32) => cl (f_J6_bitCount_0f7a4 S14 v29) fun (v30 : Int32) => if v30 < 3 then (k22 S14) else (lt (gR S14 p0 0) fun (a31 : Nat) => stI S14 a31 p1 3 fun (S33 : St) => k22 S33)) else (lt (gR S14 p0 0) fun (a34 : Nat) => stI S14 a34 p1 2 fun (S36 : St) => k22 S36)) fun k15 => if p3 = 0 then (lt (gR S p0 5) fun (a37 : Nat) => ldI S a37 p1 fun (v39 : Int32) => stI S a37 p1 (v39 ||| v1) fun (S40 : St) => k15 S40) else (lt (gR S p0 4) fun (a41 : Nat) => ldI S a41 p1 fun (v43 : Int32) => stI S a41 p1 (v43 ||| v1) fun (S44 : St) => k15 S44)) else (some ((-1), S))) else (some ((-1), S))) fun k9 => if ((v4 ||| v7) &&& v1) = 0 then (k9 0) else (k9 1)
set_option maxHeartbeats 4000000 in
set_option maxRecDepth 100000 in
theorem c_X10_addVote (S : St) (p0 : Nat) (p1 : Int32) (p2 : Int32) (p3 : Int32) : Ct yX10_addVote cX10_addVote 6 (some .int) 1 20 (fun _ => [.ref p0, .int p1, .int p2, .int p3]) [(p0, 9)] S (f_X10_addVote S p0 p1 p2 p3) oIS sS := by
  refine Ct_of RX10 rfl (by decide) (fun _ => Nat.le_of_ble_eq_true rfl) 2 (vs := fun _ => [some (.ref p0), some (.int p1), some (.int p2), some (.int p3), none, none]) (fun _ => rfl) (fun C X E hr ht => ?_)
  have t0_ : tT C p0 9 := ht (p0, 9) (by simp)
  show Jd C 6 (QJ C oIS sS) S 0 [some (.ref p0), some (.int p1), some (.int p2), some (.int p3), none, none] [] (f_X10_addVote S p0 p1 p2 p3)
  unfold f_X10_addVote
  refine s_run X ok_X10_addVote 0 3 (pc' := 3) (vs' := [some (.ref p0), some (.int p1), some (.int p2), some (.int p3), none, none]) (st' := [.int (1 <<< (p2 &&& 31))]) rfl ?_
  refine s_nmI (fun v1 => ?_)
  refine s_run X ok_X10_addVote 3 2 (pc' := 6) (vs' := [some (.ref p0), some (.int p1), some (.int p2), some (.int p3), some (.int v1), none]) (st' := [.ref p0]) rfl ?_
  refine s_getR X fl_X10_25 t0_ (dk okd_X10_addVote 0 rfl) (fun a2 (t3 : tT C a2 13) => ?_)
  refine s_run X ok_X10_addVote 5 1 (pc' := 10) (vs' := [some (.ref p0), some (.int p1), some (.int p2), some (.int p3), some (.int v1), none]) (st' := [.int p1, .ref a2]) rfl ?_
  refine s_iald X t3 (dk okd_X10_addVote 1 rfl) (fun v4 => ?_)
  refine s_run X ok_X10_addVote 6 1 (pc' := 12) (vs' := [some (.ref p0), some (.int p1), some (.int p2), some (.int p3), some (.int v1), none]) (st' := [.ref p0, .int v4]) rfl ?_
  refine s_getR X fl_X10_28 t0_ (dk okd_X10_addVote 2 rfl) (fun a5 (t6 : tT C a5 13) => ?_)
  refine s_run X ok_X10_addVote 7 1 (pc' := 16) (vs' := [some (.ref p0), some (.int p1), some (.int p2), some (.int p3), some (.int v1), none]) (st' := [.int p1, .ref a5, .int v4]) rfl ?_
  refine s_iald X t6 (dk okd_X10_addVote 3 rfl) (fun v7 => ?_)
  refine s_run X ok_X10_addVote 8 3 (pc' := 21) (vs' := [some (.ref p0), some (.int p1), some (.int p2), some (.int p3), some (.int v1), none]) (st' := [.int ((v4 ||| v7) &&& v1)]) rfl ?_
  refine s_jn (κ := Int32 → Option (Int32 × St)) (fun k9 => ∀ (x8 : Int32), Jd C 6 (QJ C oIS sS) S 29 [some (.ref p0), some (.int p1), none, some (.int p3), some (.int v1), none] [.int x8] (k9 x8)) (fun x8 => ?_) (fun k9 h10 => ?_)
  · refine s_run X ok_X10_addVote 14 2 (pc' := 32) (vs' := [some (.ref p0), some (.int p1), none, some (.int p3), some (.int v1), some (.int x8)]) (st' := [.ref p0]) rfl ?_
    refine s_getR X fl_X10_9 t0_ (dk okd_X10_addVote 5 rfl) (fun a11 (t12 : tT C a11 13) => ?_)
    refine s_run X ok_X10_addVote 16 1 (pc' := 36) (vs' := [some (.ref p0), some (.int p1), none, some (.int p3), some (.int v1), some (.int x8)]) (st' := [.int p1, .ref a11]) rfl ?_
    refine s_iald X t12 (dk okd_X10_addVote 6 rfl) (fun v13 => ?_)
    refine s_run X ok_X10_addVote 17 1 (pc' := 38) (vs' := [some (.ref p0), some (.int p1), none, some (.int p3), some (.int v1), some (.int x8)]) (st' := [.int 1, .int v13]) rfl ?_
    refine s_icmp_ne (tgt := 46) X (dk okd_X10_addVote 7 rfl) (by decide) ?_ ?_
    · refine s_run X ok_X10_addVote 19 1 (pc' := 47) (vs' := [some (.ref p0), some (.int p1), none, some (.int p3), some (.int v1), some (.int x8)]) (st' := [.int (-1)]) rfl ?_
      exact s_iret X hr (dk okd_X10_addVote 9 rfl) rfl rfl
    · refine s_run X ok_X10_addVote 18 1 (pc' := 43) (vs' := [some (.ref p0), some (.int p1), none, some (.int p3), some (.int v1), some (.int x8)]) (st' := [.int x8]) rfl ?_
      refine s_if_eq (tgt := 48) X (dk okd_X10_addVote 8 rfl) (by decide) ?_ ?_
      · refine s_run X ok_X10_addVote 20 1 (pc' := 49) (vs' := [some (.ref p0), some (.int p1), none, some (.int p3), some (.int v1), some (.int x8)]) (st' := [.int p3]) rfl ?_
        refine s_jn (κ := St → Option (Int32 × St)) (fun k15 => ∀ (S14 : St), Jd C 6 (QJ C oIS sS) S14 77 [some (.ref p0), some (.int p1), none, none, none, none] [] (k15 S14)) (fun S14 => ?_) (fun k15 h16 => ?_)
        · refine s_run X ok_X10_addVote 32 1 (pc' := 78) (vs' := [some (.ref p0), some (.int p1), none, none, none, none]) (st' := [.ref p0]) rfl ?_
          refine s_getR X fl_X10_25 t0_ (dk okd_X10_addVote 17 rfl) (fun a17 (t18 : tT C a17 13) => ?_)
          refine s_run X ok_X10_addVote 33 1 (pc' := 82) (vs' := [some (.ref p0), some (.int p1), none, none, none, none]) (st' := [.int p1, .ref a17]) rfl ?_
          refine s_iald X t18 (dk okd_X10_addVote 18 rfl) (fun v19 => ?_)
          refine s_callS (As := [.int v19]) (rest := []) X E ms_X10_47 (c_J6_bitCount_0f7a4 S14 v19) rfl (ta0) rfl rfl (Nat.le_of_ble_eq_true rfl) (Nat.le_of_ble_eq_true rfl) (Nat.le_of_ble_eq_true rfl) (dk okd_X10_addVote 19 rfl) (st' := fun v20 => [.int v20]) (fun _ => rfl) (fun v20 => ?_)
          refine s_run X ok_X10_addVote 34 1 (pc' := 87) (vs' := [some (.ref p0), some (.int p1), none, none, none, none]) (st' := [.int 3, .int v20]) rfl ?_
          refine s_jn (κ := St → Option (Int32 × St)) (fun k22 => ∀ (S21 : St), Jd C 6 (QJ C oIS sS) S21 120 [some (.ref p0), some (.int p1), none, none, none, none] [] (k22 S21)) (fun S21 => ?_) (fun k22 h23 => ?_)
          · refine s_run X ok_X10_addVote 45 1 (pc' := 121) (vs' := [some (.ref p0), some (.int p1), none, none, none, none]) (st' := [.ref p0]) rfl ?_
            refine s_getR X fl_X10_9 t0_ (dk okd_X10_addVote 29 rfl) (fun a24 (t25 : tT C a24 13) => ?_)
            refine s_run X ok_X10_addVote 46 1 (pc' := 125) (vs' := [some (.ref p0), some (.int p1), none, none, none, none]) (st' := [.int p1, .ref a24]) rfl ?_
            refine s_iald X t25 (dk okd_X10_addVote 30 rfl) (fun v26 => ?_)
            exact s_iret X hr (dk okd_X10_addVote 31 rfl) rfl rfl
          · refine s_icmp_lt (tgt := 100) X (dk okd_X10_addVote 20 rfl) (by decide) ?_ ?_
            · refine s_run X ok_X10_addVote 39 1 (pc' := 101) (vs' := [some (.ref p0), some (.int p1), none, none, none, none]) (st' := [.ref p0]) rfl ?_
              refine s_getR X fl_X10_28 t0_ (dk okd_X10_addVote 23 rfl) (fun a27 (t28 : tT C a27 13) => ?_)
              refine s_run X ok_X10_addVote 40 1 (pc' := 105) (vs' := [some (.ref p0), some (.int p1), none, none, none, none]) (st' := [.int p1, .ref a27]) rfl ?_
              refine s_iald X t28 (dk okd_X10_addVote 24 rfl) (fun v29 => ?_)
              refine s_callS (As := [.int v29]) (rest := []) X E ms_X10_47 (c_J6_bitCount_0f7a4 S14 v29) rfl (ta0) rfl rfl (Nat.le_of_ble_eq_true rfl) (Nat.le_of_ble_eq_true rfl) (Nat.le_of_ble_eq_true rfl) (dk okd_X10_addVote 25 rfl) (st' := fun v30 => [.int v30]) (fun _ => rfl) (fun v30 => ?_)
              refine s_run X ok_X10_addVote 41 1 (pc' := 110) (vs' := [some (.ref p0), some (.int p1), none, none, none, none]) (st' := [.int 3, .int v30]) rfl ?_
              refine s_icmp_lt (tgt := 120) X (dk okd_X10_addVote 26 rfl) (by decide) ?_ ?_
              · exact h23 S14
              · refine s_run X ok_X10_addVote 42 1 (pc' := 114) (vs' := [some (.ref p0), some (.int p1), none, none, none, none]) (st' := [.ref p0]) rfl ?_
                refine s_getR X fl_X10_9 t0_ (dk okd_X10_addVote 27 rfl) (fun a31 (t32 : tT C a31 13) => ?_)
                refine s_run X ok_X10_addVote 43 2 (pc' := 119) (vs' := [some (.ref p0), some (.int p1), none, none, none, none]) (st' := [.int 3, .int p1, .ref a31]) rfl ?_
                refine s_iast X t32 (dk okd_X10_addVote 28 rfl) (fun S33 => ?_)
                exact h23 S33
            · refine s_run X ok_X10_addVote 35 1 (pc' := 91) (vs' := [some (.ref p0), some (.int p1), none, none, none, none]) (st' := [.ref p0]) rfl ?_
              refine s_getR X fl_X10_9 t0_ (dk okd_X10_addVote 21 rfl) (fun a34 (t35 : tT C a34 13) => ?_)
              refine s_run X ok_X10_addVote 36 2 (pc' := 96) (vs' := [some (.ref p0), some (.int p1), none, none, none, none]) (st' := [.int 2, .int p1, .ref a34]) rfl ?_
              refine s_iast X t35 (dk okd_X10_addVote 22 rfl) (fun S36 => ?_)
              refine s_run X ok_X10_addVote 38 1 (pc' := 120) (vs' := [some (.ref p0), some (.int p1), none, none, none, none]) (st' := []) rfl ?_
              exact h23 S36
        · refine s_if_eq (tgt := 66) X (dk okd_X10_addVote 10 rfl) (by decide) ?_ ?_
          · refine s_run X ok_X10_addVote 27 1 (pc' := 67) (vs' := [some (.ref p0), some (.int p1), none, some (.int p3), some (.int v1), some (.int x8)]) (st' := [.ref p0]) rfl ?_
            refine s_getR X fl_X10_28 t0_ (dk okd_X10_addVote 14 rfl) (fun a37 (t38 : tT C a37 13) => ?_)
            refine s_run X ok_X10_addVote 28 2 (pc' := 72) (vs' := [some (.ref p0), some (.int p1), none, some (.int p3), some (.int v1), some (.int x8)]) (st' := [.int p1, .ref a37, .int p1, .ref a37]) rfl ?_
            refine s_iald X t38 (dk okd_X10_addVote 15 rfl) (fun v39 => ?_)
            refine s_run X ok_X10_addVote 30 2 (pc' := 76) (vs' := [some (.ref p0), some (.int p1), none, some (.int p3), some (.int v1), some (.int x8)]) (st' := [.int (v39 ||| v1), .int p1, .ref a37]) rfl ?_
            refine s_iast X t38 (dk okd_X10_addVote 16 rfl) (fun S40 => ?_)
            exact s_less [true, true, false, false, false, false] rfl (h16 S40)
          · refine s_run X ok_X10_addVote 21 1 (pc' := 53) (vs' := [some (.ref p0), some (.int p1), none, some (.int p3), some (.int v1), some (.int x8)]) (st' := [.ref p0]) rfl ?_
            refine s_getR X fl_X10_25 t0_ (dk okd_X10_addVote 11 rfl) (fun a41 (t42 : tT C a41 13) => ?_)
            refine s_run X ok_X10_addVote 22 2 (pc' := 58) (vs' := [some (.ref p0), some (.int p1), none, some (.int p3), some (.int v1), some (.int x8)]) (st' := [.int p1, .ref a41, .int p1, .ref a41]) rfl ?_
            refine s_iald X t42 (dk okd_X10_addVote 12 rfl) (fun v43 => ?_)
            refine s_run X ok_X10_addVote 24 2 (pc' := 62) (vs' := [some (.ref p0), some (.int p1), none, some (.int p3), some (.int v1), some (.int x8)]) (st' := [.int (v43 ||| v1), .int p1, .ref a41]) rfl ?_
            refine s_iast X t42 (dk okd_X10_addVote 13 rfl) (fun S44 => ?_)
            refine s_run X ok_X10_addVote 26 1 (pc' := 77) (vs' := [some (.ref p0), some (.int p1), none, some (.int p3), some (.int v1), some (.int x8)]) (st' := []) rfl ?_
            exact s_less [true, true, false, false, false, false] rfl (h16 S44)
      · refine s_run X ok_X10_addVote 19 1 (pc' := 47) (vs' := [some (.ref p0), some (.int p1), none, some (.int p3), some (.int v1), some (.int x8)]) (st' := [.int (-1)]) rfl ?_
        exact s_iret X hr (dk okd_X10_addVote 9 rfl) rfl rfl
  · refine s_if_eq (tgt := 28) X (dk okd_X10_addVote 4 rfl) (by decide) ?_ ?_
    · refine s_run X ok_X10_addVote 13 1 (pc' := 29) (vs' := [some (.ref p0), some (.int p1), some (.int p2), some (.int p3), some (.int v1), none]) (st' := [.int 0]) rfl ?_
      exact s_less [true, true, false, true, true, false] rfl (h10 0)
    · refine s_run X ok_X10_addVote 11 2 (pc' := 29) (vs' := [some (.ref p0), some (.int p1), some (.int p2), some (.int p3), some (.int v1), none]) (st' := [.int 1]) rfl ?_
      exact s_less [true, true, false, true, true, false] rfl (h10 1)
def tab_X11_find : List En := [(0, 8, 0, 0), (7, 8, 0, 0), (14, 0, 0, 0), (15, 8, 0, 0), (25, 10, 1, 0), (26, 8, 0, 0), (30, 0, 0, 0), (34, 4, 1, 0)]
theorem ok_X11_find : tab_X11_find.all (okE cX11_find) = true := by decide +kernel
def ed_X11_find : List (Nat × Instr × Nat) := [(1, .getfield 41, 3), (4, .getfield 85, 3), (8, .getfield 12, 3), (11, .getfield 89, 3), (16, .getfield 12, 3), (19, .getfield 68, 3), (22, .invokevirtual 93, 3), (27, .getfield 12, 3), (31, .putfield 68, 3), (35, .ireturn, 1)]
theorem okd_X11_find : ed_X11_find.all (okD cX11_find) = true := by decide +kernel
def f_X11_find (S : St) (p0 : Nat) : Option (Int32 × St) := lt (gR S p0 5) fun (a1 : Nat) => lt (gR S a1 3) fun (a3 : Nat) => lt (gR S p0 0) fun (a5 : Nat) => lt (gR S a5 0) fun (a7 : Nat) => lt (gR S p0 0) fun (a9 : Nat) => lt (gI S a9 1) fun (v11 : Int32) => cl (f_X2_named S a3 a7 0 v11) fun (v12 : Int32) => lt (gR S p0 0) fun (a13 : Nat) => lt (uI S a13 1 0) fun (S15 : St) => some (v12, S15)
set_option maxHeartbeats 4000000 in
set_option maxRecDepth 100000 in
theorem c_X11_find (S : St) (p0 : Nat) : Ct yX11_find cX11_find 2 (some .int) 2 49 (fun _ => [.ref p0]) [(p0, 10)] S (f_X11_find S p0) oIS sS := by
  refine Ct_of RX11 rfl (by decide) (fun _ => Nat.le_of_ble_eq_true rfl) 1 (vs := fun _ => [some (.ref p0), none]) (fun _ => rfl) (fun C X E hr ht => ?_)
  have t0_ : tT C p0 10 := ht (p0, 10) (by simp)
  show Jd C 2 (QJ C oIS sS) S 0 [some (.ref p0), none] [] (f_X11_find S p0)
  unfold f_X11_find
  refine s_run X ok_X11_find 0 1 (pc' := 1) (vs' := [some (.ref p0), none]) (st' := [.ref p0]) rfl ?_
  refine s_getR X fl_X11_41 t0_ (dk okd_X11_find 0 rfl) (fun a1 (t2 : tT C a1 1) => ?_)
  refine s_getR X fl_X11_85 t2 (dk okd_X11_find 1 rfl) (fun a3 (t4 : tT C a3 2) => ?_)
  refine s_run X ok_X11_find 1 1 (pc' := 8) (vs' := [some (.ref p0), none]) (st' := [.ref p0, .ref a3]) rfl ?_
  refine s_getR X fl_X11_12 t0_ (dk okd_X11_find 2 rfl) (fun a5 (t6 : tT C a5 8) => ?_)
  refine s_getR X fl_X11_89 t6 (dk okd_X11_find 3 rfl) (fun a7 (t8 : tT C a7 12) => ?_)
  refine s_run X ok_X11_find 2 2 (pc' := 16) (vs' := [some (.ref p0), none]) (st' := [.ref p0, .int 0, .ref a7, .ref a3]) rfl ?_
  refine s_getR X fl_X11_12 t0_ (dk okd_X11_find 4 rfl) (fun a9 (t10 : tT C a9 8) => ?_)
  refine s_getI X fl_X11_68 t10 (dk okd_X11_find 5 rfl) (fun v11 => ?_)
  refine s_callV (b := a3) (As := [.ref a7, .int 0, .int v11]) (rest := []) X E mv_X11_93 (c_X2_named S a3 a7 0 v11) rfl (ta2 t4 t8) rfl (by decide) t4 rfl rfl (Nat.le_of_ble_eq_true rfl) (Nat.le_of_ble_eq_true rfl) (Nat.le_of_ble_eq_true rfl) (dk okd_X11_find 6 rfl) (st' := fun v12 => [.int v12]) (fun _ => rfl) (fun v12 => ?_)
  refine s_run X ok_X11_find 4 2 (pc' := 27) (vs' := [some (.ref p0), some (.int v12)]) (st' := [.ref p0]) rfl ?_
  refine s_getR X fl_X11_12 t0_ (dk okd_X11_find 7 rfl) (fun a13 (t14 : tT C a13 8) => ?_)
  refine s_run X ok_X11_find 6 1 (pc' := 31) (vs' := [some (.ref p0), some (.int v12)]) (st' := [.int 0, .ref a13]) rfl ?_
  refine s_putI X fp_X11_68 t14 (dk okd_X11_find 8 rfl) (fun S15 => ?_)
  refine s_run X ok_X11_find 7 1 (pc' := 35) (vs' := [some (.ref p0), some (.int v12)]) (st' := [.int v12]) rfl ?_
  exact s_iret X hr (dk okd_X11_find 9 rfl) rfl rfl
def tab_X11_owner : List En := [(0, 4, 1, 0), (1, 4, 2, 0), (8, 8, 0, 0), (15, 4, 1, 0), (16, 4, 2, 0)]
theorem ok_X11_owner : tab_X11_owner.all (okE cX11_owner) = true := by decide +kernel
def ed_X11_owner : List (Nat × Instr × Nat) := [(2, .invokestatic 149, 3), (5, .invokestatic 107, 3), (9, .getfield 41, 3), (12, .getfield 153, 3), (17, .invokevirtual 156, 3), (20, .ireturn, 1)]
theorem okd_X11_owner : ed_X11_owner.all (okD cX11_owner) = true := by decide +kernel
def f_X11_owner (S : St) (p0 : Nat) (p1 : Int32) (p2 : Int32) : Option ((Int32) ⊕ Nat) := cl (f_X3_contains S p1 p2) fun (v1 : Int32) => clx (f_X11_requireArgument S v1) fun (u2 : Unit) => lt (gR S p0 5) fun (a3 : Nat) => lt (gR S a3 1) fun (a5 : Nat) => cl (f_X3_ownerAt S a5 p1 p2) fun (v7 : Int32) => some (.inl v7)
set_option maxHeartbeats 4000000 in
set_option maxRecDepth 100000 in
theorem c_X11_owner (S : St) (p0 : Nat) (p1 : Int32) (p2 : Int32) : CtX yX11_owner cX11_owner 3 (some .int) 7 110 (fun _ => [.ref p0, .int p1, .int p2]) [(p0, 10)] S (f_X11_owner S p0 p1 p2) oI (fun _ => S) := by
  refine CtX_of RX11 rfl (by decide) (fun _ => Nat.le_of_ble_eq_true rfl) 0 (vs := fun _ => [some (.ref p0), some (.int p1), some (.int p2)]) (fun _ => rfl) (fun C X E hr tx ht => ?_)
  have t0_ : tT C p0 10 := ht (p0, 10) (by simp)
  show Jd C 3 (QX C oI (fun _ => S) S) S 0 [some (.ref p0), some (.int p1), some (.int p2)] [] (f_X11_owner S p0 p1 p2)
  unfold f_X11_owner
  refine s_run X ok_X11_owner 0 2 (pc' := 2) (vs' := [some (.ref p0), some (.int p1), some (.int p2)]) (st' := [.int p2, .int p1]) rfl ?_
  refine s_callS (As := [.int p1, .int p2]) (rest := []) X E ms_X11_149 (c_X3_contains S p1 p2) rfl (ta0) rfl rfl (Nat.le_of_ble_eq_true rfl) (Nat.le_of_ble_eq_true rfl) (Nat.le_of_ble_eq_true rfl) (dk okd_X11_owner 0 rfl) (st' := fun v1 => [.int v1]) (fun _ => rfl) (fun v1 => ?_)
  refine s_callSX (As := [.int v1]) (rest := []) X E tx ms_X11_107 (c_X11_requireArgument S v1) rfl (ta0) rfl rfl (Nat.le_of_ble_eq_true rfl) (Nat.le_of_ble_eq_true rfl) (Nat.le_of_ble_eq_true rfl) (dk okd_X11_owner 1 rfl) (st' := fun u2 => []) (fun _ => rfl) (fun u2 => ?_)
  refine s_run X ok_X11_owner 2 1 (pc' := 9) (vs' := [some (.ref p0), some (.int p1), some (.int p2)]) (st' := [.ref p0]) rfl ?_
  refine s_getR X fl_X11_41 t0_ (dk okd_X11_owner 2 rfl) (fun a3 (t4 : tT C a3 1) => ?_)
  refine s_getR X fl_X11_153 t4 (dk okd_X11_owner 3 rfl) (fun a5 (t6 : tT C a5 3) => ?_)
  refine s_run X ok_X11_owner 3 2 (pc' := 17) (vs' := [some (.ref p0), some (.int p1), some (.int p2)]) (st' := [.int p2, .int p1, .ref a5]) rfl ?_
  refine s_callV (b := a5) (As := [.int p1, .int p2]) (rest := []) X E mv_X11_156 (c_X3_ownerAt S a5 p1 p2) rfl (ta1 t6) rfl (by decide) t6 rfl rfl (Nat.le_of_ble_eq_true rfl) (Nat.le_of_ble_eq_true rfl) (Nat.le_of_ble_eq_true rfl) (dk okd_X11_owner 4 rfl) (st' := fun v7 => [.int v7]) (fun _ => rfl) (fun v7 => ?_)
  exact s_iretX X hr (dk okd_X11_owner 5 rfl) rfl rfl
def tab_X11_area : List En := [(0, 8, 0, 0), (1, 4, 1, 0), (5, 8, 0, 0), (12, 4, 1, 0)]
theorem ok_X11_area : tab_X11_area.all (okE cX11_area) = true := by decide +kernel
def ed_X11_area : List (Nat × Instr × Nat) := [(2, .invokevirtual 159, 3), (6, .getfield 41, 3), (9, .getfield 153, 3), (13, .invokevirtual 162, 3), (16, .ireturn, 1)]
theorem okd_X11_area : ed_X11_area.all (okD cX11_area) = true := by decide +kernel
def f_X11_area (S : St) (p0 : Nat) (p1 : Int32) : Option ((Int32) ⊕ Nat) := clx (f_X11_requireFranchisee S p0 p1) fun (u1 : Unit) => lt (gR S p0 5) fun (a2 : Nat) => lt (gR S a2 1) fun (a4 : Nat) => cl (f_X3_sizeOf S a4 p1) fun (v6 : Int32) => some (.inl v6)
set_option maxHeartbeats 4000000 in
set_option maxRecDepth 100000 in
theorem c_X11_area (S : St) (p0 : Nat) (p1 : Int32) : CtX yX11_area cX11_area 2 (some .int) 7 111 (fun _ => [.ref p0, .int p1]) [(p0, 10)] S (f_X11_area S p0 p1) oI (fun _ => S) := by
  refine CtX_of RX11 rfl (by decide) (fun _ => Nat.le_of_ble_eq_true rfl) 0 (vs := fun _ => [some (.ref p0), some (.int p1)]) (fun _ => rfl) (fun C X E hr tx ht => ?_)
  have t0_ : tT C p0 10 := ht (p0, 10) (by simp)
  show Jd C 2 (QX C oI (fun _ => S) S) S 0 [some (.ref p0), some (.int p1)] [] (f_X11_area S p0 p1)
  unfold f_X11_area
  refine s_run X ok_X11_area 0 2 (pc' := 2) (vs' := [some (.ref p0), some (.int p1)]) (st' := [.int p1, .ref p0]) rfl ?_
  refine s_callVX (b := p0) (As := [.int p1]) (rest := []) X E tx mv_X11_159 (c_X11_requireFranchisee S p0 p1) rfl (ta1 t0_) rfl (by decide) t0_ rfl rfl (Nat.le_of_ble_eq_true rfl) (Nat.le_of_ble_eq_true rfl) (Nat.le_of_ble_eq_true rfl) (dk okd_X11_area 0 rfl) (st' := fun u1 => []) (fun _ => rfl) (fun u1 => ?_)
  refine s_run X ok_X11_area 2 1 (pc' := 6) (vs' := [some (.ref p0), some (.int p1)]) (st' := [.ref p0]) rfl ?_
  refine s_getR X fl_X11_41 t0_ (dk okd_X11_area 1 rfl) (fun a2 (t3 : tT C a2 1) => ?_)
  refine s_getR X fl_X11_153 t3 (dk okd_X11_area 2 rfl) (fun a4 (t5 : tT C a4 3) => ?_)
  refine s_run X ok_X11_area 3 1 (pc' := 13) (vs' := [some (.ref p0), some (.int p1)]) (st' := [.int p1, .ref a4]) rfl ?_
  refine s_callV (b := a4) (As := [.int p1]) (rest := []) X E mv_X11_162 (c_X3_sizeOf S a4 p1) rfl (ta1 t5) rfl (by decide) t5 rfl rfl (Nat.le_of_ble_eq_true rfl) (Nat.le_of_ble_eq_true rfl) (Nat.le_of_ble_eq_true rfl) (dk okd_X11_area 3 rfl) (st' := fun v6 => [.int v6]) (fun _ => rfl) (fun v6 => ?_)
  exact s_iretX X hr (dk okd_X11_area 4 rfl) rfl rfl
def tab_X11_perimeter : List En := [(0, 8, 0, 0), (1, 4, 1, 0), (5, 8, 0, 0), (12, 4, 1, 0)]
theorem ok_X11_perimeter : tab_X11_perimeter.all (okE cX11_perimeter) = true := by decide +kernel
def ed_X11_perimeter : List (Nat × Instr × Nat) := [(2, .invokevirtual 159, 3), (6, .getfield 41, 3), (9, .getfield 153, 3), (13, .invokevirtual 166, 3), (16, .ireturn, 1)]
theorem okd_X11_perimeter : ed_X11_perimeter.all (okD cX11_perimeter) = true := by decide +kernel
def f_X11_perimeter (S : St) (p0 : Nat) (p1 : Int32) : Option ((Int32) ⊕ Nat) := clx (f_X11_requireFranchisee S p0 p1) fun (u1 : Unit) => lt (gR S p0 5) fun (a2 : Nat) => lt (gR S a2 1) fun (a4 : Nat) => cl (f_X3_outerSides S a4 p1) fun (v6 : Int32) => some (.inl v6)
set_option maxHeartbeats 4000000 in
set_option maxRecDepth 100000 in
theorem c_X11_perimeter (S : St) (p0 : Nat) (p1 : Int32) : CtX yX11_perimeter cX11_perimeter 2 (some .int) 7 111 (fun _ => [.ref p0, .int p1]) [(p0, 10)] S (f_X11_perimeter S p0 p1) oI (fun _ => S) := by
  refine CtX_of RX11 rfl (by decide) (fun _ => Nat.le_of_ble_eq_true rfl) 0 (vs := fun _ => [some (.ref p0), some (.int p1)]) (fun _ => rfl) (fun C X E hr tx ht => ?_)
  have t0_ : tT C p0 10 := ht (p0, 10) (by simp)
  show Jd C 2 (QX C oI (fun _ => S) S) S 0 [some (.ref p0), some (.int p1)] [] (f_X11_perimeter S p0 p1)
  unfold f_X11_perimeter
  refine s_run X ok_X11_perimeter 0 2 (pc' := 2) (vs' := [some (.ref p0), some (.int p1)]) (st' := [.int p1, .ref p0]) rfl ?_
  refine s_callVX (b := p0) (As := [.int p1]) (rest := []) X E tx mv_X11_159 (c_X11_requireFranchisee S p0 p1) rfl (ta1 t0_) rfl (by decide) t0_ rfl rfl (Nat.le_of_ble_eq_true rfl) (Nat.le_of_ble_eq_true rfl) (Nat.le_of_ble_eq_true rfl) (dk okd_X11_perimeter 0 rfl) (st' := fun u1 => []) (fun _ => rfl) (fun u1 => ?_)
  refine s_run X ok_X11_perimeter 2 1 (pc' := 6) (vs' := [some (.ref p0), some (.int p1)]) (st' := [.ref p0]) rfl ?_
  refine s_getR X fl_X11_41 t0_ (dk okd_X11_perimeter 1 rfl) (fun a2 (t3 : tT C a2 1) => ?_)
  refine s_getR X fl_X11_153 t3 (dk okd_X11_perimeter 2 rfl) (fun a4 (t5 : tT C a4 3) => ?_)
  refine s_run X ok_X11_perimeter 3 1 (pc' := 13) (vs' := [some (.ref p0), some (.int p1)]) (st' := [.int p1, .ref a4]) rfl ?_
  refine s_callV (b := a4) (As := [.int p1]) (rest := []) X E mv_X11_166 (c_X3_outerSides S a4 p1) rfl (ta1 t5) rfl (by decide) t5 rfl rfl (Nat.le_of_ble_eq_true rfl) (Nat.le_of_ble_eq_true rfl) (Nat.le_of_ble_eq_true rfl) (dk okd_X11_perimeter 3 rfl) (st' := fun v6 => [.int v6]) (fun _ => rfl) (fun v6 => ?_)
  exact s_iretX X hr (dk okd_X11_perimeter 4 rfl) rfl rfl
def tab_X11_border : List En := [(0, 8, 0, 0), (1, 4, 1, 0), (5, 8, 0, 0), (6, 4, 2, 0), (10, 4, 1, 0), (11, 4, 2, 0), (15, 0, 0, 0), (16, 41, 31, 0), (19, 8, 0, 0), (26, 4, 1, 0), (27, 4, 2, 0)]
theorem ok_X11_border : tab_X11_border.all (okE cX11_border) = true := by decide +kernel
def ed_X11_border : List (Nat × Instr × Nat) := [(2, .invokevirtual 159, 3), (7, .invokevirtual 159, 3), (12, .if_icmp .ne 7, 3), (20, .getfield 41, 3), (23, .getfield 153, 3), (28, .invokevirtual 169, 3), (31, .ireturn, 1)]
theorem okd_X11_border : ed_X11_border.all (okD cX11_border) = true := by decide +kernel
def f_X11_border (S : St) (p0 : Nat) (p1 : Int32) (p2 : Int32) : Option ((Int32) ⊕ Nat) := clx (f_X11_requireFranchisee S p0 p1) fun (u1 : Unit) => clx (f_X11_requireFranchisee S p0 p2) fun (u2 : Unit) => if p1 = p2 then (some (.inl 0)) else (lt (gR S p0 5) fun (a3 : Nat) => lt (gR S a3 1) fun (a5 : Nat) => cl (f_X3_sharedSides S a5 p1 p2) fun (v7 : Int32) => some (.inl v7))
set_option maxHeartbeats 4000000 in
set_option maxRecDepth 100000 in
theorem c_X11_border (S : St) (p0 : Nat) (p1 : Int32) (p2 : Int32) : CtX yX11_border cX11_border 3 (some .int) 7 111 (fun _ => [.ref p0, .int p1, .int p2]) [(p0, 10)] S (f_X11_border S p0 p1 p2) oI (fun _ => S) := by
  refine CtX_of RX11 rfl (by decide) (fun _ => Nat.le_of_ble_eq_true rfl) 0 (vs := fun _ => [some (.ref p0), some (.int p1), some (.int p2)]) (fun _ => rfl) (fun C X E hr tx ht => ?_)
  have t0_ : tT C p0 10 := ht (p0, 10) (by simp)
  show Jd C 3 (QX C oI (fun _ => S) S) S 0 [some (.ref p0), some (.int p1), some (.int p2)] [] (f_X11_border S p0 p1 p2)
  unfold f_X11_border
  refine s_run X ok_X11_border 0 2 (pc' := 2) (vs' := [some (.ref p0), some (.int p1), some (.int p2)]) (st' := [.int p1, .ref p0]) rfl ?_
  refine s_callVX (b := p0) (As := [.int p1]) (rest := []) X E tx mv_X11_159 (c_X11_requireFranchisee S p0 p1) rfl (ta1 t0_) rfl (by decide) t0_ rfl rfl (Nat.le_of_ble_eq_true rfl) (Nat.le_of_ble_eq_true rfl) (Nat.le_of_ble_eq_true rfl) (dk okd_X11_border 0 rfl) (st' := fun u1 => []) (fun _ => rfl) (fun u1 => ?_)
  refine s_run X ok_X11_border 2 2 (pc' := 7) (vs' := [some (.ref p0), some (.int p1), some (.int p2)]) (st' := [.int p2, .ref p0]) rfl ?_
  refine s_callVX (b := p0) (As := [.int p2]) (rest := []) X E tx mv_X11_159 (c_X11_requireFranchisee S p0 p2) rfl (ta1 t0_) rfl (by decide) t0_ rfl rfl (Nat.le_of_ble_eq_true rfl) (Nat.le_of_ble_eq_true rfl) (Nat.le_of_ble_eq_true rfl) (dk okd_X11_border 1 rfl) (st' := fun u2 => []) (fun _ => rfl) (fun u2 => ?_)
  refine s_run X ok_X11_border 4 2 (pc' := 12) (vs' := [some (.ref p0), some (.int p1), some (.int p2)]) (st' := [.int p2, .int p1]) rfl ?_
  refine s_icmp_ne (tgt := 19) X (dk okd_X11_border 2 rfl) (by decide) ?_ ?_
  · refine s_run X ok_X11_border 8 1 (pc' := 20) (vs' := [some (.ref p0), some (.int p1), some (.int p2)]) (st' := [.ref p0]) rfl ?_
    refine s_getR X fl_X11_41 t0_ (dk okd_X11_border 3 rfl) (fun a3 (t4 : tT C a3 1) => ?_)
    refine s_getR X fl_X11_153 t4 (dk okd_X11_border 4 rfl) (fun a5 (t6 : tT C a5 3) => ?_)
    refine s_run X ok_X11_border 9 2 (pc' := 28) (vs' := [some (.ref p0), some (.int p1), some (.int p2)]) (st' := [.int p2, .int p1, .ref a5]) rfl ?_
    refine s_callV (b := a5) (As := [.int p1, .int p2]) (rest := []) X E mv_X11_169 (c_X3_sharedSides S a5 p1 p2) rfl (ta1 t6) rfl (by decide) t6 rfl rfl (Nat.le_of_ble_eq_true rfl) (Nat.le_of_ble_eq_true rfl) (Nat.le_of_ble_eq_true rfl) (dk okd_X11_border 5 rfl) (st' := fun v7 => [.int v7]) (fun _ => rfl) (fun v7 => ?_)
    exact s_iretX X hr (dk okd_X11_border 6 rfl) rfl rfl
  · refine s_run X ok_X11_border 6 2 (pc' := 31) (vs' := [some (.ref p0), some (.int p1), some (.int p2)]) (st' := [.int 0]) rfl ?_
    exact s_iretX X hr (dk okd_X11_border 6 rfl) rfl rfl
def tab_X11_isConnected : List En := [(0, 8, 0, 0), (1, 4, 1, 0), (5, 8, 0, 0), (12, 4, 1, 0)]
theorem ok_X11_isConnected : tab_X11_isConnected.all (okE cX11_isConnected) = true := by decide +kernel
def ed_X11_isConnected : List (Nat × Instr × Nat) := [(2, .invokevirtual 159, 3), (6, .getfield 41, 3), (9, .getfield 153, 3), (13, .invokevirtual 172, 3), (16, .ireturn, 1)]
theorem okd_X11_isConnected : ed_X11_isConnected.all (okD cX11_isConnected) = true := by decide +kernel
def f_X11_isConnected (S : St) (p0 : Nat) (p1 : Int32) : Option ((Int32 × St) ⊕ Nat) := clx (f_X11_requireFranchisee S p0 p1) fun (u1 : Unit) => lt (gR S p0 5) fun (a2 : Nat) => lt (gR S a2 1) fun (a4 : Nat) => cl (f_X3_isWhole S a4 p1) fun (o6 : Int32 × St) => zc o6.1 (some (.inl (o6.1, o6.2)))
set_option maxHeartbeats 4000000 in
set_option maxRecDepth 100000 in
theorem c_X11_isConnected (S : St) (p0 : Nat) (p1 : Int32) : CtX yX11_isConnected cX11_isConnected 2 (some .boolean) 7 111 (fun _ => [.ref p0, .int p1]) [(p0, 10)] S (f_X11_isConnected S p0 p1) oIS sS := by
  refine CtX_of RX11 rfl (by decide) (fun _ => Nat.le_of_ble_eq_true rfl) 0 (vs := fun _ => [some (.ref p0), some (.int p1)]) (fun _ => rfl) (fun C X E hr tx ht => ?_)
  have t0_ : tT C p0 10 := ht (p0, 10) (by simp)
  show Jd C 2 (QX C oIS sS S) S 0 [some (.ref p0), some (.int p1)] [] (f_X11_isConnected S p0 p1)
  unfold f_X11_isConnected
  refine s_run X ok_X11_isConnected 0 2 (pc' := 2) (vs' := [some (.ref p0), some (.int p1)]) (st' := [.int p1, .ref p0]) rfl ?_
  refine s_callVX (b := p0) (As := [.int p1]) (rest := []) X E tx mv_X11_159 (c_X11_requireFranchisee S p0 p1) rfl (ta1 t0_) rfl (by decide) t0_ rfl rfl (Nat.le_of_ble_eq_true rfl) (Nat.le_of_ble_eq_true rfl) (Nat.le_of_ble_eq_true rfl) (dk okd_X11_isConnected 0 rfl) (st' := fun u1 => []) (fun _ => rfl) (fun u1 => ?_)
  refine s_run X ok_X11_isConnected 2 1 (pc' := 6) (vs' := [some (.ref p0), some (.int p1)]) (st' := [.ref p0]) rfl ?_
  refine s_getR X fl_X11_41 t0_ (dk okd_X11_isConnected 1 rfl) (fun a2 (t3 : tT C a2 1) => ?_)
  refine s_getR X fl_X11_153 t3 (dk okd_X11_isConnected 2 rfl) (fun a4 (t5 : tT C a4 3) => ?_)
  refine s_run X ok_X11_isConnected 3 1 (pc' := 13) (vs' := [some (.ref p0), some (.int p1)]) (st' := [.int p1, .ref a4]) rfl ?_
  refine s_callV (b := a4) (As := [.int p1]) (rest := []) X E mv_X11_172 (c_X3_isWhole S a4 p1) rfl (ta1 t5) rfl (by decide) t5 rfl rfl (Nat.le_of_ble_eq_true rfl) (Nat.le_of_ble_eq_true rfl) (Nat.le_of_ble_eq_true rfl) (dk okd_X11_isConnected 3 rfl) (st' := fun o6 => [.int o6.1]) (fun _ => rfl) (fun o6 => ?_)
  exact s_zretX X hr (dk okd_X11_isConnected 4 rfl) rfl rfl
def tab_X11_distance : List En := [(0, 8, 0, 0), (1, 4, 1, 0), (5, 4, 2, 0), (6, 4, 3, 0), (13, 8, 0, 0), (20, 4, 1, 0), (21, 4, 2, 0), (22, 4, 3, 0)]
theorem ok_X11_distance : tab_X11_distance.all (okE cX11_distance) = true := by decide +kernel
def ed_X11_distance : List (Nat × Instr × Nat) := [(2, .invokevirtual 159, 3), (7, .invokestatic 149, 3), (10, .invokestatic 107, 3), (14, .getfield 41, 3), (17, .getfield 153, 3), (23, .invokevirtual 176, 3), (26, .ireturn, 1)]
theorem okd_X11_distance : ed_X11_distance.all (okD cX11_distance) = true := by decide +kernel
def f_X11_distance (S : St) (p0 : Nat) (p1 : Int32) (p2 : Int32) (p3 : Int32) : Option ((Int32) ⊕ Nat) := clx (f_X11_requireFranchisee S p0 p1) fun (u1 : Unit) => cl (f_X3_contains S p2 p3) fun (v2 : Int32) => clx (f_X11_requireArgument S v2) fun (u3 : Unit) => lt (gR S p0 5) fun (a4 : Nat) => lt (gR S a4 1) fun (a6 : Nat) => cl (f_X3_leastDistance S a6 p1 p2 p3) fun (v8 : Int32) => some (.inl v8)
set_option maxHeartbeats 4000000 in
set_option maxRecDepth 100000 in
theorem c_X11_distance (S : St) (p0 : Nat) (p1 : Int32) (p2 : Int32) (p3 : Int32) : CtX yX11_distance cX11_distance 4 (some .int) 7 111 (fun _ => [.ref p0, .int p1, .int p2, .int p3]) [(p0, 10)] S (f_X11_distance S p0 p1 p2 p3) oI (fun _ => S) := by
  refine CtX_of RX11 rfl (by decide) (fun _ => Nat.le_of_ble_eq_true rfl) 0 (vs := fun _ => [some (.ref p0), some (.int p1), some (.int p2), some (.int p3)]) (fun _ => rfl) (fun C X E hr tx ht => ?_)
  have t0_ : tT C p0 10 := ht (p0, 10) (by simp)
  show Jd C 4 (QX C oI (fun _ => S) S) S 0 [some (.ref p0), some (.int p1), some (.int p2), some (.int p3)] [] (f_X11_distance S p0 p1 p2 p3)
  unfold f_X11_distance
  refine s_run X ok_X11_distance 0 2 (pc' := 2) (vs' := [some (.ref p0), some (.int p1), some (.int p2), some (.int p3)]) (st' := [.int p1, .ref p0]) rfl ?_
  refine s_callVX (b := p0) (As := [.int p1]) (rest := []) X E tx mv_X11_159 (c_X11_requireFranchisee S p0 p1) rfl (ta1 t0_) rfl (by decide) t0_ rfl rfl (Nat.le_of_ble_eq_true rfl) (Nat.le_of_ble_eq_true rfl) (Nat.le_of_ble_eq_true rfl) (dk okd_X11_distance 0 rfl) (st' := fun u1 => []) (fun _ => rfl) (fun u1 => ?_)
  refine s_run X ok_X11_distance 2 2 (pc' := 7) (vs' := [some (.ref p0), some (.int p1), some (.int p2), some (.int p3)]) (st' := [.int p3, .int p2]) rfl ?_
  refine s_callS (As := [.int p2, .int p3]) (rest := []) X E ms_X11_149 (c_X3_contains S p2 p3) rfl (ta0) rfl rfl (Nat.le_of_ble_eq_true rfl) (Nat.le_of_ble_eq_true rfl) (Nat.le_of_ble_eq_true rfl) (dk okd_X11_distance 1 rfl) (st' := fun v2 => [.int v2]) (fun _ => rfl) (fun v2 => ?_)
  refine s_callSX (As := [.int v2]) (rest := []) X E tx ms_X11_107 (c_X11_requireArgument S v2) rfl (ta0) rfl rfl (Nat.le_of_ble_eq_true rfl) (Nat.le_of_ble_eq_true rfl) (Nat.le_of_ble_eq_true rfl) (dk okd_X11_distance 2 rfl) (st' := fun u3 => []) (fun _ => rfl) (fun u3 => ?_)
  refine s_run X ok_X11_distance 4 1 (pc' := 14) (vs' := [some (.ref p0), some (.int p1), some (.int p2), some (.int p3)]) (st' := [.ref p0]) rfl ?_
  refine s_getR X fl_X11_41 t0_ (dk okd_X11_distance 3 rfl) (fun a4 (t5 : tT C a4 1) => ?_)
  refine s_getR X fl_X11_153 t5 (dk okd_X11_distance 4 rfl) (fun a6 (t7 : tT C a6 3) => ?_)
  refine s_run X ok_X11_distance 5 3 (pc' := 23) (vs' := [some (.ref p0), some (.int p1), some (.int p2), some (.int p3)]) (st' := [.int p3, .int p2, .int p1, .ref a6]) rfl ?_
  refine s_callV (b := a6) (As := [.int p1, .int p2, .int p3]) (rest := []) X E mv_X11_176 (c_X3_leastDistance S a6 p1 p2 p3) rfl (ta1 t7) rfl (by decide) t7 rfl rfl (Nat.le_of_ble_eq_true rfl) (Nat.le_of_ble_eq_true rfl) (Nat.le_of_ble_eq_true rfl) (dk okd_X11_distance 5 rfl) (st' := fun v8 => [.int v8]) (fun _ => rfl) (fun v8 => ?_)
  exact s_iretX X hr (dk okd_X11_distance 6 rfl) rfl rfl
def tab_X11_cede : List En := [(0, 8, 0, 0), (1, 4, 1, 0), (5, 8, 0, 0), (6, 4, 2, 0), (10, 4, 1, 0), (11, 4, 2, 0), (15, 0, 0, 1), (16, 41, 20, 0), (19, 0, 0, 0), (23, 4, 3, 0), (24, 5, 4, 0), (32, 5, 5, 0), (34, 4, 3, 0), (38, 5, 5, 0), (40, 1, 0, 30), (45, 5, 6, 0), (47, 5, 4, 0), (52, 5, 6, 0), (54, 1, 0, 30), (59, 0, 0, 1), (60, 41, 64, 0), (63, 0, 0, 0), (67, 8, 0, 0), (74, 4, 1, 0), (81, 8, 0, 0), (88, 4, 2, 0), (95, 1, 0, (-2)), (98, 8, 0, 0), (102, 8, 0, 0), (112, 8, 0, 0), (116, 4, 1, 0), (117, 4, 2, 0), (118, 4, 3, 0), (119, 5, 4, 0), (121, 5, 5, 0), (123, 5, 6, 0), (128, 11, 7, 0), (130, 5, 7, 0), (135, 0, 0, 0), (137, 8, 0, 0), (144, 4, 1, 0), (145, 4, 3, 0), (146, 5, 4, 0), (148, 5, 5, 0), (150, 5, 6, 0), (158, 8, 0, 0), (162, 4, 1, 0), (169, 8, 0, 0), (173, 4, 2, 0), (180, 1, 0, (-2)), (183, 8, 0, 0), (190, 8, 0, 0), (197, 5, 7, 0)]
theorem ok_X11_cede : tab_X11_cede.all (okE cX11_cede) = true := by decide +kernel
def ed_X11_cede : List (Nat × Instr × Nat) := [(2, .invokevirtual 159, 3), (7, .invokevirtual 159, 3), (12, .if_icmp .eq 7, 3), (20, .invokestatic 107, 3), (26, .invokestatic 149, 3), (29, .invokestatic 107, 3), (35, .if_icmp .le 28, 3), (42, .if_icmp .gt 21, 3), (49, .if_icmp .le 14, 3), (56, .if_icmp .gt 7, 3), (64, .invokestatic 107, 3), (68, .getfield 41, 3), (71, .getfield 85, 3), (75, .invokevirtual 180, 3), (78, .ifCond .eq 17, 3), (82, .getfield 41, 3), (85, .getfield 85, 3), (89, .invokevirtual 180, 3), (92, .ifCond .ne 6, 3), (97, .ireturn, 1), (99, .getfield 26, 3), (103, .getfield 41, 3), (106, .getfield 153, 3), (109, .invokevirtual 183, 3), (113, .getfield 26, 3), (125, .invokevirtual 187, 3), (132, .ifCond .ne 5, 3), (136, .ireturn, 1), (138, .getfield 41, 3), (141, .getfield 133, 3), (152, .invokevirtual 191, 3), (155, .ifCond .ne 25, 3), (159, .getfield 26, 3), (163, .invokevirtual 172, 3), (166, .ifCond .eq 14, 3), (170, .getfield 26, 3), (174, .invokevirtual 172, 3), (177, .ifCond .ne 6, 3), (182, .ireturn, 1), (184, .getfield 41, 3), (187, .getfield 153, 3), (191, .getfield 26, 3), (194, .invokevirtual 183, 3), (199, .ireturn, 1)]
theorem okd_X11_cede : ed_X11_cede.all (okD cX11_cede) = true := by decide +kernel
def f_X11_cede (S : St) (p0 : Nat) (p1 : Int32) (p2 : Int32) (p3 : Int32) (p4 : Int32) (p5 : Int32) (p6 : Int32) : Option ((Int32 × St) ⊕ Nat) := clx (f_X11_requireFranchisee S p0 p1) fun (u1 : Unit) => clx (f_X11_requireFranchisee S p0 p2) fun (u2 : Unit) => jn (κ := Int32 → Option ((Int32 × St) ⊕ Nat)) (fun x3 => clx (f_X11_requireArgument S x3) fun (u6 : Unit) => cl (f_X3_contains S p3 p4) fun (v7 : Int32) => clx (f_X11_requireArgument S v7) fun (u8 : Unit) => jn (κ := Int32 → Option ((Int32 × St) ⊕ Nat)) (fun x9 => clx (f_X11_requireArgument S x9) fun (u12 : Unit) => lt (gR S p0 5) fun (a13 : Nat) => lt (gR S a13 3) fun (a15 : Nat) => cl (f_X2_isActive S a15 p1) fun (v17 : Int32) => jn (κ := Option ((Int32 × St) ⊕ Nat)) (some (.inl ((-2), S))) fun k18 => if v17 = 0 then (k18) else (lt (gR S p0 5) fun (a20 : Nat) => lt (gR S a20 3) fun (a22 : Nat) => cl (f_X2_isActive S a22 p2) fun (v24 : Int32) => if v24 = 0 then (k18) else (lt (gR S p0 2) fun (a25 : Nat) => lt (gR S p0 5) fun (a27 : Nat) => lt (gR S a27 1) fun (a29 : Nat) => cl (f_X3_copyFrom S a25 a29) fun (S31 : St) => lt (gR S31 p0 2) fun (a32 : Nat) => cl (f_X3_move S31 a32 p1 p2 p3 p4 p5 p6) fun (o34 : Int32 × St) => if o34.1 = 0 then (some (.inl (0, o34.2))) else (lt (gR o34.2 p0 5) fun (a35 : Nat) => lt (gR o34.2 a35 2) fun (a37 : Nat) => cl (f_X6_anyWithin o34.2 a37 p1 p3 p4 p5 p6) fun (v39 : Int32) => jn (κ := St → Option ((Int32 × St) ⊕ Nat)) (fun S40 => some (.inl ((-2), S40))) fun k41 => if v39 = 0 then (lt (gR o34.2 p0 2) fun (a43 : Nat) => cl (f_X3_isWhole o34.2 a43 p1) fun (o45 : Int32 × St) => if o45.1 = 0 then (k41 o45.2) else (lt (gR o45.2 p0 2) fun (a46 : Nat) => cl (f_X3_isWhole o45.2 a46 p2) fun (o48 : Int32 × St) => if o48.1 = 0 then (k41 o48.2) else (lt (gR o48.2 p0 5) fun (a49 : Nat) => lt (gR o48.2 a49 1) fun (a51 : Nat) => lt (gR o48.2 p0 2) fun (a53 : Nat) => cl (f_X3_copyFrom o48.2 a51 a53) fun (S55 : St) => some (.inl (o34.1, S55))))) else (k41 o34.2))))) fun k10 => jn (κ := Option ((Int32 × St) ⊕ Nat)) (k10 0) fun k56 => if p5 ≤ p3 then (k56) else (if 30 < p5 then (k56) else (if p6 ≤ p4 then (k56) else (if 30 < p6 then (k56) else (k10 1))))) fun k4 => if p1 = p2 then (k4 0) else (k4 1)
set_option maxHeartbeats 4000000 in
set_option maxRecDepth 100000 in
theorem c_X11_cede (S : St) (p0 : Nat) (p1 : Int32) (p2 : Int32) (p3 : Int32) (p4 : Int32) (p5 : Int32) (p6 : Int32) : CtX yX11_cede cX11_cede 8 (some .int) 7 111 (fun _ => [.ref p0, .int p1, .int p2, .int p3, .int p4, .int p5, .int p6]) [(p0, 10)] S (f_X11_cede S p0 p1 p2 p3 p4 p5 p6) oIS sS := by
  refine CtX_of RX11 rfl (by decide) (fun _ => Nat.le_of_ble_eq_true rfl) 1 (vs := fun _ => [some (.ref p0), some (.int p1), some (.int p2), some (.int p3), some (.int p4), some (.int p5), some (.int p6), none]) (fun _ => rfl) (fun C X E hr tx ht => ?_)
  have t0_ : tT C p0 10 := ht (p0, 10) (by simp)
  show Jd C 8 (QX C oIS sS S) S 0 [some (.ref p0), some (.int p1), some (.int p2), some (.int p3), some (.int p4), some (.int p5), some (.int p6), none] [] (f_X11_cede S p0 p1 p2 p3 p4 p5 p6)
  unfold f_X11_cede
  refine s_run X ok_X11_cede 0 2 (pc' := 2) (vs' := [some (.ref p0), some (.int p1), some (.int p2), some (.int p3), some (.int p4), some (.int p5), some (.int p6), none]) (st' := [.int p1, .ref p0]) rfl ?_
  refine s_callVX (b := p0) (As := [.int p1]) (rest := []) X E tx mv_X11_159 (c_X11_requireFranchisee S p0 p1) rfl (ta1 t0_) rfl (by decide) t0_ rfl rfl (Nat.le_of_ble_eq_true rfl) (Nat.le_of_ble_eq_true rfl) (Nat.le_of_ble_eq_true rfl) (dk okd_X11_cede 0 rfl) (st' := fun u1 => []) (fun _ => rfl) (fun u1 => ?_)
  refine s_run X ok_X11_cede 2 2 (pc' := 7) (vs' := [some (.ref p0), some (.int p1), some (.int p2), some (.int p3), some (.int p4), some (.int p5), some (.int p6), none]) (st' := [.int p2, .ref p0]) rfl ?_
  refine s_callVX (b := p0) (As := [.int p2]) (rest := []) X E tx mv_X11_159 (c_X11_requireFranchisee S p0 p2) rfl (ta1 t0_) rfl (by decide) t0_ rfl rfl (Nat.le_of_ble_eq_true rfl) (Nat.le_of_ble_eq_true rfl) (Nat.le_of_ble_eq_true rfl) (dk okd_X11_cede 1 rfl) (st' := fun u2 => []) (fun _ => rfl) (fun u2 => ?_)
  refine s_run X ok_X11_cede 4 2 (pc' := 12) (vs' := [some (.ref p0), some (.int p1), some (.int p2), some (.int p3), some (.int p4), some (.int p5), some (.int p6), none]) (st' := [.int p2, .int p1]) rfl ?_
  refine s_jn (κ := Int32 → Option ((Int32 × St) ⊕ Nat)) (fun k4 => ∀ (x3 : Int32), Jd C 8 (QX C oIS sS S) S 20 [some (.ref p0), some (.int p1), some (.int p2), some (.int p3), some (.int p4), some (.int p5), some (.int p6), none] [.int x3] (k4 x3)) (fun x3 => ?_) (fun k4 h5 => ?_)
  · refine s_callSX (As := [.int x3]) (rest := []) X E tx ms_X11_107 (c_X11_requireArgument S x3) rfl (ta0) rfl rfl (Nat.le_of_ble_eq_true rfl) (Nat.le_of_ble_eq_true rfl) (Nat.le_of_ble_eq_true rfl) (dk okd_X11_cede 3 rfl) (st' := fun u6 => []) (fun _ => rfl) (fun u6 => ?_)
    refine s_run X ok_X11_cede 9 2 (pc' := 26) (vs' := [some (.ref p0), some (.int p1), some (.int p2), some (.int p3), some (.int p4), some (.int p5), some (.int p6), none]) (st' := [.int p4, .int p3]) rfl ?_
    refine s_callS (As := [.int p3, .int p4]) (rest := []) X E ms_X11_149 (c_X3_contains S p3 p4) rfl (ta0) rfl rfl (Nat.le_of_ble_eq_true rfl) (Nat.le_of_ble_eq_true rfl) (Nat.le_of_ble_eq_true rfl) (dk okd_X11_cede 4 rfl) (st' := fun v7 => [.int v7]) (fun _ => rfl) (fun v7 => ?_)
    refine s_callSX (As := [.int v7]) (rest := []) X E tx ms_X11_107 (c_X11_requireArgument S v7) rfl (ta0) rfl rfl (Nat.le_of_ble_eq_true rfl) (Nat.le_of_ble_eq_true rfl) (Nat.le_of_ble_eq_true rfl) (dk okd_X11_cede 5 rfl) (st' := fun u8 => []) (fun _ => rfl) (fun u8 => ?_)
    refine s_run X ok_X11_cede 11 2 (pc' := 35) (vs' := [some (.ref p0), some (.int p1), some (.int p2), some (.int p3), some (.int p4), some (.int p5), some (.int p6), none]) (st' := [.int p3, .int p5]) rfl ?_
    refine s_jn (κ := Int32 → Option ((Int32 × St) ⊕ Nat)) (fun k10 => ∀ (x9 : Int32), Jd C 8 (QX C oIS sS S) S 64 [some (.ref p0), some (.int p1), some (.int p2), some (.int p3), some (.int p4), some (.int p5), some (.int p6), none] [.int x9] (k10 x9)) (fun x9 => ?_) (fun k10 h11 => ?_)
    · refine s_callSX (As := [.int x9]) (rest := []) X E tx ms_X11_107 (c_X11_requireArgument S x9) rfl (ta0) rfl rfl (Nat.le_of_ble_eq_true rfl) (Nat.le_of_ble_eq_true rfl) (Nat.le_of_ble_eq_true rfl) (dk okd_X11_cede 10 rfl) (st' := fun u12 => []) (fun _ => rfl) (fun u12 => ?_)
      refine s_run X ok_X11_cede 22 1 (pc' := 68) (vs' := [some (.ref p0), some (.int p1), some (.int p2), some (.int p3), some (.int p4), some (.int p5), some (.int p6), none]) (st' := [.ref p0]) rfl ?_
      refine s_getR X fl_X11_41 t0_ (dk okd_X11_cede 11 rfl) (fun a13 (t14 : tT C a13 1) => ?_)
      refine s_getR X fl_X11_85 t14 (dk okd_X11_cede 12 rfl) (fun a15 (t16 : tT C a15 2) => ?_)
      refine s_run X ok_X11_cede 23 1 (pc' := 75) (vs' := [some (.ref p0), some (.int p1), some (.int p2), some (.int p3), some (.int p4), some (.int p5), some (.int p6), none]) (st' := [.int p1, .ref a15]) rfl ?_
      refine s_callV (b := a15) (As := [.int p1]) (rest := []) X E mv_X11_180 (c_X2_isActive S a15 p1) rfl (ta1 t16) rfl (by decide) t16 rfl rfl (Nat.le_of_ble_eq_true rfl) (Nat.le_of_ble_eq_true rfl) (Nat.le_of_ble_eq_true rfl) (dk okd_X11_cede 13 rfl) (st' := fun v17 => [.int v17]) (fun _ => rfl) (fun v17 => ?_)
      refine s_jn (κ := Option ((Int32 × St) ⊕ Nat)) (fun k18 => Jd C 8 (QX C oIS sS S) S 95 [none, none, none, none, none, none, none, none] [] k18) ?_ (fun k18 h19 => ?_)
      · refine s_run X ok_X11_cede 26 1 (pc' := 97) (vs' := [none, none, none, none, none, none, none, none]) (st' := [.int (-2)]) rfl ?_
        exact s_iretX X hr (dk okd_X11_cede 19 rfl) rfl rfl
      · refine s_if_eq (tgt := 95) X (dk okd_X11_cede 14 rfl) (by decide) ?_ ?_
        · exact s_less [false, false, false, false, false, false, false, false] rfl (h19)
        · refine s_run X ok_X11_cede 24 1 (pc' := 82) (vs' := [some (.ref p0), some (.int p1), some (.int p2), some (.int p3), some (.int p4), some (.int p5), some (.int p6), none]) (st' := [.ref p0]) rfl ?_
          refine s_getR X fl_X11_41 t0_ (dk okd_X11_cede 15 rfl) (fun a20 (t21 : tT C a20 1) => ?_)
          refine s_getR X fl_X11_85 t21 (dk okd_X11_cede 16 rfl) (fun a22 (t23 : tT C a22 2) => ?_)
          refine s_run X ok_X11_cede 25 1 (pc' := 89) (vs' := [some (.ref p0), some (.int p1), some (.int p2), some (.int p3), some (.int p4), some (.int p5), some (.int p6), none]) (st' := [.int p2, .ref a22]) rfl ?_
          refine s_callV (b := a22) (As := [.int p2]) (rest := []) X E mv_X11_180 (c_X2_isActive S a22 p2) rfl (ta1 t23) rfl (by decide) t23 rfl rfl (Nat.le_of_ble_eq_true rfl) (Nat.le_of_ble_eq_true rfl) (Nat.le_of_ble_eq_true rfl) (dk okd_X11_cede 17 rfl) (st' := fun v24 => [.int v24]) (fun _ => rfl) (fun v24 => ?_)
          refine s_if_ne (tgt := 98) X (dk okd_X11_cede 18 rfl) (by decide) ?_ ?_
          · refine s_run X ok_X11_cede 27 1 (pc' := 99) (vs' := [some (.ref p0), some (.int p1), some (.int p2), some (.int p3), some (.int p4), some (.int p5), some (.int p6), none]) (st' := [.ref p0]) rfl ?_
            refine s_getR X fl_X11_26 t0_ (dk okd_X11_cede 20 rfl) (fun a25 (t26 : tT C a25 3) => ?_)
            refine s_run X ok_X11_cede 28 1 (pc' := 103) (vs' := [some (.ref p0), some (.int p1), some (.int p2), some (.int p3), some (.int p4), some (.int p5), some (.int p6), none]) (st' := [.ref p0, .ref a25]) rfl ?_
            refine s_getR X fl_X11_41 t0_ (dk okd_X11_cede 21 rfl) (fun a27 (t28 : tT C a27 1) => ?_)
            refine s_getR X fl_X11_153 t28 (dk okd_X11_cede 22 rfl) (fun a29 (t30 : tT C a29 3) => ?_)
            refine s_callV (b := a25) (As := [.ref a29]) (rest := []) X E mv_X11_183 (c_X3_copyFrom S a25 a29) rfl (ta2 t26 t30) rfl (by decide) t26 rfl rfl (Nat.le_of_ble_eq_true rfl) (Nat.le_of_ble_eq_true rfl) (Nat.le_of_ble_eq_true rfl) (dk okd_X11_cede 23 rfl) (st' := fun S31 => []) (fun _ => rfl) (fun S31 => ?_)
            refine s_run X ok_X11_cede 29 1 (pc' := 113) (vs' := [some (.ref p0), some (.int p1), some (.int p2), some (.int p3), some (.int p4), some (.int p5), some (.int p6), none]) (st' := [.ref p0]) rfl ?_
            refine s_getR X fl_X11_26 t0_ (dk okd_X11_cede 24 rfl) (fun a32 (t33 : tT C a32 3) => ?_)
            refine s_run X ok_X11_cede 30 6 (pc' := 125) (vs' := [some (.ref p0), some (.int p1), some (.int p2), some (.int p3), some (.int p4), some (.int p5), some (.int p6), none]) (st' := [.int p6, .int p5, .int p4, .int p3, .int p2, .int p1, .ref a32]) rfl ?_
            refine s_callV (b := a32) (As := [.int p1, .int p2, .int p3, .int p4, .int p5, .int p6]) (rest := []) X E mv_X11_187 (c_X3_move S31 a32 p1 p2 p3 p4 p5 p6) rfl (ta1 t33) rfl (by decide) t33 rfl rfl (Nat.le_of_ble_eq_true rfl) (Nat.le_of_ble_eq_true rfl) (Nat.le_of_ble_eq_true rfl) (dk okd_X11_cede 25 rfl) (st' := fun o34 => [.int o34.1]) (fun _ => rfl) (fun o34 => ?_)
            refine s_run X ok_X11_cede 36 2 (pc' := 132) (vs' := [some (.ref p0), some (.int p1), some (.int p2), some (.int p3), some (.int p4), some (.int p5), some (.int p6), some (.int o34.1)]) (st' := [.int o34.1]) rfl ?_
            refine s_if_ne (tgt := 137) X (dk okd_X11_cede 26 rfl) (by decide) ?_ ?_
            · refine s_run X ok_X11_cede 39 1 (pc' := 138) (vs' := [some (.ref p0), some (.int p1), some (.int p2), some (.int p3), some (.int p4), some (.int p5), some (.int p6), some (.int o34.1)]) (st' := [.ref p0]) rfl ?_
              refine s_getR X fl_X11_41 t0_ (dk okd_X11_cede 28 rfl) (fun a35 (t36 : tT C a35 1) => ?_)
              refine s_getR X fl_X11_133 t36 (dk okd_X11_cede 29 rfl) (fun a37 (t38 : tT C a37 6) => ?_)
              refine s_run X ok_X11_cede 40 5 (pc' := 152) (vs' := [some (.ref p0), some (.int p1), some (.int p2), some (.int p3), some (.int p4), some (.int p5), some (.int p6), some (.int o34.1)]) (st' := [.int p6, .int p5, .int p4, .int p3, .int p1, .ref a37]) rfl ?_
              refine s_callV (b := a37) (As := [.int p1, .int p3, .int p4, .int p5, .int p6]) (rest := []) X E mv_X11_191 (c_X6_anyWithin o34.2 a37 p1 p3 p4 p5 p6) rfl (ta1 t38) rfl (by decide) t38 rfl rfl (Nat.le_of_ble_eq_true rfl) (Nat.le_of_ble_eq_true rfl) (Nat.le_of_ble_eq_true rfl) (dk okd_X11_cede 30 rfl) (st' := fun v39 => [.int v39]) (fun _ => rfl) (fun v39 => ?_)
              refine s_jn (κ := St → Option ((Int32 × St) ⊕ Nat)) (fun k41 => ∀ (S40 : St), Jd C 8 (QX C oIS sS S) S40 180 [none, none, none, none, none, none, none, none] [] (k41 S40)) (fun S40 => ?_) (fun k41 h42 => ?_)
              · refine s_run X ok_X11_cede 49 1 (pc' := 182) (vs' := [none, none, none, none, none, none, none, none]) (st' := [.int (-2)]) rfl ?_
                exact s_iretX X hr (dk okd_X11_cede 38 rfl) rfl rfl
              · refine s_if_ne (tgt := 180) X (dk okd_X11_cede 31 rfl) (by decide) ?_ ?_
                · exact s_less [false, false, false, false, false, false, false, false] rfl (h42 o34.2)
                · refine s_run X ok_X11_cede 45 1 (pc' := 159) (vs' := [some (.ref p0), some (.int p1), some (.int p2), some (.int p3), some (.int p4), some (.int p5), some (.int p6), some (.int o34.1)]) (st' := [.ref p0]) rfl ?_
                  refine s_getR X fl_X11_26 t0_ (dk okd_X11_cede 32 rfl) (fun a43 (t44 : tT C a43 3) => ?_)
                  refine s_run X ok_X11_cede 46 1 (pc' := 163) (vs' := [some (.ref p0), some (.int p1), some (.int p2), some (.int p3), some (.int p4), some (.int p5), some (.int p6), some (.int o34.1)]) (st' := [.int p1, .ref a43]) rfl ?_
                  refine s_callV (b := a43) (As := [.int p1]) (rest := []) X E mv_X11_172 (c_X3_isWhole o34.2 a43 p1) rfl (ta1 t44) rfl (by decide) t44 rfl rfl (Nat.le_of_ble_eq_true rfl) (Nat.le_of_ble_eq_true rfl) (Nat.le_of_ble_eq_true rfl) (dk okd_X11_cede 33 rfl) (st' := fun o45 => [.int o45.1]) (fun _ => rfl) (fun o45 => ?_)
                  refine s_if_eq (tgt := 180) X (dk okd_X11_cede 34 rfl) (by decide) ?_ ?_
                  · exact s_less [false, false, false, false, false, false, false, false] rfl (h42 o45.2)
                  · refine s_run X ok_X11_cede 47 1 (pc' := 170) (vs' := [some (.ref p0), some (.int p1), some (.int p2), some (.int p3), some (.int p4), some (.int p5), some (.int p6), some (.int o34.1)]) (st' := [.ref p0]) rfl ?_
                    refine s_getR X fl_X11_26 t0_ (dk okd_X11_cede 35 rfl) (fun a46 (t47 : tT C a46 3) => ?_)
                    refine s_run X ok_X11_cede 48 1 (pc' := 174) (vs' := [some (.ref p0), some (.int p1), some (.int p2), some (.int p3), some (.int p4), some (.int p5), some (.int p6), some (.int o34.1)]) (st' := [.int p2, .ref a46]) rfl ?_
                    refine s_callV (b := a46) (As := [.int p2]) (rest := []) X E mv_X11_172 (c_X3_isWhole o45.2 a46 p2) rfl (ta1 t47) rfl (by decide) t47 rfl rfl (Nat.le_of_ble_eq_true rfl) (Nat.le_of_ble_eq_true rfl) (Nat.le_of_ble_eq_true rfl) (dk okd_X11_cede 36 rfl) (st' := fun o48 => [.int o48.1]) (fun _ => rfl) (fun o48 => ?_)
                    refine s_if_ne (tgt := 183) X (dk okd_X11_cede 37 rfl) (by decide) ?_ ?_
                    · refine s_run X ok_X11_cede 50 1 (pc' := 184) (vs' := [some (.ref p0), some (.int p1), some (.int p2), some (.int p3), some (.int p4), some (.int p5), some (.int p6), some (.int o34.1)]) (st' := [.ref p0]) rfl ?_
                      refine s_getR X fl_X11_41 t0_ (dk okd_X11_cede 39 rfl) (fun a49 (t50 : tT C a49 1) => ?_)
                      refine s_getR X fl_X11_153 t50 (dk okd_X11_cede 40 rfl) (fun a51 (t52 : tT C a51 3) => ?_)
                      refine s_run X ok_X11_cede 51 1 (pc' := 191) (vs' := [some (.ref p0), some (.int p1), some (.int p2), some (.int p3), some (.int p4), some (.int p5), some (.int p6), some (.int o34.1)]) (st' := [.ref p0, .ref a51]) rfl ?_
                      refine s_getR X fl_X11_26 t0_ (dk okd_X11_cede 41 rfl) (fun a53 (t54 : tT C a53 3) => ?_)
                      refine s_callV (b := a51) (As := [.ref a53]) (rest := []) X E mv_X11_183 (c_X3_copyFrom o48.2 a51 a53) rfl (ta2 t52 t54) rfl (by decide) t52 rfl rfl (Nat.le_of_ble_eq_true rfl) (Nat.le_of_ble_eq_true rfl) (Nat.le_of_ble_eq_true rfl) (dk okd_X11_cede 42 rfl) (st' := fun S55 => []) (fun _ => rfl) (fun S55 => ?_)
                      refine s_run X ok_X11_cede 52 1 (pc' := 199) (vs' := [some (.ref p0), some (.int p1), some (.int p2), some (.int p3), some (.int p4), some (.int p5), some (.int p6), some (.int o34.1)]) (st' := [.int o34.1]) rfl ?_
                      exact s_iretX X hr (dk okd_X11_cede 43 rfl) rfl rfl
                    · exact s_less [false, false, false, false, false, false, false, false] rfl (h42 o48.2)
            · refine s_run X ok_X11_cede 38 1 (pc' := 136) (vs' := [some (.ref p0), some (.int p1), some (.int p2), some (.int p3), some (.int p4), some (.int p5), some (.int p6), some (.int o34.1)]) (st' := [.int 0]) rfl ?_
              exact s_iretX X hr (dk okd_X11_cede 27 rfl) rfl rfl
          · exact s_less [false, false, false, false, false, false, false, false] rfl (h19)
    · refine s_jn (κ := Option ((Int32 × St) ⊕ Nat)) (fun k56 => Jd C 8 (QX C oIS sS S) S 63 [some (.ref p0), some (.int p1), some (.int p2), some (.int p3), some (.int p4), some (.int p5), some (.int p6), none] [] k56) ?_ (fun k56 h57 => ?_)
      · refine s_run X ok_X11_cede 21 1 (pc' := 64) (vs' := [some (.ref p0), some (.int p1), some (.int p2), some (.int p3), some (.int p4), some (.int p5), some (.int p6), none]) (st' := [.int 0]) rfl ?_
        exact h11 0
      · refine s_icmp_le (tgt := 63) X (dk okd_X11_cede 6 rfl) (by decide) ?_ ?_
        · exact h57
        · refine s_run X ok_X11_cede 13 2 (pc' := 42) (vs' := [some (.ref p0), some (.int p1), some (.int p2), some (.int p3), some (.int p4), some (.int p5), some (.int p6), none]) (st' := [.int 30, .int p5]) rfl ?_
          refine s_icmp_gt (tgt := 63) X (dk okd_X11_cede 7 rfl) (by decide) ?_ ?_
          · exact h57
          · refine s_run X ok_X11_cede 15 2 (pc' := 49) (vs' := [some (.ref p0), some (.int p1), some (.int p2), some (.int p3), some (.int p4), some (.int p5), some (.int p6), none]) (st' := [.int p4, .int p6]) rfl ?_
            refine s_icmp_le (tgt := 63) X (dk okd_X11_cede 8 rfl) (by decide) ?_ ?_
            · exact h57
            · refine s_run X ok_X11_cede 17 2 (pc' := 56) (vs' := [some (.ref p0), some (.int p1), some (.int p2), some (.int p3), some (.int p4), some (.int p5), some (.int p6), none]) (st' := [.int 30, .int p6]) rfl ?_
              refine s_icmp_gt (tgt := 63) X (dk okd_X11_cede 9 rfl) (by decide) ?_ ?_
              · exact h57
              · refine s_run X ok_X11_cede 19 2 (pc' := 64) (vs' := [some (.ref p0), some (.int p1), some (.int p2), some (.int p3), some (.int p4), some (.int p5), some (.int p6), none]) (st' := [.int 1]) rfl ?_
                exact h11 1
  · refine s_icmp_eq (tgt := 19) X (dk okd_X11_cede 2 rfl) (by decide) ?_ ?_
    · refine s_run X ok_X11_cede 8 1 (pc' := 20) (vs' := [some (.ref p0), some (.int p1), some (.int p2), some (.int p3), some (.int p4), some (.int p5), some (.int p6), none]) (st' := [.int 0]) rfl ?_
      exact h5 0
    · refine s_run X ok_X11_cede 6 2 (pc' := 20) (vs' := [some (.ref p0), some (.int p1), some (.int p2), some (.int p3), some (.int p4), some (.int p5), some (.int p6), none]) (st' := [.int 1]) rfl ?_
      exact h5 1
def tab_X11_outletOwner : List En := [(0, 8, 0, 0), (1, 4, 1, 0), (5, 8, 0, 0), (15, 4, 1, 0)]
theorem ok_X11_outletOwner : tab_X11_outletOwner.all (okE cX11_outletOwner) = true := by decide +kernel
def ed_X11_outletOwner : List (Nat × Instr × Nat) := [(2, .invokevirtual 195, 3), (6, .getfield 41, 3), (9, .getfield 133, 3), (12, .getfield 198, 3), (16, .iaload, 1), (17, .ireturn, 1)]
theorem okd_X11_outletOwner : ed_X11_outletOwner.all (okD cX11_outletOwner) = true := by decide +kernel
def f_X11_outletOwner (S : St) (p0 : Nat) (p1 : Int32) : Option ((Int32) ⊕ Nat) := clx (f_X11_requireOutlet S p0 p1) fun (u1 : Unit) => lt (gR S p0 5) fun (a2 : Nat) => lt (gR S a2 2) fun (a4 : Nat) => lt (gR S a4 0) fun (a6 : Nat) => ldI S a6 p1 fun (v8 : Int32) => some (.inl v8)
set_option maxHeartbeats 4000000 in
set_option maxRecDepth 100000 in
theorem c_X11_outletOwner (S : St) (p0 : Nat) (p1 : Int32) : CtX yX11_outletOwner cX11_outletOwner 2 (some .int) 7 111 (fun _ => [.ref p0, .int p1]) [(p0, 10)] S (f_X11_outletOwner S p0 p1) oI (fun _ => S) := by
  refine CtX_of RX11 rfl (by decide) (fun _ => Nat.le_of_ble_eq_true rfl) 0 (vs := fun _ => [some (.ref p0), some (.int p1)]) (fun _ => rfl) (fun C X E hr tx ht => ?_)
  have t0_ : tT C p0 10 := ht (p0, 10) (by simp)
  show Jd C 2 (QX C oI (fun _ => S) S) S 0 [some (.ref p0), some (.int p1)] [] (f_X11_outletOwner S p0 p1)
  unfold f_X11_outletOwner
  refine s_run X ok_X11_outletOwner 0 2 (pc' := 2) (vs' := [some (.ref p0), some (.int p1)]) (st' := [.int p1, .ref p0]) rfl ?_
  refine s_callVX (b := p0) (As := [.int p1]) (rest := []) X E tx mv_X11_195 (c_X11_requireOutlet S p0 p1) rfl (ta1 t0_) rfl (by decide) t0_ rfl rfl (Nat.le_of_ble_eq_true rfl) (Nat.le_of_ble_eq_true rfl) (Nat.le_of_ble_eq_true rfl) (dk okd_X11_outletOwner 0 rfl) (st' := fun u1 => []) (fun _ => rfl) (fun u1 => ?_)
  refine s_run X ok_X11_outletOwner 2 1 (pc' := 6) (vs' := [some (.ref p0), some (.int p1)]) (st' := [.ref p0]) rfl ?_
  refine s_getR X fl_X11_41 t0_ (dk okd_X11_outletOwner 1 rfl) (fun a2 (t3 : tT C a2 1) => ?_)
  refine s_getR X fl_X11_133 t3 (dk okd_X11_outletOwner 2 rfl) (fun a4 (t5 : tT C a4 6) => ?_)
  refine s_getR X fl_X11_198 t5 (dk okd_X11_outletOwner 3 rfl) (fun a6 (t7 : tT C a6 13) => ?_)
  refine s_run X ok_X11_outletOwner 3 1 (pc' := 16) (vs' := [some (.ref p0), some (.int p1)]) (st' := [.int p1, .ref a6]) rfl ?_
  refine s_iald X t7 (dk okd_X11_outletOwner 4 rfl) (fun v8 => ?_)
  exact s_iretX X hr (dk okd_X11_outletOwner 5 rfl) rfl rfl
