theorem cl_X1_99 : Cond.constantLong RX1 99 (-1) ∈ TT := TT_4 (i := 233) rfl rfl
theorem cl_X1_104 : Cond.constantLong RX1 104 10000000 ∈ TT := TT_4 (i := 234) rfl rfl
theorem cl_X1_106 : Cond.constantLong RX1 106 (-3) ∈ TT := TT_4 (i := 235) rfl rfl
theorem cl_X12_459 : Cond.constantLong RX12 459 40 ∈ TT := TT_10 (i := 175) rfl rfl
theorem fl_X1_12 : FL RX1 12 1 0 2 := ⟨RX1, TX1, 7, rfl, by decide, uw_X1, TT_2 (i := 85) rfl rfl, rfl, rfl, by decide⟩
theorem fl_X1_21 : FL RX1 21 1 1 2 := ⟨RX1, TX1, 7, rfl, by decide, uw_X1, TT_2 (i := 88) rfl rfl, rfl, rfl, by decide⟩
theorem fl_X1_28 : FL RX1 28 1 2 2 := ⟨RX1, TX1, 7, rfl, by decide, uw_X1, TT_2 (i := 91) rfl rfl, rfl, rfl, by decide⟩
theorem fl_X1_35 : FL RX1 35 1 3 2 := ⟨RX1, TX1, 7, rfl, by decide, uw_X1, TT_2 (i := 95) rfl rfl, rfl, rfl, by decide⟩
theorem fl_X1_42 : FL RX1 42 1 4 2 := ⟨RX1, TX1, 7, rfl, by decide, uw_X1, TT_2 (i := 99) rfl rfl, rfl, rfl, by decide⟩
theorem fl_X1_49 : FL RX1 49 1 5 2 := ⟨RX1, TX1, 7, rfl, by decide, uw_X1, TT_2 (i := 102) rfl rfl, rfl, rfl, by decide⟩
theorem fl_X1_65 : FL RX1 65 2 8 0 := ⟨RX2, TX2, 9, rfl, by decide, uw_X2, TT_1 (i := 238) rfl rfl, rfl, rfl, by decide⟩
theorem fl_X1_95 : FL RX1 95 6 0 2 := ⟨RX6, TX6, 5, rfl, by decide, uw_X6, TT_1 (i := 188) rfl rfl, rfl, rfl, by decide⟩
theorem fl_X1_101 : FL RX1 101 6 3 2 := ⟨RX6, TX6, 5, rfl, by decide, uw_X6, TT_1 (i := 195) rfl rfl, rfl, rfl, by decide⟩
theorem fl_X1_120 : FL RX1 120 7 5 0 := ⟨RX8, TX8, 12, rfl, by decide, uw_X8, TT_1 (i := 134) rfl rfl, rfl, rfl, by decide⟩
theorem fl_X1_127 : FL RX1 127 7 6 1 := ⟨RX8, TX8, 12, rfl, by decide, uw_X8, TT_1 (i := 137) rfl rfl, rfl, rfl, by decide⟩
theorem fl_X1_139 : FL RX1 139 7 7 0 := ⟨RX8, TX8, 12, rfl, by decide, uw_X8, TT_1 (i := 140) rfl rfl, rfl, rfl, by decide⟩
theorem fl_X1_196 : FL RX1 196 2 7 2 := ⟨RX2, TX2, 9, rfl, by decide, uw_X2, TT_1 (i := 236) rfl rfl, rfl, rfl, by decide⟩
theorem fl_X1_208 : FL RX1 208 0 6 0 := ⟨RX0, TX0, 7, rfl, by decide, uw_X0, TT_2 (i := 69) rfl rfl, rfl, rfl, by decide⟩
theorem fl_X1_215 : FL RX1 215 2 6 2 := ⟨RX2, TX2, 9, rfl, by decide, uw_X2, TT_1 (i := 233) rfl rfl, rfl, rfl, by decide⟩
theorem fl_X1_240 : FL RX1 240 7 10 0 := ⟨RX8, TX8, 12, rfl, by decide, uw_X8, TT_1 (i := 149) rfl rfl, rfl, rfl, by decide⟩
theorem fl_X1_243 : FL RX1 243 9 1 2 := ⟨RX10, TX10, 6, rfl, by decide, uw_X10, TT_2 (i := 31) rfl rfl, rfl, rfl, by decide⟩
theorem fl_X1_252 : FL RX1 252 7 11 0 := ⟨RX8, TX8, 12, rfl, by decide, uw_X8, TT_1 (i := 152) rfl rfl, rfl, rfl, by decide⟩
theorem fl_X1_259 : FL RX1 259 2 4 2 := ⟨RX2, TX2, 9, rfl, by decide, uw_X2, TT_1 (i := 227) rfl rfl, rfl, rfl, by decide⟩
theorem fl_X1_262 : FL RX1 262 9 3 2 := ⟨RX10, TX10, 6, rfl, by decide, uw_X10, TT_2 (i := 35) rfl rfl, rfl, rfl, by decide⟩
theorem fl_X12_37 : FL RX12 37 11 17 2 := ⟨RX12, TX12, 22, rfl, by decide, uw_X12, TT_8 (i := 2) rfl rfl, rfl, rfl, by decide⟩
theorem fp_X0_36 : FP RX0 36 0 6 0 := ⟨RX0, TX0, 7, tyX0, tyX0 6, rfl, by decide, uw_X0, TT_2 (i := 67) rfl rfl, rfl, rfl, by decide, tyX0_ok, nmX0, rfl, tyX0_ok 6 (by decide), fun h => rfl, fun h => absurd h (by decide), fun h => absurd h (by decide)⟩
theorem mn_X1_123 : MN RX1 123 yX11_rateOf cX11_rateOf 4 (some .long) 2 := ⟨⟨"FranchiseLedger", List.mem_filter.mpr ⟨lw_5 (List.mem_of_getElem? (i := 53) rfl), rfl⟩⟩, TT_5 (i := 40) rfl rfl, TT_1 (i := 1) rfl rfl, TT_5 (i := 41) rfl rfl, ⟨by decide, by decide, by decide +kernel⟩⟩
theorem ms_X0_30 : MS RX0 30 yJ7_fill_d0a16 cJ7_fill_d0a16 5 none 2 := ⟨TT_2 (i := 146) rfl rfl, TT_2 (i := 147) rfl rfl, TT_1 (i := 11) rfl rfl, TT_2 (i := 148) rfl rfl, ⟨by decide, by decide, by decide +kernel⟩⟩
theorem ms_X1_131 : MS RX1 131 yJ9_min_f86c9 cJ9_min_f86c9 4 (some .long) 2 := ⟨TT_5 (i := 66) rfl rfl, TT_5 (i := 37) rfl rfl, TT_1 (i := 20) rfl rfl, TT_5 (i := 38) rfl rfl, ⟨by decide, by decide, by decide +kernel⟩⟩
theorem ms_X1_246 : MS RX1 246 yJ9_max_7cf53 cJ9_max_7cf53 2 (some .int) 2 := ⟨TT_5 (i := 87) rfl rfl, TT_4 (i := 118) rfl rfl, TT_1 (i := 20) rfl rfl, TT_4 (i := 119) rfl rfl, ⟨by decide, by decide, by decide +kernel⟩⟩
theorem ms_X2_56 : MS RX2 56 yJ9_max_f86c9 cJ9_max_f86c9 4 (some .long) 2 := ⟨TT_4 (i := 70) rfl rfl, TT_4 (i := 71) rfl rfl, TT_1 (i := 20) rfl rfl, TT_4 (i := 72) rfl rfl, ⟨by decide, by decide, by decide +kernel⟩⟩
theorem ms_X3_21 : MS RX3 21 yJ9_abs_0f7a4 cJ9_abs_0f7a4 1 (some .int) 1 := ⟨TT_3 (i := 175) rfl rfl, TT_3 (i := 176) rfl rfl, TT_1 (i := 20) rfl rfl, TT_3 (i := 177) rfl rfl, ⟨by decide, by decide, by decide +kernel⟩⟩
theorem ms_X3_27 : MS RX3 27 yJ7_fill_53178 cJ7_fill_53178 4 none 2 := ⟨TT_2 (i := 134) rfl rfl, TT_2 (i := 135) rfl rfl, TT_1 (i := 11) rfl rfl, TT_2 (i := 136) rfl rfl, ⟨by decide, by decide, by decide +kernel⟩⟩
theorem ms_X3_65 : MS RX3 65 yX3_steps cX3_steps 4 (some .int) 4 := ⟨TT_5 (i := 228) rfl rfl, TT_3 (i := 173) rfl rfl, TT_1 (i := 4) rfl rfl, TT_3 (i := 174) rfl rfl, ⟨by decide, by decide, by decide +kernel⟩⟩
theorem ms_X3_69 : MS RX3 69 yJ9_min_7cf53 cJ9_min_7cf53 2 (some .int) 2 := ⟨TT_5 (i := 229) rfl rfl, TT_3 (i := 179) rfl rfl, TT_1 (i := 20) rfl rfl, TT_3 (i := 180) rfl rfl, ⟨by decide, by decide, by decide +kernel⟩⟩
theorem mv_X0_62 : MV RX0 62 yX0_salesOfAllMonths cX0_salesOfAllMonths 5 (some .long) 1 := ⟨TT_4 (i := 47) rfl rfl, TT_4 (i := 49) rfl rfl, TT_s (i := 8) (by decide +kernel) (by decide +kernel), TT_1 (i := 10) rfl rfl, TT_4 (i := 50) rfl rfl, ⟨by decide, by decide, by decide +kernel⟩⟩
theorem mv_X1_84 : MV RX1 84 yX3_ownerAt cX3_ownerAt 3 (some .int) 2 := ⟨TT_3 (i := 167) rfl rfl, TT_3 (i := 145) rfl rfl, TT_3 (i := 146) rfl rfl, TT_1 (i := 4) rfl rfl, TT_3 (i := 147) rfl rfl, ⟨by decide, by decide, by decide +kernel⟩⟩
theorem mv_X1_108 : MV RX1 108 yX2_isActive cX2_isActive 2 (some .boolean) 1 := ⟨TT_4 (i := 236) rfl rfl, TT_4 (i := 237) rfl rfl, TT_4 (i := 238) rfl rfl, TT_1 (i := 8) rfl rfl, TT_4 (i := 239) rfl rfl, ⟨by decide, by decide, by decide +kernel⟩⟩
theorem mv_X1_112 : MV RX1 112 yX0_addDelivered cX0_addDelivered 5 none 3 := ⟨TT_5 (i := 4) rfl rfl, TT_5 (i := 5) rfl rfl, TT_5 (i := 6) rfl rfl, TT_1 (i := 10) rfl rfl, TT_5 (i := 7) rfl rfl, ⟨by decide, by decide, by decide +kernel⟩⟩
theorem mv_X1_116 : MV RX1 116 yX0_delivered cX0_delivered 3 (some .long) 2 := ⟨TT_5 (i := 62) rfl rfl, TT_5 (i := 63) rfl rfl, TT_5 (i := 64) rfl rfl, TT_1 (i := 10) rfl rfl, TT_5 (i := 65) rfl rfl, ⟨by decide, by decide, by decide +kernel⟩⟩
theorem mv_X1_136 : MV RX1 136 yX1_creditBetween cX1_creditBetween 3 (some .long) 2 := ⟨TT_5 (i := 58) rfl rfl, TT_5 (i := 59) rfl rfl, TT_5 (i := 60) rfl rfl, TT_1 (i := 5) rfl rfl, TT_5 (i := 61) rfl rfl, ⟨by decide, by decide, by decide +kernel⟩⟩
theorem mv_X1_162 : MV RX1 162 yX1_interestOn cX1_interestOn 3 (some .long) 1 := ⟨TT_5 (i := 49) rfl rfl, TT_5 (i := 51) rfl rfl, TT_s (i := 12) (by decide +kernel) (by decide +kernel), TT_1 (i := 5) rfl rfl, TT_5 (i := 52) rfl rfl, ⟨by decide, by decide, by decide +kernel⟩⟩
theorem mv_X1_224 : MV RX1 224 yX1_monthsOfDelayLeft cX1_monthsOfDelayLeft 2 (some .int) 1 := ⟨TT_5 (i := 83) rfl rfl, TT_5 (i := 84) rfl rfl, TT_5 (i := 85) rfl rfl, TT_1 (i := 5) rfl rfl, TT_5 (i := 86) rfl rfl, ⟨by decide, by decide, by decide +kernel⟩⟩
theorem mv_X1_249 : MV RX1 249 yX10_isOpen cX10_isOpen 2 (some .boolean) 1 := ⟨TT_7 (i := 110) rfl rfl, TT_7 (i := 40) rfl rfl, TT_7 (i := 41) rfl rfl, TT_1 (i := 9) rfl rfl, TT_7 (i := 42) rfl rfl, ⟨by decide, by decide, by decide +kernel⟩⟩
theorem mv_X1_255 : MV RX1 255 yX10_endOpen cX10_endOpen 3 (some .boolean) 2 := ⟨TT_7 (i := 35) rfl rfl, TT_7 (i := 36) rfl rfl, TT_7 (i := 37) rfl rfl, TT_1 (i := 9) rfl rfl, TT_7 (i := 38) rfl rfl, ⟨by decide, by decide, by decide +kernel⟩⟩
theorem mv_X1_265 : MV RX1 265 yX2_lowerBalance cX2_lowerBalance 4 (some .long) 2 := ⟨TT_5 (i := 128) rfl rfl, TT_5 (i := 129) rfl rfl, TT_5 (i := 130) rfl rfl, TT_1 (i := 8) rfl rfl, TT_5 (i := 131) rfl rfl, ⟨by decide, by decide, by decide +kernel⟩⟩
theorem mv_X1_268 : MV RX1 268 yX6_closeAllOf cX6_closeAllOf 3 none 1 := ⟨TT_7 (i := 30) rfl rfl, TT_7 (i := 31) rfl rfl, TT_7 (i := 32) rfl rfl, TT_1 (i := 7) rfl rfl, TT_7 (i := 33) rfl rfl, ⟨by decide, by decide, by decide +kernel⟩⟩
theorem mv_X1_271 : MV RX1 271 yX3_move cX3_move 10 (some .int) 6 := ⟨TT_7 (i := 34) rfl rfl, TT_3 (i := 152) rfl rfl, TT_3 (i := 153) rfl rfl, TT_1 (i := 4) rfl rfl, TT_3 (i := 154) rfl rfl, ⟨by decide, by decide, by decide +kernel⟩⟩
theorem mv_X1_275 : MV RX1 275 yX0_spendGrant cX0_spendGrant 4 (some .boolean) 2 := ⟨TT_5 (i := 119) rfl rfl, TT_5 (i := 120) rfl rfl, TT_5 (i := 121) rfl rfl, TT_1 (i := 10) rfl rfl, TT_5 (i := 122) rfl rfl, ⟨by decide, by decide, by decide +kernel⟩⟩
theorem mv_X12_428 : MV RX12 428 yX12_entry cX12_entry 2 (some .int) 1 := ⟨TT_10 (i := 180) rfl rfl, TT_10 (i := 182) rfl rfl, TT_s (i := 102) (by decide +kernel) (by decide +kernel), TT_1 (i := 13) rfl rfl, TT_10 (i := 183) rfl rfl, ⟨by decide, by decide, by decide +kernel⟩⟩
theorem mv_X12_431 : MV RX12 431 yX12_cents cX12_cents 2 (some .long) 1 := ⟨TT_10 (i := 184) rfl rfl, TT_10 (i := 186) rfl rfl, TT_s (i := 103) (by decide +kernel) (by decide +kernel), TT_1 (i := 13) rfl rfl, TT_10 (i := 187) rfl rfl, ⟨by decide, by decide, by decide +kernel⟩⟩
theorem mv_X12_434 : MV RX12 434 yX12_reportSales cX12_reportSales 6 (some .long) 2 := ⟨TT_10 (i := 188) rfl rfl, TT_9 (i := 45) rfl rfl, TT_9 (i := 46) rfl rfl, TT_1 (i := 13) rfl rfl, TT_9 (i := 47) rfl rfl, ⟨by decide, by decide, by decide +kernel⟩⟩
theorem mv_X12_437 : MV RX12 437 yX12_deliver cX12_deliver 8 (some .long) 4 := ⟨TT_10 (i := 189) rfl rfl, TT_9 (i := 55) rfl rfl, TT_9 (i := 56) rfl rfl, TT_1 (i := 13) rfl rfl, TT_9 (i := 57) rfl rfl, ⟨by decide, by decide, by decide +kernel⟩⟩
theorem mv_X12_441 : MV RX12 441 yX12_pay cX12_pay 4 (some .long) 2 := ⟨TT_10 (i := 190) rfl rfl, TT_9 (i := 136) rfl rfl, TT_9 (i := 137) rfl rfl, TT_1 (i := 13) rfl rfl, TT_9 (i := 138) rfl rfl, ⟨by decide, by decide, by decide +kernel⟩⟩
theorem mv_X12_444 : MV RX12 444 yX12_grant cX12_grant 4 (some .boolean) 2 := ⟨TT_10 (i := 191) rfl rfl, TT_9 (i := 185) rfl rfl, TT_9 (i := 186) rfl rfl, TT_1 (i := 13) rfl rfl, TT_9 (i := 187) rfl rfl, ⟨by decide, by decide, by decide +kernel⟩⟩
theorem mv_X12_448 : MV RX12 448 yX12_campaign cX12_campaign 3 (some .boolean) 1 := ⟨TT_10 (i := 192) rfl rfl, TT_9 (i := 181) rfl rfl, TT_9 (i := 182) rfl rfl, TT_1 (i := 13) rfl rfl, TT_9 (i := 183) rfl rfl, ⟨by decide, by decide, by decide +kernel⟩⟩
theorem mv_X12_452 : MV RX12 452 yX12_vote cX12_vote 4 (some .int) 3 := ⟨TT_10 (i := 193) rfl rfl, TT_9 (i := 210) rfl rfl, TT_9 (i := 211) rfl rfl, TT_1 (i := 13) rfl rfl, TT_9 (i := 212) rfl rfl, ⟨by decide, by decide, by decide +kernel⟩⟩
theorem mv_X12_456 : MV RX12 456 yX12_closeMonth cX12_closeMonth 8 (some .int) 0 := ⟨TT_10 (i := 194) rfl rfl, TT_9 (i := 92) rfl rfl, TT_9 (i := 93) rfl rfl, TT_1 (i := 13) rfl rfl, TT_9 (i := 94) rfl rfl, ⟨by decide, by decide, by decide +kernel⟩⟩
theorem mv_X12_461 : MV RX12 461 yX12_execute cX12_execute 2 (some .boolean) 0 := ⟨TT_10 (i := 176) rfl rfl, TT_10 (i := 178) rfl rfl, TT_s (i := 101) (by decide +kernel) (by decide +kernel), TT_1 (i := 13) rfl rfl, TT_10 (i := 179) rfl rfl, ⟨by decide, by decide, by decide +kernel⟩⟩
theorem mv_X2_52 : MV RX2 52 yX2_hasLetters cX2_hasLetters 6 (some .boolean) 3 := ⟨TT_3 (i := 125) rfl rfl, TT_3 (i := 127) rfl rfl, TT_s (i := 2) (by decide +kernel) (by decide +kernel), TT_1 (i := 8) rfl rfl, TT_3 (i := 128) rfl rfl, ⟨by decide, by decide, by decide +kernel⟩⟩
theorem mv_X2_62 : MV RX2 62 yX2_owedBy cX2_owedBy 2 (some .long) 1 := ⟨TT_4 (i := 66) rfl rfl, TT_4 (i := 67) rfl rfl, TT_4 (i := 68) rfl rfl, TT_1 (i := 8) rfl rfl, TT_4 (i := 69) rfl rfl, ⟨by decide, by decide, by decide +kernel⟩⟩
theorem mv_X3_51 : MV RX3 51 yX3_neighboursOf cX3_neighboursOf 5 (some .int) 2 := ⟨TT_5 (i := 186) rfl rfl, TT_5 (i := 188) rfl rfl, TT_s (i := 19) (by decide +kernel) (by decide +kernel), TT_1 (i := 4) rfl rfl, TT_5 (i := 189) rfl rfl, ⟨by decide, by decide, by decide +kernel⟩⟩
theorem mv_X3_54 : MV RX3 54 yX3_sizeOf cX3_sizeOf 4 (some .int) 1 := ⟨TT_5 (i := 212) rfl rfl, TT_5 (i := 172) rfl rfl, TT_5 (i := 173) rfl rfl, TT_1 (i := 4) rfl rfl, TT_5 (i := 174) rfl rfl, ⟨by decide, by decide, by decide +kernel⟩⟩
theorem mv_X3_61 : MV RX3 61 yX3_reach cX3_reach 5 none 3 := ⟨TT_5 (i := 213) rfl rfl, TT_5 (i := 215) rfl rfl, TT_s (i := 20) (by decide +kernel) (by decide +kernel), TT_1 (i := 4) rfl rfl, TT_5 (i := 216) rfl rfl, ⟨by decide, by decide, by decide +kernel⟩⟩
theorem mv_X3_72 : MV RX3 72 yX3_sizeWithin cX3_sizeWithin 9 (some .int) 5 := ⟨TT_6 (i := 81) rfl rfl, TT_6 (i := 83) rfl rfl, TT_s (i := 22) (by decide +kernel) (by decide +kernel), TT_1 (i := 4) rfl rfl, TT_6 (i := 84) rfl rfl, ⟨by decide, by decide, by decide +kernel⟩⟩
def tab_X12_readWho : List En := [(0, 8, 0, 0), (4, 4, 1, 0), (5, 8, 0, 0), (6, 0, 0, 0), (11, 8, 0, 0), (15, 4, 1, 0), (17, 0, 0, (-1)), (21, 0, 0, 1), (22, 41, 26, 0), (25, 0, 0, 0)]
theorem ok_X12_readWho : tab_X12_readWho.all (okE cX12_readWho) = true := by decide +kernel
def ed_X12_readWho : List (Nat × Instr × Nat) := [(1, .getfield 41, 3), (7, .invokevirtual 374, 3), (10, .iastore, 1), (12, .getfield 41, 3), (16, .iaload, 1), (18, .if_icmp .eq 7, 3), (26, .ireturn, 1)]
theorem okd_X12_readWho : ed_X12_readWho.all (okD cX12_readWho) = true := by decide +kernel
def f_X12_readWho (S : St) (p0 : Nat) (p1 : Int32) : Option (Int32 × St) := lt (gR S p0 18) fun (a1 : Nat) => cl (f_X12_readName S p0 0) fun (o3 : Int32 × St) => stI o3.2 a1 p1 o3.1 fun (S4 : St) => lt (gR S4 p0 18) fun (a5 : Nat) => ldI S4 a5 p1 fun (v7 : Int32) => if v7 = (-1) then (some (0, S4)) else (some (1, S4))
set_option maxHeartbeats 4000000 in
set_option maxRecDepth 100000 in
theorem c_X12_readWho (S : St) (p0 : Nat) (p1 : Int32) : Ct yX12_readWho cX12_readWho 2 (some .boolean) 4 89 [.ref p0, .int p1] [(p0, 11)] S (f_X12_readWho S p0 p1) oIS sS := by
  refine Ct_of RX12 rfl (by decide) (Nat.le_of_ble_eq_true rfl) 0 (vs := [some (.ref p0), some (.int p1)]) rfl (fun C X E hr ht => ?_)
  have t0_ : tT C p0 11 := ht (p0, 11) (by simp)
  unfold f_X12_readWho
  refine s_run X ok_X12_readWho 0 1 (pc' := 1) (vs' := [some (.ref p0), some (.int p1)]) (st' := [.ref p0]) rfl ?_
  refine s_getR X fl_X12_41 t0_ (dk okd_X12_readWho 0 rfl) (fun a1 (t2 : tT C a1 13) => ?_)
  refine s_run X ok_X12_readWho 1 3 (pc' := 7) (vs' := [some (.ref p0), some (.int p1)]) (st' := [.int 0, .ref p0, .int p1, .ref a1]) rfl ?_
  refine s_callV (rest := [.int p1, .ref a1]) X E mv_X12_374 (c_X12_readName S p0 0) (ta1 t0_) rfl (by decide) t0_ rfl rfl (Nat.le_of_ble_eq_true rfl) (Nat.le_of_ble_eq_true rfl) (Nat.le_of_ble_eq_true rfl) (dk okd_X12_readWho 1 rfl) (st' := fun o3 => [.int o3.1, .int p1, .ref a1]) (fun _ => rfl) (fun o3 => ?_)
  refine s_iast X t2 (dk okd_X12_readWho 2 rfl) (fun S4 => ?_)
  refine s_run X ok_X12_readWho 4 1 (pc' := 12) (vs' := [some (.ref p0), some (.int p1)]) (st' := [.ref p0]) rfl ?_
  refine s_getR X fl_X12_41 t0_ (dk okd_X12_readWho 3 rfl) (fun a5 (t6 : tT C a5 13) => ?_)
  refine s_run X ok_X12_readWho 5 1 (pc' := 16) (vs' := [some (.ref p0), some (.int p1)]) (st' := [.int p1, .ref a5]) rfl ?_
  refine s_iald X t6 (dk okd_X12_readWho 4 rfl) (fun v7 => ?_)
  refine s_run X ok_X12_readWho 6 1 (pc' := 18) (vs' := [some (.ref p0), some (.int p1)]) (st' := [.int (-1), .int v7]) rfl ?_
  refine s_icmp_eq (tgt := 25) X (dk okd_X12_readWho 5 rfl) (by decide) ?_ ?_
  · refine s_run X ok_X12_readWho 9 1 (pc' := 26) (vs' := [some (.ref p0), some (.int p1)]) (st' := [.int 0]) rfl ?_
    exact s_zret0 X hr (dk okd_X12_readWho 6 rfl) (by decide) rfl rfl
  · refine s_run X ok_X12_readWho 7 2 (pc' := 26) (vs' := [some (.ref p0), some (.int p1)]) (st' := [.int 1]) rfl ?_
    exact s_zret0 X hr (dk okd_X12_readWho 6 rfl) (by decide) rfl rfl
def tab_X12_readVote : List En := [(0, 8, 0, 0), (4, 0, 0, 1), (8, 8, 0, 0), (12, 1, 0, 121), (14, 1, 0, 101), (16, 1, 0, 115), (18, 0, 0, 0), (19, 0, 0, 0), (23, 40, 0, 0), (27, 0, 0, 1), (28, 41, 32, 0), (31, 0, 0, 0), (32, 10, 2, 0), (33, 4, 2, 0), (37, 8, 0, 0), (41, 0, 0, 1), (45, 8, 0, 0), (49, 1, 0, 110), (51, 1, 0, 111), (53, 0, 0, 0), (54, 0, 0, 0), (55, 0, 0, 0), (59, 40, 0, 0), (63, 8, 0, 0), (64, 0, 0, 1), (69, 8, 0, 0), (73, 4, 1, 0), (74, 4, 2, 0), (78, 0, 0, 1), (79, 41, 83, 0), (82, 0, 0, 0), (84, 8, 0, 0), (88, 0, 0, 1)]
theorem ok_X12_readVote : tab_X12_readVote.all (okE cX12_readVote) = true := by decide +kernel
def ed_X12_readVote : List (Nat × Instr × Nat) := [(1, .getfield 332, 3), (5, .if_icmp .ne 26, 3), (9, .getfield 322, 3), (20, .invokestatic 278, 3), (24, .ifCond .ne 7, 3), (34, .ifCond .ne 35, 3), (38, .getfield 332, 3), (42, .if_icmp .ne 21, 3), (46, .getfield 322, 3), (56, .invokestatic 278, 3), (60, .ifCond .eq 9, 3), (65, .invokevirtual 339, 3), (68, .ireturn, 1), (70, .getfield 41, 3), (75, .ifCond .eq 7, 3), (83, .iastore, 1), (85, .invokevirtual 345, 3), (89, .ireturn, 1)]
theorem okd_X12_readVote : ed_X12_readVote.all (okD cX12_readVote) = true := by decide +kernel
def f_X12_readVote (S : St) (p0 : Nat) (p1 : Int32) : Option (Int32 × St) := lt (gI S p0 13) fun (v1 : Int32) => jn (κ := Int32 → Option (Int32 × St)) (fun x2 => jn (κ := Option (Int32 × St)) (lt (gR S p0 18) fun (a7 : Nat) => jn (κ := Int32 → Option (Int32 × St)) (fun x9 => stI S a7 p1 x9 fun (S12 : St) => cl (f_X12_advance S12 p0) fun (S13 : St) => some (1, S13)) fun k10 => if x2 = 0 then (k10 0) else (k10 1)) fun k5 => if x2 = 0 then (lt (gI S p0 13) fun (v14 : Int32) => jn (κ := Option (Int32 × St)) (cl (f_X12_fail S p0 1) fun (o17 : Int32 × St) => zc o17.1 (some (o17.1, o17.2))) fun k15 => if v14 = 1 then (lt (gJ S p0 16) fun (v18 : Int64) => cl (f_X12_pack S 110 111 0 0 0) fun (v19 : Int64) => if v18 = v19 then (k5) else (k15)) else (k15)) else (k5)) fun k3 => jn (κ := Option (Int32 × St)) (k3 0) fun k20 => if v1 = 1 then (lt (gJ S p0 16) fun (v22 : Int64) => cl (f_X12_pack S 121 101 115 0 0) fun (v23 : Int64) => if v22 = v23 then (k3 1) else (k20)) else (k20)
set_option maxHeartbeats 4000000 in
set_option maxRecDepth 100000 in
theorem c_X12_readVote (S : St) (p0 : Nat) (p1 : Int32) : Ct yX12_readVote cX12_readVote 3 (some .boolean) 3 66 [.ref p0, .int p1] [(p0, 11)] S (f_X12_readVote S p0 p1) oIS sS := by
  refine Ct_of RX12 rfl (by decide) (Nat.le_of_ble_eq_true rfl) 1 (vs := [some (.ref p0), some (.int p1), none]) rfl (fun C X E hr ht => ?_)
  have t0_ : tT C p0 11 := ht (p0, 11) (by simp)
  unfold f_X12_readVote
  refine s_run X ok_X12_readVote 0 1 (pc' := 1) (vs' := [some (.ref p0), some (.int p1), none]) (st' := [.ref p0]) rfl ?_
  refine s_getI X fl_X12_332 t0_ (dk okd_X12_readVote 0 rfl) (fun v1 => ?_)
  refine s_run X ok_X12_readVote 1 1 (pc' := 5) (vs' := [some (.ref p0), some (.int p1), none]) (st' := [.int 1, .int v1]) rfl ?_
  refine s_jn (κ := Int32 → Option (Int32 × St)) (fun k3 => ∀ (x2 : Int32), Jd C 3 (QJ C oIS sS) S 32 [some (.ref p0), some (.int p1), none] [.int x2] (k3 x2)) (fun x2 => ?_) (fun k3 h4 => ?_)
  · refine s_run X ok_X12_readVote 12 2 (pc' := 34) (vs' := [some (.ref p0), some (.int p1), some (.int x2)]) (st' := [.int x2]) rfl ?_
    refine s_jn (κ := Option (Int32 × St)) (fun k5 => Jd C 3 (QJ C oIS sS) S 69 [some (.ref p0), some (.int p1), some (.int x2)] [] k5) ?_ (fun k5 h6 => ?_)
    · refine s_run X ok_X12_readVote 25 1 (pc' := 70) (vs' := [some (.ref p0), some (.int p1), some (.int x2)]) (st' := [.ref p0]) rfl ?_
      refine s_getR X fl_X12_41 t0_ (dk okd_X12_readVote 13 rfl) (fun a7 (t8 : tT C a7 13) => ?_)
      refine s_run X ok_X12_readVote 26 2 (pc' := 75) (vs' := [some (.ref p0), some (.int p1), some (.int x2)]) (st' := [.int x2, .int p1, .ref a7]) rfl ?_
      refine s_jn (κ := Int32 → Option (Int32 × St)) (fun k10 => ∀ (x9 : Int32), Jd C 3 (QJ C oIS sS) S 83 [some (.ref p0), none, none] [.int x9, .int p1, .ref a7] (k10 x9)) (fun x9 => ?_) (fun k10 h11 => ?_)
      · refine s_iast X t8 (dk okd_X12_readVote 15 rfl) (fun S12 => ?_)
        refine s_run X ok_X12_readVote 31 1 (pc' := 85) (vs' := [some (.ref p0), none, none]) (st' := [.ref p0]) rfl ?_
        refine s_callV (rest := []) X E mv_X12_345 (c_X12_advance S12 p0) (ta1 t0_) rfl (by decide) t0_ rfl rfl (Nat.le_of_ble_eq_true rfl) (Nat.le_of_ble_eq_true rfl) (Nat.le_of_ble_eq_true rfl) (dk okd_X12_readVote 16 rfl) (st' := fun S13 => []) (fun _ => rfl) (fun S13 => ?_)
        refine s_run X ok_X12_readVote 32 1 (pc' := 89) (vs' := [some (.ref p0), none, none]) (st' := [.int 1]) rfl ?_
        exact s_zret0 X hr (dk okd_X12_readVote 17 rfl) (by decide) rfl rfl
      · refine s_if_eq (tgt := 82) X (dk okd_X12_readVote 14 rfl) (by decide) ?_ ?_
        · refine s_run X ok_X12_readVote 30 1 (pc' := 83) (vs' := [some (.ref p0), some (.int p1), some (.int x2)]) (st' := [.int 0, .int p1, .ref a7]) rfl ?_
          exact s_less [true, false, false] rfl (h11 0)
        · refine s_run X ok_X12_readVote 28 2 (pc' := 83) (vs' := [some (.ref p0), some (.int p1), some (.int x2)]) (st' := [.int 1, .int p1, .ref a7]) rfl ?_
          exact s_less [true, false, false] rfl (h11 1)
    · refine s_if_ne (tgt := 69) X (dk okd_X12_readVote 5 rfl) (by decide) ?_ ?_
      · exact h6
      · refine s_run X ok_X12_readVote 14 1 (pc' := 38) (vs' := [some (.ref p0), some (.int p1), some (.int x2)]) (st' := [.ref p0]) rfl ?_
        refine s_getI X fl_X12_332 t0_ (dk okd_X12_readVote 6 rfl) (fun v14 => ?_)
        refine s_run X ok_X12_readVote 15 1 (pc' := 42) (vs' := [some (.ref p0), some (.int p1), some (.int x2)]) (st' := [.int 1, .int v14]) rfl ?_
        refine s_jn (κ := Option (Int32 × St)) (fun k15 => Jd C 3 (QJ C oIS sS) S 63 [some (.ref p0), none, none] [] k15) ?_ (fun k15 h16 => ?_)
        · refine s_run X ok_X12_readVote 23 2 (pc' := 65) (vs' := [some (.ref p0), none, none]) (st' := [.int 1, .ref p0]) rfl ?_
          refine s_callV (rest := []) X E mv_X12_339 (c_X12_fail S p0 1) (ta1 t0_) rfl (by decide) t0_ rfl rfl (Nat.le_of_ble_eq_true rfl) (Nat.le_of_ble_eq_true rfl) (Nat.le_of_ble_eq_true rfl) (dk okd_X12_readVote 11 rfl) (st' := fun o17 => [.int o17.1]) (fun _ => rfl) (fun o17 => ?_)
          exact s_zret X hr (dk okd_X12_readVote 12 rfl) rfl rfl
        · refine s_icmp_ne (tgt := 63) X (dk okd_X12_readVote 7 rfl) (by decide) ?_ ?_
          · exact s_less [true, false, false] rfl (h16)
          · refine s_run X ok_X12_readVote 16 1 (pc' := 46) (vs' := [some (.ref p0), some (.int p1), some (.int x2)]) (st' := [.ref p0]) rfl ?_
            refine s_getJ X fl_X12_322 t0_ (dk okd_X12_readVote 8 rfl) (fun v18 => ?_)
            refine s_run X ok_X12_readVote 17 5 (pc' := 56) (vs' := [some (.ref p0), some (.int p1), some (.int x2)]) (st' := [.int 0, .int 0, .int 0, .int 111, .int 110, .long v18]) rfl ?_
            refine s_callS (rest := [.long v18]) X E ms_X12_278 (c_X12_pack S 110 111 0 0 0) (ta0) rfl rfl (Nat.le_of_ble_eq_true rfl) (Nat.le_of_ble_eq_true rfl) (Nat.le_of_ble_eq_true rfl) (dk okd_X12_readVote 9 rfl) (st' := fun v19 => [.long v19, .long v18]) (fun _ => rfl) (fun v19 => ?_)
            refine s_run X ok_X12_readVote 22 1 (pc' := 60) (vs' := [some (.ref p0), some (.int p1), some (.int x2)]) (st' := [.int (lg_cmp v18 v19)]) rfl ?_
            refine s_lif_eq (tgt := 69) X (dk okd_X12_readVote 10 rfl) (by decide) ?_ ?_
            · exact h6
            · exact s_less [true, false, false] rfl (h16)
  · refine s_jn (κ := Option (Int32 × St)) (fun k20 => Jd C 3 (QJ C oIS sS) S 31 [some (.ref p0), some (.int p1), none] [] k20) ?_ (fun k20 h21 => ?_)
    · refine s_run X ok_X12_readVote 11 1 (pc' := 32) (vs' := [some (.ref p0), some (.int p1), none]) (st' := [.int 0]) rfl ?_
      exact h4 0
    · refine s_icmp_ne (tgt := 31) X (dk okd_X12_readVote 1 rfl) (by decide) ?_ ?_
      · exact h21
      · refine s_run X ok_X12_readVote 2 1 (pc' := 9) (vs' := [some (.ref p0), some (.int p1), none]) (st' := [.ref p0]) rfl ?_
        refine s_getJ X fl_X12_322 t0_ (dk okd_X12_readVote 2 rfl) (fun v22 => ?_)
        refine s_run X ok_X12_readVote 3 5 (pc' := 20) (vs' := [some (.ref p0), some (.int p1), none]) (st' := [.int 0, .int 0, .int 115, .int 101, .int 121, .long v22]) rfl ?_
        refine s_callS (rest := [.long v22]) X E ms_X12_278 (c_X12_pack S 121 101 115 0 0) (ta0) rfl rfl (Nat.le_of_ble_eq_true rfl) (Nat.le_of_ble_eq_true rfl) (Nat.le_of_ble_eq_true rfl) (dk okd_X12_readVote 3 rfl) (st' := fun v23 => [.long v23, .long v22]) (fun _ => rfl) (fun v23 => ?_)
        refine s_run X ok_X12_readVote 8 1 (pc' := 24) (vs' := [some (.ref p0), some (.int p1), none]) (st' := [.int (lg_cmp v22 v23)]) rfl ?_
        refine s_lif_ne (tgt := 31) X (dk okd_X12_readVote 4 rfl) (by decide) ?_ ?_
        · exact h21
        · refine s_run X ok_X12_readVote 9 2 (pc' := 32) (vs' := [some (.ref p0), some (.int p1), none]) (st' := [.int 1]) rfl ?_
          exact h4 1
def tab_X12_entry : List En := [(0, 8, 0, 0), (4, 0, 0, 5), (5, 8, 0, 0), (9, 19, 0, 0), (10, 4, 1, 0), (11, 17, 0, 0)]
theorem ok_X12_entry : tab_X12_entry.all (okE cX12_entry) = true := by decide +kernel
def ed_X12_entry : List (Nat × Instr × Nat) := [(1, .getfield 37, 3), (6, .getfield 78, 3), (12, .iaload, 1), (13, .ireturn, 1)]
theorem okd_X12_entry : ed_X12_entry.all (okD cX12_entry) = true := by decide +kernel
def f_X12_entry (S : St) (p0 : Nat) (p1 : Int32) : Option (Int32) := lt (gR S p0 17) fun (a1 : Nat) => lt (gI S p0 20) fun (v3 : Int32) => ldI S a1 ((5 * v3) + p1) fun (v4 : Int32) => some v4
set_option maxHeartbeats 4000000 in
set_option maxRecDepth 100000 in
theorem c_X12_entry (S : St) (p0 : Nat) (p1 : Int32) : Ct yX12_entry cX12_entry 2 (some .int) 0 0 [.ref p0, .int p1] [(p0, 11)] S (f_X12_entry S p0 p1) oI (fun _ => S) := by
  refine Ct_of RX12 rfl (by decide) (Nat.le_of_ble_eq_true rfl) 0 (vs := [some (.ref p0), some (.int p1)]) rfl (fun C X E hr ht => ?_)
  have t0_ : tT C p0 11 := ht (p0, 11) (by simp)
  unfold f_X12_entry
  refine s_run X ok_X12_entry 0 1 (pc' := 1) (vs' := [some (.ref p0), some (.int p1)]) (st' := [.ref p0]) rfl ?_
  refine s_getR X fl_X12_37 t0_ (dk okd_X12_entry 0 rfl) (fun a1 (t2 : tT C a1 13) => ?_)
  refine s_run X ok_X12_entry 1 2 (pc' := 6) (vs' := [some (.ref p0), some (.int p1)]) (st' := [.ref p0, .int 5, .ref a1]) rfl ?_
  refine s_getI X fl_X12_78 t0_ (dk okd_X12_entry 1 rfl) (fun v3 => ?_)
  refine s_run X ok_X12_entry 3 3 (pc' := 12) (vs' := [some (.ref p0), some (.int p1)]) (st' := [.int ((5 * v3) + p1), .ref a1]) rfl ?_
  refine s_iald X t2 (dk okd_X12_entry 2 rfl) (fun v4 => ?_)
  exact s_iret X hr (dk okd_X12_entry 3 rfl) rfl rfl
def tab_X12_cents : List En := [(3, 8, 0, 0), (4, 4, 1, 0), (8, 31, 0, 0), (9, 25, 0, 0)]
theorem ok_X12_cents : tab_X12_cents.all (okE cX12_cents) = true := by decide +kernel
def ed_X12_cents : List (Nat × Instr × Nat) := [(0, .ldc2_w 144, 3), (5, .invokevirtual 428, 3), (10, .lreturn, 1)]
theorem okd_X12_cents : ed_X12_cents.all (okD cX12_cents) = true := by decide +kernel
def f_X12_cents (S : St) (p0 : Nat) (p1 : Int32) : Option (Int64) := cl (f_X12_entry S p0 p1) fun (v1 : Int32) => some (100 * (Int32.toInt64 v1))
set_option maxHeartbeats 4000000 in
set_option maxRecDepth 100000 in
theorem c_X12_cents (S : St) (p0 : Nat) (p1 : Int32) : Ct yX12_cents cX12_cents 2 (some .long) 1 21 [.ref p0, .int p1] [(p0, 11)] S (f_X12_cents S p0 p1) oL (fun _ => S) := by
  refine Ct_of RX12 rfl (by decide) (Nat.le_of_ble_eq_true rfl) 0 (vs := [some (.ref p0), some (.int p1)]) rfl (fun C X E hr ht => ?_)
  have t0_ : tT C p0 11 := ht (p0, 11) (by simp)
  unfold f_X12_cents
  refine s_ldc2 X cl_X12_144 (dk okd_X12_cents 0 rfl) ?_
  refine s_run X ok_X12_cents 0 2 (pc' := 5) (vs' := [some (.ref p0), some (.int p1)]) (st' := [.int p1, .ref p0, .long 100]) rfl ?_
  refine s_callV (rest := [.long 100]) X E mv_X12_428 (c_X12_entry S p0 p1) (ta1 t0_) rfl (by decide) t0_ rfl rfl (Nat.le_of_ble_eq_true rfl) (Nat.le_of_ble_eq_true rfl) (Nat.le_of_ble_eq_true rfl) (dk okd_X12_cents 1 rfl) (st' := fun v1 => [.int v1, .long 100]) (fun _ => rfl) (fun v1 => ?_)
  refine s_run X ok_X12_cents 2 2 (pc' := 10) (vs' := [some (.ref p0), some (.int p1)]) (st' := [.long (100 * (Int32.toInt64 v1))]) rfl ?_
  exact s_lret X hr (dk okd_X12_cents 2 rfl) rfl rfl
def tab_X12_execute : List En := [(0, 0, 0, 1), (1, 10, 1, 0), (2, 8, 0, 0), (3, 0, 0, 0), (44, 8, 0, 0), (45, 8, 0, 0), (46, 0, 0, 1), (50, 8, 0, 0), (51, 0, 0, 2), (58, 3, 0, 0), (59, 40, 0, 0), (63, 0, 0, 1), (64, 41, 68, 0), (67, 0, 0, 0), (68, 10, 1, 0), (69, 41, 204, 0), (72, 8, 0, 0), (73, 8, 0, 0), (74, 0, 0, 1), (78, 8, 0, 0), (79, 0, 0, 2), (83, 8, 0, 0), (84, 0, 0, 3), (88, 8, 0, 0), (89, 0, 0, 4), (96, 3, 0, 0), (97, 40, 0, 0), (101, 0, 0, 1), (102, 41, 106, 0), (105, 0, 0, 0), (106, 10, 1, 0), (107, 41, 204, 0), (110, 8, 0, 0), (111, 8, 0, 0), (112, 0, 0, 1), (116, 8, 0, 0), (117, 0, 0, 2), (124, 39, 0, 0), (125, 41, 204, 0), (128, 8, 0, 0), (129, 8, 0, 0), (130, 0, 0, 1), (134, 8, 0, 0), (135, 0, 0, 2), (142, 10, 1, 0), (143, 41, 204, 0), (146, 8, 0, 0), (147, 8, 0, 0), (148, 0, 0, 1), (155, 10, 1, 0), (156, 41, 204, 0), (159, 8, 0, 0), (160, 8, 0, 0), (161, 0, 0, 1), (165, 8, 0, 0), (166, 0, 0, 2), (170, 8, 0, 0), (171, 0, 0, 3), (175, 0, 0, 1), (179, 0, 0, 1), (180, 41, 184, 0), (183, 0, 0, 0), (190, 0, 0, 1), (191, 41, 195, 0), (194, 0, 0, 0), (195, 10, 1, 0), (196, 41, 204, 0), (199, 8, 0, 0), (203, 38, 0, 0), (204, 4, 1, 0), (205, 8, 0, 0), (212, 0, 0, 1), (213, 41, 217, 0), (216, 0, 0, 0), (217, 20, 0, 0), (218, 10, 1, 0), (219, 8, 0, 0), (220, 0, 0, 0), (224, 4, 1, 0)]
theorem ok_X12_execute : tab_X12_execute.all (okE cX12_execute) = true := by decide +kernel
def ed_X12_execute : List (Nat × Instr × Nat) := [(4, .invokevirtual 428, 3), (7, .tableswitch 192 0 5 #[37, 65, 103, 121, 139, 152], 37), (47, .invokevirtual 428, 3), (52, .invokevirtual 431, 3), (55, .invokevirtual 434, 3), (60, .ifCond .lt 7, 3), (75, .invokevirtual 428, 3), (80, .invokevirtual 428, 3), (85, .invokevirtual 428, 3), (90, .invokevirtual 431, 3), (93, .invokevirtual 437, 3), (98, .ifCond .lt 7, 3), (113, .invokevirtual 428, 3), (118, .invokevirtual 431, 3), (121, .invokevirtual 441, 3), (131, .invokevirtual 428, 3), (136, .invokevirtual 431, 3), (139, .invokevirtual 444, 3), (149, .invokevirtual 431, 3), (152, .invokevirtual 448, 3), (162, .invokevirtual 428, 3), (167, .invokevirtual 428, 3), (172, .invokevirtual 428, 3), (176, .if_icmp .ne 7, 3), (184, .invokevirtual 452, 3), (187, .ifCond .lt 7, 3), (200, .invokevirtual 456, 3), (206, .getfield 50, 3), (209, .ifCond .ne 7, 3), (221, .putfield 50, 3), (225, .ireturn, 1)]
theorem okd_X12_execute : ed_X12_execute.all (okD cX12_execute) = true := by decide +kernel
def f_X12_execute (S : St) (p0 : Nat) : Option (Int32 × St) := cl (f_X12_entry S p0 0) fun (v1 : Int32) => jn (κ := Int32 → St → Option (Int32 × St)) (fun x2 S3 => lt (gI S3 p0 2) fun (v6 : Int32) => jn (κ := Int32 → Option (Int32 × St)) (fun x7 => lt (x2 &&& x7) fun (v10 : Int32) => lt (uI S3 p0 2 0) fun (S11 : St) => zc v10 (some (v10, S11))) fun k8 => if v6 = 0 then (k8 1) else (k8 0)) fun k4 => if v1 = 0 then (cl (f_X12_entry S p0 1) fun (v12 : Int32) => cl (f_X12_cents S p0 2) fun (v13 : Int64) => cl (f_X12_reportSales S p0 v12 v13) fun (o14 : Int64 × St) => jn (κ := Int32 → Option (Int32 × St)) (fun x15 => k4 x15 o14.2) fun k16 => if o14.1 < 0 then (k16 0) else (k16 1)) else (if v1 = 1 then (cl (f_X12_entry S p0 1) fun (v18 : Int32) => cl (f_X12_entry S p0 2) fun (v19 : Int32) => cl (f_X12_entry S p0 3) fun (v20 : Int32) => cl (f_X12_cents S p0 4) fun (v21 : Int64) => cl (f_X12_deliver S p0 v18 v19 v20 v21) fun (o22 : Int64 × St) => jn (κ := Int32 → Option (Int32 × St)) (fun x23 => k4 x23 o22.2) fun k24 => if o22.1 < 0 then (k24 0) else (k24 1)) else (if v1 = 2 then (cl (f_X12_entry S p0 1) fun (v26 : Int32) => cl (f_X12_cents S p0 2) fun (v27 : Int64) => cl (f_X12_pay S p0 v26 v27) fun (o28 : Int64 × St) => k4 1 o28.2) else (if v1 = 3 then (cl (f_X12_entry S p0 1) fun (v29 : Int32) => cl (f_X12_cents S p0 2) fun (v30 : Int64) => cl (f_X12_grant S p0 v29 v30) fun (o31 : Int32 × St) => k4 o31.1 o31.2) else (if v1 = 4 then (cl (f_X12_cents S p0 1) fun (v32 : Int64) => cl (f_X12_campaign S p0 v32) fun (o33 : Int32 × St) => k4 o33.1 o33.2) else (if v1 = 5 then (cl (f_X12_entry S p0 1) fun (v34 : Int32) => cl (f_X12_entry S p0 2) fun (v35 : Int32) => cl (f_X12_entry S p0 3) fun (v36 : Int32) => jn (κ := Int32 → Option (Int32 × St)) (fun x37 => cl (f_X12_vote S p0 v34 v35 x37) fun (o40 : Int32 × St) => jn (κ := Int32 → Option (Int32 × St)) (fun x41 => k4 x41 o40.2) fun k42 => if o40.1 < 0 then (k42 0) else (k42 1)) fun k38 => if v36 = 1 then (k38 1) else (k38 0)) else (cl (f_X12_closeMonth S p0) fun (o44 : Int32 × St) => k4 1 o44.2))))))
set_option maxHeartbeats 4000000 in
set_option maxRecDepth 100000 in
theorem c_X12_execute (S : St) (p0 : Nat) : Ct yX12_execute cX12_execute 2 (some .boolean) 5 119 [.ref p0] [(p0, 11)] S (f_X12_execute S p0) oIS sS := by
  refine Ct_of RX12 rfl (by decide) (Nat.le_of_ble_eq_true rfl) 1 (vs := [some (.ref p0), none]) rfl (fun C X E hr ht => ?_)
  have t0_ : tT C p0 11 := ht (p0, 11) (by simp)
  unfold f_X12_execute
  refine s_run X ok_X12_execute 0 4 (pc' := 4) (vs' := [some (.ref p0), some (.int 1)]) (st' := [.int 0, .ref p0]) rfl ?_
  refine s_callV (rest := []) X E mv_X12_428 (c_X12_entry S p0 0) (ta1 t0_) rfl (by decide) t0_ rfl rfl (Nat.le_of_ble_eq_true rfl) (Nat.le_of_ble_eq_true rfl) (Nat.le_of_ble_eq_true rfl) (dk okd_X12_execute 0 rfl) (st' := fun v1 => [.int v1]) (fun _ => rfl) (fun v1 => ?_)
  refine s_jn (κ := Int32 → St → Option (Int32 × St)) (fun k4 => ∀ (x2 : Int32) (S3 : St), Jd C 2 (QJ C oIS sS) S3 204 [some (.ref p0), some (.int x2)] [] (k4 x2 S3)) (fun x2 S3 => ?_) (fun k4 h5 => ?_)
  · refine s_run X ok_X12_execute 69 2 (pc' := 206) (vs' := [some (.ref p0), some (.int x2)]) (st' := [.ref p0, .int x2]) rfl ?_
    refine s_getI X fl_X12_50 t0_ (dk okd_X12_execute 27 rfl) (fun v6 => ?_)
    refine s_jn (κ := Int32 → Option (Int32 × St)) (fun k8 => ∀ (x7 : Int32), Jd C 2 (QJ C oIS sS) S3 217 [some (.ref p0), none] [.int x7, .int x2] (k8 x7)) (fun x7 => ?_) (fun k8 h9 => ?_)
    · refine s_run X ok_X12_execute 74 1 (pc' := 218) (vs' := [some (.ref p0), none]) (st' := [.int (x2 &&& x7)]) rfl ?_
      refine s_nmI (fun v10 => ?_)
      refine s_run X ok_X12_execute 75 3 (pc' := 221) (vs' := [some (.ref p0), some (.int v10)]) (st' := [.int 0, .ref p0]) rfl ?_
      refine s_putI X fp_X12_50 t0_ (dk okd_X12_execute 29 rfl) (fun S11 => ?_)
      refine s_run X ok_X12_execute 78 1 (pc' := 225) (vs' := [some (.ref p0), some (.int v10)]) (st' := [.int v10]) rfl ?_
      exact s_zret X hr (dk okd_X12_execute 30 rfl) rfl rfl
    · refine s_if_ne (tgt := 216) X (dk okd_X12_execute 28 rfl) (by decide) ?_ ?_
      · refine s_run X ok_X12_execute 73 1 (pc' := 217) (vs' := [some (.ref p0), some (.int x2)]) (st' := [.int 0, .int x2]) rfl ?_
        exact s_less [true, false] rfl (h9 0)
      · refine s_run X ok_X12_execute 71 2 (pc' := 217) (vs' := [some (.ref p0), some (.int x2)]) (st' := [.int 1, .int x2]) rfl ?_
        exact s_less [true, false] rfl (h9 1)
  · refine s_tabc (c := 0) (tgt := 44) X (dk okd_X12_execute 1 rfl) (by decide) (by decide) rfl (by decide) ?_ (fun n0 => ?_)
    · refine s_run X ok_X12_execute 4 3 (pc' := 47) (vs' := [some (.ref p0), some (.int 1)]) (st' := [.int 1, .ref p0, .ref p0]) rfl ?_
      refine s_callV (rest := [.ref p0]) X E mv_X12_428 (c_X12_entry S p0 1) (ta1 t0_) rfl (by decide) t0_ rfl rfl (Nat.le_of_ble_eq_true rfl) (Nat.le_of_ble_eq_true rfl) (Nat.le_of_ble_eq_true rfl) (dk okd_X12_execute 2 rfl) (st' := fun v12 => [.int v12, .ref p0]) (fun _ => rfl) (fun v12 => ?_)
      refine s_run X ok_X12_execute 7 2 (pc' := 52) (vs' := [some (.ref p0), some (.int 1)]) (st' := [.int 2, .ref p0, .int v12, .ref p0]) rfl ?_
      refine s_callV (rest := [.int v12, .ref p0]) X E mv_X12_431 (c_X12_cents S p0 2) (ta1 t0_) rfl (by decide) t0_ rfl rfl (Nat.le_of_ble_eq_true rfl) (Nat.le_of_ble_eq_true rfl) (Nat.le_of_ble_eq_true rfl) (dk okd_X12_execute 3 rfl) (st' := fun v13 => [.long v13, .int v12, .ref p0]) (fun _ => rfl) (fun v13 => ?_)
      refine s_callV (rest := []) X E mv_X12_434 (c_X12_reportSales S p0 v12 v13) (ta1 t0_) rfl (by decide) t0_ rfl rfl (Nat.le_of_ble_eq_true rfl) (Nat.le_of_ble_eq_true rfl) (Nat.le_of_ble_eq_true rfl) (dk okd_X12_execute 4 rfl) (st' := fun o14 => [.long o14.1]) (fun _ => rfl) (fun o14 => ?_)
      refine s_run X ok_X12_execute 9 2 (pc' := 60) (vs' := [some (.ref p0), some (.int 1)]) (st' := [.int (lg_cmp o14.1 0)]) rfl ?_
      refine s_jn (κ := Int32 → Option (Int32 × St)) (fun k16 => ∀ (x15 : Int32), Jd C 2 (QJ C oIS sS) o14.2 68 [some (.ref p0), none] [.int x15] (k16 x15)) (fun x15 => ?_) (fun k16 h17 => ?_)
      · refine s_run X ok_X12_execute 14 2 (pc' := 204) (vs' := [some (.ref p0), some (.int x15)]) (st' := []) rfl ?_
        exact h5 x15 o14.2
      · refine s_lif_lt (tgt := 67) X (dk okd_X12_execute 5 rfl) (by decide) ?_ ?_
        · refine s_run X ok_X12_execute 13 1 (pc' := 68) (vs' := [some (.ref p0), some (.int 1)]) (st' := [.int 0]) rfl ?_
          exact s_less [true, false] rfl (h17 0)
        · refine s_run X ok_X12_execute 11 2 (pc' := 68) (vs' := [some (.ref p0), some (.int 1)]) (st' := [.int 1]) rfl ?_
          exact s_less [true, false] rfl (h17 1)
    refine s_tabc (c := 1) (tgt := 72) X (dk okd_X12_execute 1 rfl) (by decide) (by decide) rfl (by decide) ?_ (fun n1 => ?_)
    · refine s_run X ok_X12_execute 16 3 (pc' := 75) (vs' := [some (.ref p0), some (.int 1)]) (st' := [.int 1, .ref p0, .ref p0]) rfl ?_
      refine s_callV (rest := [.ref p0]) X E mv_X12_428 (c_X12_entry S p0 1) (ta1 t0_) rfl (by decide) t0_ rfl rfl (Nat.le_of_ble_eq_true rfl) (Nat.le_of_ble_eq_true rfl) (Nat.le_of_ble_eq_true rfl) (dk okd_X12_execute 6 rfl) (st' := fun v18 => [.int v18, .ref p0]) (fun _ => rfl) (fun v18 => ?_)
      refine s_run X ok_X12_execute 19 2 (pc' := 80) (vs' := [some (.ref p0), some (.int 1)]) (st' := [.int 2, .ref p0, .int v18, .ref p0]) rfl ?_
      refine s_callV (rest := [.int v18, .ref p0]) X E mv_X12_428 (c_X12_entry S p0 2) (ta1 t0_) rfl (by decide) t0_ rfl rfl (Nat.le_of_ble_eq_true rfl) (Nat.le_of_ble_eq_true rfl) (Nat.le_of_ble_eq_true rfl) (dk okd_X12_execute 7 rfl) (st' := fun v19 => [.int v19, .int v18, .ref p0]) (fun _ => rfl) (fun v19 => ?_)
      refine s_run X ok_X12_execute 21 2 (pc' := 85) (vs' := [some (.ref p0), some (.int 1)]) (st' := [.int 3, .ref p0, .int v19, .int v18, .ref p0]) rfl ?_
      refine s_callV (rest := [.int v19, .int v18, .ref p0]) X E mv_X12_428 (c_X12_entry S p0 3) (ta1 t0_) rfl (by decide) t0_ rfl rfl (Nat.le_of_ble_eq_true rfl) (Nat.le_of_ble_eq_true rfl) (Nat.le_of_ble_eq_true rfl) (dk okd_X12_execute 8 rfl) (st' := fun v20 => [.int v20, .int v19, .int v18, .ref p0]) (fun _ => rfl) (fun v20 => ?_)
      refine s_run X ok_X12_execute 23 2 (pc' := 90) (vs' := [some (.ref p0), some (.int 1)]) (st' := [.int 4, .ref p0, .int v20, .int v19, .int v18, .ref p0]) rfl ?_
      refine s_callV (rest := [.int v20, .int v19, .int v18, .ref p0]) X E mv_X12_431 (c_X12_cents S p0 4) (ta1 t0_) rfl (by decide) t0_ rfl rfl (Nat.le_of_ble_eq_true rfl) (Nat.le_of_ble_eq_true rfl) (Nat.le_of_ble_eq_true rfl) (dk okd_X12_execute 9 rfl) (st' := fun v21 => [.long v21, .int v20, .int v19, .int v18, .ref p0]) (fun _ => rfl) (fun v21 => ?_)
      refine s_callV (rest := []) X E mv_X12_437 (c_X12_deliver S p0 v18 v19 v20 v21) (ta1 t0_) rfl (by decide) t0_ rfl rfl (Nat.le_of_ble_eq_true rfl) (Nat.le_of_ble_eq_true rfl) (Nat.le_of_ble_eq_true rfl) (dk okd_X12_execute 10 rfl) (st' := fun o22 => [.long o22.1]) (fun _ => rfl) (fun o22 => ?_)
      refine s_run X ok_X12_execute 25 2 (pc' := 98) (vs' := [some (.ref p0), some (.int 1)]) (st' := [.int (lg_cmp o22.1 0)]) rfl ?_
      refine s_jn (κ := Int32 → Option (Int32 × St)) (fun k24 => ∀ (x23 : Int32), Jd C 2 (QJ C oIS sS) o22.2 106 [some (.ref p0), none] [.int x23] (k24 x23)) (fun x23 => ?_) (fun k24 h25 => ?_)
      · refine s_run X ok_X12_execute 30 2 (pc' := 204) (vs' := [some (.ref p0), some (.int x23)]) (st' := []) rfl ?_
        exact h5 x23 o22.2
      · refine s_lif_lt (tgt := 105) X (dk okd_X12_execute 11 rfl) (by decide) ?_ ?_
        · refine s_run X ok_X12_execute 29 1 (pc' := 106) (vs' := [some (.ref p0), some (.int 1)]) (st' := [.int 0]) rfl ?_
          exact s_less [true, false] rfl (h25 0)
        · refine s_run X ok_X12_execute 27 2 (pc' := 106) (vs' := [some (.ref p0), some (.int 1)]) (st' := [.int 1]) rfl ?_
          exact s_less [true, false] rfl (h25 1)
    refine s_tabc (c := 2) (tgt := 110) X (dk okd_X12_execute 1 rfl) (by decide) (by decide) rfl (by decide) ?_ (fun n2 => ?_)
    · refine s_run X ok_X12_execute 32 3 (pc' := 113) (vs' := [some (.ref p0), some (.int 1)]) (st' := [.int 1, .ref p0, .ref p0]) rfl ?_
      refine s_callV (rest := [.ref p0]) X E mv_X12_428 (c_X12_entry S p0 1) (ta1 t0_) rfl (by decide) t0_ rfl rfl (Nat.le_of_ble_eq_true rfl) (Nat.le_of_ble_eq_true rfl) (Nat.le_of_ble_eq_true rfl) (dk okd_X12_execute 12 rfl) (st' := fun v26 => [.int v26, .ref p0]) (fun _ => rfl) (fun v26 => ?_)
      refine s_run X ok_X12_execute 35 2 (pc' := 118) (vs' := [some (.ref p0), some (.int 1)]) (st' := [.int 2, .ref p0, .int v26, .ref p0]) rfl ?_
      refine s_callV (rest := [.int v26, .ref p0]) X E mv_X12_431 (c_X12_cents S p0 2) (ta1 t0_) rfl (by decide) t0_ rfl rfl (Nat.le_of_ble_eq_true rfl) (Nat.le_of_ble_eq_true rfl) (Nat.le_of_ble_eq_true rfl) (dk okd_X12_execute 13 rfl) (st' := fun v27 => [.long v27, .int v26, .ref p0]) (fun _ => rfl) (fun v27 => ?_)
      refine s_callV (rest := []) X E mv_X12_441 (c_X12_pay S p0 v26 v27) (ta1 t0_) rfl (by decide) t0_ rfl rfl (Nat.le_of_ble_eq_true rfl) (Nat.le_of_ble_eq_true rfl) (Nat.le_of_ble_eq_true rfl) (dk okd_X12_execute 14 rfl) (st' := fun o28 => [.long o28.1]) (fun _ => rfl) (fun o28 => ?_)
      refine s_run X ok_X12_execute 37 2 (pc' := 204) (vs' := [some (.ref p0), some (.int 1)]) (st' := []) rfl ?_
      exact h5 1 o28.2
    refine s_tabc (c := 3) (tgt := 128) X (dk okd_X12_execute 1 rfl) (by decide) (by decide) rfl (by decide) ?_ (fun n3 => ?_)
    · refine s_run X ok_X12_execute 39 3 (pc' := 131) (vs' := [some (.ref p0), some (.int 1)]) (st' := [.int 1, .ref p0, .ref p0]) rfl ?_
      refine s_callV (rest := [.ref p0]) X E mv_X12_428 (c_X12_entry S p0 1) (ta1 t0_) rfl (by decide) t0_ rfl rfl (Nat.le_of_ble_eq_true rfl) (Nat.le_of_ble_eq_true rfl) (Nat.le_of_ble_eq_true rfl) (dk okd_X12_execute 15 rfl) (st' := fun v29 => [.int v29, .ref p0]) (fun _ => rfl) (fun v29 => ?_)
      refine s_run X ok_X12_execute 42 2 (pc' := 136) (vs' := [some (.ref p0), some (.int 1)]) (st' := [.int 2, .ref p0, .int v29, .ref p0]) rfl ?_
      refine s_callV (rest := [.int v29, .ref p0]) X E mv_X12_431 (c_X12_cents S p0 2) (ta1 t0_) rfl (by decide) t0_ rfl rfl (Nat.le_of_ble_eq_true rfl) (Nat.le_of_ble_eq_true rfl) (Nat.le_of_ble_eq_true rfl) (dk okd_X12_execute 16 rfl) (st' := fun v30 => [.long v30, .int v29, .ref p0]) (fun _ => rfl) (fun v30 => ?_)
      refine s_callV (rest := []) X E mv_X12_444 (c_X12_grant S p0 v29 v30) (ta1 t0_) rfl (by decide) t0_ rfl rfl (Nat.le_of_ble_eq_true rfl) (Nat.le_of_ble_eq_true rfl) (Nat.le_of_ble_eq_true rfl) (dk okd_X12_execute 17 rfl) (st' := fun o31 => [.int o31.1]) (fun _ => rfl) (fun o31 => ?_)
      refine s_run X ok_X12_execute 44 2 (pc' := 204) (vs' := [some (.ref p0), some (.int o31.1)]) (st' := []) rfl ?_
      exact h5 o31.1 o31.2
    refine s_tabc (c := 4) (tgt := 146) X (dk okd_X12_execute 1 rfl) (by decide) (by decide) rfl (by decide) ?_ (fun n4 => ?_)
    · refine s_run X ok_X12_execute 46 3 (pc' := 149) (vs' := [some (.ref p0), some (.int 1)]) (st' := [.int 1, .ref p0, .ref p0]) rfl ?_
      refine s_callV (rest := [.ref p0]) X E mv_X12_431 (c_X12_cents S p0 1) (ta1 t0_) rfl (by decide) t0_ rfl rfl (Nat.le_of_ble_eq_true rfl) (Nat.le_of_ble_eq_true rfl) (Nat.le_of_ble_eq_true rfl) (dk okd_X12_execute 18 rfl) (st' := fun v32 => [.long v32, .ref p0]) (fun _ => rfl) (fun v32 => ?_)
      refine s_callV (rest := []) X E mv_X12_448 (c_X12_campaign S p0 v32) (ta1 t0_) rfl (by decide) t0_ rfl rfl (Nat.le_of_ble_eq_true rfl) (Nat.le_of_ble_eq_true rfl) (Nat.le_of_ble_eq_true rfl) (dk okd_X12_execute 19 rfl) (st' := fun o33 => [.int o33.1]) (fun _ => rfl) (fun o33 => ?_)
      refine s_run X ok_X12_execute 49 2 (pc' := 204) (vs' := [some (.ref p0), some (.int o33.1)]) (st' := []) rfl ?_
      exact h5 o33.1 o33.2
    refine s_tabc (c := 5) (tgt := 159) X (dk okd_X12_execute 1 rfl) (by decide) (by decide) rfl (by decide) ?_ (fun n5 => ?_)
    · refine s_run X ok_X12_execute 51 3 (pc' := 162) (vs' := [some (.ref p0), some (.int 1)]) (st' := [.int 1, .ref p0, .ref p0]) rfl ?_
      refine s_callV (rest := [.ref p0]) X E mv_X12_428 (c_X12_entry S p0 1) (ta1 t0_) rfl (by decide) t0_ rfl rfl (Nat.le_of_ble_eq_true rfl) (Nat.le_of_ble_eq_true rfl) (Nat.le_of_ble_eq_true rfl) (dk okd_X12_execute 20 rfl) (st' := fun v34 => [.int v34, .ref p0]) (fun _ => rfl) (fun v34 => ?_)
      refine s_run X ok_X12_execute 54 2 (pc' := 167) (vs' := [some (.ref p0), some (.int 1)]) (st' := [.int 2, .ref p0, .int v34, .ref p0]) rfl ?_
      refine s_callV (rest := [.int v34, .ref p0]) X E mv_X12_428 (c_X12_entry S p0 2) (ta1 t0_) rfl (by decide) t0_ rfl rfl (Nat.le_of_ble_eq_true rfl) (Nat.le_of_ble_eq_true rfl) (Nat.le_of_ble_eq_true rfl) (dk okd_X12_execute 21 rfl) (st' := fun v35 => [.int v35, .int v34, .ref p0]) (fun _ => rfl) (fun v35 => ?_)
      refine s_run X ok_X12_execute 56 2 (pc' := 172) (vs' := [some (.ref p0), some (.int 1)]) (st' := [.int 3, .ref p0, .int v35, .int v34, .ref p0]) rfl ?_
      refine s_callV (rest := [.int v35, .int v34, .ref p0]) X E mv_X12_428 (c_X12_entry S p0 3) (ta1 t0_) rfl (by decide) t0_ rfl rfl (Nat.le_of_ble_eq_true rfl) (Nat.le_of_ble_eq_true rfl) (Nat.le_of_ble_eq_true rfl) (dk okd_X12_execute 22 rfl) (st' := fun v36 => [.int v36, .int v35, .int v34, .ref p0]) (fun _ => rfl) (fun v36 => ?_)
      refine s_run X ok_X12_execute 58 1 (pc' := 176) (vs' := [some (.ref p0), some (.int 1)]) (st' := [.int 1, .int v36, .int v35, .int v34, .ref p0]) rfl ?_
      refine s_jn (κ := Int32 → Option (Int32 × St)) (fun k38 => ∀ (x37 : Int32), Jd C 2 (QJ C oIS sS) S 184 [some (.ref p0), none] [.int x37, .int v35, .int v34, .ref p0] (k38 x37)) (fun x37 => ?_) (fun k38 h39 => ?_)
      · refine s_callV (rest := []) X E mv_X12_452 (c_X12_vote S p0 v34 v35 x37) (ta1 t0_) rfl (by decide) t0_ rfl rfl (Nat.le_of_ble_eq_true rfl) (Nat.le_of_ble_eq_true rfl) (Nat.le_of_ble_eq_true rfl) (dk okd_X12_execute 24 rfl) (st' := fun o40 => [.int o40.1]) (fun _ => rfl) (fun o40 => ?_)
        refine s_jn (κ := Int32 → Option (Int32 × St)) (fun k42 => ∀ (x41 : Int32), Jd C 2 (QJ C oIS sS) o40.2 195 [some (.ref p0), none] [.int x41] (k42 x41)) (fun x41 => ?_) (fun k42 h43 => ?_)
        · refine s_run X ok_X12_execute 65 2 (pc' := 204) (vs' := [some (.ref p0), some (.int x41)]) (st' := []) rfl ?_
          exact h5 x41 o40.2
        · refine s_if_lt (tgt := 194) X (dk okd_X12_execute 25 rfl) (by decide) ?_ ?_
          · refine s_run X ok_X12_execute 64 1 (pc' := 195) (vs' := [some (.ref p0), none]) (st' := [.int 0]) rfl ?_
            exact h43 0
          · refine s_run X ok_X12_execute 62 2 (pc' := 195) (vs' := [some (.ref p0), none]) (st' := [.int 1]) rfl ?_
            exact h43 1
      · refine s_icmp_ne (tgt := 183) X (dk okd_X12_execute 23 rfl) (by decide) ?_ ?_
        · refine s_run X ok_X12_execute 61 1 (pc' := 184) (vs' := [some (.ref p0), some (.int 1)]) (st' := [.int 0, .int v35, .int v34, .ref p0]) rfl ?_
          exact s_less [true, false] rfl (h39 0)
        · refine s_run X ok_X12_execute 59 2 (pc' := 184) (vs' := [some (.ref p0), some (.int 1)]) (st' := [.int 1, .int v35, .int v34, .ref p0]) rfl ?_
          exact s_less [true, false] rfl (h39 1)
    refine s_tabd (tgt := 199) X (dk okd_X12_execute 1 rfl) (tabout (n := 6) (by decide) (fun j hj => match j, hj with | 0, _ => n0 | 1, _ => n1 | 2, _ => n2 | 3, _ => n3 | 4, _ => n4 | 5, _ => n5)) (by decide) ?_
    refine s_run X ok_X12_execute 67 1 (pc' := 200) (vs' := [some (.ref p0), some (.int 1)]) (st' := [.ref p0]) rfl ?_
    refine s_callV (rest := []) X E mv_X12_456 (c_X12_closeMonth S p0) (ta1 t0_) rfl (by decide) t0_ rfl rfl (Nat.le_of_ble_eq_true rfl) (Nat.le_of_ble_eq_true rfl) (Nat.le_of_ble_eq_true rfl) (dk okd_X12_execute 26 rfl) (st' := fun o44 => [.int o44.1]) (fun _ => rfl) (fun o44 => ?_)
    refine s_run X ok_X12_execute 68 1 (pc' := 204) (vs' := [some (.ref p0), some (.int 1)]) (st' := []) rfl ?_
    exact h5 1 o44.2
def tab_X12_runJournal : List En := [(0, 8, 0, 0), (1, 0, 0, 0), (5, 8, 0, 0), (6, 4, 1, 0), (7, 31, 0, 0), (8, 3, 1, 0), (18, 0, 0, 1), (19, 41, 23, 0), (22, 0, 0, 0), (23, 0, 0, 1), (30, 0, 0, 0), (32, 0, 0, 0), (33, 10, 2, 0), (34, 0, 0, 0), (35, 10, 3, 0), (36, 4, 3, 0), (37, 4, 1, 0), (41, 8, 0, 0), (45, 8, 0, 0), (52, 4, 2, 0), (53, 8, 0, 0), (60, 0, 0, 1), (61, 41, 65, 0), (64, 0, 0, 0), (65, 17, 0, 0), (66, 10, 2, 0), (67, 8, 0, 0), (68, 36, 0, 0), (72, 0, 0, 1), (73, 17, 0, 0), (77, 16, 3, 1), (80, 41, 36, 0), (83, 4, 2, 0)]
theorem ok_X12_runJournal : tab_X12_runJournal.all (okE cX12_runJournal) = true := by decide +kernel
def ed_X12_runJournal : List (Nat × Instr × Nat) := [(2, .putfield 50, 3), (9, .ldc2_w 459, 3), (12, .invokestatic 53, 3), (15, .ifCond .ne 7, 3), (24, .invokevirtual 81, 3), (27, .ifCond .eq 5, 3), (31, .ireturn, 1), (38, .if_icmp .ge 45, 3), (42, .getfield 78, 3), (46, .getfield 75, 3), (49, .if_icmp .ge 34, 3), (54, .invokevirtual 461, 3), (57, .ifCond .eq 7, 3), (69, .getfield 78, 3), (74, .putfield 78, 3), (84, .ireturn, 1)]
theorem okd_X12_runJournal : ed_X12_runJournal.all (okD cX12_runJournal) = true := by decide +kernel
def f_X12_runJournal (S : St) (p0 : Nat) (p1 : Int32) : Option (Int32 × St) := lt (uI S p0 2 0) fun (S1 : St) => cl (f_X12_inRange S1 (Int32.toInt64 p1) 1 40) fun (v2 : Int32) => jn (κ := Int32 → Option (Int32 × St)) (fun x3 => cl (f_X12_throwsIf S1 p0 x3 1) fun (o6 : Int32 × St) => if o6.1 = 0 then (jn (κ := Int32 → St → Option (Int32 × St)) (fun x7 S8 => some (x7, S8)) fun k9 => lp (κ := Int32 → Int32 → St → Option (Int32 × St)) (fun _ _ _ => none) (fun k14 x11 x12 S13 => if p1 ≤ x12 then (k9 x11 S13) else (lt (gI S13 p0 20) fun (v16 : Int32) => lt (gI S13 p0 19) fun (v17 : Int32) => if v17 ≤ v16 then (k9 x11 S13) else (cl (f_X12_execute S13 p0) fun (o18 : Int32 × St) => jn (κ := Int32 → Option (Int32 × St)) (fun x19 => lt (x11 + x19) fun (v22 : Int32) => lt (gI o18.2 p0 20) fun (v23 : Int32) => lt (uI o18.2 p0 20 (v23 + 1)) fun (S24 : St) => k14 v22 (x12 + 1) S24) fun k20 => if o18.1 = 0 then (k20 0) else (k20 1)))) FU 0 0 o6.2) else (some (0, o6.2))) fun k4 => if v2 = 0 then (k4 1) else (k4 0)
set_option maxHeartbeats 4000000 in
set_option maxRecDepth 100000 in
theorem c_X12_runJournal (S : St) (p0 : Nat) (p1 : Int32) : Ct yX12_runJournal cX12_runJournal 4 (some .int) 6 140 [.ref p0, .int p1] [(p0, 11)] S (f_X12_runJournal S p0 p1) oIS sS := by
  refine Ct_of RX12 rfl (by decide) (Nat.le_of_ble_eq_true rfl) 2 (vs := [some (.ref p0), some (.int p1), none, none]) rfl (fun C X E hr ht => ?_)
  have t0_ : tT C p0 11 := ht (p0, 11) (by simp)
  unfold f_X12_runJournal
  refine s_run X ok_X12_runJournal 0 2 (pc' := 2) (vs' := [some (.ref p0), some (.int p1), none, none]) (st' := [.int 0, .ref p0]) rfl ?_
  refine s_putI X fp_X12_50 t0_ (dk okd_X12_runJournal 0 rfl) (fun S1 => ?_)
  refine s_run X ok_X12_runJournal 2 4 (pc' := 9) (vs' := [some (.ref p0), some (.int p1), none, none]) (st' := [.long 1, .long (Int32.toInt64 p1), .ref p0]) rfl ?_
  refine s_ldc2 X cl_X12_459 (dk okd_X12_runJournal 1 rfl) ?_
  refine s_callS (rest := [.ref p0]) X E ms_X12_53 (c_X12_inRange S1 (Int32.toInt64 p1) 1 40) (ta0) rfl rfl (Nat.le_of_ble_eq_true rfl) (Nat.le_of_ble_eq_true rfl) (Nat.le_of_ble_eq_true rfl) (dk okd_X12_runJournal 2 rfl) (st' := fun v2 => [.int v2, .ref p0]) (fun _ => rfl) (fun v2 => ?_)
  refine s_jn (κ := Int32 → Option (Int32 × St)) (fun k4 => ∀ (x3 : Int32), Jd C 4 (QJ C oIS sS) S1 23 [some (.ref p0), some (.int p1), none, none] [.int x3, .ref p0] (k4 x3)) (fun x3 => ?_) (fun k4 h5 => ?_)
  · refine s_run X ok_X12_runJournal 9 1 (pc' := 24) (vs' := [some (.ref p0), some (.int p1), none, none]) (st' := [.int 1, .int x3, .ref p0]) rfl ?_
    refine s_callV (rest := []) X E mv_X12_81 (c_X12_throwsIf S1 p0 x3 1) (ta1 t0_) rfl (by decide) t0_ rfl rfl (Nat.le_of_ble_eq_true rfl) (Nat.le_of_ble_eq_true rfl) (Nat.le_of_ble_eq_true rfl) (dk okd_X12_runJournal 4 rfl) (st' := fun o6 => [.int o6.1]) (fun _ => rfl) (fun o6 => ?_)
    refine s_if_eq (tgt := 32) X (dk okd_X12_runJournal 5 rfl) (by decide) ?_ ?_
    · refine s_run X ok_X12_runJournal 11 4 (pc' := 36) (vs' := [some (.ref p0), some (.int p1), some (.int 0), some (.int 0)]) (st' := []) rfl ?_
      refine s_jn (κ := Int32 → St → Option (Int32 × St)) (fun k9 => ∀ (x7 : Int32) (S8 : St), Jd C 4 (QJ C oIS sS) S8 83 [none, none, some (.int x7), none] [] (k9 x7 S8)) (fun x7 S8 => ?_) (fun k9 h10 => ?_)
      · refine s_run X ok_X12_runJournal 32 1 (pc' := 84) (vs' := [none, none, some (.int x7), none]) (st' := [.int x7]) rfl ?_
        exact s_iret X hr (dk okd_X12_runJournal 15 rfl) rfl rfl
      · refine s_lp (κ := Int32 → Int32 → St → Option (Int32 × St)) (fun k14 => ∀ (x11 : Int32) (x12 : Int32) (S13 : St), Jd C 4 (QJ C oIS sS) S13 36 [some (.ref p0), some (.int p1), some (.int x11), some (.int x12)] [] (k14 x11 x12 S13)) (fun _ _ _ => s_none) (fun k14 h15 x11 x12 S13 => ?_) FU 0 0 o6.2
        refine s_run X ok_X12_runJournal 15 2 (pc' := 38) (vs' := [some (.ref p0), some (.int p1), some (.int x11), some (.int x12)]) (st' := [.int p1, .int x12]) rfl ?_
        refine s_icmp_ge (tgt := 83) X (dk okd_X12_runJournal 7 rfl) (by decide) ?_ ?_
        · exact s_less [false, false, true, false] rfl (h10 x11 S13)
        · refine s_run X ok_X12_runJournal 17 1 (pc' := 42) (vs' := [some (.ref p0), some (.int p1), some (.int x11), some (.int x12)]) (st' := [.ref p0]) rfl ?_
          refine s_getI X fl_X12_78 t0_ (dk okd_X12_runJournal 8 rfl) (fun v16 => ?_)
          refine s_run X ok_X12_runJournal 18 1 (pc' := 46) (vs' := [some (.ref p0), some (.int p1), some (.int x11), some (.int x12)]) (st' := [.ref p0, .int v16]) rfl ?_
          refine s_getI X fl_X12_75 t0_ (dk okd_X12_runJournal 9 rfl) (fun v17 => ?_)
          refine s_icmp_ge (tgt := 83) X (dk okd_X12_runJournal 10 rfl) (by decide) ?_ ?_
          · exact s_less [false, false, true, false] rfl (h10 x11 S13)
          · refine s_run X ok_X12_runJournal 19 2 (pc' := 54) (vs' := [some (.ref p0), some (.int p1), some (.int x11), some (.int x12)]) (st' := [.ref p0, .int x11]) rfl ?_
            refine s_callV (rest := [.int x11]) X E mv_X12_461 (c_X12_execute S13 p0) (ta1 t0_) rfl (by decide) t0_ rfl rfl (Nat.le_of_ble_eq_true rfl) (Nat.le_of_ble_eq_true rfl) (Nat.le_of_ble_eq_true rfl) (dk okd_X12_runJournal 11 rfl) (st' := fun o18 => [.int o18.1, .int x11]) (fun _ => rfl) (fun o18 => ?_)
            refine s_jn (κ := Int32 → Option (Int32 × St)) (fun k20 => ∀ (x19 : Int32), Jd C 4 (QJ C oIS sS) o18.2 65 [some (.ref p0), some (.int p1), none, some (.int x12)] [.int x19, .int x11] (k20 x19)) (fun x19 => ?_) (fun k20 h21 => ?_)
            · refine s_run X ok_X12_runJournal 24 1 (pc' := 66) (vs' := [some (.ref p0), some (.int p1), none, some (.int x12)]) (st' := [.int (x11 + x19)]) rfl ?_
              refine s_nmI (fun v22 => ?_)
              refine s_run X ok_X12_runJournal 25 3 (pc' := 69) (vs' := [some (.ref p0), some (.int p1), some (.int v22), some (.int x12)]) (st' := [.ref p0, .ref p0]) rfl ?_
              refine s_getI X fl_X12_78 t0_ (dk okd_X12_runJournal 13 rfl) (fun v23 => ?_)
              refine s_run X ok_X12_runJournal 28 2 (pc' := 74) (vs' := [some (.ref p0), some (.int p1), some (.int v22), some (.int x12)]) (st' := [.int (v23 + 1), .ref p0]) rfl ?_
              refine s_putI X fp_X12_78 t0_ (dk okd_X12_runJournal 14 rfl) (fun S24 => ?_)
              refine s_run X ok_X12_runJournal 30 2 (pc' := 36) (vs' := [some (.ref p0), some (.int p1), some (.int v22), some (.int (x12 + 1))]) (st' := []) rfl ?_
              exact h15 v22 (x12 + 1) S24
            · refine s_if_eq (tgt := 64) X (dk okd_X12_runJournal 12 rfl) (by decide) ?_ ?_
              · refine s_run X ok_X12_runJournal 23 1 (pc' := 65) (vs' := [some (.ref p0), some (.int p1), some (.int x11), some (.int x12)]) (st' := [.int 0, .int x11]) rfl ?_
                exact s_less [true, true, false, true] rfl (h21 0)
              · refine s_run X ok_X12_runJournal 21 2 (pc' := 65) (vs' := [some (.ref p0), some (.int p1), some (.int x11), some (.int x12)]) (st' := [.int 1, .int x11]) rfl ?_
                exact s_less [true, true, false, true] rfl (h21 1)
    · refine s_run X ok_X12_runJournal 10 1 (pc' := 31) (vs' := [some (.ref p0), some (.int p1), none, none]) (st' := [.int 0]) rfl ?_
      exact s_iret X hr (dk okd_X12_runJournal 6 rfl) rfl rfl
  · refine s_if_ne (tgt := 22) X (dk okd_X12_runJournal 3 rfl) (by decide) ?_ ?_
    · refine s_run X ok_X12_runJournal 8 1 (pc' := 23) (vs' := [some (.ref p0), some (.int p1), none, none]) (st' := [.int 0, .ref p0]) rfl ?_
      exact h5 0
    · refine s_run X ok_X12_runJournal 6 2 (pc' := 23) (vs' := [some (.ref p0), some (.int p1), none, none]) (st' := [.int 1, .ref p0]) rfl ?_
      exact h5 1
def tab_X12_find : List En := [(0, 8, 0, 0), (1, 0, 0, 0), (5, 3, 0, 0), (6, 12, 1, 0), (7, 8, 0, 0), (11, 31, 0, 0), (12, 3, 1, 0), (19, 10, 3, 0), (20, 0, 0, 0), (21, 11, 4, 0), (23, 5, 4, 0), (25, 8, 0, 0), (32, 4, 3, 0), (36, 8, 0, 0), (37, 5, 4, 0), (45, 10, 3, 0), (46, 6, 1, 0), (50, 25, 0, 0), (51, 8, 0, 0), (52, 5, 4, 0), (57, 31, 0, 0), (58, 23, 0, 0), (62, 24, 0, 0), (63, 12, 1, 0), (64, 16, 4, 1), (67, 41, 23, 0), (70, 8, 0, 0), (71, 0, 0, 0), (75, 4, 3, 0), (79, 8, 0, 0), (80, 0, 0, 0), (81, 6, 1, 0), (85, 41, 89, 0), (88, 0, 0, (-1))]
theorem ok_X12_find : tab_X12_find.all (okE cX12_find) = true := by decide +kernel
def ed_X12_find : List (Nat × Instr × Nat) := [(2, .putfield 50, 3), (8, .getfield 296, 3), (13, .ldc2_w 276, 3), (16, .invokestatic 53, 3), (26, .getfield 296, 3), (29, .if_icmp .ge 41, 3), (33, .ifCond .eq 37, 3), (39, .invokevirtual 316, 3), (42, .invokestatic 326, 3), (47, .ldc2_w 335, 3), (54, .invokevirtual 316, 3), (59, .ldc2_w 337, 3), (72, .putfield 296, 3), (76, .ifCond .eq 12, 3), (82, .invokevirtual 370, 3), (89, .ireturn, 1)]
theorem okd_X12_find : ed_X12_find.all (okD cX12_find) = true := by decide +kernel
def f_X12_find (S : St) (p0 : Nat) : Option (Int32 × St) := lt (uI S p0 2 0) fun (S1 : St) => lt (gI S1 p0 9) fun (v2 : Int32) => cl (f_X12_inRange S1 (Int32.toInt64 v2) 1 10) fun (v3 : Int32) => jn (κ := Int64 → Int32 → Option (Int32 × St)) (fun x4 x5 => lt (uI S1 p0 9 0) fun (S8 : St) => if x5 = 0 then (some ((-1), S8)) else (cl (f_X12_named S8 p0 0 x4) fun (v9 : Int32) => some (v9, S8))) fun k6 => lp (κ := Int64 → Int32 → Int32 → Option (Int32 × St)) (fun _ _ _ => none) (fun k13 x10 x11 x12 => lt (gI S1 p0 9) fun (v15 : Int32) => if v15 ≤ x12 then (k6 x10 x11) else (if x11 = 0 then (k6 x10 x11) else (cl (f_X12_byteAt S1 p0 x12) fun (v16 : Int32) => cl (f_X12_isLetter S1 v16) fun (v17 : Int32) => cl (f_X12_byteAt S1 p0 x12) fun (v18 : Int32) => lt (((x10 * 32) + (Int32.toInt64 v18)) - 96) fun (v19 : Int64) => k13 v19 v17 (x12 + 1)))) FU 0 v3 0
set_option maxHeartbeats 4000000 in
set_option maxRecDepth 100000 in
theorem c_X12_find (S : St) (p0 : Nat) : Ct yX12_find cX12_find 5 (some .int) 2 45 [.ref p0] [(p0, 11)] S (f_X12_find S p0) oIS sS := by
  refine Ct_of RX12 rfl (by decide) (Nat.le_of_ble_eq_true rfl) 4 (vs := [some (.ref p0), none, none, none, none]) rfl (fun C X E hr ht => ?_)
  have t0_ : tT C p0 11 := ht (p0, 11) (by simp)
  unfold f_X12_find
  refine s_run X ok_X12_find 0 2 (pc' := 2) (vs' := [some (.ref p0), none, none, none, none]) (st' := [.int 0, .ref p0]) rfl ?_
  refine s_putI X fp_X12_50 t0_ (dk okd_X12_find 0 rfl) (fun S1 => ?_)
  refine s_run X ok_X12_find 2 3 (pc' := 8) (vs' := [some (.ref p0), some (.long 0), none, none, none]) (st' := [.ref p0]) rfl ?_
  refine s_getI X fl_X12_296 t0_ (dk okd_X12_find 1 rfl) (fun v2 => ?_)
  refine s_run X ok_X12_find 5 2 (pc' := 13) (vs' := [some (.ref p0), some (.long 0), none, none, none]) (st' := [.long 1, .long (Int32.toInt64 v2)]) rfl ?_
  refine s_ldc2 X cl_X12_276 (dk okd_X12_find 2 rfl) ?_
  refine s_callS (rest := []) X E ms_X12_53 (c_X12_inRange S1 (Int32.toInt64 v2) 1 10) (ta0) rfl rfl (Nat.le_of_ble_eq_true rfl) (Nat.le_of_ble_eq_true rfl) (Nat.le_of_ble_eq_true rfl) (dk okd_X12_find 3 rfl) (st' := fun v3 => [.int v3]) (fun _ => rfl) (fun v3 => ?_)
  refine s_run X ok_X12_find 7 3 (pc' := 23) (vs' := [some (.ref p0), some (.long 0), none, some (.int v3), some (.int 0)]) (st' := []) rfl ?_
  refine s_jn (κ := Int64 → Int32 → Option (Int32 × St)) (fun k6 => ∀ (x4 : Int64) (x5 : Int32), Jd C 5 (QJ C oIS sS) S1 70 [some (.ref p0), some (.long x4), none, some (.int x5), none] [] (k6 x4 x5)) (fun x4 x5 => ?_) (fun k6 h7 => ?_)
  · refine s_run X ok_X12_find 26 2 (pc' := 72) (vs' := [some (.ref p0), some (.long x4), none, some (.int x5), none]) (st' := [.int 0, .ref p0]) rfl ?_
    refine s_putI X fp_X12_296 t0_ (dk okd_X12_find 12 rfl) (fun S8 => ?_)
    refine s_run X ok_X12_find 28 1 (pc' := 76) (vs' := [some (.ref p0), some (.long x4), none, some (.int x5), none]) (st' := [.int x5]) rfl ?_
    refine s_if_eq (tgt := 88) X (dk okd_X12_find 13 rfl) (by decide) ?_ ?_
    · refine s_run X ok_X12_find 33 1 (pc' := 89) (vs' := [some (.ref p0), some (.long x4), none, some (.int x5), none]) (st' := [.int (-1)]) rfl ?_
      exact s_iret X hr (dk okd_X12_find 15 rfl) rfl rfl
    · refine s_run X ok_X12_find 29 3 (pc' := 82) (vs' := [some (.ref p0), some (.long x4), none, some (.int x5), none]) (st' := [.long x4, .int 0, .ref p0]) rfl ?_
      refine s_callV (rest := []) X E mv_X12_370 (c_X12_named S8 p0 0 x4) (ta1 t0_) rfl (by decide) t0_ rfl rfl (Nat.le_of_ble_eq_true rfl) (Nat.le_of_ble_eq_true rfl) (Nat.le_of_ble_eq_true rfl) (dk okd_X12_find 14 rfl) (st' := fun v9 => [.int v9]) (fun _ => rfl) (fun v9 => ?_)
      refine s_run X ok_X12_find 32 1 (pc' := 89) (vs' := [some (.ref p0), some (.long x4), none, some (.int x5), none]) (st' := [.int v9]) rfl ?_
      exact s_iret X hr (dk okd_X12_find 15 rfl) rfl rfl
  · refine s_lp (κ := Int64 → Int32 → Int32 → Option (Int32 × St)) (fun k13 => ∀ (x10 : Int64) (x11 : Int32) (x12 : Int32), Jd C 5 (QJ C oIS sS) S1 23 [some (.ref p0), some (.long x10), none, some (.int x11), some (.int x12)] [] (k13 x10 x11 x12)) (fun _ _ _ => s_none) (fun k13 h14 x10 x11 x12 => ?_) FU 0 v3 0
    refine s_run X ok_X12_find 10 2 (pc' := 26) (vs' := [some (.ref p0), some (.long x10), none, some (.int x11), some (.int x12)]) (st' := [.ref p0, .int x12]) rfl ?_
    refine s_getI X fl_X12_296 t0_ (dk okd_X12_find 4 rfl) (fun v15 => ?_)
    refine s_icmp_ge (tgt := 70) X (dk okd_X12_find 5 rfl) (by decide) ?_ ?_
    · exact s_less [true, true, false, true, false] rfl (h7 x10 x11)
    · refine s_run X ok_X12_find 12 1 (pc' := 33) (vs' := [some (.ref p0), some (.long x10), none, some (.int x11), some (.int x12)]) (st' := [.int x11]) rfl ?_
      refine s_if_eq (tgt := 70) X (dk okd_X12_find 6 rfl) (by decide) ?_ ?_
      · exact s_less [true, true, false, true, false] rfl (h7 x10 x11)
      · refine s_run X ok_X12_find 13 2 (pc' := 39) (vs' := [some (.ref p0), some (.long x10), none, some (.int x11), some (.int x12)]) (st' := [.int x12, .ref p0]) rfl ?_
        refine s_callV (rest := []) X E mv_X12_316 (c_X12_byteAt S1 p0 x12) (ta1 t0_) rfl (by decide) t0_ rfl rfl (Nat.le_of_ble_eq_true rfl) (Nat.le_of_ble_eq_true rfl) (Nat.le_of_ble_eq_true rfl) (dk okd_X12_find 7 rfl) (st' := fun v16 => [.int v16]) (fun _ => rfl) (fun v16 => ?_)
        refine s_callS (rest := []) X E ms_X12_326 (c_X12_isLetter S1 v16) (ta0) rfl rfl (Nat.le_of_ble_eq_true rfl) (Nat.le_of_ble_eq_true rfl) (Nat.le_of_ble_eq_true rfl) (dk okd_X12_find 8 rfl) (st' := fun v17 => [.int v17]) (fun _ => rfl) (fun v17 => ?_)
        refine s_run X ok_X12_find 15 2 (pc' := 47) (vs' := [some (.ref p0), some (.long x10), none, some (.int v17), some (.int x12)]) (st' := [.long x10]) rfl ?_
        refine s_ldc2 X cl_X12_335 (dk okd_X12_find 9 rfl) ?_
        refine s_run X ok_X12_find 17 3 (pc' := 54) (vs' := [some (.ref p0), some (.long x10), none, some (.int v17), some (.int x12)]) (st' := [.int x12, .ref p0, .long (x10 * 32)]) rfl ?_
        refine s_callV (rest := [.long (x10 * 32)]) X E mv_X12_316 (c_X12_byteAt S1 p0 x12) (ta1 t0_) rfl (by decide) t0_ rfl rfl (Nat.le_of_ble_eq_true rfl) (Nat.le_of_ble_eq_true rfl) (Nat.le_of_ble_eq_true rfl) (dk okd_X12_find 10 rfl) (st' := fun v18 => [.int v18, .long (x10 * 32)]) (fun _ => rfl) (fun v18 => ?_)
        refine s_run X ok_X12_find 20 2 (pc' := 59) (vs' := [some (.ref p0), some (.long x10), none, some (.int v17), some (.int x12)]) (st' := [.long ((x10 * 32) + (Int32.toInt64 v18))]) rfl ?_
        refine s_ldc2 X cl_X12_337 (dk okd_X12_find 11 rfl) ?_
        refine s_run X ok_X12_find 22 1 (pc' := 63) (vs' := [some (.ref p0), some (.long x10), none, some (.int v17), some (.int x12)]) (st' := [.long (((x10 * 32) + (Int32.toInt64 v18)) - 96)]) rfl ?_
        refine s_nmJ (fun v19 => ?_)
        refine s_run X ok_X12_find 23 3 (pc' := 23) (vs' := [some (.ref p0), some (.long v19), none, some (.int v17), some (.int (x12 + 1))]) (st' := []) rfl ?_
        exact h14 v19 v17 (x12 + 1)
def tab_J9_abs_0f7a4 : List En := [(0, 4, 0, 0), (4, 4, 0, 0), (5, 22, 0, 0), (6, 41, 10, 0), (9, 4, 0, 0)]
theorem ok_J9_abs_0f7a4 : tab_J9_abs_0f7a4.all (okE cJ9_abs_0f7a4) = true := by decide +kernel
def ed_J9_abs_0f7a4 : List (Nat × Instr × Nat) := [(1, .ifCond .ge 8, 3), (10, .ireturn, 1)]
theorem okd_J9_abs_0f7a4 : ed_J9_abs_0f7a4.all (okD cJ9_abs_0f7a4) = true := by decide +kernel
def f_J9_abs_0f7a4 (S : St) (p0 : Int32) : Option (Int32) := if 0 ≤ p0 then (some p0) else (some (-p0))
set_option maxHeartbeats 4000000 in
set_option maxRecDepth 100000 in
theorem c_J9_abs_0f7a4 (S : St) (p0 : Int32) : Ct yJ9_abs_0f7a4 cJ9_abs_0f7a4 1 (some .int) 0 0 [.int p0] [] S (f_J9_abs_0f7a4 S p0) oI (fun _ => S) := by
  refine Ct_of RJ9 rfl (by decide) (Nat.le_of_ble_eq_true rfl) 0 (vs := [some (.int p0)]) rfl (fun C X E hr ht => ?_)
  unfold f_J9_abs_0f7a4
  refine s_run X ok_J9_abs_0f7a4 0 1 (pc' := 1) (vs' := [some (.int p0)]) (st' := [.int p0]) rfl ?_
  refine s_if_ge (tgt := 9) X (dk okd_J9_abs_0f7a4 0 rfl) (by decide) ?_ ?_
  · refine s_run X ok_J9_abs_0f7a4 4 1 (pc' := 10) (vs' := [some (.int p0)]) (st' := [.int p0]) rfl ?_
    exact s_iret X hr (dk okd_J9_abs_0f7a4 1 rfl) rfl rfl
  · refine s_run X ok_J9_abs_0f7a4 1 3 (pc' := 10) (vs' := [some (.int p0)]) (st' := [.int (-p0)]) rfl ?_
    exact s_iret X hr (dk okd_J9_abs_0f7a4 1 rfl) rfl rfl
def tab_J9_abs_067f4 : List En := [(0, 6, 0, 0), (1, 3, 0, 0), (2, 40, 0, 0), (6, 6, 0, 0), (7, 28, 0, 0), (8, 41, 12, 0), (11, 6, 0, 0)]
theorem ok_J9_abs_067f4 : tab_J9_abs_067f4.all (okE cJ9_abs_067f4) = true := by decide +kernel
def ed_J9_abs_067f4 : List (Nat × Instr × Nat) := [(3, .ifCond .ge 8, 3), (12, .lreturn, 1)]
theorem okd_J9_abs_067f4 : ed_J9_abs_067f4.all (okD cJ9_abs_067f4) = true := by decide +kernel
def f_J9_abs_067f4 (S : St) (p0 : Int64) : Option (Int64) := if 0 ≤ p0 then (some p0) else (some (-p0))
set_option maxHeartbeats 4000000 in
set_option maxRecDepth 100000 in
theorem c_J9_abs_067f4 (S : St) (p0 : Int64) : Ct yJ9_abs_067f4 cJ9_abs_067f4 2 (some .long) 0 0 [.long p0] [] S (f_J9_abs_067f4 S p0) oL (fun _ => S) := by
  refine Ct_of RJ9 rfl (by decide) (Nat.le_of_ble_eq_true rfl) 0 (vs := [some (.long p0), none]) rfl (fun C X E hr ht => ?_)
  unfold f_J9_abs_067f4
  refine s_run X ok_J9_abs_067f4 0 3 (pc' := 3) (vs' := [some (.long p0), none]) (st' := [.int (lg_cmp p0 0)]) rfl ?_
  refine s_lif_ge (tgt := 11) X (dk okd_J9_abs_067f4 0 rfl) (by decide) ?_ ?_
  · refine s_run X ok_J9_abs_067f4 6 1 (pc' := 12) (vs' := [some (.long p0), none]) (st' := [.long p0]) rfl ?_
    exact s_lret X hr (dk okd_J9_abs_067f4 1 rfl) rfl rfl
  · refine s_run X ok_J9_abs_067f4 3 3 (pc' := 12) (vs' := [some (.long p0), none]) (st' := [.long (-p0)]) rfl ?_
    exact s_lret X hr (dk okd_J9_abs_067f4 1 rfl) rfl rfl
def tab_J9_max_7cf53 : List En := [(0, 4, 0, 0), (1, 4, 1, 0), (5, 4, 0, 0), (6, 41, 10, 0), (9, 4, 1, 0)]
theorem ok_J9_max_7cf53 : tab_J9_max_7cf53.all (okE cJ9_max_7cf53) = true := by decide +kernel
def ed_J9_max_7cf53 : List (Nat × Instr × Nat) := [(2, .if_icmp .lt 7, 3), (10, .ireturn, 1)]
theorem okd_J9_max_7cf53 : ed_J9_max_7cf53.all (okD cJ9_max_7cf53) = true := by decide +kernel
def f_J9_max_7cf53 (S : St) (p0 : Int32) (p1 : Int32) : Option (Int32) := if p0 < p1 then (some p1) else (some p0)
set_option maxHeartbeats 4000000 in
set_option maxRecDepth 100000 in
theorem c_J9_max_7cf53 (S : St) (p0 : Int32) (p1 : Int32) : Ct yJ9_max_7cf53 cJ9_max_7cf53 2 (some .int) 0 0 [.int p0, .int p1] [] S (f_J9_max_7cf53 S p0 p1) oI (fun _ => S) := by
  refine Ct_of RJ9 rfl (by decide) (Nat.le_of_ble_eq_true rfl) 0 (vs := [some (.int p0), some (.int p1)]) rfl (fun C X E hr ht => ?_)
  unfold f_J9_max_7cf53
  refine s_run X ok_J9_max_7cf53 0 2 (pc' := 2) (vs' := [some (.int p0), some (.int p1)]) (st' := [.int p1, .int p0]) rfl ?_
  refine s_icmp_lt (tgt := 9) X (dk okd_J9_max_7cf53 0 rfl) (by decide) ?_ ?_
  · refine s_run X ok_J9_max_7cf53 4 1 (pc' := 10) (vs' := [some (.int p0), some (.int p1)]) (st' := [.int p1]) rfl ?_
    exact s_iret X hr (dk okd_J9_max_7cf53 1 rfl) rfl rfl
  · refine s_run X ok_J9_max_7cf53 2 2 (pc' := 10) (vs' := [some (.int p0), some (.int p1)]) (st' := [.int p0]) rfl ?_
    exact s_iret X hr (dk okd_J9_max_7cf53 1 rfl) rfl rfl
def tab_J9_max_f86c9 : List En := [(0, 6, 0, 0), (1, 6, 2, 0), (2, 40, 0, 0), (6, 6, 0, 0), (7, 41, 11, 0), (10, 6, 2, 0)]
theorem ok_J9_max_f86c9 : tab_J9_max_f86c9.all (okE cJ9_max_f86c9) = true := by decide +kernel
def ed_J9_max_f86c9 : List (Nat × Instr × Nat) := [(3, .ifCond .lt 7, 3), (11, .lreturn, 1)]
theorem okd_J9_max_f86c9 : ed_J9_max_f86c9.all (okD cJ9_max_f86c9) = true := by decide +kernel
def f_J9_max_f86c9 (S : St) (p0 : Int64) (p1 : Int64) : Option (Int64) := if p0 < p1 then (some p1) else (some p0)
set_option maxHeartbeats 4000000 in
set_option maxRecDepth 100000 in
theorem c_J9_max_f86c9 (S : St) (p0 : Int64) (p1 : Int64) : Ct yJ9_max_f86c9 cJ9_max_f86c9 4 (some .long) 0 0 [.long p0, .long p1] [] S (f_J9_max_f86c9 S p0 p1) oL (fun _ => S) := by
  refine Ct_of RJ9 rfl (by decide) (Nat.le_of_ble_eq_true rfl) 0 (vs := [some (.long p0), none, some (.long p1), none]) rfl (fun C X E hr ht => ?_)
  unfold f_J9_max_f86c9
  refine s_run X ok_J9_max_f86c9 0 3 (pc' := 3) (vs' := [some (.long p0), none, some (.long p1), none]) (st' := [.int (lg_cmp p0 p1)]) rfl ?_
  refine s_lif_lt (tgt := 10) X (dk okd_J9_max_f86c9 0 rfl) (by decide) ?_ ?_
  · refine s_run X ok_J9_max_f86c9 5 1 (pc' := 11) (vs' := [some (.long p0), none, some (.long p1), none]) (st' := [.long p1]) rfl ?_
    exact s_lret X hr (dk okd_J9_max_f86c9 1 rfl) rfl rfl
  · refine s_run X ok_J9_max_f86c9 3 2 (pc' := 11) (vs' := [some (.long p0), none, some (.long p1), none]) (st' := [.long p0]) rfl ?_
    exact s_lret X hr (dk okd_J9_max_f86c9 1 rfl) rfl rfl
def tab_J9_min_7cf53 : List En := [(0, 4, 0, 0), (1, 4, 1, 0), (5, 4, 0, 0), (6, 41, 10, 0), (9, 4, 1, 0)]
theorem ok_J9_min_7cf53 : tab_J9_min_7cf53.all (okE cJ9_min_7cf53) = true := by decide +kernel
def ed_J9_min_7cf53 : List (Nat × Instr × Nat) := [(2, .if_icmp .gt 7, 3), (10, .ireturn, 1)]
theorem okd_J9_min_7cf53 : ed_J9_min_7cf53.all (okD cJ9_min_7cf53) = true := by decide +kernel
def f_J9_min_7cf53 (S : St) (p0 : Int32) (p1 : Int32) : Option (Int32) := if p1 < p0 then (some p1) else (some p0)
set_option maxHeartbeats 4000000 in
set_option maxRecDepth 100000 in
theorem c_J9_min_7cf53 (S : St) (p0 : Int32) (p1 : Int32) : Ct yJ9_min_7cf53 cJ9_min_7cf53 2 (some .int) 0 0 [.int p0, .int p1] [] S (f_J9_min_7cf53 S p0 p1) oI (fun _ => S) := by
  refine Ct_of RJ9 rfl (by decide) (Nat.le_of_ble_eq_true rfl) 0 (vs := [some (.int p0), some (.int p1)]) rfl (fun C X E hr ht => ?_)
  unfold f_J9_min_7cf53
  refine s_run X ok_J9_min_7cf53 0 2 (pc' := 2) (vs' := [some (.int p0), some (.int p1)]) (st' := [.int p1, .int p0]) rfl ?_
  refine s_icmp_gt (tgt := 9) X (dk okd_J9_min_7cf53 0 rfl) (by decide) ?_ ?_
  · refine s_run X ok_J9_min_7cf53 4 1 (pc' := 10) (vs' := [some (.int p0), some (.int p1)]) (st' := [.int p1]) rfl ?_
    exact s_iret X hr (dk okd_J9_min_7cf53 1 rfl) rfl rfl
  · refine s_run X ok_J9_min_7cf53 2 2 (pc' := 10) (vs' := [some (.int p0), some (.int p1)]) (st' := [.int p0]) rfl ?_
    exact s_iret X hr (dk okd_J9_min_7cf53 1 rfl) rfl rfl
def tab_J9_min_f86c9 : List En := [(0, 6, 0, 0), (1, 6, 2, 0), (2, 40, 0, 0), (6, 6, 0, 0), (7, 41, 11, 0), (10, 6, 2, 0)]
theorem ok_J9_min_f86c9 : tab_J9_min_f86c9.all (okE cJ9_min_f86c9) = true := by decide +kernel
def ed_J9_min_f86c9 : List (Nat × Instr × Nat) := [(3, .ifCond .gt 7, 3), (11, .lreturn, 1)]
theorem okd_J9_min_f86c9 : ed_J9_min_f86c9.all (okD cJ9_min_f86c9) = true := by decide +kernel
def f_J9_min_f86c9 (S : St) (p0 : Int64) (p1 : Int64) : Option (Int64) := if p1 < p0 then (some p1) else (some p0)
set_option maxHeartbeats 4000000 in
set_option maxRecDepth 100000 in
theorem c_J9_min_f86c9 (S : St) (p0 : Int64) (p1 : Int64) : Ct yJ9_min_f86c9 cJ9_min_f86c9 4 (some .long) 0 0 [.long p0, .long p1] [] S (f_J9_min_f86c9 S p0 p1) oL (fun _ => S) := by
  refine Ct_of RJ9 rfl (by decide) (Nat.le_of_ble_eq_true rfl) 0 (vs := [some (.long p0), none, some (.long p1), none]) rfl (fun C X E hr ht => ?_)
  unfold f_J9_min_f86c9
  refine s_run X ok_J9_min_f86c9 0 3 (pc' := 3) (vs' := [some (.long p0), none, some (.long p1), none]) (st' := [.int (lg_cmp p0 p1)]) rfl ?_
  refine s_lif_gt (tgt := 10) X (dk okd_J9_min_f86c9 0 rfl) (by decide) ?_ ?_
  · refine s_run X ok_J9_min_f86c9 5 1 (pc' := 11) (vs' := [some (.long p0), none, some (.long p1), none]) (st' := [.long p1]) rfl ?_
    exact s_lret X hr (dk okd_J9_min_f86c9 1 rfl) rfl rfl
  · refine s_run X ok_J9_min_f86c9 3 2 (pc' := 11) (vs' := [some (.long p0), none, some (.long p1), none]) (st' := [.long p0]) rfl ?_
    exact s_lret X hr (dk okd_J9_min_f86c9 1 rfl) rfl rfl
def tab_J2_length_9d52b : List En := [(0, 8, 0, 0), (2, 0, 0, 1), (3, 30, 0, 0)]
theorem ok_J2_length_9d52b : tab_J2_length_9d52b.all (okE cJ2_length_9d52b) = true := by decide +kernel
def ed_J2_length_9d52b : List (Nat × Instr × Nat) := [(1, .arraylength, 1), (4, .ireturn, 1)]
theorem okd_J2_length_9d52b : ed_J2_length_9d52b.all (okD cJ2_length_9d52b) = true := by decide +kernel
def f_J2_length_9d52b (S : St) (p0 : Nat) : Option (Int32) := lt (nI (gN S p0)) fun (v1 : Int32) => some (v1 >>> (1 &&& 31))
set_option maxHeartbeats 4000000 in
set_option maxRecDepth 100000 in
theorem c_J2_length_9d52b (S : St) (p0 : Nat) : Ct yJ2_length_9d52b cJ2_length_9d52b 1 (some .int) 0 0 [.ref p0] [(p0, 12)] S (f_J2_length_9d52b S p0) oI (fun _ => S) := by
  refine Ct_of RJ2 rfl (by decide) (Nat.le_of_ble_eq_true rfl) 0 (vs := [some (.ref p0)]) rfl (fun C X E hr ht => ?_)
  have t0_ : tT C p0 12 := ht (p0, 12) (by simp)
  unfold f_J2_length_9d52b
  refine s_run X ok_J2_length_9d52b 0 1 (pc' := 1) (vs' := [some (.ref p0)]) (st' := [.ref p0]) rfl ?_
  refine s_alen12 X t0_ (dk okd_J2_length_9d52b 0 rfl) (fun v1 => ?_)
  refine s_run X ok_J2_length_9d52b 1 2 (pc' := 4) (vs' := [some (.ref p0)]) (st' := [.int (v1 >>> (1 &&& 31))]) rfl ?_
  exact s_iret X hr (dk okd_J2_length_9d52b 1 rfl) rfl rfl
def tab_J7_fill_d0a16 : List En := [(0, 0, 0, 0), (1, 10, 3, 0), (2, 8, 0, 0), (4, 11, 4, 0), (6, 4, 3, 0), (7, 5, 4, 0), (12, 8, 0, 0), (13, 4, 3, 0), (14, 6, 1, 0), (16, 16, 3, 1), (19, 41, 6, 0)]
theorem ok_J7_fill_d0a16 : tab_J7_fill_d0a16.all (okE cJ7_fill_d0a16) = true := by decide +kernel
def ed_J7_fill_d0a16 : List (Nat × Instr × Nat) := [(3, .arraylength, 1), (9, .if_icmp .ge 13, 3), (15, .lastore, 1), (22, .return_, 1)]
theorem okd_J7_fill_d0a16 : ed_J7_fill_d0a16.all (okD cJ7_fill_d0a16) = true := by decide +kernel
def f_J7_fill_d0a16 (S : St) (p0 : Nat) (p1 : Int64) : Option (St) := lt (nI (gN S p0)) fun (v1 : Int32) => lp (κ := Int32 → St → Option (St)) (fun _ _ => none) (fun k4 x2 S3 => if v1 ≤ x2 then (some S3) else (stJ S3 p0 x2 p1 fun (S6 : St) => k4 (x2 + 1) S6)) FU 0 S
set_option maxHeartbeats 4000000 in
set_option maxRecDepth 100000 in
theorem c_J7_fill_d0a16 (S : St) (p0 : Nat) (p1 : Int64) : Ct yJ7_fill_d0a16 cJ7_fill_d0a16 5 none 0 0 [.ref p0, .long p1] [(p0, 14)] S (f_J7_fill_d0a16 S p0 p1) oV sV := by
  refine Ct_of RJ7 rfl (by decide) (Nat.le_of_ble_eq_true rfl) 2 (vs := [some (.ref p0), some (.long p1), none, none, none]) rfl (fun C X E hr ht => ?_)
  have t0_ : tT C p0 14 := ht (p0, 14) (by simp)
  unfold f_J7_fill_d0a16
  refine s_run X ok_J7_fill_d0a16 0 3 (pc' := 3) (vs' := [some (.ref p0), some (.long p1), none, some (.int 0), none]) (st' := [.ref p0]) rfl ?_
  refine s_alen14 X t0_ (dk okd_J7_fill_d0a16 0 rfl) (fun v1 => ?_)
  refine s_run X ok_J7_fill_d0a16 3 1 (pc' := 6) (vs' := [some (.ref p0), some (.long p1), none, some (.int 0), some (.int v1)]) (st' := []) rfl ?_
  refine s_lp (κ := Int32 → St → Option (St)) (fun k4 => ∀ (x2 : Int32) (S3 : St), Jd C 5 (QJ C oV sV) S3 6 [some (.ref p0), some (.long p1), none, some (.int x2), some (.int v1)] [] (k4 x2 S3)) (fun _ _ => s_none) (fun k4 h5 x2 S3 => ?_) FU 0 S
  refine s_run X ok_J7_fill_d0a16 4 2 (pc' := 9) (vs' := [some (.ref p0), some (.long p1), none, some (.int x2), some (.int v1)]) (st' := [.int v1, .int x2]) rfl ?_
  refine s_icmp_ge (tgt := 22) X (dk okd_J7_fill_d0a16 1 rfl) (by decide) ?_ ?_
  · exact s_vret X hr (dk okd_J7_fill_d0a16 3 rfl) rfl rfl
  · refine s_run X ok_J7_fill_d0a16 6 3 (pc' := 15) (vs' := [some (.ref p0), some (.long p1), none, some (.int x2), some (.int v1)]) (st' := [.long p1, .int x2, .ref p0]) rfl ?_
    refine s_last X t0_ (dk okd_J7_fill_d0a16 2 rfl) (fun S6 => ?_)
    refine s_run X ok_J7_fill_d0a16 9 2 (pc' := 6) (vs' := [some (.ref p0), some (.long p1), none, some (.int (x2 + 1)), some (.int v1)]) (st' := []) rfl ?_
    exact h5 (x2 + 1) S6
def tab_J7_fill_53178 : List En := [(0, 0, 0, 0), (1, 10, 2, 0), (2, 8, 0, 0), (4, 10, 3, 0), (5, 4, 2, 0), (6, 4, 3, 0), (10, 8, 0, 0), (11, 4, 2, 0), (12, 4, 1, 0), (14, 16, 2, 1), (17, 41, 5, 0)]
theorem ok_J7_fill_53178 : tab_J7_fill_53178.all (okE cJ7_fill_53178) = true := by decide +kernel
def ed_J7_fill_53178 : List (Nat × Instr × Nat) := [(3, .arraylength, 1), (7, .if_icmp .ge 13, 3), (13, .iastore, 1), (20, .return_, 1)]
theorem okd_J7_fill_53178 : ed_J7_fill_53178.all (okD cJ7_fill_53178) = true := by decide +kernel
def f_J7_fill_53178 (S : St) (p0 : Nat) (p1 : Int32) : Option (St) := lt (nI (gN S p0)) fun (v1 : Int32) => lp (κ := Int32 → St → Option (St)) (fun _ _ => none) (fun k4 x2 S3 => if v1 ≤ x2 then (some S3) else (stI S3 p0 x2 p1 fun (S6 : St) => k4 (x2 + 1) S6)) FU 0 S
set_option maxHeartbeats 4000000 in
set_option maxRecDepth 100000 in
theorem c_J7_fill_53178 (S : St) (p0 : Nat) (p1 : Int32) : Ct yJ7_fill_53178 cJ7_fill_53178 4 none 0 0 [.ref p0, .int p1] [(p0, 13)] S (f_J7_fill_53178 S p0 p1) oV sV := by
  refine Ct_of RJ7 rfl (by decide) (Nat.le_of_ble_eq_true rfl) 2 (vs := [some (.ref p0), some (.int p1), none, none]) rfl (fun C X E hr ht => ?_)
  have t0_ : tT C p0 13 := ht (p0, 13) (by simp)
  unfold f_J7_fill_53178
  refine s_run X ok_J7_fill_53178 0 3 (pc' := 3) (vs' := [some (.ref p0), some (.int p1), some (.int 0), none]) (st' := [.ref p0]) rfl ?_
  refine s_alen13 X t0_ (dk okd_J7_fill_53178 0 rfl) (fun v1 => ?_)
  refine s_run X ok_J7_fill_53178 3 1 (pc' := 5) (vs' := [some (.ref p0), some (.int p1), some (.int 0), some (.int v1)]) (st' := []) rfl ?_
  refine s_lp (κ := Int32 → St → Option (St)) (fun k4 => ∀ (x2 : Int32) (S3 : St), Jd C 4 (QJ C oV sV) S3 5 [some (.ref p0), some (.int p1), some (.int x2), some (.int v1)] [] (k4 x2 S3)) (fun _ _ => s_none) (fun k4 h5 x2 S3 => ?_) FU 0 S
  refine s_run X ok_J7_fill_53178 4 2 (pc' := 7) (vs' := [some (.ref p0), some (.int p1), some (.int x2), some (.int v1)]) (st' := [.int v1, .int x2]) rfl ?_
  refine s_icmp_ge (tgt := 20) X (dk okd_J7_fill_53178 1 rfl) (by decide) ?_ ?_
  · exact s_vret X hr (dk okd_J7_fill_53178 3 rfl) rfl rfl
  · refine s_run X ok_J7_fill_53178 6 3 (pc' := 13) (vs' := [some (.ref p0), some (.int p1), some (.int x2), some (.int v1)]) (st' := [.int p1, .int x2, .ref p0]) rfl ?_
    refine s_iast X t0_ (dk okd_J7_fill_53178 2 rfl) (fun S6 => ?_)
    refine s_run X ok_J7_fill_53178 9 2 (pc' := 5) (vs' := [some (.ref p0), some (.int p1), some (.int (x2 + 1)), some (.int v1)]) (st' := []) rfl ?_
    exact h5 (x2 + 1) S6
def tab_X0_clear : List En := [(0, 8, 0, 0), (4, 3, 0, 0), (8, 8, 0, 0), (12, 3, 0, 0), (16, 8, 0, 0), (20, 3, 0, 0), (24, 8, 0, 0), (28, 3, 0, 0), (32, 8, 0, 0), (33, 0, 0, 0)]
theorem ok_X0_clear : tab_X0_clear.all (okE cX0_clear) = true := by decide +kernel
def ed_X0_clear : List (Nat × Instr × Nat) := [(1, .getfield 18, 3), (5, .invokestatic 30, 3), (9, .getfield 21, 3), (13, .invokestatic 30, 3), (17, .getfield 24, 3), (21, .invokestatic 30, 3), (25, .getfield 27, 3), (29, .invokestatic 30, 3), (34, .putfield 36, 3), (37, .return_, 1)]
theorem okd_X0_clear : ed_X0_clear.all (okD cX0_clear) = true := by decide +kernel
def f_X0_clear (S : St) (p0 : Nat) : Option (St) := lt (gR S p0 2) fun (a1 : Nat) => cl (f_J7_fill_d0a16 S a1 0) fun (S3 : St) => lt (gR S3 p0 3) fun (a4 : Nat) => cl (f_J7_fill_d0a16 S3 a4 0) fun (S6 : St) => lt (gR S6 p0 4) fun (a7 : Nat) => cl (f_J7_fill_d0a16 S6 a7 0) fun (S9 : St) => lt (gR S9 p0 5) fun (a10 : Nat) => cl (f_J7_fill_d0a16 S9 a10 0) fun (S12 : St) => lt (uI S12 p0 6 0) fun (S13 : St) => some S13
set_option maxHeartbeats 4000000 in
set_option maxRecDepth 100000 in
theorem c_X0_clear (S : St) (p0 : Nat) : Ct yX0_clear cX0_clear 1 none 1 24 [.ref p0] [(p0, 0)] S (f_X0_clear S p0) oV sV := by
  refine Ct_of RX0 rfl (by decide) (Nat.le_of_ble_eq_true rfl) 0 (vs := [some (.ref p0)]) rfl (fun C X E hr ht => ?_)
  have t0_ : tT C p0 0 := ht (p0, 0) (by simp)
  unfold f_X0_clear
  refine s_run X ok_X0_clear 0 1 (pc' := 1) (vs' := [some (.ref p0)]) (st' := [.ref p0]) rfl ?_
  refine s_getR X fl_X0_18 t0_ (dk okd_X0_clear 0 rfl) (fun a1 (t2 : tT C a1 14) => ?_)
  refine s_run X ok_X0_clear 1 1 (pc' := 5) (vs' := [some (.ref p0)]) (st' := [.long 0, .ref a1]) rfl ?_
  refine s_callS (rest := []) X E ms_X0_30 (c_J7_fill_d0a16 S a1 0) (ta1 t2) rfl rfl (Nat.le_of_ble_eq_true rfl) (Nat.le_of_ble_eq_true rfl) (Nat.le_of_ble_eq_true rfl) (dk okd_X0_clear 1 rfl) (st' := fun S3 => []) (fun _ => rfl) (fun S3 => ?_)
  refine s_run X ok_X0_clear 2 1 (pc' := 9) (vs' := [some (.ref p0)]) (st' := [.ref p0]) rfl ?_
  refine s_getR X fl_X0_21 t0_ (dk okd_X0_clear 2 rfl) (fun a4 (t5 : tT C a4 14) => ?_)
  refine s_run X ok_X0_clear 3 1 (pc' := 13) (vs' := [some (.ref p0)]) (st' := [.long 0, .ref a4]) rfl ?_
  refine s_callS (rest := []) X E ms_X0_30 (c_J7_fill_d0a16 S3 a4 0) (ta1 t5) rfl rfl (Nat.le_of_ble_eq_true rfl) (Nat.le_of_ble_eq_true rfl) (Nat.le_of_ble_eq_true rfl) (dk okd_X0_clear 3 rfl) (st' := fun S6 => []) (fun _ => rfl) (fun S6 => ?_)
  refine s_run X ok_X0_clear 4 1 (pc' := 17) (vs' := [some (.ref p0)]) (st' := [.ref p0]) rfl ?_
  refine s_getR X fl_X0_24 t0_ (dk okd_X0_clear 4 rfl) (fun a7 (t8 : tT C a7 14) => ?_)
  refine s_run X ok_X0_clear 5 1 (pc' := 21) (vs' := [some (.ref p0)]) (st' := [.long 0, .ref a7]) rfl ?_
  refine s_callS (rest := []) X E ms_X0_30 (c_J7_fill_d0a16 S6 a7 0) (ta1 t8) rfl rfl (Nat.le_of_ble_eq_true rfl) (Nat.le_of_ble_eq_true rfl) (Nat.le_of_ble_eq_true rfl) (dk okd_X0_clear 5 rfl) (st' := fun S9 => []) (fun _ => rfl) (fun S9 => ?_)
  refine s_run X ok_X0_clear 6 1 (pc' := 25) (vs' := [some (.ref p0)]) (st' := [.ref p0]) rfl ?_
  refine s_getR X fl_X0_27 t0_ (dk okd_X0_clear 6 rfl) (fun a10 (t11 : tT C a10 14) => ?_)
  refine s_run X ok_X0_clear 7 1 (pc' := 29) (vs' := [some (.ref p0)]) (st' := [.long 0, .ref a10]) rfl ?_
  refine s_callS (rest := []) X E ms_X0_30 (c_J7_fill_d0a16 S9 a10 0) (ta1 t11) rfl rfl (Nat.le_of_ble_eq_true rfl) (Nat.le_of_ble_eq_true rfl) (Nat.le_of_ble_eq_true rfl) (dk okd_X0_clear 7 rfl) (st' := fun S12 => []) (fun _ => rfl) (fun S12 => ?_)
  refine s_run X ok_X0_clear 8 2 (pc' := 34) (vs' := [some (.ref p0)]) (st' := [.int 0, .ref p0]) rfl ?_
  refine s_putI X fp_X0_36 t0_ (dk okd_X0_clear 8 rfl) (fun S13 => ?_)
  exact s_vret X hr (dk okd_X0_clear 9 rfl) rfl rfl
def tab_X0_ranksBefore : List En := [(0, 8, 0, 0), (1, 4, 1, 0), (5, 12, 3, 0), (6, 8, 0, 0), (7, 4, 2, 0), (11, 13, 5, 0), (13, 6, 3, 0), (14, 7, 5, 0), (16, 40, 0, 0), (20, 6, 3, 0), (21, 7, 5, 0), (23, 40, 0, 0), (27, 4, 1, 0), (28, 4, 2, 0), (32, 0, 0, 1), (33, 41, 37, 0), (36, 0, 0, 0)]
theorem ok_X0_ranksBefore : tab_X0_ranksBefore.all (okE cX0_ranksBefore) = true := by decide +kernel
def ed_X0_ranksBefore : List (Nat × Instr × Nat) := [(2, .invokevirtual 62, 3), (8, .invokevirtual 62, 3), (17, .ifCond .gt 15, 3), (24, .ifCond .ne 12, 3), (29, .if_icmp .ge 7, 3), (37, .ireturn, 1)]
theorem okd_X0_ranksBefore : ed_X0_ranksBefore.all (okD cX0_ranksBefore) = true := by decide +kernel
def f_X0_ranksBefore (S : St) (p0 : Nat) (p1 : Int32) (p2 : Int32) : Option (Int32) := cl (f_X0_salesOfAllMonths S p0 p1) fun (v1 : Int64) => cl (f_X0_salesOfAllMonths S p0 p2) fun (v2 : Int64) => jn (κ := Option (Int32)) (some 1) fun k3 => if v2 < v1 then (k3) else (jn (κ := Option (Int32)) (some 0) fun k5 => if v1 = v2 then (if p2 ≤ p1 then (k5) else (k3)) else (k5))
set_option maxHeartbeats 4000000 in
set_option maxRecDepth 100000 in
theorem c_X0_ranksBefore (S : St) (p0 : Nat) (p1 : Int32) (p2 : Int32) : Ct yX0_ranksBefore cX0_ranksBefore 7 (some .boolean) 3 67 [.ref p0, .int p1, .int p2] [(p0, 0)] S (f_X0_ranksBefore S p0 p1 p2) oI (fun _ => S) := by
  refine Ct_of RX0 rfl (by decide) (Nat.le_of_ble_eq_true rfl) 4 (vs := [some (.ref p0), some (.int p1), some (.int p2), none, none, none, none]) rfl (fun C X E hr ht => ?_)
  have t0_ : tT C p0 0 := ht (p0, 0) (by simp)
  unfold f_X0_ranksBefore
  refine s_run X ok_X0_ranksBefore 0 2 (pc' := 2) (vs' := [some (.ref p0), some (.int p1), some (.int p2), none, none, none, none]) (st' := [.int p1, .ref p0]) rfl ?_
  refine s_callV (rest := []) X E mv_X0_62 (c_X0_salesOfAllMonths S p0 p1) (ta1 t0_) rfl (by decide) t0_ rfl rfl (Nat.le_of_ble_eq_true rfl) (Nat.le_of_ble_eq_true rfl) (Nat.le_of_ble_eq_true rfl) (dk okd_X0_ranksBefore 0 rfl) (st' := fun v1 => [.long v1]) (fun _ => rfl) (fun v1 => ?_)
  refine s_run X ok_X0_ranksBefore 2 3 (pc' := 8) (vs' := [some (.ref p0), some (.int p1), some (.int p2), some (.long v1), none, none, none]) (st' := [.int p2, .ref p0]) rfl ?_
  refine s_callV (rest := []) X E mv_X0_62 (c_X0_salesOfAllMonths S p0 p2) (ta1 t0_) rfl (by decide) t0_ rfl rfl (Nat.le_of_ble_eq_true rfl) (Nat.le_of_ble_eq_true rfl) (Nat.le_of_ble_eq_true rfl) (dk okd_X0_ranksBefore 1 rfl) (st' := fun v2 => [.long v2]) (fun _ => rfl) (fun v2 => ?_)
  refine s_run X ok_X0_ranksBefore 5 4 (pc' := 17) (vs' := [some (.ref p0), some (.int p1), some (.int p2), some (.long v1), none, some (.long v2), none]) (st' := [.int (lg_cmp v1 v2)]) rfl ?_
  refine s_jn (κ := Option (Int32)) (fun k3 => Jd C 7 (QJ C oI (fun _ => S)) S 32 [none, none, none, none, none, none, none] [] k3) ?_ (fun k3 h4 => ?_)
  · refine s_run X ok_X0_ranksBefore 14 2 (pc' := 37) (vs' := [none, none, none, none, none, none, none]) (st' := [.int 1]) rfl ?_
    exact s_zret0 X hr (dk okd_X0_ranksBefore 5 rfl) (by decide) rfl rfl
  · refine s_lif_gt (tgt := 32) X (dk okd_X0_ranksBefore 2 rfl) (by decide) ?_ ?_
    · exact s_less [false, false, false, false, false, false, false] rfl (h4)
    · refine s_run X ok_X0_ranksBefore 9 3 (pc' := 24) (vs' := [some (.ref p0), some (.int p1), some (.int p2), some (.long v1), none, some (.long v2), none]) (st' := [.int (lg_cmp v1 v2)]) rfl ?_
      refine s_jn (κ := Option (Int32)) (fun k5 => Jd C 7 (QJ C oI (fun _ => S)) S 36 [none, none, none, none, none, none, none] [] k5) ?_ (fun k5 h6 => ?_)
      · refine s_run X ok_X0_ranksBefore 16 1 (pc' := 37) (vs' := [none, none, none, none, none, none, none]) (st' := [.int 0]) rfl ?_
        exact s_zret0 X hr (dk okd_X0_ranksBefore 5 rfl) (by decide) rfl rfl
      · refine s_lif_ne (tgt := 36) X (dk okd_X0_ranksBefore 3 rfl) (by decide) ?_ ?_
        · exact s_less [false, false, false, false, false, false, false] rfl (h6)
        · refine s_run X ok_X0_ranksBefore 12 2 (pc' := 29) (vs' := [some (.ref p0), some (.int p1), some (.int p2), some (.long v1), none, some (.long v2), none]) (st' := [.int p2, .int p1]) rfl ?_
          refine s_icmp_ge (tgt := 36) X (dk okd_X0_ranksBefore 4 rfl) (by decide) ?_ ?_
          · exact s_less [false, false, false, false, false, false, false] rfl (h6)
          · exact s_less [false, false, false, false, false, false, false] rfl (h4)
def tab_X0_forgetDeliveries : List En := [(0, 8, 0, 0), (4, 3, 0, 0)]
theorem ok_X0_forgetDeliveries : tab_X0_forgetDeliveries.all (okE cX0_forgetDeliveries) = true := by decide +kernel
def ed_X0_forgetDeliveries : List (Nat × Instr × Nat) := [(1, .getfield 18, 3), (5, .invokestatic 30, 3), (8, .return_, 1)]
theorem okd_X0_forgetDeliveries : ed_X0_forgetDeliveries.all (okD cX0_forgetDeliveries) = true := by decide +kernel
def f_X0_forgetDeliveries (S : St) (p0 : Nat) : Option (St) := lt (gR S p0 2) fun (a1 : Nat) => cl (f_J7_fill_d0a16 S a1 0) fun (S3 : St) => some S3
set_option maxHeartbeats 4000000 in
set_option maxRecDepth 100000 in
theorem c_X0_forgetDeliveries (S : St) (p0 : Nat) : Ct yX0_forgetDeliveries cX0_forgetDeliveries 1 none 1 24 [.ref p0] [(p0, 0)] S (f_X0_forgetDeliveries S p0) oV sV := by
  refine Ct_of RX0 rfl (by decide) (Nat.le_of_ble_eq_true rfl) 0 (vs := [some (.ref p0)]) rfl (fun C X E hr ht => ?_)
  have t0_ : tT C p0 0 := ht (p0, 0) (by simp)
  unfold f_X0_forgetDeliveries
  refine s_run X ok_X0_forgetDeliveries 0 1 (pc' := 1) (vs' := [some (.ref p0)]) (st' := [.ref p0]) rfl ?_
  refine s_getR X fl_X0_18 t0_ (dk okd_X0_forgetDeliveries 0 rfl) (fun a1 (t2 : tT C a1 14) => ?_)
  refine s_run X ok_X0_forgetDeliveries 1 1 (pc' := 5) (vs' := [some (.ref p0)]) (st' := [.long 0, .ref a1]) rfl ?_
  refine s_callS (rest := []) X E ms_X0_30 (c_J7_fill_d0a16 S a1 0) (ta1 t2) rfl rfl (Nat.le_of_ble_eq_true rfl) (Nat.le_of_ble_eq_true rfl) (Nat.le_of_ble_eq_true rfl) (dk okd_X0_forgetDeliveries 1 rfl) (st' := fun S3 => []) (fun _ => rfl) (fun S3 => ?_)
  exact s_vret X hr (dk okd_X0_forgetDeliveries 2 rfl) rfl rfl
def tab_X1_addDelivery : List En := [(0, 8, 0, 0), (7, 4, 1, 0), (9, 11, 6, 0), (11, 5, 6, 0), (13, 0, 0, (-1)), (21, 8, 0, 0), (28, 4, 1, 0), (30, 7, 4, 0), (32, 23, 0, 0), (36, 40, 0, 0), (44, 8, 0, 0), (51, 4, 1, 0), (52, 37, 0, 0), (54, 7, 4, 0), (56, 23, 0, 0), (58, 8, 0, 0), (62, 4, 2, 0), (63, 4, 3, 0), (67, 11, 7, 0), (69, 5, 7, 0), (71, 5, 6, 0), (76, 8, 0, 0), (80, 5, 6, 0), (88, 8, 0, 0), (92, 5, 7, 0), (100, 8, 0, 0), (104, 5, 6, 0), (106, 5, 7, 0), (108, 7, 4, 0), (113, 8, 0, 0), (120, 4, 1, 0)]
theorem ok_X1_addDelivery : tab_X1_addDelivery.all (okE cX1_addDelivery) = true := by decide +kernel
def ed_X1_addDelivery : List (Nat × Instr × Nat) := [(1, .getfield 28, 3), (4, .getfield 95, 3), (8, .iaload, 1), (14, .if_icmp .ne 7, 3), (17, .ldc2_w 99, 3), (20, .lreturn, 1), (22, .getfield 28, 3), (25, .getfield 101, 3), (29, .laload, 1), (33, .ldc2_w 104, 3), (37, .ifCond .le 7, 3), (40, .ldc2_w 106, 3), (43, .lreturn, 1), (45, .getfield 28, 3), (48, .getfield 101, 3), (53, .laload, 1), (57, .lastore, 1), (59, .getfield 21, 3), (64, .invokevirtual 84, 3), (73, .if_icmp .eq 40, 3), (77, .getfield 35, 3), (82, .invokevirtual 108, 3), (85, .ifCond .eq 28, 3), (89, .getfield 35, 3), (94, .invokevirtual 108, 3), (97, .ifCond .eq 16, 3), (101, .getfield 49, 3), (110, .invokevirtual 112, 3), (114, .getfield 28, 3), (117, .getfield 101, 3), (121, .laload, 1), (122, .lreturn, 1)]
theorem okd_X1_addDelivery : ed_X1_addDelivery.all (okD cX1_addDelivery) = true := by decide +kernel
def f_X1_addDelivery (S : St) (p0 : Nat) (p1 : Int32) (p2 : Int32) (p3 : Int32) (p4 : Int64) : Option (Int64 × St) := lt (gR S p0 2) fun (a1 : Nat) => lt (gR S a1 0) fun (a3 : Nat) => ldI S a3 p1 fun (v5 : Int32) => if v5 = (-1) then (some ((-1), S)) else (lt (gR S p0 2) fun (a6 : Nat) => lt (gR S a6 3) fun (a8 : Nat) => ldJ S a8 p1 fun (v10 : Int64) => if (v10 + p4) ≤ 10000000 then (lt (gR S p0 2) fun (a11 : Nat) => lt (gR S a11 3) fun (a13 : Nat) => ldJ S a13 p1 fun (v15 : Int64) => stJ S a13 p1 (v15 + p4) fun (S16 : St) => lt (gR S16 p0 1) fun (a17 : Nat) => cl (f_X3_ownerAt S16 a17 p2 p3) fun (v19 : Int32) => jn (κ := St → Option (Int64 × St)) (fun S20 => lt (gR S20 p0 2) fun (a23 : Nat) => lt (gR S20 a23 3) fun (a25 : Nat) => ldJ S20 a25 p1 fun (v27 : Int64) => some (v27, S20)) fun k21 => if v19 = v5 then (k21 S16) else (lt (gR S16 p0 3) fun (a28 : Nat) => cl (f_X2_isActive S16 a28 v5) fun (v30 : Int32) => if v30 = 0 then (k21 S16) else (lt (gR S16 p0 3) fun (a31 : Nat) => cl (f_X2_isActive S16 a31 v19) fun (v33 : Int32) => if v33 = 0 then (k21 S16) else (lt (gR S16 p0 5) fun (a34 : Nat) => cl (f_X0_addDelivered S16 a34 v5 v19 p4) fun (S36 : St) => k21 S36)))) else (some ((-3), S)))
set_option maxHeartbeats 4000000 in
set_option maxRecDepth 100000 in
theorem c_X1_addDelivery (S : St) (p0 : Nat) (p1 : Int32) (p2 : Int32) (p3 : Int32) (p4 : Int64) : Ct yX1_addDelivery cX1_addDelivery 8 (some .long) 2 43 [.ref p0, .int p1, .int p2, .int p3, .long p4] [(p0, 1)] S (f_X1_addDelivery S p0 p1 p2 p3 p4) oLS sL := by
  refine Ct_of RX1 rfl (by decide) (Nat.le_of_ble_eq_true rfl) 2 (vs := [some (.ref p0), some (.int p1), some (.int p2), some (.int p3), some (.long p4), none, none, none]) rfl (fun C X E hr ht => ?_)
  have t0_ : tT C p0 1 := ht (p0, 1) (by simp)
  unfold f_X1_addDelivery
  refine s_run X ok_X1_addDelivery 0 1 (pc' := 1) (vs' := [some (.ref p0), some (.int p1), some (.int p2), some (.int p3), some (.long p4), none, none, none]) (st' := [.ref p0]) rfl ?_
  refine s_getR X fl_X1_28 t0_ (dk okd_X1_addDelivery 0 rfl) (fun a1 (t2 : tT C a1 6) => ?_)
  refine s_getR X fl_X1_95 t2 (dk okd_X1_addDelivery 1 rfl) (fun a3 (t4 : tT C a3 13) => ?_)
  refine s_run X ok_X1_addDelivery 1 1 (pc' := 8) (vs' := [some (.ref p0), some (.int p1), some (.int p2), some (.int p3), some (.long p4), none, none, none]) (st' := [.int p1, .ref a3]) rfl ?_
  refine s_iald X t4 (dk okd_X1_addDelivery 2 rfl) (fun v5 => ?_)
  refine s_run X ok_X1_addDelivery 2 3 (pc' := 14) (vs' := [some (.ref p0), some (.int p1), some (.int p2), some (.int p3), some (.long p4), none, some (.int v5), none]) (st' := [.int (-1), .int v5]) rfl ?_
  refine s_icmp_ne (tgt := 21) X (dk okd_X1_addDelivery 3 rfl) (by decide) ?_ ?_
  · refine s_run X ok_X1_addDelivery 5 1 (pc' := 22) (vs' := [some (.ref p0), some (.int p1), some (.int p2), some (.int p3), some (.long p4), none, some (.int v5), none]) (st' := [.ref p0]) rfl ?_
    refine s_getR X fl_X1_28 t0_ (dk okd_X1_addDelivery 6 rfl) (fun a6 (t7 : tT C a6 6) => ?_)
    refine s_getR X fl_X1_101 t7 (dk okd_X1_addDelivery 7 rfl) (fun a8 (t9 : tT C a8 14) => ?_)
    refine s_run X ok_X1_addDelivery 6 1 (pc' := 29) (vs' := [some (.ref p0), some (.int p1), some (.int p2), some (.int p3), some (.long p4), none, some (.int v5), none]) (st' := [.int p1, .ref a8]) rfl ?_
    refine s_lald X t9 (dk okd_X1_addDelivery 8 rfl) (fun v10 => ?_)
    refine s_run X ok_X1_addDelivery 7 2 (pc' := 33) (vs' := [some (.ref p0), some (.int p1), some (.int p2), some (.int p3), some (.long p4), none, some (.int v5), none]) (st' := [.long (v10 + p4)]) rfl ?_
    refine s_ldc2 X cl_X1_104 (dk okd_X1_addDelivery 9 rfl) ?_
    refine s_run X ok_X1_addDelivery 9 1 (pc' := 37) (vs' := [some (.ref p0), some (.int p1), some (.int p2), some (.int p3), some (.long p4), none, some (.int v5), none]) (st' := [.int (lg_cmp (v10 + p4) 10000000)]) rfl ?_
    refine s_lif_le (tgt := 44) X (dk okd_X1_addDelivery 10 rfl) (by decide) ?_ ?_
    · refine s_run X ok_X1_addDelivery 10 1 (pc' := 45) (vs' := [some (.ref p0), some (.int p1), some (.int p2), some (.int p3), some (.long p4), none, some (.int v5), none]) (st' := [.ref p0]) rfl ?_
      refine s_getR X fl_X1_28 t0_ (dk okd_X1_addDelivery 13 rfl) (fun a11 (t12 : tT C a11 6) => ?_)
      refine s_getR X fl_X1_101 t12 (dk okd_X1_addDelivery 14 rfl) (fun a13 (t14 : tT C a13 14) => ?_)
      refine s_run X ok_X1_addDelivery 11 2 (pc' := 53) (vs' := [some (.ref p0), some (.int p1), some (.int p2), some (.int p3), some (.long p4), none, some (.int v5), none]) (st' := [.int p1, .ref a13, .int p1, .ref a13]) rfl ?_
      refine s_lald X t14 (dk okd_X1_addDelivery 15 rfl) (fun v15 => ?_)
      refine s_run X ok_X1_addDelivery 13 2 (pc' := 57) (vs' := [some (.ref p0), some (.int p1), some (.int p2), some (.int p3), some (.long p4), none, some (.int v5), none]) (st' := [.long (v15 + p4), .int p1, .ref a13]) rfl ?_
      refine s_last X t14 (dk okd_X1_addDelivery 16 rfl) (fun S16 => ?_)
      refine s_run X ok_X1_addDelivery 15 1 (pc' := 59) (vs' := [some (.ref p0), some (.int p1), some (.int p2), some (.int p3), some (.long p4), none, some (.int v5), none]) (st' := [.ref p0]) rfl ?_
      refine s_getR X fl_X1_21 t0_ (dk okd_X1_addDelivery 17 rfl) (fun a17 (t18 : tT C a17 3) => ?_)
      refine s_run X ok_X1_addDelivery 16 2 (pc' := 64) (vs' := [some (.ref p0), some (.int p1), some (.int p2), some (.int p3), some (.long p4), none, some (.int v5), none]) (st' := [.int p3, .int p2, .ref a17]) rfl ?_
      refine s_callV (rest := []) X E mv_X1_84 (c_X3_ownerAt S16 a17 p2 p3) (ta1 t18) rfl (by decide) t18 rfl rfl (Nat.le_of_ble_eq_true rfl) (Nat.le_of_ble_eq_true rfl) (Nat.le_of_ble_eq_true rfl) (dk okd_X1_addDelivery 18 rfl) (st' := fun v19 => [.int v19]) (fun _ => rfl) (fun v19 => ?_)
      refine s_run X ok_X1_addDelivery 18 3 (pc' := 73) (vs' := [some (.ref p0), some (.int p1), some (.int p2), some (.int p3), some (.long p4), none, some (.int v5), some (.int v19)]) (st' := [.int v5, .int v19]) rfl ?_
      refine s_jn (κ := St → Option (Int64 × St)) (fun k21 => ∀ (S20 : St), Jd C 8 (QJ C oLS sL) S20 113 [some (.ref p0), some (.int p1), none, none, none, none, none, none] [] (k21 S20)) (fun S20 => ?_) (fun k21 h22 => ?_)
      · refine s_run X ok_X1_addDelivery 29 1 (pc' := 114) (vs' := [some (.ref p0), some (.int p1), none, none, none, none, none, none]) (st' := [.ref p0]) rfl ?_
        refine s_getR X fl_X1_28 t0_ (dk okd_X1_addDelivery 28 rfl) (fun a23 (t24 : tT C a23 6) => ?_)
        refine s_getR X fl_X1_101 t24 (dk okd_X1_addDelivery 29 rfl) (fun a25 (t26 : tT C a25 14) => ?_)
        refine s_run X ok_X1_addDelivery 30 1 (pc' := 121) (vs' := [some (.ref p0), some (.int p1), none, none, none, none, none, none]) (st' := [.int p1, .ref a25]) rfl ?_
        refine s_lald X t26 (dk okd_X1_addDelivery 30 rfl) (fun v27 => ?_)
        exact s_lret X hr (dk okd_X1_addDelivery 31 rfl) rfl rfl
      · refine s_icmp_eq (tgt := 113) X (dk okd_X1_addDelivery 19 rfl) (by decide) ?_ ?_
        · exact s_less [true, true, false, false, false, false, false, false] rfl (h22 S16)
        · refine s_run X ok_X1_addDelivery 21 1 (pc' := 77) (vs' := [some (.ref p0), some (.int p1), some (.int p2), some (.int p3), some (.long p4), none, some (.int v5), some (.int v19)]) (st' := [.ref p0]) rfl ?_
          refine s_getR X fl_X1_35 t0_ (dk okd_X1_addDelivery 20 rfl) (fun a28 (t29 : tT C a28 2) => ?_)
          refine s_run X ok_X1_addDelivery 22 1 (pc' := 82) (vs' := [some (.ref p0), some (.int p1), some (.int p2), some (.int p3), some (.long p4), none, some (.int v5), some (.int v19)]) (st' := [.int v5, .ref a28]) rfl ?_
          refine s_callV (rest := []) X E mv_X1_108 (c_X2_isActive S16 a28 v5) (ta1 t29) rfl (by decide) t29 rfl rfl (Nat.le_of_ble_eq_true rfl) (Nat.le_of_ble_eq_true rfl) (Nat.le_of_ble_eq_true rfl) (dk okd_X1_addDelivery 21 rfl) (st' := fun v30 => [.int v30]) (fun _ => rfl) (fun v30 => ?_)
          refine s_if_eq (tgt := 113) X (dk okd_X1_addDelivery 22 rfl) (by decide) ?_ ?_
          · exact s_less [true, true, false, false, false, false, false, false] rfl (h22 S16)
          · refine s_run X ok_X1_addDelivery 23 1 (pc' := 89) (vs' := [some (.ref p0), some (.int p1), some (.int p2), some (.int p3), some (.long p4), none, some (.int v5), some (.int v19)]) (st' := [.ref p0]) rfl ?_
            refine s_getR X fl_X1_35 t0_ (dk okd_X1_addDelivery 23 rfl) (fun a31 (t32 : tT C a31 2) => ?_)
            refine s_run X ok_X1_addDelivery 24 1 (pc' := 94) (vs' := [some (.ref p0), some (.int p1), some (.int p2), some (.int p3), some (.long p4), none, some (.int v5), some (.int v19)]) (st' := [.int v19, .ref a31]) rfl ?_
            refine s_callV (rest := []) X E mv_X1_108 (c_X2_isActive S16 a31 v19) (ta1 t32) rfl (by decide) t32 rfl rfl (Nat.le_of_ble_eq_true rfl) (Nat.le_of_ble_eq_true rfl) (Nat.le_of_ble_eq_true rfl) (dk okd_X1_addDelivery 24 rfl) (st' := fun v33 => [.int v33]) (fun _ => rfl) (fun v33 => ?_)
            refine s_if_eq (tgt := 113) X (dk okd_X1_addDelivery 25 rfl) (by decide) ?_ ?_
            · exact s_less [true, true, false, false, false, false, false, false] rfl (h22 S16)
            · refine s_run X ok_X1_addDelivery 25 1 (pc' := 101) (vs' := [some (.ref p0), some (.int p1), some (.int p2), some (.int p3), some (.long p4), none, some (.int v5), some (.int v19)]) (st' := [.ref p0]) rfl ?_
              refine s_getR X fl_X1_49 t0_ (dk okd_X1_addDelivery 26 rfl) (fun a34 (t35 : tT C a34 0) => ?_)
              refine s_run X ok_X1_addDelivery 26 3 (pc' := 110) (vs' := [some (.ref p0), some (.int p1), some (.int p2), some (.int p3), some (.long p4), none, some (.int v5), some (.int v19)]) (st' := [.long p4, .int v19, .int v5, .ref a34]) rfl ?_
              refine s_callV (rest := []) X E mv_X1_112 (c_X0_addDelivered S16 a34 v5 v19 p4) (ta1 t35) rfl (by decide) t35 rfl rfl (Nat.le_of_ble_eq_true rfl) (Nat.le_of_ble_eq_true rfl) (Nat.le_of_ble_eq_true rfl) (dk okd_X1_addDelivery 27 rfl) (st' := fun S36 => []) (fun _ => rfl) (fun S36 => ?_)
              exact s_less [true, true, false, false, false, false, false, false] rfl (h22 S36)
    · refine s_ldc2 X cl_X1_106 (dk okd_X1_addDelivery 11 rfl) ?_
      exact s_lret X hr (dk okd_X1_addDelivery 12 rfl) rfl rfl
  · refine s_ldc2 X cl_X1_99 (dk okd_X1_addDelivery 4 rfl) ?_
    exact s_lret X hr (dk okd_X1_addDelivery 5 rfl) rfl rfl
def tab_X1_creditBetween : List En := [(0, 8, 0, 0), (4, 4, 1, 0), (5, 4, 2, 0), (9, 8, 0, 0), (16, 31, 0, 0), (20, 8, 0, 0)]
theorem ok_X1_creditBetween : tab_X1_creditBetween.all (okE cX1_creditBetween) = true := by decide +kernel
def ed_X1_creditBetween : List (Nat × Instr × Nat) := [(1, .getfield 49, 3), (6, .invokevirtual 116, 3), (10, .getfield 12, 3), (13, .getfield 120, 3), (17, .invokestatic 123, 3), (21, .getfield 12, 3), (24, .getfield 127, 3), (27, .invokestatic 131, 3), (30, .lreturn, 1)]
theorem okd_X1_creditBetween : ed_X1_creditBetween.all (okD cX1_creditBetween) = true := by decide +kernel
def f_X1_creditBetween (S : St) (p0 : Nat) (p1 : Int32) (p2 : Int32) : Option (Int64) := lt (gR S p0 5) fun (a1 : Nat) => cl (f_X0_delivered S a1 p1 p2) fun (v3 : Int64) => lt (gR S p0 0) fun (a4 : Nat) => lt (gI S a4 5) fun (v6 : Int32) => cl (f_X11_rateOf S v3 (Int32.toInt64 v6)) fun (v7 : Int64) => lt (gR S p0 0) fun (a8 : Nat) => lt (gJ S a8 6) fun (v10 : Int64) => cl (f_J9_min_f86c9 S v7 v10) fun (v11 : Int64) => some v11
set_option maxHeartbeats 4000000 in
set_option maxRecDepth 100000 in
theorem c_X1_creditBetween (S : St) (p0 : Nat) (p1 : Int32) (p2 : Int32) : Ct yX1_creditBetween cX1_creditBetween 3 (some .long) 1 23 [.ref p0, .int p1, .int p2] [(p0, 1)] S (f_X1_creditBetween S p0 p1 p2) oL (fun _ => S) := by
  refine Ct_of RX1 rfl (by decide) (Nat.le_of_ble_eq_true rfl) 0 (vs := [some (.ref p0), some (.int p1), some (.int p2)]) rfl (fun C X E hr ht => ?_)
  have t0_ : tT C p0 1 := ht (p0, 1) (by simp)
  unfold f_X1_creditBetween
  refine s_run X ok_X1_creditBetween 0 1 (pc' := 1) (vs' := [some (.ref p0), some (.int p1), some (.int p2)]) (st' := [.ref p0]) rfl ?_
  refine s_getR X fl_X1_49 t0_ (dk okd_X1_creditBetween 0 rfl) (fun a1 (t2 : tT C a1 0) => ?_)
  refine s_run X ok_X1_creditBetween 1 2 (pc' := 6) (vs' := [some (.ref p0), some (.int p1), some (.int p2)]) (st' := [.int p2, .int p1, .ref a1]) rfl ?_
  refine s_callV (rest := []) X E mv_X1_116 (c_X0_delivered S a1 p1 p2) (ta1 t2) rfl (by decide) t2 rfl rfl (Nat.le_of_ble_eq_true rfl) (Nat.le_of_ble_eq_true rfl) (Nat.le_of_ble_eq_true rfl) (dk okd_X1_creditBetween 1 rfl) (st' := fun v3 => [.long v3]) (fun _ => rfl) (fun v3 => ?_)
  refine s_run X ok_X1_creditBetween 3 1 (pc' := 10) (vs' := [some (.ref p0), some (.int p1), some (.int p2)]) (st' := [.ref p0, .long v3]) rfl ?_
  refine s_getR X fl_X1_12 t0_ (dk okd_X1_creditBetween 2 rfl) (fun a4 (t5 : tT C a4 7) => ?_)
  refine s_getI X fl_X1_120 t5 (dk okd_X1_creditBetween 3 rfl) (fun v6 => ?_)
  refine s_run X ok_X1_creditBetween 4 1 (pc' := 17) (vs' := [some (.ref p0), some (.int p1), some (.int p2)]) (st' := [.long (Int32.toInt64 v6), .long v3]) rfl ?_
  refine s_callN (rest := []) X E mn_X1_123 (c_X11_rateOf S v3 (Int32.toInt64 v6)) (ta0) rfl rfl (Nat.le_of_ble_eq_true rfl) (Nat.le_of_ble_eq_true rfl) (Nat.le_of_ble_eq_true rfl) (dk okd_X1_creditBetween 4 rfl) (st' := fun v7 => [.long v7]) (fun _ => rfl) (fun v7 => ?_)
  refine s_run X ok_X1_creditBetween 5 1 (pc' := 21) (vs' := [some (.ref p0), some (.int p1), some (.int p2)]) (st' := [.ref p0, .long v7]) rfl ?_
  refine s_getR X fl_X1_12 t0_ (dk okd_X1_creditBetween 5 rfl) (fun a8 (t9 : tT C a8 7) => ?_)
  refine s_getJ X fl_X1_127 t9 (dk okd_X1_creditBetween 6 rfl) (fun v10 => ?_)
  refine s_callS (rest := []) X E ms_X1_131 (c_J9_min_f86c9 S v7 v10) (ta0) rfl rfl (Nat.le_of_ble_eq_true rfl) (Nat.le_of_ble_eq_true rfl) (Nat.le_of_ble_eq_true rfl) (dk okd_X1_creditBetween 7 rfl) (st' := fun v11 => [.long v11]) (fun _ => rfl) (fun v11 => ?_)
  exact s_lret X hr (dk okd_X1_creditBetween 8 rfl) rfl rfl
def tab_X1_creditsPaid : List En := [(0, 3, 0, 0), (1, 12, 2, 0), (2, 0, 0, 0), (3, 11, 4, 0), (5, 5, 4, 0), (7, 8, 0, 0), (17, 6, 2, 0), (18, 8, 0, 0), (19, 4, 1, 0), (20, 5, 4, 0), (25, 23, 0, 0), (26, 12, 2, 0), (27, 16, 4, 1), (30, 41, 5, 0), (33, 6, 2, 0)]
theorem ok_X1_creditsPaid : tab_X1_creditsPaid.all (okE cX1_creditsPaid) = true := by decide +kernel
def ed_X1_creditsPaid : List (Nat × Instr × Nat) := [(8, .getfield 35, 3), (11, .getfield 65, 3), (14, .if_icmp .ge 19, 3), (22, .invokevirtual 136, 3), (34, .lreturn, 1)]
theorem okd_X1_creditsPaid : ed_X1_creditsPaid.all (okD cX1_creditsPaid) = true := by decide +kernel
def f_X1_creditsPaid (S : St) (p0 : Nat) (p1 : Int32) : Option (Int64) := jn (κ := Int64 → Option (Int64)) (fun x1 => some x1) fun k2 => lp (κ := Int64 → Int32 → Option (Int64)) (fun _ _ => none) (fun k6 x4 x5 => lt (gR S p0 3) fun (a8 : Nat) => lt (gI S a8 8) fun (v10 : Int32) => if v10 ≤ x5 then (k2 x4) else (cl (f_X1_creditBetween S p0 p1 x5) fun (v11 : Int64) => lt (x4 + v11) fun (v12 : Int64) => k6 v12 (x5 + 1))) FU 0 0
set_option maxHeartbeats 4000000 in
set_option maxRecDepth 100000 in
theorem c_X1_creditsPaid (S : St) (p0 : Nat) (p1 : Int32) : Ct yX1_creditsPaid cX1_creditsPaid 5 (some .long) 2 45 [.ref p0, .int p1] [(p0, 1)] S (f_X1_creditsPaid S p0 p1) oL (fun _ => S) := by
  refine Ct_of RX1 rfl (by decide) (Nat.le_of_ble_eq_true rfl) 3 (vs := [some (.ref p0), some (.int p1), none, none, none]) rfl (fun C X E hr ht => ?_)
  have t0_ : tT C p0 1 := ht (p0, 1) (by simp)
  unfold f_X1_creditsPaid
  refine s_run X ok_X1_creditsPaid 0 4 (pc' := 5) (vs' := [some (.ref p0), some (.int p1), some (.long 0), none, some (.int 0)]) (st' := []) rfl ?_
  refine s_jn (κ := Int64 → Option (Int64)) (fun k2 => ∀ (x1 : Int64), Jd C 5 (QJ C oL (fun _ => S)) S 33 [none, none, some (.long x1), none, none] [] (k2 x1)) (fun x1 => ?_) (fun k2 h3 => ?_)
  · refine s_run X ok_X1_creditsPaid 14 1 (pc' := 34) (vs' := [none, none, some (.long x1), none, none]) (st' := [.long x1]) rfl ?_
    exact s_lret X hr (dk okd_X1_creditsPaid 4 rfl) rfl rfl
  · refine s_lp (κ := Int64 → Int32 → Option (Int64)) (fun k6 => ∀ (x4 : Int64) (x5 : Int32), Jd C 5 (QJ C oL (fun _ => S)) S 5 [some (.ref p0), some (.int p1), some (.long x4), none, some (.int x5)] [] (k6 x4 x5)) (fun _ _ => s_none) (fun k6 h7 x4 x5 => ?_) FU 0 0
    refine s_run X ok_X1_creditsPaid 4 2 (pc' := 8) (vs' := [some (.ref p0), some (.int p1), some (.long x4), none, some (.int x5)]) (st' := [.ref p0, .int x5]) rfl ?_
    refine s_getR X fl_X1_35 t0_ (dk okd_X1_creditsPaid 0 rfl) (fun a8 (t9 : tT C a8 2) => ?_)
    refine s_getI X fl_X1_65 t9 (dk okd_X1_creditsPaid 1 rfl) (fun v10 => ?_)
    refine s_icmp_ge (tgt := 33) X (dk okd_X1_creditsPaid 2 rfl) (by decide) ?_ ?_
    · exact s_less [false, false, true, false, false] rfl (h3 x4)
    · refine s_run X ok_X1_creditsPaid 6 4 (pc' := 22) (vs' := [some (.ref p0), some (.int p1), some (.long x4), none, some (.int x5)]) (st' := [.int x5, .int p1, .ref p0, .long x4]) rfl ?_
      refine s_callV (rest := [.long x4]) X E mv_X1_136 (c_X1_creditBetween S p0 p1 x5) (ta1 t0_) rfl (by decide) t0_ rfl rfl (Nat.le_of_ble_eq_true rfl) (Nat.le_of_ble_eq_true rfl) (Nat.le_of_ble_eq_true rfl) (dk okd_X1_creditsPaid 3 rfl) (st' := fun v11 => [.long v11, .long x4]) (fun _ => rfl) (fun v11 => ?_)
      refine s_run X ok_X1_creditsPaid 10 1 (pc' := 26) (vs' := [some (.ref p0), some (.int p1), some (.long x4), none, some (.int x5)]) (st' := [.long (x4 + v11)]) rfl ?_
      refine s_nmJ (fun v12 => ?_)
      refine s_run X ok_X1_creditsPaid 11 3 (pc' := 5) (vs' := [some (.ref p0), some (.int p1), some (.long v12), none, some (.int (x5 + 1))]) (st' := []) rfl ?_
      exact h7 v12 (x5 + 1)
def tab_X1_creditsReceived : List En := [(0, 3, 0, 0), (1, 12, 2, 0), (2, 0, 0, 0), (3, 11, 4, 0), (5, 5, 4, 0), (7, 8, 0, 0), (17, 6, 2, 0), (18, 8, 0, 0), (19, 5, 4, 0), (21, 4, 1, 0), (25, 23, 0, 0), (26, 12, 2, 0), (27, 16, 4, 1), (30, 41, 5, 0), (33, 6, 2, 0)]
theorem ok_X1_creditsReceived : tab_X1_creditsReceived.all (okE cX1_creditsReceived) = true := by decide +kernel
def ed_X1_creditsReceived : List (Nat × Instr × Nat) := [(8, .getfield 35, 3), (11, .getfield 65, 3), (14, .if_icmp .ge 19, 3), (22, .invokevirtual 136, 3), (34, .lreturn, 1)]
theorem okd_X1_creditsReceived : ed_X1_creditsReceived.all (okD cX1_creditsReceived) = true := by decide +kernel
def f_X1_creditsReceived (S : St) (p0 : Nat) (p1 : Int32) : Option (Int64) := jn (κ := Int64 → Option (Int64)) (fun x1 => some x1) fun k2 => lp (κ := Int64 → Int32 → Option (Int64)) (fun _ _ => none) (fun k6 x4 x5 => lt (gR S p0 3) fun (a8 : Nat) => lt (gI S a8 8) fun (v10 : Int32) => if v10 ≤ x5 then (k2 x4) else (cl (f_X1_creditBetween S p0 x5 p1) fun (v11 : Int64) => lt (x4 + v11) fun (v12 : Int64) => k6 v12 (x5 + 1))) FU 0 0
set_option maxHeartbeats 4000000 in
set_option maxRecDepth 100000 in
theorem c_X1_creditsReceived (S : St) (p0 : Nat) (p1 : Int32) : Ct yX1_creditsReceived cX1_creditsReceived 5 (some .long) 2 45 [.ref p0, .int p1] [(p0, 1)] S (f_X1_creditsReceived S p0 p1) oL (fun _ => S) := by
  refine Ct_of RX1 rfl (by decide) (Nat.le_of_ble_eq_true rfl) 3 (vs := [some (.ref p0), some (.int p1), none, none, none]) rfl (fun C X E hr ht => ?_)
  have t0_ : tT C p0 1 := ht (p0, 1) (by simp)
  unfold f_X1_creditsReceived
  refine s_run X ok_X1_creditsReceived 0 4 (pc' := 5) (vs' := [some (.ref p0), some (.int p1), some (.long 0), none, some (.int 0)]) (st' := []) rfl ?_
  refine s_jn (κ := Int64 → Option (Int64)) (fun k2 => ∀ (x1 : Int64), Jd C 5 (QJ C oL (fun _ => S)) S 33 [none, none, some (.long x1), none, none] [] (k2 x1)) (fun x1 => ?_) (fun k2 h3 => ?_)
  · refine s_run X ok_X1_creditsReceived 14 1 (pc' := 34) (vs' := [none, none, some (.long x1), none, none]) (st' := [.long x1]) rfl ?_
    exact s_lret X hr (dk okd_X1_creditsReceived 4 rfl) rfl rfl
  · refine s_lp (κ := Int64 → Int32 → Option (Int64)) (fun k6 => ∀ (x4 : Int64) (x5 : Int32), Jd C 5 (QJ C oL (fun _ => S)) S 5 [some (.ref p0), some (.int p1), some (.long x4), none, some (.int x5)] [] (k6 x4 x5)) (fun _ _ => s_none) (fun k6 h7 x4 x5 => ?_) FU 0 0
    refine s_run X ok_X1_creditsReceived 4 2 (pc' := 8) (vs' := [some (.ref p0), some (.int p1), some (.long x4), none, some (.int x5)]) (st' := [.ref p0, .int x5]) rfl ?_
    refine s_getR X fl_X1_35 t0_ (dk okd_X1_creditsReceived 0 rfl) (fun a8 (t9 : tT C a8 2) => ?_)
    refine s_getI X fl_X1_65 t9 (dk okd_X1_creditsReceived 1 rfl) (fun v10 => ?_)
    refine s_icmp_ge (tgt := 33) X (dk okd_X1_creditsReceived 2 rfl) (by decide) ?_ ?_
    · exact s_less [false, false, true, false, false] rfl (h3 x4)
    · refine s_run X ok_X1_creditsReceived 6 4 (pc' := 22) (vs' := [some (.ref p0), some (.int p1), some (.long x4), none, some (.int x5)]) (st' := [.int p1, .int x5, .ref p0, .long x4]) rfl ?_
      refine s_callV (rest := [.long x4]) X E mv_X1_136 (c_X1_creditBetween S p0 x5 p1) (ta1 t0_) rfl (by decide) t0_ rfl rfl (Nat.le_of_ble_eq_true rfl) (Nat.le_of_ble_eq_true rfl) (Nat.le_of_ble_eq_true rfl) (dk okd_X1_creditsReceived 3 rfl) (st' := fun v11 => [.long v11, .long x4]) (fun _ => rfl) (fun v11 => ?_)
      refine s_run X ok_X1_creditsReceived 10 1 (pc' := 26) (vs' := [some (.ref p0), some (.int p1), some (.long x4), none, some (.int x5)]) (st' := [.long (x4 + v11)]) rfl ?_
      refine s_nmJ (fun v12 => ?_)
      refine s_run X ok_X1_creditsReceived 11 3 (pc' := 5) (vs' := [some (.ref p0), some (.int p1), some (.long v12), none, some (.int (x5 + 1))]) (st' := []) rfl ?_
      exact h7 v12 (x5 + 1)
def tab_X1_interestOn : List En := [(0, 6, 1, 0), (1, 8, 0, 0), (8, 31, 0, 0)]
theorem ok_X1_interestOn : tab_X1_interestOn.all (okE cX1_interestOn) = true := by decide +kernel
def ed_X1_interestOn : List (Nat × Instr × Nat) := [(2, .getfield 12, 3), (5, .getfield 139, 3), (9, .invokestatic 123, 3), (12, .lreturn, 1)]
theorem okd_X1_interestOn : ed_X1_interestOn.all (okD cX1_interestOn) = true := by decide +kernel
def f_X1_interestOn (S : St) (p0 : Nat) (p1 : Int64) : Option (Int64) := lt (gR S p0 0) fun (a1 : Nat) => lt (gI S a1 7) fun (v3 : Int32) => cl (f_X11_rateOf S p1 (Int32.toInt64 v3)) fun (v4 : Int64) => some v4
set_option maxHeartbeats 4000000 in
set_option maxRecDepth 100000 in
theorem c_X1_interestOn (S : St) (p0 : Nat) (p1 : Int64) : Ct yX1_interestOn cX1_interestOn 3 (some .long) 1 23 [.ref p0, .long p1] [(p0, 1)] S (f_X1_interestOn S p0 p1) oL (fun _ => S) := by
  refine Ct_of RX1 rfl (by decide) (Nat.le_of_ble_eq_true rfl) 0 (vs := [some (.ref p0), some (.long p1), none]) rfl (fun C X E hr ht => ?_)
  have t0_ : tT C p0 1 := ht (p0, 1) (by simp)
  unfold f_X1_interestOn
  refine s_run X ok_X1_interestOn 0 2 (pc' := 2) (vs' := [some (.ref p0), some (.long p1), none]) (st' := [.ref p0, .long p1]) rfl ?_
  refine s_getR X fl_X1_12 t0_ (dk okd_X1_interestOn 0 rfl) (fun a1 (t2 : tT C a1 7) => ?_)
  refine s_getI X fl_X1_139 t2 (dk okd_X1_interestOn 1 rfl) (fun v3 => ?_)
  refine s_run X ok_X1_interestOn 2 1 (pc' := 9) (vs' := [some (.ref p0), some (.long p1), none]) (st' := [.long (Int32.toInt64 v3), .long p1]) rfl ?_
  refine s_callN (rest := []) X E mn_X1_123 (c_X11_rateOf S p1 (Int32.toInt64 v3)) (ta0) rfl rfl (Nat.le_of_ble_eq_true rfl) (Nat.le_of_ble_eq_true rfl) (Nat.le_of_ble_eq_true rfl) (dk okd_X1_interestOn 2 rfl) (st' := fun v4 => [.long v4]) (fun _ => rfl) (fun v4 => ?_)
  exact s_lret X hr (dk okd_X1_interestOn 3 rfl) rfl rfl
def tab_X1_monthsOfDelayLeft : List En := [(0, 0, 0, 0), (1, 8, 0, 0), (8, 8, 0, 0), (15, 8, 0, 0), (22, 4, 1, 0), (24, 18, 0, 0), (25, 18, 0, 0)]
theorem ok_X1_monthsOfDelayLeft : tab_X1_monthsOfDelayLeft.all (okE cX1_monthsOfDelayLeft) = true := by decide +kernel
def ed_X1_monthsOfDelayLeft : List (Nat × Instr × Nat) := [(2, .getfield 12, 3), (5, .getfield 240, 3), (9, .getfield 49, 3), (12, .getfield 208, 3), (16, .getfield 42, 3), (19, .getfield 243, 3), (23, .iaload, 1), (26, .invokestatic 246, 3), (29, .ireturn, 1)]
theorem okd_X1_monthsOfDelayLeft : ed_X1_monthsOfDelayLeft.all (okD cX1_monthsOfDelayLeft) = true := by decide +kernel
def f_X1_monthsOfDelayLeft (S : St) (p0 : Nat) (p1 : Int32) : Option (Int32) := lt (gR S p0 0) fun (a1 : Nat) => lt (gI S a1 10) fun (v3 : Int32) => lt (gR S p0 5) fun (a4 : Nat) => lt (gI S a4 6) fun (v6 : Int32) => lt (gR S p0 4) fun (a7 : Nat) => lt (gR S a7 1) fun (a9 : Nat) => ldI S a9 p1 fun (v11 : Int32) => cl (f_J9_max_7cf53 S 0 (v3 - (v6 - v11))) fun (v12 : Int32) => some v12
set_option maxHeartbeats 4000000 in
set_option maxRecDepth 100000 in
theorem c_X1_monthsOfDelayLeft (S : St) (p0 : Nat) (p1 : Int32) : Ct yX1_monthsOfDelayLeft cX1_monthsOfDelayLeft 2 (some .int) 1 21 [.ref p0, .int p1] [(p0, 1)] S (f_X1_monthsOfDelayLeft S p0 p1) oI (fun _ => S) := by
  refine Ct_of RX1 rfl (by decide) (Nat.le_of_ble_eq_true rfl) 0 (vs := [some (.ref p0), some (.int p1)]) rfl (fun C X E hr ht => ?_)
  have t0_ : tT C p0 1 := ht (p0, 1) (by simp)
  unfold f_X1_monthsOfDelayLeft
  refine s_run X ok_X1_monthsOfDelayLeft 0 2 (pc' := 2) (vs' := [some (.ref p0), some (.int p1)]) (st' := [.ref p0, .int 0]) rfl ?_
  refine s_getR X fl_X1_12 t0_ (dk okd_X1_monthsOfDelayLeft 0 rfl) (fun a1 (t2 : tT C a1 7) => ?_)
  refine s_getI X fl_X1_240 t2 (dk okd_X1_monthsOfDelayLeft 1 rfl) (fun v3 => ?_)
  refine s_run X ok_X1_monthsOfDelayLeft 2 1 (pc' := 9) (vs' := [some (.ref p0), some (.int p1)]) (st' := [.ref p0, .int v3, .int 0]) rfl ?_
  refine s_getR X fl_X1_49 t0_ (dk okd_X1_monthsOfDelayLeft 2 rfl) (fun a4 (t5 : tT C a4 0) => ?_)
  refine s_getI X fl_X1_208 t5 (dk okd_X1_monthsOfDelayLeft 3 rfl) (fun v6 => ?_)
  refine s_run X ok_X1_monthsOfDelayLeft 3 1 (pc' := 16) (vs' := [some (.ref p0), some (.int p1)]) (st' := [.ref p0, .int v6, .int v3, .int 0]) rfl ?_
  refine s_getR X fl_X1_42 t0_ (dk okd_X1_monthsOfDelayLeft 4 rfl) (fun a7 (t8 : tT C a7 9) => ?_)
  refine s_getR X fl_X1_243 t8 (dk okd_X1_monthsOfDelayLeft 5 rfl) (fun a9 (t10 : tT C a9 13) => ?_)
  refine s_run X ok_X1_monthsOfDelayLeft 4 1 (pc' := 23) (vs' := [some (.ref p0), some (.int p1)]) (st' := [.int p1, .ref a9, .int v6, .int v3, .int 0]) rfl ?_
  refine s_iald X t10 (dk okd_X1_monthsOfDelayLeft 6 rfl) (fun v11 => ?_)
  refine s_run X ok_X1_monthsOfDelayLeft 5 2 (pc' := 26) (vs' := [some (.ref p0), some (.int p1)]) (st' := [.int (v3 - (v6 - v11)), .int 0]) rfl ?_
  refine s_callS (rest := []) X E ms_X1_246 (c_J9_max_7cf53 S 0 (v3 - (v6 - v11))) (ta0) rfl rfl (Nat.le_of_ble_eq_true rfl) (Nat.le_of_ble_eq_true rfl) (Nat.le_of_ble_eq_true rfl) (dk okd_X1_monthsOfDelayLeft 7 rfl) (st' := fun v12 => [.int v12]) (fun _ => rfl) (fun v12 => ?_)
  exact s_iret X hr (dk okd_X1_monthsOfDelayLeft 8 rfl) rfl rfl
def tab_X1_mayTransfer : List En := [(0, 8, 0, 0), (4, 4, 1, 0), (11, 8, 0, 0), (15, 4, 1, 0), (22, 8, 0, 0), (29, 4, 1, 0), (31, 3, 0, 0), (32, 40, 0, 0), (36, 4, 2, 0), (37, 8, 0, 0), (47, 0, 0, 1), (48, 41, 52, 0), (51, 0, 0, 0)]
theorem ok_X1_mayTransfer : tab_X1_mayTransfer.all (okE cX1_mayTransfer) = true := by decide +kernel
def ed_X1_mayTransfer : List (Nat × Instr × Nat) := [(1, .getfield 35, 3), (5, .invokevirtual 108, 3), (8, .ifCond .eq 43, 3), (12, .getfield 42, 3), (16, .invokevirtual 249, 3), (19, .ifCond .ne 32, 3), (23, .getfield 35, 3), (26, .getfield 196, 3), (30, .laload, 1), (33, .ifCond .gt 18, 3), (38, .getfield 12, 3), (41, .getfield 252, 3), (44, .if_icmp .lt 7, 3), (52, .ireturn, 1)]
theorem okd_X1_mayTransfer : ed_X1_mayTransfer.all (okD cX1_mayTransfer) = true := by decide +kernel
def f_X1_mayTransfer (S : St) (p0 : Nat) (p1 : Int32) (p2 : Int32) : Option (Int32) := lt (gR S p0 3) fun (a1 : Nat) => cl (f_X2_isActive S a1 p1) fun (v3 : Int32) => jn (κ := Option (Int32)) (some 0) fun k4 => if v3 = 0 then (k4) else (lt (gR S p0 4) fun (a6 : Nat) => cl (f_X10_isOpen S a6 p1) fun (v8 : Int32) => if v8 = 0 then (lt (gR S p0 3) fun (a9 : Nat) => lt (gR S a9 7) fun (a11 : Nat) => ldJ S a11 p1 fun (v13 : Int64) => if 0 < v13 then (k4) else (lt (gR S p0 0) fun (a14 : Nat) => lt (gI S a14 11) fun (v16 : Int32) => if p2 < v16 then (k4) else (some 1))) else (k4))
set_option maxHeartbeats 4000000 in
set_option maxRecDepth 100000 in
theorem c_X1_mayTransfer (S : St) (p0 : Nat) (p1 : Int32) (p2 : Int32) : Ct yX1_mayTransfer cX1_mayTransfer 3 (some .boolean) 2 42 [.ref p0, .int p1, .int p2] [(p0, 1)] S (f_X1_mayTransfer S p0 p1 p2) oI (fun _ => S) := by
  refine Ct_of RX1 rfl (by decide) (Nat.le_of_ble_eq_true rfl) 0 (vs := [some (.ref p0), some (.int p1), some (.int p2)]) rfl (fun C X E hr ht => ?_)
  have t0_ : tT C p0 1 := ht (p0, 1) (by simp)
  unfold f_X1_mayTransfer
  refine s_run X ok_X1_mayTransfer 0 1 (pc' := 1) (vs' := [some (.ref p0), some (.int p1), some (.int p2)]) (st' := [.ref p0]) rfl ?_
  refine s_getR X fl_X1_35 t0_ (dk okd_X1_mayTransfer 0 rfl) (fun a1 (t2 : tT C a1 2) => ?_)
  refine s_run X ok_X1_mayTransfer 1 1 (pc' := 5) (vs' := [some (.ref p0), some (.int p1), some (.int p2)]) (st' := [.int p1, .ref a1]) rfl ?_
  refine s_callV (rest := []) X E mv_X1_108 (c_X2_isActive S a1 p1) (ta1 t2) rfl (by decide) t2 rfl rfl (Nat.le_of_ble_eq_true rfl) (Nat.le_of_ble_eq_true rfl) (Nat.le_of_ble_eq_true rfl) (dk okd_X1_mayTransfer 1 rfl) (st' := fun v3 => [.int v3]) (fun _ => rfl) (fun v3 => ?_)
  refine s_jn (κ := Option (Int32)) (fun k4 => Jd C 3 (QJ C oI (fun _ => S)) S 51 [none, none, none] [] k4) ?_ (fun k4 h5 => ?_)
  · refine s_run X ok_X1_mayTransfer 12 1 (pc' := 52) (vs' := [none, none, none]) (st' := [.int 0]) rfl ?_
    exact s_zret0 X hr (dk okd_X1_mayTransfer 13 rfl) (by decide) rfl rfl
  · refine s_if_eq (tgt := 51) X (dk okd_X1_mayTransfer 2 rfl) (by decide) ?_ ?_
    · exact s_less [false, false, false] rfl (h5)
    · refine s_run X ok_X1_mayTransfer 2 1 (pc' := 12) (vs' := [some (.ref p0), some (.int p1), some (.int p2)]) (st' := [.ref p0]) rfl ?_
      refine s_getR X fl_X1_42 t0_ (dk okd_X1_mayTransfer 3 rfl) (fun a6 (t7 : tT C a6 9) => ?_)
      refine s_run X ok_X1_mayTransfer 3 1 (pc' := 16) (vs' := [some (.ref p0), some (.int p1), some (.int p2)]) (st' := [.int p1, .ref a6]) rfl ?_
      refine s_callV (rest := []) X E mv_X1_249 (c_X10_isOpen S a6 p1) (ta1 t7) rfl (by decide) t7 rfl rfl (Nat.le_of_ble_eq_true rfl) (Nat.le_of_ble_eq_true rfl) (Nat.le_of_ble_eq_true rfl) (dk okd_X1_mayTransfer 4 rfl) (st' := fun v8 => [.int v8]) (fun _ => rfl) (fun v8 => ?_)
      refine s_if_ne (tgt := 51) X (dk okd_X1_mayTransfer 5 rfl) (by decide) ?_ ?_
      · exact s_less [false, false, false] rfl (h5)
      · refine s_run X ok_X1_mayTransfer 4 1 (pc' := 23) (vs' := [some (.ref p0), some (.int p1), some (.int p2)]) (st' := [.ref p0]) rfl ?_
        refine s_getR X fl_X1_35 t0_ (dk okd_X1_mayTransfer 6 rfl) (fun a9 (t10 : tT C a9 2) => ?_)
        refine s_getR X fl_X1_196 t10 (dk okd_X1_mayTransfer 7 rfl) (fun a11 (t12 : tT C a11 14) => ?_)
        refine s_run X ok_X1_mayTransfer 5 1 (pc' := 30) (vs' := [some (.ref p0), some (.int p1), some (.int p2)]) (st' := [.int p1, .ref a11]) rfl ?_
        refine s_lald X t12 (dk okd_X1_mayTransfer 8 rfl) (fun v13 => ?_)
        refine s_run X ok_X1_mayTransfer 6 2 (pc' := 33) (vs' := [some (.ref p0), some (.int p1), some (.int p2)]) (st' := [.int (lg_cmp v13 0)]) rfl ?_
        refine s_lif_gt (tgt := 51) X (dk okd_X1_mayTransfer 9 rfl) (by decide) ?_ ?_
        · exact s_less [false, false, false] rfl (h5)
        · refine s_run X ok_X1_mayTransfer 8 2 (pc' := 38) (vs' := [some (.ref p0), some (.int p1), some (.int p2)]) (st' := [.ref p0, .int p2]) rfl ?_
          refine s_getR X fl_X1_12 t0_ (dk okd_X1_mayTransfer 10 rfl) (fun a14 (t15 : tT C a14 7) => ?_)
          refine s_getI X fl_X1_252 t15 (dk okd_X1_mayTransfer 11 rfl) (fun v16 => ?_)
          refine s_icmp_lt (tgt := 51) X (dk okd_X1_mayTransfer 12 rfl) (by decide) ?_ ?_
          · exact s_less [false, false, false] rfl (h5)
          · refine s_run X ok_X1_mayTransfer 10 2 (pc' := 52) (vs' := [some (.ref p0), some (.int p1), some (.int p2)]) (st' := [.int 1]) rfl ?_
            exact s_zret0 X hr (dk okd_X1_mayTransfer 13 rfl) (by decide) rfl rfl
def tab_X1_takeOver : List En := [(0, 8, 0, 0), (1, 4, 1, 0), (8, 8, 0, 0), (12, 4, 1, 0), (13, 0, 0, 5), (20, 0, 0, 0), (22, 8, 0, 0), (29, 4, 1, 0), (30, 0, 0, 2), (32, 8, 0, 0), (36, 4, 1, 0), (37, 8, 0, 0), (44, 4, 1, 0), (49, 39, 0, 0), (50, 0, 0, 1)]
theorem ok_X1_takeOver : tab_X1_takeOver.all (okE cX1_takeOver) = true := by decide +kernel
def ed_X1_takeOver : List (Nat × Instr × Nat) := [(2, .invokevirtual 224, 3), (5, .ifCond .eq 15, 3), (9, .getfield 42, 3), (14, .invokevirtual 255, 3), (17, .ifCond .ne 5, 3), (21, .ireturn, 1), (23, .getfield 35, 3), (26, .getfield 259, 3), (31, .iastore, 1), (33, .getfield 35, 3), (38, .getfield 42, 3), (41, .getfield 262, 3), (45, .laload, 1), (46, .invokevirtual 265, 3), (51, .ireturn, 1)]
theorem okd_X1_takeOver : ed_X1_takeOver.all (okD cX1_takeOver) = true := by decide +kernel
def f_X1_takeOver (S : St) (p0 : Nat) (p1 : Int32) : Option (Int32 × St) := cl (f_X1_monthsOfDelayLeft S p0 p1) fun (v1 : Int32) => if v1 = 0 then (some (0, S)) else (lt (gR S p0 4) fun (a2 : Nat) => cl (f_X10_endOpen S a2 p1 5) fun (o4 : Int32 × St) => if o4.1 = 0 then (some (0, o4.2)) else (lt (gR o4.2 p0 3) fun (a5 : Nat) => lt (gR o4.2 a5 4) fun (a7 : Nat) => stI o4.2 a7 p1 2 fun (S9 : St) => lt (gR S9 p0 3) fun (a10 : Nat) => lt (gR S9 p0 4) fun (a12 : Nat) => lt (gR S9 a12 3) fun (a14 : Nat) => ldJ S9 a14 p1 fun (v16 : Int64) => cl (f_X2_lowerBalance S9 a10 p1 v16) fun (o17 : Int64 × St) => some (1, o17.2)))
set_option maxHeartbeats 4000000 in
set_option maxRecDepth 100000 in
theorem c_X1_takeOver (S : St) (p0 : Nat) (p1 : Int32) : Ct yX1_takeOver cX1_takeOver 2 (some .boolean) 2 43 [.ref p0, .int p1] [(p0, 1)] S (f_X1_takeOver S p0 p1) oIS sS := by
  refine Ct_of RX1 rfl (by decide) (Nat.le_of_ble_eq_true rfl) 0 (vs := [some (.ref p0), some (.int p1)]) rfl (fun C X E hr ht => ?_)
  have t0_ : tT C p0 1 := ht (p0, 1) (by simp)
  unfold f_X1_takeOver
  refine s_run X ok_X1_takeOver 0 2 (pc' := 2) (vs' := [some (.ref p0), some (.int p1)]) (st' := [.int p1, .ref p0]) rfl ?_
  refine s_callV (rest := []) X E mv_X1_224 (c_X1_monthsOfDelayLeft S p0 p1) (ta1 t0_) rfl (by decide) t0_ rfl rfl (Nat.le_of_ble_eq_true rfl) (Nat.le_of_ble_eq_true rfl) (Nat.le_of_ble_eq_true rfl) (dk okd_X1_takeOver 0 rfl) (st' := fun v1 => [.int v1]) (fun _ => rfl) (fun v1 => ?_)
  refine s_if_eq (tgt := 20) X (dk okd_X1_takeOver 1 rfl) (by decide) ?_ ?_
  · refine s_run X ok_X1_takeOver 5 1 (pc' := 21) (vs' := [some (.ref p0), some (.int p1)]) (st' := [.int 0]) rfl ?_
    exact s_zret0 X hr (dk okd_X1_takeOver 5 rfl) (by decide) rfl rfl
  · refine s_run X ok_X1_takeOver 2 1 (pc' := 9) (vs' := [some (.ref p0), some (.int p1)]) (st' := [.ref p0]) rfl ?_
    refine s_getR X fl_X1_42 t0_ (dk okd_X1_takeOver 2 rfl) (fun a2 (t3 : tT C a2 9) => ?_)
    refine s_run X ok_X1_takeOver 3 2 (pc' := 14) (vs' := [some (.ref p0), some (.int p1)]) (st' := [.int 5, .int p1, .ref a2]) rfl ?_
    refine s_callV (rest := []) X E mv_X1_255 (c_X10_endOpen S a2 p1 5) (ta1 t3) rfl (by decide) t3 rfl rfl (Nat.le_of_ble_eq_true rfl) (Nat.le_of_ble_eq_true rfl) (Nat.le_of_ble_eq_true rfl) (dk okd_X1_takeOver 3 rfl) (st' := fun o4 => [.int o4.1]) (fun _ => rfl) (fun o4 => ?_)
    refine s_if_ne (tgt := 22) X (dk okd_X1_takeOver 4 rfl) (by decide) ?_ ?_
    · refine s_run X ok_X1_takeOver 6 1 (pc' := 23) (vs' := [some (.ref p0), some (.int p1)]) (st' := [.ref p0]) rfl ?_
      refine s_getR X fl_X1_35 t0_ (dk okd_X1_takeOver 6 rfl) (fun a5 (t6 : tT C a5 2) => ?_)
      refine s_getR X fl_X1_259 t6 (dk okd_X1_takeOver 7 rfl) (fun a7 (t8 : tT C a7 13) => ?_)
      refine s_run X ok_X1_takeOver 7 2 (pc' := 31) (vs' := [some (.ref p0), some (.int p1)]) (st' := [.int 2, .int p1, .ref a7]) rfl ?_
      refine s_iast X t8 (dk okd_X1_takeOver 8 rfl) (fun S9 => ?_)
      refine s_run X ok_X1_takeOver 9 1 (pc' := 33) (vs' := [some (.ref p0), some (.int p1)]) (st' := [.ref p0]) rfl ?_
      refine s_getR X fl_X1_35 t0_ (dk okd_X1_takeOver 9 rfl) (fun a10 (t11 : tT C a10 2) => ?_)
      refine s_run X ok_X1_takeOver 10 2 (pc' := 38) (vs' := [some (.ref p0), some (.int p1)]) (st' := [.ref p0, .int p1, .ref a10]) rfl ?_
      refine s_getR X fl_X1_42 t0_ (dk okd_X1_takeOver 10 rfl) (fun a12 (t13 : tT C a12 9) => ?_)
      refine s_getR X fl_X1_262 t13 (dk okd_X1_takeOver 11 rfl) (fun a14 (t15 : tT C a14 14) => ?_)
      refine s_run X ok_X1_takeOver 12 1 (pc' := 45) (vs' := [some (.ref p0), some (.int p1)]) (st' := [.int p1, .ref a14, .int p1, .ref a10]) rfl ?_
      refine s_lald X t15 (dk okd_X1_takeOver 12 rfl) (fun v16 => ?_)
      refine s_callV (rest := []) X E mv_X1_265 (c_X2_lowerBalance S9 a10 p1 v16) (ta1 t11) rfl (by decide) t11 rfl rfl (Nat.le_of_ble_eq_true rfl) (Nat.le_of_ble_eq_true rfl) (Nat.le_of_ble_eq_true rfl) (dk okd_X1_takeOver 13 rfl) (st' := fun o17 => [.long o17.1]) (fun _ => rfl) (fun o17 => ?_)
      refine s_run X ok_X1_takeOver 13 2 (pc' := 51) (vs' := [some (.ref p0), some (.int p1)]) (st' := [.int 1]) rfl ?_
      exact s_zret0 X hr (dk okd_X1_takeOver 14 rfl) (by decide) rfl rfl
    · refine s_run X ok_X1_takeOver 5 1 (pc' := 21) (vs' := [some (.ref p0), some (.int p1)]) (st' := [.int 0]) rfl ?_
      exact s_zret0 X hr (dk okd_X1_takeOver 5 rfl) (by decide) rfl rfl
def tab_X1_endContract : List En := [(0, 8, 0, 0), (4, 4, 1, 0), (11, 8, 0, 0), (18, 4, 1, 0), (20, 0, 0, 3), (24, 0, 0, 0), (26, 8, 0, 0), (33, 4, 1, 0), (34, 0, 0, 1), (36, 8, 0, 0), (40, 4, 1, 0), (44, 8, 0, 0), (48, 4, 1, 0), (49, 0, 0, (-1)), (50, 0, 0, 0), (51, 0, 0, 0), (52, 1, 0, 30), (54, 1, 0, 30), (59, 38, 0, 0), (60, 8, 0, 0), (64, 4, 1, 0), (65, 0, 0, 3), (69, 38, 0, 0), (70, 0, 0, 1)]
theorem ok_X1_endContract : tab_X1_endContract.all (okE cX1_endContract) = true := by decide +kernel
def ed_X1_endContract : List (Nat × Instr × Nat) := [(1, .getfield 35, 3), (5, .invokevirtual 108, 3), (8, .ifCond .eq 16, 3), (12, .getfield 35, 3), (15, .getfield 215, 3), (19, .iaload, 1), (21, .if_icmp .ge 5, 3), (25, .ireturn, 1), (27, .getfield 35, 3), (30, .getfield 259, 3), (35, .iastore, 1), (37, .getfield 28, 3), (41, .invokevirtual 268, 3), (45, .getfield 21, 3), (56, .invokevirtual 271, 3), (61, .getfield 42, 3), (66, .invokevirtual 255, 3), (71, .ireturn, 1)]
theorem okd_X1_endContract : ed_X1_endContract.all (okD cX1_endContract) = true := by decide +kernel
def f_X1_endContract (S : St) (p0 : Nat) (p1 : Int32) : Option (Int32 × St) := lt (gR S p0 3) fun (a1 : Nat) => cl (f_X2_isActive S a1 p1) fun (v3 : Int32) => if v3 = 0 then (some (0, S)) else (lt (gR S p0 3) fun (a4 : Nat) => lt (gR S a4 6) fun (a6 : Nat) => ldI S a6 p1 fun (v8 : Int32) => if 3 ≤ v8 then (lt (gR S p0 3) fun (a9 : Nat) => lt (gR S a9 4) fun (a11 : Nat) => stI S a11 p1 1 fun (S13 : St) => lt (gR S13 p0 2) fun (a14 : Nat) => cl (f_X6_closeAllOf S13 a14 p1) fun (S16 : St) => lt (gR S16 p0 1) fun (a17 : Nat) => cl (f_X3_move S16 a17 p1 (-1) 0 0 30 30) fun (o19 : Int32 × St) => lt (gR o19.2 p0 4) fun (a20 : Nat) => cl (f_X10_endOpen o19.2 a20 p1 3) fun (o22 : Int32 × St) => some (1, o22.2)) else (some (0, S)))
set_option maxHeartbeats 4000000 in
set_option maxRecDepth 100000 in
theorem c_X1_endContract (S : St) (p0 : Nat) (p1 : Int32) : Ct yX1_endContract cX1_endContract 2 (some .boolean) 3 73 [.ref p0, .int p1] [(p0, 1)] S (f_X1_endContract S p0 p1) oIS sS := by
  refine Ct_of RX1 rfl (by decide) (Nat.le_of_ble_eq_true rfl) 0 (vs := [some (.ref p0), some (.int p1)]) rfl (fun C X E hr ht => ?_)
  have t0_ : tT C p0 1 := ht (p0, 1) (by simp)
  unfold f_X1_endContract
  refine s_run X ok_X1_endContract 0 1 (pc' := 1) (vs' := [some (.ref p0), some (.int p1)]) (st' := [.ref p0]) rfl ?_
  refine s_getR X fl_X1_35 t0_ (dk okd_X1_endContract 0 rfl) (fun a1 (t2 : tT C a1 2) => ?_)
  refine s_run X ok_X1_endContract 1 1 (pc' := 5) (vs' := [some (.ref p0), some (.int p1)]) (st' := [.int p1, .ref a1]) rfl ?_
  refine s_callV (rest := []) X E mv_X1_108 (c_X2_isActive S a1 p1) (ta1 t2) rfl (by decide) t2 rfl rfl (Nat.le_of_ble_eq_true rfl) (Nat.le_of_ble_eq_true rfl) (Nat.le_of_ble_eq_true rfl) (dk okd_X1_endContract 1 rfl) (st' := fun v3 => [.int v3]) (fun _ => rfl) (fun v3 => ?_)
  refine s_if_eq (tgt := 24) X (dk okd_X1_endContract 2 rfl) (by decide) ?_ ?_
  · refine s_run X ok_X1_endContract 5 1 (pc' := 25) (vs' := [some (.ref p0), some (.int p1)]) (st' := [.int 0]) rfl ?_
    exact s_zret0 X hr (dk okd_X1_endContract 7 rfl) (by decide) rfl rfl
  · refine s_run X ok_X1_endContract 2 1 (pc' := 12) (vs' := [some (.ref p0), some (.int p1)]) (st' := [.ref p0]) rfl ?_
    refine s_getR X fl_X1_35 t0_ (dk okd_X1_endContract 3 rfl) (fun a4 (t5 : tT C a4 2) => ?_)
    refine s_getR X fl_X1_215 t5 (dk okd_X1_endContract 4 rfl) (fun a6 (t7 : tT C a6 13) => ?_)
    refine s_run X ok_X1_endContract 3 1 (pc' := 19) (vs' := [some (.ref p0), some (.int p1)]) (st' := [.int p1, .ref a6]) rfl ?_
    refine s_iald X t7 (dk okd_X1_endContract 5 rfl) (fun v8 => ?_)
    refine s_run X ok_X1_endContract 4 1 (pc' := 21) (vs' := [some (.ref p0), some (.int p1)]) (st' := [.int 3, .int v8]) rfl ?_
    refine s_icmp_ge (tgt := 26) X (dk okd_X1_endContract 6 rfl) (by decide) ?_ ?_
    · refine s_run X ok_X1_endContract 6 1 (pc' := 27) (vs' := [some (.ref p0), some (.int p1)]) (st' := [.ref p0]) rfl ?_
      refine s_getR X fl_X1_35 t0_ (dk okd_X1_endContract 8 rfl) (fun a9 (t10 : tT C a9 2) => ?_)
      refine s_getR X fl_X1_259 t10 (dk okd_X1_endContract 9 rfl) (fun a11 (t12 : tT C a11 13) => ?_)
      refine s_run X ok_X1_endContract 7 2 (pc' := 35) (vs' := [some (.ref p0), some (.int p1)]) (st' := [.int 1, .int p1, .ref a11]) rfl ?_
      refine s_iast X t12 (dk okd_X1_endContract 10 rfl) (fun S13 => ?_)
      refine s_run X ok_X1_endContract 9 1 (pc' := 37) (vs' := [some (.ref p0), some (.int p1)]) (st' := [.ref p0]) rfl ?_
      refine s_getR X fl_X1_28 t0_ (dk okd_X1_endContract 11 rfl) (fun a14 (t15 : tT C a14 6) => ?_)
      refine s_run X ok_X1_endContract 10 1 (pc' := 41) (vs' := [some (.ref p0), some (.int p1)]) (st' := [.int p1, .ref a14]) rfl ?_
      refine s_callV (rest := []) X E mv_X1_268 (c_X6_closeAllOf S13 a14 p1) (ta1 t15) rfl (by decide) t15 rfl rfl (Nat.le_of_ble_eq_true rfl) (Nat.le_of_ble_eq_true rfl) (Nat.le_of_ble_eq_true rfl) (dk okd_X1_endContract 12 rfl) (st' := fun S16 => []) (fun _ => rfl) (fun S16 => ?_)
      refine s_run X ok_X1_endContract 11 1 (pc' := 45) (vs' := [some (.ref p0), some (.int p1)]) (st' := [.ref p0]) rfl ?_
      refine s_getR X fl_X1_21 t0_ (dk okd_X1_endContract 13 rfl) (fun a17 (t18 : tT C a17 3) => ?_)
      refine s_run X ok_X1_endContract 12 6 (pc' := 56) (vs' := [some (.ref p0), some (.int p1)]) (st' := [.int 30, .int 30, .int 0, .int 0, .int (-1), .int p1, .ref a17]) rfl ?_
      refine s_callV (rest := []) X E mv_X1_271 (c_X3_move S16 a17 p1 (-1) 0 0 30 30) (ta1 t18) rfl (by decide) t18 rfl rfl (Nat.le_of_ble_eq_true rfl) (Nat.le_of_ble_eq_true rfl) (Nat.le_of_ble_eq_true rfl) (dk okd_X1_endContract 14 rfl) (st' := fun o19 => [.int o19.1]) (fun _ => rfl) (fun o19 => ?_)
      refine s_run X ok_X1_endContract 18 2 (pc' := 61) (vs' := [some (.ref p0), some (.int p1)]) (st' := [.ref p0]) rfl ?_
      refine s_getR X fl_X1_42 t0_ (dk okd_X1_endContract 15 rfl) (fun a20 (t21 : tT C a20 9) => ?_)
      refine s_run X ok_X1_endContract 20 2 (pc' := 66) (vs' := [some (.ref p0), some (.int p1)]) (st' := [.int 3, .int p1, .ref a20]) rfl ?_
      refine s_callV (rest := []) X E mv_X1_255 (c_X10_endOpen o19.2 a20 p1 3) (ta1 t21) rfl (by decide) t21 rfl rfl (Nat.le_of_ble_eq_true rfl) (Nat.le_of_ble_eq_true rfl) (Nat.le_of_ble_eq_true rfl) (dk okd_X1_endContract 16 rfl) (st' := fun o22 => [.int o22.1]) (fun _ => rfl) (fun o22 => ?_)
      refine s_run X ok_X1_endContract 22 2 (pc' := 71) (vs' := [some (.ref p0), some (.int p1)]) (st' := [.int 1]) rfl ?_
      exact s_zret0 X hr (dk okd_X1_endContract 17 rfl) (by decide) rfl rfl
    · refine s_run X ok_X1_endContract 5 1 (pc' := 25) (vs' := [some (.ref p0), some (.int p1)]) (st' := [.int 0]) rfl ?_
      exact s_zret0 X hr (dk okd_X1_endContract 7 rfl) (by decide) rfl rfl
def tab_X1_spendLocal : List En := [(0, 8, 0, 0), (4, 4, 1, 0), (11, 8, 0, 0), (15, 4, 1, 0), (16, 6, 2, 0), (23, 0, 0, 0), (25, 8, 0, 0), (29, 4, 1, 0), (30, 6, 2, 0), (34, 39, 0, 0), (35, 0, 0, 1)]
theorem ok_X1_spendLocal : tab_X1_spendLocal.all (okE cX1_spendLocal) = true := by decide +kernel
def ed_X1_spendLocal : List (Nat × Instr × Nat) := [(1, .getfield 35, 3), (5, .invokevirtual 108, 3), (8, .ifCond .eq 15, 3), (12, .getfield 49, 3), (17, .invokevirtual 275, 3), (20, .ifCond .ne 5, 3), (24, .ireturn, 1), (26, .getfield 35, 3), (31, .invokevirtual 265, 3), (36, .ireturn, 1)]
theorem okd_X1_spendLocal : ed_X1_spendLocal.all (okD cX1_spendLocal) = true := by decide +kernel
def f_X1_spendLocal (S : St) (p0 : Nat) (p1 : Int32) (p2 : Int64) : Option (Int32 × St) := lt (gR S p0 3) fun (a1 : Nat) => cl (f_X2_isActive S a1 p1) fun (v3 : Int32) => if v3 = 0 then (some (0, S)) else (lt (gR S p0 5) fun (a4 : Nat) => cl (f_X0_spendGrant S a4 p1 p2) fun (o6 : Int32 × St) => if o6.1 = 0 then (some (0, o6.2)) else (lt (gR o6.2 p0 3) fun (a7 : Nat) => cl (f_X2_lowerBalance o6.2 a7 p1 p2) fun (o9 : Int64 × St) => some (1, o9.2)))
set_option maxHeartbeats 4000000 in
set_option maxRecDepth 100000 in
theorem c_X1_spendLocal (S : St) (p0 : Nat) (p1 : Int32) (p2 : Int64) : Ct yX1_spendLocal cX1_spendLocal 4 (some .boolean) 3 66 [.ref p0, .int p1, .long p2] [(p0, 1)] S (f_X1_spendLocal S p0 p1 p2) oIS sS := by
  refine Ct_of RX1 rfl (by decide) (Nat.le_of_ble_eq_true rfl) 0 (vs := [some (.ref p0), some (.int p1), some (.long p2), none]) rfl (fun C X E hr ht => ?_)
  have t0_ : tT C p0 1 := ht (p0, 1) (by simp)
  unfold f_X1_spendLocal
  refine s_run X ok_X1_spendLocal 0 1 (pc' := 1) (vs' := [some (.ref p0), some (.int p1), some (.long p2), none]) (st' := [.ref p0]) rfl ?_
  refine s_getR X fl_X1_35 t0_ (dk okd_X1_spendLocal 0 rfl) (fun a1 (t2 : tT C a1 2) => ?_)
  refine s_run X ok_X1_spendLocal 1 1 (pc' := 5) (vs' := [some (.ref p0), some (.int p1), some (.long p2), none]) (st' := [.int p1, .ref a1]) rfl ?_
  refine s_callV (rest := []) X E mv_X1_108 (c_X2_isActive S a1 p1) (ta1 t2) rfl (by decide) t2 rfl rfl (Nat.le_of_ble_eq_true rfl) (Nat.le_of_ble_eq_true rfl) (Nat.le_of_ble_eq_true rfl) (dk okd_X1_spendLocal 1 rfl) (st' := fun v3 => [.int v3]) (fun _ => rfl) (fun v3 => ?_)
  refine s_if_eq (tgt := 23) X (dk okd_X1_spendLocal 2 rfl) (by decide) ?_ ?_
  · refine s_run X ok_X1_spendLocal 5 1 (pc' := 24) (vs' := [some (.ref p0), some (.int p1), some (.long p2), none]) (st' := [.int 0]) rfl ?_
    exact s_zret0 X hr (dk okd_X1_spendLocal 6 rfl) (by decide) rfl rfl
  · refine s_run X ok_X1_spendLocal 2 1 (pc' := 12) (vs' := [some (.ref p0), some (.int p1), some (.long p2), none]) (st' := [.ref p0]) rfl ?_
    refine s_getR X fl_X1_49 t0_ (dk okd_X1_spendLocal 3 rfl) (fun a4 (t5 : tT C a4 0) => ?_)
    refine s_run X ok_X1_spendLocal 3 2 (pc' := 17) (vs' := [some (.ref p0), some (.int p1), some (.long p2), none]) (st' := [.long p2, .int p1, .ref a4]) rfl ?_
    refine s_callV (rest := []) X E mv_X1_275 (c_X0_spendGrant S a4 p1 p2) (ta1 t5) rfl (by decide) t5 rfl rfl (Nat.le_of_ble_eq_true rfl) (Nat.le_of_ble_eq_true rfl) (Nat.le_of_ble_eq_true rfl) (dk okd_X1_spendLocal 4 rfl) (st' := fun o6 => [.int o6.1]) (fun _ => rfl) (fun o6 => ?_)
    refine s_if_ne (tgt := 25) X (dk okd_X1_spendLocal 5 rfl) (by decide) ?_ ?_
    · refine s_run X ok_X1_spendLocal 6 1 (pc' := 26) (vs' := [some (.ref p0), some (.int p1), some (.long p2), none]) (st' := [.ref p0]) rfl ?_
      refine s_getR X fl_X1_35 t0_ (dk okd_X1_spendLocal 7 rfl) (fun a7 (t8 : tT C a7 2) => ?_)
      refine s_run X ok_X1_spendLocal 7 2 (pc' := 31) (vs' := [some (.ref p0), some (.int p1), some (.long p2), none]) (st' := [.long p2, .int p1, .ref a7]) rfl ?_
      refine s_callV (rest := []) X E mv_X1_265 (c_X2_lowerBalance o6.2 a7 p1 p2) (ta1 t8) rfl (by decide) t8 rfl rfl (Nat.le_of_ble_eq_true rfl) (Nat.le_of_ble_eq_true rfl) (Nat.le_of_ble_eq_true rfl) (dk okd_X1_spendLocal 8 rfl) (st' := fun o9 => [.long o9.1]) (fun _ => rfl) (fun o9 => ?_)
      refine s_run X ok_X1_spendLocal 9 2 (pc' := 36) (vs' := [some (.ref p0), some (.int p1), some (.long p2), none]) (st' := [.int 1]) rfl ?_
      exact s_zret0 X hr (dk okd_X1_spendLocal 9 rfl) (by decide) rfl rfl
    · refine s_run X ok_X1_spendLocal 5 1 (pc' := 24) (vs' := [some (.ref p0), some (.int p1), some (.long p2), none]) (st' := [.int 0]) rfl ?_
      exact s_zret0 X hr (dk okd_X1_spendLocal 6 rfl) (by decide) rfl rfl
def tab_X1_monthsToPayOff : List En := [(0, 8, 0, 0), (7, 4, 1, 0), (9, 13, 4, 0), (11, 0, 0, 0), (12, 11, 6, 0), (14, 5, 6, 0), (16, 1, 0, 120), (21, 7, 4, 0), (23, 3, 0, 0), (24, 40, 0, 0), (28, 5, 6, 0), (31, 7, 4, 0), (33, 8, 0, 0), (34, 7, 4, 0), (39, 6, 2, 0), (40, 24, 0, 0), (41, 23, 0, 0), (42, 13, 4, 0), (44, 16, 6, 1), (47, 41, 14, 0), (50, 0, 0, (-1))]
theorem ok_X1_monthsToPayOff : tab_X1_monthsToPayOff.all (okE cX1_monthsToPayOff) = true := by decide +kernel
def ed_X1_monthsToPayOff : List (Nat × Instr × Nat) := [(1, .getfield 35, 3), (4, .getfield 196, 3), (8, .laload, 1), (18, .if_icmp .gt 32, 3), (25, .ifCond .gt 6, 3), (30, .ireturn, 1), (36, .invokevirtual 162, 3), (51, .ireturn, 1)]
theorem okd_X1_monthsToPayOff : ed_X1_monthsToPayOff.all (okD cX1_monthsToPayOff) = true := by decide +kernel
def f_X1_monthsToPayOff (S : St) (p0 : Nat) (p1 : Int32) (p2 : Int64) : Option (Int32) := lt (gR S p0 3) fun (a1 : Nat) => lt (gR S a1 7) fun (a3 : Nat) => ldJ S a3 p1 fun (v5 : Int64) => jn (κ := Int32 → Option (Int32)) (fun x6 => some x6) fun k7 => lp (κ := Int64 → Int32 → Option (Int32)) (fun _ _ => none) (fun k11 x9 x10 => if 120 < x10 then (some (-1)) else (if 0 < x9 then (cl (f_X1_interestOn S p0 x9) fun (v13 : Int64) => lt (x9 + (v13 - p2)) fun (v14 : Int64) => k11 v14 (x10 + 1)) else (k7 x10))) FU v5 0
set_option maxHeartbeats 4000000 in
set_option maxRecDepth 100000 in
theorem c_X1_monthsToPayOff (S : St) (p0 : Nat) (p1 : Int32) (p2 : Int64) : Ct yX1_monthsToPayOff cX1_monthsToPayOff 7 (some .int) 2 45 [.ref p0, .int p1, .long p2] [(p0, 1)] S (f_X1_monthsToPayOff S p0 p1 p2) oI (fun _ => S) := by
  refine Ct_of RX1 rfl (by decide) (Nat.le_of_ble_eq_true rfl) 3 (vs := [some (.ref p0), some (.int p1), some (.long p2), none, none, none, none]) rfl (fun C X E hr ht => ?_)
  have t0_ : tT C p0 1 := ht (p0, 1) (by simp)
  unfold f_X1_monthsToPayOff
  refine s_run X ok_X1_monthsToPayOff 0 1 (pc' := 1) (vs' := [some (.ref p0), some (.int p1), some (.long p2), none, none, none, none]) (st' := [.ref p0]) rfl ?_
  refine s_getR X fl_X1_35 t0_ (dk okd_X1_monthsToPayOff 0 rfl) (fun a1 (t2 : tT C a1 2) => ?_)
  refine s_getR X fl_X1_196 t2 (dk okd_X1_monthsToPayOff 1 rfl) (fun a3 (t4 : tT C a3 14) => ?_)
  refine s_run X ok_X1_monthsToPayOff 1 1 (pc' := 8) (vs' := [some (.ref p0), some (.int p1), some (.long p2), none, none, none, none]) (st' := [.int p1, .ref a3]) rfl ?_
  refine s_lald X t4 (dk okd_X1_monthsToPayOff 2 rfl) (fun v5 => ?_)
  refine s_run X ok_X1_monthsToPayOff 2 3 (pc' := 14) (vs' := [some (.ref p0), some (.int p1), some (.long p2), none, some (.long v5), none, some (.int 0)]) (st' := []) rfl ?_
  refine s_jn (κ := Int32 → Option (Int32)) (fun k7 => ∀ (x6 : Int32), Jd C 7 (QJ C oI (fun _ => S)) S 28 [none, none, none, none, none, none, some (.int x6)] [] (k7 x6)) (fun x6 => ?_) (fun k7 h8 => ?_)
  · refine s_run X ok_X1_monthsToPayOff 10 1 (pc' := 30) (vs' := [none, none, none, none, none, none, some (.int x6)]) (st' := [.int x6]) rfl ?_
    exact s_iret X hr (dk okd_X1_monthsToPayOff 5 rfl) rfl rfl
  · refine s_less [true, false, true, false, true, false, true] (vs' := [some (.ref p0), none, some (.long p2), none, some (.long v5), none, some (.int 0)]) rfl ?_
    refine s_lp (κ := Int64 → Int32 → Option (Int32)) (fun k11 => ∀ (x9 : Int64) (x10 : Int32), Jd C 7 (QJ C oI (fun _ => S)) S 14 [some (.ref p0), none, some (.long p2), none, some (.long x9), none, some (.int x10)] [] (k11 x9 x10)) (fun _ _ => s_none) (fun k11 h12 x9 x10 => ?_) FU v5 0
    refine s_run X ok_X1_monthsToPayOff 5 2 (pc' := 18) (vs' := [some (.ref p0), none, some (.long p2), none, some (.long x9), none, some (.int x10)]) (st' := [.int 120, .int x10]) rfl ?_
    refine s_icmp_gt (tgt := 50) X (dk okd_X1_monthsToPayOff 3 rfl) (by decide) ?_ ?_
    · refine s_run X ok_X1_monthsToPayOff 20 1 (pc' := 51) (vs' := [some (.ref p0), none, some (.long p2), none, some (.long x9), none, some (.int x10)]) (st' := [.int (-1)]) rfl ?_
      exact s_iret X hr (dk okd_X1_monthsToPayOff 7 rfl) rfl rfl
    · refine s_run X ok_X1_monthsToPayOff 7 3 (pc' := 25) (vs' := [some (.ref p0), none, some (.long p2), none, some (.long x9), none, some (.int x10)]) (st' := [.int (lg_cmp x9 0)]) rfl ?_
      refine s_lif_gt (tgt := 31) X (dk okd_X1_monthsToPayOff 4 rfl) (by decide) ?_ ?_
      · refine s_run X ok_X1_monthsToPayOff 11 3 (pc' := 36) (vs' := [some (.ref p0), none, some (.long p2), none, some (.long x9), none, some (.int x10)]) (st' := [.long x9, .ref p0, .long x9]) rfl ?_
        refine s_callV (rest := [.long x9]) X E mv_X1_162 (c_X1_interestOn S p0 x9) (ta1 t0_) rfl (by decide) t0_ rfl rfl (Nat.le_of_ble_eq_true rfl) (Nat.le_of_ble_eq_true rfl) (Nat.le_of_ble_eq_true rfl) (dk okd_X1_monthsToPayOff 6 rfl) (st' := fun v13 => [.long v13, .long x9]) (fun _ => rfl) (fun v13 => ?_)
        refine s_run X ok_X1_monthsToPayOff 14 3 (pc' := 42) (vs' := [some (.ref p0), none, some (.long p2), none, some (.long x9), none, some (.int x10)]) (st' := [.long (x9 + (v13 - p2))]) rfl ?_
        refine s_nmJ (fun v14 => ?_)
        refine s_run X ok_X1_monthsToPayOff 17 3 (pc' := 14) (vs' := [some (.ref p0), none, some (.long p2), none, some (.long v14), none, some (.int (x10 + 1))]) (st' := []) rfl ?_
        exact h12 v14 (x10 + 1)
      · exact s_less [false, false, false, false, false, false, true] rfl (h8 x10)
def tab_X2_named : List En := [(0, 0, 0, 0), (1, 11, 4, 0), (3, 5, 4, 0), (5, 8, 0, 0), (12, 8, 0, 0), (16, 5, 4, 0), (19, 4, 3, 0), (23, 8, 0, 0), (24, 5, 4, 0), (26, 8, 1, 0), (27, 4, 2, 0), (34, 5, 4, 0), (37, 16, 4, 1), (40, 41, 3, 0), (43, 0, 0, (-1))]
theorem ok_X2_named : tab_X2_named.all (okE cX2_named) = true := by decide +kernel
def ed_X2_named : List (Nat × Instr × Nat) := [(6, .getfield 44, 3), (9, .if_icmp .ge 34, 3), (13, .getfield 15, 3), (18, .iaload, 1), (20, .if_icmp .ne 17, 3), (28, .invokevirtual 52, 3), (31, .ifCond .eq 6, 3), (36, .ireturn, 1), (44, .ireturn, 1)]
theorem okd_X2_named : ed_X2_named.all (okD cX2_named) = true := by decide +kernel
def f_X2_named (S : St) (p0 : Nat) (p1 : Nat) (p2 : Int32) (p3 : Int32) : Option (Int32) := jn (κ := Int32 → Option (Int32)) (fun x1 => some x1) fun k2 => lp (κ := Int32 → Option (Int32)) (fun _ => none) (fun k5 x4 => lt (gI S p0 8) fun (v7 : Int32) => if v7 ≤ x4 then (some (-1)) else (lt (gR S p0 1) fun (a8 : Nat) => ldI S a8 x4 fun (v10 : Int32) => jn (κ := Option (Int32)) (k5 (x4 + 1)) fun k11 => if v10 = p3 then (cl (f_X2_hasLetters S p0 x4 p1 p2) fun (v13 : Int32) => if v13 = 0 then (k11) else (k2 x4)) else (k11))) FU 0
set_option maxHeartbeats 4000000 in
set_option maxRecDepth 100000 in
theorem c_X2_named (S : St) (p0 : Nat) (p1 : Nat) (p2 : Int32) (p3 : Int32) : Ct yX2_named cX2_named 5 (some .int) 1 25 [.ref p0, .ref p1, .int p2, .int p3] [(p0, 2), (p1, 12)] S (f_X2_named S p0 p1 p2 p3) oI (fun _ => S) := by
  refine Ct_of RX2 rfl (by decide) (Nat.le_of_ble_eq_true rfl) 1 (vs := [some (.ref p0), some (.ref p1), some (.int p2), some (.int p3), none]) rfl (fun C X E hr ht => ?_)
  have t0_ : tT C p0 2 := ht (p0, 2) (by simp)
  have t1_ : tT C p1 12 := ht (p1, 12) (by simp)
  unfold f_X2_named
  refine s_run X ok_X2_named 0 2 (pc' := 3) (vs' := [some (.ref p0), some (.ref p1), some (.int p2), some (.int p3), some (.int 0)]) (st' := []) rfl ?_
  refine s_jn (κ := Int32 → Option (Int32)) (fun k2 => ∀ (x1 : Int32), Jd C 5 (QJ C oI (fun _ => S)) S 34 [none, none, none, none, some (.int x1)] [] (k2 x1)) (fun x1 => ?_) (fun k2 h3 => ?_)
  · refine s_run X ok_X2_named 11 1 (pc' := 36) (vs' := [none, none, none, none, some (.int x1)]) (st' := [.int x1]) rfl ?_
    exact s_iret X hr (dk okd_X2_named 7 rfl) rfl rfl
  · refine s_lp (κ := Int32 → Option (Int32)) (fun k5 => ∀ (x4 : Int32), Jd C 5 (QJ C oI (fun _ => S)) S 3 [some (.ref p0), some (.ref p1), some (.int p2), some (.int p3), some (.int x4)] [] (k5 x4)) (fun _ => s_none) (fun k5 h6 x4 => ?_) FU 0
    refine s_run X ok_X2_named 2 2 (pc' := 6) (vs' := [some (.ref p0), some (.ref p1), some (.int p2), some (.int p3), some (.int x4)]) (st' := [.ref p0, .int x4]) rfl ?_
    refine s_getI X fl_X2_44 t0_ (dk okd_X2_named 0 rfl) (fun v7 => ?_)
    refine s_icmp_ge (tgt := 43) X (dk okd_X2_named 1 rfl) (by decide) ?_ ?_
    · refine s_run X ok_X2_named 14 1 (pc' := 44) (vs' := [some (.ref p0), some (.ref p1), some (.int p2), some (.int p3), some (.int x4)]) (st' := [.int (-1)]) rfl ?_
      exact s_iret X hr (dk okd_X2_named 8 rfl) rfl rfl
    · refine s_run X ok_X2_named 4 1 (pc' := 13) (vs' := [some (.ref p0), some (.ref p1), some (.int p2), some (.int p3), some (.int x4)]) (st' := [.ref p0]) rfl ?_
      refine s_getR X fl_X2_15 t0_ (dk okd_X2_named 2 rfl) (fun a8 (t9 : tT C a8 13) => ?_)
      refine s_run X ok_X2_named 5 1 (pc' := 18) (vs' := [some (.ref p0), some (.ref p1), some (.int p2), some (.int p3), some (.int x4)]) (st' := [.int x4, .ref a8]) rfl ?_
      refine s_iald X t9 (dk okd_X2_named 3 rfl) (fun v10 => ?_)
      refine s_run X ok_X2_named 6 1 (pc' := 20) (vs' := [some (.ref p0), some (.ref p1), some (.int p2), some (.int p3), some (.int x4)]) (st' := [.int p3, .int v10]) rfl ?_
      refine s_jn (κ := Option (Int32)) (fun k11 => Jd C 5 (QJ C oI (fun _ => S)) S 37 [some (.ref p0), some (.ref p1), some (.int p2), some (.int p3), some (.int x4)] [] k11) ?_ (fun k11 h12 => ?_)
      · refine s_run X ok_X2_named 12 2 (pc' := 3) (vs' := [some (.ref p0), some (.ref p1), some (.int p2), some (.int p3), some (.int (x4 + 1))]) (st' := []) rfl ?_
        exact h6 (x4 + 1)
      · refine s_icmp_ne (tgt := 37) X (dk okd_X2_named 4 rfl) (by decide) ?_ ?_
        · exact h12
        · refine s_run X ok_X2_named 7 4 (pc' := 28) (vs' := [some (.ref p0), some (.ref p1), some (.int p2), some (.int p3), some (.int x4)]) (st' := [.int p2, .ref p1, .int x4, .ref p0]) rfl ?_
          refine s_callV (rest := []) X E mv_X2_52 (c_X2_hasLetters S p0 x4 p1 p2) (ta2 t0_ t1_) rfl (by decide) t0_ rfl rfl (Nat.le_of_ble_eq_true rfl) (Nat.le_of_ble_eq_true rfl) (Nat.le_of_ble_eq_true rfl) (dk okd_X2_named 5 rfl) (st' := fun v13 => [.int v13]) (fun _ => rfl) (fun v13 => ?_)
          refine s_if_eq (tgt := 37) X (dk okd_X2_named 6 rfl) (by decide) ?_ ?_
          · exact h12
          · exact s_less [false, false, false, false, true] rfl (h3 x4)
def tab_X2_owedBy : List En := [(0, 8, 0, 0), (4, 4, 1, 0), (6, 3, 0, 0)]
theorem ok_X2_owedBy : tab_X2_owedBy.all (okE cX2_owedBy) = true := by decide +kernel
def ed_X2_owedBy : List (Nat × Instr × Nat) := [(1, .getfield 34, 3), (5, .laload, 1), (7, .invokestatic 56, 3), (10, .lreturn, 1)]
theorem okd_X2_owedBy : ed_X2_owedBy.all (okD cX2_owedBy) = true := by decide +kernel
def f_X2_owedBy (S : St) (p0 : Nat) (p1 : Int32) : Option (Int64) := lt (gR S p0 7) fun (a1 : Nat) => ldJ S a1 p1 fun (v3 : Int64) => cl (f_J9_max_f86c9 S v3 0) fun (v4 : Int64) => some v4
set_option maxHeartbeats 4000000 in
set_option maxRecDepth 100000 in
theorem c_X2_owedBy (S : St) (p0 : Nat) (p1 : Int32) : Ct yX2_owedBy cX2_owedBy 2 (some .long) 1 23 [.ref p0, .int p1] [(p0, 2)] S (f_X2_owedBy S p0 p1) oL (fun _ => S) := by
  refine Ct_of RX2 rfl (by decide) (Nat.le_of_ble_eq_true rfl) 0 (vs := [some (.ref p0), some (.int p1)]) rfl (fun C X E hr ht => ?_)
  have t0_ : tT C p0 2 := ht (p0, 2) (by simp)
  unfold f_X2_owedBy
  refine s_run X ok_X2_owedBy 0 1 (pc' := 1) (vs' := [some (.ref p0), some (.int p1)]) (st' := [.ref p0]) rfl ?_
  refine s_getR X fl_X2_34 t0_ (dk okd_X2_owedBy 0 rfl) (fun a1 (t2 : tT C a1 14) => ?_)
  refine s_run X ok_X2_owedBy 1 1 (pc' := 5) (vs' := [some (.ref p0), some (.int p1)]) (st' := [.int p1, .ref a1]) rfl ?_
  refine s_lald X t2 (dk okd_X2_owedBy 1 rfl) (fun v3 => ?_)
  refine s_run X ok_X2_owedBy 2 1 (pc' := 7) (vs' := [some (.ref p0), some (.int p1)]) (st' := [.long 0, .long v3]) rfl ?_
  refine s_callS (rest := []) X E ms_X2_56 (c_J9_max_f86c9 S v3 0) (ta0) rfl rfl (Nat.le_of_ble_eq_true rfl) (Nat.le_of_ble_eq_true rfl) (Nat.le_of_ble_eq_true rfl) (dk okd_X2_owedBy 2 rfl) (st' := fun v4 => [.long v4]) (fun _ => rfl) (fun v4 => ?_)
  exact s_lret X hr (dk okd_X2_owedBy 3 rfl) rfl rfl
def tab_X2_owedTogether : List En := [(0, 3, 0, 0), (1, 12, 1, 0), (2, 0, 0, 0), (3, 10, 3, 0), (4, 4, 3, 0), (5, 8, 0, 0), (12, 6, 1, 0), (13, 8, 0, 0), (14, 4, 3, 0), (18, 23, 0, 0), (19, 12, 1, 0), (20, 16, 3, 1), (23, 41, 4, 0), (26, 6, 1, 0)]
theorem ok_X2_owedTogether : tab_X2_owedTogether.all (okE cX2_owedTogether) = true := by decide +kernel
def ed_X2_owedTogether : List (Nat × Instr × Nat) := [(6, .getfield 44, 3), (9, .if_icmp .ge 17, 3), (15, .invokevirtual 62, 3), (27, .lreturn, 1)]
theorem okd_X2_owedTogether : ed_X2_owedTogether.all (okD cX2_owedTogether) = true := by decide +kernel
def f_X2_owedTogether (S : St) (p0 : Nat) : Option (Int64) := jn (κ := Int64 → Option (Int64)) (fun x1 => some x1) fun k2 => lp (κ := Int64 → Int32 → Option (Int64)) (fun _ _ => none) (fun k6 x4 x5 => lt (gI S p0 8) fun (v8 : Int32) => if v8 ≤ x5 then (k2 x4) else (cl (f_X2_owedBy S p0 x5) fun (v9 : Int64) => lt (x4 + v9) fun (v10 : Int64) => k6 v10 (x5 + 1))) FU 0 0
set_option maxHeartbeats 4000000 in
set_option maxRecDepth 100000 in
theorem c_X2_owedTogether (S : St) (p0 : Nat) : Ct yX2_owedTogether cX2_owedTogether 4 (some .long) 2 44 [.ref p0] [(p0, 2)] S (f_X2_owedTogether S p0) oL (fun _ => S) := by
  refine Ct_of RX2 rfl (by decide) (Nat.le_of_ble_eq_true rfl) 3 (vs := [some (.ref p0), none, none, none]) rfl (fun C X E hr ht => ?_)
  have t0_ : tT C p0 2 := ht (p0, 2) (by simp)
  unfold f_X2_owedTogether
  refine s_run X ok_X2_owedTogether 0 4 (pc' := 4) (vs' := [some (.ref p0), some (.long 0), none, some (.int 0)]) (st' := []) rfl ?_
  refine s_jn (κ := Int64 → Option (Int64)) (fun k2 => ∀ (x1 : Int64), Jd C 4 (QJ C oL (fun _ => S)) S 26 [none, some (.long x1), none, none] [] (k2 x1)) (fun x1 => ?_) (fun k2 h3 => ?_)
  · refine s_run X ok_X2_owedTogether 13 1 (pc' := 27) (vs' := [none, some (.long x1), none, none]) (st' := [.long x1]) rfl ?_
    exact s_lret X hr (dk okd_X2_owedTogether 3 rfl) rfl rfl
  · refine s_lp (κ := Int64 → Int32 → Option (Int64)) (fun k6 => ∀ (x4 : Int64) (x5 : Int32), Jd C 4 (QJ C oL (fun _ => S)) S 4 [some (.ref p0), some (.long x4), none, some (.int x5)] [] (k6 x4 x5)) (fun _ _ => s_none) (fun k6 h7 x4 x5 => ?_) FU 0 0
    refine s_run X ok_X2_owedTogether 4 2 (pc' := 6) (vs' := [some (.ref p0), some (.long x4), none, some (.int x5)]) (st' := [.ref p0, .int x5]) rfl ?_
    refine s_getI X fl_X2_44 t0_ (dk okd_X2_owedTogether 0 rfl) (fun v8 => ?_)
    refine s_icmp_ge (tgt := 26) X (dk okd_X2_owedTogether 1 rfl) (by decide) ?_ ?_
    · exact s_less [false, true, false, false] rfl (h3 x4)
    · refine s_run X ok_X2_owedTogether 6 3 (pc' := 15) (vs' := [some (.ref p0), some (.long x4), none, some (.int x5)]) (st' := [.int x5, .ref p0, .long x4]) rfl ?_
      refine s_callV (rest := [.long x4]) X E mv_X2_62 (c_X2_owedBy S p0 x5) (ta1 t0_) rfl (by decide) t0_ rfl rfl (Nat.le_of_ble_eq_true rfl) (Nat.le_of_ble_eq_true rfl) (Nat.le_of_ble_eq_true rfl) (dk okd_X2_owedTogether 2 rfl) (st' := fun v9 => [.long v9, .long x4]) (fun _ => rfl) (fun v9 => ?_)
      refine s_run X ok_X2_owedTogether 9 1 (pc' := 19) (vs' := [some (.ref p0), some (.long x4), none, some (.int x5)]) (st' := [.long (x4 + v9)]) rfl ?_
      refine s_nmJ (fun v10 => ?_)
      refine s_run X ok_X2_owedTogether 10 3 (pc' := 4) (vs' := [some (.ref p0), some (.long v10), none, some (.int (x5 + 1))]) (st' := []) rfl ?_
      exact h7 v10 (x5 + 1)
def tab_X3_steps : List En := [(0, 4, 0, 0), (1, 4, 2, 0), (2, 18, 0, 0), (6, 4, 1, 0), (7, 4, 3, 0), (8, 18, 0, 0), (12, 17, 0, 0)]
theorem ok_X3_steps : tab_X3_steps.all (okE cX3_steps) = true := by decide +kernel
def ed_X3_steps : List (Nat × Instr × Nat) := [(3, .invokestatic 21, 3), (9, .invokestatic 21, 3), (13, .ireturn, 1)]
theorem okd_X3_steps : ed_X3_steps.all (okD cX3_steps) = true := by decide +kernel
def f_X3_steps (S : St) (p0 : Int32) (p1 : Int32) (p2 : Int32) (p3 : Int32) : Option (Int32) := cl (f_J9_abs_0f7a4 S (p0 - p2)) fun (v1 : Int32) => cl (f_J9_abs_0f7a4 S (p1 - p3)) fun (v2 : Int32) => some (v1 + v2)
set_option maxHeartbeats 4000000 in
set_option maxRecDepth 100000 in
theorem c_X3_steps (S : St) (p0 : Int32) (p1 : Int32) (p2 : Int32) (p3 : Int32) : Ct yX3_steps cX3_steps 4 (some .int) 1 20 [.int p0, .int p1, .int p2, .int p3] [] S (f_X3_steps S p0 p1 p2 p3) oI (fun _ => S) := by
  refine Ct_of RX3 rfl (by decide) (Nat.le_of_ble_eq_true rfl) 0 (vs := [some (.int p0), some (.int p1), some (.int p2), some (.int p3)]) rfl (fun C X E hr ht => ?_)
  unfold f_X3_steps
  refine s_run X ok_X3_steps 0 3 (pc' := 3) (vs' := [some (.int p0), some (.int p1), some (.int p2), some (.int p3)]) (st' := [.int (p0 - p2)]) rfl ?_
  refine s_callS (rest := []) X E ms_X3_21 (c_J9_abs_0f7a4 S (p0 - p2)) (ta0) rfl rfl (Nat.le_of_ble_eq_true rfl) (Nat.le_of_ble_eq_true rfl) (Nat.le_of_ble_eq_true rfl) (dk okd_X3_steps 0 rfl) (st' := fun v1 => [.int v1]) (fun _ => rfl) (fun v1 => ?_)
  refine s_run X ok_X3_steps 3 3 (pc' := 9) (vs' := [some (.int p0), some (.int p1), some (.int p2), some (.int p3)]) (st' := [.int (p1 - p3), .int v1]) rfl ?_
  refine s_callS (rest := [.int v1]) X E ms_X3_21 (c_J9_abs_0f7a4 S (p1 - p3)) (ta0) rfl rfl (Nat.le_of_ble_eq_true rfl) (Nat.le_of_ble_eq_true rfl) (Nat.le_of_ble_eq_true rfl) (dk okd_X3_steps 1 rfl) (st' := fun v2 => [.int v2, .int v1]) (fun _ => rfl) (fun v2 => ?_)
  refine s_run X ok_X3_steps 6 1 (pc' := 13) (vs' := [some (.int p0), some (.int p1), some (.int p2), some (.int p3)]) (st' := [.int (v1 + v2)]) rfl ?_
  exact s_iret X hr (dk okd_X3_steps 2 rfl) rfl rfl
def tab_X3_clear : List En := [(0, 8, 0, 0), (4, 0, 0, (-1))]
theorem ok_X3_clear : tab_X3_clear.all (okE cX3_clear) = true := by decide +kernel
def ed_X3_clear : List (Nat × Instr × Nat) := [(1, .getfield 9, 3), (5, .invokestatic 27, 3), (8, .return_, 1)]
theorem okd_X3_clear : ed_X3_clear.all (okD cX3_clear) = true := by decide +kernel
def f_X3_clear (S : St) (p0 : Nat) : Option (St) := lt (gR S p0 0) fun (a1 : Nat) => cl (f_J7_fill_53178 S a1 (-1)) fun (S3 : St) => some S3
set_option maxHeartbeats 4000000 in
set_option maxRecDepth 100000 in
theorem c_X3_clear (S : St) (p0 : Nat) : Ct yX3_clear cX3_clear 1 none 1 23 [.ref p0] [(p0, 3)] S (f_X3_clear S p0) oV sV := by
  refine Ct_of RX3 rfl (by decide) (Nat.le_of_ble_eq_true rfl) 0 (vs := [some (.ref p0)]) rfl (fun C X E hr ht => ?_)
  have t0_ : tT C p0 3 := ht (p0, 3) (by simp)
  unfold f_X3_clear
  refine s_run X ok_X3_clear 0 1 (pc' := 1) (vs' := [some (.ref p0)]) (st' := [.ref p0]) rfl ?_
  refine s_getR X fl_X3_9 t0_ (dk okd_X3_clear 0 rfl) (fun a1 (t2 : tT C a1 13) => ?_)
  refine s_run X ok_X3_clear 1 1 (pc' := 5) (vs' := [some (.ref p0)]) (st' := [.int (-1), .ref a1]) rfl ?_
  refine s_callS (rest := []) X E ms_X3_27 (c_J7_fill_53178 S a1 (-1)) (ta1 t2) rfl rfl (Nat.le_of_ble_eq_true rfl) (Nat.le_of_ble_eq_true rfl) (Nat.le_of_ble_eq_true rfl) (dk okd_X3_clear 1 rfl) (st' := fun S3 => []) (fun _ => rfl) (fun S3 => ?_)
  exact s_vret X hr (dk okd_X3_clear 2 rfl) rfl rfl
def tab_X3_outerSides : List En := [(0, 0, 0, 0), (1, 10, 2, 0), (2, 0, 0, 0), (3, 10, 3, 0), (4, 4, 3, 0), (5, 2, 0, 900), (11, 8, 0, 0), (15, 4, 3, 0), (17, 4, 1, 0), (21, 4, 2, 0), (22, 0, 0, 4), (23, 8, 0, 0), (24, 4, 1, 0), (25, 4, 3, 0), (29, 18, 0, 0), (30, 17, 0, 0), (31, 10, 2, 0), (32, 16, 3, 1), (35, 41, 4, 0), (38, 4, 2, 0)]
theorem ok_X3_outerSides : tab_X3_outerSides.all (okE cX3_outerSides) = true := by decide +kernel
def ed_X3_outerSides : List (Nat × Instr × Nat) := [(8, .if_icmp .ge 30, 3), (12, .getfield 9, 3), (16, .iaload, 1), (18, .if_icmp .ne 14, 3), (26, .invokevirtual 51, 3), (39, .ireturn, 1)]
theorem okd_X3_outerSides : ed_X3_outerSides.all (okD cX3_outerSides) = true := by decide +kernel
def f_X3_outerSides (S : St) (p0 : Nat) (p1 : Int32) : Option (Int32) := jn (κ := Int32 → Option (Int32)) (fun x1 => some x1) fun k2 => lp (κ := Int32 → Int32 → Option (Int32)) (fun _ _ => none) (fun k6 x4 x5 => if 900 ≤ x5 then (k2 x4) else (lt (gR S p0 0) fun (a8 : Nat) => ldI S a8 x5 fun (v10 : Int32) => jn (κ := Int32 → Option (Int32)) (fun x11 => k6 x11 (x5 + 1)) fun k12 => if v10 = p1 then (cl (f_X3_neighboursOf S p0 p1 x5) fun (v14 : Int32) => lt (x4 + (4 - v14)) fun (v15 : Int32) => k12 v15) else (k12 x4))) FU 0 0
set_option maxHeartbeats 4000000 in
set_option maxRecDepth 100000 in
theorem c_X3_outerSides (S : St) (p0 : Nat) (p1 : Int32) : Ct yX3_outerSides cX3_outerSides 4 (some .int) 3 68 [.ref p0, .int p1] [(p0, 3)] S (f_X3_outerSides S p0 p1) oI (fun _ => S) := by
  refine Ct_of RX3 rfl (by decide) (Nat.le_of_ble_eq_true rfl) 2 (vs := [some (.ref p0), some (.int p1), none, none]) rfl (fun C X E hr ht => ?_)
  have t0_ : tT C p0 3 := ht (p0, 3) (by simp)
  unfold f_X3_outerSides
  refine s_run X ok_X3_outerSides 0 4 (pc' := 4) (vs' := [some (.ref p0), some (.int p1), some (.int 0), some (.int 0)]) (st' := []) rfl ?_
  refine s_jn (κ := Int32 → Option (Int32)) (fun k2 => ∀ (x1 : Int32), Jd C 4 (QJ C oI (fun _ => S)) S 38 [none, none, some (.int x1), none] [] (k2 x1)) (fun x1 => ?_) (fun k2 h3 => ?_)
  · refine s_run X ok_X3_outerSides 19 1 (pc' := 39) (vs' := [none, none, some (.int x1), none]) (st' := [.int x1]) rfl ?_
    exact s_iret X hr (dk okd_X3_outerSides 5 rfl) rfl rfl
  · refine s_lp (κ := Int32 → Int32 → Option (Int32)) (fun k6 => ∀ (x4 : Int32) (x5 : Int32), Jd C 4 (QJ C oI (fun _ => S)) S 4 [some (.ref p0), some (.int p1), some (.int x4), some (.int x5)] [] (k6 x4 x5)) (fun _ _ => s_none) (fun k6 h7 x4 x5 => ?_) FU 0 0
    refine s_run X ok_X3_outerSides 4 2 (pc' := 8) (vs' := [some (.ref p0), some (.int p1), some (.int x4), some (.int x5)]) (st' := [.int 900, .int x5]) rfl ?_
    refine s_icmp_ge (tgt := 38) X (dk okd_X3_outerSides 0 rfl) (by decide) ?_ ?_
    · exact s_less [false, false, true, false] rfl (h3 x4)
    · refine s_run X ok_X3_outerSides 6 1 (pc' := 12) (vs' := [some (.ref p0), some (.int p1), some (.int x4), some (.int x5)]) (st' := [.ref p0]) rfl ?_
      refine s_getR X fl_X3_9 t0_ (dk okd_X3_outerSides 1 rfl) (fun a8 (t9 : tT C a8 13) => ?_)
      refine s_run X ok_X3_outerSides 7 1 (pc' := 16) (vs' := [some (.ref p0), some (.int p1), some (.int x4), some (.int x5)]) (st' := [.int x5, .ref a8]) rfl ?_
      refine s_iald X t9 (dk okd_X3_outerSides 2 rfl) (fun v10 => ?_)
      refine s_run X ok_X3_outerSides 8 1 (pc' := 18) (vs' := [some (.ref p0), some (.int p1), some (.int x4), some (.int x5)]) (st' := [.int p1, .int v10]) rfl ?_
      refine s_jn (κ := Int32 → Option (Int32)) (fun k12 => ∀ (x11 : Int32), Jd C 4 (QJ C oI (fun _ => S)) S 32 [some (.ref p0), some (.int p1), some (.int x11), some (.int x5)] [] (k12 x11)) (fun x11 => ?_) (fun k12 h13 => ?_)
      · refine s_run X ok_X3_outerSides 17 2 (pc' := 4) (vs' := [some (.ref p0), some (.int p1), some (.int x11), some (.int (x5 + 1))]) (st' := []) rfl ?_
        exact h7 x11 (x5 + 1)
      · refine s_icmp_ne (tgt := 32) X (dk okd_X3_outerSides 3 rfl) (by decide) ?_ ?_
        · exact h13 x4
        · refine s_run X ok_X3_outerSides 9 5 (pc' := 26) (vs' := [some (.ref p0), some (.int p1), some (.int x4), some (.int x5)]) (st' := [.int x5, .int p1, .ref p0, .int 4, .int x4]) rfl ?_
          refine s_callV (rest := [.int 4, .int x4]) X E mv_X3_51 (c_X3_neighboursOf S p0 p1 x5) (ta1 t0_) rfl (by decide) t0_ rfl rfl (Nat.le_of_ble_eq_true rfl) (Nat.le_of_ble_eq_true rfl) (Nat.le_of_ble_eq_true rfl) (dk okd_X3_outerSides 4 rfl) (st' := fun v14 => [.int v14, .int 4, .int x4]) (fun _ => rfl) (fun v14 => ?_)
          refine s_run X ok_X3_outerSides 14 2 (pc' := 31) (vs' := [some (.ref p0), some (.int p1), some (.int x4), some (.int x5)]) (st' := [.int (x4 + (4 - v14))]) rfl ?_
          refine s_nmI (fun v15 => ?_)
          refine s_run X ok_X3_outerSides 16 1 (pc' := 32) (vs' := [some (.ref p0), some (.int p1), some (.int v15), some (.int x5)]) (st' := []) rfl ?_
          exact h13 v15
def tab_X3_sharedSides : List En := [(0, 0, 0, 0), (1, 10, 3, 0), (2, 0, 0, 0), (3, 11, 4, 0), (5, 5, 4, 0), (7, 2, 0, 900), (13, 8, 0, 0), (17, 5, 4, 0), (20, 4, 1, 0), (24, 4, 3, 0), (25, 8, 0, 0), (26, 4, 2, 0), (27, 5, 4, 0), (32, 17, 0, 0), (33, 10, 3, 0), (34, 16, 4, 1), (37, 41, 5, 0), (40, 4, 3, 0)]
theorem ok_X3_sharedSides : tab_X3_sharedSides.all (okE cX3_sharedSides) = true := by decide +kernel
def ed_X3_sharedSides : List (Nat × Instr × Nat) := [(10, .if_icmp .ge 30, 3), (14, .getfield 9, 3), (19, .iaload, 1), (21, .if_icmp .ne 13, 3), (29, .invokevirtual 51, 3), (41, .ireturn, 1)]
theorem okd_X3_sharedSides : ed_X3_sharedSides.all (okD cX3_sharedSides) = true := by decide +kernel
def f_X3_sharedSides (S : St) (p0 : Nat) (p1 : Int32) (p2 : Int32) : Option (Int32) := jn (κ := Int32 → Option (Int32)) (fun x1 => some x1) fun k2 => lp (κ := Int32 → Int32 → Option (Int32)) (fun _ _ => none) (fun k6 x4 x5 => if 900 ≤ x5 then (k2 x4) else (lt (gR S p0 0) fun (a8 : Nat) => ldI S a8 x5 fun (v10 : Int32) => jn (κ := Int32 → Option (Int32)) (fun x11 => k6 x11 (x5 + 1)) fun k12 => if v10 = p1 then (cl (f_X3_neighboursOf S p0 p2 x5) fun (v14 : Int32) => lt (x4 + v14) fun (v15 : Int32) => k12 v15) else (k12 x4))) FU 0 0
set_option maxHeartbeats 4000000 in
set_option maxRecDepth 100000 in
theorem c_X3_sharedSides (S : St) (p0 : Nat) (p1 : Int32) (p2 : Int32) : Ct yX3_sharedSides cX3_sharedSides 5 (some .int) 3 68 [.ref p0, .int p1, .int p2] [(p0, 3)] S (f_X3_sharedSides S p0 p1 p2) oI (fun _ => S) := by
  refine Ct_of RX3 rfl (by decide) (Nat.le_of_ble_eq_true rfl) 2 (vs := [some (.ref p0), some (.int p1), some (.int p2), none, none]) rfl (fun C X E hr ht => ?_)
  have t0_ : tT C p0 3 := ht (p0, 3) (by simp)
  unfold f_X3_sharedSides
  refine s_run X ok_X3_sharedSides 0 4 (pc' := 5) (vs' := [some (.ref p0), some (.int p1), some (.int p2), some (.int 0), some (.int 0)]) (st' := []) rfl ?_
  refine s_jn (κ := Int32 → Option (Int32)) (fun k2 => ∀ (x1 : Int32), Jd C 5 (QJ C oI (fun _ => S)) S 40 [none, none, none, some (.int x1), none] [] (k2 x1)) (fun x1 => ?_) (fun k2 h3 => ?_)
  · refine s_run X ok_X3_sharedSides 17 1 (pc' := 41) (vs' := [none, none, none, some (.int x1), none]) (st' := [.int x1]) rfl ?_
    exact s_iret X hr (dk okd_X3_sharedSides 5 rfl) rfl rfl
  · refine s_lp (κ := Int32 → Int32 → Option (Int32)) (fun k6 => ∀ (x4 : Int32) (x5 : Int32), Jd C 5 (QJ C oI (fun _ => S)) S 5 [some (.ref p0), some (.int p1), some (.int p2), some (.int x4), some (.int x5)] [] (k6 x4 x5)) (fun _ _ => s_none) (fun k6 h7 x4 x5 => ?_) FU 0 0
    refine s_run X ok_X3_sharedSides 4 2 (pc' := 10) (vs' := [some (.ref p0), some (.int p1), some (.int p2), some (.int x4), some (.int x5)]) (st' := [.int 900, .int x5]) rfl ?_
    refine s_icmp_ge (tgt := 40) X (dk okd_X3_sharedSides 0 rfl) (by decide) ?_ ?_
    · exact s_less [false, false, false, true, false] rfl (h3 x4)
    · refine s_run X ok_X3_sharedSides 6 1 (pc' := 14) (vs' := [some (.ref p0), some (.int p1), some (.int p2), some (.int x4), some (.int x5)]) (st' := [.ref p0]) rfl ?_
      refine s_getR X fl_X3_9 t0_ (dk okd_X3_sharedSides 1 rfl) (fun a8 (t9 : tT C a8 13) => ?_)
      refine s_run X ok_X3_sharedSides 7 1 (pc' := 19) (vs' := [some (.ref p0), some (.int p1), some (.int p2), some (.int x4), some (.int x5)]) (st' := [.int x5, .ref a8]) rfl ?_
      refine s_iald X t9 (dk okd_X3_sharedSides 2 rfl) (fun v10 => ?_)
      refine s_run X ok_X3_sharedSides 8 1 (pc' := 21) (vs' := [some (.ref p0), some (.int p1), some (.int p2), some (.int x4), some (.int x5)]) (st' := [.int p1, .int v10]) rfl ?_
      refine s_jn (κ := Int32 → Option (Int32)) (fun k12 => ∀ (x11 : Int32), Jd C 5 (QJ C oI (fun _ => S)) S 34 [some (.ref p0), some (.int p1), some (.int p2), some (.int x11), some (.int x5)] [] (k12 x11)) (fun x11 => ?_) (fun k12 h13 => ?_)
      · refine s_run X ok_X3_sharedSides 15 2 (pc' := 5) (vs' := [some (.ref p0), some (.int p1), some (.int p2), some (.int x11), some (.int (x5 + 1))]) (st' := []) rfl ?_
        exact h7 x11 (x5 + 1)
      · refine s_icmp_ne (tgt := 34) X (dk okd_X3_sharedSides 3 rfl) (by decide) ?_ ?_
        · exact h13 x4
        · refine s_run X ok_X3_sharedSides 9 4 (pc' := 29) (vs' := [some (.ref p0), some (.int p1), some (.int p2), some (.int x4), some (.int x5)]) (st' := [.int x5, .int p2, .ref p0, .int x4]) rfl ?_
          refine s_callV (rest := [.int x4]) X E mv_X3_51 (c_X3_neighboursOf S p0 p2 x5) (ta1 t0_) rfl (by decide) t0_ rfl rfl (Nat.le_of_ble_eq_true rfl) (Nat.le_of_ble_eq_true rfl) (Nat.le_of_ble_eq_true rfl) (dk okd_X3_sharedSides 4 rfl) (st' := fun v14 => [.int v14, .int x4]) (fun _ => rfl) (fun v14 => ?_)
          refine s_run X ok_X3_sharedSides 13 1 (pc' := 33) (vs' := [some (.ref p0), some (.int p1), some (.int p2), some (.int x4), some (.int x5)]) (st' := [.int (x4 + v14)]) rfl ?_
          refine s_nmI (fun v15 => ?_)
          refine s_run X ok_X3_sharedSides 14 1 (pc' := 34) (vs' := [some (.ref p0), some (.int p1), some (.int p2), some (.int v15), some (.int x5)]) (st' := []) rfl ?_
          exact h13 v15
def tab_X3_isWhole : List En := [(0, 8, 0, 0), (1, 4, 1, 0), (5, 10, 2, 0), (6, 4, 2, 0), (10, 0, 0, 0), (12, 8, 0, 0), (16, 0, 0, 0), (20, 8, 0, 0), (21, 0, 0, 0), (25, 0, 0, 0), (26, 10, 3, 0), (27, 4, 3, 0), (28, 2, 0, 900), (34, 8, 0, 0), (41, 8, 0, 0), (42, 4, 1, 0), (43, 4, 3, 0), (44, 1, 0, 30), (47, 4, 3, 0), (48, 1, 0, 30), (54, 16, 3, 1), (57, 41, 27, 0), (60, 0, 0, 0), (61, 10, 3, 0), (62, 4, 3, 0), (63, 8, 0, 0), (70, 8, 0, 0), (74, 4, 3, 0), (76, 1, 0, 30), (79, 11, 4, 0), (81, 8, 0, 0), (85, 4, 3, 0), (87, 1, 0, 30), (90, 11, 5, 0), (92, 8, 0, 0), (93, 4, 1, 0), (94, 5, 4, 0), (96, 0, 0, 1), (97, 18, 0, 0), (98, 5, 5, 0), (103, 8, 0, 0), (104, 4, 1, 0), (105, 5, 4, 0), (107, 0, 0, 1), (108, 17, 0, 0), (109, 5, 5, 0), (114, 8, 0, 0), (115, 4, 1, 0), (116, 5, 4, 0), (118, 5, 5, 0), (120, 0, 0, 1), (121, 18, 0, 0), (125, 8, 0, 0), (126, 4, 1, 0), (127, 5, 4, 0), (129, 5, 5, 0), (131, 0, 0, 1), (132, 17, 0, 0), (136, 16, 3, 1), (139, 41, 62, 0), (142, 8, 0, 0), (146, 4, 2, 0), (150, 0, 0, 1), (151, 41, 155, 0), (154, 0, 0, 0)]
theorem ok_X3_isWhole : tab_X3_isWhole.all (okE cX3_isWhole) = true := by decide +kernel
def ed_X3_isWhole : List (Nat × Instr × Nat) := [(2, .invokevirtual 54, 3), (7, .ifCond .ne 5, 3), (11, .ireturn, 1), (13, .getfield 18, 3), (17, .invokestatic 27, 3), (22, .putfield 57, 3), (31, .if_icmp .ge 29, 3), (35, .getfield 57, 3), (38, .ifCond .ne 22, 3), (46, .irem, 1), (50, .idiv, 1), (51, .invokevirtual 61, 3), (64, .getfield 57, 3), (67, .if_icmp .ge 75, 3), (71, .getfield 15, 3), (75, .iaload, 1), (78, .irem, 1), (82, .getfield 15, 3), (86, .iaload, 1), (89, .idiv, 1), (100, .invokevirtual 61, 3), (111, .invokevirtual 61, 3), (122, .invokevirtual 61, 3), (133, .invokevirtual 61, 3), (143, .getfield 57, 3), (147, .if_icmp .ne 7, 3), (155, .ireturn, 1)]
theorem okd_X3_isWhole : ed_X3_isWhole.all (okD cX3_isWhole) = true := by decide +kernel
def f_X3_isWhole (S : St) (p0 : Nat) (p1 : Int32) : Option (Int32 × St) := cl (f_X3_sizeOf S p0 p1) fun (v1 : Int32) => if v1 = 0 then (some (0, S)) else (lt (gR S p0 2) fun (a2 : Nat) => cl (f_J7_fill_53178 S a2 0) fun (S4 : St) => lt (uI S4 p0 3 0) fun (S5 : St) => jn (κ := St → Option (Int32 × St)) (fun S6 => jn (κ := St → Option (Int32 × St)) (fun S9 => lt (gI S9 p0 3) fun (v12 : Int32) => if v12 = v1 then (some (1, S9)) else (some (0, S9))) fun k10 => lp (κ := Int32 → St → Option (Int32 × St)) (fun _ _ => none) (fun k15 x13 S14 => lt (gI S14 p0 3) fun (v17 : Int32) => if v17 ≤ x13 then (k10 S14) else (lt (gR S14 p0 1) fun (a18 : Nat) => ldI S14 a18 x13 fun (v20 : Int32) => lt (v20 - v20 / 30 * 30) fun (v21 : Int32) => lt (gR S14 p0 1) fun (a22 : Nat) => ldI S14 a22 x13 fun (v24 : Int32) => lt (v24 / 30) fun (v25 : Int32) => cl (f_X3_reach S14 p0 p1 (v21 - 1) v25) fun (S26 : St) => cl (f_X3_reach S26 p0 p1 (v21 + 1) v25) fun (S27 : St) => cl (f_X3_reach S27 p0 p1 v21 (v25 - 1)) fun (S28 : St) => cl (f_X3_reach S28 p0 p1 v21 (v25 + 1)) fun (S29 : St) => k15 (x13 + 1) S29)) FU 0 S6) fun k7 => lp (κ := Int32 → St → Option (Int32 × St)) (fun _ _ => none) (fun k32 x30 S31 => if 900 ≤ x30 then (k7 S31) else (lt (gI S31 p0 3) fun (v34 : Int32) => if v34 = 0 then (cl (f_X3_reach S31 p0 p1 (x30 - x30 / 30 * 30) (x30 / 30)) fun (S35 : St) => k32 (x30 + 1) S35) else (k7 S31))) FU 0 S5)
set_option maxHeartbeats 4000000 in
set_option maxRecDepth 100000 in
theorem c_X3_isWhole (S : St) (p0 : Nat) (p1 : Int32) : Ct yX3_isWhole cX3_isWhole 6 (some .boolean) 3 68 [.ref p0, .int p1] [(p0, 3)] S (f_X3_isWhole S p0 p1) oIS sS := by
  refine Ct_of RX3 rfl (by decide) (Nat.le_of_ble_eq_true rfl) 4 (vs := [some (.ref p0), some (.int p1), none, none, none, none]) rfl (fun C X E hr ht => ?_)
  have t0_ : tT C p0 3 := ht (p0, 3) (by simp)
  unfold f_X3_isWhole
  refine s_run X ok_X3_isWhole 0 2 (pc' := 2) (vs' := [some (.ref p0), some (.int p1), none, none, none, none]) (st' := [.int p1, .ref p0]) rfl ?_
  refine s_callV (rest := []) X E mv_X3_54 (c_X3_sizeOf S p0 p1) (ta1 t0_) rfl (by decide) t0_ rfl rfl (Nat.le_of_ble_eq_true rfl) (Nat.le_of_ble_eq_true rfl) (Nat.le_of_ble_eq_true rfl) (dk okd_X3_isWhole 0 rfl) (st' := fun v1 => [.int v1]) (fun _ => rfl) (fun v1 => ?_)
  refine s_run X ok_X3_isWhole 2 2 (pc' := 7) (vs' := [some (.ref p0), some (.int p1), some (.int v1), none, none, none]) (st' := [.int v1]) rfl ?_
  refine s_if_ne (tgt := 12) X (dk okd_X3_isWhole 1 rfl) (by decide) ?_ ?_
  · refine s_run X ok_X3_isWhole 5 1 (pc' := 13) (vs' := [some (.ref p0), some (.int p1), some (.int v1), none, none, none]) (st' := [.ref p0]) rfl ?_
    refine s_getR X fl_X3_18 t0_ (dk okd_X3_isWhole 3 rfl) (fun a2 (t3 : tT C a2 13) => ?_)
    refine s_run X ok_X3_isWhole 6 1 (pc' := 17) (vs' := [some (.ref p0), some (.int p1), some (.int v1), none, none, none]) (st' := [.int 0, .ref a2]) rfl ?_
    refine s_callS (rest := []) X E ms_X3_27 (c_J7_fill_53178 S a2 0) (ta1 t3) rfl rfl (Nat.le_of_ble_eq_true rfl) (Nat.le_of_ble_eq_true rfl) (Nat.le_of_ble_eq_true rfl) (dk okd_X3_isWhole 4 rfl) (st' := fun S4 => []) (fun _ => rfl) (fun S4 => ?_)
    refine s_run X ok_X3_isWhole 7 2 (pc' := 22) (vs' := [some (.ref p0), some (.int p1), some (.int v1), none, none, none]) (st' := [.int 0, .ref p0]) rfl ?_
    refine s_putI X fp_X3_57 t0_ (dk okd_X3_isWhole 5 rfl) (fun S5 => ?_)
    refine s_run X ok_X3_isWhole 9 2 (pc' := 27) (vs' := [some (.ref p0), some (.int p1), some (.int v1), some (.int 0), none, none]) (st' := []) rfl ?_
    refine s_jn (κ := St → Option (Int32 × St)) (fun k7 => ∀ (S6 : St), Jd C 6 (QJ C oIS sS) S6 60 [some (.ref p0), some (.int p1), some (.int v1), none, none, none] [] (k7 S6)) (fun S6 => ?_) (fun k7 h8 => ?_)
    · refine s_run X ok_X3_isWhole 22 2 (pc' := 62) (vs' := [some (.ref p0), some (.int p1), some (.int v1), some (.int 0), none, none]) (st' := []) rfl ?_
      refine s_jn (κ := St → Option (Int32 × St)) (fun k10 => ∀ (S9 : St), Jd C 6 (QJ C oIS sS) S9 142 [some (.ref p0), none, some (.int v1), none, none, none] [] (k10 S9)) (fun S9 => ?_) (fun k10 h11 => ?_)
      · refine s_run X ok_X3_isWhole 60 1 (pc' := 143) (vs' := [some (.ref p0), none, some (.int v1), none, none, none]) (st' := [.ref p0]) rfl ?_
        refine s_getI X fl_X3_57 t0_ (dk okd_X3_isWhole 24 rfl) (fun v12 => ?_)
        refine s_run X ok_X3_isWhole 61 1 (pc' := 147) (vs' := [some (.ref p0), none, some (.int v1), none, none, none]) (st' := [.int v1, .int v12]) rfl ?_
        refine s_icmp_ne (tgt := 154) X (dk okd_X3_isWhole 25 rfl) (by decide) ?_ ?_
        · refine s_run X ok_X3_isWhole 64 1 (pc' := 155) (vs' := [some (.ref p0), none, some (.int v1), none, none, none]) (st' := [.int 0]) rfl ?_
          exact s_zret0 X hr (dk okd_X3_isWhole 26 rfl) (by decide) rfl rfl
        · refine s_run X ok_X3_isWhole 62 2 (pc' := 155) (vs' := [some (.ref p0), none, some (.int v1), none, none, none]) (st' := [.int 1]) rfl ?_
          exact s_zret0 X hr (dk okd_X3_isWhole 26 rfl) (by decide) rfl rfl
      · refine s_lp (κ := Int32 → St → Option (Int32 × St)) (fun k15 => ∀ (x13 : Int32) (S14 : St), Jd C 6 (QJ C oIS sS) S14 62 [some (.ref p0), some (.int p1), some (.int v1), some (.int x13), none, none] [] (k15 x13 S14)) (fun _ _ => s_none) (fun k15 h16 x13 S14 => ?_) FU 0 S6
        refine s_run X ok_X3_isWhole 24 2 (pc' := 64) (vs' := [some (.ref p0), some (.int p1), some (.int v1), some (.int x13), none, none]) (st' := [.ref p0, .int x13]) rfl ?_
        refine s_getI X fl_X3_57 t0_ (dk okd_X3_isWhole 12 rfl) (fun v17 => ?_)
        refine s_icmp_ge (tgt := 142) X (dk okd_X3_isWhole 13 rfl) (by decide) ?_ ?_
        · exact s_less [true, false, true, false, false, false] rfl (h11 S14)
        · refine s_run X ok_X3_isWhole 26 1 (pc' := 71) (vs' := [some (.ref p0), some (.int p1), some (.int v1), some (.int x13), none, none]) (st' := [.ref p0]) rfl ?_
          refine s_getR X fl_X3_15 t0_ (dk okd_X3_isWhole 14 rfl) (fun a18 (t19 : tT C a18 13) => ?_)
          refine s_run X ok_X3_isWhole 27 1 (pc' := 75) (vs' := [some (.ref p0), some (.int p1), some (.int v1), some (.int x13), none, none]) (st' := [.int x13, .ref a18]) rfl ?_
          refine s_iald X t19 (dk okd_X3_isWhole 15 rfl) (fun v20 => ?_)
          refine s_run X ok_X3_isWhole 28 1 (pc' := 78) (vs' := [some (.ref p0), some (.int p1), some (.int v1), some (.int x13), none, none]) (st' := [.int 30, .int v20]) rfl ?_
          refine s_irem0 X (dk okd_X3_isWhole 16 rfl) (by decide) ?_
          refine s_nmI (fun v21 => ?_)
          refine s_run X ok_X3_isWhole 29 2 (pc' := 82) (vs' := [some (.ref p0), some (.int p1), some (.int v1), some (.int x13), some (.int v21), none]) (st' := [.ref p0]) rfl ?_
          refine s_getR X fl_X3_15 t0_ (dk okd_X3_isWhole 17 rfl) (fun a22 (t23 : tT C a22 13) => ?_)
          refine s_run X ok_X3_isWhole 31 1 (pc' := 86) (vs' := [some (.ref p0), some (.int p1), some (.int v1), some (.int x13), some (.int v21), none]) (st' := [.int x13, .ref a22]) rfl ?_
          refine s_iald X t23 (dk okd_X3_isWhole 18 rfl) (fun v24 => ?_)
          refine s_run X ok_X3_isWhole 32 1 (pc' := 89) (vs' := [some (.ref p0), some (.int p1), some (.int v1), some (.int x13), some (.int v21), none]) (st' := [.int 30, .int v24]) rfl ?_
          refine s_idiv0 X (dk okd_X3_isWhole 19 rfl) (by decide) ?_
          refine s_nmI (fun v25 => ?_)
          refine s_run X ok_X3_isWhole 33 7 (pc' := 100) (vs' := [some (.ref p0), some (.int p1), some (.int v1), some (.int x13), some (.int v21), some (.int v25)]) (st' := [.int v25, .int (v21 - 1), .int p1, .ref p0]) rfl ?_
          refine s_callV (rest := []) X E mv_X3_61 (c_X3_reach S14 p0 p1 (v21 - 1) v25) (ta1 t0_) rfl (by decide) t0_ rfl rfl (Nat.le_of_ble_eq_true rfl) (Nat.le_of_ble_eq_true rfl) (Nat.le_of_ble_eq_true rfl) (dk okd_X3_isWhole 20 rfl) (st' := fun S26 => []) (fun _ => rfl) (fun S26 => ?_)
          refine s_run X ok_X3_isWhole 40 6 (pc' := 111) (vs' := [some (.ref p0), some (.int p1), some (.int v1), some (.int x13), some (.int v21), some (.int v25)]) (st' := [.int v25, .int (v21 + 1), .int p1, .ref p0]) rfl ?_
          refine s_callV (rest := []) X E mv_X3_61 (c_X3_reach S26 p0 p1 (v21 + 1) v25) (ta1 t0_) rfl (by decide) t0_ rfl rfl (Nat.le_of_ble_eq_true rfl) (Nat.le_of_ble_eq_true rfl) (Nat.le_of_ble_eq_true rfl) (dk okd_X3_isWhole 21 rfl) (st' := fun S27 => []) (fun _ => rfl) (fun S27 => ?_)
          refine s_run X ok_X3_isWhole 46 6 (pc' := 122) (vs' := [some (.ref p0), some (.int p1), some (.int v1), some (.int x13), some (.int v21), some (.int v25)]) (st' := [.int (v25 - 1), .int v21, .int p1, .ref p0]) rfl ?_
          refine s_callV (rest := []) X E mv_X3_61 (c_X3_reach S27 p0 p1 v21 (v25 - 1)) (ta1 t0_) rfl (by decide) t0_ rfl rfl (Nat.le_of_ble_eq_true rfl) (Nat.le_of_ble_eq_true rfl) (Nat.le_of_ble_eq_true rfl) (dk okd_X3_isWhole 22 rfl) (st' := fun S28 => []) (fun _ => rfl) (fun S28 => ?_)
          refine s_run X ok_X3_isWhole 52 6 (pc' := 133) (vs' := [some (.ref p0), some (.int p1), some (.int v1), some (.int x13), some (.int v21), some (.int v25)]) (st' := [.int (v25 + 1), .int v21, .int p1, .ref p0]) rfl ?_
          refine s_callV (rest := []) X E mv_X3_61 (c_X3_reach S28 p0 p1 v21 (v25 + 1)) (ta1 t0_) rfl (by decide) t0_ rfl rfl (Nat.le_of_ble_eq_true rfl) (Nat.le_of_ble_eq_true rfl) (Nat.le_of_ble_eq_true rfl) (dk okd_X3_isWhole 23 rfl) (st' := fun S29 => []) (fun _ => rfl) (fun S29 => ?_)
          refine s_run X ok_X3_isWhole 58 2 (pc' := 62) (vs' := [some (.ref p0), some (.int p1), some (.int v1), some (.int (x13 + 1)), some (.int v21), some (.int v25)]) (st' := []) rfl ?_
          exact s_less [true, true, true, true, false, false] rfl (h16 (x13 + 1) S29)
    · refine s_lp (κ := Int32 → St → Option (Int32 × St)) (fun k32 => ∀ (x30 : Int32) (S31 : St), Jd C 6 (QJ C oIS sS) S31 27 [some (.ref p0), some (.int p1), some (.int v1), some (.int x30), none, none] [] (k32 x30 S31)) (fun _ _ => s_none) (fun k32 h33 x30 S31 => ?_) FU 0 S5
      refine s_run X ok_X3_isWhole 11 2 (pc' := 31) (vs' := [some (.ref p0), some (.int p1), some (.int v1), some (.int x30), none, none]) (st' := [.int 900, .int x30]) rfl ?_
      refine s_icmp_ge (tgt := 60) X (dk okd_X3_isWhole 6 rfl) (by decide) ?_ ?_
      · exact s_less [true, true, true, false, false, false] rfl (h8 S31)
      · refine s_run X ok_X3_isWhole 13 1 (pc' := 35) (vs' := [some (.ref p0), some (.int p1), some (.int v1), some (.int x30), none, none]) (st' := [.ref p0]) rfl ?_
        refine s_getI X fl_X3_57 t0_ (dk okd_X3_isWhole 7 rfl) (fun v34 => ?_)
        refine s_if_ne (tgt := 60) X (dk okd_X3_isWhole 8 rfl) (by decide) ?_ ?_
        · exact s_less [true, true, true, false, false, false] rfl (h8 S31)
        · refine s_run X ok_X3_isWhole 14 4 (pc' := 46) (vs' := [some (.ref p0), some (.int p1), some (.int v1), some (.int x30), none, none]) (st' := [.int 30, .int x30, .int p1, .ref p0]) rfl ?_
          refine s_irem0 X (dk okd_X3_isWhole 9 rfl) (by decide) ?_
          refine s_run X ok_X3_isWhole 18 2 (pc' := 50) (vs' := [some (.ref p0), some (.int p1), some (.int v1), some (.int x30), none, none]) (st' := [.int 30, .int x30, .int (x30 - x30 / 30 * 30), .int p1, .ref p0]) rfl ?_
          refine s_idiv0 X (dk okd_X3_isWhole 10 rfl) (by decide) ?_
          refine s_callV (rest := []) X E mv_X3_61 (c_X3_reach S31 p0 p1 (x30 - x30 / 30 * 30) (x30 / 30)) (ta1 t0_) rfl (by decide) t0_ rfl rfl (Nat.le_of_ble_eq_true rfl) (Nat.le_of_ble_eq_true rfl) (Nat.le_of_ble_eq_true rfl) (dk okd_X3_isWhole 11 rfl) (st' := fun S35 => []) (fun _ => rfl) (fun S35 => ?_)
          refine s_run X ok_X3_isWhole 20 2 (pc' := 27) (vs' := [some (.ref p0), some (.int p1), some (.int v1), some (.int (x30 + 1)), none, none]) (st' := []) rfl ?_
          exact h33 (x30 + 1) S35
  · refine s_run X ok_X3_isWhole 4 1 (pc' := 11) (vs' := [some (.ref p0), some (.int p1), some (.int v1), none, none, none]) (st' := [.int 0]) rfl ?_
    exact s_zret0 X hr (dk okd_X3_isWhole 2 rfl) (by decide) rfl rfl
def tab_X3_leastDistance : List En := [(0, 2, 0, 1000), (3, 11, 4, 0), (5, 0, 0, 0), (6, 11, 5, 0), (8, 5, 5, 0), (10, 2, 0, 900), (16, 8, 0, 0), (20, 5, 5, 0), (23, 4, 1, 0), (27, 5, 4, 0), (29, 4, 2, 0), (30, 4, 3, 0), (31, 5, 5, 0), (33, 1, 0, 30), (36, 5, 5, 0), (38, 1, 0, 30), (47, 11, 4, 0), (49, 16, 5, 1), (52, 41, 8, 0), (55, 5, 4, 0), (57, 2, 0, 1000), (63, 0, 0, (-1)), (64, 41, 69, 0), (67, 5, 4, 0)]
theorem ok_X3_leastDistance : tab_X3_leastDistance.all (okE cX3_leastDistance) = true := by decide +kernel
def ed_X3_leastDistance : List (Nat × Instr × Nat) := [(13, .if_icmp .ge 42, 3), (17, .getfield 9, 3), (22, .iaload, 1), (24, .if_icmp .ne 25, 3), (35, .irem, 1), (40, .idiv, 1), (41, .invokestatic 65, 3), (44, .invokestatic 69, 3), (60, .if_icmp .ne 7, 3), (69, .ireturn, 1)]
theorem okd_X3_leastDistance : ed_X3_leastDistance.all (okD cX3_leastDistance) = true := by decide +kernel
def f_X3_leastDistance (S : St) (p0 : Nat) (p1 : Int32) (p2 : Int32) (p3 : Int32) : Option (Int32) := jn (κ := Int32 → Option (Int32)) (fun x1 => if x1 = 1000 then (some (-1)) else (some x1)) fun k2 => lp (κ := Int32 → Int32 → Option (Int32)) (fun _ _ => none) (fun k6 x4 x5 => if 900 ≤ x5 then (k2 x4) else (lt (gR S p0 0) fun (a8 : Nat) => ldI S a8 x5 fun (v10 : Int32) => jn (κ := Int32 → Option (Int32)) (fun x11 => k6 x11 (x5 + 1)) fun k12 => if v10 = p1 then (cl (f_X3_steps S p2 p3 (x5 - x5 / 30 * 30) (x5 / 30)) fun (v14 : Int32) => cl (f_J9_min_7cf53 S x4 v14) fun (v15 : Int32) => k12 v15) else (k12 x4))) FU 1000 0
set_option maxHeartbeats 4000000 in
set_option maxRecDepth 100000 in
theorem c_X3_leastDistance (S : St) (p0 : Nat) (p1 : Int32) (p2 : Int32) (p3 : Int32) : Ct yX3_leastDistance cX3_leastDistance 6 (some .int) 2 43 [.ref p0, .int p1, .int p2, .int p3] [(p0, 3)] S (f_X3_leastDistance S p0 p1 p2 p3) oI (fun _ => S) := by
  refine Ct_of RX3 rfl (by decide) (Nat.le_of_ble_eq_true rfl) 2 (vs := [some (.ref p0), some (.int p1), some (.int p2), some (.int p3), none, none]) rfl (fun C X E hr ht => ?_)
  have t0_ : tT C p0 3 := ht (p0, 3) (by simp)
  unfold f_X3_leastDistance
  refine s_run X ok_X3_leastDistance 0 4 (pc' := 8) (vs' := [some (.ref p0), some (.int p1), some (.int p2), some (.int p3), some (.int 1000), some (.int 0)]) (st' := []) rfl ?_
  refine s_jn (κ := Int32 → Option (Int32)) (fun k2 => ∀ (x1 : Int32), Jd C 6 (QJ C oI (fun _ => S)) S 55 [none, none, none, none, some (.int x1), none] [] (k2 x1)) (fun x1 => ?_) (fun k2 h3 => ?_)
  · refine s_run X ok_X3_leastDistance 19 2 (pc' := 60) (vs' := [none, none, none, none, some (.int x1), none]) (st' := [.int 1000, .int x1]) rfl ?_
    refine s_icmp_ne (tgt := 67) X (dk okd_X3_leastDistance 8 rfl) (by decide) ?_ ?_
    · refine s_run X ok_X3_leastDistance 23 1 (pc' := 69) (vs' := [none, none, none, none, some (.int x1), none]) (st' := [.int x1]) rfl ?_
      exact s_iret X hr (dk okd_X3_leastDistance 9 rfl) rfl rfl
    · refine s_run X ok_X3_leastDistance 21 2 (pc' := 69) (vs' := [none, none, none, none, some (.int x1), none]) (st' := [.int (-1)]) rfl ?_
      exact s_iret X hr (dk okd_X3_leastDistance 9 rfl) rfl rfl
  · refine s_lp (κ := Int32 → Int32 → Option (Int32)) (fun k6 => ∀ (x4 : Int32) (x5 : Int32), Jd C 6 (QJ C oI (fun _ => S)) S 8 [some (.ref p0), some (.int p1), some (.int p2), some (.int p3), some (.int x4), some (.int x5)] [] (k6 x4 x5)) (fun _ _ => s_none) (fun k6 h7 x4 x5 => ?_) FU 1000 0
    refine s_run X ok_X3_leastDistance 4 2 (pc' := 13) (vs' := [some (.ref p0), some (.int p1), some (.int p2), some (.int p3), some (.int x4), some (.int x5)]) (st' := [.int 900, .int x5]) rfl ?_
    refine s_icmp_ge (tgt := 55) X (dk okd_X3_leastDistance 0 rfl) (by decide) ?_ ?_
    · exact s_less [false, false, false, false, true, false] rfl (h3 x4)
    · refine s_run X ok_X3_leastDistance 6 1 (pc' := 17) (vs' := [some (.ref p0), some (.int p1), some (.int p2), some (.int p3), some (.int x4), some (.int x5)]) (st' := [.ref p0]) rfl ?_
      refine s_getR X fl_X3_9 t0_ (dk okd_X3_leastDistance 1 rfl) (fun a8 (t9 : tT C a8 13) => ?_)
      refine s_run X ok_X3_leastDistance 7 1 (pc' := 22) (vs' := [some (.ref p0), some (.int p1), some (.int p2), some (.int p3), some (.int x4), some (.int x5)]) (st' := [.int x5, .ref a8]) rfl ?_
      refine s_iald X t9 (dk okd_X3_leastDistance 2 rfl) (fun v10 => ?_)
      refine s_run X ok_X3_leastDistance 8 1 (pc' := 24) (vs' := [some (.ref p0), some (.int p1), some (.int p2), some (.int p3), some (.int x4), some (.int x5)]) (st' := [.int p1, .int v10]) rfl ?_
      refine s_jn (κ := Int32 → Option (Int32)) (fun k12 => ∀ (x11 : Int32), Jd C 6 (QJ C oI (fun _ => S)) S 49 [some (.ref p0), some (.int p1), some (.int p2), some (.int p3), some (.int x11), some (.int x5)] [] (k12 x11)) (fun x11 => ?_) (fun k12 h13 => ?_)
      · refine s_run X ok_X3_leastDistance 17 2 (pc' := 8) (vs' := [some (.ref p0), some (.int p1), some (.int p2), some (.int p3), some (.int x11), some (.int (x5 + 1))]) (st' := []) rfl ?_
        exact h7 x11 (x5 + 1)
      · refine s_icmp_ne (tgt := 49) X (dk okd_X3_leastDistance 3 rfl) (by decide) ?_ ?_
        · exact h13 x4
        · refine s_run X ok_X3_leastDistance 9 5 (pc' := 35) (vs' := [some (.ref p0), some (.int p1), some (.int p2), some (.int p3), some (.int x4), some (.int x5)]) (st' := [.int 30, .int x5, .int p3, .int p2, .int x4]) rfl ?_
          refine s_irem0 X (dk okd_X3_leastDistance 4 rfl) (by decide) ?_
          refine s_run X ok_X3_leastDistance 14 2 (pc' := 40) (vs' := [some (.ref p0), some (.int p1), some (.int p2), some (.int p3), some (.int x4), some (.int x5)]) (st' := [.int 30, .int x5, .int (x5 - x5 / 30 * 30), .int p3, .int p2, .int x4]) rfl ?_
          refine s_idiv0 X (dk okd_X3_leastDistance 5 rfl) (by decide) ?_
          refine s_callS (rest := [.int x4]) X E ms_X3_65 (c_X3_steps S p2 p3 (x5 - x5 / 30 * 30) (x5 / 30)) (ta0) rfl rfl (Nat.le_of_ble_eq_true rfl) (Nat.le_of_ble_eq_true rfl) (Nat.le_of_ble_eq_true rfl) (dk okd_X3_leastDistance 6 rfl) (st' := fun v14 => [.int v14, .int x4]) (fun _ => rfl) (fun v14 => ?_)
          refine s_callS (rest := []) X E ms_X3_69 (c_J9_min_7cf53 S x4 v14) (ta0) rfl rfl (Nat.le_of_ble_eq_true rfl) (Nat.le_of_ble_eq_true rfl) (Nat.le_of_ble_eq_true rfl) (dk okd_X3_leastDistance 7 rfl) (st' := fun v15 => [.int v15]) (fun _ => rfl) (fun v15 => ?_)
          refine s_run X ok_X3_leastDistance 16 1 (pc' := 49) (vs' := [some (.ref p0), some (.int p1), some (.int p2), some (.int p3), some (.int v15), some (.int x5)]) (st' := []) rfl ?_
          exact h13 v15
def tab_X3_bestHalving : List En := [(0, 8, 0, 0), (1, 4, 1, 0), (5, 10, 2, 0), (6, 4, 2, 0), (10, 0, 0, (-1)), (12, 0, 0, (-1)), (13, 10, 3, 0), (14, 4, 2, 0), (15, 0, 0, 1), (16, 17, 0, 0), (17, 11, 4, 0), (19, 0, 0, 0), (20, 11, 5, 0), (22, 0, 0, 1), (23, 11, 6, 0), (25, 5, 6, 0), (27, 1, 0, 30), (32, 5, 5, 0), (34, 8, 0, 0), (35, 4, 1, 0), (36, 5, 6, 0), (38, 0, 0, 1), (39, 18, 0, 0), (40, 0, 0, 0), (41, 5, 6, 0), (43, 1, 0, 30), (48, 17, 0, 0), (49, 11, 5, 0), (51, 4, 2, 0), (52, 0, 0, 2), (53, 5, 5, 0), (55, 19, 0, 0), (56, 18, 0, 0), (60, 5, 4, 0), (65, 4, 2, 0), (66, 0, 0, 2), (67, 5, 5, 0), (69, 19, 0, 0), (70, 18, 0, 0), (74, 11, 4, 0), (76, 5, 6, 0), (78, 10, 3, 0), (79, 16, 6, 1), (82, 41, 25, 0), (85, 0, 0, 0), (86, 11, 5, 0), (88, 0, 0, 1), (89, 11, 6, 0), (91, 5, 6, 0), (93, 1, 0, 30), (98, 5, 5, 0), (100, 8, 0, 0), (101, 4, 1, 0), (102, 0, 0, 0), (103, 5, 6, 0), (105, 0, 0, 1), (106, 18, 0, 0), (107, 1, 0, 30), (109, 5, 6, 0), (114, 17, 0, 0), (115, 11, 5, 0), (117, 4, 2, 0), (118, 0, 0, 2), (119, 5, 5, 0), (121, 19, 0, 0), (122, 18, 0, 0), (126, 5, 4, 0), (131, 4, 2, 0), (132, 0, 0, 2), (133, 5, 5, 0), (135, 19, 0, 0), (136, 18, 0, 0), (140, 11, 4, 0), (142, 1, 0, 100), (144, 5, 6, 0), (146, 17, 0, 0), (147, 10, 3, 0), (148, 16, 6, 1), (151, 41, 91, 0), (154, 4, 3, 0)]
theorem ok_X3_bestHalving : tab_X3_bestHalving.all (okE cX3_bestHalving) = true := by decide +kernel
def ed_X3_bestHalving : List (Nat × Instr × Nat) := [(2, .invokevirtual 54, 3), (7, .ifCond .ne 5, 3), (11, .ireturn, 1), (29, .if_icmp .ge 56, 3), (45, .invokevirtual 72, 3), (57, .invokestatic 21, 3), (62, .if_icmp .ge 17, 3), (71, .invokestatic 21, 3), (95, .if_icmp .ge 59, 3), (111, .invokevirtual 72, 3), (123, .invokestatic 21, 3), (128, .if_icmp .ge 20, 3), (137, .invokestatic 21, 3), (155, .ireturn, 1)]
theorem okd_X3_bestHalving : ed_X3_bestHalving.all (okD cX3_bestHalving) = true := by decide +kernel
def f_X3_bestHalving (S : St) (p0 : Nat) (p1 : Int32) : Option (Int32) := cl (f_X3_sizeOf S p0 p1) fun (v1 : Int32) => if v1 = 0 then (some (-1)) else (lt (v1 + 1) fun (v2 : Int32) => jn (κ := Int32 → Int32 → Option (Int32)) (fun x3 x4 => jn (κ := Int32 → Option (Int32)) (fun x7 => some x7) fun k8 => lp (κ := Int32 → Int32 → Int32 → Int32 → Option (Int32)) (fun _ _ _ _ => none) (fun k14 x10 x11 x12 x13 => if 30 ≤ x13 then (k8 x10) else (cl (f_X3_sizeWithin S p0 p1 0 (x13 - 1) 30 x13) fun (v16 : Int32) => lt (x12 + v16) fun (v17 : Int32) => cl (f_J9_abs_0f7a4 S (v1 - (2 * v17))) fun (v18 : Int32) => jn (κ := Int32 → Int32 → Option (Int32)) (fun x19 x20 => k14 x19 x20 v17 (x13 + 1)) fun k21 => if x11 ≤ v18 then (k21 x10 x11) else (cl (f_J9_abs_0f7a4 S (v1 - (2 * v17))) fun (v23 : Int32) => lt (100 + x13) fun (v24 : Int32) => k21 v24 v23))) FU x3 x4 0 1) fun k5 => lp (κ := Int32 → Int32 → Int32 → Int32 → Option (Int32)) (fun _ _ _ _ => none) (fun k29 x25 x26 x27 x28 => if 30 ≤ x28 then (k5 x25 x26) else (cl (f_X3_sizeWithin S p0 p1 (x28 - 1) 0 x28 30) fun (v31 : Int32) => lt (x27 + v31) fun (v32 : Int32) => cl (f_J9_abs_0f7a4 S (v1 - (2 * v32))) fun (v33 : Int32) => jn (κ := Int32 → Int32 → Option (Int32)) (fun x34 x35 => k29 x34 x35 v32 (x28 + 1)) fun k36 => if x26 ≤ v33 then (k36 x25 x26) else (cl (f_J9_abs_0f7a4 S (v1 - (2 * v32))) fun (v38 : Int32) => k36 x28 v38))) FU (-1) v2 0 1)
set_option maxHeartbeats 4000000 in
set_option maxRecDepth 100000 in
theorem c_X3_bestHalving (S : St) (p0 : Nat) (p1 : Int32) : Ct yX3_bestHalving cX3_bestHalving 7 (some .int) 3 72 [.ref p0, .int p1] [(p0, 3)] S (f_X3_bestHalving S p0 p1) oI (fun _ => S) := by
  refine Ct_of RX3 rfl (by decide) (Nat.le_of_ble_eq_true rfl) 5 (vs := [some (.ref p0), some (.int p1), none, none, none, none, none]) rfl (fun C X E hr ht => ?_)
  have t0_ : tT C p0 3 := ht (p0, 3) (by simp)
  unfold f_X3_bestHalving
  refine s_run X ok_X3_bestHalving 0 2 (pc' := 2) (vs' := [some (.ref p0), some (.int p1), none, none, none, none, none]) (st' := [.int p1, .ref p0]) rfl ?_
  refine s_callV (rest := []) X E mv_X3_54 (c_X3_sizeOf S p0 p1) (ta1 t0_) rfl (by decide) t0_ rfl rfl (Nat.le_of_ble_eq_true rfl) (Nat.le_of_ble_eq_true rfl) (Nat.le_of_ble_eq_true rfl) (dk okd_X3_bestHalving 0 rfl) (st' := fun v1 => [.int v1]) (fun _ => rfl) (fun v1 => ?_)
  refine s_run X ok_X3_bestHalving 2 2 (pc' := 7) (vs' := [some (.ref p0), some (.int p1), some (.int v1), none, none, none, none]) (st' := [.int v1]) rfl ?_
  refine s_if_ne (tgt := 12) X (dk okd_X3_bestHalving 1 rfl) (by decide) ?_ ?_
  · refine s_run X ok_X3_bestHalving 5 5 (pc' := 17) (vs' := [some (.ref p0), some (.int p1), some (.int v1), some (.int (-1)), none, none, none]) (st' := [.int (v1 + 1)]) rfl ?_
    refine s_nmI (fun v2 => ?_)
    refine s_run X ok_X3_bestHalving 10 5 (pc' := 25) (vs' := [some (.ref p0), some (.int p1), some (.int v1), some (.int (-1)), some (.int v2), some (.int 0), some (.int 1)]) (st' := []) rfl ?_
    refine s_jn (κ := Int32 → Int32 → Option (Int32)) (fun k5 => ∀ (x3 : Int32) (x4 : Int32), Jd C 7 (QJ C oI (fun _ => S)) S 85 [some (.ref p0), some (.int p1), some (.int v1), some (.int x3), some (.int x4), none, none] [] (k5 x3 x4)) (fun x3 x4 => ?_) (fun k5 h6 => ?_)
    · refine s_run X ok_X3_bestHalving 44 4 (pc' := 91) (vs' := [some (.ref p0), some (.int p1), some (.int v1), some (.int x3), some (.int x4), some (.int 0), some (.int 1)]) (st' := []) rfl ?_
      refine s_jn (κ := Int32 → Option (Int32)) (fun k8 => ∀ (x7 : Int32), Jd C 7 (QJ C oI (fun _ => S)) S 154 [none, none, none, some (.int x7), none, none, none] [] (k8 x7)) (fun x7 => ?_) (fun k8 h9 => ?_)
      · refine s_run X ok_X3_bestHalving 79 1 (pc' := 155) (vs' := [none, none, none, some (.int x7), none, none, none]) (st' := [.int x7]) rfl ?_
        exact s_iret X hr (dk okd_X3_bestHalving 13 rfl) rfl rfl
      · refine s_lp (κ := Int32 → Int32 → Int32 → Int32 → Option (Int32)) (fun k14 => ∀ (x10 : Int32) (x11 : Int32) (x12 : Int32) (x13 : Int32), Jd C 7 (QJ C oI (fun _ => S)) S 91 [some (.ref p0), some (.int p1), some (.int v1), some (.int x10), some (.int x11), some (.int x12), some (.int x13)] [] (k14 x10 x11 x12 x13)) (fun _ _ _ _ => s_none) (fun k14 h15 x10 x11 x12 x13 => ?_) FU x3 x4 0 1
        refine s_run X ok_X3_bestHalving 48 2 (pc' := 95) (vs' := [some (.ref p0), some (.int p1), some (.int v1), some (.int x10), some (.int x11), some (.int x12), some (.int x13)]) (st' := [.int 30, .int x13]) rfl ?_
        refine s_icmp_ge (tgt := 154) X (dk okd_X3_bestHalving 8 rfl) (by decide) ?_ ?_
        · exact s_less [false, false, false, true, false, false, false] rfl (h9 x10)
        · refine s_run X ok_X3_bestHalving 50 9 (pc' := 111) (vs' := [some (.ref p0), some (.int p1), some (.int v1), some (.int x10), some (.int x11), some (.int x12), some (.int x13)]) (st' := [.int x13, .int 30, .int (x13 - 1), .int 0, .int p1, .ref p0, .int x12]) rfl ?_
          refine s_callV (rest := [.int x12]) X E mv_X3_72 (c_X3_sizeWithin S p0 p1 0 (x13 - 1) 30 x13) (ta1 t0_) rfl (by decide) t0_ rfl rfl (Nat.le_of_ble_eq_true rfl) (Nat.le_of_ble_eq_true rfl) (Nat.le_of_ble_eq_true rfl) (dk okd_X3_bestHalving 9 rfl) (st' := fun v16 => [.int v16, .int x12]) (fun _ => rfl) (fun v16 => ?_)
          refine s_run X ok_X3_bestHalving 59 1 (pc' := 115) (vs' := [some (.ref p0), some (.int p1), some (.int v1), some (.int x10), some (.int x11), some (.int x12), some (.int x13)]) (st' := [.int (x12 + v16)]) rfl ?_
          refine s_nmI (fun v17 => ?_)
          refine s_run X ok_X3_bestHalving 60 6 (pc' := 123) (vs' := [some (.ref p0), some (.int p1), some (.int v1), some (.int x10), some (.int x11), some (.int v17), some (.int x13)]) (st' := [.int (v1 - (2 * v17))]) rfl ?_
          refine s_callS (rest := []) X E ms_X3_21 (c_J9_abs_0f7a4 S (v1 - (2 * v17))) (ta0) rfl rfl (Nat.le_of_ble_eq_true rfl) (Nat.le_of_ble_eq_true rfl) (Nat.le_of_ble_eq_true rfl) (dk okd_X3_bestHalving 10 rfl) (st' := fun v18 => [.int v18]) (fun _ => rfl) (fun v18 => ?_)
          refine s_run X ok_X3_bestHalving 66 1 (pc' := 128) (vs' := [some (.ref p0), some (.int p1), some (.int v1), some (.int x10), some (.int x11), some (.int v17), some (.int x13)]) (st' := [.int x11, .int v18]) rfl ?_
          refine s_jn (κ := Int32 → Int32 → Option (Int32)) (fun k21 => ∀ (x19 : Int32) (x20 : Int32), Jd C 7 (QJ C oI (fun _ => S)) S 148 [some (.ref p0), some (.int p1), some (.int v1), some (.int x19), some (.int x20), some (.int v17), some (.int x13)] [] (k21 x19 x20)) (fun x19 x20 => ?_) (fun k21 h22 => ?_)
          · refine s_run X ok_X3_bestHalving 77 2 (pc' := 91) (vs' := [some (.ref p0), some (.int p1), some (.int v1), some (.int x19), some (.int x20), some (.int v17), some (.int (x13 + 1))]) (st' := []) rfl ?_
            exact h15 x19 x20 v17 (x13 + 1)
          · refine s_icmp_ge (tgt := 148) X (dk okd_X3_bestHalving 11 rfl) (by decide) ?_ ?_
            · exact h22 x10 x11
            · refine s_run X ok_X3_bestHalving 67 5 (pc' := 137) (vs' := [some (.ref p0), some (.int p1), some (.int v1), some (.int x10), some (.int x11), some (.int v17), some (.int x13)]) (st' := [.int (v1 - (2 * v17))]) rfl ?_
              refine s_callS (rest := []) X E ms_X3_21 (c_J9_abs_0f7a4 S (v1 - (2 * v17))) (ta0) rfl rfl (Nat.le_of_ble_eq_true rfl) (Nat.le_of_ble_eq_true rfl) (Nat.le_of_ble_eq_true rfl) (dk okd_X3_bestHalving 12 rfl) (st' := fun v23 => [.int v23]) (fun _ => rfl) (fun v23 => ?_)
              refine s_run X ok_X3_bestHalving 72 4 (pc' := 147) (vs' := [some (.ref p0), some (.int p1), some (.int v1), some (.int x10), some (.int v23), some (.int v17), some (.int x13)]) (st' := [.int (100 + x13)]) rfl ?_
              refine s_nmI (fun v24 => ?_)
              refine s_run X ok_X3_bestHalving 76 1 (pc' := 148) (vs' := [some (.ref p0), some (.int p1), some (.int v1), some (.int v24), some (.int v23), some (.int v17), some (.int x13)]) (st' := []) rfl ?_
              exact h22 v24 v23
    · refine s_lp (κ := Int32 → Int32 → Int32 → Int32 → Option (Int32)) (fun k29 => ∀ (x25 : Int32) (x26 : Int32) (x27 : Int32) (x28 : Int32), Jd C 7 (QJ C oI (fun _ => S)) S 25 [some (.ref p0), some (.int p1), some (.int v1), some (.int x25), some (.int x26), some (.int x27), some (.int x28)] [] (k29 x25 x26 x27 x28)) (fun _ _ _ _ => s_none) (fun k29 h30 x25 x26 x27 x28 => ?_) FU (-1) v2 0 1
      refine s_run X ok_X3_bestHalving 15 2 (pc' := 29) (vs' := [some (.ref p0), some (.int p1), some (.int v1), some (.int x25), some (.int x26), some (.int x27), some (.int x28)]) (st' := [.int 30, .int x28]) rfl ?_
      refine s_icmp_ge (tgt := 85) X (dk okd_X3_bestHalving 3 rfl) (by decide) ?_ ?_
      · exact s_less [true, true, true, true, true, false, false] rfl (h6 x25 x26)
      · refine s_run X ok_X3_bestHalving 17 9 (pc' := 45) (vs' := [some (.ref p0), some (.int p1), some (.int v1), some (.int x25), some (.int x26), some (.int x27), some (.int x28)]) (st' := [.int 30, .int x28, .int 0, .int (x28 - 1), .int p1, .ref p0, .int x27]) rfl ?_
        refine s_callV (rest := [.int x27]) X E mv_X3_72 (c_X3_sizeWithin S p0 p1 (x28 - 1) 0 x28 30) (ta1 t0_) rfl (by decide) t0_ rfl rfl (Nat.le_of_ble_eq_true rfl) (Nat.le_of_ble_eq_true rfl) (Nat.le_of_ble_eq_true rfl) (dk okd_X3_bestHalving 4 rfl) (st' := fun v31 => [.int v31, .int x27]) (fun _ => rfl) (fun v31 => ?_)
        refine s_run X ok_X3_bestHalving 26 1 (pc' := 49) (vs' := [some (.ref p0), some (.int p1), some (.int v1), some (.int x25), some (.int x26), some (.int x27), some (.int x28)]) (st' := [.int (x27 + v31)]) rfl ?_
        refine s_nmI (fun v32 => ?_)
        refine s_run X ok_X3_bestHalving 27 6 (pc' := 57) (vs' := [some (.ref p0), some (.int p1), some (.int v1), some (.int x25), some (.int x26), some (.int v32), some (.int x28)]) (st' := [.int (v1 - (2 * v32))]) rfl ?_
        refine s_callS (rest := []) X E ms_X3_21 (c_J9_abs_0f7a4 S (v1 - (2 * v32))) (ta0) rfl rfl (Nat.le_of_ble_eq_true rfl) (Nat.le_of_ble_eq_true rfl) (Nat.le_of_ble_eq_true rfl) (dk okd_X3_bestHalving 5 rfl) (st' := fun v33 => [.int v33]) (fun _ => rfl) (fun v33 => ?_)
        refine s_run X ok_X3_bestHalving 33 1 (pc' := 62) (vs' := [some (.ref p0), some (.int p1), some (.int v1), some (.int x25), some (.int x26), some (.int v32), some (.int x28)]) (st' := [.int x26, .int v33]) rfl ?_
        refine s_jn (κ := Int32 → Int32 → Option (Int32)) (fun k36 => ∀ (x34 : Int32) (x35 : Int32), Jd C 7 (QJ C oI (fun _ => S)) S 79 [some (.ref p0), some (.int p1), some (.int v1), some (.int x34), some (.int x35), some (.int v32), some (.int x28)] [] (k36 x34 x35)) (fun x34 x35 => ?_) (fun k36 h37 => ?_)
        · refine s_run X ok_X3_bestHalving 42 2 (pc' := 25) (vs' := [some (.ref p0), some (.int p1), some (.int v1), some (.int x34), some (.int x35), some (.int v32), some (.int (x28 + 1))]) (st' := []) rfl ?_
          exact h30 x34 x35 v32 (x28 + 1)
        · refine s_icmp_ge (tgt := 79) X (dk okd_X3_bestHalving 6 rfl) (by decide) ?_ ?_
          · exact h37 x25 x26
          · refine s_run X ok_X3_bestHalving 34 5 (pc' := 71) (vs' := [some (.ref p0), some (.int p1), some (.int v1), some (.int x25), some (.int x26), some (.int v32), some (.int x28)]) (st' := [.int (v1 - (2 * v32))]) rfl ?_
            refine s_callS (rest := []) X E ms_X3_21 (c_J9_abs_0f7a4 S (v1 - (2 * v32))) (ta0) rfl rfl (Nat.le_of_ble_eq_true rfl) (Nat.le_of_ble_eq_true rfl) (Nat.le_of_ble_eq_true rfl) (dk okd_X3_bestHalving 7 rfl) (st' := fun v38 => [.int v38]) (fun _ => rfl) (fun v38 => ?_)
            refine s_run X ok_X3_bestHalving 39 3 (pc' := 79) (vs' := [some (.ref p0), some (.int p1), some (.int v1), some (.int x28), some (.int v38), some (.int v32), some (.int x28)]) (st' := []) rfl ?_
            exact h37 x28 v38
  · refine s_run X ok_X3_bestHalving 4 1 (pc' := 11) (vs' := [some (.ref p0), some (.int p1), some (.int v1), none, none, none, none]) (st' := [.int (-1)]) rfl ?_
    exact s_iret X hr (dk okd_X3_bestHalving 2 rfl) rfl rfl
