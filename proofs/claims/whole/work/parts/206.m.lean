theorem ci_X7_122 : Cond.constant RX7 122 99999 ∈ TT := TT_3 (i := 95) rfl rfl
theorem cl_X4_68 : Cond.constantLong RX4 68 10 ∈ TT := TT_7 (i := 203) rfl rfl
theorem cl_X7_79 : Cond.constantLong RX7 79 100 ∈ TT := TT_3 (i := 96) rfl rfl
theorem cl_X8_66 : Cond.constantLong RX8 66 9223372036854775807 ∈ TT := TT_6 (i := 125) rfl rfl
theorem fl_X1_53 : FL RX1 53 1 6 2 := ⟨RX1, TX1, 7, rfl, by decide, uw_X1, TT_2 (i := 105) rfl rfl, rfl, rfl, by decide⟩
theorem fl_X1_148 : FL RX1 148 2 2 2 := ⟨RX2, TX2, 9, rfl, by decide, uw_X2, TT_1 (i := 221) rfl rfl, rfl, rfl, by decide⟩
theorem fl_X1_221 : FL RX1 221 9 0 2 := ⟨RX10, TX10, 6, rfl, by decide, uw_X10, TT_2 (i := 28) rfl rfl, rfl, rfl, by decide⟩
theorem fl_X1_228 : FL RX1 228 2 3 2 := ⟨RX2, TX2, 9, rfl, by decide, uw_X2, TT_1 (i := 224) rfl rfl, rfl, rfl, by decide⟩
theorem fl_X1_231 : FL RX1 231 9 2 2 := ⟨RX10, TX10, 6, rfl, by decide, uw_X10, TT_2 (i := 33) rfl rfl, rfl, rfl, by decide⟩
theorem fl_X1_234 : FL RX1 234 2 5 2 := ⟨RX2, TX2, 9, rfl, by decide, uw_X2, TT_1 (i := 230) rfl rfl, rfl, rfl, by decide⟩
theorem fl_X1_237 : FL RX1 237 7 9 1 := ⟨RX8, TX8, 12, rfl, by decide, uw_X8, TT_1 (i := 146) rfl rfl, rfl, rfl, by decide⟩
theorem fl_X11_89 : FL RX11 89 8 0 2 := ⟨RX9, TX9, 8, rfl, by decide, uw_X9, TT_1 (i := 44) rfl rfl, rfl, rfl, by decide⟩
theorem fl_X5_9 : FL RX5 9 5 0 2 := ⟨RX5, TX5, 9, rfl, by decide, uw_X5, TT_2 (i := 155) rfl rfl, rfl, rfl, by decide⟩
theorem fl_X5_15 : FL RX5 15 5 1 2 := ⟨RX5, TX5, 9, rfl, by decide, uw_X5, TT_2 (i := 156) rfl rfl, rfl, rfl, by decide⟩
theorem fl_X5_18 : FL RX5 18 5 2 2 := ⟨RX5, TX5, 9, rfl, by decide, uw_X5, TT_2 (i := 157) rfl rfl, rfl, rfl, by decide⟩
theorem fl_X5_21 : FL RX5 21 5 3 2 := ⟨RX5, TX5, 9, rfl, by decide, uw_X5, TT_2 (i := 158) rfl rfl, rfl, rfl, by decide⟩
theorem fl_X5_31 : FL RX5 31 5 6 2 := ⟨RX5, TX5, 9, rfl, by decide, uw_X5, TT_2 (i := 161) rfl rfl, rfl, rfl, by decide⟩
theorem fl_X5_115 : FL RX5 115 1 5 2 := ⟨RX1, TX1, 7, rfl, by decide, uw_X1, TT_2 (i := 103) rfl rfl, rfl, rfl, by decide⟩
theorem fl_X5_132 : FL RX5 132 1 2 2 := ⟨RX1, TX1, 7, rfl, by decide, uw_X1, TT_2 (i := 93) rfl rfl, rfl, rfl, by decide⟩
theorem fl_X7_112 : FL RX7 112 7 4 0 := ⟨RX8, TX8, 12, rfl, by decide, uw_X8, TT_1 (i := 130) rfl rfl, rfl, rfl, by decide⟩
theorem fl_X8_9 : FL RX8 9 7 0 2 := ⟨RX8, TX8, 12, rfl, by decide, uw_X8, TT_1 (i := 125) rfl rfl, rfl, rfl, by decide⟩
theorem fp_X1_61 : FP RX1 61 6 4 0 := ⟨RX6, TX6, 5, tyX6, tyX6 4, rfl, by decide, uw_X6, TT_1 (i := 197) rfl rfl, rfl, rfl, by decide, tyX6_ok, nmX6, rfl, tyX6_ok 4 (by decide), fun h => rfl, fun h => absurd h (by decide), fun h => absurd h (by decide)⟩
theorem fp_X1_65 : FP RX1 65 2 8 0 := ⟨RX2, TX2, 9, tyX2, tyX2 8, rfl, by decide, uw_X2, TT_1 (i := 238) rfl rfl, rfl, rfl, by decide, tyX2_ok, nmX2, rfl, tyX2_ok 8 (by decide), fun h => rfl, fun h => absurd h (by decide), fun h => absurd h (by decide)⟩
theorem mn_X1_92 : MN RX1 92 yX11_cellCode cX11_cellCode 2 (some .int) 2 := ⟨⟨"FranchiseLedger", List.mem_filter.mpr ⟨lw_6 (List.mem_of_getElem? (i := 47) rfl), rfl⟩⟩, TT_6 (i := 25) rfl rfl, TT_1 (i := 1) rfl rfl, TT_6 (i := 26) rfl rfl, ⟨by decide, by decide, by decide +kernel⟩⟩
theorem mn_X8_61 : MN RX8 61 yX11_rateOf cX11_rateOf 4 (some .long) 2 := ⟨⟨"FranchiseLedger", List.mem_filter.mpr ⟨lw_5 (List.mem_of_getElem? (i := 39) rfl), rfl⟩⟩, TT_5 (i := 40) rfl rfl, TT_1 (i := 1) rfl rfl, TT_5 (i := 41) rfl rfl, ⟨by decide, by decide, by decide +kernel⟩⟩
theorem ms_X1_142 : MS RX1 142 yJ7_fill_d0a16 cJ7_fill_d0a16 5 none 2 := ⟨TT_5 (i := 31) rfl rfl, TT_2 (i := 147) rfl rfl, TT_1 (i := 11) rfl rfl, TT_2 (i := 148) rfl rfl, ⟨by decide, by decide, by decide +kernel⟩⟩
theorem ms_X10_31 : MS RX10 31 yJ7_fill_53178 cJ7_fill_53178 4 none 2 := ⟨TT_2 (i := 141) rfl rfl, TT_2 (i := 135) rfl rfl, TT_1 (i := 11) rfl rfl, TT_2 (i := 136) rfl rfl, ⟨by decide, by decide, by decide +kernel⟩⟩
theorem ms_X12_286 : MS RX12 286 yX12_partName cX12_partName 1 (some .long) 1 := ⟨TT_10 (i := 6) rfl rfl, TT_10 (i := 7) rfl rfl, TT_1 (i := 13) rfl rfl, TT_10 (i := 8) rfl rfl, ⟨by decide, by decide, by decide +kernel⟩⟩
theorem ms_X6_35 : MS RX6 35 yX3_steps cX3_steps 4 (some .int) 4 := ⟨TT_3 (i := 172) rfl rfl, TT_3 (i := 173) rfl rfl, TT_1 (i := 4) rfl rfl, TT_3 (i := 174) rfl rfl, ⟨by decide, by decide, by decide +kernel⟩⟩
theorem ms_X6_41 : MS RX6 41 yJ9_min_7cf53 cJ9_min_7cf53 2 (some .int) 2 := ⟨TT_3 (i := 178) rfl rfl, TT_3 (i := 179) rfl rfl, TT_1 (i := 20) rfl rfl, TT_3 (i := 180) rfl rfl, ⟨by decide, by decide, by decide +kernel⟩⟩
theorem ms_X8_55 : MS RX8 55 yJ9_min_f86c9 cJ9_min_f86c9 4 (some .long) 2 := ⟨TT_5 (i := 36) rfl rfl, TT_5 (i := 37) rfl rfl, TT_1 (i := 20) rfl rfl, TT_5 (i := 38) rfl rfl, ⟨by decide, by decide, by decide +kernel⟩⟩
theorem mv_X0_58 : MV RX0 58 yX0_ranksBefore cX0_ranksBefore 7 (some .boolean) 2 := ⟨TT_4 (i := 43) rfl rfl, TT_4 (i := 45) rfl rfl, TT_s (i := 7) (by decide +kernel) (by decide +kernel), TT_1 (i := 10) rfl rfl, TT_4 (i := 46) rfl rfl, ⟨by decide, by decide, by decide +kernel⟩⟩
theorem mv_X1_57 : MV RX1 57 yX8_clear cX8_clear 1 none 0 := ⟨TT_2 (i := 126) rfl rfl, TT_2 (i := 127) rfl rfl, TT_2 (i := 128) rfl rfl, TT_1 (i := 6) rfl rfl, TT_2 (i := 129) rfl rfl, ⟨by decide, by decide, by decide +kernel⟩⟩
theorem mv_X1_60 : MV RX1 60 yX3_clear cX3_clear 1 none 0 := ⟨TT_2 (i := 130) rfl rfl, TT_2 (i := 131) rfl rfl, TT_2 (i := 132) rfl rfl, TT_1 (i := 4) rfl rfl, TT_2 (i := 133) rfl rfl, ⟨by decide, by decide, by decide +kernel⟩⟩
theorem mv_X1_66 : MV RX1 66 yX10_clear cX10_clear 1 none 0 := ⟨TT_2 (i := 137) rfl rfl, TT_2 (i := 138) rfl rfl, TT_2 (i := 139) rfl rfl, TT_1 (i := 9) rfl rfl, TT_2 (i := 140) rfl rfl, ⟨by decide, by decide, by decide +kernel⟩⟩
theorem mv_X1_67 : MV RX1 67 yX0_clear cX0_clear 1 none 0 := ⟨TT_2 (i := 142) rfl rfl, TT_2 (i := 143) rfl rfl, TT_2 (i := 144) rfl rfl, TT_1 (i := 10) rfl rfl, TT_2 (i := 145) rfl rfl, ⟨by decide, by decide, by decide +kernel⟩⟩
theorem mv_X1_88 : MV RX1 88 yX6_nearest cX6_nearest 6 (some .int) 3 := ⟨TT_3 (i := 168) rfl rfl, TT_3 (i := 169) rfl rfl, TT_3 (i := 170) rfl rfl, TT_1 (i := 7) rfl rfl, TT_3 (i := 171) rfl rfl, ⟨by decide, by decide, by decide +kernel⟩⟩
theorem mv_X1_151 : MV RX1 151 yX8_royaltyFor cX8_royaltyFor 11 (some .long) 2 := ⟨TT_5 (i := 32) rfl rfl, TT_5 (i := 33) rfl rfl, TT_5 (i := 34) rfl rfl, TT_1 (i := 6) rfl rfl, TT_5 (i := 35) rfl rfl, ⟨by decide, by decide, by decide +kernel⟩⟩
theorem mv_X1_155 : MV RX1 155 yX8_contributionFor cX8_contributionFor 4 (some .long) 2 := ⟨TT_5 (i := 44) rfl rfl, TT_5 (i := 45) rfl rfl, TT_5 (i := 46) rfl rfl, TT_1 (i := 6) rfl rfl, TT_5 (i := 47) rfl rfl, ⟨by decide, by decide, by decide +kernel⟩⟩
theorem mv_X1_158 : MV RX1 158 yX2_owedBy cX2_owedBy 2 (some .long) 1 := ⟨TT_5 (i := 48) rfl rfl, TT_4 (i := 67) rfl rfl, TT_4 (i := 68) rfl rfl, TT_1 (i := 8) rfl rfl, TT_4 (i := 69) rfl rfl, ⟨by decide, by decide, by decide +kernel⟩⟩
theorem mv_X1_166 : MV RX1 166 yX1_creditsPaid cX1_creditsPaid 5 (some .long) 1 := ⟨TT_5 (i := 54) rfl rfl, TT_5 (i := 56) rfl rfl, TT_s (i := 13) (by decide +kernel) (by decide +kernel), TT_1 (i := 5) rfl rfl, TT_5 (i := 57) rfl rfl, ⟨by decide, by decide, by decide +kernel⟩⟩
theorem mv_X1_169 : MV RX1 169 yX1_creditsReceived cX1_creditsReceived 5 (some .long) 1 := ⟨TT_5 (i := 67) rfl rfl, TT_5 (i := 69) rfl rfl, TT_s (i := 14) (by decide +kernel) (by decide +kernel), TT_1 (i := 5) rfl rfl, TT_5 (i := 70) rfl rfl, ⟨by decide, by decide, by decide +kernel⟩⟩
theorem mv_X11_93 : MV RX11 93 yX2_named cX2_named 5 (some .int) 3 := ⟨TT_3 (i := 218) rfl rfl, TT_3 (i := 122) rfl rfl, TT_3 (i := 123) rfl rfl, TT_1 (i := 8) rfl rfl, TT_3 (i := 124) rfl rfl, ⟨by decide, by decide, by decide +kernel⟩⟩
theorem mv_X11_273 : MV RX11 273 yX0_atPlace cX0_atPlace 6 (some .int) 2 := ⟨TT_4 (i := 39) rfl rfl, TT_4 (i := 40) rfl rfl, TT_4 (i := 41) rfl rfl, TT_1 (i := 10) rfl rfl, TT_4 (i := 42) rfl rfl, ⟨by decide, by decide, by decide +kernel⟩⟩
theorem mv_X11_300 : MV RX11 300 yX2_owedTogether cX2_owedTogether 4 (some .long) 0 := ⟨TT_4 (i := 62) rfl rfl, TT_4 (i := 63) rfl rfl, TT_4 (i := 64) rfl rfl, TT_1 (i := 8) rfl rfl, TT_4 (i := 65) rfl rfl, ⟨by decide, by decide, by decide +kernel⟩⟩
theorem mv_X12_289 : MV RX12 289 yX12_appendWord cX12_appendWord 4 none 1 := ⟨TT_10 (i := 16) rfl rfl, TT_10 (i := 18) rfl rfl, TT_s (i := 74) (by decide +kernel) (by decide +kernel), TT_1 (i := 13) rfl rfl, TT_10 (i := 19) rfl rfl, ⟨by decide, by decide, by decide +kernel⟩⟩
theorem mv_X12_293 : MV RX12 293 yX12_appendAmount cX12_appendAmount 7 none 1 := ⟨TT_10 (i := 21) rfl rfl, TT_10 (i := 23) rfl rfl, TT_s (i := 75) (by decide +kernel) (by decide +kernel), TT_1 (i := 13) rfl rfl, TT_10 (i := 24) rfl rfl, ⟨by decide, by decide, by decide +kernel⟩⟩
theorem mv_X4_52 : MV RX4 52 yX4_addByte cX4_addByte 2 none 1 := ⟨TT_7 (i := 191) rfl rfl, TT_7 (i := 193) rfl rfl, TT_s (i := 27) (by decide +kernel) (by decide +kernel), TT_1 (i := 3) rfl rfl, TT_7 (i := 194) rfl rfl, ⟨by decide, by decide, by decide +kernel⟩⟩
theorem mv_X4_70 : MV RX4 70 yX4_addDigit cX4_addDigit 3 none 1 := ⟨TT_7 (i := 204) rfl rfl, TT_7 (i := 206) rfl rfl, TT_s (i := 29) (by decide +kernel) (by decide +kernel), TT_1 (i := 3) rfl rfl, TT_7 (i := 207) rfl rfl, ⟨by decide, by decide, by decide +kernel⟩⟩
theorem mv_X5_136 : MV RX5 136 yX6_has cX6_has 2 (some .boolean) 1 := ⟨TT_4 (i := 216) rfl rfl, TT_4 (i := 217) rfl rfl, TT_4 (i := 218) rfl rfl, TT_1 (i := 7) rfl rfl, TT_4 (i := 219) rfl rfl, ⟨by decide, by decide, by decide +kernel⟩⟩
theorem mv_X5_142 : MV RX5 142 yX0_hasOpenMonth cX0_hasOpenMonth 1 (some .boolean) 0 := ⟨TT_4 (i := 220) rfl rfl, TT_4 (i := 221) rfl rfl, TT_4 (i := 222) rfl rfl, TT_1 (i := 10) rfl rfl, TT_4 (i := 223) rfl rfl, ⟨by decide, by decide, by decide +kernel⟩⟩
theorem mv_X5_145 : MV RX5 145 yX6_replaceSales cX6_replaceSales 6 (some .long) 2 := ⟨TT_4 (i := 224) rfl rfl, TT_4 (i := 225) rfl rfl, TT_4 (i := 226) rfl rfl, TT_1 (i := 7) rfl rfl, TT_4 (i := 227) rfl rfl, ⟨by decide, by decide, by decide +kernel⟩⟩
theorem mv_X5_149 : MV RX5 149 yX1_addDelivery cX1_addDelivery 8 (some .long) 4 := ⟨TT_4 (i := 229) rfl rfl, TT_4 (i := 230) rfl rfl, TT_4 (i := 231) rfl rfl, TT_1 (i := 5) rfl rfl, TT_4 (i := 232) rfl rfl, ⟨by decide, by decide, by decide +kernel⟩⟩
theorem mv_X6_49 : MV RX6 49 yX6_scaledSales cX6_scaledSales 6 (some .long) 2 := ⟨TT_5 (i := 22) rfl rfl, TT_5 (i := 23) rfl rfl, TT_5 (i := 24) rfl rfl, TT_1 (i := 7) rfl rfl, TT_5 (i := 25) rfl rfl, ⟨by decide, by decide, by decide +kernel⟩⟩
theorem mv_X7_14 : MV RX7 14 yX9_failed cX9_failed 1 (some .boolean) 0 := ⟨TT_3 (i := 1) rfl rfl, TT_3 (i := 2) rfl rfl, TT_3 (i := 3) rfl rfl, TT_1 (i := 2) rfl rfl, TT_3 (i := 4) rfl rfl, ⟨by decide, by decide, by decide +kernel⟩⟩
theorem mv_X7_70 : MV RX7 70 yX9_readNumber cX9_readNumber 3 (some .int) 2 := ⟨TT_3 (i := 77) rfl rfl, TT_3 (i := 78) rfl rfl, TT_3 (i := 79) rfl rfl, TT_1 (i := 2) rfl rfl, TT_3 (i := 80) rfl rfl, ⟨by decide, by decide, by decide +kernel⟩⟩
theorem mv_X7_108 : MV RX7 108 yX9_fail cX9_fail 2 none 1 := ⟨TT_3 (i := 72) rfl rfl, TT_3 (i := 73) rfl rfl, TT_3 (i := 74) rfl rfl, TT_1 (i := 2) rfl rfl, TT_3 (i := 75) rfl rfl, ⟨by decide, by decide, by decide +kernel⟩⟩
theorem mv_X7_115 : MV RX7 115 yX8_addPlan cX8_addPlan 3 none 2 := ⟨TT_3 (i := 83) rfl rfl, TT_3 (i := 84) rfl rfl, TT_3 (i := 85) rfl rfl, TT_1 (i := 6) rfl rfl, TT_3 (i := 86) rfl rfl, ⟨by decide, by decide, by decide +kernel⟩⟩
theorem mv_X7_119 : MV RX7 119 yX9_semicolonAhead cX9_semicolonAhead 1 (some .boolean) 0 := ⟨TT_3 (i := 91) rfl rfl, TT_3 (i := 92) rfl rfl, TT_3 (i := 93) rfl rfl, TT_1 (i := 2) rfl rfl, TT_3 (i := 94) rfl rfl, ⟨by decide, by decide, by decide +kernel⟩⟩
theorem mv_X7_123 : MV RX7 123 yX8_addStep cX8_addStep 6 none 2 := ⟨TT_3 (i := 97) rfl rfl, TT_3 (i := 88) rfl rfl, TT_3 (i := 89) rfl rfl, TT_1 (i := 6) rfl rfl, TT_3 (i := 90) rfl rfl, ⟨by decide, by decide, by decide +kernel⟩⟩
theorem mv_X8_51 : MV RX8 51 yX8_addStep cX8_addStep 6 none 2 := ⟨TT_3 (i := 87) rfl rfl, TT_3 (i := 88) rfl rfl, TT_3 (i := 89) rfl rfl, TT_1 (i := 6) rfl rfl, TT_3 (i := 90) rfl rfl, ⟨by decide, by decide, by decide +kernel⟩⟩
theorem mv_X8_68 : MV RX8 68 yX8_royaltyFor cX8_royaltyFor 11 (some .long) 2 := ⟨TT_6 (i := 126) rfl rfl, TT_5 (i := 33) rfl rfl, TT_5 (i := 34) rfl rfl, TT_1 (i := 6) rfl rfl, TT_5 (i := 35) rfl rfl, ⟨by decide, by decide, by decide +kernel⟩⟩
theorem mv_X8_72 : MV RX8 72 yX8_contributionFor cX8_contributionFor 4 (some .long) 2 := ⟨TT_6 (i := 127) rfl rfl, TT_5 (i := 45) rfl rfl, TT_5 (i := 46) rfl rfl, TT_1 (i := 6) rfl rfl, TT_5 (i := 47) rfl rfl, ⟨by decide, by decide, by decide +kernel⟩⟩
def tab_X4_addDigit : List En := [(0, 8, 0, 0), (1, 1, 0, 48), (3, 6, 1, 0), (8, 32, 0, 0), (9, 17, 0, 0)]
theorem ok_X4_addDigit : tab_X4_addDigit.all (okE cX4_addDigit) = true := by decide +kernel
def ed_X4_addDigit : List (Nat × Instr × Nat) := [(4, .ldc2_w 68, 3), (7, .lrem, 1), (10, .invokevirtual 52, 3), (13, .return_, 1)]
theorem okd_X4_addDigit : ed_X4_addDigit.all (okD cX4_addDigit) = true := by decide +kernel
def f_X4_addDigit (S : St) (p0 : Nat) (p1 : Int64) : Option (St) := cl (f_X4_addByte S p0 (48 + (Int64.toInt32 (p1 - p1 / 10 * 10)))) fun (S1 : St) => some S1
set_option maxHeartbeats 4000000 in
set_option maxRecDepth 100000 in
theorem c_X4_addDigit (S : St) (p0 : Nat) (p1 : Int64) : Ct yX4_addDigit cX4_addDigit 3 none 1 21 [.ref p0, .long p1] [(p0, 4)] S (f_X4_addDigit S p0 p1) oV sV := by
  refine Ct_of RX4 rfl (by decide) (Nat.le_of_ble_eq_true rfl) 0 (vs := [some (.ref p0), some (.long p1), none]) rfl (fun C X E hr ht => ?_)
  have t0_ : tT C p0 4 := ht (p0, 4) (by simp)
  unfold f_X4_addDigit
  refine s_run X ok_X4_addDigit 0 3 (pc' := 4) (vs' := [some (.ref p0), some (.long p1), none]) (st' := [.long p1, .int 48, .ref p0]) rfl ?_
  refine s_ldc2 X cl_X4_68 (dk okd_X4_addDigit 0 rfl) ?_
  refine s_lrem0 X (dk okd_X4_addDigit 1 rfl) (by decide) ?_
  refine s_run X ok_X4_addDigit 3 2 (pc' := 10) (vs' := [some (.ref p0), some (.long p1), none]) (st' := [.int (48 + (Int64.toInt32 (p1 - p1 / 10 * 10))), .ref p0]) rfl ?_
  refine s_callV (rest := []) X E mv_X4_52 (c_X4_addByte S p0 (48 + (Int64.toInt32 (p1 - p1 / 10 * 10)))) (ta1 t0_) rfl (by decide) t0_ rfl rfl (Nat.le_of_ble_eq_true rfl) (Nat.le_of_ble_eq_true rfl) (Nat.le_of_ble_eq_true rfl) (dk okd_X4_addDigit 2 rfl) (st' := fun S1 => []) (fun _ => rfl) (fun S1 => ?_)
  exact s_vret X hr (dk okd_X4_addDigit 3 rfl) rfl rfl
def tab_X5_executeSales : List En := [(0, 8, 0, 0), (4, 4, 1, 0), (6, 10, 3, 0), (7, 8, 2, 0), (11, 4, 3, 0), (18, 8, 2, 0), (28, 0, 0, 0), (30, 8, 0, 0), (34, 4, 1, 0), (39, 8, 2, 0), (43, 4, 3, 0), (44, 8, 0, 0), (48, 4, 1, 0), (53, 3, 0, 0), (54, 40, 0, 0), (58, 0, 0, 1), (59, 41, 63, 0), (62, 0, 0, 0), (64, 8, 2, 0), (65, 4, 3, 0), (66, 8, 0, 0), (70, 4, 1, 0), (72, 8, 0, 0), (76, 4, 1, 0), (78, 8, 0, 0), (82, 4, 1, 0), (87, 3, 0, 0), (88, 40, 0, 0), (92, 0, 0, 1), (93, 41, 97, 0), (96, 0, 0, 0)]
theorem ok_X5_executeSales : tab_X5_executeSales.all (okE cX5_executeSales) = true := by decide +kernel
def ed_X5_executeSales : List (Nat × Instr × Nat) := [(1, .getfield 15, 3), (5, .iaload, 1), (8, .getfield 132, 3), (12, .invokevirtual 136, 3), (15, .ifCond .eq 13, 3), (19, .getfield 115, 3), (22, .invokevirtual 142, 3), (25, .ifCond .ne 5, 3), (29, .ireturn, 1), (31, .getfield 9, 3), (35, .iaload, 1), (36, .ifCond .ne 28, 3), (40, .getfield 132, 3), (45, .getfield 31, 3), (49, .laload, 1), (50, .invokevirtual 145, 3), (55, .ifCond .lt 7, 3), (63, .ireturn, 1), (67, .getfield 18, 3), (71, .iaload, 1), (73, .getfield 21, 3), (77, .iaload, 1), (79, .getfield 31, 3), (83, .laload, 1), (84, .invokevirtual 149, 3), (89, .ifCond .lt 7, 3), (97, .ireturn, 1)]
theorem okd_X5_executeSales : ed_X5_executeSales.all (okD cX5_executeSales) = true := by decide +kernel
def f_X5_executeSales (S : St) (p0 : Nat) (p1 : Int32) (p2 : Nat) : Option (Int32 × St) := lt (gR S p0 1) fun (a1 : Nat) => ldI S a1 p1 fun (v3 : Int32) => lt (gR S p2 2) fun (a4 : Nat) => cl (f_X6_has S a4 v3) fun (v6 : Int32) => if v6 = 0 then (some (0, S)) else (lt (gR S p2 5) fun (a7 : Nat) => cl (f_X0_hasOpenMonth S a7) fun (v9 : Int32) => if v9 = 0 then (some (0, S)) else (lt (gR S p0 0) fun (a10 : Nat) => ldI S a10 p1 fun (v12 : Int32) => if v12 = 0 then (lt (gR S p2 2) fun (a23 : Nat) => lt (gR S p0 6) fun (a25 : Nat) => ldJ S a25 p1 fun (v27 : Int64) => cl (f_X6_replaceSales S a23 v3 v27) fun (o28 : Int64 × St) => if o28.1 < 0 then (some (0, o28.2)) else (some (1, o28.2))) else (lt (gR S p0 2) fun (a13 : Nat) => ldI S a13 p1 fun (v15 : Int32) => lt (gR S p0 3) fun (a16 : Nat) => ldI S a16 p1 fun (v18 : Int32) => lt (gR S p0 6) fun (a19 : Nat) => ldJ S a19 p1 fun (v21 : Int64) => cl (f_X1_addDelivery S p2 v3 v15 v18 v21) fun (o22 : Int64 × St) => if o22.1 < 0 then (some (0, o22.2)) else (some (1, o22.2)))))
set_option maxHeartbeats 4000000 in
set_option maxRecDepth 100000 in
theorem c_X5_executeSales (S : St) (p0 : Nat) (p1 : Int32) (p2 : Nat) : Ct yX5_executeSales cX5_executeSales 4 (some .boolean) 3 70 [.ref p0, .int p1, .ref p2] [(p0, 5), (p2, 1)] S (f_X5_executeSales S p0 p1 p2) oIS sS := by
  refine Ct_of RX5 rfl (by decide) (Nat.le_of_ble_eq_true rfl) 1 (vs := [some (.ref p0), some (.int p1), some (.ref p2), none]) rfl (fun C X E hr ht => ?_)
  have t0_ : tT C p0 5 := ht (p0, 5) (by simp)
  have t2_ : tT C p2 1 := ht (p2, 1) (by simp)
  unfold f_X5_executeSales
  refine s_run X ok_X5_executeSales 0 1 (pc' := 1) (vs' := [some (.ref p0), some (.int p1), some (.ref p2), none]) (st' := [.ref p0]) rfl ?_
  refine s_getR X fl_X5_15 t0_ (dk okd_X5_executeSales 0 rfl) (fun a1 (t2 : tT C a1 13) => ?_)
  refine s_run X ok_X5_executeSales 1 1 (pc' := 5) (vs' := [some (.ref p0), some (.int p1), some (.ref p2), none]) (st' := [.int p1, .ref a1]) rfl ?_
  refine s_iald X t2 (dk okd_X5_executeSales 1 rfl) (fun v3 => ?_)
  refine s_run X ok_X5_executeSales 2 2 (pc' := 8) (vs' := [some (.ref p0), some (.int p1), some (.ref p2), some (.int v3)]) (st' := [.ref p2]) rfl ?_
  refine s_getR X fl_X5_132 t2_ (dk okd_X5_executeSales 2 rfl) (fun a4 (t5 : tT C a4 6) => ?_)
  refine s_run X ok_X5_executeSales 4 1 (pc' := 12) (vs' := [some (.ref p0), some (.int p1), some (.ref p2), some (.int v3)]) (st' := [.int v3, .ref a4]) rfl ?_
  refine s_callV (rest := []) X E mv_X5_136 (c_X6_has S a4 v3) (ta1 t5) rfl (by decide) t5 rfl rfl (Nat.le_of_ble_eq_true rfl) (Nat.le_of_ble_eq_true rfl) (Nat.le_of_ble_eq_true rfl) (dk okd_X5_executeSales 3 rfl) (st' := fun v6 => [.int v6]) (fun _ => rfl) (fun v6 => ?_)
  refine s_if_eq (tgt := 28) X (dk okd_X5_executeSales 4 rfl) (by decide) ?_ ?_
  · refine s_run X ok_X5_executeSales 6 1 (pc' := 29) (vs' := [some (.ref p0), some (.int p1), some (.ref p2), some (.int v3)]) (st' := [.int 0]) rfl ?_
    exact s_zret0 X hr (dk okd_X5_executeSales 8 rfl) (by decide) rfl rfl
  · refine s_run X ok_X5_executeSales 5 1 (pc' := 19) (vs' := [some (.ref p0), some (.int p1), some (.ref p2), some (.int v3)]) (st' := [.ref p2]) rfl ?_
    refine s_getR X fl_X5_115 t2_ (dk okd_X5_executeSales 5 rfl) (fun a7 (t8 : tT C a7 0) => ?_)
    refine s_callV (rest := []) X E mv_X5_142 (c_X0_hasOpenMonth S a7) (ta1 t8) rfl (by decide) t8 rfl rfl (Nat.le_of_ble_eq_true rfl) (Nat.le_of_ble_eq_true rfl) (Nat.le_of_ble_eq_true rfl) (dk okd_X5_executeSales 6 rfl) (st' := fun v9 => [.int v9]) (fun _ => rfl) (fun v9 => ?_)
    refine s_if_ne (tgt := 30) X (dk okd_X5_executeSales 7 rfl) (by decide) ?_ ?_
    · refine s_run X ok_X5_executeSales 7 1 (pc' := 31) (vs' := [some (.ref p0), some (.int p1), some (.ref p2), some (.int v3)]) (st' := [.ref p0]) rfl ?_
      refine s_getR X fl_X5_9 t0_ (dk okd_X5_executeSales 9 rfl) (fun a10 (t11 : tT C a10 13) => ?_)
      refine s_run X ok_X5_executeSales 8 1 (pc' := 35) (vs' := [some (.ref p0), some (.int p1), some (.ref p2), some (.int v3)]) (st' := [.int p1, .ref a10]) rfl ?_
      refine s_iald X t11 (dk okd_X5_executeSales 10 rfl) (fun v12 => ?_)
      refine s_if_ne (tgt := 64) X (dk okd_X5_executeSales 11 rfl) (by decide) ?_ ?_
      · refine s_run X ok_X5_executeSales 18 3 (pc' := 67) (vs' := [some (.ref p0), some (.int p1), some (.ref p2), some (.int v3)]) (st' := [.ref p0, .int v3, .ref p2]) rfl ?_
        refine s_getR X fl_X5_18 t0_ (dk okd_X5_executeSales 18 rfl) (fun a13 (t14 : tT C a13 13) => ?_)
        refine s_run X ok_X5_executeSales 21 1 (pc' := 71) (vs' := [some (.ref p0), some (.int p1), some (.ref p2), some (.int v3)]) (st' := [.int p1, .ref a13, .int v3, .ref p2]) rfl ?_
        refine s_iald X t14 (dk okd_X5_executeSales 19 rfl) (fun v15 => ?_)
        refine s_run X ok_X5_executeSales 22 1 (pc' := 73) (vs' := [some (.ref p0), some (.int p1), some (.ref p2), some (.int v3)]) (st' := [.ref p0, .int v15, .int v3, .ref p2]) rfl ?_
        refine s_getR X fl_X5_21 t0_ (dk okd_X5_executeSales 20 rfl) (fun a16 (t17 : tT C a16 13) => ?_)
        refine s_run X ok_X5_executeSales 23 1 (pc' := 77) (vs' := [some (.ref p0), some (.int p1), some (.ref p2), some (.int v3)]) (st' := [.int p1, .ref a16, .int v15, .int v3, .ref p2]) rfl ?_
        refine s_iald X t17 (dk okd_X5_executeSales 21 rfl) (fun v18 => ?_)
        refine s_run X ok_X5_executeSales 24 1 (pc' := 79) (vs' := [some (.ref p0), some (.int p1), some (.ref p2), some (.int v3)]) (st' := [.ref p0, .int v18, .int v15, .int v3, .ref p2]) rfl ?_
        refine s_getR X fl_X5_31 t0_ (dk okd_X5_executeSales 22 rfl) (fun a19 (t20 : tT C a19 14) => ?_)
        refine s_run X ok_X5_executeSales 25 1 (pc' := 83) (vs' := [some (.ref p0), some (.int p1), some (.ref p2), some (.int v3)]) (st' := [.int p1, .ref a19, .int v18, .int v15, .int v3, .ref p2]) rfl ?_
        refine s_lald X t20 (dk okd_X5_executeSales 23 rfl) (fun v21 => ?_)
        refine s_callV (rest := []) X E mv_X5_149 (c_X1_addDelivery S p2 v3 v15 v18 v21) (ta1 t2_) rfl (by decide) t2_ rfl rfl (Nat.le_of_ble_eq_true rfl) (Nat.le_of_ble_eq_true rfl) (Nat.le_of_ble_eq_true rfl) (dk okd_X5_executeSales 24 rfl) (st' := fun o22 => [.long o22.1]) (fun _ => rfl) (fun o22 => ?_)
        refine s_run X ok_X5_executeSales 26 2 (pc' := 89) (vs' := [some (.ref p0), some (.int p1), some (.ref p2), some (.int v3)]) (st' := [.int (lg_cmp o22.1 0)]) rfl ?_
        refine s_lif_lt (tgt := 96) X (dk okd_X5_executeSales 25 rfl) (by decide) ?_ ?_
        · refine s_run X ok_X5_executeSales 30 1 (pc' := 97) (vs' := [some (.ref p0), some (.int p1), some (.ref p2), some (.int v3)]) (st' := [.int 0]) rfl ?_
          exact s_zret0 X hr (dk okd_X5_executeSales 26 rfl) (by decide) rfl rfl
        · refine s_run X ok_X5_executeSales 28 2 (pc' := 97) (vs' := [some (.ref p0), some (.int p1), some (.ref p2), some (.int v3)]) (st' := [.int 1]) rfl ?_
          exact s_zret0 X hr (dk okd_X5_executeSales 26 rfl) (by decide) rfl rfl
      · refine s_run X ok_X5_executeSales 9 1 (pc' := 40) (vs' := [some (.ref p0), some (.int p1), some (.ref p2), some (.int v3)]) (st' := [.ref p2]) rfl ?_
        refine s_getR X fl_X5_132 t2_ (dk okd_X5_executeSales 12 rfl) (fun a23 (t24 : tT C a23 6) => ?_)
        refine s_run X ok_X5_executeSales 10 2 (pc' := 45) (vs' := [some (.ref p0), some (.int p1), some (.ref p2), some (.int v3)]) (st' := [.ref p0, .int v3, .ref a23]) rfl ?_
        refine s_getR X fl_X5_31 t0_ (dk okd_X5_executeSales 13 rfl) (fun a25 (t26 : tT C a25 14) => ?_)
        refine s_run X ok_X5_executeSales 12 1 (pc' := 49) (vs' := [some (.ref p0), some (.int p1), some (.ref p2), some (.int v3)]) (st' := [.int p1, .ref a25, .int v3, .ref a23]) rfl ?_
        refine s_lald X t26 (dk okd_X5_executeSales 14 rfl) (fun v27 => ?_)
        refine s_callV (rest := []) X E mv_X5_145 (c_X6_replaceSales S a23 v3 v27) (ta1 t24) rfl (by decide) t24 rfl rfl (Nat.le_of_ble_eq_true rfl) (Nat.le_of_ble_eq_true rfl) (Nat.le_of_ble_eq_true rfl) (dk okd_X5_executeSales 15 rfl) (st' := fun o28 => [.long o28.1]) (fun _ => rfl) (fun o28 => ?_)
        refine s_run X ok_X5_executeSales 13 2 (pc' := 55) (vs' := [some (.ref p0), some (.int p1), some (.ref p2), some (.int v3)]) (st' := [.int (lg_cmp o28.1 0)]) rfl ?_
        refine s_lif_lt (tgt := 62) X (dk okd_X5_executeSales 16 rfl) (by decide) ?_ ?_
        · refine s_run X ok_X5_executeSales 17 1 (pc' := 63) (vs' := [some (.ref p0), some (.int p1), some (.ref p2), some (.int v3)]) (st' := [.int 0]) rfl ?_
          exact s_zret0 X hr (dk okd_X5_executeSales 17 rfl) (by decide) rfl rfl
        · refine s_run X ok_X5_executeSales 15 2 (pc' := 63) (vs' := [some (.ref p0), some (.int p1), some (.ref p2), some (.int v3)]) (st' := [.int 1]) rfl ?_
          exact s_zret0 X hr (dk okd_X5_executeSales 17 rfl) (by decide) rfl rfl
    · refine s_run X ok_X5_executeSales 6 1 (pc' := 29) (vs' := [some (.ref p0), some (.int p1), some (.ref p2), some (.int v3)]) (st' := [.int 0]) rfl ?_
      exact s_zret0 X hr (dk okd_X5_executeSales 8 rfl) (by decide) rfl rfl
def tab_X6_nearest : List En := [(0, 2, 0, 1000), (3, 11, 4, 0), (5, 0, 0, 0), (6, 11, 5, 0), (8, 5, 5, 0), (10, 8, 0, 0), (17, 8, 0, 0), (21, 5, 5, 0), (24, 0, 0, (-1)), (28, 4, 1, 0), (29, 0, 0, (-1)), (33, 8, 0, 0), (37, 5, 5, 0), (40, 4, 1, 0), (44, 5, 4, 0), (46, 4, 2, 0), (47, 4, 3, 0), (48, 8, 0, 0), (52, 5, 5, 0), (55, 8, 0, 0), (59, 5, 5, 0), (68, 11, 4, 0), (70, 16, 5, 1), (73, 41, 8, 0), (76, 5, 4, 0)]
theorem ok_X6_nearest : tab_X6_nearest.all (okE cX6_nearest) = true := by decide +kernel
def ed_X6_nearest : List (Nat × Instr × Nat) := [(11, .getfield 31, 3), (14, .if_icmp .ge 62, 3), (18, .getfield 9, 3), (23, .iaload, 1), (25, .if_icmp .eq 45, 3), (30, .if_icmp .eq 14, 3), (34, .getfield 9, 3), (39, .iaload, 1), (41, .if_icmp .ne 29, 3), (49, .getfield 15, 3), (54, .iaload, 1), (56, .getfield 18, 3), (61, .iaload, 1), (62, .invokestatic 35, 3), (65, .invokestatic 41, 3), (78, .ireturn, 1)]
theorem okd_X6_nearest : ed_X6_nearest.all (okD cX6_nearest) = true := by decide +kernel
def f_X6_nearest (S : St) (p0 : Nat) (p1 : Int32) (p2 : Int32) (p3 : Int32) : Option (Int32) := jn (κ := Int32 → Option (Int32)) (fun x1 => some x1) fun k2 => lp (κ := Int32 → Int32 → Option (Int32)) (fun _ _ => none) (fun k6 x4 x5 => lt (gI S p0 4) fun (v8 : Int32) => if v8 ≤ x5 then (k2 x4) else (lt (gR S p0 0) fun (a9 : Nat) => ldI S a9 x5 fun (v11 : Int32) => jn (κ := Int32 → Option (Int32)) (fun x12 => k6 x12 (x5 + 1)) fun k13 => if v11 = (-1) then (k13 x4) else (jn (κ := Option (Int32)) (lt (gR S p0 1) fun (a17 : Nat) => ldI S a17 x5 fun (v19 : Int32) => lt (gR S p0 2) fun (a20 : Nat) => ldI S a20 x5 fun (v22 : Int32) => cl (f_X3_steps S p2 p3 v19 v22) fun (v23 : Int32) => cl (f_J9_min_7cf53 S x4 v23) fun (v24 : Int32) => k13 v24) fun k15 => if p1 = (-1) then (k15) else (lt (gR S p0 0) fun (a25 : Nat) => ldI S a25 x5 fun (v27 : Int32) => if v27 = p1 then (k15) else (k13 x4))))) FU 1000 0
set_option maxHeartbeats 4000000 in
set_option maxRecDepth 100000 in
theorem c_X6_nearest (S : St) (p0 : Nat) (p1 : Int32) (p2 : Int32) (p3 : Int32) : Ct yX6_nearest cX6_nearest 6 (some .int) 2 43 [.ref p0, .int p1, .int p2, .int p3] [(p0, 6)] S (f_X6_nearest S p0 p1 p2 p3) oI (fun _ => S) := by
  refine Ct_of RX6 rfl (by decide) (Nat.le_of_ble_eq_true rfl) 2 (vs := [some (.ref p0), some (.int p1), some (.int p2), some (.int p3), none, none]) rfl (fun C X E hr ht => ?_)
  have t0_ : tT C p0 6 := ht (p0, 6) (by simp)
  unfold f_X6_nearest
  refine s_run X ok_X6_nearest 0 4 (pc' := 8) (vs' := [some (.ref p0), some (.int p1), some (.int p2), some (.int p3), some (.int 1000), some (.int 0)]) (st' := []) rfl ?_
  refine s_jn (κ := Int32 → Option (Int32)) (fun k2 => ∀ (x1 : Int32), Jd C 6 (QJ C oI (fun _ => S)) S 76 [none, none, none, none, some (.int x1), none] [] (k2 x1)) (fun x1 => ?_) (fun k2 h3 => ?_)
  · refine s_run X ok_X6_nearest 24 1 (pc' := 78) (vs' := [none, none, none, none, some (.int x1), none]) (st' := [.int x1]) rfl ?_
    exact s_iret X hr (dk okd_X6_nearest 15 rfl) rfl rfl
  · refine s_lp (κ := Int32 → Int32 → Option (Int32)) (fun k6 => ∀ (x4 : Int32) (x5 : Int32), Jd C 6 (QJ C oI (fun _ => S)) S 8 [some (.ref p0), some (.int p1), some (.int p2), some (.int p3), some (.int x4), some (.int x5)] [] (k6 x4 x5)) (fun _ _ => s_none) (fun k6 h7 x4 x5 => ?_) FU 1000 0
    refine s_run X ok_X6_nearest 4 2 (pc' := 11) (vs' := [some (.ref p0), some (.int p1), some (.int p2), some (.int p3), some (.int x4), some (.int x5)]) (st' := [.ref p0, .int x5]) rfl ?_
    refine s_getI X fl_X6_31 t0_ (dk okd_X6_nearest 0 rfl) (fun v8 => ?_)
    refine s_icmp_ge (tgt := 76) X (dk okd_X6_nearest 1 rfl) (by decide) ?_ ?_
    · exact s_less [false, false, false, false, true, false] rfl (h3 x4)
    · refine s_run X ok_X6_nearest 6 1 (pc' := 18) (vs' := [some (.ref p0), some (.int p1), some (.int p2), some (.int p3), some (.int x4), some (.int x5)]) (st' := [.ref p0]) rfl ?_
      refine s_getR X fl_X6_9 t0_ (dk okd_X6_nearest 2 rfl) (fun a9 (t10 : tT C a9 13) => ?_)
      refine s_run X ok_X6_nearest 7 1 (pc' := 23) (vs' := [some (.ref p0), some (.int p1), some (.int p2), some (.int p3), some (.int x4), some (.int x5)]) (st' := [.int x5, .ref a9]) rfl ?_
      refine s_iald X t10 (dk okd_X6_nearest 3 rfl) (fun v11 => ?_)
      refine s_run X ok_X6_nearest 8 1 (pc' := 25) (vs' := [some (.ref p0), some (.int p1), some (.int p2), some (.int p3), some (.int x4), some (.int x5)]) (st' := [.int (-1), .int v11]) rfl ?_
      refine s_jn (κ := Int32 → Option (Int32)) (fun k13 => ∀ (x12 : Int32), Jd C 6 (QJ C oI (fun _ => S)) S 70 [some (.ref p0), some (.int p1), some (.int p2), some (.int p3), some (.int x12), some (.int x5)] [] (k13 x12)) (fun x12 => ?_) (fun k13 h14 => ?_)
      · refine s_run X ok_X6_nearest 22 2 (pc' := 8) (vs' := [some (.ref p0), some (.int p1), some (.int p2), some (.int p3), some (.int x12), some (.int (x5 + 1))]) (st' := []) rfl ?_
        exact h7 x12 (x5 + 1)
      · refine s_icmp_eq (tgt := 70) X (dk okd_X6_nearest 4 rfl) (by decide) ?_ ?_
        · exact h14 x4
        · refine s_run X ok_X6_nearest 9 2 (pc' := 30) (vs' := [some (.ref p0), some (.int p1), some (.int p2), some (.int p3), some (.int x4), some (.int x5)]) (st' := [.int (-1), .int p1]) rfl ?_
          refine s_jn (κ := Option (Int32)) (fun k15 => Jd C 6 (QJ C oI (fun _ => S)) S 44 [some (.ref p0), some (.int p1), some (.int p2), some (.int p3), some (.int x4), some (.int x5)] [] k15) ?_ (fun k15 h16 => ?_)
          · refine s_run X ok_X6_nearest 14 4 (pc' := 49) (vs' := [some (.ref p0), some (.int p1), some (.int p2), some (.int p3), some (.int x4), some (.int x5)]) (st' := [.ref p0, .int p3, .int p2, .int x4]) rfl ?_
            refine s_getR X fl_X6_15 t0_ (dk okd_X6_nearest 9 rfl) (fun a17 (t18 : tT C a17 13) => ?_)
            refine s_run X ok_X6_nearest 18 1 (pc' := 54) (vs' := [some (.ref p0), some (.int p1), some (.int p2), some (.int p3), some (.int x4), some (.int x5)]) (st' := [.int x5, .ref a17, .int p3, .int p2, .int x4]) rfl ?_
            refine s_iald X t18 (dk okd_X6_nearest 10 rfl) (fun v19 => ?_)
            refine s_run X ok_X6_nearest 19 1 (pc' := 56) (vs' := [some (.ref p0), some (.int p1), some (.int p2), some (.int p3), some (.int x4), some (.int x5)]) (st' := [.ref p0, .int v19, .int p3, .int p2, .int x4]) rfl ?_
            refine s_getR X fl_X6_18 t0_ (dk okd_X6_nearest 11 rfl) (fun a20 (t21 : tT C a20 13) => ?_)
            refine s_run X ok_X6_nearest 20 1 (pc' := 61) (vs' := [some (.ref p0), some (.int p1), some (.int p2), some (.int p3), some (.int x4), some (.int x5)]) (st' := [.int x5, .ref a20, .int v19, .int p3, .int p2, .int x4]) rfl ?_
            refine s_iald X t21 (dk okd_X6_nearest 12 rfl) (fun v22 => ?_)
            refine s_callS (rest := [.int x4]) X E ms_X6_35 (c_X3_steps S p2 p3 v19 v22) (ta0) rfl rfl (Nat.le_of_ble_eq_true rfl) (Nat.le_of_ble_eq_true rfl) (Nat.le_of_ble_eq_true rfl) (dk okd_X6_nearest 13 rfl) (st' := fun v23 => [.int v23, .int x4]) (fun _ => rfl) (fun v23 => ?_)
            refine s_callS (rest := []) X E ms_X6_41 (c_J9_min_7cf53 S x4 v23) (ta0) rfl rfl (Nat.le_of_ble_eq_true rfl) (Nat.le_of_ble_eq_true rfl) (Nat.le_of_ble_eq_true rfl) (dk okd_X6_nearest 14 rfl) (st' := fun v24 => [.int v24]) (fun _ => rfl) (fun v24 => ?_)
            refine s_run X ok_X6_nearest 21 1 (pc' := 70) (vs' := [some (.ref p0), some (.int p1), some (.int p2), some (.int p3), some (.int v24), some (.int x5)]) (st' := []) rfl ?_
            exact h14 v24
          · refine s_icmp_eq (tgt := 44) X (dk okd_X6_nearest 5 rfl) (by decide) ?_ ?_
            · exact h16
            · refine s_run X ok_X6_nearest 11 1 (pc' := 34) (vs' := [some (.ref p0), some (.int p1), some (.int p2), some (.int p3), some (.int x4), some (.int x5)]) (st' := [.ref p0]) rfl ?_
              refine s_getR X fl_X6_9 t0_ (dk okd_X6_nearest 6 rfl) (fun a25 (t26 : tT C a25 13) => ?_)
              refine s_run X ok_X6_nearest 12 1 (pc' := 39) (vs' := [some (.ref p0), some (.int p1), some (.int p2), some (.int p3), some (.int x4), some (.int x5)]) (st' := [.int x5, .ref a25]) rfl ?_
              refine s_iald X t26 (dk okd_X6_nearest 7 rfl) (fun v27 => ?_)
              refine s_run X ok_X6_nearest 13 1 (pc' := 41) (vs' := [some (.ref p0), some (.int p1), some (.int p2), some (.int p3), some (.int x4), some (.int x5)]) (st' := [.int p1, .int v27]) rfl ?_
              refine s_icmp_ne (tgt := 70) X (dk okd_X6_nearest 8 rfl) (by decide) ?_ ?_
              · exact h14 x4
              · exact h16
def tab_X6_salesTogether : List En := [(0, 8, 0, 0), (1, 4, 1, 0), (2, 1, 0, 100)]
theorem ok_X6_salesTogether : tab_X6_salesTogether.all (okE cX6_salesTogether) = true := by decide +kernel
def ed_X6_salesTogether : List (Nat × Instr × Nat) := [(4, .invokevirtual 49, 3), (7, .lreturn, 1)]
theorem okd_X6_salesTogether : ed_X6_salesTogether.all (okD cX6_salesTogether) = true := by decide +kernel
def f_X6_salesTogether (S : St) (p0 : Nat) (p1 : Int32) : Option (Int64) := cl (f_X6_scaledSales S p0 p1 100) fun (v1 : Int64) => some v1
set_option maxHeartbeats 4000000 in
set_option maxRecDepth 100000 in
theorem c_X6_salesTogether (S : St) (p0 : Nat) (p1 : Int32) : Ct yX6_salesTogether cX6_salesTogether 2 (some .long) 1 25 [.ref p0, .int p1] [(p0, 6)] S (f_X6_salesTogether S p0 p1) oL (fun _ => S) := by
  refine Ct_of RX6 rfl (by decide) (Nat.le_of_ble_eq_true rfl) 0 (vs := [some (.ref p0), some (.int p1)]) rfl (fun C X E hr ht => ?_)
  have t0_ : tT C p0 6 := ht (p0, 6) (by simp)
  unfold f_X6_salesTogether
  refine s_run X ok_X6_salesTogether 0 3 (pc' := 4) (vs' := [some (.ref p0), some (.int p1)]) (st' := [.int 100, .int p1, .ref p0]) rfl ?_
  refine s_callV (rest := []) X E mv_X6_49 (c_X6_scaledSales S p0 p1 100) (ta1 t0_) rfl (by decide) t0_ rfl rfl (Nat.le_of_ble_eq_true rfl) (Nat.le_of_ble_eq_true rfl) (Nat.le_of_ble_eq_true rfl) (dk okd_X6_salesTogether 0 rfl) (st' := fun v1 => [.long v1]) (fun _ => rfl) (fun v1 => ?_)
  exact s_lret X hr (dk okd_X6_salesTogether 1 rfl) rfl rfl
def tab_X8_addPlan : List En := [(0, 8, 0, 0), (4, 0, 0, 4), (9, 8, 0, 0), (13, 8, 0, 0), (17, 4, 1, 0), (19, 8, 0, 0), (23, 8, 0, 0), (27, 0, 0, 0), (29, 8, 0, 0), (30, 36, 0, 0), (34, 0, 0, 1), (35, 17, 0, 0), (39, 8, 0, 0), (40, 3, 0, 0), (41, 4, 2, 0)]
theorem ok_X8_addPlan : tab_X8_addPlan.all (okE cX8_addPlan) = true := by decide +kernel
def ed_X8_addPlan : List (Nat × Instr × Nat) := [(1, .getfield 25, 3), (5, .if_icmp .lt 4, 3), (8, .return_, 1), (10, .getfield 9, 3), (14, .getfield 25, 3), (18, .iastore, 1), (20, .getfield 15, 3), (24, .getfield 25, 3), (28, .iastore, 1), (31, .getfield 25, 3), (36, .putfield 25, 3), (42, .invokevirtual 51, 3), (45, .return_, 1)]
theorem okd_X8_addPlan : ed_X8_addPlan.all (okD cX8_addPlan) = true := by decide +kernel
def f_X8_addPlan (S : St) (p0 : Nat) (p1 : Int32) (p2 : Int32) : Option (St) := lt (gI S p0 4) fun (v1 : Int32) => if v1 < 4 then (lt (gR S p0 0) fun (a2 : Nat) => lt (gI S p0 4) fun (v4 : Int32) => stI S a2 v4 p1 fun (S5 : St) => lt (gR S5 p0 1) fun (a6 : Nat) => lt (gI S5 p0 4) fun (v8 : Int32) => stI S5 a6 v8 0 fun (S9 : St) => lt (gI S9 p0 4) fun (v10 : Int32) => lt (uI S9 p0 4 (v10 + 1)) fun (S11 : St) => cl (f_X8_addStep S11 p0 0 p2) fun (S12 : St) => some S12) else (some S)
set_option maxHeartbeats 4000000 in
set_option maxRecDepth 100000 in
theorem c_X8_addPlan (S : St) (p0 : Nat) (p1 : Int32) (p2 : Int32) : Ct yX8_addPlan cX8_addPlan 3 none 1 25 [.ref p0, .int p1, .int p2] [(p0, 7)] S (f_X8_addPlan S p0 p1 p2) oV sV := by
  refine Ct_of RX8 rfl (by decide) (Nat.le_of_ble_eq_true rfl) 0 (vs := [some (.ref p0), some (.int p1), some (.int p2)]) rfl (fun C X E hr ht => ?_)
  have t0_ : tT C p0 7 := ht (p0, 7) (by simp)
  unfold f_X8_addPlan
  refine s_run X ok_X8_addPlan 0 1 (pc' := 1) (vs' := [some (.ref p0), some (.int p1), some (.int p2)]) (st' := [.ref p0]) rfl ?_
  refine s_getI X fl_X8_25 t0_ (dk okd_X8_addPlan 0 rfl) (fun v1 => ?_)
  refine s_run X ok_X8_addPlan 1 1 (pc' := 5) (vs' := [some (.ref p0), some (.int p1), some (.int p2)]) (st' := [.int 4, .int v1]) rfl ?_
  refine s_icmp_lt (tgt := 9) X (dk okd_X8_addPlan 1 rfl) (by decide) ?_ ?_
  · refine s_run X ok_X8_addPlan 2 1 (pc' := 10) (vs' := [some (.ref p0), some (.int p1), some (.int p2)]) (st' := [.ref p0]) rfl ?_
    refine s_getR X fl_X8_9 t0_ (dk okd_X8_addPlan 3 rfl) (fun a2 (t3 : tT C a2 13) => ?_)
    refine s_run X ok_X8_addPlan 3 1 (pc' := 14) (vs' := [some (.ref p0), some (.int p1), some (.int p2)]) (st' := [.ref p0, .ref a2]) rfl ?_
    refine s_getI X fl_X8_25 t0_ (dk okd_X8_addPlan 4 rfl) (fun v4 => ?_)
    refine s_run X ok_X8_addPlan 4 1 (pc' := 18) (vs' := [some (.ref p0), some (.int p1), some (.int p2)]) (st' := [.int p1, .int v4, .ref a2]) rfl ?_
    refine s_iast X t3 (dk okd_X8_addPlan 5 rfl) (fun S5 => ?_)
    refine s_run X ok_X8_addPlan 5 1 (pc' := 20) (vs' := [some (.ref p0), some (.int p1), some (.int p2)]) (st' := [.ref p0]) rfl ?_
    refine s_getR X fl_X8_15 t0_ (dk okd_X8_addPlan 6 rfl) (fun a6 (t7 : tT C a6 13) => ?_)
    refine s_run X ok_X8_addPlan 6 1 (pc' := 24) (vs' := [some (.ref p0), some (.int p1), some (.int p2)]) (st' := [.ref p0, .ref a6]) rfl ?_
    refine s_getI X fl_X8_25 t0_ (dk okd_X8_addPlan 7 rfl) (fun v8 => ?_)
    refine s_run X ok_X8_addPlan 7 1 (pc' := 28) (vs' := [some (.ref p0), some (.int p1), some (.int p2)]) (st' := [.int 0, .int v8, .ref a6]) rfl ?_
    refine s_iast X t7 (dk okd_X8_addPlan 8 rfl) (fun S9 => ?_)
    refine s_run X ok_X8_addPlan 8 2 (pc' := 31) (vs' := [some (.ref p0), some (.int p1), some (.int p2)]) (st' := [.ref p0, .ref p0]) rfl ?_
    refine s_getI X fl_X8_25 t0_ (dk okd_X8_addPlan 9 rfl) (fun v10 => ?_)
    refine s_run X ok_X8_addPlan 10 2 (pc' := 36) (vs' := [some (.ref p0), some (.int p1), some (.int p2)]) (st' := [.int (v10 + 1), .ref p0]) rfl ?_
    refine s_putI X fp_X8_25 t0_ (dk okd_X8_addPlan 10 rfl) (fun S11 => ?_)
    refine s_run X ok_X8_addPlan 12 3 (pc' := 42) (vs' := [some (.ref p0), some (.int p1), some (.int p2)]) (st' := [.int p2, .long 0, .ref p0]) rfl ?_
    refine s_callV (rest := []) X E mv_X8_51 (c_X8_addStep S11 p0 0 p2) (ta1 t0_) rfl (by decide) t0_ rfl rfl (Nat.le_of_ble_eq_true rfl) (Nat.le_of_ble_eq_true rfl) (Nat.le_of_ble_eq_true rfl) (dk okd_X8_addPlan 11 rfl) (st' := fun S12 => []) (fun _ => rfl) (fun S12 => ?_)
    exact s_vret X hr (dk okd_X8_addPlan 12 rfl) rfl rfl
  · exact s_vret X hr (dk okd_X8_addPlan 2 rfl) rfl rfl
def tab_X8_royaltyFor : List En := [(0, 3, 0, 0), (1, 13, 4, 0), (3, 4, 1, 0), (4, 0, 0, 5), (5, 19, 0, 0), (6, 11, 6, 0), (8, 5, 6, 0), (10, 8, 0, 0), (14, 4, 1, 0), (16, 17, 0, 0), (17, 0, 0, 1), (18, 18, 0, 0), (19, 11, 7, 0), (21, 5, 6, 0), (23, 11, 8, 0), (25, 5, 8, 0), (27, 5, 7, 0), (32, 5, 8, 0), (34, 5, 7, 0), (39, 6, 2, 0), (40, 8, 0, 0), (44, 5, 8, 0), (46, 0, 0, 1), (47, 17, 0, 0), (52, 41, 56, 0), (55, 6, 2, 0), (56, 13, 9, 0), (58, 7, 9, 0), (60, 8, 0, 0), (64, 5, 8, 0), (67, 40, 0, 0), (71, 7, 4, 0), (73, 7, 9, 0), (75, 8, 0, 0), (79, 5, 8, 0), (82, 24, 0, 0), (83, 8, 0, 0), (87, 5, 8, 0), (90, 31, 0, 0), (91, 25, 0, 0), (92, 23, 0, 0), (93, 13, 4, 0), (95, 16, 8, 1), (98, 41, 25, 0), (101, 7, 4, 0), (103, 3, 1, 0)]
theorem ok_X8_royaltyFor : tab_X8_royaltyFor.all (okE cX8_royaltyFor) = true := by decide +kernel
def ed_X8_royaltyFor : List (Nat × Instr × Nat) := [(11, .getfield 15, 3), (15, .iaload, 1), (29, .if_icmp .gt 72, 3), (36, .if_icmp .ge 19, 3), (41, .getfield 18, 3), (48, .laload, 1), (49, .invokestatic 55, 3), (61, .getfield 18, 3), (66, .laload, 1), (68, .ifCond .le 27, 3), (76, .getfield 18, 3), (81, .laload, 1), (84, .getfield 22, 3), (89, .iaload, 1), (104, .invokestatic 61, 3), (107, .lreturn, 1)]
theorem okd_X8_royaltyFor : ed_X8_royaltyFor.all (okD cX8_royaltyFor) = true := by decide +kernel
def f_X8_royaltyFor (S : St) (p0 : Nat) (p1 : Int32) (p2 : Int64) : Option (Int64) := lt (p1 * 5) fun (v1 : Int32) => lt (gR S p0 1) fun (a2 : Nat) => ldI S a2 p1 fun (v4 : Int32) => lt ((v1 + v4) - 1) fun (v5 : Int32) => jn (κ := Int64 → Option (Int64)) (fun x6 => cl (f_X11_rateOf S x6 1) fun (v9 : Int64) => some v9) fun k7 => lp (κ := Int64 → Int32 → Option (Int64)) (fun _ _ => none) (fun k12 x10 x11 => if v5 < x11 then (k7 x10) else (jn (κ := Int64 → Option (Int64)) (fun x14 => lt (gR S p0 2) fun (a17 : Nat) => ldJ S a17 x11 fun (v19 : Int64) => jn (κ := Int64 → Option (Int64)) (fun x20 => k12 x20 (x11 + 1)) fun k21 => if x14 ≤ v19 then (k21 x10) else (lt (gR S p0 2) fun (a23 : Nat) => ldJ S a23 x11 fun (v25 : Int64) => lt (gR S p0 3) fun (a26 : Nat) => ldI S a26 x11 fun (v28 : Int32) => lt (x10 + ((x14 - v25) * (Int32.toInt64 v28))) fun (v29 : Int64) => k21 v29)) fun k15 => if v5 ≤ x11 then (k15 p2) else (lt (gR S p0 2) fun (a30 : Nat) => ldJ S a30 (x11 + 1) fun (v32 : Int64) => cl (f_J9_min_f86c9 S p2 v32) fun (v33 : Int64) => k15 v33))) FU 0 v1
set_option maxHeartbeats 4000000 in
set_option maxRecDepth 100000 in
theorem c_X8_royaltyFor (S : St) (p0 : Nat) (p1 : Int32) (p2 : Int64) : Ct yX8_royaltyFor cX8_royaltyFor 11 (some .long) 1 23 [.ref p0, .int p1, .long p2] [(p0, 7)] S (f_X8_royaltyFor S p0 p1 p2) oL (fun _ => S) := by
  refine Ct_of RX8 rfl (by decide) (Nat.le_of_ble_eq_true rfl) 7 (vs := [some (.ref p0), some (.int p1), some (.long p2), none, none, none, none, none, none, none, none]) rfl (fun C X E hr ht => ?_)
  have t0_ : tT C p0 7 := ht (p0, 7) (by simp)
  unfold f_X8_royaltyFor
  refine s_run X ok_X8_royaltyFor 0 5 (pc' := 6) (vs' := [some (.ref p0), some (.int p1), some (.long p2), none, some (.long 0), none, none, none, none, none, none]) (st' := [.int (p1 * 5)]) rfl ?_
  refine s_nmI (fun v1 => ?_)
  refine s_run X ok_X8_royaltyFor 5 3 (pc' := 11) (vs' := [some (.ref p0), some (.int p1), some (.long p2), none, some (.long 0), none, some (.int v1), none, none, none, none]) (st' := [.ref p0, .int v1]) rfl ?_
  refine s_getR X fl_X8_15 t0_ (dk okd_X8_royaltyFor 0 rfl) (fun a2 (t3 : tT C a2 13) => ?_)
  refine s_run X ok_X8_royaltyFor 8 1 (pc' := 15) (vs' := [some (.ref p0), some (.int p1), some (.long p2), none, some (.long 0), none, some (.int v1), none, none, none, none]) (st' := [.int p1, .ref a2, .int v1]) rfl ?_
  refine s_iald X t3 (dk okd_X8_royaltyFor 1 rfl) (fun v4 => ?_)
  refine s_run X ok_X8_royaltyFor 9 3 (pc' := 19) (vs' := [some (.ref p0), some (.int p1), some (.long p2), none, some (.long 0), none, some (.int v1), none, none, none, none]) (st' := [.int ((v1 + v4) - 1)]) rfl ?_
  refine s_nmI (fun v5 => ?_)
  refine s_run X ok_X8_royaltyFor 12 3 (pc' := 25) (vs' := [some (.ref p0), some (.int p1), some (.long p2), none, some (.long 0), none, some (.int v1), some (.int v5), some (.int v1), none, none]) (st' := []) rfl ?_
  refine s_jn (κ := Int64 → Option (Int64)) (fun k7 => ∀ (x6 : Int64), Jd C 11 (QJ C oL (fun _ => S)) S 101 [none, none, none, none, some (.long x6), none, none, none, none, none, none] [] (k7 x6)) (fun x6 => ?_) (fun k7 h8 => ?_)
  · refine s_run X ok_X8_royaltyFor 44 2 (pc' := 104) (vs' := [none, none, none, none, some (.long x6), none, none, none, none, none, none]) (st' := [.long 1, .long x6]) rfl ?_
    refine s_callN (rest := []) X E mn_X8_61 (c_X11_rateOf S x6 1) (ta0) rfl rfl (Nat.le_of_ble_eq_true rfl) (Nat.le_of_ble_eq_true rfl) (Nat.le_of_ble_eq_true rfl) (dk okd_X8_royaltyFor 14 rfl) (st' := fun v9 => [.long v9]) (fun _ => rfl) (fun v9 => ?_)
    exact s_lret X hr (dk okd_X8_royaltyFor 15 rfl) rfl rfl
  · refine s_less [true, false, true, false, true, false, false, true, true, false, false] (vs' := [some (.ref p0), none, some (.long p2), none, some (.long 0), none, none, some (.int v5), some (.int v1), none, none]) rfl ?_
    refine s_lp (κ := Int64 → Int32 → Option (Int64)) (fun k12 => ∀ (x10 : Int64) (x11 : Int32), Jd C 11 (QJ C oL (fun _ => S)) S 25 [some (.ref p0), none, some (.long p2), none, some (.long x10), none, none, some (.int v5), some (.int x11), none, none] [] (k12 x10 x11)) (fun _ _ => s_none) (fun k12 h13 x10 x11 => ?_) FU 0 v1
    refine s_run X ok_X8_royaltyFor 15 2 (pc' := 29) (vs' := [some (.ref p0), none, some (.long p2), none, some (.long x10), none, none, some (.int v5), some (.int x11), none, none]) (st' := [.int v5, .int x11]) rfl ?_
    refine s_icmp_gt (tgt := 101) X (dk okd_X8_royaltyFor 2 rfl) (by decide) ?_ ?_
    · exact s_less [false, false, false, false, true, false, false, false, false, false, false] rfl (h8 x10)
    · refine s_run X ok_X8_royaltyFor 17 2 (pc' := 36) (vs' := [some (.ref p0), none, some (.long p2), none, some (.long x10), none, none, some (.int v5), some (.int x11), none, none]) (st' := [.int v5, .int x11]) rfl ?_
      refine s_jn (κ := Int64 → Option (Int64)) (fun k15 => ∀ (x14 : Int64), Jd C 11 (QJ C oL (fun _ => S)) S 56 [some (.ref p0), none, some (.long p2), none, some (.long x10), none, none, some (.int v5), some (.int x11), none, none] [.long x14] (k15 x14)) (fun x14 => ?_) (fun k15 h16 => ?_)
      · refine s_run X ok_X8_royaltyFor 26 3 (pc' := 61) (vs' := [some (.ref p0), none, some (.long p2), none, some (.long x10), none, none, some (.int v5), some (.int x11), some (.long x14), none]) (st' := [.ref p0, .long x14]) rfl ?_
        refine s_getR X fl_X8_18 t0_ (dk okd_X8_royaltyFor 7 rfl) (fun a17 (t18 : tT C a17 14) => ?_)
        refine s_run X ok_X8_royaltyFor 29 1 (pc' := 66) (vs' := [some (.ref p0), none, some (.long p2), none, some (.long x10), none, none, some (.int v5), some (.int x11), some (.long x14), none]) (st' := [.int x11, .ref a17, .long x14]) rfl ?_
        refine s_lald X t18 (dk okd_X8_royaltyFor 8 rfl) (fun v19 => ?_)
        refine s_run X ok_X8_royaltyFor 30 1 (pc' := 68) (vs' := [some (.ref p0), none, some (.long p2), none, some (.long x10), none, none, some (.int v5), some (.int x11), some (.long x14), none]) (st' := [.int (lg_cmp x14 v19)]) rfl ?_
        refine s_jn (κ := Int64 → Option (Int64)) (fun k21 => ∀ (x20 : Int64), Jd C 11 (QJ C oL (fun _ => S)) S 95 [some (.ref p0), none, some (.long p2), none, some (.long x20), none, none, some (.int v5), some (.int x11), none, none] [] (k21 x20)) (fun x20 => ?_) (fun k21 h22 => ?_)
        · refine s_run X ok_X8_royaltyFor 42 2 (pc' := 25) (vs' := [some (.ref p0), none, some (.long p2), none, some (.long x20), none, none, some (.int v5), some (.int (x11 + 1)), none, none]) (st' := []) rfl ?_
          exact h13 x20 (x11 + 1)
        · refine s_lif_le (tgt := 95) X (dk okd_X8_royaltyFor 9 rfl) (by decide) ?_ ?_
          · exact s_less [true, false, true, false, true, false, false, true, true, false, false] rfl (h22 x10)
          · refine s_run X ok_X8_royaltyFor 31 3 (pc' := 76) (vs' := [some (.ref p0), none, some (.long p2), none, some (.long x10), none, none, some (.int v5), some (.int x11), some (.long x14), none]) (st' := [.ref p0, .long x14, .long x10]) rfl ?_
            refine s_getR X fl_X8_18 t0_ (dk okd_X8_royaltyFor 10 rfl) (fun a23 (t24 : tT C a23 14) => ?_)
            refine s_run X ok_X8_royaltyFor 34 1 (pc' := 81) (vs' := [some (.ref p0), none, some (.long p2), none, some (.long x10), none, none, some (.int v5), some (.int x11), some (.long x14), none]) (st' := [.int x11, .ref a23, .long x14, .long x10]) rfl ?_
            refine s_lald X t24 (dk okd_X8_royaltyFor 11 rfl) (fun v25 => ?_)
            refine s_run X ok_X8_royaltyFor 35 2 (pc' := 84) (vs' := [some (.ref p0), none, some (.long p2), none, some (.long x10), none, none, some (.int v5), some (.int x11), some (.long x14), none]) (st' := [.ref p0, .long (x14 - v25), .long x10]) rfl ?_
            refine s_getR X fl_X8_22 t0_ (dk okd_X8_royaltyFor 12 rfl) (fun a26 (t27 : tT C a26 13) => ?_)
            refine s_run X ok_X8_royaltyFor 37 1 (pc' := 89) (vs' := [some (.ref p0), none, some (.long p2), none, some (.long x10), none, none, some (.int v5), some (.int x11), some (.long x14), none]) (st' := [.int x11, .ref a26, .long (x14 - v25), .long x10]) rfl ?_
            refine s_iald X t27 (dk okd_X8_royaltyFor 13 rfl) (fun v28 => ?_)
            refine s_run X ok_X8_royaltyFor 38 3 (pc' := 93) (vs' := [some (.ref p0), none, some (.long p2), none, some (.long x10), none, none, some (.int v5), some (.int x11), some (.long x14), none]) (st' := [.long (x10 + ((x14 - v25) * (Int32.toInt64 v28)))]) rfl ?_
            refine s_nmJ (fun v29 => ?_)
            refine s_run X ok_X8_royaltyFor 41 1 (pc' := 95) (vs' := [some (.ref p0), none, some (.long p2), none, some (.long v29), none, none, some (.int v5), some (.int x11), some (.long x14), none]) (st' := []) rfl ?_
            exact s_less [true, false, true, false, true, false, false, true, true, false, false] rfl (h22 v29)
      · refine s_icmp_ge (tgt := 55) X (dk okd_X8_royaltyFor 3 rfl) (by decide) ?_ ?_
        · refine s_run X ok_X8_royaltyFor 25 1 (pc' := 56) (vs' := [some (.ref p0), none, some (.long p2), none, some (.long x10), none, none, some (.int v5), some (.int x11), none, none]) (st' := [.long p2]) rfl ?_
          exact h16 p2
        · refine s_run X ok_X8_royaltyFor 19 2 (pc' := 41) (vs' := [some (.ref p0), none, some (.long p2), none, some (.long x10), none, none, some (.int v5), some (.int x11), none, none]) (st' := [.ref p0, .long p2]) rfl ?_
          refine s_getR X fl_X8_18 t0_ (dk okd_X8_royaltyFor 4 rfl) (fun a30 (t31 : tT C a30 14) => ?_)
          refine s_run X ok_X8_royaltyFor 21 3 (pc' := 48) (vs' := [some (.ref p0), none, some (.long p2), none, some (.long x10), none, none, some (.int v5), some (.int x11), none, none]) (st' := [.int (x11 + 1), .ref a30, .long p2]) rfl ?_
          refine s_lald X t31 (dk okd_X8_royaltyFor 5 rfl) (fun v32 => ?_)
          refine s_callS (rest := []) X E ms_X8_55 (c_J9_min_f86c9 S p2 v32) (ta0) rfl rfl (Nat.le_of_ble_eq_true rfl) (Nat.le_of_ble_eq_true rfl) (Nat.le_of_ble_eq_true rfl) (dk okd_X8_royaltyFor 6 rfl) (st' := fun v33 => [.long v33]) (fun _ => rfl) (fun v33 => ?_)
          refine s_run X ok_X8_royaltyFor 24 1 (pc' := 56) (vs' := [some (.ref p0), none, some (.long p2), none, some (.long x10), none, none, some (.int v5), some (.int x11), none, none]) (st' := [.long v33]) rfl ?_
          exact h16 v33
def tab_X8_contributionFor : List En := [(0, 6, 2, 0), (1, 8, 0, 0), (5, 4, 1, 0), (7, 31, 0, 0)]
theorem ok_X8_contributionFor : tab_X8_contributionFor.all (okE cX8_contributionFor) = true := by decide +kernel
def ed_X8_contributionFor : List (Nat × Instr × Nat) := [(2, .getfield 9, 3), (6, .iaload, 1), (8, .invokestatic 61, 3), (11, .lreturn, 1)]
theorem okd_X8_contributionFor : ed_X8_contributionFor.all (okD cX8_contributionFor) = true := by decide +kernel
def f_X8_contributionFor (S : St) (p0 : Nat) (p1 : Int32) (p2 : Int64) : Option (Int64) := lt (gR S p0 0) fun (a1 : Nat) => ldI S a1 p1 fun (v3 : Int32) => cl (f_X11_rateOf S p2 (Int32.toInt64 v3)) fun (v4 : Int64) => some v4
set_option maxHeartbeats 4000000 in
set_option maxRecDepth 100000 in
theorem c_X8_contributionFor (S : St) (p0 : Nat) (p1 : Int32) (p2 : Int64) : Ct yX8_contributionFor cX8_contributionFor 4 (some .long) 1 23 [.ref p0, .int p1, .long p2] [(p0, 7)] S (f_X8_contributionFor S p0 p1 p2) oL (fun _ => S) := by
  refine Ct_of RX8 rfl (by decide) (Nat.le_of_ble_eq_true rfl) 0 (vs := [some (.ref p0), some (.int p1), some (.long p2), none]) rfl (fun C X E hr ht => ?_)
  have t0_ : tT C p0 7 := ht (p0, 7) (by simp)
  unfold f_X8_contributionFor
  refine s_run X ok_X8_contributionFor 0 2 (pc' := 2) (vs' := [some (.ref p0), some (.int p1), some (.long p2), none]) (st' := [.ref p0, .long p2]) rfl ?_
  refine s_getR X fl_X8_9 t0_ (dk okd_X8_contributionFor 0 rfl) (fun a1 (t2 : tT C a1 13) => ?_)
  refine s_run X ok_X8_contributionFor 2 1 (pc' := 6) (vs' := [some (.ref p0), some (.int p1), some (.long p2), none]) (st' := [.int p1, .ref a1, .long p2]) rfl ?_
  refine s_iald X t2 (dk okd_X8_contributionFor 1 rfl) (fun v3 => ?_)
  refine s_run X ok_X8_contributionFor 3 1 (pc' := 8) (vs' := [some (.ref p0), some (.int p1), some (.long p2), none]) (st' := [.long (Int32.toInt64 v3), .long p2]) rfl ?_
  refine s_callN (rest := []) X E mn_X8_61 (c_X11_rateOf S p2 (Int32.toInt64 v3)) (ta0) rfl rfl (Nat.le_of_ble_eq_true rfl) (Nat.le_of_ble_eq_true rfl) (Nat.le_of_ble_eq_true rfl) (dk okd_X8_contributionFor 2 rfl) (st' := fun v4 => [.long v4]) (fun _ => rfl) (fun v4 => ?_)
  exact s_lret X hr (dk okd_X8_contributionFor 3 rfl) rfl rfl
def tab_X8_cheapestFor : List En := [(0, 0, 0, 0), (1, 10, 3, 0), (5, 13, 4, 0), (7, 0, 0, 0), (8, 11, 6, 0), (10, 5, 6, 0), (12, 8, 0, 0), (19, 8, 0, 0), (20, 5, 6, 0), (22, 6, 1, 0), (26, 8, 0, 0), (27, 5, 6, 0), (29, 6, 1, 0), (33, 23, 0, 0), (34, 13, 7, 0), (36, 7, 7, 0), (38, 7, 4, 0), (40, 40, 0, 0), (44, 7, 7, 0), (46, 13, 4, 0), (48, 5, 6, 0), (50, 10, 3, 0), (51, 16, 6, 1), (54, 41, 10, 0), (57, 4, 3, 0)]
theorem ok_X8_cheapestFor : tab_X8_cheapestFor.all (okE cX8_cheapestFor) = true := by decide +kernel
def ed_X8_cheapestFor : List (Nat × Instr × Nat) := [(2, .ldc2_w 66, 3), (13, .getfield 25, 3), (16, .if_icmp .ge 41, 3), (23, .invokevirtual 68, 3), (30, .invokevirtual 72, 3), (41, .ifCond .ge 10, 3), (58, .ireturn, 1)]
theorem okd_X8_cheapestFor : ed_X8_cheapestFor.all (okD cX8_cheapestFor) = true := by decide +kernel
def f_X8_cheapestFor (S : St) (p0 : Nat) (p1 : Int64) : Option (Int32) := jn (κ := Int32 → Option (Int32)) (fun x1 => some x1) fun k2 => lp (κ := Int32 → Int64 → Int32 → Option (Int32)) (fun _ _ _ => none) (fun k7 x4 x5 x6 => lt (gI S p0 4) fun (v9 : Int32) => if v9 ≤ x6 then (k2 x4) else (cl (f_X8_royaltyFor S p0 x6 p1) fun (v10 : Int64) => cl (f_X8_contributionFor S p0 x6 p1) fun (v11 : Int64) => lt (v10 + v11) fun (v12 : Int64) => jn (κ := Int32 → Int64 → Option (Int32)) (fun x13 x14 => k7 x13 x14 (x6 + 1)) fun k15 => if x5 ≤ v12 then (k15 x4 x5) else (k15 x6 v12))) FU 0 9223372036854775807 0
set_option maxHeartbeats 4000000 in
set_option maxRecDepth 100000 in
theorem c_X8_cheapestFor (S : St) (p0 : Nat) (p1 : Int64) : Ct yX8_cheapestFor cX8_cheapestFor 9 (some .int) 2 53 [.ref p0, .long p1] [(p0, 7)] S (f_X8_cheapestFor S p0 p1) oI (fun _ => S) := by
  refine Ct_of RX8 rfl (by decide) (Nat.le_of_ble_eq_true rfl) 6 (vs := [some (.ref p0), some (.long p1), none, none, none, none, none, none, none]) rfl (fun C X E hr ht => ?_)
  have t0_ : tT C p0 7 := ht (p0, 7) (by simp)
  unfold f_X8_cheapestFor
  refine s_run X ok_X8_cheapestFor 0 2 (pc' := 2) (vs' := [some (.ref p0), some (.long p1), none, some (.int 0), none, none, none, none, none]) (st' := []) rfl ?_
  refine s_ldc2 X cl_X8_66 (dk okd_X8_cheapestFor 0 rfl) ?_
  refine s_run X ok_X8_cheapestFor 2 3 (pc' := 10) (vs' := [some (.ref p0), some (.long p1), none, some (.int 0), some (.long 9223372036854775807), none, some (.int 0), none, none]) (st' := []) rfl ?_
  refine s_jn (κ := Int32 → Option (Int32)) (fun k2 => ∀ (x1 : Int32), Jd C 9 (QJ C oI (fun _ => S)) S 57 [none, none, none, some (.int x1), none, none, none, none, none] [] (k2 x1)) (fun x1 => ?_) (fun k2 h3 => ?_)
  · refine s_run X ok_X8_cheapestFor 24 1 (pc' := 58) (vs' := [none, none, none, some (.int x1), none, none, none, none, none]) (st' := [.int x1]) rfl ?_
    exact s_iret X hr (dk okd_X8_cheapestFor 6 rfl) rfl rfl
  · refine s_lp (κ := Int32 → Int64 → Int32 → Option (Int32)) (fun k7 => ∀ (x4 : Int32) (x5 : Int64) (x6 : Int32), Jd C 9 (QJ C oI (fun _ => S)) S 10 [some (.ref p0), some (.long p1), none, some (.int x4), some (.long x5), none, some (.int x6), none, none] [] (k7 x4 x5 x6)) (fun _ _ _ => s_none) (fun k7 h8 x4 x5 x6 => ?_) FU 0 9223372036854775807 0
    refine s_run X ok_X8_cheapestFor 5 2 (pc' := 13) (vs' := [some (.ref p0), some (.long p1), none, some (.int x4), some (.long x5), none, some (.int x6), none, none]) (st' := [.ref p0, .int x6]) rfl ?_
    refine s_getI X fl_X8_25 t0_ (dk okd_X8_cheapestFor 1 rfl) (fun v9 => ?_)
    refine s_icmp_ge (tgt := 57) X (dk okd_X8_cheapestFor 2 rfl) (by decide) ?_ ?_
    · exact s_less [false, false, false, true, false, false, false, false, false] rfl (h3 x4)
    · refine s_run X ok_X8_cheapestFor 7 3 (pc' := 23) (vs' := [some (.ref p0), some (.long p1), none, some (.int x4), some (.long x5), none, some (.int x6), none, none]) (st' := [.long p1, .int x6, .ref p0]) rfl ?_
      refine s_callV (rest := []) X E mv_X8_68 (c_X8_royaltyFor S p0 x6 p1) (ta1 t0_) rfl (by decide) t0_ rfl rfl (Nat.le_of_ble_eq_true rfl) (Nat.le_of_ble_eq_true rfl) (Nat.le_of_ble_eq_true rfl) (dk okd_X8_cheapestFor 3 rfl) (st' := fun v10 => [.long v10]) (fun _ => rfl) (fun v10 => ?_)
      refine s_run X ok_X8_cheapestFor 10 3 (pc' := 30) (vs' := [some (.ref p0), some (.long p1), none, some (.int x4), some (.long x5), none, some (.int x6), none, none]) (st' := [.long p1, .int x6, .ref p0, .long v10]) rfl ?_
      refine s_callV (rest := [.long v10]) X E mv_X8_72 (c_X8_contributionFor S p0 x6 p1) (ta1 t0_) rfl (by decide) t0_ rfl rfl (Nat.le_of_ble_eq_true rfl) (Nat.le_of_ble_eq_true rfl) (Nat.le_of_ble_eq_true rfl) (dk okd_X8_cheapestFor 4 rfl) (st' := fun v11 => [.long v11, .long v10]) (fun _ => rfl) (fun v11 => ?_)
      refine s_run X ok_X8_cheapestFor 13 1 (pc' := 34) (vs' := [some (.ref p0), some (.long p1), none, some (.int x4), some (.long x5), none, some (.int x6), none, none]) (st' := [.long (v10 + v11)]) rfl ?_
      refine s_nmJ (fun v12 => ?_)
      refine s_run X ok_X8_cheapestFor 14 4 (pc' := 41) (vs' := [some (.ref p0), some (.long p1), none, some (.int x4), some (.long x5), none, some (.int x6), some (.long v12), none]) (st' := [.int (lg_cmp v12 x5)]) rfl ?_
      refine s_jn (κ := Int32 → Int64 → Option (Int32)) (fun k15 => ∀ (x13 : Int32) (x14 : Int64), Jd C 9 (QJ C oI (fun _ => S)) S 51 [some (.ref p0), some (.long p1), none, some (.int x13), some (.long x14), none, some (.int x6), none, none] [] (k15 x13 x14)) (fun x13 x14 => ?_) (fun k15 h16 => ?_)
      · refine s_run X ok_X8_cheapestFor 22 2 (pc' := 10) (vs' := [some (.ref p0), some (.long p1), none, some (.int x13), some (.long x14), none, some (.int (x6 + 1)), none, none]) (st' := []) rfl ?_
        exact h8 x13 x14 (x6 + 1)
      · refine s_lif_ge (tgt := 51) X (dk okd_X8_cheapestFor 5 rfl) (by decide) ?_ ?_
        · exact s_less [true, true, false, true, true, false, true, false, false] rfl (h16 x4 x5)
        · refine s_run X ok_X8_cheapestFor 18 4 (pc' := 51) (vs' := [some (.ref p0), some (.long p1), none, some (.int x6), some (.long v12), none, some (.int x6), some (.long v12), none]) (st' := []) rfl ?_
          exact s_less [true, true, false, true, true, false, true, false, false] rfl (h16 x6 v12)
def tab_X10_clear : List En := [(0, 8, 0, 0), (4, 0, 0, 0)]
theorem ok_X10_clear : tab_X10_clear.all (okE cX10_clear) = true := by decide +kernel
def ed_X10_clear : List (Nat × Instr × Nat) := [(1, .getfield 9, 3), (5, .invokestatic 31, 3), (8, .return_, 1)]
theorem okd_X10_clear : ed_X10_clear.all (okD cX10_clear) = true := by decide +kernel
def f_X10_clear (S : St) (p0 : Nat) : Option (St) := lt (gR S p0 0) fun (a1 : Nat) => cl (f_J7_fill_53178 S a1 0) fun (S3 : St) => some S3
set_option maxHeartbeats 4000000 in
set_option maxRecDepth 100000 in
theorem c_X10_clear (S : St) (p0 : Nat) : Ct yX10_clear cX10_clear 1 none 1 23 [.ref p0] [(p0, 9)] S (f_X10_clear S p0) oV sV := by
  refine Ct_of RX10 rfl (by decide) (Nat.le_of_ble_eq_true rfl) 0 (vs := [some (.ref p0)]) rfl (fun C X E hr ht => ?_)
  have t0_ : tT C p0 9 := ht (p0, 9) (by simp)
  unfold f_X10_clear
  refine s_run X ok_X10_clear 0 1 (pc' := 1) (vs' := [some (.ref p0)]) (st' := [.ref p0]) rfl ?_
  refine s_getR X fl_X10_9 t0_ (dk okd_X10_clear 0 rfl) (fun a1 (t2 : tT C a1 13) => ?_)
  refine s_run X ok_X10_clear 1 1 (pc' := 5) (vs' := [some (.ref p0)]) (st' := [.int 0, .ref a1]) rfl ?_
  refine s_callS (rest := []) X E ms_X10_31 (c_J7_fill_53178 S a1 0) (ta1 t2) rfl rfl (Nat.le_of_ble_eq_true rfl) (Nat.le_of_ble_eq_true rfl) (Nat.le_of_ble_eq_true rfl) (dk okd_X10_clear 1 rfl) (st' := fun S3 => []) (fun _ => rfl) (fun S3 => ?_)
  exact s_vret X hr (dk okd_X10_clear 2 rfl) rfl rfl
def tab_X11_find : List En := [(0, 8, 0, 0), (7, 8, 0, 0), (14, 0, 0, 0), (15, 8, 0, 0), (25, 10, 1, 0), (26, 8, 0, 0), (30, 0, 0, 0), (34, 4, 1, 0)]
theorem ok_X11_find : tab_X11_find.all (okE cX11_find) = true := by decide +kernel
def ed_X11_find : List (Nat × Instr × Nat) := [(1, .getfield 41, 3), (4, .getfield 85, 3), (8, .getfield 12, 3), (11, .getfield 89, 3), (16, .getfield 12, 3), (19, .getfield 68, 3), (22, .invokevirtual 93, 3), (27, .getfield 12, 3), (31, .putfield 68, 3), (35, .ireturn, 1)]
theorem okd_X11_find : ed_X11_find.all (okD cX11_find) = true := by decide +kernel
def f_X11_find (S : St) (p0 : Nat) : Option (Int32 × St) := lt (gR S p0 5) fun (a1 : Nat) => lt (gR S a1 3) fun (a3 : Nat) => lt (gR S p0 0) fun (a5 : Nat) => lt (gR S a5 0) fun (a7 : Nat) => lt (gR S p0 0) fun (a9 : Nat) => lt (gI S a9 1) fun (v11 : Int32) => cl (f_X2_named S a3 a7 0 v11) fun (v12 : Int32) => lt (gR S p0 0) fun (a13 : Nat) => lt (uI S a13 1 0) fun (S15 : St) => some (v12, S15)
set_option maxHeartbeats 4000000 in
set_option maxRecDepth 100000 in
theorem c_X11_find (S : St) (p0 : Nat) : Ct yX11_find cX11_find 2 (some .int) 2 49 [.ref p0] [(p0, 10)] S (f_X11_find S p0) oIS sS := by
  refine Ct_of RX11 rfl (by decide) (Nat.le_of_ble_eq_true rfl) 1 (vs := [some (.ref p0), none]) rfl (fun C X E hr ht => ?_)
  have t0_ : tT C p0 10 := ht (p0, 10) (by simp)
  unfold f_X11_find
  refine s_run X ok_X11_find 0 1 (pc' := 1) (vs' := [some (.ref p0), none]) (st' := [.ref p0]) rfl ?_
  refine s_getR X fl_X11_41 t0_ (dk okd_X11_find 0 rfl) (fun a1 (t2 : tT C a1 1) => ?_)
  refine s_getR X fl_X11_85 t2 (dk okd_X11_find 1 rfl) (fun a3 (t4 : tT C a3 2) => ?_)
  refine s_run X ok_X11_find 1 1 (pc' := 8) (vs' := [some (.ref p0), none]) (st' := [.ref p0, .ref a3]) rfl ?_
  refine s_getR X fl_X11_12 t0_ (dk okd_X11_find 2 rfl) (fun a5 (t6 : tT C a5 8) => ?_)
  refine s_getR X fl_X11_89 t6 (dk okd_X11_find 3 rfl) (fun a7 (t8 : tT C a7 12) => ?_)
  refine s_run X ok_X11_find 2 2 (pc' := 16) (vs' := [some (.ref p0), none]) (st' := [.ref p0, .int 0, .ref a7, .ref a3]) rfl ?_
  refine s_getR X fl_X11_12 t0_ (dk okd_X11_find 4 rfl) (fun a9 (t10 : tT C a9 8) => ?_)
  refine s_getI X fl_X11_68 t10 (dk okd_X11_find 5 rfl) (fun v11 => ?_)
  refine s_callV (rest := []) X E mv_X11_93 (c_X2_named S a3 a7 0 v11) (ta2 t4 t8) rfl (by decide) t4 rfl rfl (Nat.le_of_ble_eq_true rfl) (Nat.le_of_ble_eq_true rfl) (Nat.le_of_ble_eq_true rfl) (dk okd_X11_find 6 rfl) (st' := fun v12 => [.int v12]) (fun _ => rfl) (fun v12 => ?_)
  refine s_run X ok_X11_find 4 2 (pc' := 27) (vs' := [some (.ref p0), some (.int v12)]) (st' := [.ref p0]) rfl ?_
  refine s_getR X fl_X11_12 t0_ (dk okd_X11_find 7 rfl) (fun a13 (t14 : tT C a13 8) => ?_)
  refine s_run X ok_X11_find 6 1 (pc' := 31) (vs' := [some (.ref p0), some (.int v12)]) (st' := [.int 0, .ref a13]) rfl ?_
  refine s_putI X fp_X11_68 t14 (dk okd_X11_find 8 rfl) (fun S15 => ?_)
  refine s_run X ok_X11_find 7 1 (pc' := 35) (vs' := [some (.ref p0), some (.int v12)]) (st' := [.int v12]) rfl ?_
  exact s_iret X hr (dk okd_X11_find 9 rfl) rfl rfl
def tab_X11_totalOwed : List En := [(0, 8, 0, 0)]
theorem ok_X11_totalOwed : tab_X11_totalOwed.all (okE cX11_totalOwed) = true := by decide +kernel
def ed_X11_totalOwed : List (Nat × Instr × Nat) := [(1, .getfield 41, 3), (4, .getfield 85, 3), (7, .invokevirtual 300, 3), (10, .lreturn, 1)]
theorem okd_X11_totalOwed : ed_X11_totalOwed.all (okD cX11_totalOwed) = true := by decide +kernel
def f_X11_totalOwed (S : St) (p0 : Nat) : Option (Int64) := lt (gR S p0 5) fun (a1 : Nat) => lt (gR S a1 3) fun (a3 : Nat) => cl (f_X2_owedTogether S a3) fun (v5 : Int64) => some v5
set_option maxHeartbeats 4000000 in
set_option maxRecDepth 100000 in
theorem c_X11_totalOwed (S : St) (p0 : Nat) : Ct yX11_totalOwed cX11_totalOwed 1 (some .long) 3 67 [.ref p0] [(p0, 10)] S (f_X11_totalOwed S p0) oL (fun _ => S) := by
  refine Ct_of RX11 rfl (by decide) (Nat.le_of_ble_eq_true rfl) 0 (vs := [some (.ref p0)]) rfl (fun C X E hr ht => ?_)
  have t0_ : tT C p0 10 := ht (p0, 10) (by simp)
  unfold f_X11_totalOwed
  refine s_run X ok_X11_totalOwed 0 1 (pc' := 1) (vs' := [some (.ref p0)]) (st' := [.ref p0]) rfl ?_
  refine s_getR X fl_X11_41 t0_ (dk okd_X11_totalOwed 0 rfl) (fun a1 (t2 : tT C a1 1) => ?_)
  refine s_getR X fl_X11_85 t2 (dk okd_X11_totalOwed 1 rfl) (fun a3 (t4 : tT C a3 2) => ?_)
  refine s_callV (rest := []) X E mv_X11_300 (c_X2_owedTogether S a3) (ta1 t4) rfl (by decide) t4 rfl rfl (Nat.le_of_ble_eq_true rfl) (Nat.le_of_ble_eq_true rfl) (Nat.le_of_ble_eq_true rfl) (dk okd_X11_totalOwed 2 rfl) (st' := fun v5 => [.long v5]) (fun _ => rfl) (fun v5 => ?_)
  exact s_lret X hr (dk okd_X11_totalOwed 3 rfl) rfl rfl
def tab_X12_partName : List En := [(0, 4, 0, 0), (40, 1, 0, 114), (42, 1, 0, 111), (44, 1, 0, 121), (46, 1, 0, 97), (48, 1, 0, 108), (56, 25, 0, 0), (57, 1, 0, 116), (59, 1, 0, 121), (61, 0, 0, 0), (62, 0, 0, 0), (63, 0, 0, 0), (67, 23, 0, 0), (69, 1, 0, 97), (71, 1, 0, 100), (73, 0, 0, 0), (74, 0, 0, 0), (75, 0, 0, 0), (80, 1, 0, 105), (82, 1, 0, 110), (84, 1, 0, 116), (86, 1, 0, 101), (88, 1, 0, 114), (96, 25, 0, 0), (97, 1, 0, 101), (99, 1, 0, 115), (101, 1, 0, 116), (103, 0, 0, 0), (104, 0, 0, 0), (108, 23, 0, 0), (110, 1, 0, 112), (112, 1, 0, 97), (114, 1, 0, 105), (116, 1, 0, 100), (118, 0, 0, 0), (123, 1, 0, 114), (125, 1, 0, 101), (127, 1, 0, 99), (129, 1, 0, 101), (131, 1, 0, 105), (139, 25, 0, 0), (140, 1, 0, 118), (142, 1, 0, 101), (144, 1, 0, 100), (146, 0, 0, 0), (147, 0, 0, 0), (151, 23, 0, 0), (153, 1, 0, 100), (155, 1, 0, 117), (157, 1, 0, 101), (159, 0, 0, 0), (160, 0, 0, 0), (165, 1, 0, 98), (167, 1, 0, 97), (169, 1, 0, 108), (171, 1, 0, 97), (173, 1, 0, 110), (181, 25, 0, 0), (182, 1, 0, 99), (184, 1, 0, 101), (186, 0, 0, 0), (187, 0, 0, 0), (188, 0, 0, 0), (192, 23, 0, 0)]
theorem ok_X12_partName : tab_X12_partName.all (okE cX12_partName) = true := by decide +kernel
def ed_X12_partName : List (Nat × Instr × Nat) := [(1, .tableswitch 164 0 5 #[39, 68, 79, 109, 122, 152], 39), (50, .invokestatic 278, 3), (53, .ldc2_w 282, 3), (64, .invokestatic 278, 3), (68, .lreturn, 1), (76, .invokestatic 278, 3), (79, .lreturn, 1), (90, .invokestatic 278, 3), (93, .ldc2_w 284, 3), (105, .invokestatic 278, 3), (109, .lreturn, 1), (119, .invokestatic 278, 3), (122, .lreturn, 1), (133, .invokestatic 278, 3), (136, .ldc2_w 284, 3), (148, .invokestatic 278, 3), (152, .lreturn, 1), (161, .invokestatic 278, 3), (164, .lreturn, 1), (175, .invokestatic 278, 3), (178, .ldc2_w 282, 3), (189, .invokestatic 278, 3), (193, .lreturn, 1)]
theorem okd_X12_partName : ed_X12_partName.all (okD cX12_partName) = true := by decide +kernel
def f_X12_partName (S : St) (p0 : Int32) : Option (Int64) := if p0 = 0 then (cl (f_X12_pack S 114 111 121 97 108) fun (v1 : Int64) => cl (f_X12_pack S 116 121 0 0 0) fun (v2 : Int64) => some ((v1 * 1024) + v2)) else (if p0 = 1 then (cl (f_X12_pack S 97 100 0 0 0) fun (v3 : Int64) => some v3) else (if p0 = 2 then (cl (f_X12_pack S 105 110 116 101 114) fun (v4 : Int64) => cl (f_X12_pack S 101 115 116 0 0) fun (v5 : Int64) => some ((v4 * 32768) + v5)) else (if p0 = 3 then (cl (f_X12_pack S 112 97 105 100 0) fun (v6 : Int64) => some v6) else (if p0 = 4 then (cl (f_X12_pack S 114 101 99 101 105) fun (v7 : Int64) => cl (f_X12_pack S 118 101 100 0 0) fun (v8 : Int64) => some ((v7 * 32768) + v8)) else (if p0 = 5 then (cl (f_X12_pack S 100 117 101 0 0) fun (v9 : Int64) => some v9) else (cl (f_X12_pack S 98 97 108 97 110) fun (v10 : Int64) => cl (f_X12_pack S 99 101 0 0 0) fun (v11 : Int64) => some ((v10 * 1024) + v11)))))))
set_option maxHeartbeats 4000000 in
set_option maxRecDepth 100000 in
theorem c_X12_partName (S : St) (p0 : Int32) : Ct yX12_partName cX12_partName 1 (some .long) 1 26 [.int p0] [] S (f_X12_partName S p0) oL (fun _ => S) := by
  refine Ct_of RX12 rfl (by decide) (Nat.le_of_ble_eq_true rfl) 0 (vs := [some (.int p0)]) rfl (fun C X E hr ht => ?_)
  unfold f_X12_partName
  refine s_run X ok_X12_partName 0 1 (pc' := 1) (vs' := [some (.int p0)]) (st' := [.int p0]) rfl ?_
  refine s_tabc (c := 0) (tgt := 40) X (dk okd_X12_partName 0 rfl) (by decide) (by decide) rfl (by decide) ?_ (fun n0 => ?_)
  · refine s_run X ok_X12_partName 1 5 (pc' := 50) (vs' := [some (.int p0)]) (st' := [.int 108, .int 97, .int 121, .int 111, .int 114]) rfl ?_
    refine s_callS (rest := []) X E ms_X12_278 (c_X12_pack S 114 111 121 97 108) (ta0) rfl rfl (Nat.le_of_ble_eq_true rfl) (Nat.le_of_ble_eq_true rfl) (Nat.le_of_ble_eq_true rfl) (dk okd_X12_partName 1 rfl) (st' := fun v1 => [.long v1]) (fun _ => rfl) (fun v1 => ?_)
    refine s_ldc2 X cl_X12_282 (dk okd_X12_partName 2 rfl) ?_
    refine s_run X ok_X12_partName 6 6 (pc' := 64) (vs' := [some (.int p0)]) (st' := [.int 0, .int 0, .int 0, .int 121, .int 116, .long (v1 * 1024)]) rfl ?_
    refine s_callS (rest := [.long (v1 * 1024)]) X E ms_X12_278 (c_X12_pack S 116 121 0 0 0) (ta0) rfl rfl (Nat.le_of_ble_eq_true rfl) (Nat.le_of_ble_eq_true rfl) (Nat.le_of_ble_eq_true rfl) (dk okd_X12_partName 3 rfl) (st' := fun v2 => [.long v2, .long (v1 * 1024)]) (fun _ => rfl) (fun v2 => ?_)
    refine s_run X ok_X12_partName 12 1 (pc' := 68) (vs' := [some (.int p0)]) (st' := [.long ((v1 * 1024) + v2)]) rfl ?_
    exact s_lret X hr (dk okd_X12_partName 4 rfl) rfl rfl
  refine s_tabc (c := 1) (tgt := 69) X (dk okd_X12_partName 0 rfl) (by decide) (by decide) rfl (by decide) ?_ (fun n1 => ?_)
  · refine s_run X ok_X12_partName 13 5 (pc' := 76) (vs' := [some (.int p0)]) (st' := [.int 0, .int 0, .int 0, .int 100, .int 97]) rfl ?_
    refine s_callS (rest := []) X E ms_X12_278 (c_X12_pack S 97 100 0 0 0) (ta0) rfl rfl (Nat.le_of_ble_eq_true rfl) (Nat.le_of_ble_eq_true rfl) (Nat.le_of_ble_eq_true rfl) (dk okd_X12_partName 5 rfl) (st' := fun v3 => [.long v3]) (fun _ => rfl) (fun v3 => ?_)
    exact s_lret X hr (dk okd_X12_partName 6 rfl) rfl rfl
  refine s_tabc (c := 2) (tgt := 80) X (dk okd_X12_partName 0 rfl) (by decide) (by decide) rfl (by decide) ?_ (fun n2 => ?_)
  · refine s_run X ok_X12_partName 18 5 (pc' := 90) (vs' := [some (.int p0)]) (st' := [.int 114, .int 101, .int 116, .int 110, .int 105]) rfl ?_
    refine s_callS (rest := []) X E ms_X12_278 (c_X12_pack S 105 110 116 101 114) (ta0) rfl rfl (Nat.le_of_ble_eq_true rfl) (Nat.le_of_ble_eq_true rfl) (Nat.le_of_ble_eq_true rfl) (dk okd_X12_partName 7 rfl) (st' := fun v4 => [.long v4]) (fun _ => rfl) (fun v4 => ?_)
    refine s_ldc2 X cl_X12_284 (dk okd_X12_partName 8 rfl) ?_
    refine s_run X ok_X12_partName 23 6 (pc' := 105) (vs' := [some (.int p0)]) (st' := [.int 0, .int 0, .int 116, .int 115, .int 101, .long (v4 * 32768)]) rfl ?_
    refine s_callS (rest := [.long (v4 * 32768)]) X E ms_X12_278 (c_X12_pack S 101 115 116 0 0) (ta0) rfl rfl (Nat.le_of_ble_eq_true rfl) (Nat.le_of_ble_eq_true rfl) (Nat.le_of_ble_eq_true rfl) (dk okd_X12_partName 9 rfl) (st' := fun v5 => [.long v5, .long (v4 * 32768)]) (fun _ => rfl) (fun v5 => ?_)
    refine s_run X ok_X12_partName 29 1 (pc' := 109) (vs' := [some (.int p0)]) (st' := [.long ((v4 * 32768) + v5)]) rfl ?_
    exact s_lret X hr (dk okd_X12_partName 10 rfl) rfl rfl
  refine s_tabc (c := 3) (tgt := 110) X (dk okd_X12_partName 0 rfl) (by decide) (by decide) rfl (by decide) ?_ (fun n3 => ?_)
  · refine s_run X ok_X12_partName 30 5 (pc' := 119) (vs' := [some (.int p0)]) (st' := [.int 0, .int 100, .int 105, .int 97, .int 112]) rfl ?_
    refine s_callS (rest := []) X E ms_X12_278 (c_X12_pack S 112 97 105 100 0) (ta0) rfl rfl (Nat.le_of_ble_eq_true rfl) (Nat.le_of_ble_eq_true rfl) (Nat.le_of_ble_eq_true rfl) (dk okd_X12_partName 11 rfl) (st' := fun v6 => [.long v6]) (fun _ => rfl) (fun v6 => ?_)
    exact s_lret X hr (dk okd_X12_partName 12 rfl) rfl rfl
  refine s_tabc (c := 4) (tgt := 123) X (dk okd_X12_partName 0 rfl) (by decide) (by decide) rfl (by decide) ?_ (fun n4 => ?_)
  · refine s_run X ok_X12_partName 35 5 (pc' := 133) (vs' := [some (.int p0)]) (st' := [.int 105, .int 101, .int 99, .int 101, .int 114]) rfl ?_
    refine s_callS (rest := []) X E ms_X12_278 (c_X12_pack S 114 101 99 101 105) (ta0) rfl rfl (Nat.le_of_ble_eq_true rfl) (Nat.le_of_ble_eq_true rfl) (Nat.le_of_ble_eq_true rfl) (dk okd_X12_partName 13 rfl) (st' := fun v7 => [.long v7]) (fun _ => rfl) (fun v7 => ?_)
    refine s_ldc2 X cl_X12_284 (dk okd_X12_partName 14 rfl) ?_
    refine s_run X ok_X12_partName 40 6 (pc' := 148) (vs' := [some (.int p0)]) (st' := [.int 0, .int 0, .int 100, .int 101, .int 118, .long (v7 * 32768)]) rfl ?_
    refine s_callS (rest := [.long (v7 * 32768)]) X E ms_X12_278 (c_X12_pack S 118 101 100 0 0) (ta0) rfl rfl (Nat.le_of_ble_eq_true rfl) (Nat.le_of_ble_eq_true rfl) (Nat.le_of_ble_eq_true rfl) (dk okd_X12_partName 15 rfl) (st' := fun v8 => [.long v8, .long (v7 * 32768)]) (fun _ => rfl) (fun v8 => ?_)
    refine s_run X ok_X12_partName 46 1 (pc' := 152) (vs' := [some (.int p0)]) (st' := [.long ((v7 * 32768) + v8)]) rfl ?_
    exact s_lret X hr (dk okd_X12_partName 16 rfl) rfl rfl
  refine s_tabc (c := 5) (tgt := 153) X (dk okd_X12_partName 0 rfl) (by decide) (by decide) rfl (by decide) ?_ (fun n5 => ?_)
  · refine s_run X ok_X12_partName 47 5 (pc' := 161) (vs' := [some (.int p0)]) (st' := [.int 0, .int 0, .int 101, .int 117, .int 100]) rfl ?_
    refine s_callS (rest := []) X E ms_X12_278 (c_X12_pack S 100 117 101 0 0) (ta0) rfl rfl (Nat.le_of_ble_eq_true rfl) (Nat.le_of_ble_eq_true rfl) (Nat.le_of_ble_eq_true rfl) (dk okd_X12_partName 17 rfl) (st' := fun v9 => [.long v9]) (fun _ => rfl) (fun v9 => ?_)
    exact s_lret X hr (dk okd_X12_partName 18 rfl) rfl rfl
  refine s_tabd (tgt := 165) X (dk okd_X12_partName 0 rfl) (tabout (n := 6) (by decide) (fun j hj => match j, hj with | 0, _ => n0 | 1, _ => n1 | 2, _ => n2 | 3, _ => n3 | 4, _ => n4 | 5, _ => n5)) (by decide) ?_
  refine s_run X ok_X12_partName 52 5 (pc' := 175) (vs' := [some (.int p0)]) (st' := [.int 110, .int 97, .int 108, .int 97, .int 98]) rfl ?_
  refine s_callS (rest := []) X E ms_X12_278 (c_X12_pack S 98 97 108 97 110) (ta0) rfl rfl (Nat.le_of_ble_eq_true rfl) (Nat.le_of_ble_eq_true rfl) (Nat.le_of_ble_eq_true rfl) (dk okd_X12_partName 19 rfl) (st' := fun v10 => [.long v10]) (fun _ => rfl) (fun v10 => ?_)
  refine s_ldc2 X cl_X12_282 (dk okd_X12_partName 20 rfl) ?_
  refine s_run X ok_X12_partName 57 6 (pc' := 189) (vs' := [some (.int p0)]) (st' := [.int 0, .int 0, .int 0, .int 101, .int 99, .long (v10 * 1024)]) rfl ?_
  refine s_callS (rest := [.long (v10 * 1024)]) X E ms_X12_278 (c_X12_pack S 99 101 0 0 0) (ta0) rfl rfl (Nat.le_of_ble_eq_true rfl) (Nat.le_of_ble_eq_true rfl) (Nat.le_of_ble_eq_true rfl) (dk okd_X12_partName 21 rfl) (st' := fun v11 => [.long v11, .long (v10 * 1024)]) (fun _ => rfl) (fun v11 => ?_)
  refine s_run X ok_X12_partName 63 1 (pc' := 193) (vs' := [some (.int p0)]) (st' := [.long ((v10 * 1024) + v11)]) rfl ?_
  exact s_lret X hr (dk okd_X12_partName 22 rfl) rfl rfl
def tab_X12_formatInvoice : List En := [(0, 8, 0, 0), (1, 0, 0, 0), (5, 8, 0, 0), (6, 8, 0, 0), (7, 4, 1, 0), (14, 0, 0, 1), (15, 41, 19, 0), (18, 0, 0, 0), (19, 0, 0, 1), (26, 8, 0, 0), (27, 8, 0, 0), (28, 4, 2, 0), (35, 0, 0, 1), (36, 41, 40, 0), (39, 0, 0, 0), (40, 0, 0, 2), (47, 0, 0, 0), (49, 8, 0, 0), (50, 0, 0, 0), (54, 0, 0, 0), (55, 10, 3, 0), (56, 4, 3, 0), (57, 1, 0, 7), (62, 4, 3, 0), (66, 8, 0, 0), (67, 1, 0, 32), (72, 8, 0, 0), (73, 4, 3, 0), (80, 8, 0, 0), (81, 8, 0, 0), (85, 8, 0, 0), (86, 4, 1, 0), (87, 4, 2, 0), (91, 4, 3, 0), (92, 17, 0, 0), (97, 16, 3, 1), (100, 41, 56, 0), (103, 8, 0, 0)]
theorem ok_X12_formatInvoice : tab_X12_formatInvoice.all (okE cX12_formatInvoice) = true := by decide +kernel
def ed_X12_formatInvoice : List (Nat × Instr × Nat) := [(2, .putfield 50, 3), (8, .invokevirtual 85, 3), (11, .ifCond .ne 7, 3), (20, .invokevirtual 81, 3), (23, .ifCond .ne 24, 3), (29, .invokevirtual 207, 3), (32, .ifCond .ne 7, 3), (41, .invokevirtual 81, 3), (44, .ifCond .eq 5, 3), (48, .ireturn, 1), (51, .putfield 266, 3), (59, .if_icmp .ge 44, 3), (63, .ifCond .le 9, 3), (69, .invokevirtual 271, 3), (74, .invokestatic 286, 3), (77, .invokevirtual 289, 3), (82, .getfield 9, 3), (88, .invokevirtual 231, 3), (93, .laload, 1), (94, .invokevirtual 293, 3), (104, .getfield 266, 3), (107, .ireturn, 1)]
theorem okd_X12_formatInvoice : ed_X12_formatInvoice.all (okD cX12_formatInvoice) = true := by decide +kernel
def f_X12_formatInvoice (S : St) (p0 : Nat) (p1 : Int32) (p2 : Int32) : Option (Int32 × St) := lt (uI S p0 2 0) fun (S1 : St) => cl (f_X12_isFranchisee S1 p0 p1) fun (v2 : Int32) => jn (κ := Int32 → Option (Int32 × St)) (fun x3 => cl (f_X12_throwsIf S1 p0 x3 1) fun (o6 : Int32 × St) => if o6.1 = 0 then (cl (f_X12_isClosed o6.2 p0 p2) fun (v7 : Int32) => jn (κ := Int32 → Option (Int32 × St)) (fun x8 => cl (f_X12_throwsIf o6.2 p0 x8 2) fun (o11 : Int32 × St) => if o11.1 = 0 then (lt (uI o11.2 p0 7 0) fun (S12 : St) => jn (κ := St → Option (Int32 × St)) (fun S13 => lt (gI S13 p0 7) fun (v16 : Int32) => some (v16, S13)) fun k14 => lp (κ := Int32 → St → Option (Int32 × St)) (fun _ _ => none) (fun k19 x17 S18 => if 7 ≤ x17 then (k14 S18) else (jn (κ := St → Option (Int32 × St)) (fun S21 => cl (f_X12_partName S21 x17) fun (v24 : Int64) => cl (f_X12_appendWord S21 p0 v24) fun (S25 : St) => lt (gR S25 p0 0) fun (a26 : Nat) => cl (f_X12_invoiceRow S25 p0 p1 p2) fun (v28 : Int32) => ldJ S25 a26 (v28 + x17) fun (v29 : Int64) => cl (f_X12_appendAmount S25 p0 v29) fun (S30 : St) => k19 (x17 + 1) S30) fun k22 => if x17 ≤ 0 then (k22 S18) else (cl (f_X12_append S18 p0 32) fun (S31 : St) => k22 S31))) FU 0 S12) else (some (0, o11.2))) fun k9 => if v7 = 0 then (k9 1) else (k9 0)) else (some (0, o6.2))) fun k4 => if v2 = 0 then (k4 1) else (k4 0)
set_option maxHeartbeats 4000000 in
set_option maxRecDepth 100000 in
theorem c_X12_formatInvoice (S : St) (p0 : Nat) (p1 : Int32) (p2 : Int32) : Ct yX12_formatInvoice cX12_formatInvoice 4 (some .int) 2 47 [.ref p0, .int p1, .int p2] [(p0, 11)] S (f_X12_formatInvoice S p0 p1 p2) oIS sS := by
  refine Ct_of RX12 rfl (by decide) (Nat.le_of_ble_eq_true rfl) 1 (vs := [some (.ref p0), some (.int p1), some (.int p2), none]) rfl (fun C X E hr ht => ?_)
  have t0_ : tT C p0 11 := ht (p0, 11) (by simp)
  unfold f_X12_formatInvoice
  refine s_run X ok_X12_formatInvoice 0 2 (pc' := 2) (vs' := [some (.ref p0), some (.int p1), some (.int p2), none]) (st' := [.int 0, .ref p0]) rfl ?_
  refine s_putI X fp_X12_50 t0_ (dk okd_X12_formatInvoice 0 rfl) (fun S1 => ?_)
  refine s_run X ok_X12_formatInvoice 2 3 (pc' := 8) (vs' := [some (.ref p0), some (.int p1), some (.int p2), none]) (st' := [.int p1, .ref p0, .ref p0]) rfl ?_
  refine s_callV (rest := [.ref p0]) X E mv_X12_85 (c_X12_isFranchisee S1 p0 p1) (ta1 t0_) rfl (by decide) t0_ rfl rfl (Nat.le_of_ble_eq_true rfl) (Nat.le_of_ble_eq_true rfl) (Nat.le_of_ble_eq_true rfl) (dk okd_X12_formatInvoice 1 rfl) (st' := fun v2 => [.int v2, .ref p0]) (fun _ => rfl) (fun v2 => ?_)
  refine s_jn (κ := Int32 → Option (Int32 × St)) (fun k4 => ∀ (x3 : Int32), Jd C 4 (QJ C oIS sS) S1 19 [some (.ref p0), some (.int p1), some (.int p2), none] [.int x3, .ref p0] (k4 x3)) (fun x3 => ?_) (fun k4 h5 => ?_)
  · refine s_run X ok_X12_formatInvoice 8 1 (pc' := 20) (vs' := [some (.ref p0), some (.int p1), some (.int p2), none]) (st' := [.int 1, .int x3, .ref p0]) rfl ?_
    refine s_callV (rest := []) X E mv_X12_81 (c_X12_throwsIf S1 p0 x3 1) (ta1 t0_) rfl (by decide) t0_ rfl rfl (Nat.le_of_ble_eq_true rfl) (Nat.le_of_ble_eq_true rfl) (Nat.le_of_ble_eq_true rfl) (dk okd_X12_formatInvoice 3 rfl) (st' := fun o6 => [.int o6.1]) (fun _ => rfl) (fun o6 => ?_)
    refine s_if_ne (tgt := 47) X (dk okd_X12_formatInvoice 4 rfl) (by decide) ?_ ?_
    · refine s_run X ok_X12_formatInvoice 16 1 (pc' := 48) (vs' := [some (.ref p0), some (.int p1), some (.int p2), none]) (st' := [.int 0]) rfl ?_
      exact s_iret X hr (dk okd_X12_formatInvoice 9 rfl) rfl rfl
    · refine s_run X ok_X12_formatInvoice 9 3 (pc' := 29) (vs' := [some (.ref p0), some (.int p1), some (.int p2), none]) (st' := [.int p2, .ref p0, .ref p0]) rfl ?_
      refine s_callV (rest := [.ref p0]) X E mv_X12_207 (c_X12_isClosed o6.2 p0 p2) (ta1 t0_) rfl (by decide) t0_ rfl rfl (Nat.le_of_ble_eq_true rfl) (Nat.le_of_ble_eq_true rfl) (Nat.le_of_ble_eq_true rfl) (dk okd_X12_formatInvoice 5 rfl) (st' := fun v7 => [.int v7, .ref p0]) (fun _ => rfl) (fun v7 => ?_)
      refine s_jn (κ := Int32 → Option (Int32 × St)) (fun k9 => ∀ (x8 : Int32), Jd C 4 (QJ C oIS sS) o6.2 40 [some (.ref p0), some (.int p1), some (.int p2), none] [.int x8, .ref p0] (k9 x8)) (fun x8 => ?_) (fun k9 h10 => ?_)
      · refine s_run X ok_X12_formatInvoice 15 1 (pc' := 41) (vs' := [some (.ref p0), some (.int p1), some (.int p2), none]) (st' := [.int 2, .int x8, .ref p0]) rfl ?_
        refine s_callV (rest := []) X E mv_X12_81 (c_X12_throwsIf o6.2 p0 x8 2) (ta1 t0_) rfl (by decide) t0_ rfl rfl (Nat.le_of_ble_eq_true rfl) (Nat.le_of_ble_eq_true rfl) (Nat.le_of_ble_eq_true rfl) (dk okd_X12_formatInvoice 7 rfl) (st' := fun o11 => [.int o11.1]) (fun _ => rfl) (fun o11 => ?_)
        refine s_if_eq (tgt := 49) X (dk okd_X12_formatInvoice 8 rfl) (by decide) ?_ ?_
        · refine s_run X ok_X12_formatInvoice 17 2 (pc' := 51) (vs' := [some (.ref p0), some (.int p1), some (.int p2), none]) (st' := [.int 0, .ref p0]) rfl ?_
          refine s_putI X fp_X12_266 t0_ (dk okd_X12_formatInvoice 10 rfl) (fun S12 => ?_)
          refine s_run X ok_X12_formatInvoice 19 2 (pc' := 56) (vs' := [some (.ref p0), some (.int p1), some (.int p2), some (.int 0)]) (st' := []) rfl ?_
          refine s_jn (κ := St → Option (Int32 × St)) (fun k14 => ∀ (S13 : St), Jd C 4 (QJ C oIS sS) S13 103 [some (.ref p0), none, none, none] [] (k14 S13)) (fun S13 => ?_) (fun k14 h15 => ?_)
          · refine s_run X ok_X12_formatInvoice 37 1 (pc' := 104) (vs' := [some (.ref p0), none, none, none]) (st' := [.ref p0]) rfl ?_
            refine s_getI X fl_X12_266 t0_ (dk okd_X12_formatInvoice 20 rfl) (fun v16 => ?_)
            exact s_iret X hr (dk okd_X12_formatInvoice 21 rfl) rfl rfl
          · refine s_lp (κ := Int32 → St → Option (Int32 × St)) (fun k19 => ∀ (x17 : Int32) (S18 : St), Jd C 4 (QJ C oIS sS) S18 56 [some (.ref p0), some (.int p1), some (.int p2), some (.int x17)] [] (k19 x17 S18)) (fun _ _ => s_none) (fun k19 h20 x17 S18 => ?_) FU 0 S12
            refine s_run X ok_X12_formatInvoice 21 2 (pc' := 59) (vs' := [some (.ref p0), some (.int p1), some (.int p2), some (.int x17)]) (st' := [.int 7, .int x17]) rfl ?_
            refine s_icmp_ge (tgt := 103) X (dk okd_X12_formatInvoice 11 rfl) (by decide) ?_ ?_
            · exact s_less [true, false, false, false] rfl (h15 S18)
            · refine s_run X ok_X12_formatInvoice 23 1 (pc' := 63) (vs' := [some (.ref p0), some (.int p1), some (.int p2), some (.int x17)]) (st' := [.int x17]) rfl ?_
              refine s_jn (κ := St → Option (Int32 × St)) (fun k22 => ∀ (S21 : St), Jd C 4 (QJ C oIS sS) S21 72 [some (.ref p0), some (.int p1), some (.int p2), some (.int x17)] [] (k22 S21)) (fun S21 => ?_) (fun k22 h23 => ?_)
              · refine s_run X ok_X12_formatInvoice 26 2 (pc' := 74) (vs' := [some (.ref p0), some (.int p1), some (.int p2), some (.int x17)]) (st' := [.int x17, .ref p0]) rfl ?_
                refine s_callS (rest := [.ref p0]) X E ms_X12_286 (c_X12_partName S21 x17) (ta0) rfl rfl (Nat.le_of_ble_eq_true rfl) (Nat.le_of_ble_eq_true rfl) (Nat.le_of_ble_eq_true rfl) (dk okd_X12_formatInvoice 14 rfl) (st' := fun v24 => [.long v24, .ref p0]) (fun _ => rfl) (fun v24 => ?_)
                refine s_callV (rest := []) X E mv_X12_289 (c_X12_appendWord S21 p0 v24) (ta1 t0_) rfl (by decide) t0_ rfl rfl (Nat.le_of_ble_eq_true rfl) (Nat.le_of_ble_eq_true rfl) (Nat.le_of_ble_eq_true rfl) (dk okd_X12_formatInvoice 15 rfl) (st' := fun S25 => []) (fun _ => rfl) (fun S25 => ?_)
                refine s_run X ok_X12_formatInvoice 28 2 (pc' := 82) (vs' := [some (.ref p0), some (.int p1), some (.int p2), some (.int x17)]) (st' := [.ref p0, .ref p0]) rfl ?_
                refine s_getR X fl_X12_9 t0_ (dk okd_X12_formatInvoice 16 rfl) (fun a26 (t27 : tT C a26 14) => ?_)
                refine s_run X ok_X12_formatInvoice 30 3 (pc' := 88) (vs' := [some (.ref p0), some (.int p1), some (.int p2), some (.int x17)]) (st' := [.int p2, .int p1, .ref p0, .ref a26, .ref p0]) rfl ?_
                refine s_callV (rest := [.ref a26, .ref p0]) X E mv_X12_231 (c_X12_invoiceRow S25 p0 p1 p2) (ta1 t0_) rfl (by decide) t0_ rfl rfl (Nat.le_of_ble_eq_true rfl) (Nat.le_of_ble_eq_true rfl) (Nat.le_of_ble_eq_true rfl) (dk okd_X12_formatInvoice 17 rfl) (st' := fun v28 => [.int v28, .ref a26, .ref p0]) (fun _ => rfl) (fun v28 => ?_)
                refine s_run X ok_X12_formatInvoice 33 2 (pc' := 93) (vs' := [some (.ref p0), some (.int p1), some (.int p2), some (.int x17)]) (st' := [.int (v28 + x17), .ref a26, .ref p0]) rfl ?_
                refine s_lald X t27 (dk okd_X12_formatInvoice 18 rfl) (fun v29 => ?_)
                refine s_callV (rest := []) X E mv_X12_293 (c_X12_appendAmount S25 p0 v29) (ta1 t0_) rfl (by decide) t0_ rfl rfl (Nat.le_of_ble_eq_true rfl) (Nat.le_of_ble_eq_true rfl) (Nat.le_of_ble_eq_true rfl) (dk okd_X12_formatInvoice 19 rfl) (st' := fun S30 => []) (fun _ => rfl) (fun S30 => ?_)
                refine s_run X ok_X12_formatInvoice 35 2 (pc' := 56) (vs' := [some (.ref p0), some (.int p1), some (.int p2), some (.int (x17 + 1))]) (st' := []) rfl ?_
                exact h20 (x17 + 1) S30
              · refine s_if_le (tgt := 72) X (dk okd_X12_formatInvoice 12 rfl) (by decide) ?_ ?_
                · exact h23 S18
                · refine s_run X ok_X12_formatInvoice 24 2 (pc' := 69) (vs' := [some (.ref p0), some (.int p1), some (.int p2), some (.int x17)]) (st' := [.int 32, .ref p0]) rfl ?_
                  refine s_callV (rest := []) X E mv_X12_271 (c_X12_append S18 p0 32) (ta1 t0_) rfl (by decide) t0_ rfl rfl (Nat.le_of_ble_eq_true rfl) (Nat.le_of_ble_eq_true rfl) (Nat.le_of_ble_eq_true rfl) (dk okd_X12_formatInvoice 13 rfl) (st' := fun S31 => []) (fun _ => rfl) (fun S31 => ?_)
                  exact h23 S31
        · refine s_run X ok_X12_formatInvoice 16 1 (pc' := 48) (vs' := [some (.ref p0), some (.int p1), some (.int p2), none]) (st' := [.int 0]) rfl ?_
          exact s_iret X hr (dk okd_X12_formatInvoice 9 rfl) rfl rfl
      · refine s_if_ne (tgt := 39) X (dk okd_X12_formatInvoice 6 rfl) (by decide) ?_ ?_
        · refine s_run X ok_X12_formatInvoice 14 1 (pc' := 40) (vs' := [some (.ref p0), some (.int p1), some (.int p2), none]) (st' := [.int 0, .ref p0]) rfl ?_
          exact h10 0
        · refine s_run X ok_X12_formatInvoice 12 2 (pc' := 40) (vs' := [some (.ref p0), some (.int p1), some (.int p2), none]) (st' := [.int 1, .ref p0]) rfl ?_
          exact h10 1
  · refine s_if_ne (tgt := 18) X (dk okd_X12_formatInvoice 2 rfl) (by decide) ?_ ?_
    · refine s_run X ok_X12_formatInvoice 7 1 (pc' := 19) (vs' := [some (.ref p0), some (.int p1), some (.int p2), none]) (st' := [.int 0, .ref p0]) rfl ?_
      exact h5 0
    · refine s_run X ok_X12_formatInvoice 5 2 (pc' := 19) (vs' := [some (.ref p0), some (.int p1), some (.int p2), none]) (st' := [.int 1, .ref p0]) rfl ?_
      exact h5 1
def tab_X0_atPlace : List En := [(0, 0, 0, 0), (1, 10, 3, 0), (2, 4, 3, 0), (3, 4, 2, 0), (7, 0, 0, 0), (8, 11, 4, 0), (10, 0, 0, 0), (11, 11, 5, 0), (13, 5, 5, 0), (15, 4, 2, 0), (19, 8, 0, 0), (20, 5, 5, 0), (22, 4, 3, 0), (29, 16, 4, 1), (32, 16, 5, 1), (35, 41, 13, 0), (38, 5, 4, 0), (40, 4, 1, 0), (44, 4, 3, 0), (46, 16, 3, 1), (49, 41, 2, 0), (52, 0, 0, (-1))]
theorem ok_X0_atPlace : tab_X0_atPlace.all (okE cX0_atPlace) = true := by decide +kernel
def ed_X0_atPlace : List (Nat × Instr × Nat) := [(4, .if_icmp .ge 48, 3), (16, .if_icmp .ge 22, 3), (23, .invokevirtual 58, 3), (26, .ifCond .eq 6, 3), (41, .if_icmp .ne 5, 3), (45, .ireturn, 1), (53, .ireturn, 1)]
theorem okd_X0_atPlace : ed_X0_atPlace.all (okD cX0_atPlace) = true := by decide +kernel
def f_X0_atPlace (S : St) (p0 : Nat) (p1 : Int32) (p2 : Int32) : Option (Int32) := jn (κ := Int32 → Option (Int32)) (fun x1 => some x1) fun k2 => lp (κ := Int32 → Option (Int32)) (fun _ => none) (fun k5 x4 => if p2 ≤ x4 then (some (-1)) else (jn (κ := Int32 → Option (Int32)) (fun x7 => if x7 = p1 then (k2 x4) else (k5 (x4 + 1))) fun k8 => lp (κ := Int32 → Int32 → Option (Int32)) (fun _ _ => none) (fun k12 x10 x11 => if p2 ≤ x11 then (k8 x10) else (cl (f_X0_ranksBefore S p0 x11 x4) fun (v14 : Int32) => jn (κ := Int32 → Option (Int32)) (fun x15 => k12 x15 (x11 + 1)) fun k16 => if v14 = 0 then (k16 x10) else (k16 (x10 + 1)))) FU 0 0)) FU 0
set_option maxHeartbeats 4000000 in
set_option maxRecDepth 100000 in
theorem c_X0_atPlace (S : St) (p0 : Nat) (p1 : Int32) (p2 : Int32) : Ct yX0_atPlace cX0_atPlace 6 (some .int) 4 93 [.ref p0, .int p1, .int p2] [(p0, 0)] S (f_X0_atPlace S p0 p1 p2) oI (fun _ => S) := by
  refine Ct_of RX0 rfl (by decide) (Nat.le_of_ble_eq_true rfl) 3 (vs := [some (.ref p0), some (.int p1), some (.int p2), none, none, none]) rfl (fun C X E hr ht => ?_)
  have t0_ : tT C p0 0 := ht (p0, 0) (by simp)
  unfold f_X0_atPlace
  refine s_run X ok_X0_atPlace 0 2 (pc' := 2) (vs' := [some (.ref p0), some (.int p1), some (.int p2), some (.int 0), none, none]) (st' := []) rfl ?_
  refine s_jn (κ := Int32 → Option (Int32)) (fun k2 => ∀ (x1 : Int32), Jd C 6 (QJ C oI (fun _ => S)) S 44 [none, none, none, some (.int x1), none, none] [] (k2 x1)) (fun x1 => ?_) (fun k2 h3 => ?_)
  · refine s_run X ok_X0_atPlace 18 1 (pc' := 45) (vs' := [none, none, none, some (.int x1), none, none]) (st' := [.int x1]) rfl ?_
    exact s_iret X hr (dk okd_X0_atPlace 5 rfl) rfl rfl
  · refine s_lp (κ := Int32 → Option (Int32)) (fun k5 => ∀ (x4 : Int32), Jd C 6 (QJ C oI (fun _ => S)) S 2 [some (.ref p0), some (.int p1), some (.int p2), some (.int x4), none, none] [] (k5 x4)) (fun _ => s_none) (fun k5 h6 x4 => ?_) FU 0
    refine s_run X ok_X0_atPlace 2 2 (pc' := 4) (vs' := [some (.ref p0), some (.int p1), some (.int p2), some (.int x4), none, none]) (st' := [.int p2, .int x4]) rfl ?_
    refine s_icmp_ge (tgt := 52) X (dk okd_X0_atPlace 0 rfl) (by decide) ?_ ?_
    · refine s_run X ok_X0_atPlace 21 1 (pc' := 53) (vs' := [some (.ref p0), some (.int p1), some (.int p2), some (.int x4), none, none]) (st' := [.int (-1)]) rfl ?_
      exact s_iret X hr (dk okd_X0_atPlace 6 rfl) rfl rfl
    · refine s_run X ok_X0_atPlace 4 4 (pc' := 13) (vs' := [some (.ref p0), some (.int p1), some (.int p2), some (.int x4), some (.int 0), some (.int 0)]) (st' := []) rfl ?_
      refine s_jn (κ := Int32 → Option (Int32)) (fun k8 => ∀ (x7 : Int32), Jd C 6 (QJ C oI (fun _ => S)) S 38 [some (.ref p0), some (.int p1), some (.int p2), some (.int x4), some (.int x7), none] [] (k8 x7)) (fun x7 => ?_) (fun k8 h9 => ?_)
      · refine s_run X ok_X0_atPlace 16 2 (pc' := 41) (vs' := [some (.ref p0), some (.int p1), some (.int p2), some (.int x4), some (.int x7), none]) (st' := [.int p1, .int x7]) rfl ?_
        refine s_icmp_ne (tgt := 46) X (dk okd_X0_atPlace 4 rfl) (by decide) ?_ ?_
        · refine s_run X ok_X0_atPlace 19 2 (pc' := 2) (vs' := [some (.ref p0), some (.int p1), some (.int p2), some (.int (x4 + 1)), some (.int x7), none]) (st' := []) rfl ?_
          exact s_less [true, true, true, true, false, false] rfl (h6 (x4 + 1))
        · exact s_less [false, false, false, true, false, false] rfl (h3 x4)
      · refine s_lp (κ := Int32 → Int32 → Option (Int32)) (fun k12 => ∀ (x10 : Int32) (x11 : Int32), Jd C 6 (QJ C oI (fun _ => S)) S 13 [some (.ref p0), some (.int p1), some (.int p2), some (.int x4), some (.int x10), some (.int x11)] [] (k12 x10 x11)) (fun _ _ => s_none) (fun k12 h13 x10 x11 => ?_) FU 0 0
        refine s_run X ok_X0_atPlace 8 2 (pc' := 16) (vs' := [some (.ref p0), some (.int p1), some (.int p2), some (.int x4), some (.int x10), some (.int x11)]) (st' := [.int p2, .int x11]) rfl ?_
        refine s_icmp_ge (tgt := 38) X (dk okd_X0_atPlace 1 rfl) (by decide) ?_ ?_
        · exact s_less [true, true, true, true, true, false] rfl (h9 x10)
        · refine s_run X ok_X0_atPlace 10 3 (pc' := 23) (vs' := [some (.ref p0), some (.int p1), some (.int p2), some (.int x4), some (.int x10), some (.int x11)]) (st' := [.int x4, .int x11, .ref p0]) rfl ?_
          refine s_callV (rest := []) X E mv_X0_58 (c_X0_ranksBefore S p0 x11 x4) (ta1 t0_) rfl (by decide) t0_ rfl rfl (Nat.le_of_ble_eq_true rfl) (Nat.le_of_ble_eq_true rfl) (Nat.le_of_ble_eq_true rfl) (dk okd_X0_atPlace 2 rfl) (st' := fun v14 => [.int v14]) (fun _ => rfl) (fun v14 => ?_)
          refine s_jn (κ := Int32 → Option (Int32)) (fun k16 => ∀ (x15 : Int32), Jd C 6 (QJ C oI (fun _ => S)) S 32 [some (.ref p0), some (.int p1), some (.int p2), some (.int x4), some (.int x15), some (.int x11)] [] (k16 x15)) (fun x15 => ?_) (fun k16 h17 => ?_)
          · refine s_run X ok_X0_atPlace 14 2 (pc' := 13) (vs' := [some (.ref p0), some (.int p1), some (.int p2), some (.int x4), some (.int x15), some (.int (x11 + 1))]) (st' := []) rfl ?_
            exact h13 x15 (x11 + 1)
          · refine s_if_eq (tgt := 32) X (dk okd_X0_atPlace 3 rfl) (by decide) ?_ ?_
            · exact h17 x10
            · refine s_run X ok_X0_atPlace 13 1 (pc' := 32) (vs' := [some (.ref p0), some (.int p1), some (.int p2), some (.int x4), some (.int (x10 + 1)), some (.int x11)]) (st' := []) rfl ?_
              exact h17 (x10 + 1)
def tab_X1_clear : List En := [(0, 8, 0, 0), (7, 8, 0, 0), (14, 8, 0, 0), (18, 0, 0, 0), (22, 8, 0, 0), (26, 0, 0, 0), (30, 8, 0, 0), (37, 8, 0, 0)]
theorem ok_X1_clear : tab_X1_clear.all (okE cX1_clear) = true := by decide +kernel
def ed_X1_clear : List (Nat × Instr × Nat) := [(1, .getfield 12, 3), (4, .invokevirtual 57, 3), (8, .getfield 21, 3), (11, .invokevirtual 60, 3), (15, .getfield 28, 3), (19, .putfield 61, 3), (23, .getfield 35, 3), (27, .putfield 65, 3), (31, .getfield 42, 3), (34, .invokevirtual 66, 3), (38, .getfield 49, 3), (41, .invokevirtual 67, 3), (44, .return_, 1)]
theorem okd_X1_clear : ed_X1_clear.all (okD cX1_clear) = true := by decide +kernel
def f_X1_clear (S : St) (p0 : Nat) : Option (St) := lt (gR S p0 0) fun (a1 : Nat) => cl (f_X8_clear S a1) fun (S3 : St) => lt (gR S3 p0 1) fun (a4 : Nat) => cl (f_X3_clear S3 a4) fun (S6 : St) => lt (gR S6 p0 2) fun (a7 : Nat) => lt (uI S6 a7 4 0) fun (S9 : St) => lt (gR S9 p0 3) fun (a10 : Nat) => lt (uI S9 a10 8 0) fun (S12 : St) => lt (gR S12 p0 4) fun (a13 : Nat) => cl (f_X10_clear S12 a13) fun (S15 : St) => lt (gR S15 p0 5) fun (a16 : Nat) => cl (f_X0_clear S15 a16) fun (S18 : St) => some S18
set_option maxHeartbeats 4000000 in
set_option maxRecDepth 100000 in
theorem c_X1_clear (S : St) (p0 : Nat) : Ct yX1_clear cX1_clear 1 none 2 44 [.ref p0] [(p0, 1)] S (f_X1_clear S p0) oV sV := by
  refine Ct_of RX1 rfl (by decide) (Nat.le_of_ble_eq_true rfl) 0 (vs := [some (.ref p0)]) rfl (fun C X E hr ht => ?_)
  have t0_ : tT C p0 1 := ht (p0, 1) (by simp)
  unfold f_X1_clear
  refine s_run X ok_X1_clear 0 1 (pc' := 1) (vs' := [some (.ref p0)]) (st' := [.ref p0]) rfl ?_
  refine s_getR X fl_X1_12 t0_ (dk okd_X1_clear 0 rfl) (fun a1 (t2 : tT C a1 7) => ?_)
  refine s_callV (rest := []) X E mv_X1_57 (c_X8_clear S a1) (ta1 t2) rfl (by decide) t2 rfl rfl (Nat.le_of_ble_eq_true rfl) (Nat.le_of_ble_eq_true rfl) (Nat.le_of_ble_eq_true rfl) (dk okd_X1_clear 1 rfl) (st' := fun S3 => []) (fun _ => rfl) (fun S3 => ?_)
  refine s_run X ok_X1_clear 1 1 (pc' := 8) (vs' := [some (.ref p0)]) (st' := [.ref p0]) rfl ?_
  refine s_getR X fl_X1_21 t0_ (dk okd_X1_clear 2 rfl) (fun a4 (t5 : tT C a4 3) => ?_)
  refine s_callV (rest := []) X E mv_X1_60 (c_X3_clear S3 a4) (ta1 t5) rfl (by decide) t5 rfl rfl (Nat.le_of_ble_eq_true rfl) (Nat.le_of_ble_eq_true rfl) (Nat.le_of_ble_eq_true rfl) (dk okd_X1_clear 3 rfl) (st' := fun S6 => []) (fun _ => rfl) (fun S6 => ?_)
  refine s_run X ok_X1_clear 2 1 (pc' := 15) (vs' := [some (.ref p0)]) (st' := [.ref p0]) rfl ?_
  refine s_getR X fl_X1_28 t0_ (dk okd_X1_clear 4 rfl) (fun a7 (t8 : tT C a7 6) => ?_)
  refine s_run X ok_X1_clear 3 1 (pc' := 19) (vs' := [some (.ref p0)]) (st' := [.int 0, .ref a7]) rfl ?_
  refine s_putI X fp_X1_61 t8 (dk okd_X1_clear 5 rfl) (fun S9 => ?_)
  refine s_run X ok_X1_clear 4 1 (pc' := 23) (vs' := [some (.ref p0)]) (st' := [.ref p0]) rfl ?_
  refine s_getR X fl_X1_35 t0_ (dk okd_X1_clear 6 rfl) (fun a10 (t11 : tT C a10 2) => ?_)
  refine s_run X ok_X1_clear 5 1 (pc' := 27) (vs' := [some (.ref p0)]) (st' := [.int 0, .ref a10]) rfl ?_
  refine s_putI X fp_X1_65 t11 (dk okd_X1_clear 7 rfl) (fun S12 => ?_)
  refine s_run X ok_X1_clear 6 1 (pc' := 31) (vs' := [some (.ref p0)]) (st' := [.ref p0]) rfl ?_
  refine s_getR X fl_X1_42 t0_ (dk okd_X1_clear 8 rfl) (fun a13 (t14 : tT C a13 9) => ?_)
  refine s_callV (rest := []) X E mv_X1_66 (c_X10_clear S12 a13) (ta1 t14) rfl (by decide) t14 rfl rfl (Nat.le_of_ble_eq_true rfl) (Nat.le_of_ble_eq_true rfl) (Nat.le_of_ble_eq_true rfl) (dk okd_X1_clear 9 rfl) (st' := fun S15 => []) (fun _ => rfl) (fun S15 => ?_)
  refine s_run X ok_X1_clear 7 1 (pc' := 38) (vs' := [some (.ref p0)]) (st' := [.ref p0]) rfl ?_
  refine s_getR X fl_X1_49 t0_ (dk okd_X1_clear 10 rfl) (fun a16 (t17 : tT C a16 0) => ?_)
  refine s_callV (rest := []) X E mv_X1_67 (c_X0_clear S15 a16) (ta1 t17) rfl (by decide) t17 rfl rfl (Nat.le_of_ble_eq_true rfl) (Nat.le_of_ble_eq_true rfl) (Nat.le_of_ble_eq_true rfl) (dk okd_X1_clear 11 rfl) (st' := fun S18 => []) (fun _ => rfl) (fun S18 => ?_)
  exact s_vret X hr (dk okd_X1_clear 12 rfl) rfl rfl
def tab_X1_hasFreeCell : List En := [(0, 8, 0, 0), (4, 4, 2, 0), (5, 4, 3, 0), (9, 4, 1, 0), (13, 8, 0, 0), (17, 0, 0, (-1)), (18, 4, 2, 0), (19, 4, 3, 0), (26, 0, 0, 1), (27, 41, 31, 0), (30, 0, 0, 0)]
theorem ok_X1_hasFreeCell : tab_X1_hasFreeCell.all (okE cX1_hasFreeCell) = true := by decide +kernel
def ed_X1_hasFreeCell : List (Nat × Instr × Nat) := [(1, .getfield 21, 3), (6, .invokevirtual 84, 3), (10, .if_icmp .ne 20, 3), (14, .getfield 28, 3), (20, .invokevirtual 88, 3), (23, .ifCond .le 7, 3), (31, .ireturn, 1)]
theorem okd_X1_hasFreeCell : ed_X1_hasFreeCell.all (okD cX1_hasFreeCell) = true := by decide +kernel
def f_X1_hasFreeCell (S : St) (p0 : Nat) (p1 : Int32) (p2 : Int32) (p3 : Int32) : Option (Int32) := lt (gR S p0 1) fun (a1 : Nat) => cl (f_X3_ownerAt S a1 p2 p3) fun (v3 : Int32) => jn (κ := Option (Int32)) (some 0) fun k4 => if v3 = p1 then (lt (gR S p0 2) fun (a6 : Nat) => cl (f_X6_nearest S a6 (-1) p2 p3) fun (v8 : Int32) => if v8 ≤ 0 then (k4) else (some 1)) else (k4)
set_option maxHeartbeats 4000000 in
set_option maxRecDepth 100000 in
theorem c_X1_hasFreeCell (S : St) (p0 : Nat) (p1 : Int32) (p2 : Int32) (p3 : Int32) : Ct yX1_hasFreeCell cX1_hasFreeCell 4 (some .boolean) 3 68 [.ref p0, .int p1, .int p2, .int p3] [(p0, 1)] S (f_X1_hasFreeCell S p0 p1 p2 p3) oI (fun _ => S) := by
  refine Ct_of RX1 rfl (by decide) (Nat.le_of_ble_eq_true rfl) 0 (vs := [some (.ref p0), some (.int p1), some (.int p2), some (.int p3)]) rfl (fun C X E hr ht => ?_)
  have t0_ : tT C p0 1 := ht (p0, 1) (by simp)
  unfold f_X1_hasFreeCell
  refine s_run X ok_X1_hasFreeCell 0 1 (pc' := 1) (vs' := [some (.ref p0), some (.int p1), some (.int p2), some (.int p3)]) (st' := [.ref p0]) rfl ?_
  refine s_getR X fl_X1_21 t0_ (dk okd_X1_hasFreeCell 0 rfl) (fun a1 (t2 : tT C a1 3) => ?_)
  refine s_run X ok_X1_hasFreeCell 1 2 (pc' := 6) (vs' := [some (.ref p0), some (.int p1), some (.int p2), some (.int p3)]) (st' := [.int p3, .int p2, .ref a1]) rfl ?_
  refine s_callV (rest := []) X E mv_X1_84 (c_X3_ownerAt S a1 p2 p3) (ta1 t2) rfl (by decide) t2 rfl rfl (Nat.le_of_ble_eq_true rfl) (Nat.le_of_ble_eq_true rfl) (Nat.le_of_ble_eq_true rfl) (dk okd_X1_hasFreeCell 1 rfl) (st' := fun v3 => [.int v3]) (fun _ => rfl) (fun v3 => ?_)
  refine s_run X ok_X1_hasFreeCell 3 1 (pc' := 10) (vs' := [some (.ref p0), some (.int p1), some (.int p2), some (.int p3)]) (st' := [.int p1, .int v3]) rfl ?_
  refine s_jn (κ := Option (Int32)) (fun k4 => Jd C 4 (QJ C oI (fun _ => S)) S 30 [none, none, none, none] [] k4) ?_ (fun k4 h5 => ?_)
  · refine s_run X ok_X1_hasFreeCell 10 1 (pc' := 31) (vs' := [none, none, none, none]) (st' := [.int 0]) rfl ?_
    exact s_zret0 X hr (dk okd_X1_hasFreeCell 6 rfl) (by decide) rfl rfl
  · refine s_icmp_ne (tgt := 30) X (dk okd_X1_hasFreeCell 2 rfl) (by decide) ?_ ?_
    · exact s_less [false, false, false, false] rfl (h5)
    · refine s_run X ok_X1_hasFreeCell 4 1 (pc' := 14) (vs' := [some (.ref p0), some (.int p1), some (.int p2), some (.int p3)]) (st' := [.ref p0]) rfl ?_
      refine s_getR X fl_X1_28 t0_ (dk okd_X1_hasFreeCell 3 rfl) (fun a6 (t7 : tT C a6 6) => ?_)
      refine s_run X ok_X1_hasFreeCell 5 3 (pc' := 20) (vs' := [some (.ref p0), some (.int p1), some (.int p2), some (.int p3)]) (st' := [.int p3, .int p2, .int (-1), .ref a6]) rfl ?_
      refine s_callV (rest := []) X E mv_X1_88 (c_X6_nearest S a6 (-1) p2 p3) (ta1 t7) rfl (by decide) t7 rfl rfl (Nat.le_of_ble_eq_true rfl) (Nat.le_of_ble_eq_true rfl) (Nat.le_of_ble_eq_true rfl) (dk okd_X1_hasFreeCell 4 rfl) (st' := fun v8 => [.int v8]) (fun _ => rfl) (fun v8 => ?_)
      refine s_if_le (tgt := 30) X (dk okd_X1_hasFreeCell 5 rfl) (by decide) ?_ ?_
      · exact s_less [false, false, false, false] rfl (h5)
      · refine s_run X ok_X1_hasFreeCell 8 2 (pc' := 31) (vs' := [some (.ref p0), some (.int p1), some (.int p2), some (.int p3)]) (st' := [.int 1]) rfl ?_
        exact s_zret0 X hr (dk okd_X1_hasFreeCell 6 rfl) (by decide) rfl rfl
def tab_X1_farthestCell : List En := [(0, 0, 0, (-1)), (1, 10, 2, 0), (2, 0, 0, 0), (3, 10, 3, 0), (4, 0, 0, 0), (5, 11, 4, 0), (7, 5, 4, 0), (9, 1, 0, 30), (14, 0, 0, 0), (15, 11, 5, 0), (17, 5, 5, 0), (19, 1, 0, 30), (24, 8, 0, 0), (28, 5, 5, 0), (30, 5, 4, 0), (35, 4, 1, 0), (39, 8, 0, 0), (43, 0, 0, (-1)), (44, 5, 5, 0), (46, 5, 4, 0), (51, 41, 55, 0), (54, 0, 0, 0), (55, 11, 6, 0), (57, 5, 6, 0), (59, 4, 3, 0), (63, 5, 6, 0), (65, 10, 3, 0), (66, 5, 5, 0), (68, 5, 4, 0), (73, 10, 2, 0), (74, 16, 5, 1), (77, 41, 17, 0), (80, 16, 4, 1), (83, 41, 7, 0), (86, 4, 2, 0)]
theorem ok_X1_farthestCell : tab_X1_farthestCell.all (okE cX1_farthestCell) = true := by decide +kernel
def ed_X1_farthestCell : List (Nat × Instr × Nat) := [(11, .if_icmp .ge 75, 3), (21, .if_icmp .ge 59, 3), (25, .getfield 21, 3), (32, .invokevirtual 84, 3), (36, .if_icmp .ne 18, 3), (40, .getfield 28, 3), (48, .invokevirtual 88, 3), (60, .if_icmp .le 14, 3), (70, .invokestatic 92, 3), (87, .ireturn, 1)]
theorem okd_X1_farthestCell : ed_X1_farthestCell.all (okD cX1_farthestCell) = true := by decide +kernel
def f_X1_farthestCell (S : St) (p0 : Nat) (p1 : Int32) : Option (Int32) := jn (κ := Int32 → Option (Int32)) (fun x1 => some x1) fun k2 => lp (κ := Int32 → Int32 → Int32 → Option (Int32)) (fun _ _ _ => none) (fun k7 x4 x5 x6 => if 30 ≤ x6 then (k2 x4) else (jn (κ := Int32 → Int32 → Option (Int32)) (fun x9 x10 => k7 x9 x10 (x6 + 1)) fun k11 => lp (κ := Int32 → Int32 → Int32 → Option (Int32)) (fun _ _ _ => none) (fun k16 x13 x14 x15 => if 30 ≤ x15 then (k11 x13 x14) else (lt (gR S p0 1) fun (a18 : Nat) => cl (f_X3_ownerAt S a18 x15 x6) fun (v20 : Int32) => jn (κ := Int32 → Option (Int32)) (fun x21 => jn (κ := Int32 → Int32 → Option (Int32)) (fun x24 x25 => k16 x24 x25 (x15 + 1)) fun k26 => if x21 ≤ x14 then (k26 x13 x14) else (cl (f_X11_cellCode S x15 x6) fun (v28 : Int32) => k26 v28 x21)) fun k22 => if v20 = p1 then (lt (gR S p0 2) fun (a29 : Nat) => cl (f_X6_nearest S a29 (-1) x15 x6) fun (v31 : Int32) => k22 v31) else (k22 0))) FU x4 x5 0)) FU (-1) 0 0
set_option maxHeartbeats 4000000 in
set_option maxRecDepth 100000 in
theorem c_X1_farthestCell (S : St) (p0 : Nat) (p1 : Int32) : Ct yX1_farthestCell cX1_farthestCell 7 (some .int) 3 68 [.ref p0, .int p1] [(p0, 1)] S (f_X1_farthestCell S p0 p1) oI (fun _ => S) := by
  refine Ct_of RX1 rfl (by decide) (Nat.le_of_ble_eq_true rfl) 5 (vs := [some (.ref p0), some (.int p1), none, none, none, none, none]) rfl (fun C X E hr ht => ?_)
  have t0_ : tT C p0 1 := ht (p0, 1) (by simp)
  unfold f_X1_farthestCell
  refine s_run X ok_X1_farthestCell 0 6 (pc' := 7) (vs' := [some (.ref p0), some (.int p1), some (.int (-1)), some (.int 0), some (.int 0), none, none]) (st' := []) rfl ?_
  refine s_jn (κ := Int32 → Option (Int32)) (fun k2 => ∀ (x1 : Int32), Jd C 7 (QJ C oI (fun _ => S)) S 86 [none, none, some (.int x1), none, none, none, none] [] (k2 x1)) (fun x1 => ?_) (fun k2 h3 => ?_)
  · refine s_run X ok_X1_farthestCell 34 1 (pc' := 87) (vs' := [none, none, some (.int x1), none, none, none, none]) (st' := [.int x1]) rfl ?_
    exact s_iret X hr (dk okd_X1_farthestCell 9 rfl) rfl rfl
  · refine s_lp (κ := Int32 → Int32 → Int32 → Option (Int32)) (fun k7 => ∀ (x4 : Int32) (x5 : Int32) (x6 : Int32), Jd C 7 (QJ C oI (fun _ => S)) S 7 [some (.ref p0), some (.int p1), some (.int x4), some (.int x5), some (.int x6), none, none] [] (k7 x4 x5 x6)) (fun _ _ _ => s_none) (fun k7 h8 x4 x5 x6 => ?_) FU (-1) 0 0
    refine s_run X ok_X1_farthestCell 6 2 (pc' := 11) (vs' := [some (.ref p0), some (.int p1), some (.int x4), some (.int x5), some (.int x6), none, none]) (st' := [.int 30, .int x6]) rfl ?_
    refine s_icmp_ge (tgt := 86) X (dk okd_X1_farthestCell 0 rfl) (by decide) ?_ ?_
    · exact s_less [false, false, true, false, false, false, false] rfl (h3 x4)
    · refine s_run X ok_X1_farthestCell 8 2 (pc' := 17) (vs' := [some (.ref p0), some (.int p1), some (.int x4), some (.int x5), some (.int x6), some (.int 0), none]) (st' := []) rfl ?_
      refine s_jn (κ := Int32 → Int32 → Option (Int32)) (fun k11 => ∀ (x9 : Int32) (x10 : Int32), Jd C 7 (QJ C oI (fun _ => S)) S 80 [some (.ref p0), some (.int p1), some (.int x9), some (.int x10), some (.int x6), none, none] [] (k11 x9 x10)) (fun x9 x10 => ?_) (fun k11 h12 => ?_)
      · refine s_run X ok_X1_farthestCell 32 2 (pc' := 7) (vs' := [some (.ref p0), some (.int p1), some (.int x9), some (.int x10), some (.int (x6 + 1)), none, none]) (st' := []) rfl ?_
        exact h8 x9 x10 (x6 + 1)
      · refine s_lp (κ := Int32 → Int32 → Int32 → Option (Int32)) (fun k16 => ∀ (x13 : Int32) (x14 : Int32) (x15 : Int32), Jd C 7 (QJ C oI (fun _ => S)) S 17 [some (.ref p0), some (.int p1), some (.int x13), some (.int x14), some (.int x6), some (.int x15), none] [] (k16 x13 x14 x15)) (fun _ _ _ => s_none) (fun k16 h17 x13 x14 x15 => ?_) FU x4 x5 0
        refine s_run X ok_X1_farthestCell 10 2 (pc' := 21) (vs' := [some (.ref p0), some (.int p1), some (.int x13), some (.int x14), some (.int x6), some (.int x15), none]) (st' := [.int 30, .int x15]) rfl ?_
        refine s_icmp_ge (tgt := 80) X (dk okd_X1_farthestCell 1 rfl) (by decide) ?_ ?_
        · exact s_less [true, true, true, true, true, false, false] rfl (h12 x13 x14)
        · refine s_run X ok_X1_farthestCell 12 1 (pc' := 25) (vs' := [some (.ref p0), some (.int p1), some (.int x13), some (.int x14), some (.int x6), some (.int x15), none]) (st' := [.ref p0]) rfl ?_
          refine s_getR X fl_X1_21 t0_ (dk okd_X1_farthestCell 2 rfl) (fun a18 (t19 : tT C a18 3) => ?_)
          refine s_run X ok_X1_farthestCell 13 2 (pc' := 32) (vs' := [some (.ref p0), some (.int p1), some (.int x13), some (.int x14), some (.int x6), some (.int x15), none]) (st' := [.int x6, .int x15, .ref a18]) rfl ?_
          refine s_callV (rest := []) X E mv_X1_84 (c_X3_ownerAt S a18 x15 x6) (ta1 t19) rfl (by decide) t19 rfl rfl (Nat.le_of_ble_eq_true rfl) (Nat.le_of_ble_eq_true rfl) (Nat.le_of_ble_eq_true rfl) (dk okd_X1_farthestCell 3 rfl) (st' := fun v20 => [.int v20]) (fun _ => rfl) (fun v20 => ?_)
          refine s_run X ok_X1_farthestCell 15 1 (pc' := 36) (vs' := [some (.ref p0), some (.int p1), some (.int x13), some (.int x14), some (.int x6), some (.int x15), none]) (st' := [.int p1, .int v20]) rfl ?_
          refine s_jn (κ := Int32 → Option (Int32)) (fun k22 => ∀ (x21 : Int32), Jd C 7 (QJ C oI (fun _ => S)) S 55 [some (.ref p0), some (.int p1), some (.int x13), some (.int x14), some (.int x6), some (.int x15), none] [.int x21] (k22 x21)) (fun x21 => ?_) (fun k22 h23 => ?_)
          · refine s_run X ok_X1_farthestCell 22 3 (pc' := 60) (vs' := [some (.ref p0), some (.int p1), some (.int x13), some (.int x14), some (.int x6), some (.int x15), some (.int x21)]) (st' := [.int x14, .int x21]) rfl ?_
            refine s_jn (κ := Int32 → Int32 → Option (Int32)) (fun k26 => ∀ (x24 : Int32) (x25 : Int32), Jd C 7 (QJ C oI (fun _ => S)) S 74 [some (.ref p0), some (.int p1), some (.int x24), some (.int x25), some (.int x6), some (.int x15), none] [] (k26 x24 x25)) (fun x24 x25 => ?_) (fun k26 h27 => ?_)
            · refine s_run X ok_X1_farthestCell 30 2 (pc' := 17) (vs' := [some (.ref p0), some (.int p1), some (.int x24), some (.int x25), some (.int x6), some (.int (x15 + 1)), none]) (st' := []) rfl ?_
              exact h17 x24 x25 (x15 + 1)
            · refine s_icmp_le (tgt := 74) X (dk okd_X1_farthestCell 7 rfl) (by decide) ?_ ?_
              · exact s_less [true, true, true, true, true, true, false] rfl (h27 x13 x14)
              · refine s_run X ok_X1_farthestCell 25 4 (pc' := 70) (vs' := [some (.ref p0), some (.int p1), some (.int x13), some (.int x21), some (.int x6), some (.int x15), some (.int x21)]) (st' := [.int x6, .int x15]) rfl ?_
                refine s_callN (rest := []) X E mn_X1_92 (c_X11_cellCode S x15 x6) (ta0) rfl rfl (Nat.le_of_ble_eq_true rfl) (Nat.le_of_ble_eq_true rfl) (Nat.le_of_ble_eq_true rfl) (dk okd_X1_farthestCell 8 rfl) (st' := fun v28 => [.int v28]) (fun _ => rfl) (fun v28 => ?_)
                refine s_run X ok_X1_farthestCell 29 1 (pc' := 74) (vs' := [some (.ref p0), some (.int p1), some (.int v28), some (.int x21), some (.int x6), some (.int x15), some (.int x21)]) (st' := []) rfl ?_
                exact s_less [true, true, true, true, true, true, false] rfl (h27 v28 x21)
          · refine s_icmp_ne (tgt := 54) X (dk okd_X1_farthestCell 4 rfl) (by decide) ?_ ?_
            · refine s_run X ok_X1_farthestCell 21 1 (pc' := 55) (vs' := [some (.ref p0), some (.int p1), some (.int x13), some (.int x14), some (.int x6), some (.int x15), none]) (st' := [.int 0]) rfl ?_
              exact h23 0
            · refine s_run X ok_X1_farthestCell 16 1 (pc' := 40) (vs' := [some (.ref p0), some (.int p1), some (.int x13), some (.int x14), some (.int x6), some (.int x15), none]) (st' := [.ref p0]) rfl ?_
              refine s_getR X fl_X1_28 t0_ (dk okd_X1_farthestCell 5 rfl) (fun a29 (t30 : tT C a29 6) => ?_)
              refine s_run X ok_X1_farthestCell 17 3 (pc' := 48) (vs' := [some (.ref p0), some (.int p1), some (.int x13), some (.int x14), some (.int x6), some (.int x15), none]) (st' := [.int x6, .int x15, .int (-1), .ref a29]) rfl ?_
              refine s_callV (rest := []) X E mv_X1_88 (c_X6_nearest S a29 (-1) x15 x6) (ta1 t30) rfl (by decide) t30 rfl rfl (Nat.le_of_ble_eq_true rfl) (Nat.le_of_ble_eq_true rfl) (Nat.le_of_ble_eq_true rfl) (dk okd_X1_farthestCell 6 rfl) (st' := fun v31 => [.int v31]) (fun _ => rfl) (fun v31 => ?_)
              refine s_run X ok_X1_farthestCell 20 1 (pc' := 55) (vs' := [some (.ref p0), some (.int p1), some (.int x13), some (.int x14), some (.int x6), some (.int x15), none]) (st' := [.int v31]) rfl ?_
              exact h23 v31
def tab_X1_cellsWithin : List En := [(0, 0, 0, 0), (1, 10, 3, 0), (2, 0, 0, 0), (3, 11, 4, 0), (5, 5, 4, 0), (7, 1, 0, 30), (12, 0, 0, 0), (13, 11, 5, 0), (15, 5, 5, 0), (17, 1, 0, 30), (22, 8, 0, 0), (26, 5, 5, 0), (28, 5, 4, 0), (33, 4, 1, 0), (37, 8, 0, 0), (41, 4, 1, 0), (42, 5, 5, 0), (44, 5, 4, 0), (49, 4, 2, 0), (53, 16, 3, 1), (56, 16, 5, 1), (59, 41, 15, 0), (62, 16, 4, 1), (65, 41, 5, 0), (68, 4, 3, 0)]
theorem ok_X1_cellsWithin : tab_X1_cellsWithin.all (okE cX1_cellsWithin) = true := by decide +kernel
def ed_X1_cellsWithin : List (Nat × Instr × Nat) := [(9, .if_icmp .ge 59, 3), (19, .if_icmp .ge 43, 3), (23, .getfield 21, 3), (30, .invokevirtual 84, 3), (34, .if_icmp .ne 22, 3), (38, .getfield 28, 3), (46, .invokevirtual 88, 3), (50, .if_icmp .gt 6, 3), (69, .ireturn, 1)]
theorem okd_X1_cellsWithin : ed_X1_cellsWithin.all (okD cX1_cellsWithin) = true := by decide +kernel
def f_X1_cellsWithin (S : St) (p0 : Nat) (p1 : Int32) (p2 : Int32) : Option (Int32) := jn (κ := Int32 → Option (Int32)) (fun x1 => some x1) fun k2 => lp (κ := Int32 → Int32 → Option (Int32)) (fun _ _ => none) (fun k6 x4 x5 => if 30 ≤ x5 then (k2 x4) else (jn (κ := Int32 → Option (Int32)) (fun x8 => k6 x8 (x5 + 1)) fun k9 => lp (κ := Int32 → Int32 → Option (Int32)) (fun _ _ => none) (fun k13 x11 x12 => if 30 ≤ x12 then (k9 x11) else (lt (gR S p0 1) fun (a15 : Nat) => cl (f_X3_ownerAt S a15 x12 x5) fun (v17 : Int32) => jn (κ := Int32 → Option (Int32)) (fun x18 => k13 x18 (x12 + 1)) fun k19 => if v17 = p1 then (lt (gR S p0 2) fun (a21 : Nat) => cl (f_X6_nearest S a21 p1 x12 x5) fun (v23 : Int32) => if p2 < v23 then (k19 x11) else (k19 (x11 + 1))) else (k19 x11))) FU x4 0)) FU 0 0
set_option maxHeartbeats 4000000 in
set_option maxRecDepth 100000 in
theorem c_X1_cellsWithin (S : St) (p0 : Nat) (p1 : Int32) (p2 : Int32) : Ct yX1_cellsWithin cX1_cellsWithin 6 (some .int) 3 68 [.ref p0, .int p1, .int p2] [(p0, 1)] S (f_X1_cellsWithin S p0 p1 p2) oI (fun _ => S) := by
  refine Ct_of RX1 rfl (by decide) (Nat.le_of_ble_eq_true rfl) 3 (vs := [some (.ref p0), some (.int p1), some (.int p2), none, none, none]) rfl (fun C X E hr ht => ?_)
  have t0_ : tT C p0 1 := ht (p0, 1) (by simp)
  unfold f_X1_cellsWithin
  refine s_run X ok_X1_cellsWithin 0 4 (pc' := 5) (vs' := [some (.ref p0), some (.int p1), some (.int p2), some (.int 0), some (.int 0), none]) (st' := []) rfl ?_
  refine s_jn (κ := Int32 → Option (Int32)) (fun k2 => ∀ (x1 : Int32), Jd C 6 (QJ C oI (fun _ => S)) S 68 [none, none, none, some (.int x1), none, none] [] (k2 x1)) (fun x1 => ?_) (fun k2 h3 => ?_)
  · refine s_run X ok_X1_cellsWithin 24 1 (pc' := 69) (vs' := [none, none, none, some (.int x1), none, none]) (st' := [.int x1]) rfl ?_
    exact s_iret X hr (dk okd_X1_cellsWithin 8 rfl) rfl rfl
  · refine s_lp (κ := Int32 → Int32 → Option (Int32)) (fun k6 => ∀ (x4 : Int32) (x5 : Int32), Jd C 6 (QJ C oI (fun _ => S)) S 5 [some (.ref p0), some (.int p1), some (.int p2), some (.int x4), some (.int x5), none] [] (k6 x4 x5)) (fun _ _ => s_none) (fun k6 h7 x4 x5 => ?_) FU 0 0
    refine s_run X ok_X1_cellsWithin 4 2 (pc' := 9) (vs' := [some (.ref p0), some (.int p1), some (.int p2), some (.int x4), some (.int x5), none]) (st' := [.int 30, .int x5]) rfl ?_
    refine s_icmp_ge (tgt := 68) X (dk okd_X1_cellsWithin 0 rfl) (by decide) ?_ ?_
    · exact s_less [false, false, false, true, false, false] rfl (h3 x4)
    · refine s_run X ok_X1_cellsWithin 6 2 (pc' := 15) (vs' := [some (.ref p0), some (.int p1), some (.int p2), some (.int x4), some (.int x5), some (.int 0)]) (st' := []) rfl ?_
      refine s_jn (κ := Int32 → Option (Int32)) (fun k9 => ∀ (x8 : Int32), Jd C 6 (QJ C oI (fun _ => S)) S 62 [some (.ref p0), some (.int p1), some (.int p2), some (.int x8), some (.int x5), none] [] (k9 x8)) (fun x8 => ?_) (fun k9 h10 => ?_)
      · refine s_run X ok_X1_cellsWithin 22 2 (pc' := 5) (vs' := [some (.ref p0), some (.int p1), some (.int p2), some (.int x8), some (.int (x5 + 1)), none]) (st' := []) rfl ?_
        exact h7 x8 (x5 + 1)
      · refine s_lp (κ := Int32 → Int32 → Option (Int32)) (fun k13 => ∀ (x11 : Int32) (x12 : Int32), Jd C 6 (QJ C oI (fun _ => S)) S 15 [some (.ref p0), some (.int p1), some (.int p2), some (.int x11), some (.int x5), some (.int x12)] [] (k13 x11 x12)) (fun _ _ => s_none) (fun k13 h14 x11 x12 => ?_) FU x4 0
        refine s_run X ok_X1_cellsWithin 8 2 (pc' := 19) (vs' := [some (.ref p0), some (.int p1), some (.int p2), some (.int x11), some (.int x5), some (.int x12)]) (st' := [.int 30, .int x12]) rfl ?_
        refine s_icmp_ge (tgt := 62) X (dk okd_X1_cellsWithin 1 rfl) (by decide) ?_ ?_
        · exact s_less [true, true, true, true, true, false] rfl (h10 x11)
        · refine s_run X ok_X1_cellsWithin 10 1 (pc' := 23) (vs' := [some (.ref p0), some (.int p1), some (.int p2), some (.int x11), some (.int x5), some (.int x12)]) (st' := [.ref p0]) rfl ?_
          refine s_getR X fl_X1_21 t0_ (dk okd_X1_cellsWithin 2 rfl) (fun a15 (t16 : tT C a15 3) => ?_)
          refine s_run X ok_X1_cellsWithin 11 2 (pc' := 30) (vs' := [some (.ref p0), some (.int p1), some (.int p2), some (.int x11), some (.int x5), some (.int x12)]) (st' := [.int x5, .int x12, .ref a15]) rfl ?_
          refine s_callV (rest := []) X E mv_X1_84 (c_X3_ownerAt S a15 x12 x5) (ta1 t16) rfl (by decide) t16 rfl rfl (Nat.le_of_ble_eq_true rfl) (Nat.le_of_ble_eq_true rfl) (Nat.le_of_ble_eq_true rfl) (dk okd_X1_cellsWithin 3 rfl) (st' := fun v17 => [.int v17]) (fun _ => rfl) (fun v17 => ?_)
          refine s_run X ok_X1_cellsWithin 13 1 (pc' := 34) (vs' := [some (.ref p0), some (.int p1), some (.int p2), some (.int x11), some (.int x5), some (.int x12)]) (st' := [.int p1, .int v17]) rfl ?_
          refine s_jn (κ := Int32 → Option (Int32)) (fun k19 => ∀ (x18 : Int32), Jd C 6 (QJ C oI (fun _ => S)) S 56 [some (.ref p0), some (.int p1), some (.int p2), some (.int x18), some (.int x5), some (.int x12)] [] (k19 x18)) (fun x18 => ?_) (fun k19 h20 => ?_)
          · refine s_run X ok_X1_cellsWithin 20 2 (pc' := 15) (vs' := [some (.ref p0), some (.int p1), some (.int p2), some (.int x18), some (.int x5), some (.int (x12 + 1))]) (st' := []) rfl ?_
            exact h14 x18 (x12 + 1)
          · refine s_icmp_ne (tgt := 56) X (dk okd_X1_cellsWithin 4 rfl) (by decide) ?_ ?_
            · exact h20 x11
            · refine s_run X ok_X1_cellsWithin 14 1 (pc' := 38) (vs' := [some (.ref p0), some (.int p1), some (.int p2), some (.int x11), some (.int x5), some (.int x12)]) (st' := [.ref p0]) rfl ?_
              refine s_getR X fl_X1_28 t0_ (dk okd_X1_cellsWithin 5 rfl) (fun a21 (t22 : tT C a21 6) => ?_)
              refine s_run X ok_X1_cellsWithin 15 3 (pc' := 46) (vs' := [some (.ref p0), some (.int p1), some (.int p2), some (.int x11), some (.int x5), some (.int x12)]) (st' := [.int x5, .int x12, .int p1, .ref a21]) rfl ?_
              refine s_callV (rest := []) X E mv_X1_88 (c_X6_nearest S a21 p1 x12 x5) (ta1 t22) rfl (by decide) t22 rfl rfl (Nat.le_of_ble_eq_true rfl) (Nat.le_of_ble_eq_true rfl) (Nat.le_of_ble_eq_true rfl) (dk okd_X1_cellsWithin 6 rfl) (st' := fun v23 => [.int v23]) (fun _ => rfl) (fun v23 => ?_)
              refine s_run X ok_X1_cellsWithin 18 1 (pc' := 50) (vs' := [some (.ref p0), some (.int p1), some (.int p2), some (.int x11), some (.int x5), some (.int x12)]) (st' := [.int p2, .int v23]) rfl ?_
              refine s_icmp_gt (tgt := 56) X (dk okd_X1_cellsWithin 7 rfl) (by decide) ?_ ?_
              · exact h20 x11
              · refine s_run X ok_X1_cellsWithin 19 1 (pc' := 56) (vs' := [some (.ref p0), some (.int p1), some (.int p2), some (.int (x11 + 1)), some (.int x5), some (.int x12)]) (st' := []) rfl ?_
                exact h20 (x11 + 1)
def tab_X1_cellsNearerTo : List En := [(0, 0, 0, 0), (1, 10, 3, 0), (2, 0, 0, 0), (3, 11, 4, 0), (5, 5, 4, 0), (7, 1, 0, 30), (12, 0, 0, 0), (13, 11, 5, 0), (15, 5, 5, 0), (17, 1, 0, 30), (22, 8, 0, 0), (26, 5, 5, 0), (28, 5, 4, 0), (33, 4, 1, 0), (37, 8, 0, 0), (41, 4, 2, 0), (42, 5, 5, 0), (44, 5, 4, 0), (49, 8, 0, 0), (53, 4, 1, 0), (54, 5, 5, 0), (56, 5, 4, 0), (64, 16, 3, 1), (67, 16, 5, 1), (70, 41, 15, 0), (73, 16, 4, 1), (76, 41, 5, 0), (79, 4, 3, 0)]
theorem ok_X1_cellsNearerTo : tab_X1_cellsNearerTo.all (okE cX1_cellsNearerTo) = true := by decide +kernel
def ed_X1_cellsNearerTo : List (Nat × Instr × Nat) := [(9, .if_icmp .ge 70, 3), (19, .if_icmp .ge 54, 3), (23, .getfield 21, 3), (30, .invokevirtual 84, 3), (34, .if_icmp .ne 33, 3), (38, .getfield 28, 3), (46, .invokevirtual 88, 3), (50, .getfield 28, 3), (58, .invokevirtual 88, 3), (61, .if_icmp .ge 6, 3), (80, .ireturn, 1)]
theorem okd_X1_cellsNearerTo : ed_X1_cellsNearerTo.all (okD cX1_cellsNearerTo) = true := by decide +kernel
def f_X1_cellsNearerTo (S : St) (p0 : Nat) (p1 : Int32) (p2 : Int32) : Option (Int32) := jn (κ := Int32 → Option (Int32)) (fun x1 => some x1) fun k2 => lp (κ := Int32 → Int32 → Option (Int32)) (fun _ _ => none) (fun k6 x4 x5 => if 30 ≤ x5 then (k2 x4) else (jn (κ := Int32 → Option (Int32)) (fun x8 => k6 x8 (x5 + 1)) fun k9 => lp (κ := Int32 → Int32 → Option (Int32)) (fun _ _ => none) (fun k13 x11 x12 => if 30 ≤ x12 then (k9 x11) else (lt (gR S p0 1) fun (a15 : Nat) => cl (f_X3_ownerAt S a15 x12 x5) fun (v17 : Int32) => jn (κ := Int32 → Option (Int32)) (fun x18 => k13 x18 (x12 + 1)) fun k19 => if v17 = p1 then (lt (gR S p0 2) fun (a21 : Nat) => cl (f_X6_nearest S a21 p2 x12 x5) fun (v23 : Int32) => lt (gR S p0 2) fun (a24 : Nat) => cl (f_X6_nearest S a24 p1 x12 x5) fun (v26 : Int32) => if v26 ≤ v23 then (k19 x11) else (k19 (x11 + 1))) else (k19 x11))) FU x4 0)) FU 0 0
set_option maxHeartbeats 4000000 in
set_option maxRecDepth 100000 in
theorem c_X1_cellsNearerTo (S : St) (p0 : Nat) (p1 : Int32) (p2 : Int32) : Ct yX1_cellsNearerTo cX1_cellsNearerTo 6 (some .int) 3 68 [.ref p0, .int p1, .int p2] [(p0, 1)] S (f_X1_cellsNearerTo S p0 p1 p2) oI (fun _ => S) := by
  refine Ct_of RX1 rfl (by decide) (Nat.le_of_ble_eq_true rfl) 3 (vs := [some (.ref p0), some (.int p1), some (.int p2), none, none, none]) rfl (fun C X E hr ht => ?_)
  have t0_ : tT C p0 1 := ht (p0, 1) (by simp)
  unfold f_X1_cellsNearerTo
  refine s_run X ok_X1_cellsNearerTo 0 4 (pc' := 5) (vs' := [some (.ref p0), some (.int p1), some (.int p2), some (.int 0), some (.int 0), none]) (st' := []) rfl ?_
  refine s_jn (κ := Int32 → Option (Int32)) (fun k2 => ∀ (x1 : Int32), Jd C 6 (QJ C oI (fun _ => S)) S 79 [none, none, none, some (.int x1), none, none] [] (k2 x1)) (fun x1 => ?_) (fun k2 h3 => ?_)
  · refine s_run X ok_X1_cellsNearerTo 27 1 (pc' := 80) (vs' := [none, none, none, some (.int x1), none, none]) (st' := [.int x1]) rfl ?_
    exact s_iret X hr (dk okd_X1_cellsNearerTo 10 rfl) rfl rfl
  · refine s_lp (κ := Int32 → Int32 → Option (Int32)) (fun k6 => ∀ (x4 : Int32) (x5 : Int32), Jd C 6 (QJ C oI (fun _ => S)) S 5 [some (.ref p0), some (.int p1), some (.int p2), some (.int x4), some (.int x5), none] [] (k6 x4 x5)) (fun _ _ => s_none) (fun k6 h7 x4 x5 => ?_) FU 0 0
    refine s_run X ok_X1_cellsNearerTo 4 2 (pc' := 9) (vs' := [some (.ref p0), some (.int p1), some (.int p2), some (.int x4), some (.int x5), none]) (st' := [.int 30, .int x5]) rfl ?_
    refine s_icmp_ge (tgt := 79) X (dk okd_X1_cellsNearerTo 0 rfl) (by decide) ?_ ?_
    · exact s_less [false, false, false, true, false, false] rfl (h3 x4)
    · refine s_run X ok_X1_cellsNearerTo 6 2 (pc' := 15) (vs' := [some (.ref p0), some (.int p1), some (.int p2), some (.int x4), some (.int x5), some (.int 0)]) (st' := []) rfl ?_
      refine s_jn (κ := Int32 → Option (Int32)) (fun k9 => ∀ (x8 : Int32), Jd C 6 (QJ C oI (fun _ => S)) S 73 [some (.ref p0), some (.int p1), some (.int p2), some (.int x8), some (.int x5), none] [] (k9 x8)) (fun x8 => ?_) (fun k9 h10 => ?_)
      · refine s_run X ok_X1_cellsNearerTo 25 2 (pc' := 5) (vs' := [some (.ref p0), some (.int p1), some (.int p2), some (.int x8), some (.int (x5 + 1)), none]) (st' := []) rfl ?_
        exact h7 x8 (x5 + 1)
      · refine s_lp (κ := Int32 → Int32 → Option (Int32)) (fun k13 => ∀ (x11 : Int32) (x12 : Int32), Jd C 6 (QJ C oI (fun _ => S)) S 15 [some (.ref p0), some (.int p1), some (.int p2), some (.int x11), some (.int x5), some (.int x12)] [] (k13 x11 x12)) (fun _ _ => s_none) (fun k13 h14 x11 x12 => ?_) FU x4 0
        refine s_run X ok_X1_cellsNearerTo 8 2 (pc' := 19) (vs' := [some (.ref p0), some (.int p1), some (.int p2), some (.int x11), some (.int x5), some (.int x12)]) (st' := [.int 30, .int x12]) rfl ?_
        refine s_icmp_ge (tgt := 73) X (dk okd_X1_cellsNearerTo 1 rfl) (by decide) ?_ ?_
        · exact s_less [true, true, true, true, true, false] rfl (h10 x11)
        · refine s_run X ok_X1_cellsNearerTo 10 1 (pc' := 23) (vs' := [some (.ref p0), some (.int p1), some (.int p2), some (.int x11), some (.int x5), some (.int x12)]) (st' := [.ref p0]) rfl ?_
          refine s_getR X fl_X1_21 t0_ (dk okd_X1_cellsNearerTo 2 rfl) (fun a15 (t16 : tT C a15 3) => ?_)
          refine s_run X ok_X1_cellsNearerTo 11 2 (pc' := 30) (vs' := [some (.ref p0), some (.int p1), some (.int p2), some (.int x11), some (.int x5), some (.int x12)]) (st' := [.int x5, .int x12, .ref a15]) rfl ?_
          refine s_callV (rest := []) X E mv_X1_84 (c_X3_ownerAt S a15 x12 x5) (ta1 t16) rfl (by decide) t16 rfl rfl (Nat.le_of_ble_eq_true rfl) (Nat.le_of_ble_eq_true rfl) (Nat.le_of_ble_eq_true rfl) (dk okd_X1_cellsNearerTo 3 rfl) (st' := fun v17 => [.int v17]) (fun _ => rfl) (fun v17 => ?_)
          refine s_run X ok_X1_cellsNearerTo 13 1 (pc' := 34) (vs' := [some (.ref p0), some (.int p1), some (.int p2), some (.int x11), some (.int x5), some (.int x12)]) (st' := [.int p1, .int v17]) rfl ?_
          refine s_jn (κ := Int32 → Option (Int32)) (fun k19 => ∀ (x18 : Int32), Jd C 6 (QJ C oI (fun _ => S)) S 67 [some (.ref p0), some (.int p1), some (.int p2), some (.int x18), some (.int x5), some (.int x12)] [] (k19 x18)) (fun x18 => ?_) (fun k19 h20 => ?_)
          · refine s_run X ok_X1_cellsNearerTo 23 2 (pc' := 15) (vs' := [some (.ref p0), some (.int p1), some (.int p2), some (.int x18), some (.int x5), some (.int (x12 + 1))]) (st' := []) rfl ?_
            exact h14 x18 (x12 + 1)
          · refine s_icmp_ne (tgt := 67) X (dk okd_X1_cellsNearerTo 4 rfl) (by decide) ?_ ?_
            · exact h20 x11
            · refine s_run X ok_X1_cellsNearerTo 14 1 (pc' := 38) (vs' := [some (.ref p0), some (.int p1), some (.int p2), some (.int x11), some (.int x5), some (.int x12)]) (st' := [.ref p0]) rfl ?_
              refine s_getR X fl_X1_28 t0_ (dk okd_X1_cellsNearerTo 5 rfl) (fun a21 (t22 : tT C a21 6) => ?_)
              refine s_run X ok_X1_cellsNearerTo 15 3 (pc' := 46) (vs' := [some (.ref p0), some (.int p1), some (.int p2), some (.int x11), some (.int x5), some (.int x12)]) (st' := [.int x5, .int x12, .int p2, .ref a21]) rfl ?_
              refine s_callV (rest := []) X E mv_X1_88 (c_X6_nearest S a21 p2 x12 x5) (ta1 t22) rfl (by decide) t22 rfl rfl (Nat.le_of_ble_eq_true rfl) (Nat.le_of_ble_eq_true rfl) (Nat.le_of_ble_eq_true rfl) (dk okd_X1_cellsNearerTo 6 rfl) (st' := fun v23 => [.int v23]) (fun _ => rfl) (fun v23 => ?_)
              refine s_run X ok_X1_cellsNearerTo 18 1 (pc' := 50) (vs' := [some (.ref p0), some (.int p1), some (.int p2), some (.int x11), some (.int x5), some (.int x12)]) (st' := [.ref p0, .int v23]) rfl ?_
              refine s_getR X fl_X1_28 t0_ (dk okd_X1_cellsNearerTo 7 rfl) (fun a24 (t25 : tT C a24 6) => ?_)
              refine s_run X ok_X1_cellsNearerTo 19 3 (pc' := 58) (vs' := [some (.ref p0), some (.int p1), some (.int p2), some (.int x11), some (.int x5), some (.int x12)]) (st' := [.int x5, .int x12, .int p1, .ref a24, .int v23]) rfl ?_
              refine s_callV (rest := [.int v23]) X E mv_X1_88 (c_X6_nearest S a24 p1 x12 x5) (ta1 t25) rfl (by decide) t25 rfl rfl (Nat.le_of_ble_eq_true rfl) (Nat.le_of_ble_eq_true rfl) (Nat.le_of_ble_eq_true rfl) (dk okd_X1_cellsNearerTo 8 rfl) (st' := fun v26 => [.int v26, .int v23]) (fun _ => rfl) (fun v26 => ?_)
              refine s_icmp_ge (tgt := 67) X (dk okd_X1_cellsNearerTo 9 rfl) (by decide) ?_ ?_
              · exact h20 x11
              · refine s_run X ok_X1_cellsNearerTo 22 1 (pc' := 67) (vs' := [some (.ref p0), some (.int p1), some (.int p2), some (.int (x11 + 1)), some (.int x5), some (.int x12)]) (st' := []) rfl ?_
                exact h20 (x11 + 1)
def tab_X1_calculate : List En := [(0, 8, 0, 0), (4, 3, 0, 0), (8, 8, 0, 0), (12, 4, 1, 0), (20, 8, 0, 0), (27, 4, 1, 0), (29, 11, 4, 0), (31, 8, 0, 0), (35, 0, 0, 0), (36, 8, 0, 0), (40, 5, 4, 0), (42, 6, 2, 0), (47, 8, 0, 0), (51, 0, 0, 1), (52, 8, 0, 0), (56, 5, 4, 0), (58, 6, 2, 0), (63, 8, 0, 0), (67, 0, 0, 2), (68, 8, 0, 0), (69, 8, 0, 0), (73, 4, 1, 0), (81, 8, 0, 0), (85, 0, 0, 3), (86, 8, 0, 0), (87, 4, 1, 0), (92, 8, 0, 0), (96, 0, 0, 4), (97, 8, 0, 0), (98, 4, 1, 0), (103, 8, 0, 0), (107, 0, 0, 5), (108, 8, 0, 0), (112, 0, 0, 0), (114, 8, 0, 0), (118, 0, 0, 1), (120, 23, 0, 0), (121, 8, 0, 0), (125, 0, 0, 2), (127, 23, 0, 0), (128, 8, 0, 0), (132, 0, 0, 3), (134, 23, 0, 0), (135, 8, 0, 0), (139, 0, 0, 4), (141, 24, 0, 0)]
theorem ok_X1_calculate : tab_X1_calculate.all (okE cX1_calculate) = true := by decide +kernel
def ed_X1_calculate : List (Nat × Instr × Nat) := [(1, .getfield 53, 3), (5, .invokestatic 142, 3), (9, .getfield 35, 3), (13, .invokevirtual 108, 3), (16, .ifCond .ne 4, 3), (19, .return_, 1), (21, .getfield 35, 3), (24, .getfield 148, 3), (28, .iaload, 1), (32, .getfield 53, 3), (37, .getfield 12, 3), (43, .invokevirtual 151, 3), (46, .lastore, 1), (48, .getfield 53, 3), (53, .getfield 12, 3), (59, .invokevirtual 155, 3), (62, .lastore, 1), (64, .getfield 53, 3), (70, .getfield 35, 3), (74, .invokevirtual 158, 3), (77, .invokevirtual 162, 3), (80, .lastore, 1), (82, .getfield 53, 3), (88, .invokevirtual 166, 3), (91, .lastore, 1), (93, .getfield 53, 3), (99, .invokevirtual 169, 3), (102, .lastore, 1), (104, .getfield 53, 3), (109, .getfield 53, 3), (113, .laload, 1), (115, .getfield 53, 3), (119, .laload, 1), (122, .getfield 53, 3), (126, .laload, 1), (129, .getfield 53, 3), (133, .laload, 1), (136, .getfield 53, 3), (140, .laload, 1), (142, .lastore, 1), (143, .return_, 1)]
theorem okd_X1_calculate : ed_X1_calculate.all (okD cX1_calculate) = true := by decide +kernel
def f_X1_calculate (S : St) (p0 : Nat) (p1 : Int32) (p2 : Int64) : Option (St) := lt (gR S p0 6) fun (a1 : Nat) => cl (f_J7_fill_d0a16 S a1 0) fun (S3 : St) => lt (gR S3 p0 3) fun (a4 : Nat) => cl (f_X2_isActive S3 a4 p1) fun (v6 : Int32) => if v6 = 0 then (some S3) else (lt (gR S3 p0 3) fun (a7 : Nat) => lt (gR S3 a7 2) fun (a9 : Nat) => ldI S3 a9 p1 fun (v11 : Int32) => lt (gR S3 p0 6) fun (a12 : Nat) => lt (gR S3 p0 0) fun (a14 : Nat) => cl (f_X8_royaltyFor S3 a14 v11 p2) fun (v16 : Int64) => stJ S3 a12 0 v16 fun (S17 : St) => lt (gR S17 p0 6) fun (a18 : Nat) => lt (gR S17 p0 0) fun (a20 : Nat) => cl (f_X8_contributionFor S17 a20 v11 p2) fun (v22 : Int64) => stJ S17 a18 1 v22 fun (S23 : St) => lt (gR S23 p0 6) fun (a24 : Nat) => lt (gR S23 p0 3) fun (a26 : Nat) => cl (f_X2_owedBy S23 a26 p1) fun (v28 : Int64) => cl (f_X1_interestOn S23 p0 v28) fun (v29 : Int64) => stJ S23 a24 2 v29 fun (S30 : St) => lt (gR S30 p0 6) fun (a31 : Nat) => cl (f_X1_creditsPaid S30 p0 p1) fun (v33 : Int64) => stJ S30 a31 3 v33 fun (S34 : St) => lt (gR S34 p0 6) fun (a35 : Nat) => cl (f_X1_creditsReceived S34 p0 p1) fun (v37 : Int64) => stJ S34 a35 4 v37 fun (S38 : St) => lt (gR S38 p0 6) fun (a39 : Nat) => lt (gR S38 p0 6) fun (a41 : Nat) => ldJ S38 a41 0 fun (v43 : Int64) => lt (gR S38 p0 6) fun (a44 : Nat) => ldJ S38 a44 1 fun (v46 : Int64) => lt (gR S38 p0 6) fun (a47 : Nat) => ldJ S38 a47 2 fun (v49 : Int64) => lt (gR S38 p0 6) fun (a50 : Nat) => ldJ S38 a50 3 fun (v52 : Int64) => lt (gR S38 p0 6) fun (a53 : Nat) => ldJ S38 a53 4 fun (v55 : Int64) => stJ S38 a39 5 ((((v43 + v46) + v49) + v52) - v55) fun (S56 : St) => some S56)
set_option maxHeartbeats 4000000 in
set_option maxRecDepth 100000 in
theorem c_X1_calculate (S : St) (p0 : Nat) (p1 : Int32) (p2 : Int64) : Ct yX1_calculate cX1_calculate 5 none 3 69 [.ref p0, .int p1, .long p2] [(p0, 1)] S (f_X1_calculate S p0 p1 p2) oV sV := by
  refine Ct_of RX1 rfl (by decide) (Nat.le_of_ble_eq_true rfl) 1 (vs := [some (.ref p0), some (.int p1), some (.long p2), none, none]) rfl (fun C X E hr ht => ?_)
  have t0_ : tT C p0 1 := ht (p0, 1) (by simp)
  unfold f_X1_calculate
  refine s_run X ok_X1_calculate 0 1 (pc' := 1) (vs' := [some (.ref p0), some (.int p1), some (.long p2), none, none]) (st' := [.ref p0]) rfl ?_
  refine s_getR X fl_X1_53 t0_ (dk okd_X1_calculate 0 rfl) (fun a1 (t2 : tT C a1 14) => ?_)
  refine s_run X ok_X1_calculate 1 1 (pc' := 5) (vs' := [some (.ref p0), some (.int p1), some (.long p2), none, none]) (st' := [.long 0, .ref a1]) rfl ?_
  refine s_callS (rest := []) X E ms_X1_142 (c_J7_fill_d0a16 S a1 0) (ta1 t2) rfl rfl (Nat.le_of_ble_eq_true rfl) (Nat.le_of_ble_eq_true rfl) (Nat.le_of_ble_eq_true rfl) (dk okd_X1_calculate 1 rfl) (st' := fun S3 => []) (fun _ => rfl) (fun S3 => ?_)
  refine s_run X ok_X1_calculate 2 1 (pc' := 9) (vs' := [some (.ref p0), some (.int p1), some (.long p2), none, none]) (st' := [.ref p0]) rfl ?_
  refine s_getR X fl_X1_35 t0_ (dk okd_X1_calculate 2 rfl) (fun a4 (t5 : tT C a4 2) => ?_)
  refine s_run X ok_X1_calculate 3 1 (pc' := 13) (vs' := [some (.ref p0), some (.int p1), some (.long p2), none, none]) (st' := [.int p1, .ref a4]) rfl ?_
  refine s_callV (rest := []) X E mv_X1_108 (c_X2_isActive S3 a4 p1) (ta1 t5) rfl (by decide) t5 rfl rfl (Nat.le_of_ble_eq_true rfl) (Nat.le_of_ble_eq_true rfl) (Nat.le_of_ble_eq_true rfl) (dk okd_X1_calculate 3 rfl) (st' := fun v6 => [.int v6]) (fun _ => rfl) (fun v6 => ?_)
  refine s_if_ne (tgt := 20) X (dk okd_X1_calculate 4 rfl) (by decide) ?_ ?_
  · refine s_run X ok_X1_calculate 4 1 (pc' := 21) (vs' := [some (.ref p0), some (.int p1), some (.long p2), none, none]) (st' := [.ref p0]) rfl ?_
    refine s_getR X fl_X1_35 t0_ (dk okd_X1_calculate 6 rfl) (fun a7 (t8 : tT C a7 2) => ?_)
    refine s_getR X fl_X1_148 t8 (dk okd_X1_calculate 7 rfl) (fun a9 (t10 : tT C a9 13) => ?_)
    refine s_run X ok_X1_calculate 5 1 (pc' := 28) (vs' := [some (.ref p0), some (.int p1), some (.long p2), none, none]) (st' := [.int p1, .ref a9]) rfl ?_
    refine s_iald X t10 (dk okd_X1_calculate 8 rfl) (fun v11 => ?_)
    refine s_run X ok_X1_calculate 6 2 (pc' := 32) (vs' := [some (.ref p0), some (.int p1), some (.long p2), none, some (.int v11)]) (st' := [.ref p0]) rfl ?_
    refine s_getR X fl_X1_53 t0_ (dk okd_X1_calculate 9 rfl) (fun a12 (t13 : tT C a12 14) => ?_)
    refine s_run X ok_X1_calculate 8 2 (pc' := 37) (vs' := [some (.ref p0), some (.int p1), some (.long p2), none, some (.int v11)]) (st' := [.ref p0, .int 0, .ref a12]) rfl ?_
    refine s_getR X fl_X1_12 t0_ (dk okd_X1_calculate 10 rfl) (fun a14 (t15 : tT C a14 7) => ?_)
    refine s_run X ok_X1_calculate 10 2 (pc' := 43) (vs' := [some (.ref p0), some (.int p1), some (.long p2), none, some (.int v11)]) (st' := [.long p2, .int v11, .ref a14, .int 0, .ref a12]) rfl ?_
    refine s_callV (rest := [.int 0, .ref a12]) X E mv_X1_151 (c_X8_royaltyFor S3 a14 v11 p2) (ta1 t15) rfl (by decide) t15 rfl rfl (Nat.le_of_ble_eq_true rfl) (Nat.le_of_ble_eq_true rfl) (Nat.le_of_ble_eq_true rfl) (dk okd_X1_calculate 11 rfl) (st' := fun v16 => [.long v16, .int 0, .ref a12]) (fun _ => rfl) (fun v16 => ?_)
    refine s_last X t13 (dk okd_X1_calculate 12 rfl) (fun S17 => ?_)
    refine s_run X ok_X1_calculate 12 1 (pc' := 48) (vs' := [some (.ref p0), some (.int p1), some (.long p2), none, some (.int v11)]) (st' := [.ref p0]) rfl ?_
    refine s_getR X fl_X1_53 t0_ (dk okd_X1_calculate 13 rfl) (fun a18 (t19 : tT C a18 14) => ?_)
    refine s_run X ok_X1_calculate 13 2 (pc' := 53) (vs' := [some (.ref p0), some (.int p1), some (.long p2), none, some (.int v11)]) (st' := [.ref p0, .int 1, .ref a18]) rfl ?_
    refine s_getR X fl_X1_12 t0_ (dk okd_X1_calculate 14 rfl) (fun a20 (t21 : tT C a20 7) => ?_)
    refine s_run X ok_X1_calculate 15 2 (pc' := 59) (vs' := [some (.ref p0), some (.int p1), some (.long p2), none, some (.int v11)]) (st' := [.long p2, .int v11, .ref a20, .int 1, .ref a18]) rfl ?_
    refine s_callV (rest := [.int 1, .ref a18]) X E mv_X1_155 (c_X8_contributionFor S17 a20 v11 p2) (ta1 t21) rfl (by decide) t21 rfl rfl (Nat.le_of_ble_eq_true rfl) (Nat.le_of_ble_eq_true rfl) (Nat.le_of_ble_eq_true rfl) (dk okd_X1_calculate 15 rfl) (st' := fun v22 => [.long v22, .int 1, .ref a18]) (fun _ => rfl) (fun v22 => ?_)
    refine s_last X t19 (dk okd_X1_calculate 16 rfl) (fun S23 => ?_)
    refine s_run X ok_X1_calculate 17 1 (pc' := 64) (vs' := [some (.ref p0), some (.int p1), some (.long p2), none, some (.int v11)]) (st' := [.ref p0]) rfl ?_
    refine s_getR X fl_X1_53 t0_ (dk okd_X1_calculate 17 rfl) (fun a24 (t25 : tT C a24 14) => ?_)
    refine s_run X ok_X1_calculate 18 3 (pc' := 70) (vs' := [some (.ref p0), some (.int p1), some (.long p2), none, some (.int v11)]) (st' := [.ref p0, .ref p0, .int 2, .ref a24]) rfl ?_
    refine s_getR X fl_X1_35 t0_ (dk okd_X1_calculate 18 rfl) (fun a26 (t27 : tT C a26 2) => ?_)
    refine s_run X ok_X1_calculate 21 1 (pc' := 74) (vs' := [some (.ref p0), some (.int p1), some (.long p2), none, some (.int v11)]) (st' := [.int p1, .ref a26, .ref p0, .int 2, .ref a24]) rfl ?_
    refine s_callV (rest := [.ref p0, .int 2, .ref a24]) X E mv_X1_158 (c_X2_owedBy S23 a26 p1) (ta1 t27) rfl (by decide) t27 rfl rfl (Nat.le_of_ble_eq_true rfl) (Nat.le_of_ble_eq_true rfl) (Nat.le_of_ble_eq_true rfl) (dk okd_X1_calculate 19 rfl) (st' := fun v28 => [.long v28, .ref p0, .int 2, .ref a24]) (fun _ => rfl) (fun v28 => ?_)
    refine s_callV (rest := [.int 2, .ref a24]) X E mv_X1_162 (c_X1_interestOn S23 p0 v28) (ta1 t0_) rfl (by decide) t0_ rfl rfl (Nat.le_of_ble_eq_true rfl) (Nat.le_of_ble_eq_true rfl) (Nat.le_of_ble_eq_true rfl) (dk okd_X1_calculate 20 rfl) (st' := fun v29 => [.long v29, .int 2, .ref a24]) (fun _ => rfl) (fun v29 => ?_)
    refine s_last X t25 (dk okd_X1_calculate 21 rfl) (fun S30 => ?_)
    refine s_run X ok_X1_calculate 22 1 (pc' := 82) (vs' := [some (.ref p0), some (.int p1), some (.long p2), none, some (.int v11)]) (st' := [.ref p0]) rfl ?_
    refine s_getR X fl_X1_53 t0_ (dk okd_X1_calculate 22 rfl) (fun a31 (t32 : tT C a31 14) => ?_)
    refine s_run X ok_X1_calculate 23 3 (pc' := 88) (vs' := [some (.ref p0), some (.int p1), some (.long p2), none, some (.int v11)]) (st' := [.int p1, .ref p0, .int 3, .ref a31]) rfl ?_
    refine s_callV (rest := [.int 3, .ref a31]) X E mv_X1_166 (c_X1_creditsPaid S30 p0 p1) (ta1 t0_) rfl (by decide) t0_ rfl rfl (Nat.le_of_ble_eq_true rfl) (Nat.le_of_ble_eq_true rfl) (Nat.le_of_ble_eq_true rfl) (dk okd_X1_calculate 23 rfl) (st' := fun v33 => [.long v33, .int 3, .ref a31]) (fun _ => rfl) (fun v33 => ?_)
    refine s_last X t32 (dk okd_X1_calculate 24 rfl) (fun S34 => ?_)
    refine s_run X ok_X1_calculate 26 1 (pc' := 93) (vs' := [some (.ref p0), some (.int p1), some (.long p2), none, some (.int v11)]) (st' := [.ref p0]) rfl ?_
    refine s_getR X fl_X1_53 t0_ (dk okd_X1_calculate 25 rfl) (fun a35 (t36 : tT C a35 14) => ?_)
    refine s_run X ok_X1_calculate 27 3 (pc' := 99) (vs' := [some (.ref p0), some (.int p1), some (.long p2), none, some (.int v11)]) (st' := [.int p1, .ref p0, .int 4, .ref a35]) rfl ?_
    refine s_callV (rest := [.int 4, .ref a35]) X E mv_X1_169 (c_X1_creditsReceived S34 p0 p1) (ta1 t0_) rfl (by decide) t0_ rfl rfl (Nat.le_of_ble_eq_true rfl) (Nat.le_of_ble_eq_true rfl) (Nat.le_of_ble_eq_true rfl) (dk okd_X1_calculate 26 rfl) (st' := fun v37 => [.long v37, .int 4, .ref a35]) (fun _ => rfl) (fun v37 => ?_)
    refine s_last X t36 (dk okd_X1_calculate 27 rfl) (fun S38 => ?_)
    refine s_run X ok_X1_calculate 30 1 (pc' := 104) (vs' := [some (.ref p0), some (.int p1), some (.long p2), none, some (.int v11)]) (st' := [.ref p0]) rfl ?_
    refine s_getR X fl_X1_53 t0_ (dk okd_X1_calculate 28 rfl) (fun a39 (t40 : tT C a39 14) => ?_)
    refine s_run X ok_X1_calculate 31 2 (pc' := 109) (vs' := [some (.ref p0), some (.int p1), some (.long p2), none, some (.int v11)]) (st' := [.ref p0, .int 5, .ref a39]) rfl ?_
    refine s_getR X fl_X1_53 t0_ (dk okd_X1_calculate 29 rfl) (fun a41 (t42 : tT C a41 14) => ?_)
    refine s_run X ok_X1_calculate 33 1 (pc' := 113) (vs' := [some (.ref p0), some (.int p1), some (.long p2), none, some (.int v11)]) (st' := [.int 0, .ref a41, .int 5, .ref a39]) rfl ?_
    refine s_lald X t42 (dk okd_X1_calculate 30 rfl) (fun v43 => ?_)
    refine s_run X ok_X1_calculate 34 1 (pc' := 115) (vs' := [some (.ref p0), some (.int p1), some (.long p2), none, some (.int v11)]) (st' := [.ref p0, .long v43, .int 5, .ref a39]) rfl ?_
    refine s_getR X fl_X1_53 t0_ (dk okd_X1_calculate 31 rfl) (fun a44 (t45 : tT C a44 14) => ?_)
    refine s_run X ok_X1_calculate 35 1 (pc' := 119) (vs' := [some (.ref p0), some (.int p1), some (.long p2), none, some (.int v11)]) (st' := [.int 1, .ref a44, .long v43, .int 5, .ref a39]) rfl ?_
    refine s_lald X t45 (dk okd_X1_calculate 32 rfl) (fun v46 => ?_)
    refine s_run X ok_X1_calculate 36 2 (pc' := 122) (vs' := [some (.ref p0), some (.int p1), some (.long p2), none, some (.int v11)]) (st' := [.ref p0, .long (v43 + v46), .int 5, .ref a39]) rfl ?_
    refine s_getR X fl_X1_53 t0_ (dk okd_X1_calculate 33 rfl) (fun a47 (t48 : tT C a47 14) => ?_)
    refine s_run X ok_X1_calculate 38 1 (pc' := 126) (vs' := [some (.ref p0), some (.int p1), some (.long p2), none, some (.int v11)]) (st' := [.int 2, .ref a47, .long (v43 + v46), .int 5, .ref a39]) rfl ?_
    refine s_lald X t48 (dk okd_X1_calculate 34 rfl) (fun v49 => ?_)
    refine s_run X ok_X1_calculate 39 2 (pc' := 129) (vs' := [some (.ref p0), some (.int p1), some (.long p2), none, some (.int v11)]) (st' := [.ref p0, .long ((v43 + v46) + v49), .int 5, .ref a39]) rfl ?_
    refine s_getR X fl_X1_53 t0_ (dk okd_X1_calculate 35 rfl) (fun a50 (t51 : tT C a50 14) => ?_)
    refine s_run X ok_X1_calculate 41 1 (pc' := 133) (vs' := [some (.ref p0), some (.int p1), some (.long p2), none, some (.int v11)]) (st' := [.int 3, .ref a50, .long ((v43 + v46) + v49), .int 5, .ref a39]) rfl ?_
    refine s_lald X t51 (dk okd_X1_calculate 36 rfl) (fun v52 => ?_)
    refine s_run X ok_X1_calculate 42 2 (pc' := 136) (vs' := [some (.ref p0), some (.int p1), some (.long p2), none, some (.int v11)]) (st' := [.ref p0, .long (((v43 + v46) + v49) + v52), .int 5, .ref a39]) rfl ?_
    refine s_getR X fl_X1_53 t0_ (dk okd_X1_calculate 37 rfl) (fun a53 (t54 : tT C a53 14) => ?_)
    refine s_run X ok_X1_calculate 44 1 (pc' := 140) (vs' := [some (.ref p0), some (.int p1), some (.long p2), none, some (.int v11)]) (st' := [.int 4, .ref a53, .long (((v43 + v46) + v49) + v52), .int 5, .ref a39]) rfl ?_
    refine s_lald X t54 (dk okd_X1_calculate 38 rfl) (fun v55 => ?_)
    refine s_run X ok_X1_calculate 45 1 (pc' := 142) (vs' := [some (.ref p0), some (.int p1), some (.long p2), none, some (.int v11)]) (st' := [.long ((((v43 + v46) + v49) + v52) - v55), .int 5, .ref a39]) rfl ?_
    refine s_last X t40 (dk okd_X1_calculate 39 rfl) (fun S56 => ?_)
    exact s_vret X hr (dk okd_X1_calculate 40 rfl) rfl rfl
  · exact s_vret X hr (dk okd_X1_calculate 5 rfl) rfl rfl
def tab_X1_finishTransfer : List En := [(0, 8, 0, 0), (7, 4, 1, 0), (9, 0, 0, 2), (13, 8, 0, 0), (14, 4, 1, 0), (22, 8, 0, 0), (29, 4, 1, 0), (30, 0, 0, 4), (32, 8, 0, 0), (39, 4, 1, 0), (40, 8, 0, 0), (47, 4, 1, 0), (50, 8, 0, 0), (57, 4, 1, 0), (58, 37, 0, 0), (60, 0, 0, 1), (61, 17, 0, 0), (63, 8, 0, 0), (70, 4, 1, 0), (71, 0, 0, 0), (73, 8, 0, 0), (80, 4, 1, 0), (81, 37, 0, 0), (83, 8, 0, 0), (90, 23, 0, 0)]
theorem ok_X1_finishTransfer : tab_X1_finishTransfer.all (okE cX1_finishTransfer) = true := by decide +kernel
def ed_X1_finishTransfer : List (Nat × Instr × Nat) := [(1, .getfield 42, 3), (4, .getfield 221, 3), (8, .iaload, 1), (10, .if_icmp .ne 11, 3), (15, .invokevirtual 224, 3), (18, .ifCond .le 4, 3), (21, .return_, 1), (23, .getfield 42, 3), (26, .getfield 221, 3), (31, .iastore, 1), (33, .getfield 35, 3), (36, .getfield 228, 3), (41, .getfield 42, 3), (44, .getfield 231, 3), (48, .iaload, 1), (49, .iastore, 1), (51, .getfield 35, 3), (54, .getfield 234, 3), (59, .iaload, 1), (62, .iastore, 1), (64, .getfield 35, 3), (67, .getfield 215, 3), (72, .iastore, 1), (74, .getfield 35, 3), (77, .getfield 196, 3), (82, .laload, 1), (84, .getfield 12, 3), (87, .getfield 237, 3), (91, .lastore, 1), (92, .return_, 1)]
theorem okd_X1_finishTransfer : ed_X1_finishTransfer.all (okD cX1_finishTransfer) = true := by decide +kernel
def f_X1_finishTransfer (S : St) (p0 : Nat) (p1 : Int32) : Option (St) := lt (gR S p0 4) fun (a1 : Nat) => lt (gR S a1 0) fun (a3 : Nat) => ldI S a3 p1 fun (v5 : Int32) => if v5 = 2 then (cl (f_X1_monthsOfDelayLeft S p0 p1) fun (v6 : Int32) => if v6 ≤ 0 then (lt (gR S p0 4) fun (a7 : Nat) => lt (gR S a7 0) fun (a9 : Nat) => stI S a9 p1 4 fun (S11 : St) => lt (gR S11 p0 3) fun (a12 : Nat) => lt (gR S11 a12 3) fun (a14 : Nat) => lt (gR S11 p0 4) fun (a16 : Nat) => lt (gR S11 a16 2) fun (a18 : Nat) => ldI S11 a18 p1 fun (v20 : Int32) => stI S11 a14 p1 v20 fun (S21 : St) => lt (gR S21 p0 3) fun (a22 : Nat) => lt (gR S21 a22 5) fun (a24 : Nat) => ldI S21 a24 p1 fun (v26 : Int32) => stI S21 a24 p1 (v26 + 1) fun (S27 : St) => lt (gR S27 p0 3) fun (a28 : Nat) => lt (gR S27 a28 6) fun (a30 : Nat) => stI S27 a30 p1 0 fun (S32 : St) => lt (gR S32 p0 3) fun (a33 : Nat) => lt (gR S32 a33 7) fun (a35 : Nat) => ldJ S32 a35 p1 fun (v37 : Int64) => lt (gR S32 p0 0) fun (a38 : Nat) => lt (gJ S32 a38 9) fun (v40 : Int64) => stJ S32 a35 p1 (v37 + v40) fun (S41 : St) => some S41) else (some S)) else (some S)
set_option maxHeartbeats 4000000 in
set_option maxRecDepth 100000 in
theorem c_X1_finishTransfer (S : St) (p0 : Nat) (p1 : Int32) : Ct yX1_finishTransfer cX1_finishTransfer 2 none 2 42 [.ref p0, .int p1] [(p0, 1)] S (f_X1_finishTransfer S p0 p1) oV sV := by
  refine Ct_of RX1 rfl (by decide) (Nat.le_of_ble_eq_true rfl) 0 (vs := [some (.ref p0), some (.int p1)]) rfl (fun C X E hr ht => ?_)
  have t0_ : tT C p0 1 := ht (p0, 1) (by simp)
  unfold f_X1_finishTransfer
  refine s_run X ok_X1_finishTransfer 0 1 (pc' := 1) (vs' := [some (.ref p0), some (.int p1)]) (st' := [.ref p0]) rfl ?_
  refine s_getR X fl_X1_42 t0_ (dk okd_X1_finishTransfer 0 rfl) (fun a1 (t2 : tT C a1 9) => ?_)
  refine s_getR X fl_X1_221 t2 (dk okd_X1_finishTransfer 1 rfl) (fun a3 (t4 : tT C a3 13) => ?_)
  refine s_run X ok_X1_finishTransfer 1 1 (pc' := 8) (vs' := [some (.ref p0), some (.int p1)]) (st' := [.int p1, .ref a3]) rfl ?_
  refine s_iald X t4 (dk okd_X1_finishTransfer 2 rfl) (fun v5 => ?_)
  refine s_run X ok_X1_finishTransfer 2 1 (pc' := 10) (vs' := [some (.ref p0), some (.int p1)]) (st' := [.int 2, .int v5]) rfl ?_
  refine s_icmp_ne (tgt := 21) X (dk okd_X1_finishTransfer 3 rfl) (by decide) ?_ ?_
  · exact s_vret X hr (dk okd_X1_finishTransfer 6 rfl) rfl rfl
  · refine s_run X ok_X1_finishTransfer 3 2 (pc' := 15) (vs' := [some (.ref p0), some (.int p1)]) (st' := [.int p1, .ref p0]) rfl ?_
    refine s_callV (rest := []) X E mv_X1_224 (c_X1_monthsOfDelayLeft S p0 p1) (ta1 t0_) rfl (by decide) t0_ rfl rfl (Nat.le_of_ble_eq_true rfl) (Nat.le_of_ble_eq_true rfl) (Nat.le_of_ble_eq_true rfl) (dk okd_X1_finishTransfer 4 rfl) (st' := fun v6 => [.int v6]) (fun _ => rfl) (fun v6 => ?_)
    refine s_if_le (tgt := 22) X (dk okd_X1_finishTransfer 5 rfl) (by decide) ?_ ?_
    · refine s_run X ok_X1_finishTransfer 5 1 (pc' := 23) (vs' := [some (.ref p0), some (.int p1)]) (st' := [.ref p0]) rfl ?_
      refine s_getR X fl_X1_42 t0_ (dk okd_X1_finishTransfer 7 rfl) (fun a7 (t8 : tT C a7 9) => ?_)
      refine s_getR X fl_X1_221 t8 (dk okd_X1_finishTransfer 8 rfl) (fun a9 (t10 : tT C a9 13) => ?_)
      refine s_run X ok_X1_finishTransfer 6 2 (pc' := 31) (vs' := [some (.ref p0), some (.int p1)]) (st' := [.int 4, .int p1, .ref a9]) rfl ?_
      refine s_iast X t10 (dk okd_X1_finishTransfer 9 rfl) (fun S11 => ?_)
      refine s_run X ok_X1_finishTransfer 8 1 (pc' := 33) (vs' := [some (.ref p0), some (.int p1)]) (st' := [.ref p0]) rfl ?_
      refine s_getR X fl_X1_35 t0_ (dk okd_X1_finishTransfer 10 rfl) (fun a12 (t13 : tT C a12 2) => ?_)
      refine s_getR X fl_X1_228 t13 (dk okd_X1_finishTransfer 11 rfl) (fun a14 (t15 : tT C a14 13) => ?_)
      refine s_run X ok_X1_finishTransfer 9 2 (pc' := 41) (vs' := [some (.ref p0), some (.int p1)]) (st' := [.ref p0, .int p1, .ref a14]) rfl ?_
      refine s_getR X fl_X1_42 t0_ (dk okd_X1_finishTransfer 12 rfl) (fun a16 (t17 : tT C a16 9) => ?_)
      refine s_getR X fl_X1_231 t17 (dk okd_X1_finishTransfer 13 rfl) (fun a18 (t19 : tT C a18 13) => ?_)
      refine s_run X ok_X1_finishTransfer 11 1 (pc' := 48) (vs' := [some (.ref p0), some (.int p1)]) (st' := [.int p1, .ref a18, .int p1, .ref a14]) rfl ?_
      refine s_iald X t19 (dk okd_X1_finishTransfer 14 rfl) (fun v20 => ?_)
      refine s_iast X t15 (dk okd_X1_finishTransfer 15 rfl) (fun S21 => ?_)
      refine s_run X ok_X1_finishTransfer 12 1 (pc' := 51) (vs' := [some (.ref p0), some (.int p1)]) (st' := [.ref p0]) rfl ?_
      refine s_getR X fl_X1_35 t0_ (dk okd_X1_finishTransfer 16 rfl) (fun a22 (t23 : tT C a22 2) => ?_)
      refine s_getR X fl_X1_234 t23 (dk okd_X1_finishTransfer 17 rfl) (fun a24 (t25 : tT C a24 13) => ?_)
      refine s_run X ok_X1_finishTransfer 13 2 (pc' := 59) (vs' := [some (.ref p0), some (.int p1)]) (st' := [.int p1, .ref a24, .int p1, .ref a24]) rfl ?_
      refine s_iald X t25 (dk okd_X1_finishTransfer 18 rfl) (fun v26 => ?_)
      refine s_run X ok_X1_finishTransfer 15 2 (pc' := 62) (vs' := [some (.ref p0), some (.int p1)]) (st' := [.int (v26 + 1), .int p1, .ref a24]) rfl ?_
      refine s_iast X t25 (dk okd_X1_finishTransfer 19 rfl) (fun S27 => ?_)
      refine s_run X ok_X1_finishTransfer 17 1 (pc' := 64) (vs' := [some (.ref p0), some (.int p1)]) (st' := [.ref p0]) rfl ?_
      refine s_getR X fl_X1_35 t0_ (dk okd_X1_finishTransfer 20 rfl) (fun a28 (t29 : tT C a28 2) => ?_)
      refine s_getR X fl_X1_215 t29 (dk okd_X1_finishTransfer 21 rfl) (fun a30 (t31 : tT C a30 13) => ?_)
      refine s_run X ok_X1_finishTransfer 18 2 (pc' := 72) (vs' := [some (.ref p0), some (.int p1)]) (st' := [.int 0, .int p1, .ref a30]) rfl ?_
      refine s_iast X t31 (dk okd_X1_finishTransfer 22 rfl) (fun S32 => ?_)
      refine s_run X ok_X1_finishTransfer 20 1 (pc' := 74) (vs' := [some (.ref p0), some (.int p1)]) (st' := [.ref p0]) rfl ?_
      refine s_getR X fl_X1_35 t0_ (dk okd_X1_finishTransfer 23 rfl) (fun a33 (t34 : tT C a33 2) => ?_)
      refine s_getR X fl_X1_196 t34 (dk okd_X1_finishTransfer 24 rfl) (fun a35 (t36 : tT C a35 14) => ?_)
      refine s_run X ok_X1_finishTransfer 21 2 (pc' := 82) (vs' := [some (.ref p0), some (.int p1)]) (st' := [.int p1, .ref a35, .int p1, .ref a35]) rfl ?_
      refine s_lald X t36 (dk okd_X1_finishTransfer 25 rfl) (fun v37 => ?_)
      refine s_run X ok_X1_finishTransfer 23 1 (pc' := 84) (vs' := [some (.ref p0), some (.int p1)]) (st' := [.ref p0, .long v37, .int p1, .ref a35]) rfl ?_
      refine s_getR X fl_X1_12 t0_ (dk okd_X1_finishTransfer 26 rfl) (fun a38 (t39 : tT C a38 7) => ?_)
      refine s_getJ X fl_X1_237 t39 (dk okd_X1_finishTransfer 27 rfl) (fun v40 => ?_)
      refine s_run X ok_X1_finishTransfer 24 1 (pc' := 91) (vs' := [some (.ref p0), some (.int p1)]) (st' := [.long (v37 + v40), .int p1, .ref a35]) rfl ?_
      refine s_last X t36 (dk okd_X1_finishTransfer 28 rfl) (fun S41 => ?_)
      exact s_vret X hr (dk okd_X1_finishTransfer 29 rfl) rfl rfl
    · exact s_vret X hr (dk okd_X1_finishTransfer 6 rfl) rfl rfl
def tab_X4_addWhole : List En := [(0, 3, 1, 0), (1, 12, 3, 0), (2, 0, 0, 1), (3, 11, 5, 0), (5, 5, 5, 0), (7, 1, 0, 18), (12, 6, 1, 0), (13, 6, 3, 0), (18, 40, 0, 0), (22, 6, 3, 0), (26, 25, 0, 0), (27, 12, 3, 0), (28, 16, 5, 1), (31, 41, 5, 0), (34, 6, 3, 0), (35, 3, 0, 0), (36, 40, 0, 0), (40, 8, 0, 0), (41, 6, 1, 0), (42, 6, 3, 0), (47, 6, 3, 0), (52, 12, 3, 0), (53, 41, 34, 0)]
theorem ok_X4_addWhole : tab_X4_addWhole.all (okE cX4_addWhole) = true := by decide +kernel
def ed_X4_addWhole : List (Nat × Instr × Nat) := [(9, .if_icmp .ge 25, 3), (14, .ldiv, 1), (15, .ldc2_w 68, 3), (19, .ifCond .lt 15, 3), (23, .ldc2_w 68, 3), (37, .ifCond .le 19, 3), (43, .ldiv, 1), (44, .invokevirtual 70, 3), (48, .ldc2_w 68, 3), (51, .ldiv, 1), (56, .return_, 1)]
theorem okd_X4_addWhole : ed_X4_addWhole.all (okD cX4_addWhole) = true := by decide +kernel
def f_X4_addWhole (S : St) (p0 : Nat) (p1 : Int64) : Option (St) := jn (κ := Int64 → Option (St)) (fun x1 => lp (κ := Int64 → St → Option (St)) (fun _ _ => none) (fun k6 x4 S5 => if x4 ≤ 0 then (some S5) else (nzL x4 <| cl (f_X4_addDigit S5 p0 (p1 / x4)) fun (S8 : St) => lt (x4 / 10) fun (v9 : Int64) => k6 v9 S8)) FU x1 S) fun k2 => lp (κ := Int64 → Int32 → Option (St)) (fun _ _ => none) (fun k12 x10 x11 => if 18 ≤ x11 then (k2 x10) else (nzL x10 <| if (p1 / x10) < 10 then (k2 x10) else (lt (x10 * 10) fun (v14 : Int64) => k12 v14 (x11 + 1)))) FU 1 1
set_option maxHeartbeats 4000000 in
set_option maxRecDepth 100000 in
theorem c_X4_addWhole (S : St) (p0 : Nat) (p1 : Int64) : Ct yX4_addWhole cX4_addWhole 6 none 2 43 [.ref p0, .long p1] [(p0, 4)] S (f_X4_addWhole S p0 p1) oV sV := by
  refine Ct_of RX4 rfl (by decide) (Nat.le_of_ble_eq_true rfl) 3 (vs := [some (.ref p0), some (.long p1), none, none, none, none]) rfl (fun C X E hr ht => ?_)
  have t0_ : tT C p0 4 := ht (p0, 4) (by simp)
  unfold f_X4_addWhole
  refine s_run X ok_X4_addWhole 0 4 (pc' := 5) (vs' := [some (.ref p0), some (.long p1), none, some (.long 1), none, some (.int 1)]) (st' := []) rfl ?_
  refine s_jn (κ := Int64 → Option (St)) (fun k2 => ∀ (x1 : Int64), Jd C 6 (QJ C oV sV) S 34 [some (.ref p0), some (.long p1), none, some (.long x1), none, none] [] (k2 x1)) (fun x1 => ?_) (fun k2 h3 => ?_)
  · refine s_lp (κ := Int64 → St → Option (St)) (fun k6 => ∀ (x4 : Int64) (S5 : St), Jd C 6 (QJ C oV sV) S5 34 [some (.ref p0), some (.long p1), none, some (.long x4), none, none] [] (k6 x4 S5)) (fun _ _ => s_none) (fun k6 h7 x4 S5 => ?_) FU x1 S
    refine s_run X ok_X4_addWhole 14 3 (pc' := 37) (vs' := [some (.ref p0), some (.long p1), none, some (.long x4), none, none]) (st' := [.int (lg_cmp x4 0)]) rfl ?_
    refine s_lif_le (tgt := 56) X (dk okd_X4_addWhole 5 rfl) (by decide) ?_ ?_
    · exact s_vret X hr (dk okd_X4_addWhole 10 rfl) rfl rfl
    · refine s_run X ok_X4_addWhole 17 3 (pc' := 43) (vs' := [some (.ref p0), some (.long p1), none, some (.long x4), none, none]) (st' := [.long x4, .long p1, .ref p0]) rfl ?_
      refine s_ldiv X (dk okd_X4_addWhole 6 rfl) ?_
      refine s_callV (rest := []) X E mv_X4_70 (c_X4_addDigit S5 p0 (p1 / x4)) (ta1 t0_) rfl (by decide) t0_ rfl rfl (Nat.le_of_ble_eq_true rfl) (Nat.le_of_ble_eq_true rfl) (Nat.le_of_ble_eq_true rfl) (dk okd_X4_addWhole 7 rfl) (st' := fun S8 => []) (fun _ => rfl) (fun S8 => ?_)
      refine s_run X ok_X4_addWhole 20 1 (pc' := 48) (vs' := [some (.ref p0), some (.long p1), none, some (.long x4), none, none]) (st' := [.long x4]) rfl ?_
      refine s_ldc2 X cl_X4_68 (dk okd_X4_addWhole 8 rfl) ?_
      refine s_ldiv0 X (dk okd_X4_addWhole 9 rfl) (by decide) ?_
      refine s_nmJ (fun v9 => ?_)
      refine s_run X ok_X4_addWhole 21 2 (pc' := 34) (vs' := [some (.ref p0), some (.long p1), none, some (.long v9), none, none]) (st' := []) rfl ?_
      exact h7 v9 S8
  · refine s_lp (κ := Int64 → Int32 → Option (St)) (fun k12 => ∀ (x10 : Int64) (x11 : Int32), Jd C 6 (QJ C oV sV) S 5 [some (.ref p0), some (.long p1), none, some (.long x10), none, some (.int x11)] [] (k12 x10 x11)) (fun _ _ => s_none) (fun k12 h13 x10 x11 => ?_) FU 1 1
    refine s_run X ok_X4_addWhole 4 2 (pc' := 9) (vs' := [some (.ref p0), some (.long p1), none, some (.long x10), none, some (.int x11)]) (st' := [.int 18, .int x11]) rfl ?_
    refine s_icmp_ge (tgt := 34) X (dk okd_X4_addWhole 0 rfl) (by decide) ?_ ?_
    · exact s_less [true, true, false, true, false, false] rfl (h3 x10)
    · refine s_run X ok_X4_addWhole 6 2 (pc' := 14) (vs' := [some (.ref p0), some (.long p1), none, some (.long x10), none, some (.int x11)]) (st' := [.long x10, .long p1]) rfl ?_
      refine s_ldiv X (dk okd_X4_addWhole 1 rfl) ?_
      refine s_ldc2 X cl_X4_68 (dk okd_X4_addWhole 2 rfl) ?_
      refine s_run X ok_X4_addWhole 8 1 (pc' := 19) (vs' := [some (.ref p0), some (.long p1), none, some (.long x10), none, some (.int x11)]) (st' := [.int (lg_cmp (p1 / x10) 10)]) rfl ?_
      refine s_lif_lt (tgt := 34) X (dk okd_X4_addWhole 3 rfl) (by decide) ?_ ?_
      · exact s_less [true, true, false, true, false, false] rfl (h3 x10)
      · refine s_run X ok_X4_addWhole 9 1 (pc' := 23) (vs' := [some (.ref p0), some (.long p1), none, some (.long x10), none, some (.int x11)]) (st' := [.long x10]) rfl ?_
        refine s_ldc2 X cl_X4_68 (dk okd_X4_addWhole 4 rfl) ?_
        refine s_run X ok_X4_addWhole 10 1 (pc' := 27) (vs' := [some (.ref p0), some (.long p1), none, some (.long x10), none, some (.int x11)]) (st' := [.long (x10 * 10)]) rfl ?_
        refine s_nmJ (fun v14 => ?_)
        refine s_run X ok_X4_addWhole 11 3 (pc' := 5) (vs' := [some (.ref p0), some (.long p1), none, some (.long v14), none, some (.int (x11 + 1))]) (st' := []) rfl ?_
        exact h13 v14 (x11 + 1)
def tab_X7_readPlan : List En := [(0, 8, 1, 0), (4, 0, 0, 4), (8, 8, 0, 0), (9, 0, 0, 4), (14, 8, 0, 0), (15, 0, 0, 0), (16, 2, 0, 1000), (22, 10, 2, 0), (23, 8, 1, 0), (24, 4, 2, 0), (25, 8, 0, 0), (26, 0, 0, 0), (27, 2, 0, 3000), (36, 0, 0, 1), (37, 10, 3, 0), (38, 0, 0, 0), (39, 11, 4, 0), (41, 5, 4, 0), (43, 0, 0, 4), (47, 8, 0, 0), (54, 8, 0, 0), (61, 8, 0, 0), (62, 4, 3, 0), (68, 11, 5, 0), (70, 5, 4, 0), (72, 0, 0, 4), (76, 8, 0, 0), (77, 0, 0, 4), (81, 8, 1, 0), (82, 5, 5, 0), (84, 31, 0, 0), (88, 25, 0, 0), (89, 8, 0, 0), (90, 0, 0, 0), (91, 2, 0, 3000), (100, 5, 5, 0), (102, 0, 0, 1), (103, 17, 0, 0), (104, 10, 3, 0), (105, 16, 4, 1), (108, 41, 41, 0)]
theorem ok_X7_readPlan : tab_X7_readPlan.all (okE cX7_readPlan) = true := by decide +kernel
def ed_X7_readPlan : List (Nat × Instr × Nat) := [(1, .getfield 112, 3), (5, .if_icmp .lt 9, 3), (10, .invokevirtual 108, 3), (13, .return_, 1), (19, .invokevirtual 70, 3), (30, .invokevirtual 70, 3), (33, .invokevirtual 115, 3), (44, .if_icmp .gt 67, 3), (48, .invokevirtual 14, 3), (51, .ifCond .ne 60, 3), (55, .invokevirtual 119, 3), (58, .ifCond .ne 53, 3), (63, .ldc 122, 2), (65, .invokevirtual 70, 3), (73, .if_icmp .ne 8, 3), (78, .invokevirtual 108, 3), (85, .ldc2_w 79, 3), (94, .invokevirtual 70, 3), (97, .invokevirtual 123, 3), (111, .return_, 1)]
theorem okd_X7_readPlan : ed_X7_readPlan.all (okD cX7_readPlan) = true := by decide +kernel
def f_X7_readPlan (S : St) (p0 : Nat) (p1 : Nat) : Option (St) := lt (gI S p1 4) fun (v1 : Int32) => if v1 < 4 then (cl (f_X9_readNumber S p0 0 1000) fun (o2 : Int32 × St) => cl (f_X9_readNumber o2.2 p0 0 3000) fun (o3 : Int32 × St) => cl (f_X8_addPlan o3.2 p1 o2.1 o3.1) fun (S4 : St) => lp (κ := Int32 → Int32 → St → Option (St)) (fun _ _ _ => none) (fun k8 x5 x6 S7 => if 4 < x6 then (some S7) else (cl (f_X9_failed S7 p0) fun (v10 : Int32) => if v10 = 0 then (cl (f_X9_semicolonAhead S7 p0) fun (o11 : Int32 × St) => if o11.1 = 0 then (cl (f_X9_readNumber o11.2 p0 x5 99999) fun (o12 : Int32 × St) => jn (κ := St → Option (St)) (fun S13 => cl (f_X9_readNumber S13 p0 0 3000) fun (o16 : Int32 × St) => cl (f_X8_addStep o16.2 p1 ((Int32.toInt64 o12.1) * 100) o16.1) fun (S17 : St) => lt (o12.1 + 1) fun (v18 : Int32) => k8 v18 (x6 + 1) S17) fun k14 => if x6 = 4 then (cl (f_X9_fail o12.2 p0 4) fun (S19 : St) => k14 S19) else (k14 o12.2)) else (some o11.2)) else (some S7))) FU 1 0 S4) else (cl (f_X9_fail S p0 4) fun (S20 : St) => some S20)
set_option maxHeartbeats 4000000 in
set_option maxRecDepth 100000 in
theorem c_X7_readPlan (S : St) (p0 : Nat) (p1 : Nat) : Ct yX7_readPlan cX7_readPlan 6 none 3 65 [.ref p0, .ref p1] [(p0, 8), (p1, 7)] S (f_X7_readPlan S p0 p1) oV sV := by
  refine Ct_of RX7 rfl (by decide) (Nat.le_of_ble_eq_true rfl) 4 (vs := [some (.ref p0), some (.ref p1), none, none, none, none]) rfl (fun C X E hr ht => ?_)
  have t0_ : tT C p0 8 := ht (p0, 8) (by simp)
  have t1_ : tT C p1 7 := ht (p1, 7) (by simp)
  unfold f_X7_readPlan
  refine s_run X ok_X7_readPlan 0 1 (pc' := 1) (vs' := [some (.ref p0), some (.ref p1), none, none, none, none]) (st' := [.ref p1]) rfl ?_
  refine s_getI X fl_X7_112 t1_ (dk okd_X7_readPlan 0 rfl) (fun v1 => ?_)
  refine s_run X ok_X7_readPlan 1 1 (pc' := 5) (vs' := [some (.ref p0), some (.ref p1), none, none, none, none]) (st' := [.int 4, .int v1]) rfl ?_
  refine s_icmp_lt (tgt := 14) X (dk okd_X7_readPlan 1 rfl) (by decide) ?_ ?_
  · refine s_run X ok_X7_readPlan 4 3 (pc' := 19) (vs' := [some (.ref p0), some (.ref p1), none, none, none, none]) (st' := [.int 1000, .int 0, .ref p0]) rfl ?_
    refine s_callV (rest := []) X E mv_X7_70 (c_X9_readNumber S p0 0 1000) (ta1 t0_) rfl (by decide) t0_ rfl rfl (Nat.le_of_ble_eq_true rfl) (Nat.le_of_ble_eq_true rfl) (Nat.le_of_ble_eq_true rfl) (dk okd_X7_readPlan 4 rfl) (st' := fun o2 => [.int o2.1]) (fun _ => rfl) (fun o2 => ?_)
    refine s_run X ok_X7_readPlan 7 6 (pc' := 30) (vs' := [some (.ref p0), some (.ref p1), some (.int o2.1), none, none, none]) (st' := [.int 3000, .int 0, .ref p0, .int o2.1, .ref p1]) rfl ?_
    refine s_callV (rest := [.int o2.1, .ref p1]) X E mv_X7_70 (c_X9_readNumber o2.2 p0 0 3000) (ta1 t0_) rfl (by decide) t0_ rfl rfl (Nat.le_of_ble_eq_true rfl) (Nat.le_of_ble_eq_true rfl) (Nat.le_of_ble_eq_true rfl) (dk okd_X7_readPlan 5 rfl) (st' := fun o3 => [.int o3.1, .int o2.1, .ref p1]) (fun _ => rfl) (fun o3 => ?_)
    refine s_callV (rest := []) X E mv_X7_115 (c_X8_addPlan o3.2 p1 o2.1 o3.1) (ta1 t1_) rfl (by decide) t1_ rfl rfl (Nat.le_of_ble_eq_true rfl) (Nat.le_of_ble_eq_true rfl) (Nat.le_of_ble_eq_true rfl) (dk okd_X7_readPlan 6 rfl) (st' := fun S4 => []) (fun _ => rfl) (fun S4 => ?_)
    refine s_run X ok_X7_readPlan 13 4 (pc' := 41) (vs' := [some (.ref p0), some (.ref p1), some (.int o2.1), some (.int 1), some (.int 0), none]) (st' := []) rfl ?_
    refine s_less [true, true, false, true, true, false] (vs' := [some (.ref p0), some (.ref p1), none, some (.int 1), some (.int 0), none]) rfl ?_
    refine s_lp (κ := Int32 → Int32 → St → Option (St)) (fun k8 => ∀ (x5 : Int32) (x6 : Int32) (S7 : St), Jd C 6 (QJ C oV sV) S7 41 [some (.ref p0), some (.ref p1), none, some (.int x5), some (.int x6), none] [] (k8 x5 x6 S7)) (fun _ _ _ => s_none) (fun k8 h9 x5 x6 S7 => ?_) FU 1 0 S4
    refine s_run X ok_X7_readPlan 17 2 (pc' := 44) (vs' := [some (.ref p0), some (.ref p1), none, some (.int x5), some (.int x6), none]) (st' := [.int 4, .int x6]) rfl ?_
    refine s_icmp_gt (tgt := 111) X (dk okd_X7_readPlan 7 rfl) (by decide) ?_ ?_
    · exact s_vret X hr (dk okd_X7_readPlan 19 rfl) rfl rfl
    · refine s_run X ok_X7_readPlan 19 1 (pc' := 48) (vs' := [some (.ref p0), some (.ref p1), none, some (.int x5), some (.int x6), none]) (st' := [.ref p0]) rfl ?_
      refine s_callV (rest := []) X E mv_X7_14 (c_X9_failed S7 p0) (ta1 t0_) rfl (by decide) t0_ rfl rfl (Nat.le_of_ble_eq_true rfl) (Nat.le_of_ble_eq_true rfl) (Nat.le_of_ble_eq_true rfl) (dk okd_X7_readPlan 8 rfl) (st' := fun v10 => [.int v10]) (fun _ => rfl) (fun v10 => ?_)
      refine s_if_ne (tgt := 111) X (dk okd_X7_readPlan 9 rfl) (by decide) ?_ ?_
      · exact s_vret X hr (dk okd_X7_readPlan 19 rfl) rfl rfl
      · refine s_run X ok_X7_readPlan 20 1 (pc' := 55) (vs' := [some (.ref p0), some (.ref p1), none, some (.int x5), some (.int x6), none]) (st' := [.ref p0]) rfl ?_
        refine s_callV (rest := []) X E mv_X7_119 (c_X9_semicolonAhead S7 p0) (ta1 t0_) rfl (by decide) t0_ rfl rfl (Nat.le_of_ble_eq_true rfl) (Nat.le_of_ble_eq_true rfl) (Nat.le_of_ble_eq_true rfl) (dk okd_X7_readPlan 10 rfl) (st' := fun o11 => [.int o11.1]) (fun _ => rfl) (fun o11 => ?_)
        refine s_if_ne (tgt := 111) X (dk okd_X7_readPlan 11 rfl) (by decide) ?_ ?_
        · exact s_vret X hr (dk okd_X7_readPlan 19 rfl) rfl rfl
        · refine s_run X ok_X7_readPlan 21 2 (pc' := 63) (vs' := [some (.ref p0), some (.ref p1), none, some (.int x5), some (.int x6), none]) (st' := [.int x5, .ref p0]) rfl ?_
          refine s_ldc X ci_X7_122 (dk okd_X7_readPlan 12 rfl) ?_
          refine s_callV (rest := []) X E mv_X7_70 (c_X9_readNumber o11.2 p0 x5 99999) (ta1 t0_) rfl (by decide) t0_ rfl rfl (Nat.le_of_ble_eq_true rfl) (Nat.le_of_ble_eq_true rfl) (Nat.le_of_ble_eq_true rfl) (dk okd_X7_readPlan 13 rfl) (st' := fun o12 => [.int o12.1]) (fun _ => rfl) (fun o12 => ?_)
          refine s_run X ok_X7_readPlan 23 3 (pc' := 73) (vs' := [some (.ref p0), some (.ref p1), none, some (.int x5), some (.int x6), some (.int o12.1)]) (st' := [.int 4, .int x6]) rfl ?_
          refine s_jn (κ := St → Option (St)) (fun k14 => ∀ (S13 : St), Jd C 6 (QJ C oV sV) S13 81 [some (.ref p0), some (.ref p1), none, none, some (.int x6), some (.int o12.1)] [] (k14 S13)) (fun S13 => ?_) (fun k14 h15 => ?_)
          · refine s_run X ok_X7_readPlan 28 3 (pc' := 85) (vs' := [some (.ref p0), some (.ref p1), none, none, some (.int x6), some (.int o12.1)]) (st' := [.long (Int32.toInt64 o12.1), .ref p1]) rfl ?_
            refine s_ldc2 X cl_X7_79 (dk okd_X7_readPlan 16 rfl) ?_
            refine s_run X ok_X7_readPlan 31 4 (pc' := 94) (vs' := [some (.ref p0), some (.ref p1), none, none, some (.int x6), some (.int o12.1)]) (st' := [.int 3000, .int 0, .ref p0, .long ((Int32.toInt64 o12.1) * 100), .ref p1]) rfl ?_
            refine s_callV (rest := [.long ((Int32.toInt64 o12.1) * 100), .ref p1]) X E mv_X7_70 (c_X9_readNumber S13 p0 0 3000) (ta1 t0_) rfl (by decide) t0_ rfl rfl (Nat.le_of_ble_eq_true rfl) (Nat.le_of_ble_eq_true rfl) (Nat.le_of_ble_eq_true rfl) (dk okd_X7_readPlan 17 rfl) (st' := fun o16 => [.int o16.1, .long ((Int32.toInt64 o12.1) * 100), .ref p1]) (fun _ => rfl) (fun o16 => ?_)
            refine s_callV (rest := []) X E mv_X7_123 (c_X8_addStep o16.2 p1 ((Int32.toInt64 o12.1) * 100) o16.1) (ta1 t1_) rfl (by decide) t1_ rfl rfl (Nat.le_of_ble_eq_true rfl) (Nat.le_of_ble_eq_true rfl) (Nat.le_of_ble_eq_true rfl) (dk okd_X7_readPlan 18 rfl) (st' := fun S17 => []) (fun _ => rfl) (fun S17 => ?_)
            refine s_run X ok_X7_readPlan 35 3 (pc' := 104) (vs' := [some (.ref p0), some (.ref p1), none, none, some (.int x6), some (.int o12.1)]) (st' := [.int (o12.1 + 1)]) rfl ?_
            refine s_nmI (fun v18 => ?_)
            refine s_run X ok_X7_readPlan 38 3 (pc' := 41) (vs' := [some (.ref p0), some (.ref p1), none, some (.int v18), some (.int (x6 + 1)), some (.int o12.1)]) (st' := []) rfl ?_
            exact s_less [true, true, false, true, true, false] rfl (h9 v18 (x6 + 1) S17)
          · refine s_icmp_ne (tgt := 81) X (dk okd_X7_readPlan 14 rfl) (by decide) ?_ ?_
            · exact s_less [true, true, false, false, true, true] rfl (h15 o12.2)
            · refine s_run X ok_X7_readPlan 26 2 (pc' := 78) (vs' := [some (.ref p0), some (.ref p1), none, some (.int x5), some (.int x6), some (.int o12.1)]) (st' := [.int 4, .ref p0]) rfl ?_
              refine s_callV (rest := []) X E mv_X7_108 (c_X9_fail o12.2 p0 4) (ta1 t0_) rfl (by decide) t0_ rfl rfl (Nat.le_of_ble_eq_true rfl) (Nat.le_of_ble_eq_true rfl) (Nat.le_of_ble_eq_true rfl) (dk okd_X7_readPlan 15 rfl) (st' := fun S19 => []) (fun _ => rfl) (fun S19 => ?_)
              exact s_less [true, true, false, false, true, true] rfl (h15 S19)
  · refine s_run X ok_X7_readPlan 2 2 (pc' := 10) (vs' := [some (.ref p0), some (.ref p1), none, none, none, none]) (st' := [.int 4, .ref p0]) rfl ?_
    refine s_callV (rest := []) X E mv_X7_108 (c_X9_fail S p0 4) (ta1 t0_) rfl (by decide) t0_ rfl rfl (Nat.le_of_ble_eq_true rfl) (Nat.le_of_ble_eq_true rfl) (Nat.le_of_ble_eq_true rfl) (dk okd_X7_readPlan 2 rfl) (st' := fun S20 => []) (fun _ => rfl) (fun S20 => ?_)
    exact s_vret X hr (dk okd_X7_readPlan 3 rfl) rfl rfl
def tab_X11_ranked : List En := [(0, 8, 0, 0), (7, 4, 1, 0), (8, 8, 0, 0)]
theorem ok_X11_ranked : tab_X11_ranked.all (okE cX11_ranked) = true := by decide +kernel
def ed_X11_ranked : List (Nat × Instr × Nat) := [(1, .getfield 41, 3), (4, .getfield 140, 3), (9, .getfield 41, 3), (12, .getfield 85, 3), (15, .getfield 130, 3), (18, .invokevirtual 273, 3), (21, .ireturn, 1)]
theorem okd_X11_ranked : ed_X11_ranked.all (okD cX11_ranked) = true := by decide +kernel
def f_X11_ranked (S : St) (p0 : Nat) (p1 : Int32) : Option (Int32) := lt (gR S p0 5) fun (a1 : Nat) => lt (gR S a1 5) fun (a3 : Nat) => lt (gR S p0 5) fun (a5 : Nat) => lt (gR S a5 3) fun (a7 : Nat) => lt (gI S a7 8) fun (v9 : Int32) => cl (f_X0_atPlace S a3 p1 v9) fun (v10 : Int32) => some v10
set_option maxHeartbeats 4000000 in
set_option maxRecDepth 100000 in
theorem c_X11_ranked (S : St) (p0 : Nat) (p1 : Int32) : Ct yX11_ranked cX11_ranked 2 (some .int) 5 118 [.ref p0, .int p1] [(p0, 10)] S (f_X11_ranked S p0 p1) oI (fun _ => S) := by
  refine Ct_of RX11 rfl (by decide) (Nat.le_of_ble_eq_true rfl) 0 (vs := [some (.ref p0), some (.int p1)]) rfl (fun C X E hr ht => ?_)
  have t0_ : tT C p0 10 := ht (p0, 10) (by simp)
  unfold f_X11_ranked
  refine s_run X ok_X11_ranked 0 1 (pc' := 1) (vs' := [some (.ref p0), some (.int p1)]) (st' := [.ref p0]) rfl ?_
  refine s_getR X fl_X11_41 t0_ (dk okd_X11_ranked 0 rfl) (fun a1 (t2 : tT C a1 1) => ?_)
  refine s_getR X fl_X11_140 t2 (dk okd_X11_ranked 1 rfl) (fun a3 (t4 : tT C a3 0) => ?_)
  refine s_run X ok_X11_ranked 1 2 (pc' := 9) (vs' := [some (.ref p0), some (.int p1)]) (st' := [.ref p0, .int p1, .ref a3]) rfl ?_
  refine s_getR X fl_X11_41 t0_ (dk okd_X11_ranked 2 rfl) (fun a5 (t6 : tT C a5 1) => ?_)
  refine s_getR X fl_X11_85 t6 (dk okd_X11_ranked 3 rfl) (fun a7 (t8 : tT C a7 2) => ?_)
  refine s_getI X fl_X11_130 t8 (dk okd_X11_ranked 4 rfl) (fun v9 => ?_)
  refine s_callV (rest := []) X E mv_X11_273 (c_X0_atPlace S a3 p1 v9) (ta1 t4) rfl (by decide) t4 rfl rfl (Nat.le_of_ble_eq_true rfl) (Nat.le_of_ble_eq_true rfl) (Nat.le_of_ble_eq_true rfl) (dk okd_X11_ranked 5 rfl) (st' := fun v10 => [.int v10]) (fun _ => rfl) (fun v10 => ?_)
  exact s_iret X hr (dk okd_X11_ranked 6 rfl) rfl rfl
