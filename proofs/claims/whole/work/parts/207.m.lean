theorem cl_X11_233 : Cond.constantLong RX11 233 1000000000 ∈ TT := TT_6 (i := 97) rfl rfl
theorem cl_X11_250 : Cond.constantLong RX11 250 10000000 ∈ TT := TT_6 (i := 136) rfl rfl
theorem fl_X11_202 : FL RX11 202 6 1 2 := ⟨RX6, TX6, 5, rfl, by decide, uw_X6, TT_1 (i := 191) rfl rfl, rfl, rfl, by decide⟩
theorem fl_X11_205 : FL RX11 205 6 2 2 := ⟨RX6, TX6, 5, rfl, by decide, uw_X6, TT_1 (i := 193) rfl rfl, rfl, rfl, by decide⟩
theorem fl_X11_239 : FL RX11 239 2 2 2 := ⟨RX2, TX2, 9, rfl, by decide, uw_X2, TT_1 (i := 222) rfl rfl, rfl, rfl, by decide⟩
theorem fl_X11_262 : FL RX11 262 6 3 2 := ⟨RX6, TX6, 5, rfl, by decide, uw_X6, TT_1 (i := 196) rfl rfl, rfl, rfl, by decide⟩
theorem fl_X11_297 : FL RX11 297 2 7 2 := ⟨RX2, TX2, 9, rfl, by decide, uw_X2, TT_1 (i := 237) rfl rfl, rfl, rfl, by decide⟩
theorem fl_X11_311 : FL RX11 311 2 6 2 := ⟨RX2, TX2, 9, rfl, by decide, uw_X2, TT_1 (i := 234) rfl rfl, rfl, rfl, by decide⟩
theorem fl_X11_321 : FL RX11 321 2 4 2 := ⟨RX2, TX2, 9, rfl, by decide, uw_X2, TT_1 (i := 228) rfl rfl, rfl, rfl, by decide⟩
theorem fl_X11_327 : FL RX11 327 0 3 2 := ⟨RX0, TX0, 7, rfl, by decide, uw_X0, TT_2 (i := 62) rfl rfl, rfl, rfl, by decide⟩
theorem fl_X11_33 : FL RX11 33 10 3 2 := ⟨RX11, TX11, 11, rfl, by decide, uw_X11, TT_2 (i := 187) rfl rfl, rfl, rfl, by decide⟩
theorem fl_X11_330 : FL RX11 330 0 5 2 := ⟨RX0, TX0, 7, rfl, by decide, uw_X0, TT_2 (i := 66) rfl rfl, rfl, rfl, by decide⟩
theorem fl_X11_350 : FL RX11 350 1 4 2 := ⟨RX1, TX1, 7, rfl, by decide, uw_X1, TT_2 (i := 101) rfl rfl, rfl, rfl, by decide⟩
theorem fl_X11_37 : FL RX11 37 10 4 2 := ⟨RX11, TX11, 11, rfl, by decide, uw_X11, TT_2 (i := 188) rfl rfl, rfl, rfl, by decide⟩
theorem fl_X11_370 : FL RX11 370 9 0 2 := ⟨RX10, TX10, 6, rfl, by decide, uw_X10, TT_2 (i := 29) rfl rfl, rfl, rfl, by decide⟩
theorem fl_X11_379 : FL RX11 379 2 5 2 := ⟨RX2, TX2, 9, rfl, by decide, uw_X2, TT_1 (i := 231) rfl rfl, rfl, rfl, by decide⟩
theorem fl_X11_382 : FL RX11 382 2 3 2 := ⟨RX2, TX2, 9, rfl, by decide, uw_X2, TT_1 (i := 225) rfl rfl, rfl, rfl, by decide⟩
theorem ms_J0_1059 : MS RJ0 1059 yJ3_checkIndex_8e157 cJ3_checkIndex_8e157 3 (some .int) 3 := ⟨TT_3 (i := 47) rfl rfl, TT_3 (i := 48) rfl rfl, TT_1 (i := 17) rfl rfl, TT_3 (i := 49) rfl rfl, ⟨by decide, by decide, by decide +kernel⟩⟩
theorem ms_J1_9 : MS RJ1 9 yJ0_checkIndex_df160 cJ0_checkIndex_df160 2 none 2 := ⟨TT_3 (i := 42) rfl rfl, TT_3 (i := 43) rfl rfl, TT_1 (i := 15) rfl rfl, TT_3 (i := 44) rfl rfl, ⟨by decide, by decide, by decide +kernel⟩⟩
theorem ms_X11_208 : MS RX11 208 yX11_cellCode cX11_cellCode 2 (some .int) 2 := ⟨TT_6 (i := 24) rfl rfl, TT_6 (i := 25) rfl rfl, TT_1 (i := 1) rfl rfl, TT_6 (i := 26) rfl rfl, ⟨by decide, by decide, by decide +kernel⟩⟩
theorem ms_X12_286 : MS RX12 286 yX12_partName cX12_partName 1 (some .long) 1 := ⟨TT_10 (i := 6) rfl rfl, TT_10 (i := 7) rfl rfl, TT_1 (i := 13) rfl rfl, TT_10 (i := 8) rfl rfl, ⟨by decide, by decide, by decide +kernel⟩⟩
theorem mv_J0_335 : MV RJ0 335 yJ0_coder_7d493 cJ0_coder_7d493 1 (some .byte) 0 := ⟨TT_3 (i := 25) rfl rfl, TT_3 (i := 26) rfl rfl, TT_3 (i := 27) rfl rfl, TT_1 (i := 15) rfl rfl, TT_3 (i := 28) rfl rfl, ⟨by decide, by decide, by decide +kernel⟩⟩
theorem mv_X11_211 : MV RX11 211 yX1_hasFreeCell cX1_hasFreeCell 4 (some .boolean) 3 := ⟨TT_6 (i := 34) rfl rfl, TT_3 (i := 164) rfl rfl, TT_3 (i := 165) rfl rfl, TT_1 (i := 5) rfl rfl, TT_3 (i := 166) rfl rfl, ⟨by decide, by decide, by decide +kernel⟩⟩
theorem mv_X11_215 : MV RX11 215 yX6_add cX6_add 5 (some .int) 3 := ⟨TT_6 (i := 35) rfl rfl, TT_3 (i := 182) rfl rfl, TT_3 (i := 183) rfl rfl, TT_1 (i := 7) rfl rfl, TT_3 (i := 184) rfl rfl, ⟨by decide, by decide, by decide +kernel⟩⟩
theorem mv_X11_218 : MV RX11 218 yX1_farthestCell cX1_farthestCell 7 (some .int) 1 := ⟨TT_6 (i := 43) rfl rfl, TT_6 (i := 44) rfl rfl, TT_6 (i := 45) rfl rfl, TT_1 (i := 5) rfl rfl, TT_6 (i := 46) rfl rfl, ⟨by decide, by decide, by decide +kernel⟩⟩
theorem mv_X11_221 : MV RX11 221 yX1_cellsWithin cX1_cellsWithin 6 (some .int) 2 := ⟨TT_6 (i := 55) rfl rfl, TT_6 (i := 56) rfl rfl, TT_6 (i := 57) rfl rfl, TT_1 (i := 5) rfl rfl, TT_6 (i := 58) rfl rfl, ⟨by decide, by decide, by decide +kernel⟩⟩
theorem mv_X11_224 : MV RX11 224 yX1_cellsNearerTo cX1_cellsNearerTo 6 (some .int) 2 := ⟨TT_6 (i := 66) rfl rfl, TT_6 (i := 67) rfl rfl, TT_6 (i := 68) rfl rfl, TT_1 (i := 5) rfl rfl, TT_6 (i := 69) rfl rfl, ⟨by decide, by decide, by decide +kernel⟩⟩
theorem mv_X11_227 : MV RX11 227 yX3_bestHalving cX3_bestHalving 7 (some .int) 1 := ⟨TT_6 (i := 77) rfl rfl, TT_6 (i := 78) rfl rfl, TT_6 (i := 79) rfl rfl, TT_1 (i := 4) rfl rfl, TT_6 (i := 80) rfl rfl, ⟨by decide, by decide, by decide +kernel⟩⟩
theorem mv_X11_230 : MV RX11 230 yX11_requirePlan cX11_requirePlan 2 none 1 := ⟨TT_6 (i := 92) rfl rfl, TT_6 (i := 94) rfl rfl, TT_s (i := 23) (by decide +kernel) (by decide +kernel), TT_1 (i := 1) rfl rfl, TT_6 (i := 95) rfl rfl, ⟨by decide, by decide, by decide +kernel⟩⟩
theorem mv_X11_235 : MV RX11 235 yX8_royaltyFor cX8_royaltyFor 11 (some .long) 2 := ⟨TT_6 (i := 98) rfl rfl, TT_5 (i := 33) rfl rfl, TT_5 (i := 34) rfl rfl, TT_1 (i := 6) rfl rfl, TT_5 (i := 35) rfl rfl, ⟨by decide, by decide, by decide +kernel⟩⟩
theorem mv_X11_242 : MV RX11 242 yX6_salesTogether cX6_salesTogether 2 (some .long) 1 := ⟨TT_6 (i := 120) rfl rfl, TT_5 (i := 19) rfl rfl, TT_5 (i := 20) rfl rfl, TT_1 (i := 7) rfl rfl, TT_5 (i := 21) rfl rfl, ⟨by decide, by decide, by decide +kernel⟩⟩
theorem mv_X11_246 : MV RX11 246 yX8_cheapestFor cX8_cheapestFor 9 (some .int) 1 := ⟨TT_6 (i := 121) rfl rfl, TT_6 (i := 122) rfl rfl, TT_6 (i := 123) rfl rfl, TT_1 (i := 6) rfl rfl, TT_6 (i := 124) rfl rfl, ⟨by decide, by decide, by decide +kernel⟩⟩
theorem mv_X11_252 : MV RX11 252 yX11_requireOpenMonth cX11_requireOpenMonth 1 none 0 := ⟨TT_6 (i := 137) rfl rfl, TT_6 (i := 139) rfl rfl, TT_s (i := 24) (by decide +kernel) (by decide +kernel), TT_1 (i := 1) rfl rfl, TT_6 (i := 140) rfl rfl, ⟨by decide, by decide, by decide +kernel⟩⟩
theorem mv_X11_255 : MV RX11 255 yX6_replaceSales cX6_replaceSales 6 (some .long) 2 := ⟨TT_6 (i := 158) rfl rfl, TT_4 (i := 225) rfl rfl, TT_4 (i := 226) rfl rfl, TT_1 (i := 7) rfl rfl, TT_4 (i := 227) rfl rfl, ⟨by decide, by decide, by decide +kernel⟩⟩
theorem mv_X11_258 : MV RX11 258 yX1_addDelivery cX1_addDelivery 8 (some .long) 4 := ⟨TT_6 (i := 166) rfl rfl, TT_4 (i := 230) rfl rfl, TT_4 (i := 231) rfl rfl, TT_1 (i := 5) rfl rfl, TT_4 (i := 232) rfl rfl, ⟨by decide, by decide, by decide +kernel⟩⟩
theorem mv_X11_266 : MV RX11 266 yX11_requireClosedMonth cX11_requireClosedMonth 2 none 1 := ⟨TT_6 (i := 181) rfl rfl, TT_6 (i := 183) rfl rfl, TT_s (i := 25) (by decide +kernel) (by decide +kernel), TT_1 (i := 1) rfl rfl, TT_6 (i := 184) rfl rfl, ⟨by decide, by decide, by decide +kernel⟩⟩
theorem mv_X11_269 : MV RX11 269 yX0_salesIn cX0_salesIn 3 (some .long) 2 := ⟨TT_6 (i := 186) rfl rfl, TT_4 (i := 52) rfl rfl, TT_4 (i := 53) rfl rfl, TT_1 (i := 10) rfl rfl, TT_4 (i := 54) rfl rfl, ⟨by decide, by decide, by decide +kernel⟩⟩
theorem mv_X11_276 : MV RX11 276 yX1_creditBetween cX1_creditBetween 3 (some .long) 2 := ⟨TT_6 (i := 194) rfl rfl, TT_5 (i := 59) rfl rfl, TT_5 (i := 60) rfl rfl, TT_1 (i := 5) rfl rfl, TT_5 (i := 61) rfl rfl, ⟨by decide, by decide, by decide +kernel⟩⟩
theorem mv_X11_283 : MV RX11 283 yX0_invoicePart cX0_invoicePart 4 (some .long) 3 := ⟨TT_6 (i := 210) rfl rfl, TT_6 (i := 211) rfl rfl, TT_6 (i := 212) rfl rfl, TT_1 (i := 10) rfl rfl, TT_6 (i := 213) rfl rfl, ⟨by decide, by decide, by decide +kernel⟩⟩
theorem mv_X11_318 : MV RX11 318 yX1_endContract cX1_endContract 2 (some .boolean) 1 := ⟨TT_7 (i := 26) rfl rfl, TT_7 (i := 27) rfl rfl, TT_7 (i := 28) rfl rfl, TT_1 (i := 5) rfl rfl, TT_7 (i := 29) rfl rfl, ⟨by decide, by decide, by decide +kernel⟩⟩
theorem mv_X11_341 : MV RX11 341 yX0_allowanceLeft cX0_allowanceLeft 2 (some .long) 1 := ⟨TT_7 (i := 87) rfl rfl, TT_5 (i := 124) rfl rfl, TT_5 (i := 125) rfl rfl, TT_1 (i := 10) rfl rfl, TT_5 (i := 126) rfl rfl, ⟨by decide, by decide, by decide +kernel⟩⟩
theorem mv_X11_344 : MV RX11 344 yX0_shareOfNational cX0_shareOfNational 16 (some .long) 1 := ⟨TT_7 (i := 95) rfl rfl, TT_7 (i := 96) rfl rfl, TT_7 (i := 97) rfl rfl, TT_1 (i := 10) rfl rfl, TT_7 (i := 98) rfl rfl, ⟨by decide, by decide, by decide +kernel⟩⟩
theorem mv_X11_347 : MV RX11 347 yX1_mayTransfer cX1_mayTransfer 3 (some .boolean) 2 := ⟨TT_7 (i := 106) rfl rfl, TT_7 (i := 107) rfl rfl, TT_7 (i := 108) rfl rfl, TT_1 (i := 5) rfl rfl, TT_7 (i := 109) rfl rfl, ⟨by decide, by decide, by decide +kernel⟩⟩
theorem mv_X11_354 : MV RX11 354 yX10_begin cX10_begin 6 none 4 := ⟨TT_7 (i := 111) rfl rfl, TT_7 (i := 112) rfl rfl, TT_7 (i := 113) rfl rfl, TT_1 (i := 9) rfl rfl, TT_7 (i := 114) rfl rfl, ⟨by decide, by decide, by decide +kernel⟩⟩
theorem mv_X11_360 : MV RX11 360 yX10_addVote cX10_addVote 6 (some .int) 3 := ⟨TT_7 (i := 122) rfl rfl, TT_5 (i := 106) rfl rfl, TT_5 (i := 107) rfl rfl, TT_1 (i := 9) rfl rfl, TT_5 (i := 108) rfl rfl, ⟨by decide, by decide, by decide +kernel⟩⟩
theorem mv_X11_364 : MV RX11 364 yX1_takeOver cX1_takeOver 2 (some .boolean) 1 := ⟨TT_7 (i := 130) rfl rfl, TT_7 (i := 131) rfl rfl, TT_7 (i := 132) rfl rfl, TT_1 (i := 5) rfl rfl, TT_7 (i := 133) rfl rfl, ⟨by decide, by decide, by decide +kernel⟩⟩
theorem mv_X11_367 : MV RX11 367 yX10_endOpen cX10_endOpen 3 (some .boolean) 2 := ⟨TT_7 (i := 141) rfl rfl, TT_7 (i := 36) rfl rfl, TT_7 (i := 37) rfl rfl, TT_1 (i := 9) rfl rfl, TT_7 (i := 38) rfl rfl, ⟨by decide, by decide, by decide +kernel⟩⟩
theorem mv_X11_373 : MV RX11 373 yX10_isOpen cX10_isOpen 2 (some .boolean) 1 := ⟨TT_7 (i := 156) rfl rfl, TT_7 (i := 40) rfl rfl, TT_7 (i := 41) rfl rfl, TT_1 (i := 9) rfl rfl, TT_7 (i := 42) rfl rfl, ⟨by decide, by decide, by decide +kernel⟩⟩
theorem mv_X11_376 : MV RX11 376 yX1_monthsOfDelayLeft cX1_monthsOfDelayLeft 2 (some .int) 1 := ⟨TT_7 (i := 157) rfl rfl, TT_5 (i := 84) rfl rfl, TT_5 (i := 85) rfl rfl, TT_1 (i := 5) rfl rfl, TT_5 (i := 86) rfl rfl, ⟨by decide, by decide, by decide +kernel⟩⟩
theorem mv_X11_385 : MV RX11 385 yX1_copyFrom cX1_copyFrom 2 none 1 := ⟨TT_4 (i := 89) rfl rfl, TT_4 (i := 90) rfl rfl, TT_4 (i := 91) rfl rfl, TT_1 (i := 5) rfl rfl, TT_4 (i := 92) rfl rfl, ⟨by decide, by decide, by decide +kernel⟩⟩
theorem mv_X12_289 : MV RX12 289 yX12_appendWord cX12_appendWord 4 none 1 := ⟨TT_10 (i := 16) rfl rfl, TT_10 (i := 18) rfl rfl, TT_s (i := 74) (by decide +kernel) (by decide +kernel), TT_1 (i := 13) rfl rfl, TT_10 (i := 19) rfl rfl, ⟨by decide, by decide, by decide +kernel⟩⟩
theorem mv_X12_293 : MV RX12 293 yX12_appendAmount cX12_appendAmount 7 none 1 := ⟨TT_10 (i := 21) rfl rfl, TT_10 (i := 23) rfl rfl, TT_s (i := 75) (by decide +kernel) (by decide +kernel), TT_1 (i := 13) rfl rfl, TT_10 (i := 24) rfl rfl, ⟨by decide, by decide, by decide +kernel⟩⟩
theorem sl_J0_9 : SL RJ0 9 "value" "[B" := TT_10 (i := 201) rfl rfl
theorem so_J0_1053 : Cond.fieldLink RJ0 1053 "jdk/internal/util/Preconditions" "SIOOBE_FORMATTER" "Ljava/util/function/BiFunction;" ∈ TT := TT_3 (i := 45) rfl rfl
def tab_X11_outletCell : List En := [(0, 8, 0, 0), (1, 4, 1, 0), (5, 8, 0, 0), (15, 4, 1, 0), (17, 8, 0, 0), (27, 4, 1, 0)]
theorem ok_X11_outletCell : tab_X11_outletCell.all (okE cX11_outletCell) = true := by decide +kernel
def ed_X11_outletCell : List (Nat × Instr × Nat) := [(2, .invokevirtual 195, 3), (6, .getfield 41, 3), (9, .getfield 133, 3), (12, .getfield 202, 3), (16, .iaload, 1), (18, .getfield 41, 3), (21, .getfield 133, 3), (24, .getfield 205, 3), (28, .iaload, 1), (29, .invokestatic 208, 3), (32, .ireturn, 1)]
theorem okd_X11_outletCell : ed_X11_outletCell.all (okD cX11_outletCell) = true := by decide +kernel
def f_X11_outletCell (S : St) (p0 : Nat) (p1 : Int32) : Option ((Int32) ⊕ Nat) := clx (f_X11_requireOutlet S p0 p1) fun (u1 : Unit) => lt (gR S p0 5) fun (a2 : Nat) => lt (gR S a2 2) fun (a4 : Nat) => lt (gR S a4 1) fun (a6 : Nat) => ldI S a6 p1 fun (v8 : Int32) => lt (gR S p0 5) fun (a9 : Nat) => lt (gR S a9 2) fun (a11 : Nat) => lt (gR S a11 2) fun (a13 : Nat) => ldI S a13 p1 fun (v15 : Int32) => cl (f_X11_cellCode S v8 v15) fun (v16 : Int32) => some (.inl v16)
set_option maxHeartbeats 4000000 in
set_option maxRecDepth 100000 in
theorem c_X11_outletCell (S : St) (p0 : Nat) (p1 : Int32) : CtX yX11_outletCell cX11_outletCell 2 (some .int) 7 111 (fun _ => [.ref p0, .int p1]) [(p0, 10)] S (f_X11_outletCell S p0 p1) oI (fun _ => S) := by
  refine CtX_of RX11 rfl (by decide) (fun _ => Nat.le_of_ble_eq_true rfl) 0 (vs := fun _ => [some (.ref p0), some (.int p1)]) (fun _ => rfl) (fun C X E hr tx ht => ?_)
  have t0_ : tT C p0 10 := ht (p0, 10) (by simp)
  show Jd C 2 (QX C oI (fun _ => S) S) S 0 [some (.ref p0), some (.int p1)] [] (f_X11_outletCell S p0 p1)
  unfold f_X11_outletCell
  refine s_run X ok_X11_outletCell 0 2 (pc' := 2) (vs' := [some (.ref p0), some (.int p1)]) (st' := [.int p1, .ref p0]) rfl ?_
  refine s_callVX (b := p0) (As := [.int p1]) (rest := []) X E tx mv_X11_195 (c_X11_requireOutlet S p0 p1) rfl (ta1 t0_) rfl (by decide) t0_ rfl rfl (Nat.le_of_ble_eq_true rfl) (Nat.le_of_ble_eq_true rfl) (Nat.le_of_ble_eq_true rfl) (dk okd_X11_outletCell 0 rfl) (st' := fun u1 => []) (fun _ => rfl) (fun u1 => ?_)
  refine s_run X ok_X11_outletCell 2 1 (pc' := 6) (vs' := [some (.ref p0), some (.int p1)]) (st' := [.ref p0]) rfl ?_
  refine s_getR X fl_X11_41 t0_ (dk okd_X11_outletCell 1 rfl) (fun a2 (t3 : tT C a2 1) => ?_)
  refine s_getR X fl_X11_133 t3 (dk okd_X11_outletCell 2 rfl) (fun a4 (t5 : tT C a4 6) => ?_)
  refine s_getR X fl_X11_202 t5 (dk okd_X11_outletCell 3 rfl) (fun a6 (t7 : tT C a6 13) => ?_)
  refine s_run X ok_X11_outletCell 3 1 (pc' := 16) (vs' := [some (.ref p0), some (.int p1)]) (st' := [.int p1, .ref a6]) rfl ?_
  refine s_iald X t7 (dk okd_X11_outletCell 4 rfl) (fun v8 => ?_)
  refine s_run X ok_X11_outletCell 4 1 (pc' := 18) (vs' := [some (.ref p0), some (.int p1)]) (st' := [.ref p0, .int v8]) rfl ?_
  refine s_getR X fl_X11_41 t0_ (dk okd_X11_outletCell 5 rfl) (fun a9 (t10 : tT C a9 1) => ?_)
  refine s_getR X fl_X11_133 t10 (dk okd_X11_outletCell 6 rfl) (fun a11 (t12 : tT C a11 6) => ?_)
  refine s_getR X fl_X11_205 t12 (dk okd_X11_outletCell 7 rfl) (fun a13 (t14 : tT C a13 13) => ?_)
  refine s_run X ok_X11_outletCell 5 1 (pc' := 28) (vs' := [some (.ref p0), some (.int p1)]) (st' := [.int p1, .ref a13, .int v8]) rfl ?_
  refine s_iald X t14 (dk okd_X11_outletCell 8 rfl) (fun v15 => ?_)
  refine s_callS (As := [.int v8, .int v15]) (rest := []) X E ms_X11_208 (c_X11_cellCode S v8 v15) rfl (ta0) rfl rfl (Nat.le_of_ble_eq_true rfl) (Nat.le_of_ble_eq_true rfl) (Nat.le_of_ble_eq_true rfl) (dk okd_X11_outletCell 9 rfl) (st' := fun v16 => [.int v16]) (fun _ => rfl) (fun v16 => ?_)
  exact s_iretX X hr (dk okd_X11_outletCell 10 rfl) rfl rfl
def tab_X11_openOutlet : List En := [(0, 8, 0, 0), (1, 4, 1, 0), (5, 4, 2, 0), (6, 4, 3, 0), (13, 8, 0, 0), (20, 4, 1, 0), (27, 8, 0, 0), (31, 4, 1, 0), (32, 4, 2, 0), (33, 4, 3, 0), (40, 1, 0, (-2)), (43, 8, 0, 0), (50, 4, 1, 0), (51, 4, 2, 0), (52, 4, 3, 0)]
theorem ok_X11_openOutlet : tab_X11_openOutlet.all (okE cX11_openOutlet) = true := by decide +kernel
def ed_X11_openOutlet : List (Nat × Instr × Nat) := [(2, .invokevirtual 159, 3), (7, .invokestatic 149, 3), (10, .invokestatic 107, 3), (14, .getfield 41, 3), (17, .getfield 85, 3), (21, .invokevirtual 180, 3), (24, .ifCond .eq 16, 3), (28, .getfield 41, 3), (34, .invokevirtual 211, 3), (37, .ifCond .ne 6, 3), (42, .ireturn, 1), (44, .getfield 41, 3), (47, .getfield 133, 3), (53, .invokevirtual 215, 3), (56, .ireturn, 1)]
theorem okd_X11_openOutlet : ed_X11_openOutlet.all (okD cX11_openOutlet) = true := by decide +kernel
def f_X11_openOutlet (S : St) (p0 : Nat) (p1 : Int32) (p2 : Int32) (p3 : Int32) : Option ((Int32 × St) ⊕ Nat) := clx (f_X11_requireFranchisee S p0 p1) fun (u1 : Unit) => cl (f_X3_contains S p2 p3) fun (v2 : Int32) => clx (f_X11_requireArgument S v2) fun (u3 : Unit) => lt (gR S p0 5) fun (a4 : Nat) => lt (gR S a4 3) fun (a6 : Nat) => cl (f_X2_isActive S a6 p1) fun (v8 : Int32) => jn (κ := Option ((Int32 × St) ⊕ Nat)) (some (.inl ((-2), S))) fun k9 => if v8 = 0 then (k9) else (lt (gR S p0 5) fun (a11 : Nat) => cl (f_X1_hasFreeCell S a11 p1 p2 p3) fun (v13 : Int32) => if v13 = 0 then (k9) else (lt (gR S p0 5) fun (a14 : Nat) => lt (gR S a14 2) fun (a16 : Nat) => cl (f_X6_add S a16 p1 p2 p3) fun (o18 : Int32 × St) => some (.inl (o18.1, o18.2))))
set_option maxHeartbeats 4000000 in
set_option maxRecDepth 100000 in
theorem c_X11_openOutlet (S : St) (p0 : Nat) (p1 : Int32) (p2 : Int32) (p3 : Int32) : CtX yX11_openOutlet cX11_openOutlet 4 (some .int) 7 111 (fun _ => [.ref p0, .int p1, .int p2, .int p3]) [(p0, 10)] S (f_X11_openOutlet S p0 p1 p2 p3) oIS sS := by
  refine CtX_of RX11 rfl (by decide) (fun _ => Nat.le_of_ble_eq_true rfl) 0 (vs := fun _ => [some (.ref p0), some (.int p1), some (.int p2), some (.int p3)]) (fun _ => rfl) (fun C X E hr tx ht => ?_)
  have t0_ : tT C p0 10 := ht (p0, 10) (by simp)
  show Jd C 4 (QX C oIS sS S) S 0 [some (.ref p0), some (.int p1), some (.int p2), some (.int p3)] [] (f_X11_openOutlet S p0 p1 p2 p3)
  unfold f_X11_openOutlet
  refine s_run X ok_X11_openOutlet 0 2 (pc' := 2) (vs' := [some (.ref p0), some (.int p1), some (.int p2), some (.int p3)]) (st' := [.int p1, .ref p0]) rfl ?_
  refine s_callVX (b := p0) (As := [.int p1]) (rest := []) X E tx mv_X11_159 (c_X11_requireFranchisee S p0 p1) rfl (ta1 t0_) rfl (by decide) t0_ rfl rfl (Nat.le_of_ble_eq_true rfl) (Nat.le_of_ble_eq_true rfl) (Nat.le_of_ble_eq_true rfl) (dk okd_X11_openOutlet 0 rfl) (st' := fun u1 => []) (fun _ => rfl) (fun u1 => ?_)
  refine s_run X ok_X11_openOutlet 2 2 (pc' := 7) (vs' := [some (.ref p0), some (.int p1), some (.int p2), some (.int p3)]) (st' := [.int p3, .int p2]) rfl ?_
  refine s_callS (As := [.int p2, .int p3]) (rest := []) X E ms_X11_149 (c_X3_contains S p2 p3) rfl (ta0) rfl rfl (Nat.le_of_ble_eq_true rfl) (Nat.le_of_ble_eq_true rfl) (Nat.le_of_ble_eq_true rfl) (dk okd_X11_openOutlet 1 rfl) (st' := fun v2 => [.int v2]) (fun _ => rfl) (fun v2 => ?_)
  refine s_callSX (As := [.int v2]) (rest := []) X E tx ms_X11_107 (c_X11_requireArgument S v2) rfl (ta0) rfl rfl (Nat.le_of_ble_eq_true rfl) (Nat.le_of_ble_eq_true rfl) (Nat.le_of_ble_eq_true rfl) (dk okd_X11_openOutlet 2 rfl) (st' := fun u3 => []) (fun _ => rfl) (fun u3 => ?_)
  refine s_run X ok_X11_openOutlet 4 1 (pc' := 14) (vs' := [some (.ref p0), some (.int p1), some (.int p2), some (.int p3)]) (st' := [.ref p0]) rfl ?_
  refine s_getR X fl_X11_41 t0_ (dk okd_X11_openOutlet 3 rfl) (fun a4 (t5 : tT C a4 1) => ?_)
  refine s_getR X fl_X11_85 t5 (dk okd_X11_openOutlet 4 rfl) (fun a6 (t7 : tT C a6 2) => ?_)
  refine s_run X ok_X11_openOutlet 5 1 (pc' := 21) (vs' := [some (.ref p0), some (.int p1), some (.int p2), some (.int p3)]) (st' := [.int p1, .ref a6]) rfl ?_
  refine s_callV (b := a6) (As := [.int p1]) (rest := []) X E mv_X11_180 (c_X2_isActive S a6 p1) rfl (ta1 t7) rfl (by decide) t7 rfl rfl (Nat.le_of_ble_eq_true rfl) (Nat.le_of_ble_eq_true rfl) (Nat.le_of_ble_eq_true rfl) (dk okd_X11_openOutlet 5 rfl) (st' := fun v8 => [.int v8]) (fun _ => rfl) (fun v8 => ?_)
  refine s_jn (κ := Option ((Int32 × St) ⊕ Nat)) (fun k9 => Jd C 4 (QX C oIS sS S) S 40 [none, none, none, none] [] k9) ?_ (fun k9 h10 => ?_)
  · refine s_run X ok_X11_openOutlet 10 1 (pc' := 42) (vs' := [none, none, none, none]) (st' := [.int (-2)]) rfl ?_
    exact s_iretX X hr (dk okd_X11_openOutlet 10 rfl) rfl rfl
  · refine s_if_eq (tgt := 40) X (dk okd_X11_openOutlet 6 rfl) (by decide) ?_ ?_
    · exact s_less [false, false, false, false] rfl (h10)
    · refine s_run X ok_X11_openOutlet 6 1 (pc' := 28) (vs' := [some (.ref p0), some (.int p1), some (.int p2), some (.int p3)]) (st' := [.ref p0]) rfl ?_
      refine s_getR X fl_X11_41 t0_ (dk okd_X11_openOutlet 7 rfl) (fun a11 (t12 : tT C a11 1) => ?_)
      refine s_run X ok_X11_openOutlet 7 3 (pc' := 34) (vs' := [some (.ref p0), some (.int p1), some (.int p2), some (.int p3)]) (st' := [.int p3, .int p2, .int p1, .ref a11]) rfl ?_
      refine s_callV (b := a11) (As := [.int p1, .int p2, .int p3]) (rest := []) X E mv_X11_211 (c_X1_hasFreeCell S a11 p1 p2 p3) rfl (ta1 t12) rfl (by decide) t12 rfl rfl (Nat.le_of_ble_eq_true rfl) (Nat.le_of_ble_eq_true rfl) (Nat.le_of_ble_eq_true rfl) (dk okd_X11_openOutlet 8 rfl) (st' := fun v13 => [.int v13]) (fun _ => rfl) (fun v13 => ?_)
      refine s_if_ne (tgt := 43) X (dk okd_X11_openOutlet 9 rfl) (by decide) ?_ ?_
      · refine s_run X ok_X11_openOutlet 11 1 (pc' := 44) (vs' := [some (.ref p0), some (.int p1), some (.int p2), some (.int p3)]) (st' := [.ref p0]) rfl ?_
        refine s_getR X fl_X11_41 t0_ (dk okd_X11_openOutlet 11 rfl) (fun a14 (t15 : tT C a14 1) => ?_)
        refine s_getR X fl_X11_133 t15 (dk okd_X11_openOutlet 12 rfl) (fun a16 (t17 : tT C a16 6) => ?_)
        refine s_run X ok_X11_openOutlet 12 3 (pc' := 53) (vs' := [some (.ref p0), some (.int p1), some (.int p2), some (.int p3)]) (st' := [.int p3, .int p2, .int p1, .ref a16]) rfl ?_
        refine s_callV (b := a16) (As := [.int p1, .int p2, .int p3]) (rest := []) X E mv_X11_215 (c_X6_add S a16 p1 p2 p3) rfl (ta1 t17) rfl (by decide) t17 rfl rfl (Nat.le_of_ble_eq_true rfl) (Nat.le_of_ble_eq_true rfl) (Nat.le_of_ble_eq_true rfl) (dk okd_X11_openOutlet 13 rfl) (st' := fun o18 => [.int o18.1]) (fun _ => rfl) (fun o18 => ?_)
        exact s_iretX X hr (dk okd_X11_openOutlet 14 rfl) rfl rfl
      · exact s_less [false, false, false, false] rfl (h10)
def tab_X11_bestSite : List En := [(0, 8, 0, 0), (1, 4, 1, 0), (5, 8, 0, 0), (9, 4, 1, 0)]
theorem ok_X11_bestSite : tab_X11_bestSite.all (okE cX11_bestSite) = true := by decide +kernel
def ed_X11_bestSite : List (Nat × Instr × Nat) := [(2, .invokevirtual 159, 3), (6, .getfield 41, 3), (10, .invokevirtual 218, 3), (13, .ireturn, 1)]
theorem okd_X11_bestSite : ed_X11_bestSite.all (okD cX11_bestSite) = true := by decide +kernel
def f_X11_bestSite (S : St) (p0 : Nat) (p1 : Int32) : Option ((Int32) ⊕ Nat) := clx (f_X11_requireFranchisee S p0 p1) fun (u1 : Unit) => lt (gR S p0 5) fun (a2 : Nat) => cl (f_X1_farthestCell S a2 p1) fun (v4 : Int32) => some (.inl v4)
set_option maxHeartbeats 4000000 in
set_option maxRecDepth 100000 in
theorem c_X11_bestSite (S : St) (p0 : Nat) (p1 : Int32) : CtX yX11_bestSite cX11_bestSite 2 (some .int) 7 111 (fun _ => [.ref p0, .int p1]) [(p0, 10)] S (f_X11_bestSite S p0 p1) oI (fun _ => S) := by
  refine CtX_of RX11 rfl (by decide) (fun _ => Nat.le_of_ble_eq_true rfl) 0 (vs := fun _ => [some (.ref p0), some (.int p1)]) (fun _ => rfl) (fun C X E hr tx ht => ?_)
  have t0_ : tT C p0 10 := ht (p0, 10) (by simp)
  show Jd C 2 (QX C oI (fun _ => S) S) S 0 [some (.ref p0), some (.int p1)] [] (f_X11_bestSite S p0 p1)
  unfold f_X11_bestSite
  refine s_run X ok_X11_bestSite 0 2 (pc' := 2) (vs' := [some (.ref p0), some (.int p1)]) (st' := [.int p1, .ref p0]) rfl ?_
  refine s_callVX (b := p0) (As := [.int p1]) (rest := []) X E tx mv_X11_159 (c_X11_requireFranchisee S p0 p1) rfl (ta1 t0_) rfl (by decide) t0_ rfl rfl (Nat.le_of_ble_eq_true rfl) (Nat.le_of_ble_eq_true rfl) (Nat.le_of_ble_eq_true rfl) (dk okd_X11_bestSite 0 rfl) (st' := fun u1 => []) (fun _ => rfl) (fun u1 => ?_)
  refine s_run X ok_X11_bestSite 2 1 (pc' := 6) (vs' := [some (.ref p0), some (.int p1)]) (st' := [.ref p0]) rfl ?_
  refine s_getR X fl_X11_41 t0_ (dk okd_X11_bestSite 1 rfl) (fun a2 (t3 : tT C a2 1) => ?_)
  refine s_run X ok_X11_bestSite 3 1 (pc' := 10) (vs' := [some (.ref p0), some (.int p1)]) (st' := [.int p1, .ref a2]) rfl ?_
  refine s_callV (b := a2) (As := [.int p1]) (rest := []) X E mv_X11_218 (c_X1_farthestCell S a2 p1) rfl (ta1 t3) rfl (by decide) t3 rfl rfl (Nat.le_of_ble_eq_true rfl) (Nat.le_of_ble_eq_true rfl) (Nat.le_of_ble_eq_true rfl) (dk okd_X11_bestSite 2 rfl) (st' := fun v4 => [.int v4]) (fun _ => rfl) (fun v4 => ?_)
  exact s_iretX X hr (dk okd_X11_bestSite 3 rfl) rfl rfl
def tab_X11_coverage : List En := [(0, 8, 0, 0), (1, 4, 1, 0), (5, 4, 2, 0), (9, 4, 2, 0), (10, 1, 0, 58), (15, 0, 0, 1), (16, 41, 20, 0), (19, 0, 0, 0), (23, 8, 0, 0), (27, 4, 1, 0), (28, 4, 2, 0)]
theorem ok_X11_coverage : tab_X11_coverage.all (okE cX11_coverage) = true := by decide +kernel
def ed_X11_coverage : List (Nat × Instr × Nat) := [(2, .invokevirtual 159, 3), (6, .ifCond .lt 13, 3), (12, .if_icmp .gt 7, 3), (20, .invokestatic 107, 3), (24, .getfield 41, 3), (29, .invokevirtual 221, 3), (32, .ireturn, 1)]
theorem okd_X11_coverage : ed_X11_coverage.all (okD cX11_coverage) = true := by decide +kernel
def f_X11_coverage (S : St) (p0 : Nat) (p1 : Int32) (p2 : Int32) : Option ((Int32) ⊕ Nat) := clx (f_X11_requireFranchisee S p0 p1) fun (u1 : Unit) => jn (κ := Int32 → Option ((Int32) ⊕ Nat)) (fun x2 => clx (f_X11_requireArgument S x2) fun (u5 : Unit) => lt (gR S p0 5) fun (a6 : Nat) => cl (f_X1_cellsWithin S a6 p1 p2) fun (v8 : Int32) => some (.inl v8)) fun k3 => jn (κ := Option ((Int32) ⊕ Nat)) (k3 0) fun k9 => if p2 < 0 then (k9) else (if 58 < p2 then (k9) else (k3 1))
set_option maxHeartbeats 4000000 in
set_option maxRecDepth 100000 in
theorem c_X11_coverage (S : St) (p0 : Nat) (p1 : Int32) (p2 : Int32) : CtX yX11_coverage cX11_coverage 3 (some .int) 7 111 (fun _ => [.ref p0, .int p1, .int p2]) [(p0, 10)] S (f_X11_coverage S p0 p1 p2) oI (fun _ => S) := by
  refine CtX_of RX11 rfl (by decide) (fun _ => Nat.le_of_ble_eq_true rfl) 0 (vs := fun _ => [some (.ref p0), some (.int p1), some (.int p2)]) (fun _ => rfl) (fun C X E hr tx ht => ?_)
  have t0_ : tT C p0 10 := ht (p0, 10) (by simp)
  show Jd C 3 (QX C oI (fun _ => S) S) S 0 [some (.ref p0), some (.int p1), some (.int p2)] [] (f_X11_coverage S p0 p1 p2)
  unfold f_X11_coverage
  refine s_run X ok_X11_coverage 0 2 (pc' := 2) (vs' := [some (.ref p0), some (.int p1), some (.int p2)]) (st' := [.int p1, .ref p0]) rfl ?_
  refine s_callVX (b := p0) (As := [.int p1]) (rest := []) X E tx mv_X11_159 (c_X11_requireFranchisee S p0 p1) rfl (ta1 t0_) rfl (by decide) t0_ rfl rfl (Nat.le_of_ble_eq_true rfl) (Nat.le_of_ble_eq_true rfl) (Nat.le_of_ble_eq_true rfl) (dk okd_X11_coverage 0 rfl) (st' := fun u1 => []) (fun _ => rfl) (fun u1 => ?_)
  refine s_run X ok_X11_coverage 2 1 (pc' := 6) (vs' := [some (.ref p0), some (.int p1), some (.int p2)]) (st' := [.int p2]) rfl ?_
  refine s_jn (κ := Int32 → Option ((Int32) ⊕ Nat)) (fun k3 => ∀ (x2 : Int32), Jd C 3 (QX C oI (fun _ => S) S) S 20 [some (.ref p0), some (.int p1), some (.int p2)] [.int x2] (k3 x2)) (fun x2 => ?_) (fun k3 h4 => ?_)
  · refine s_callSX (As := [.int x2]) (rest := []) X E tx ms_X11_107 (c_X11_requireArgument S x2) rfl (ta0) rfl rfl (Nat.le_of_ble_eq_true rfl) (Nat.le_of_ble_eq_true rfl) (Nat.le_of_ble_eq_true rfl) (dk okd_X11_coverage 3 rfl) (st' := fun u5 => []) (fun _ => rfl) (fun u5 => ?_)
    refine s_run X ok_X11_coverage 8 1 (pc' := 24) (vs' := [some (.ref p0), some (.int p1), some (.int p2)]) (st' := [.ref p0]) rfl ?_
    refine s_getR X fl_X11_41 t0_ (dk okd_X11_coverage 4 rfl) (fun a6 (t7 : tT C a6 1) => ?_)
    refine s_run X ok_X11_coverage 9 2 (pc' := 29) (vs' := [some (.ref p0), some (.int p1), some (.int p2)]) (st' := [.int p2, .int p1, .ref a6]) rfl ?_
    refine s_callV (b := a6) (As := [.int p1, .int p2]) (rest := []) X E mv_X11_221 (c_X1_cellsWithin S a6 p1 p2) rfl (ta1 t7) rfl (by decide) t7 rfl rfl (Nat.le_of_ble_eq_true rfl) (Nat.le_of_ble_eq_true rfl) (Nat.le_of_ble_eq_true rfl) (dk okd_X11_coverage 5 rfl) (st' := fun v8 => [.int v8]) (fun _ => rfl) (fun v8 => ?_)
    exact s_iretX X hr (dk okd_X11_coverage 6 rfl) rfl rfl
  · refine s_jn (κ := Option ((Int32) ⊕ Nat)) (fun k9 => Jd C 3 (QX C oI (fun _ => S) S) S 19 [some (.ref p0), some (.int p1), some (.int p2)] [] k9) ?_ (fun k9 h10 => ?_)
    · refine s_run X ok_X11_coverage 7 1 (pc' := 20) (vs' := [some (.ref p0), some (.int p1), some (.int p2)]) (st' := [.int 0]) rfl ?_
      exact h4 0
    · refine s_if_lt (tgt := 19) X (dk okd_X11_coverage 1 rfl) (by decide) ?_ ?_
      · exact h10
      · refine s_run X ok_X11_coverage 3 2 (pc' := 12) (vs' := [some (.ref p0), some (.int p1), some (.int p2)]) (st' := [.int 58, .int p2]) rfl ?_
        refine s_icmp_gt (tgt := 19) X (dk okd_X11_coverage 2 rfl) (by decide) ?_ ?_
        · exact h10
        · refine s_run X ok_X11_coverage 5 2 (pc' := 20) (vs' := [some (.ref p0), some (.int p1), some (.int p2)]) (st' := [.int 1]) rfl ?_
          exact h4 1
def tab_X11_rivalCells : List En := [(0, 8, 0, 0), (1, 4, 1, 0), (5, 8, 0, 0), (6, 4, 2, 0), (10, 4, 1, 0), (11, 4, 2, 0), (15, 0, 0, 1), (16, 41, 20, 0), (19, 0, 0, 0), (23, 8, 0, 0), (27, 4, 1, 0), (28, 4, 2, 0)]
theorem ok_X11_rivalCells : tab_X11_rivalCells.all (okE cX11_rivalCells) = true := by decide +kernel
def ed_X11_rivalCells : List (Nat × Instr × Nat) := [(2, .invokevirtual 159, 3), (7, .invokevirtual 159, 3), (12, .if_icmp .eq 7, 3), (20, .invokestatic 107, 3), (24, .getfield 41, 3), (29, .invokevirtual 224, 3), (32, .ireturn, 1)]
theorem okd_X11_rivalCells : ed_X11_rivalCells.all (okD cX11_rivalCells) = true := by decide +kernel
def f_X11_rivalCells (S : St) (p0 : Nat) (p1 : Int32) (p2 : Int32) : Option ((Int32) ⊕ Nat) := clx (f_X11_requireFranchisee S p0 p1) fun (u1 : Unit) => clx (f_X11_requireFranchisee S p0 p2) fun (u2 : Unit) => jn (κ := Int32 → Option ((Int32) ⊕ Nat)) (fun x3 => clx (f_X11_requireArgument S x3) fun (u6 : Unit) => lt (gR S p0 5) fun (a7 : Nat) => cl (f_X1_cellsNearerTo S a7 p1 p2) fun (v9 : Int32) => some (.inl v9)) fun k4 => if p1 = p2 then (k4 0) else (k4 1)
set_option maxHeartbeats 4000000 in
set_option maxRecDepth 100000 in
theorem c_X11_rivalCells (S : St) (p0 : Nat) (p1 : Int32) (p2 : Int32) : CtX yX11_rivalCells cX11_rivalCells 3 (some .int) 7 111 (fun _ => [.ref p0, .int p1, .int p2]) [(p0, 10)] S (f_X11_rivalCells S p0 p1 p2) oI (fun _ => S) := by
  refine CtX_of RX11 rfl (by decide) (fun _ => Nat.le_of_ble_eq_true rfl) 0 (vs := fun _ => [some (.ref p0), some (.int p1), some (.int p2)]) (fun _ => rfl) (fun C X E hr tx ht => ?_)
  have t0_ : tT C p0 10 := ht (p0, 10) (by simp)
  show Jd C 3 (QX C oI (fun _ => S) S) S 0 [some (.ref p0), some (.int p1), some (.int p2)] [] (f_X11_rivalCells S p0 p1 p2)
  unfold f_X11_rivalCells
  refine s_run X ok_X11_rivalCells 0 2 (pc' := 2) (vs' := [some (.ref p0), some (.int p1), some (.int p2)]) (st' := [.int p1, .ref p0]) rfl ?_
  refine s_callVX (b := p0) (As := [.int p1]) (rest := []) X E tx mv_X11_159 (c_X11_requireFranchisee S p0 p1) rfl (ta1 t0_) rfl (by decide) t0_ rfl rfl (Nat.le_of_ble_eq_true rfl) (Nat.le_of_ble_eq_true rfl) (Nat.le_of_ble_eq_true rfl) (dk okd_X11_rivalCells 0 rfl) (st' := fun u1 => []) (fun _ => rfl) (fun u1 => ?_)
  refine s_run X ok_X11_rivalCells 2 2 (pc' := 7) (vs' := [some (.ref p0), some (.int p1), some (.int p2)]) (st' := [.int p2, .ref p0]) rfl ?_
  refine s_callVX (b := p0) (As := [.int p2]) (rest := []) X E tx mv_X11_159 (c_X11_requireFranchisee S p0 p2) rfl (ta1 t0_) rfl (by decide) t0_ rfl rfl (Nat.le_of_ble_eq_true rfl) (Nat.le_of_ble_eq_true rfl) (Nat.le_of_ble_eq_true rfl) (dk okd_X11_rivalCells 1 rfl) (st' := fun u2 => []) (fun _ => rfl) (fun u2 => ?_)
  refine s_run X ok_X11_rivalCells 4 2 (pc' := 12) (vs' := [some (.ref p0), some (.int p1), some (.int p2)]) (st' := [.int p2, .int p1]) rfl ?_
  refine s_jn (κ := Int32 → Option ((Int32) ⊕ Nat)) (fun k4 => ∀ (x3 : Int32), Jd C 3 (QX C oI (fun _ => S) S) S 20 [some (.ref p0), some (.int p1), some (.int p2)] [.int x3] (k4 x3)) (fun x3 => ?_) (fun k4 h5 => ?_)
  · refine s_callSX (As := [.int x3]) (rest := []) X E tx ms_X11_107 (c_X11_requireArgument S x3) rfl (ta0) rfl rfl (Nat.le_of_ble_eq_true rfl) (Nat.le_of_ble_eq_true rfl) (Nat.le_of_ble_eq_true rfl) (dk okd_X11_rivalCells 3 rfl) (st' := fun u6 => []) (fun _ => rfl) (fun u6 => ?_)
    refine s_run X ok_X11_rivalCells 9 1 (pc' := 24) (vs' := [some (.ref p0), some (.int p1), some (.int p2)]) (st' := [.ref p0]) rfl ?_
    refine s_getR X fl_X11_41 t0_ (dk okd_X11_rivalCells 4 rfl) (fun a7 (t8 : tT C a7 1) => ?_)
    refine s_run X ok_X11_rivalCells 10 2 (pc' := 29) (vs' := [some (.ref p0), some (.int p1), some (.int p2)]) (st' := [.int p2, .int p1, .ref a7]) rfl ?_
    refine s_callV (b := a7) (As := [.int p1, .int p2]) (rest := []) X E mv_X11_224 (c_X1_cellsNearerTo S a7 p1 p2) rfl (ta1 t8) rfl (by decide) t8 rfl rfl (Nat.le_of_ble_eq_true rfl) (Nat.le_of_ble_eq_true rfl) (Nat.le_of_ble_eq_true rfl) (dk okd_X11_rivalCells 5 rfl) (st' := fun v9 => [.int v9]) (fun _ => rfl) (fun v9 => ?_)
    exact s_iretX X hr (dk okd_X11_rivalCells 6 rfl) rfl rfl
  · refine s_icmp_eq (tgt := 19) X (dk okd_X11_rivalCells 2 rfl) (by decide) ?_ ?_
    · refine s_run X ok_X11_rivalCells 8 1 (pc' := 20) (vs' := [some (.ref p0), some (.int p1), some (.int p2)]) (st' := [.int 0]) rfl ?_
      exact h5 0
    · refine s_run X ok_X11_rivalCells 6 2 (pc' := 20) (vs' := [some (.ref p0), some (.int p1), some (.int p2)]) (st' := [.int 1]) rfl ?_
      exact h5 1
def tab_X11_halvingLine : List En := [(0, 8, 0, 0), (1, 4, 1, 0), (5, 8, 0, 0), (12, 4, 1, 0)]
theorem ok_X11_halvingLine : tab_X11_halvingLine.all (okE cX11_halvingLine) = true := by decide +kernel
def ed_X11_halvingLine : List (Nat × Instr × Nat) := [(2, .invokevirtual 159, 3), (6, .getfield 41, 3), (9, .getfield 153, 3), (13, .invokevirtual 227, 3), (16, .ireturn, 1)]
theorem okd_X11_halvingLine : ed_X11_halvingLine.all (okD cX11_halvingLine) = true := by decide +kernel
def f_X11_halvingLine (S : St) (p0 : Nat) (p1 : Int32) : Option ((Int32) ⊕ Nat) := clx (f_X11_requireFranchisee S p0 p1) fun (u1 : Unit) => lt (gR S p0 5) fun (a2 : Nat) => lt (gR S a2 1) fun (a4 : Nat) => cl (f_X3_bestHalving S a4 p1) fun (v6 : Int32) => some (.inl v6)
set_option maxHeartbeats 4000000 in
set_option maxRecDepth 100000 in
theorem c_X11_halvingLine (S : St) (p0 : Nat) (p1 : Int32) : CtX yX11_halvingLine cX11_halvingLine 2 (some .int) 7 111 (fun _ => [.ref p0, .int p1]) [(p0, 10)] S (f_X11_halvingLine S p0 p1) oI (fun _ => S) := by
  refine CtX_of RX11 rfl (by decide) (fun _ => Nat.le_of_ble_eq_true rfl) 0 (vs := fun _ => [some (.ref p0), some (.int p1)]) (fun _ => rfl) (fun C X E hr tx ht => ?_)
  have t0_ : tT C p0 10 := ht (p0, 10) (by simp)
  show Jd C 2 (QX C oI (fun _ => S) S) S 0 [some (.ref p0), some (.int p1)] [] (f_X11_halvingLine S p0 p1)
  unfold f_X11_halvingLine
  refine s_run X ok_X11_halvingLine 0 2 (pc' := 2) (vs' := [some (.ref p0), some (.int p1)]) (st' := [.int p1, .ref p0]) rfl ?_
  refine s_callVX (b := p0) (As := [.int p1]) (rest := []) X E tx mv_X11_159 (c_X11_requireFranchisee S p0 p1) rfl (ta1 t0_) rfl (by decide) t0_ rfl rfl (Nat.le_of_ble_eq_true rfl) (Nat.le_of_ble_eq_true rfl) (Nat.le_of_ble_eq_true rfl) (dk okd_X11_halvingLine 0 rfl) (st' := fun u1 => []) (fun _ => rfl) (fun u1 => ?_)
  refine s_run X ok_X11_halvingLine 2 1 (pc' := 6) (vs' := [some (.ref p0), some (.int p1)]) (st' := [.ref p0]) rfl ?_
  refine s_getR X fl_X11_41 t0_ (dk okd_X11_halvingLine 1 rfl) (fun a2 (t3 : tT C a2 1) => ?_)
  refine s_getR X fl_X11_153 t3 (dk okd_X11_halvingLine 2 rfl) (fun a4 (t5 : tT C a4 3) => ?_)
  refine s_run X ok_X11_halvingLine 3 1 (pc' := 13) (vs' := [some (.ref p0), some (.int p1)]) (st' := [.int p1, .ref a4]) rfl ?_
  refine s_callV (b := a4) (As := [.int p1]) (rest := []) X E mv_X11_227 (c_X3_bestHalving S a4 p1) rfl (ta1 t5) rfl (by decide) t5 rfl rfl (Nat.le_of_ble_eq_true rfl) (Nat.le_of_ble_eq_true rfl) (Nat.le_of_ble_eq_true rfl) (dk okd_X11_halvingLine 3 rfl) (st' := fun v6 => [.int v6]) (fun _ => rfl) (fun v6 => ?_)
  exact s_iretX X hr (dk okd_X11_halvingLine 4 rfl) rfl rfl
def tab_X11_royalty : List En := [(0, 8, 0, 0), (1, 4, 1, 0), (5, 6, 2, 0), (6, 3, 0, 0), (7, 40, 0, 0), (11, 6, 2, 0), (15, 40, 0, 0), (19, 0, 0, 1), (20, 41, 24, 0), (23, 0, 0, 0), (27, 8, 0, 0), (34, 4, 1, 0), (35, 6, 2, 0)]
theorem ok_X11_royalty : tab_X11_royalty.all (okE cX11_royalty) = true := by decide +kernel
def ed_X11_royalty : List (Nat × Instr × Nat) := [(2, .invokevirtual 230, 3), (8, .ifCond .lt 15, 3), (12, .ldc2_w 233, 3), (16, .ifCond .gt 7, 3), (24, .invokestatic 107, 3), (28, .getfield 41, 3), (31, .getfield 121, 3), (36, .invokevirtual 235, 3), (39, .lreturn, 1)]
theorem okd_X11_royalty : ed_X11_royalty.all (okD cX11_royalty) = true := by decide +kernel
def f_X11_royalty (S : St) (p0 : Nat) (p1 : Int32) (p2 : Int64) : Option ((Int64) ⊕ Nat) := clx (f_X11_requirePlan S p0 p1) fun (u1 : Unit) => jn (κ := Int32 → Option ((Int64) ⊕ Nat)) (fun x2 => clx (f_X11_requireArgument S x2) fun (u5 : Unit) => lt (gR S p0 5) fun (a6 : Nat) => lt (gR S a6 0) fun (a8 : Nat) => cl (f_X8_royaltyFor S a8 p1 p2) fun (v10 : Int64) => some (.inl v10)) fun k3 => jn (κ := Option ((Int64) ⊕ Nat)) (k3 0) fun k11 => if p2 < 0 then (k11) else (if 1000000000 < p2 then (k11) else (k3 1))
set_option maxHeartbeats 4000000 in
set_option maxRecDepth 100000 in
theorem c_X11_royalty (S : St) (p0 : Nat) (p1 : Int32) (p2 : Int64) : CtX yX11_royalty cX11_royalty 4 (some .long) 7 111 (fun _ => [.ref p0, .int p1, .long p2]) [(p0, 10)] S (f_X11_royalty S p0 p1 p2) oL (fun _ => S) := by
  refine CtX_of RX11 rfl (by decide) (fun _ => Nat.le_of_ble_eq_true rfl) 0 (vs := fun _ => [some (.ref p0), some (.int p1), some (.long p2), none]) (fun _ => rfl) (fun C X E hr tx ht => ?_)
  have t0_ : tT C p0 10 := ht (p0, 10) (by simp)
  show Jd C 4 (QX C oL (fun _ => S) S) S 0 [some (.ref p0), some (.int p1), some (.long p2), none] [] (f_X11_royalty S p0 p1 p2)
  unfold f_X11_royalty
  refine s_run X ok_X11_royalty 0 2 (pc' := 2) (vs' := [some (.ref p0), some (.int p1), some (.long p2), none]) (st' := [.int p1, .ref p0]) rfl ?_
  refine s_callVX (b := p0) (As := [.int p1]) (rest := []) X E tx mv_X11_230 (c_X11_requirePlan S p0 p1) rfl (ta1 t0_) rfl (by decide) t0_ rfl rfl (Nat.le_of_ble_eq_true rfl) (Nat.le_of_ble_eq_true rfl) (Nat.le_of_ble_eq_true rfl) (dk okd_X11_royalty 0 rfl) (st' := fun u1 => []) (fun _ => rfl) (fun u1 => ?_)
  refine s_run X ok_X11_royalty 2 3 (pc' := 8) (vs' := [some (.ref p0), some (.int p1), some (.long p2), none]) (st' := [.int (lg_cmp p2 0)]) rfl ?_
  refine s_jn (κ := Int32 → Option ((Int64) ⊕ Nat)) (fun k3 => ∀ (x2 : Int32), Jd C 4 (QX C oL (fun _ => S) S) S 24 [some (.ref p0), some (.int p1), some (.long p2), none] [.int x2] (k3 x2)) (fun x2 => ?_) (fun k3 h4 => ?_)
  · refine s_callSX (As := [.int x2]) (rest := []) X E tx ms_X11_107 (c_X11_requireArgument S x2) rfl (ta0) rfl rfl (Nat.le_of_ble_eq_true rfl) (Nat.le_of_ble_eq_true rfl) (Nat.le_of_ble_eq_true rfl) (dk okd_X11_royalty 4 rfl) (st' := fun u5 => []) (fun _ => rfl) (fun u5 => ?_)
    refine s_run X ok_X11_royalty 10 1 (pc' := 28) (vs' := [some (.ref p0), some (.int p1), some (.long p2), none]) (st' := [.ref p0]) rfl ?_
    refine s_getR X fl_X11_41 t0_ (dk okd_X11_royalty 5 rfl) (fun a6 (t7 : tT C a6 1) => ?_)
    refine s_getR X fl_X11_121 t7 (dk okd_X11_royalty 6 rfl) (fun a8 (t9 : tT C a8 7) => ?_)
    refine s_run X ok_X11_royalty 11 2 (pc' := 36) (vs' := [some (.ref p0), some (.int p1), some (.long p2), none]) (st' := [.long p2, .int p1, .ref a8]) rfl ?_
    refine s_callV (b := a8) (As := [.int p1, .long p2]) (rest := []) X E mv_X11_235 (c_X8_royaltyFor S a8 p1 p2) rfl (ta1 t9) rfl (by decide) t9 rfl rfl (Nat.le_of_ble_eq_true rfl) (Nat.le_of_ble_eq_true rfl) (Nat.le_of_ble_eq_true rfl) (dk okd_X11_royalty 7 rfl) (st' := fun v10 => [.long v10]) (fun _ => rfl) (fun v10 => ?_)
    exact s_lretX X hr (dk okd_X11_royalty 8 rfl) rfl rfl
  · refine s_jn (κ := Option ((Int64) ⊕ Nat)) (fun k11 => Jd C 4 (QX C oL (fun _ => S) S) S 23 [some (.ref p0), some (.int p1), some (.long p2), none] [] k11) ?_ (fun k11 h12 => ?_)
    · refine s_run X ok_X11_royalty 9 1 (pc' := 24) (vs' := [some (.ref p0), some (.int p1), some (.long p2), none]) (st' := [.int 0]) rfl ?_
      exact h4 0
    · refine s_lif_lt (tgt := 23) X (dk okd_X11_royalty 1 rfl) (by decide) ?_ ?_
      · exact h12
      · refine s_run X ok_X11_royalty 5 1 (pc' := 12) (vs' := [some (.ref p0), some (.int p1), some (.long p2), none]) (st' := [.long p2]) rfl ?_
        refine s_ldc2 X cl_X11_233 (dk okd_X11_royalty 2 rfl) ?_
        refine s_run X ok_X11_royalty 6 1 (pc' := 16) (vs' := [some (.ref p0), some (.int p1), some (.long p2), none]) (st' := [.int (lg_cmp p2 1000000000)]) rfl ?_
        refine s_lif_gt (tgt := 23) X (dk okd_X11_royalty 3 rfl) (by decide) ?_ ?_
        · exact h12
        · refine s_run X ok_X11_royalty 7 2 (pc' := 24) (vs' := [some (.ref p0), some (.int p1), some (.long p2), none]) (st' := [.int 1]) rfl ?_
          exact h4 1
def tab_X11_planOf : List En := [(0, 8, 0, 0), (1, 4, 1, 0), (5, 8, 0, 0), (15, 4, 1, 0)]
theorem ok_X11_planOf : tab_X11_planOf.all (okE cX11_planOf) = true := by decide +kernel
def ed_X11_planOf : List (Nat × Instr × Nat) := [(2, .invokevirtual 159, 3), (6, .getfield 41, 3), (9, .getfield 85, 3), (12, .getfield 239, 3), (16, .iaload, 1), (17, .ireturn, 1)]
theorem okd_X11_planOf : ed_X11_planOf.all (okD cX11_planOf) = true := by decide +kernel
def f_X11_planOf (S : St) (p0 : Nat) (p1 : Int32) : Option ((Int32) ⊕ Nat) := clx (f_X11_requireFranchisee S p0 p1) fun (u1 : Unit) => lt (gR S p0 5) fun (a2 : Nat) => lt (gR S a2 3) fun (a4 : Nat) => lt (gR S a4 2) fun (a6 : Nat) => ldI S a6 p1 fun (v8 : Int32) => some (.inl v8)
set_option maxHeartbeats 4000000 in
set_option maxRecDepth 100000 in
theorem c_X11_planOf (S : St) (p0 : Nat) (p1 : Int32) : CtX yX11_planOf cX11_planOf 2 (some .int) 7 111 (fun _ => [.ref p0, .int p1]) [(p0, 10)] S (f_X11_planOf S p0 p1) oI (fun _ => S) := by
  refine CtX_of RX11 rfl (by decide) (fun _ => Nat.le_of_ble_eq_true rfl) 0 (vs := fun _ => [some (.ref p0), some (.int p1)]) (fun _ => rfl) (fun C X E hr tx ht => ?_)
  have t0_ : tT C p0 10 := ht (p0, 10) (by simp)
  show Jd C 2 (QX C oI (fun _ => S) S) S 0 [some (.ref p0), some (.int p1)] [] (f_X11_planOf S p0 p1)
  unfold f_X11_planOf
  refine s_run X ok_X11_planOf 0 2 (pc' := 2) (vs' := [some (.ref p0), some (.int p1)]) (st' := [.int p1, .ref p0]) rfl ?_
  refine s_callVX (b := p0) (As := [.int p1]) (rest := []) X E tx mv_X11_159 (c_X11_requireFranchisee S p0 p1) rfl (ta1 t0_) rfl (by decide) t0_ rfl rfl (Nat.le_of_ble_eq_true rfl) (Nat.le_of_ble_eq_true rfl) (Nat.le_of_ble_eq_true rfl) (dk okd_X11_planOf 0 rfl) (st' := fun u1 => []) (fun _ => rfl) (fun u1 => ?_)
  refine s_run X ok_X11_planOf 2 1 (pc' := 6) (vs' := [some (.ref p0), some (.int p1)]) (st' := [.ref p0]) rfl ?_
  refine s_getR X fl_X11_41 t0_ (dk okd_X11_planOf 1 rfl) (fun a2 (t3 : tT C a2 1) => ?_)
  refine s_getR X fl_X11_85 t3 (dk okd_X11_planOf 2 rfl) (fun a4 (t5 : tT C a4 2) => ?_)
  refine s_getR X fl_X11_239 t5 (dk okd_X11_planOf 3 rfl) (fun a6 (t7 : tT C a6 13) => ?_)
  refine s_run X ok_X11_planOf 3 1 (pc' := 16) (vs' := [some (.ref p0), some (.int p1)]) (st' := [.int p1, .ref a6]) rfl ?_
  refine s_iald X t7 (dk okd_X11_planOf 4 rfl) (fun v8 => ?_)
  exact s_iretX X hr (dk okd_X11_planOf 5 rfl) rfl rfl
def tab_X11_setPlan : List En := [(0, 8, 0, 0), (1, 4, 1, 0), (5, 8, 0, 0), (6, 4, 2, 0), (10, 8, 0, 0), (20, 4, 1, 0), (22, 10, 3, 0), (23, 8, 0, 0), (33, 4, 1, 0), (34, 4, 2, 0), (36, 4, 3, 0)]
theorem ok_X11_setPlan : tab_X11_setPlan.all (okE cX11_setPlan) = true := by decide +kernel
def ed_X11_setPlan : List (Nat × Instr × Nat) := [(2, .invokevirtual 159, 3), (7, .invokevirtual 230, 3), (11, .getfield 41, 3), (14, .getfield 85, 3), (17, .getfield 239, 3), (21, .iaload, 1), (24, .getfield 41, 3), (27, .getfield 85, 3), (30, .getfield 239, 3), (35, .iastore, 1), (37, .ireturn, 1)]
theorem okd_X11_setPlan : ed_X11_setPlan.all (okD cX11_setPlan) = true := by decide +kernel
def f_X11_setPlan (S : St) (p0 : Nat) (p1 : Int32) (p2 : Int32) : Option ((Int32 × St) ⊕ Nat) := clx (f_X11_requireFranchisee S p0 p1) fun (u1 : Unit) => clx (f_X11_requirePlan S p0 p2) fun (u2 : Unit) => lt (gR S p0 5) fun (a3 : Nat) => lt (gR S a3 3) fun (a5 : Nat) => lt (gR S a5 2) fun (a7 : Nat) => ldI S a7 p1 fun (v9 : Int32) => lt (gR S p0 5) fun (a10 : Nat) => lt (gR S a10 3) fun (a12 : Nat) => lt (gR S a12 2) fun (a14 : Nat) => stI S a14 p1 p2 fun (S16 : St) => some (.inl (v9, S16))
set_option maxHeartbeats 4000000 in
set_option maxRecDepth 100000 in
theorem c_X11_setPlan (S : St) (p0 : Nat) (p1 : Int32) (p2 : Int32) : CtX yX11_setPlan cX11_setPlan 4 (some .int) 7 111 (fun _ => [.ref p0, .int p1, .int p2]) [(p0, 10)] S (f_X11_setPlan S p0 p1 p2) oIS sS := by
  refine CtX_of RX11 rfl (by decide) (fun _ => Nat.le_of_ble_eq_true rfl) 1 (vs := fun _ => [some (.ref p0), some (.int p1), some (.int p2), none]) (fun _ => rfl) (fun C X E hr tx ht => ?_)
  have t0_ : tT C p0 10 := ht (p0, 10) (by simp)
  show Jd C 4 (QX C oIS sS S) S 0 [some (.ref p0), some (.int p1), some (.int p2), none] [] (f_X11_setPlan S p0 p1 p2)
  unfold f_X11_setPlan
  refine s_run X ok_X11_setPlan 0 2 (pc' := 2) (vs' := [some (.ref p0), some (.int p1), some (.int p2), none]) (st' := [.int p1, .ref p0]) rfl ?_
  refine s_callVX (b := p0) (As := [.int p1]) (rest := []) X E tx mv_X11_159 (c_X11_requireFranchisee S p0 p1) rfl (ta1 t0_) rfl (by decide) t0_ rfl rfl (Nat.le_of_ble_eq_true rfl) (Nat.le_of_ble_eq_true rfl) (Nat.le_of_ble_eq_true rfl) (dk okd_X11_setPlan 0 rfl) (st' := fun u1 => []) (fun _ => rfl) (fun u1 => ?_)
  refine s_run X ok_X11_setPlan 2 2 (pc' := 7) (vs' := [some (.ref p0), some (.int p1), some (.int p2), none]) (st' := [.int p2, .ref p0]) rfl ?_
  refine s_callVX (b := p0) (As := [.int p2]) (rest := []) X E tx mv_X11_230 (c_X11_requirePlan S p0 p2) rfl (ta1 t0_) rfl (by decide) t0_ rfl rfl (Nat.le_of_ble_eq_true rfl) (Nat.le_of_ble_eq_true rfl) (Nat.le_of_ble_eq_true rfl) (dk okd_X11_setPlan 1 rfl) (st' := fun u2 => []) (fun _ => rfl) (fun u2 => ?_)
  refine s_run X ok_X11_setPlan 4 1 (pc' := 11) (vs' := [some (.ref p0), some (.int p1), some (.int p2), none]) (st' := [.ref p0]) rfl ?_
  refine s_getR X fl_X11_41 t0_ (dk okd_X11_setPlan 2 rfl) (fun a3 (t4 : tT C a3 1) => ?_)
  refine s_getR X fl_X11_85 t4 (dk okd_X11_setPlan 3 rfl) (fun a5 (t6 : tT C a5 2) => ?_)
  refine s_getR X fl_X11_239 t6 (dk okd_X11_setPlan 4 rfl) (fun a7 (t8 : tT C a7 13) => ?_)
  refine s_run X ok_X11_setPlan 5 1 (pc' := 21) (vs' := [some (.ref p0), some (.int p1), some (.int p2), none]) (st' := [.int p1, .ref a7]) rfl ?_
  refine s_iald X t8 (dk okd_X11_setPlan 5 rfl) (fun v9 => ?_)
  refine s_run X ok_X11_setPlan 6 2 (pc' := 24) (vs' := [some (.ref p0), some (.int p1), some (.int p2), some (.int v9)]) (st' := [.ref p0]) rfl ?_
  refine s_getR X fl_X11_41 t0_ (dk okd_X11_setPlan 6 rfl) (fun a10 (t11 : tT C a10 1) => ?_)
  refine s_getR X fl_X11_85 t11 (dk okd_X11_setPlan 7 rfl) (fun a12 (t13 : tT C a12 2) => ?_)
  refine s_getR X fl_X11_239 t13 (dk okd_X11_setPlan 8 rfl) (fun a14 (t15 : tT C a14 13) => ?_)
  refine s_run X ok_X11_setPlan 8 2 (pc' := 35) (vs' := [some (.ref p0), some (.int p1), some (.int p2), some (.int v9)]) (st' := [.int p2, .int p1, .ref a14]) rfl ?_
  refine s_iast X t15 (dk okd_X11_setPlan 9 rfl) (fun S16 => ?_)
  refine s_run X ok_X11_setPlan 10 1 (pc' := 37) (vs' := [some (.ref p0), some (.int p1), some (.int p2), some (.int v9)]) (st' := [.int v9]) rfl ?_
  exact s_iretX X hr (dk okd_X11_setPlan 10 rfl) rfl rfl
def tab_X11_cheapestPlan : List En := [(0, 8, 0, 0), (1, 4, 1, 0), (5, 8, 0, 0), (12, 8, 0, 0), (19, 4, 1, 0)]
theorem ok_X11_cheapestPlan : tab_X11_cheapestPlan.all (okE cX11_cheapestPlan) = true := by decide +kernel
def ed_X11_cheapestPlan : List (Nat × Instr × Nat) := [(2, .invokevirtual 159, 3), (6, .getfield 41, 3), (9, .getfield 121, 3), (13, .getfield 41, 3), (16, .getfield 133, 3), (20, .invokevirtual 242, 3), (23, .invokevirtual 246, 3), (26, .ireturn, 1)]
theorem okd_X11_cheapestPlan : ed_X11_cheapestPlan.all (okD cX11_cheapestPlan) = true := by decide +kernel
def f_X11_cheapestPlan (S : St) (p0 : Nat) (p1 : Int32) : Option ((Int32) ⊕ Nat) := clx (f_X11_requireFranchisee S p0 p1) fun (u1 : Unit) => lt (gR S p0 5) fun (a2 : Nat) => lt (gR S a2 0) fun (a4 : Nat) => lt (gR S p0 5) fun (a6 : Nat) => lt (gR S a6 2) fun (a8 : Nat) => cl (f_X6_salesTogether S a8 p1) fun (v10 : Int64) => cl (f_X8_cheapestFor S a4 v10) fun (v11 : Int32) => some (.inl v11)
set_option maxHeartbeats 4000000 in
set_option maxRecDepth 100000 in
theorem c_X11_cheapestPlan (S : St) (p0 : Nat) (p1 : Int32) : CtX yX11_cheapestPlan cX11_cheapestPlan 2 (some .int) 7 111 (fun _ => [.ref p0, .int p1]) [(p0, 10)] S (f_X11_cheapestPlan S p0 p1) oI (fun _ => S) := by
  refine CtX_of RX11 rfl (by decide) (fun _ => Nat.le_of_ble_eq_true rfl) 0 (vs := fun _ => [some (.ref p0), some (.int p1)]) (fun _ => rfl) (fun C X E hr tx ht => ?_)
  have t0_ : tT C p0 10 := ht (p0, 10) (by simp)
  show Jd C 2 (QX C oI (fun _ => S) S) S 0 [some (.ref p0), some (.int p1)] [] (f_X11_cheapestPlan S p0 p1)
  unfold f_X11_cheapestPlan
  refine s_run X ok_X11_cheapestPlan 0 2 (pc' := 2) (vs' := [some (.ref p0), some (.int p1)]) (st' := [.int p1, .ref p0]) rfl ?_
  refine s_callVX (b := p0) (As := [.int p1]) (rest := []) X E tx mv_X11_159 (c_X11_requireFranchisee S p0 p1) rfl (ta1 t0_) rfl (by decide) t0_ rfl rfl (Nat.le_of_ble_eq_true rfl) (Nat.le_of_ble_eq_true rfl) (Nat.le_of_ble_eq_true rfl) (dk okd_X11_cheapestPlan 0 rfl) (st' := fun u1 => []) (fun _ => rfl) (fun u1 => ?_)
  refine s_run X ok_X11_cheapestPlan 2 1 (pc' := 6) (vs' := [some (.ref p0), some (.int p1)]) (st' := [.ref p0]) rfl ?_
  refine s_getR X fl_X11_41 t0_ (dk okd_X11_cheapestPlan 1 rfl) (fun a2 (t3 : tT C a2 1) => ?_)
  refine s_getR X fl_X11_121 t3 (dk okd_X11_cheapestPlan 2 rfl) (fun a4 (t5 : tT C a4 7) => ?_)
  refine s_run X ok_X11_cheapestPlan 3 1 (pc' := 13) (vs' := [some (.ref p0), some (.int p1)]) (st' := [.ref p0, .ref a4]) rfl ?_
  refine s_getR X fl_X11_41 t0_ (dk okd_X11_cheapestPlan 3 rfl) (fun a6 (t7 : tT C a6 1) => ?_)
  refine s_getR X fl_X11_133 t7 (dk okd_X11_cheapestPlan 4 rfl) (fun a8 (t9 : tT C a8 6) => ?_)
  refine s_run X ok_X11_cheapestPlan 4 1 (pc' := 20) (vs' := [some (.ref p0), some (.int p1)]) (st' := [.int p1, .ref a8, .ref a4]) rfl ?_
  refine s_callV (b := a8) (As := [.int p1]) (rest := [.ref a4]) X E mv_X11_242 (c_X6_salesTogether S a8 p1) rfl (ta1 t9) rfl (by decide) t9 rfl rfl (Nat.le_of_ble_eq_true rfl) (Nat.le_of_ble_eq_true rfl) (Nat.le_of_ble_eq_true rfl) (dk okd_X11_cheapestPlan 5 rfl) (st' := fun v10 => [.long v10, .ref a4]) (fun _ => rfl) (fun v10 => ?_)
  refine s_callV (b := a4) (As := [.long v10]) (rest := []) X E mv_X11_246 (c_X8_cheapestFor S a4 v10) rfl (ta1 t5) rfl (by decide) t5 rfl rfl (Nat.le_of_ble_eq_true rfl) (Nat.le_of_ble_eq_true rfl) (Nat.le_of_ble_eq_true rfl) (dk okd_X11_cheapestPlan 6 rfl) (st' := fun v11 => [.int v11]) (fun _ => rfl) (fun v11 => ?_)
  exact s_iretX X hr (dk okd_X11_cheapestPlan 7 rfl) rfl rfl
def tab_X11_reportSales : List En := [(0, 8, 0, 0), (1, 4, 1, 0), (5, 6, 2, 0), (6, 3, 0, 0), (7, 40, 0, 0), (11, 6, 2, 0), (15, 40, 0, 0), (19, 0, 0, 1), (20, 41, 24, 0), (23, 0, 0, 0), (27, 8, 0, 0), (31, 8, 0, 0), (38, 4, 1, 0), (39, 6, 2, 0)]
theorem ok_X11_reportSales : tab_X11_reportSales.all (okE cX11_reportSales) = true := by decide +kernel
def ed_X11_reportSales : List (Nat × Instr × Nat) := [(2, .invokevirtual 195, 3), (8, .ifCond .lt 15, 3), (12, .ldc2_w 250, 3), (16, .ifCond .gt 7, 3), (24, .invokestatic 107, 3), (28, .invokevirtual 252, 3), (32, .getfield 41, 3), (35, .getfield 133, 3), (40, .invokevirtual 255, 3), (43, .lreturn, 1)]
theorem okd_X11_reportSales : ed_X11_reportSales.all (okD cX11_reportSales) = true := by decide +kernel
def f_X11_reportSales (S : St) (p0 : Nat) (p1 : Int32) (p2 : Int64) : Option ((Int64 × St) ⊕ Nat) := clx (f_X11_requireOutlet S p0 p1) fun (u1 : Unit) => jn (κ := Int32 → Option ((Int64 × St) ⊕ Nat)) (fun x2 => clx (f_X11_requireArgument S x2) fun (u5 : Unit) => clx (f_X11_requireOpenMonth S p0) fun (u6 : Unit) => lt (gR S p0 5) fun (a7 : Nat) => lt (gR S a7 2) fun (a9 : Nat) => cl (f_X6_replaceSales S a9 p1 p2) fun (o11 : Int64 × St) => some (.inl (o11.1, o11.2))) fun k3 => jn (κ := Option ((Int64 × St) ⊕ Nat)) (k3 0) fun k12 => if p2 < 0 then (k12) else (if 10000000 < p2 then (k12) else (k3 1))
set_option maxHeartbeats 4000000 in
set_option maxRecDepth 100000 in
theorem c_X11_reportSales (S : St) (p0 : Nat) (p1 : Int32) (p2 : Int64) : CtX yX11_reportSales cX11_reportSales 4 (some .long) 7 111 (fun _ => [.ref p0, .int p1, .long p2]) [(p0, 10)] S (f_X11_reportSales S p0 p1 p2) oLS sL := by
  refine CtX_of RX11 rfl (by decide) (fun _ => Nat.le_of_ble_eq_true rfl) 0 (vs := fun _ => [some (.ref p0), some (.int p1), some (.long p2), none]) (fun _ => rfl) (fun C X E hr tx ht => ?_)
  have t0_ : tT C p0 10 := ht (p0, 10) (by simp)
  show Jd C 4 (QX C oLS sL S) S 0 [some (.ref p0), some (.int p1), some (.long p2), none] [] (f_X11_reportSales S p0 p1 p2)
  unfold f_X11_reportSales
  refine s_run X ok_X11_reportSales 0 2 (pc' := 2) (vs' := [some (.ref p0), some (.int p1), some (.long p2), none]) (st' := [.int p1, .ref p0]) rfl ?_
  refine s_callVX (b := p0) (As := [.int p1]) (rest := []) X E tx mv_X11_195 (c_X11_requireOutlet S p0 p1) rfl (ta1 t0_) rfl (by decide) t0_ rfl rfl (Nat.le_of_ble_eq_true rfl) (Nat.le_of_ble_eq_true rfl) (Nat.le_of_ble_eq_true rfl) (dk okd_X11_reportSales 0 rfl) (st' := fun u1 => []) (fun _ => rfl) (fun u1 => ?_)
  refine s_run X ok_X11_reportSales 2 3 (pc' := 8) (vs' := [some (.ref p0), some (.int p1), some (.long p2), none]) (st' := [.int (lg_cmp p2 0)]) rfl ?_
  refine s_jn (κ := Int32 → Option ((Int64 × St) ⊕ Nat)) (fun k3 => ∀ (x2 : Int32), Jd C 4 (QX C oLS sL S) S 24 [some (.ref p0), some (.int p1), some (.long p2), none] [.int x2] (k3 x2)) (fun x2 => ?_) (fun k3 h4 => ?_)
  · refine s_callSX (As := [.int x2]) (rest := []) X E tx ms_X11_107 (c_X11_requireArgument S x2) rfl (ta0) rfl rfl (Nat.le_of_ble_eq_true rfl) (Nat.le_of_ble_eq_true rfl) (Nat.le_of_ble_eq_true rfl) (dk okd_X11_reportSales 4 rfl) (st' := fun u5 => []) (fun _ => rfl) (fun u5 => ?_)
    refine s_run X ok_X11_reportSales 10 1 (pc' := 28) (vs' := [some (.ref p0), some (.int p1), some (.long p2), none]) (st' := [.ref p0]) rfl ?_
    refine s_callVX (b := p0) (As := []) (rest := []) X E tx mv_X11_252 (c_X11_requireOpenMonth S p0) rfl (ta1 t0_) rfl (by decide) t0_ rfl rfl (Nat.le_of_ble_eq_true rfl) (Nat.le_of_ble_eq_true rfl) (Nat.le_of_ble_eq_true rfl) (dk okd_X11_reportSales 5 rfl) (st' := fun u6 => []) (fun _ => rfl) (fun u6 => ?_)
    refine s_run X ok_X11_reportSales 11 1 (pc' := 32) (vs' := [some (.ref p0), some (.int p1), some (.long p2), none]) (st' := [.ref p0]) rfl ?_
    refine s_getR X fl_X11_41 t0_ (dk okd_X11_reportSales 6 rfl) (fun a7 (t8 : tT C a7 1) => ?_)
    refine s_getR X fl_X11_133 t8 (dk okd_X11_reportSales 7 rfl) (fun a9 (t10 : tT C a9 6) => ?_)
    refine s_run X ok_X11_reportSales 12 2 (pc' := 40) (vs' := [some (.ref p0), some (.int p1), some (.long p2), none]) (st' := [.long p2, .int p1, .ref a9]) rfl ?_
    refine s_callV (b := a9) (As := [.int p1, .long p2]) (rest := []) X E mv_X11_255 (c_X6_replaceSales S a9 p1 p2) rfl (ta1 t10) rfl (by decide) t10 rfl rfl (Nat.le_of_ble_eq_true rfl) (Nat.le_of_ble_eq_true rfl) (Nat.le_of_ble_eq_true rfl) (dk okd_X11_reportSales 8 rfl) (st' := fun o11 => [.long o11.1]) (fun _ => rfl) (fun o11 => ?_)
    exact s_lretX X hr (dk okd_X11_reportSales 9 rfl) rfl rfl
  · refine s_jn (κ := Option ((Int64 × St) ⊕ Nat)) (fun k12 => Jd C 4 (QX C oLS sL S) S 23 [some (.ref p0), some (.int p1), some (.long p2), none] [] k12) ?_ (fun k12 h13 => ?_)
    · refine s_run X ok_X11_reportSales 9 1 (pc' := 24) (vs' := [some (.ref p0), some (.int p1), some (.long p2), none]) (st' := [.int 0]) rfl ?_
      exact h4 0
    · refine s_lif_lt (tgt := 23) X (dk okd_X11_reportSales 1 rfl) (by decide) ?_ ?_
      · exact h13
      · refine s_run X ok_X11_reportSales 5 1 (pc' := 12) (vs' := [some (.ref p0), some (.int p1), some (.long p2), none]) (st' := [.long p2]) rfl ?_
        refine s_ldc2 X cl_X11_250 (dk okd_X11_reportSales 2 rfl) ?_
        refine s_run X ok_X11_reportSales 6 1 (pc' := 16) (vs' := [some (.ref p0), some (.int p1), some (.long p2), none]) (st' := [.int (lg_cmp p2 10000000)]) rfl ?_
        refine s_lif_gt (tgt := 23) X (dk okd_X11_reportSales 3 rfl) (by decide) ?_ ?_
        · exact h13
        · refine s_run X ok_X11_reportSales 7 2 (pc' := 24) (vs' := [some (.ref p0), some (.int p1), some (.long p2), none]) (st' := [.int 1]) rfl ?_
          exact h4 1
def tab_X11_deliver : List En := [(0, 8, 0, 0), (1, 4, 1, 0), (5, 4, 2, 0), (6, 4, 3, 0), (13, 7, 4, 0), (15, 3, 1, 0), (16, 40, 0, 0), (20, 7, 4, 0), (25, 40, 0, 0), (29, 0, 0, 1), (30, 41, 34, 0), (33, 0, 0, 0), (37, 8, 0, 0), (41, 8, 0, 0), (45, 4, 1, 0), (46, 4, 2, 0), (47, 4, 3, 0), (48, 7, 4, 0)]
theorem ok_X11_deliver : tab_X11_deliver.all (okE cX11_deliver) = true := by decide +kernel
def ed_X11_deliver : List (Nat × Instr × Nat) := [(2, .invokevirtual 195, 3), (7, .invokestatic 149, 3), (10, .invokestatic 107, 3), (17, .ifCond .lt 16, 3), (22, .ldc2_w 250, 3), (26, .ifCond .gt 7, 3), (34, .invokestatic 107, 3), (38, .invokevirtual 252, 3), (42, .getfield 41, 3), (50, .invokevirtual 258, 3), (53, .lreturn, 1)]
theorem okd_X11_deliver : ed_X11_deliver.all (okD cX11_deliver) = true := by decide +kernel
def f_X11_deliver (S : St) (p0 : Nat) (p1 : Int32) (p2 : Int32) (p3 : Int32) (p4 : Int64) : Option ((Int64 × St) ⊕ Nat) := clx (f_X11_requireOutlet S p0 p1) fun (u1 : Unit) => cl (f_X3_contains S p2 p3) fun (v2 : Int32) => clx (f_X11_requireArgument S v2) fun (u3 : Unit) => jn (κ := Int32 → Option ((Int64 × St) ⊕ Nat)) (fun x4 => clx (f_X11_requireArgument S x4) fun (u7 : Unit) => clx (f_X11_requireOpenMonth S p0) fun (u8 : Unit) => lt (gR S p0 5) fun (a9 : Nat) => cl (f_X1_addDelivery S a9 p1 p2 p3 p4) fun (o11 : Int64 × St) => some (.inl (o11.1, o11.2))) fun k5 => jn (κ := Option ((Int64 × St) ⊕ Nat)) (k5 0) fun k12 => if p4 < 1 then (k12) else (if 10000000 < p4 then (k12) else (k5 1))
set_option maxHeartbeats 4000000 in
set_option maxRecDepth 100000 in
theorem c_X11_deliver (S : St) (p0 : Nat) (p1 : Int32) (p2 : Int32) (p3 : Int32) (p4 : Int64) : CtX yX11_deliver cX11_deliver 6 (some .long) 7 111 (fun _ => [.ref p0, .int p1, .int p2, .int p3, .long p4]) [(p0, 10)] S (f_X11_deliver S p0 p1 p2 p3 p4) oLS sL := by
  refine CtX_of RX11 rfl (by decide) (fun _ => Nat.le_of_ble_eq_true rfl) 0 (vs := fun _ => [some (.ref p0), some (.int p1), some (.int p2), some (.int p3), some (.long p4), none]) (fun _ => rfl) (fun C X E hr tx ht => ?_)
  have t0_ : tT C p0 10 := ht (p0, 10) (by simp)
  show Jd C 6 (QX C oLS sL S) S 0 [some (.ref p0), some (.int p1), some (.int p2), some (.int p3), some (.long p4), none] [] (f_X11_deliver S p0 p1 p2 p3 p4)
  unfold f_X11_deliver
  refine s_run X ok_X11_deliver 0 2 (pc' := 2) (vs' := [some (.ref p0), some (.int p1), some (.int p2), some (.int p3), some (.long p4), none]) (st' := [.int p1, .ref p0]) rfl ?_
  refine s_callVX (b := p0) (As := [.int p1]) (rest := []) X E tx mv_X11_195 (c_X11_requireOutlet S p0 p1) rfl (ta1 t0_) rfl (by decide) t0_ rfl rfl (Nat.le_of_ble_eq_true rfl) (Nat.le_of_ble_eq_true rfl) (Nat.le_of_ble_eq_true rfl) (dk okd_X11_deliver 0 rfl) (st' := fun u1 => []) (fun _ => rfl) (fun u1 => ?_)
  refine s_run X ok_X11_deliver 2 2 (pc' := 7) (vs' := [some (.ref p0), some (.int p1), some (.int p2), some (.int p3), some (.long p4), none]) (st' := [.int p3, .int p2]) rfl ?_
  refine s_callS (As := [.int p2, .int p3]) (rest := []) X E ms_X11_149 (c_X3_contains S p2 p3) rfl (ta0) rfl rfl (Nat.le_of_ble_eq_true rfl) (Nat.le_of_ble_eq_true rfl) (Nat.le_of_ble_eq_true rfl) (dk okd_X11_deliver 1 rfl) (st' := fun v2 => [.int v2]) (fun _ => rfl) (fun v2 => ?_)
  refine s_callSX (As := [.int v2]) (rest := []) X E tx ms_X11_107 (c_X11_requireArgument S v2) rfl (ta0) rfl rfl (Nat.le_of_ble_eq_true rfl) (Nat.le_of_ble_eq_true rfl) (Nat.le_of_ble_eq_true rfl) (dk okd_X11_deliver 2 rfl) (st' := fun u3 => []) (fun _ => rfl) (fun u3 => ?_)
  refine s_run X ok_X11_deliver 4 3 (pc' := 17) (vs' := [some (.ref p0), some (.int p1), some (.int p2), some (.int p3), some (.long p4), none]) (st' := [.int (lg_cmp p4 1)]) rfl ?_
  refine s_jn (κ := Int32 → Option ((Int64 × St) ⊕ Nat)) (fun k5 => ∀ (x4 : Int32), Jd C 6 (QX C oLS sL S) S 34 [some (.ref p0), some (.int p1), some (.int p2), some (.int p3), some (.long p4), none] [.int x4] (k5 x4)) (fun x4 => ?_) (fun k5 h6 => ?_)
  · refine s_callSX (As := [.int x4]) (rest := []) X E tx ms_X11_107 (c_X11_requireArgument S x4) rfl (ta0) rfl rfl (Nat.le_of_ble_eq_true rfl) (Nat.le_of_ble_eq_true rfl) (Nat.le_of_ble_eq_true rfl) (dk okd_X11_deliver 6 rfl) (st' := fun u7 => []) (fun _ => rfl) (fun u7 => ?_)
    refine s_run X ok_X11_deliver 12 1 (pc' := 38) (vs' := [some (.ref p0), some (.int p1), some (.int p2), some (.int p3), some (.long p4), none]) (st' := [.ref p0]) rfl ?_
    refine s_callVX (b := p0) (As := []) (rest := []) X E tx mv_X11_252 (c_X11_requireOpenMonth S p0) rfl (ta1 t0_) rfl (by decide) t0_ rfl rfl (Nat.le_of_ble_eq_true rfl) (Nat.le_of_ble_eq_true rfl) (Nat.le_of_ble_eq_true rfl) (dk okd_X11_deliver 7 rfl) (st' := fun u8 => []) (fun _ => rfl) (fun u8 => ?_)
    refine s_run X ok_X11_deliver 13 1 (pc' := 42) (vs' := [some (.ref p0), some (.int p1), some (.int p2), some (.int p3), some (.long p4), none]) (st' := [.ref p0]) rfl ?_
    refine s_getR X fl_X11_41 t0_ (dk okd_X11_deliver 8 rfl) (fun a9 (t10 : tT C a9 1) => ?_)
    refine s_run X ok_X11_deliver 14 4 (pc' := 50) (vs' := [some (.ref p0), some (.int p1), some (.int p2), some (.int p3), some (.long p4), none]) (st' := [.long p4, .int p3, .int p2, .int p1, .ref a9]) rfl ?_
    refine s_callV (b := a9) (As := [.int p1, .int p2, .int p3, .long p4]) (rest := []) X E mv_X11_258 (c_X1_addDelivery S a9 p1 p2 p3 p4) rfl (ta1 t10) rfl (by decide) t10 rfl rfl (Nat.le_of_ble_eq_true rfl) (Nat.le_of_ble_eq_true rfl) (Nat.le_of_ble_eq_true rfl) (dk okd_X11_deliver 9 rfl) (st' := fun o11 => [.long o11.1]) (fun _ => rfl) (fun o11 => ?_)
    exact s_lretX X hr (dk okd_X11_deliver 10 rfl) rfl rfl
  · refine s_jn (κ := Option ((Int64 × St) ⊕ Nat)) (fun k12 => Jd C 6 (QX C oLS sL S) S 33 [some (.ref p0), some (.int p1), some (.int p2), some (.int p3), some (.long p4), none] [] k12) ?_ (fun k12 h13 => ?_)
    · refine s_run X ok_X11_deliver 11 1 (pc' := 34) (vs' := [some (.ref p0), some (.int p1), some (.int p2), some (.int p3), some (.long p4), none]) (st' := [.int 0]) rfl ?_
      exact h6 0
    · refine s_lif_lt (tgt := 33) X (dk okd_X11_deliver 3 rfl) (by decide) ?_ ?_
      · exact h13
      · refine s_run X ok_X11_deliver 7 1 (pc' := 22) (vs' := [some (.ref p0), some (.int p1), some (.int p2), some (.int p3), some (.long p4), none]) (st' := [.long p4]) rfl ?_
        refine s_ldc2 X cl_X11_250 (dk okd_X11_deliver 4 rfl) ?_
        refine s_run X ok_X11_deliver 8 1 (pc' := 26) (vs' := [some (.ref p0), some (.int p1), some (.int p2), some (.int p3), some (.long p4), none]) (st' := [.int (lg_cmp p4 10000000)]) rfl ?_
        refine s_lif_gt (tgt := 33) X (dk okd_X11_deliver 5 rfl) (by decide) ?_ ?_
        · exact h13
        · refine s_run X ok_X11_deliver 9 2 (pc' := 34) (vs' := [some (.ref p0), some (.int p1), some (.int p2), some (.int p3), some (.long p4), none]) (st' := [.int 1]) rfl ?_
          exact h6 1
def tab_X11_sales : List En := [(0, 8, 0, 0), (1, 4, 1, 0), (5, 8, 0, 0), (15, 4, 1, 0)]
theorem ok_X11_sales : tab_X11_sales.all (okE cX11_sales) = true := by decide +kernel
def ed_X11_sales : List (Nat × Instr × Nat) := [(2, .invokevirtual 195, 3), (6, .getfield 41, 3), (9, .getfield 133, 3), (12, .getfield 262, 3), (16, .laload, 1), (17, .lreturn, 1)]
theorem okd_X11_sales : ed_X11_sales.all (okD cX11_sales) = true := by decide +kernel
def f_X11_sales (S : St) (p0 : Nat) (p1 : Int32) : Option ((Int64) ⊕ Nat) := clx (f_X11_requireOutlet S p0 p1) fun (u1 : Unit) => lt (gR S p0 5) fun (a2 : Nat) => lt (gR S a2 2) fun (a4 : Nat) => lt (gR S a4 3) fun (a6 : Nat) => ldJ S a6 p1 fun (v8 : Int64) => some (.inl v8)
set_option maxHeartbeats 4000000 in
set_option maxRecDepth 100000 in
theorem c_X11_sales (S : St) (p0 : Nat) (p1 : Int32) : CtX yX11_sales cX11_sales 2 (some .long) 7 111 (fun _ => [.ref p0, .int p1]) [(p0, 10)] S (f_X11_sales S p0 p1) oL (fun _ => S) := by
  refine CtX_of RX11 rfl (by decide) (fun _ => Nat.le_of_ble_eq_true rfl) 0 (vs := fun _ => [some (.ref p0), some (.int p1)]) (fun _ => rfl) (fun C X E hr tx ht => ?_)
  have t0_ : tT C p0 10 := ht (p0, 10) (by simp)
  show Jd C 2 (QX C oL (fun _ => S) S) S 0 [some (.ref p0), some (.int p1)] [] (f_X11_sales S p0 p1)
  unfold f_X11_sales
  refine s_run X ok_X11_sales 0 2 (pc' := 2) (vs' := [some (.ref p0), some (.int p1)]) (st' := [.int p1, .ref p0]) rfl ?_
  refine s_callVX (b := p0) (As := [.int p1]) (rest := []) X E tx mv_X11_195 (c_X11_requireOutlet S p0 p1) rfl (ta1 t0_) rfl (by decide) t0_ rfl rfl (Nat.le_of_ble_eq_true rfl) (Nat.le_of_ble_eq_true rfl) (Nat.le_of_ble_eq_true rfl) (dk okd_X11_sales 0 rfl) (st' := fun u1 => []) (fun _ => rfl) (fun u1 => ?_)
  refine s_run X ok_X11_sales 2 1 (pc' := 6) (vs' := [some (.ref p0), some (.int p1)]) (st' := [.ref p0]) rfl ?_
  refine s_getR X fl_X11_41 t0_ (dk okd_X11_sales 1 rfl) (fun a2 (t3 : tT C a2 1) => ?_)
  refine s_getR X fl_X11_133 t3 (dk okd_X11_sales 2 rfl) (fun a4 (t5 : tT C a4 6) => ?_)
  refine s_getR X fl_X11_262 t5 (dk okd_X11_sales 3 rfl) (fun a6 (t7 : tT C a6 14) => ?_)
  refine s_run X ok_X11_sales 3 1 (pc' := 16) (vs' := [some (.ref p0), some (.int p1)]) (st' := [.int p1, .ref a6]) rfl ?_
  refine s_lald X t7 (dk okd_X11_sales 4 rfl) (fun v8 => ?_)
  exact s_lretX X hr (dk okd_X11_sales 5 rfl) rfl rfl
def tab_X11_salesOf : List En := [(0, 8, 0, 0), (1, 4, 1, 0), (5, 8, 0, 0), (6, 4, 2, 0), (10, 8, 0, 0), (17, 4, 1, 0), (18, 4, 2, 0)]
theorem ok_X11_salesOf : tab_X11_salesOf.all (okE cX11_salesOf) = true := by decide +kernel
def ed_X11_salesOf : List (Nat × Instr × Nat) := [(2, .invokevirtual 159, 3), (7, .invokevirtual 266, 3), (11, .getfield 41, 3), (14, .getfield 140, 3), (19, .invokevirtual 269, 3), (22, .lreturn, 1)]
theorem okd_X11_salesOf : ed_X11_salesOf.all (okD cX11_salesOf) = true := by decide +kernel
def f_X11_salesOf (S : St) (p0 : Nat) (p1 : Int32) (p2 : Int32) : Option ((Int64) ⊕ Nat) := clx (f_X11_requireFranchisee S p0 p1) fun (u1 : Unit) => clx (f_X11_requireClosedMonth S p0 p2) fun (u2 : Unit) => lt (gR S p0 5) fun (a3 : Nat) => lt (gR S a3 5) fun (a5 : Nat) => cl (f_X0_salesIn S a5 p1 p2) fun (v7 : Int64) => some (.inl v7)
set_option maxHeartbeats 4000000 in
set_option maxRecDepth 100000 in
theorem c_X11_salesOf (S : St) (p0 : Nat) (p1 : Int32) (p2 : Int32) : CtX yX11_salesOf cX11_salesOf 3 (some .long) 7 111 (fun _ => [.ref p0, .int p1, .int p2]) [(p0, 10)] S (f_X11_salesOf S p0 p1 p2) oL (fun _ => S) := by
  refine CtX_of RX11 rfl (by decide) (fun _ => Nat.le_of_ble_eq_true rfl) 0 (vs := fun _ => [some (.ref p0), some (.int p1), some (.int p2)]) (fun _ => rfl) (fun C X E hr tx ht => ?_)
  have t0_ : tT C p0 10 := ht (p0, 10) (by simp)
  show Jd C 3 (QX C oL (fun _ => S) S) S 0 [some (.ref p0), some (.int p1), some (.int p2)] [] (f_X11_salesOf S p0 p1 p2)
  unfold f_X11_salesOf
  refine s_run X ok_X11_salesOf 0 2 (pc' := 2) (vs' := [some (.ref p0), some (.int p1), some (.int p2)]) (st' := [.int p1, .ref p0]) rfl ?_
  refine s_callVX (b := p0) (As := [.int p1]) (rest := []) X E tx mv_X11_159 (c_X11_requireFranchisee S p0 p1) rfl (ta1 t0_) rfl (by decide) t0_ rfl rfl (Nat.le_of_ble_eq_true rfl) (Nat.le_of_ble_eq_true rfl) (Nat.le_of_ble_eq_true rfl) (dk okd_X11_salesOf 0 rfl) (st' := fun u1 => []) (fun _ => rfl) (fun u1 => ?_)
  refine s_run X ok_X11_salesOf 2 2 (pc' := 7) (vs' := [some (.ref p0), some (.int p1), some (.int p2)]) (st' := [.int p2, .ref p0]) rfl ?_
  refine s_callVX (b := p0) (As := [.int p2]) (rest := []) X E tx mv_X11_266 (c_X11_requireClosedMonth S p0 p2) rfl (ta1 t0_) rfl (by decide) t0_ rfl rfl (Nat.le_of_ble_eq_true rfl) (Nat.le_of_ble_eq_true rfl) (Nat.le_of_ble_eq_true rfl) (dk okd_X11_salesOf 1 rfl) (st' := fun u2 => []) (fun _ => rfl) (fun u2 => ?_)
  refine s_run X ok_X11_salesOf 4 1 (pc' := 11) (vs' := [some (.ref p0), some (.int p1), some (.int p2)]) (st' := [.ref p0]) rfl ?_
  refine s_getR X fl_X11_41 t0_ (dk okd_X11_salesOf 2 rfl) (fun a3 (t4 : tT C a3 1) => ?_)
  refine s_getR X fl_X11_140 t4 (dk okd_X11_salesOf 3 rfl) (fun a5 (t6 : tT C a5 0) => ?_)
  refine s_run X ok_X11_salesOf 5 2 (pc' := 19) (vs' := [some (.ref p0), some (.int p1), some (.int p2)]) (st' := [.int p2, .int p1, .ref a5]) rfl ?_
  refine s_callV (b := a5) (As := [.int p1, .int p2]) (rest := []) X E mv_X11_269 (c_X0_salesIn S a5 p1 p2) rfl (ta1 t6) rfl (by decide) t6 rfl rfl (Nat.le_of_ble_eq_true rfl) (Nat.le_of_ble_eq_true rfl) (Nat.le_of_ble_eq_true rfl) (dk okd_X11_salesOf 4 rfl) (st' := fun v7 => [.long v7]) (fun _ => rfl) (fun v7 => ?_)
  exact s_lretX X hr (dk okd_X11_salesOf 5 rfl) rfl rfl
def tab_X11_creditDue : List En := [(0, 8, 0, 0), (1, 4, 1, 0), (5, 8, 0, 0), (6, 4, 2, 0), (10, 8, 0, 0), (14, 4, 1, 0), (15, 4, 2, 0)]
theorem ok_X11_creditDue : tab_X11_creditDue.all (okE cX11_creditDue) = true := by decide +kernel
def ed_X11_creditDue : List (Nat × Instr × Nat) := [(2, .invokevirtual 159, 3), (7, .invokevirtual 159, 3), (11, .getfield 41, 3), (16, .invokevirtual 276, 3), (19, .lreturn, 1)]
theorem okd_X11_creditDue : ed_X11_creditDue.all (okD cX11_creditDue) = true := by decide +kernel
def f_X11_creditDue (S : St) (p0 : Nat) (p1 : Int32) (p2 : Int32) : Option ((Int64) ⊕ Nat) := clx (f_X11_requireFranchisee S p0 p1) fun (u1 : Unit) => clx (f_X11_requireFranchisee S p0 p2) fun (u2 : Unit) => lt (gR S p0 5) fun (a3 : Nat) => cl (f_X1_creditBetween S a3 p1 p2) fun (v5 : Int64) => some (.inl v5)
set_option maxHeartbeats 4000000 in
set_option maxRecDepth 100000 in
theorem c_X11_creditDue (S : St) (p0 : Nat) (p1 : Int32) (p2 : Int32) : CtX yX11_creditDue cX11_creditDue 3 (some .long) 7 111 (fun _ => [.ref p0, .int p1, .int p2]) [(p0, 10)] S (f_X11_creditDue S p0 p1 p2) oL (fun _ => S) := by
  refine CtX_of RX11 rfl (by decide) (fun _ => Nat.le_of_ble_eq_true rfl) 0 (vs := fun _ => [some (.ref p0), some (.int p1), some (.int p2)]) (fun _ => rfl) (fun C X E hr tx ht => ?_)
  have t0_ : tT C p0 10 := ht (p0, 10) (by simp)
  show Jd C 3 (QX C oL (fun _ => S) S) S 0 [some (.ref p0), some (.int p1), some (.int p2)] [] (f_X11_creditDue S p0 p1 p2)
  unfold f_X11_creditDue
  refine s_run X ok_X11_creditDue 0 2 (pc' := 2) (vs' := [some (.ref p0), some (.int p1), some (.int p2)]) (st' := [.int p1, .ref p0]) rfl ?_
  refine s_callVX (b := p0) (As := [.int p1]) (rest := []) X E tx mv_X11_159 (c_X11_requireFranchisee S p0 p1) rfl (ta1 t0_) rfl (by decide) t0_ rfl rfl (Nat.le_of_ble_eq_true rfl) (Nat.le_of_ble_eq_true rfl) (Nat.le_of_ble_eq_true rfl) (dk okd_X11_creditDue 0 rfl) (st' := fun u1 => []) (fun _ => rfl) (fun u1 => ?_)
  refine s_run X ok_X11_creditDue 2 2 (pc' := 7) (vs' := [some (.ref p0), some (.int p1), some (.int p2)]) (st' := [.int p2, .ref p0]) rfl ?_
  refine s_callVX (b := p0) (As := [.int p2]) (rest := []) X E tx mv_X11_159 (c_X11_requireFranchisee S p0 p2) rfl (ta1 t0_) rfl (by decide) t0_ rfl rfl (Nat.le_of_ble_eq_true rfl) (Nat.le_of_ble_eq_true rfl) (Nat.le_of_ble_eq_true rfl) (dk okd_X11_creditDue 1 rfl) (st' := fun u2 => []) (fun _ => rfl) (fun u2 => ?_)
  refine s_run X ok_X11_creditDue 4 1 (pc' := 11) (vs' := [some (.ref p0), some (.int p1), some (.int p2)]) (st' := [.ref p0]) rfl ?_
  refine s_getR X fl_X11_41 t0_ (dk okd_X11_creditDue 2 rfl) (fun a3 (t4 : tT C a3 1) => ?_)
  refine s_run X ok_X11_creditDue 5 2 (pc' := 16) (vs' := [some (.ref p0), some (.int p1), some (.int p2)]) (st' := [.int p2, .int p1, .ref a3]) rfl ?_
  refine s_callV (b := a3) (As := [.int p1, .int p2]) (rest := []) X E mv_X11_276 (c_X1_creditBetween S a3 p1 p2) rfl (ta1 t4) rfl (by decide) t4 rfl rfl (Nat.le_of_ble_eq_true rfl) (Nat.le_of_ble_eq_true rfl) (Nat.le_of_ble_eq_true rfl) (dk okd_X11_creditDue 3 rfl) (st' := fun v5 => [.long v5]) (fun _ => rfl) (fun v5 => ?_)
  exact s_lretX X hr (dk okd_X11_creditDue 4 rfl) rfl rfl
def tab_X11_invoice : List En := [(0, 8, 0, 0), (1, 4, 1, 0), (5, 8, 0, 0), (6, 4, 2, 0), (10, 4, 3, 0), (14, 4, 3, 0), (15, 1, 0, 7), (20, 0, 0, 1), (21, 41, 25, 0), (24, 0, 0, 0), (28, 8, 0, 0), (35, 4, 1, 0), (36, 4, 2, 0), (37, 4, 3, 0)]
theorem ok_X11_invoice : tab_X11_invoice.all (okE cX11_invoice) = true := by decide +kernel
def ed_X11_invoice : List (Nat × Instr × Nat) := [(2, .invokevirtual 159, 3), (7, .invokevirtual 266, 3), (11, .ifCond .lt 13, 3), (17, .if_icmp .ge 7, 3), (25, .invokestatic 107, 3), (29, .getfield 41, 3), (32, .getfield 140, 3), (38, .invokevirtual 283, 3), (41, .lreturn, 1)]
theorem okd_X11_invoice : ed_X11_invoice.all (okD cX11_invoice) = true := by decide +kernel
def f_X11_invoice (S : St) (p0 : Nat) (p1 : Int32) (p2 : Int32) (p3 : Int32) : Option ((Int64) ⊕ Nat) := clx (f_X11_requireFranchisee S p0 p1) fun (u1 : Unit) => clx (f_X11_requireClosedMonth S p0 p2) fun (u2 : Unit) => jn (κ := Int32 → Option ((Int64) ⊕ Nat)) (fun x3 => clx (f_X11_requireArgument S x3) fun (u6 : Unit) => lt (gR S p0 5) fun (a7 : Nat) => lt (gR S a7 5) fun (a9 : Nat) => cl (f_X0_invoicePart S a9 p1 p2 p3) fun (v11 : Int64) => some (.inl v11)) fun k4 => jn (κ := Option ((Int64) ⊕ Nat)) (k4 0) fun k12 => if p3 < 0 then (k12) else (if 7 ≤ p3 then (k12) else (k4 1))
set_option maxHeartbeats 4000000 in
set_option maxRecDepth 100000 in
theorem c_X11_invoice (S : St) (p0 : Nat) (p1 : Int32) (p2 : Int32) (p3 : Int32) : CtX yX11_invoice cX11_invoice 4 (some .long) 7 111 (fun _ => [.ref p0, .int p1, .int p2, .int p3]) [(p0, 10)] S (f_X11_invoice S p0 p1 p2 p3) oL (fun _ => S) := by
  refine CtX_of RX11 rfl (by decide) (fun _ => Nat.le_of_ble_eq_true rfl) 0 (vs := fun _ => [some (.ref p0), some (.int p1), some (.int p2), some (.int p3)]) (fun _ => rfl) (fun C X E hr tx ht => ?_)
  have t0_ : tT C p0 10 := ht (p0, 10) (by simp)
  show Jd C 4 (QX C oL (fun _ => S) S) S 0 [some (.ref p0), some (.int p1), some (.int p2), some (.int p3)] [] (f_X11_invoice S p0 p1 p2 p3)
  unfold f_X11_invoice
  refine s_run X ok_X11_invoice 0 2 (pc' := 2) (vs' := [some (.ref p0), some (.int p1), some (.int p2), some (.int p3)]) (st' := [.int p1, .ref p0]) rfl ?_
  refine s_callVX (b := p0) (As := [.int p1]) (rest := []) X E tx mv_X11_159 (c_X11_requireFranchisee S p0 p1) rfl (ta1 t0_) rfl (by decide) t0_ rfl rfl (Nat.le_of_ble_eq_true rfl) (Nat.le_of_ble_eq_true rfl) (Nat.le_of_ble_eq_true rfl) (dk okd_X11_invoice 0 rfl) (st' := fun u1 => []) (fun _ => rfl) (fun u1 => ?_)
  refine s_run X ok_X11_invoice 2 2 (pc' := 7) (vs' := [some (.ref p0), some (.int p1), some (.int p2), some (.int p3)]) (st' := [.int p2, .ref p0]) rfl ?_
  refine s_callVX (b := p0) (As := [.int p2]) (rest := []) X E tx mv_X11_266 (c_X11_requireClosedMonth S p0 p2) rfl (ta1 t0_) rfl (by decide) t0_ rfl rfl (Nat.le_of_ble_eq_true rfl) (Nat.le_of_ble_eq_true rfl) (Nat.le_of_ble_eq_true rfl) (dk okd_X11_invoice 1 rfl) (st' := fun u2 => []) (fun _ => rfl) (fun u2 => ?_)
  refine s_run X ok_X11_invoice 4 1 (pc' := 11) (vs' := [some (.ref p0), some (.int p1), some (.int p2), some (.int p3)]) (st' := [.int p3]) rfl ?_
  refine s_jn (κ := Int32 → Option ((Int64) ⊕ Nat)) (fun k4 => ∀ (x3 : Int32), Jd C 4 (QX C oL (fun _ => S) S) S 25 [some (.ref p0), some (.int p1), some (.int p2), some (.int p3)] [.int x3] (k4 x3)) (fun x3 => ?_) (fun k4 h5 => ?_)
  · refine s_callSX (As := [.int x3]) (rest := []) X E tx ms_X11_107 (c_X11_requireArgument S x3) rfl (ta0) rfl rfl (Nat.le_of_ble_eq_true rfl) (Nat.le_of_ble_eq_true rfl) (Nat.le_of_ble_eq_true rfl) (dk okd_X11_invoice 4 rfl) (st' := fun u6 => []) (fun _ => rfl) (fun u6 => ?_)
    refine s_run X ok_X11_invoice 10 1 (pc' := 29) (vs' := [some (.ref p0), some (.int p1), some (.int p2), some (.int p3)]) (st' := [.ref p0]) rfl ?_
    refine s_getR X fl_X11_41 t0_ (dk okd_X11_invoice 5 rfl) (fun a7 (t8 : tT C a7 1) => ?_)
    refine s_getR X fl_X11_140 t8 (dk okd_X11_invoice 6 rfl) (fun a9 (t10 : tT C a9 0) => ?_)
    refine s_run X ok_X11_invoice 11 3 (pc' := 38) (vs' := [some (.ref p0), some (.int p1), some (.int p2), some (.int p3)]) (st' := [.int p3, .int p2, .int p1, .ref a9]) rfl ?_
    refine s_callV (b := a9) (As := [.int p1, .int p2, .int p3]) (rest := []) X E mv_X11_283 (c_X0_invoicePart S a9 p1 p2 p3) rfl (ta1 t10) rfl (by decide) t10 rfl rfl (Nat.le_of_ble_eq_true rfl) (Nat.le_of_ble_eq_true rfl) (Nat.le_of_ble_eq_true rfl) (dk okd_X11_invoice 7 rfl) (st' := fun v11 => [.long v11]) (fun _ => rfl) (fun v11 => ?_)
    exact s_lretX X hr (dk okd_X11_invoice 8 rfl) rfl rfl
  · refine s_jn (κ := Option ((Int64) ⊕ Nat)) (fun k12 => Jd C 4 (QX C oL (fun _ => S) S) S 24 [some (.ref p0), some (.int p1), some (.int p2), some (.int p3)] [] k12) ?_ (fun k12 h13 => ?_)
    · refine s_run X ok_X11_invoice 9 1 (pc' := 25) (vs' := [some (.ref p0), some (.int p1), some (.int p2), some (.int p3)]) (st' := [.int 0]) rfl ?_
      exact h5 0
    · refine s_if_lt (tgt := 24) X (dk okd_X11_invoice 2 rfl) (by decide) ?_ ?_
      · exact h13
      · refine s_run X ok_X11_invoice 5 2 (pc' := 17) (vs' := [some (.ref p0), some (.int p1), some (.int p2), some (.int p3)]) (st' := [.int 7, .int p3]) rfl ?_
        refine s_icmp_ge (tgt := 24) X (dk okd_X11_invoice 3 rfl) (by decide) ?_ ?_
        · exact h13
        · refine s_run X ok_X11_invoice 7 2 (pc' := 25) (vs' := [some (.ref p0), some (.int p1), some (.int p2), some (.int p3)]) (st' := [.int 1]) rfl ?_
          exact h5 1
def tab_X11_balance : List En := [(0, 8, 0, 0), (1, 4, 1, 0), (5, 8, 0, 0), (15, 4, 1, 0)]
theorem ok_X11_balance : tab_X11_balance.all (okE cX11_balance) = true := by decide +kernel
def ed_X11_balance : List (Nat × Instr × Nat) := [(2, .invokevirtual 159, 3), (6, .getfield 41, 3), (9, .getfield 85, 3), (12, .getfield 297, 3), (16, .laload, 1), (17, .lreturn, 1)]
theorem okd_X11_balance : ed_X11_balance.all (okD cX11_balance) = true := by decide +kernel
def f_X11_balance (S : St) (p0 : Nat) (p1 : Int32) : Option ((Int64) ⊕ Nat) := clx (f_X11_requireFranchisee S p0 p1) fun (u1 : Unit) => lt (gR S p0 5) fun (a2 : Nat) => lt (gR S a2 3) fun (a4 : Nat) => lt (gR S a4 7) fun (a6 : Nat) => ldJ S a6 p1 fun (v8 : Int64) => some (.inl v8)
set_option maxHeartbeats 4000000 in
set_option maxRecDepth 100000 in
theorem c_X11_balance (S : St) (p0 : Nat) (p1 : Int32) : CtX yX11_balance cX11_balance 2 (some .long) 7 111 (fun _ => [.ref p0, .int p1]) [(p0, 10)] S (f_X11_balance S p0 p1) oL (fun _ => S) := by
  refine CtX_of RX11 rfl (by decide) (fun _ => Nat.le_of_ble_eq_true rfl) 0 (vs := fun _ => [some (.ref p0), some (.int p1)]) (fun _ => rfl) (fun C X E hr tx ht => ?_)
  have t0_ : tT C p0 10 := ht (p0, 10) (by simp)
  show Jd C 2 (QX C oL (fun _ => S) S) S 0 [some (.ref p0), some (.int p1)] [] (f_X11_balance S p0 p1)
  unfold f_X11_balance
  refine s_run X ok_X11_balance 0 2 (pc' := 2) (vs' := [some (.ref p0), some (.int p1)]) (st' := [.int p1, .ref p0]) rfl ?_
  refine s_callVX (b := p0) (As := [.int p1]) (rest := []) X E tx mv_X11_159 (c_X11_requireFranchisee S p0 p1) rfl (ta1 t0_) rfl (by decide) t0_ rfl rfl (Nat.le_of_ble_eq_true rfl) (Nat.le_of_ble_eq_true rfl) (Nat.le_of_ble_eq_true rfl) (dk okd_X11_balance 0 rfl) (st' := fun u1 => []) (fun _ => rfl) (fun u1 => ?_)
  refine s_run X ok_X11_balance 2 1 (pc' := 6) (vs' := [some (.ref p0), some (.int p1)]) (st' := [.ref p0]) rfl ?_
  refine s_getR X fl_X11_41 t0_ (dk okd_X11_balance 1 rfl) (fun a2 (t3 : tT C a2 1) => ?_)
  refine s_getR X fl_X11_85 t3 (dk okd_X11_balance 2 rfl) (fun a4 (t5 : tT C a4 2) => ?_)
  refine s_getR X fl_X11_297 t5 (dk okd_X11_balance 3 rfl) (fun a6 (t7 : tT C a6 14) => ?_)
  refine s_run X ok_X11_balance 3 1 (pc' := 16) (vs' := [some (.ref p0), some (.int p1)]) (st' := [.int p1, .ref a6]) rfl ?_
  refine s_lald X t7 (dk okd_X11_balance 4 rfl) (fun v8 => ?_)
  exact s_lretX X hr (dk okd_X11_balance 5 rfl) rfl rfl
def tab_X11_monthsOverdue : List En := [(0, 8, 0, 0), (1, 4, 1, 0), (5, 8, 0, 0), (15, 4, 1, 0)]
theorem ok_X11_monthsOverdue : tab_X11_monthsOverdue.all (okE cX11_monthsOverdue) = true := by decide +kernel
def ed_X11_monthsOverdue : List (Nat × Instr × Nat) := [(2, .invokevirtual 159, 3), (6, .getfield 41, 3), (9, .getfield 85, 3), (12, .getfield 311, 3), (16, .iaload, 1), (17, .ireturn, 1)]
theorem okd_X11_monthsOverdue : ed_X11_monthsOverdue.all (okD cX11_monthsOverdue) = true := by decide +kernel
def f_X11_monthsOverdue (S : St) (p0 : Nat) (p1 : Int32) : Option ((Int32) ⊕ Nat) := clx (f_X11_requireFranchisee S p0 p1) fun (u1 : Unit) => lt (gR S p0 5) fun (a2 : Nat) => lt (gR S a2 3) fun (a4 : Nat) => lt (gR S a4 6) fun (a6 : Nat) => ldI S a6 p1 fun (v8 : Int32) => some (.inl v8)
set_option maxHeartbeats 4000000 in
set_option maxRecDepth 100000 in
theorem c_X11_monthsOverdue (S : St) (p0 : Nat) (p1 : Int32) : CtX yX11_monthsOverdue cX11_monthsOverdue 2 (some .int) 7 111 (fun _ => [.ref p0, .int p1]) [(p0, 10)] S (f_X11_monthsOverdue S p0 p1) oI (fun _ => S) := by
  refine CtX_of RX11 rfl (by decide) (fun _ => Nat.le_of_ble_eq_true rfl) 0 (vs := fun _ => [some (.ref p0), some (.int p1)]) (fun _ => rfl) (fun C X E hr tx ht => ?_)
  have t0_ : tT C p0 10 := ht (p0, 10) (by simp)
  show Jd C 2 (QX C oI (fun _ => S) S) S 0 [some (.ref p0), some (.int p1)] [] (f_X11_monthsOverdue S p0 p1)
  unfold f_X11_monthsOverdue
  refine s_run X ok_X11_monthsOverdue 0 2 (pc' := 2) (vs' := [some (.ref p0), some (.int p1)]) (st' := [.int p1, .ref p0]) rfl ?_
  refine s_callVX (b := p0) (As := [.int p1]) (rest := []) X E tx mv_X11_159 (c_X11_requireFranchisee S p0 p1) rfl (ta1 t0_) rfl (by decide) t0_ rfl rfl (Nat.le_of_ble_eq_true rfl) (Nat.le_of_ble_eq_true rfl) (Nat.le_of_ble_eq_true rfl) (dk okd_X11_monthsOverdue 0 rfl) (st' := fun u1 => []) (fun _ => rfl) (fun u1 => ?_)
  refine s_run X ok_X11_monthsOverdue 2 1 (pc' := 6) (vs' := [some (.ref p0), some (.int p1)]) (st' := [.ref p0]) rfl ?_
  refine s_getR X fl_X11_41 t0_ (dk okd_X11_monthsOverdue 1 rfl) (fun a2 (t3 : tT C a2 1) => ?_)
  refine s_getR X fl_X11_85 t3 (dk okd_X11_monthsOverdue 2 rfl) (fun a4 (t5 : tT C a4 2) => ?_)
  refine s_getR X fl_X11_311 t5 (dk okd_X11_monthsOverdue 3 rfl) (fun a6 (t7 : tT C a6 13) => ?_)
  refine s_run X ok_X11_monthsOverdue 3 1 (pc' := 16) (vs' := [some (.ref p0), some (.int p1)]) (st' := [.int p1, .ref a6]) rfl ?_
  refine s_iald X t7 (dk okd_X11_monthsOverdue 4 rfl) (fun v8 => ?_)
  exact s_iretX X hr (dk okd_X11_monthsOverdue 5 rfl) rfl rfl
def tab_X11_terminate : List En := [(0, 8, 0, 0), (1, 4, 1, 0), (5, 8, 0, 0), (9, 4, 1, 0)]
theorem ok_X11_terminate : tab_X11_terminate.all (okE cX11_terminate) = true := by decide +kernel
def ed_X11_terminate : List (Nat × Instr × Nat) := [(2, .invokevirtual 159, 3), (6, .getfield 41, 3), (10, .invokevirtual 318, 3), (13, .ireturn, 1)]
theorem okd_X11_terminate : ed_X11_terminate.all (okD cX11_terminate) = true := by decide +kernel
def f_X11_terminate (S : St) (p0 : Nat) (p1 : Int32) : Option ((Int32 × St) ⊕ Nat) := clx (f_X11_requireFranchisee S p0 p1) fun (u1 : Unit) => lt (gR S p0 5) fun (a2 : Nat) => cl (f_X1_endContract S a2 p1) fun (o4 : Int32 × St) => zc o4.1 (some (.inl (o4.1, o4.2)))
set_option maxHeartbeats 4000000 in
set_option maxRecDepth 100000 in
theorem c_X11_terminate (S : St) (p0 : Nat) (p1 : Int32) : CtX yX11_terminate cX11_terminate 2 (some .boolean) 7 111 (fun _ => [.ref p0, .int p1]) [(p0, 10)] S (f_X11_terminate S p0 p1) oIS sS := by
  refine CtX_of RX11 rfl (by decide) (fun _ => Nat.le_of_ble_eq_true rfl) 0 (vs := fun _ => [some (.ref p0), some (.int p1)]) (fun _ => rfl) (fun C X E hr tx ht => ?_)
  have t0_ : tT C p0 10 := ht (p0, 10) (by simp)
  show Jd C 2 (QX C oIS sS S) S 0 [some (.ref p0), some (.int p1)] [] (f_X11_terminate S p0 p1)
  unfold f_X11_terminate
  refine s_run X ok_X11_terminate 0 2 (pc' := 2) (vs' := [some (.ref p0), some (.int p1)]) (st' := [.int p1, .ref p0]) rfl ?_
  refine s_callVX (b := p0) (As := [.int p1]) (rest := []) X E tx mv_X11_159 (c_X11_requireFranchisee S p0 p1) rfl (ta1 t0_) rfl (by decide) t0_ rfl rfl (Nat.le_of_ble_eq_true rfl) (Nat.le_of_ble_eq_true rfl) (Nat.le_of_ble_eq_true rfl) (dk okd_X11_terminate 0 rfl) (st' := fun u1 => []) (fun _ => rfl) (fun u1 => ?_)
  refine s_run X ok_X11_terminate 2 1 (pc' := 6) (vs' := [some (.ref p0), some (.int p1)]) (st' := [.ref p0]) rfl ?_
  refine s_getR X fl_X11_41 t0_ (dk okd_X11_terminate 1 rfl) (fun a2 (t3 : tT C a2 1) => ?_)
  refine s_run X ok_X11_terminate 3 1 (pc' := 10) (vs' := [some (.ref p0), some (.int p1)]) (st' := [.int p1, .ref a2]) rfl ?_
  refine s_callV (b := a2) (As := [.int p1]) (rest := []) X E mv_X11_318 (c_X1_endContract S a2 p1) rfl (ta1 t3) rfl (by decide) t3 rfl rfl (Nat.le_of_ble_eq_true rfl) (Nat.le_of_ble_eq_true rfl) (Nat.le_of_ble_eq_true rfl) (dk okd_X11_terminate 2 rfl) (st' := fun o4 => [.int o4.1]) (fun _ => rfl) (fun o4 => ?_)
  exact s_zretX X hr (dk okd_X11_terminate 3 rfl) rfl rfl
def tab_X11_status : List En := [(0, 8, 0, 0), (1, 4, 1, 0), (5, 8, 0, 0), (15, 4, 1, 0)]
theorem ok_X11_status : tab_X11_status.all (okE cX11_status) = true := by decide +kernel
def ed_X11_status : List (Nat × Instr × Nat) := [(2, .invokevirtual 159, 3), (6, .getfield 41, 3), (9, .getfield 85, 3), (12, .getfield 321, 3), (16, .iaload, 1), (17, .ireturn, 1)]
theorem okd_X11_status : ed_X11_status.all (okD cX11_status) = true := by decide +kernel
def f_X11_status (S : St) (p0 : Nat) (p1 : Int32) : Option ((Int32) ⊕ Nat) := clx (f_X11_requireFranchisee S p0 p1) fun (u1 : Unit) => lt (gR S p0 5) fun (a2 : Nat) => lt (gR S a2 3) fun (a4 : Nat) => lt (gR S a4 4) fun (a6 : Nat) => ldI S a6 p1 fun (v8 : Int32) => some (.inl v8)
set_option maxHeartbeats 4000000 in
set_option maxRecDepth 100000 in
theorem c_X11_status (S : St) (p0 : Nat) (p1 : Int32) : CtX yX11_status cX11_status 2 (some .int) 7 111 (fun _ => [.ref p0, .int p1]) [(p0, 10)] S (f_X11_status S p0 p1) oI (fun _ => S) := by
  refine CtX_of RX11 rfl (by decide) (fun _ => Nat.le_of_ble_eq_true rfl) 0 (vs := fun _ => [some (.ref p0), some (.int p1)]) (fun _ => rfl) (fun C X E hr tx ht => ?_)
  have t0_ : tT C p0 10 := ht (p0, 10) (by simp)
  show Jd C 2 (QX C oI (fun _ => S) S) S 0 [some (.ref p0), some (.int p1)] [] (f_X11_status S p0 p1)
  unfold f_X11_status
  refine s_run X ok_X11_status 0 2 (pc' := 2) (vs' := [some (.ref p0), some (.int p1)]) (st' := [.int p1, .ref p0]) rfl ?_
  refine s_callVX (b := p0) (As := [.int p1]) (rest := []) X E tx mv_X11_159 (c_X11_requireFranchisee S p0 p1) rfl (ta1 t0_) rfl (by decide) t0_ rfl rfl (Nat.le_of_ble_eq_true rfl) (Nat.le_of_ble_eq_true rfl) (Nat.le_of_ble_eq_true rfl) (dk okd_X11_status 0 rfl) (st' := fun u1 => []) (fun _ => rfl) (fun u1 => ?_)
  refine s_run X ok_X11_status 2 1 (pc' := 6) (vs' := [some (.ref p0), some (.int p1)]) (st' := [.ref p0]) rfl ?_
  refine s_getR X fl_X11_41 t0_ (dk okd_X11_status 1 rfl) (fun a2 (t3 : tT C a2 1) => ?_)
  refine s_getR X fl_X11_85 t3 (dk okd_X11_status 2 rfl) (fun a4 (t5 : tT C a4 2) => ?_)
  refine s_getR X fl_X11_321 t5 (dk okd_X11_status 3 rfl) (fun a6 (t7 : tT C a6 13) => ?_)
  refine s_run X ok_X11_status 3 1 (pc' := 16) (vs' := [some (.ref p0), some (.int p1)]) (st' := [.int p1, .ref a6]) rfl ?_
  refine s_iald X t7 (dk okd_X11_status 4 rfl) (fun v8 => ?_)
  exact s_iretX X hr (dk okd_X11_status 5 rfl) rfl rfl
def tab_X11_contributions : List En := [(0, 8, 0, 0), (1, 4, 1, 0), (5, 8, 0, 0), (15, 4, 1, 0)]
theorem ok_X11_contributions : tab_X11_contributions.all (okE cX11_contributions) = true := by decide +kernel
def ed_X11_contributions : List (Nat × Instr × Nat) := [(2, .invokevirtual 159, 3), (6, .getfield 41, 3), (9, .getfield 140, 3), (12, .getfield 327, 3), (16, .laload, 1), (17, .lreturn, 1)]
theorem okd_X11_contributions : ed_X11_contributions.all (okD cX11_contributions) = true := by decide +kernel
def f_X11_contributions (S : St) (p0 : Nat) (p1 : Int32) : Option ((Int64) ⊕ Nat) := clx (f_X11_requireFranchisee S p0 p1) fun (u1 : Unit) => lt (gR S p0 5) fun (a2 : Nat) => lt (gR S a2 5) fun (a4 : Nat) => lt (gR S a4 3) fun (a6 : Nat) => ldJ S a6 p1 fun (v8 : Int64) => some (.inl v8)
set_option maxHeartbeats 4000000 in
set_option maxRecDepth 100000 in
theorem c_X11_contributions (S : St) (p0 : Nat) (p1 : Int32) : CtX yX11_contributions cX11_contributions 2 (some .long) 7 111 (fun _ => [.ref p0, .int p1]) [(p0, 10)] S (f_X11_contributions S p0 p1) oL (fun _ => S) := by
  refine CtX_of RX11 rfl (by decide) (fun _ => Nat.le_of_ble_eq_true rfl) 0 (vs := fun _ => [some (.ref p0), some (.int p1)]) (fun _ => rfl) (fun C X E hr tx ht => ?_)
  have t0_ : tT C p0 10 := ht (p0, 10) (by simp)
  show Jd C 2 (QX C oL (fun _ => S) S) S 0 [some (.ref p0), some (.int p1)] [] (f_X11_contributions S p0 p1)
  unfold f_X11_contributions
  refine s_run X ok_X11_contributions 0 2 (pc' := 2) (vs' := [some (.ref p0), some (.int p1)]) (st' := [.int p1, .ref p0]) rfl ?_
  refine s_callVX (b := p0) (As := [.int p1]) (rest := []) X E tx mv_X11_159 (c_X11_requireFranchisee S p0 p1) rfl (ta1 t0_) rfl (by decide) t0_ rfl rfl (Nat.le_of_ble_eq_true rfl) (Nat.le_of_ble_eq_true rfl) (Nat.le_of_ble_eq_true rfl) (dk okd_X11_contributions 0 rfl) (st' := fun u1 => []) (fun _ => rfl) (fun u1 => ?_)
  refine s_run X ok_X11_contributions 2 1 (pc' := 6) (vs' := [some (.ref p0), some (.int p1)]) (st' := [.ref p0]) rfl ?_
  refine s_getR X fl_X11_41 t0_ (dk okd_X11_contributions 1 rfl) (fun a2 (t3 : tT C a2 1) => ?_)
  refine s_getR X fl_X11_140 t3 (dk okd_X11_contributions 2 rfl) (fun a4 (t5 : tT C a4 0) => ?_)
  refine s_getR X fl_X11_327 t5 (dk okd_X11_contributions 3 rfl) (fun a6 (t7 : tT C a6 14) => ?_)
  refine s_run X ok_X11_contributions 3 1 (pc' := 16) (vs' := [some (.ref p0), some (.int p1)]) (st' := [.int p1, .ref a6]) rfl ?_
  refine s_lald X t7 (dk okd_X11_contributions 4 rfl) (fun v8 => ?_)
  exact s_lretX X hr (dk okd_X11_contributions 5 rfl) rfl rfl
def tab_X11_spent : List En := [(0, 4, 1, 0), (4, 4, 1, 0), (5, 0, 0, 3), (9, 0, 0, 1), (10, 41, 14, 0), (13, 0, 0, 0), (17, 8, 0, 0), (27, 4, 1, 0)]
theorem ok_X11_spent : tab_X11_spent.all (okE cX11_spent) = true := by decide +kernel
def ed_X11_spent : List (Nat × Instr × Nat) := [(1, .ifCond .lt 12, 3), (6, .if_icmp .ge 7, 3), (14, .invokestatic 107, 3), (18, .getfield 41, 3), (21, .getfield 140, 3), (24, .getfield 330, 3), (28, .laload, 1), (29, .lreturn, 1)]
theorem okd_X11_spent : ed_X11_spent.all (okD cX11_spent) = true := by decide +kernel
def f_X11_spent (S : St) (p0 : Nat) (p1 : Int32) : Option ((Int64) ⊕ Nat) := jn (κ := Int32 → Option ((Int64) ⊕ Nat)) (fun x1 => clx (f_X11_requireArgument S x1) fun (u4 : Unit) => lt (gR S p0 5) fun (a5 : Nat) => lt (gR S a5 5) fun (a7 : Nat) => lt (gR S a7 5) fun (a9 : Nat) => ldJ S a9 p1 fun (v11 : Int64) => some (.inl v11)) fun k2 => jn (κ := Option ((Int64) ⊕ Nat)) (k2 0) fun k12 => if p1 < 0 then (k12) else (if 3 ≤ p1 then (k12) else (k2 1))
set_option maxHeartbeats 4000000 in
set_option maxRecDepth 100000 in
theorem c_X11_spent (S : St) (p0 : Nat) (p1 : Int32) : CtX yX11_spent cX11_spent 2 (some .long) 7 110 (fun _ => [.ref p0, .int p1]) [(p0, 10)] S (f_X11_spent S p0 p1) oL (fun _ => S) := by
  refine CtX_of RX11 rfl (by decide) (fun _ => Nat.le_of_ble_eq_true rfl) 0 (vs := fun _ => [some (.ref p0), some (.int p1)]) (fun _ => rfl) (fun C X E hr tx ht => ?_)
  have t0_ : tT C p0 10 := ht (p0, 10) (by simp)
  show Jd C 2 (QX C oL (fun _ => S) S) S 0 [some (.ref p0), some (.int p1)] [] (f_X11_spent S p0 p1)
  unfold f_X11_spent
  refine s_run X ok_X11_spent 0 1 (pc' := 1) (vs' := [some (.ref p0), some (.int p1)]) (st' := [.int p1]) rfl ?_
  refine s_jn (κ := Int32 → Option ((Int64) ⊕ Nat)) (fun k2 => ∀ (x1 : Int32), Jd C 2 (QX C oL (fun _ => S) S) S 14 [some (.ref p0), some (.int p1)] [.int x1] (k2 x1)) (fun x1 => ?_) (fun k2 h3 => ?_)
  · refine s_callSX (As := [.int x1]) (rest := []) X E tx ms_X11_107 (c_X11_requireArgument S x1) rfl (ta0) rfl rfl (Nat.le_of_ble_eq_true rfl) (Nat.le_of_ble_eq_true rfl) (Nat.le_of_ble_eq_true rfl) (dk okd_X11_spent 2 rfl) (st' := fun u4 => []) (fun _ => rfl) (fun u4 => ?_)
    refine s_run X ok_X11_spent 6 1 (pc' := 18) (vs' := [some (.ref p0), some (.int p1)]) (st' := [.ref p0]) rfl ?_
    refine s_getR X fl_X11_41 t0_ (dk okd_X11_spent 3 rfl) (fun a5 (t6 : tT C a5 1) => ?_)
    refine s_getR X fl_X11_140 t6 (dk okd_X11_spent 4 rfl) (fun a7 (t8 : tT C a7 0) => ?_)
    refine s_getR X fl_X11_330 t8 (dk okd_X11_spent 5 rfl) (fun a9 (t10 : tT C a9 14) => ?_)
    refine s_run X ok_X11_spent 7 1 (pc' := 28) (vs' := [some (.ref p0), some (.int p1)]) (st' := [.int p1, .ref a9]) rfl ?_
    refine s_lald X t10 (dk okd_X11_spent 6 rfl) (fun v11 => ?_)
    exact s_lretX X hr (dk okd_X11_spent 7 rfl) rfl rfl
  · refine s_jn (κ := Option ((Int64) ⊕ Nat)) (fun k12 => Jd C 2 (QX C oL (fun _ => S) S) S 13 [some (.ref p0), some (.int p1)] [] k12) ?_ (fun k12 h13 => ?_)
    · refine s_run X ok_X11_spent 5 1 (pc' := 14) (vs' := [some (.ref p0), some (.int p1)]) (st' := [.int 0]) rfl ?_
      exact h3 0
    · refine s_if_lt (tgt := 13) X (dk okd_X11_spent 0 rfl) (by decide) ?_ ?_
      · exact h13
      · refine s_run X ok_X11_spent 1 2 (pc' := 6) (vs' := [some (.ref p0), some (.int p1)]) (st' := [.int 3, .int p1]) rfl ?_
        refine s_icmp_ge (tgt := 13) X (dk okd_X11_spent 1 rfl) (by decide) ?_ ?_
        · exact h13
        · refine s_run X ok_X11_spent 3 2 (pc' := 14) (vs' := [some (.ref p0), some (.int p1)]) (st' := [.int 1]) rfl ?_
          exact h3 1
def tab_X11_allowance : List En := [(0, 8, 0, 0), (1, 4, 1, 0), (5, 8, 0, 0), (12, 4, 1, 0)]
theorem ok_X11_allowance : tab_X11_allowance.all (okE cX11_allowance) = true := by decide +kernel
def ed_X11_allowance : List (Nat × Instr × Nat) := [(2, .invokevirtual 159, 3), (6, .getfield 41, 3), (9, .getfield 140, 3), (13, .invokevirtual 341, 3), (16, .lreturn, 1)]
theorem okd_X11_allowance : ed_X11_allowance.all (okD cX11_allowance) = true := by decide +kernel
def f_X11_allowance (S : St) (p0 : Nat) (p1 : Int32) : Option ((Int64) ⊕ Nat) := clx (f_X11_requireFranchisee S p0 p1) fun (u1 : Unit) => lt (gR S p0 5) fun (a2 : Nat) => lt (gR S a2 5) fun (a4 : Nat) => cl (f_X0_allowanceLeft S a4 p1) fun (v6 : Int64) => some (.inl v6)
set_option maxHeartbeats 4000000 in
set_option maxRecDepth 100000 in
theorem c_X11_allowance (S : St) (p0 : Nat) (p1 : Int32) : CtX yX11_allowance cX11_allowance 2 (some .long) 7 111 (fun _ => [.ref p0, .int p1]) [(p0, 10)] S (f_X11_allowance S p0 p1) oL (fun _ => S) := by
  refine CtX_of RX11 rfl (by decide) (fun _ => Nat.le_of_ble_eq_true rfl) 0 (vs := fun _ => [some (.ref p0), some (.int p1)]) (fun _ => rfl) (fun C X E hr tx ht => ?_)
  have t0_ : tT C p0 10 := ht (p0, 10) (by simp)
  show Jd C 2 (QX C oL (fun _ => S) S) S 0 [some (.ref p0), some (.int p1)] [] (f_X11_allowance S p0 p1)
  unfold f_X11_allowance
  refine s_run X ok_X11_allowance 0 2 (pc' := 2) (vs' := [some (.ref p0), some (.int p1)]) (st' := [.int p1, .ref p0]) rfl ?_
  refine s_callVX (b := p0) (As := [.int p1]) (rest := []) X E tx mv_X11_159 (c_X11_requireFranchisee S p0 p1) rfl (ta1 t0_) rfl (by decide) t0_ rfl rfl (Nat.le_of_ble_eq_true rfl) (Nat.le_of_ble_eq_true rfl) (Nat.le_of_ble_eq_true rfl) (dk okd_X11_allowance 0 rfl) (st' := fun u1 => []) (fun _ => rfl) (fun u1 => ?_)
  refine s_run X ok_X11_allowance 2 1 (pc' := 6) (vs' := [some (.ref p0), some (.int p1)]) (st' := [.ref p0]) rfl ?_
  refine s_getR X fl_X11_41 t0_ (dk okd_X11_allowance 1 rfl) (fun a2 (t3 : tT C a2 1) => ?_)
  refine s_getR X fl_X11_140 t3 (dk okd_X11_allowance 2 rfl) (fun a4 (t5 : tT C a4 0) => ?_)
  refine s_run X ok_X11_allowance 3 1 (pc' := 13) (vs' := [some (.ref p0), some (.int p1)]) (st' := [.int p1, .ref a4]) rfl ?_
  refine s_callV (b := a4) (As := [.int p1]) (rest := []) X E mv_X11_341 (c_X0_allowanceLeft S a4 p1) rfl (ta1 t5) rfl (by decide) t5 rfl rfl (Nat.le_of_ble_eq_true rfl) (Nat.le_of_ble_eq_true rfl) (Nat.le_of_ble_eq_true rfl) (dk okd_X11_allowance 3 rfl) (st' := fun v6 => [.long v6]) (fun _ => rfl) (fun v6 => ?_)
  exact s_lretX X hr (dk okd_X11_allowance 4 rfl) rfl rfl
def tab_X11_nationalShare : List En := [(0, 8, 0, 0), (1, 4, 1, 0), (5, 8, 0, 0), (12, 4, 1, 0)]
theorem ok_X11_nationalShare : tab_X11_nationalShare.all (okE cX11_nationalShare) = true := by decide +kernel
def ed_X11_nationalShare : List (Nat × Instr × Nat) := [(2, .invokevirtual 159, 3), (6, .getfield 41, 3), (9, .getfield 140, 3), (13, .invokevirtual 344, 3), (16, .lreturn, 1)]
theorem okd_X11_nationalShare : ed_X11_nationalShare.all (okD cX11_nationalShare) = true := by decide +kernel
def f_X11_nationalShare (S : St) (p0 : Nat) (p1 : Int32) : Option ((Int64) ⊕ Nat) := clx (f_X11_requireFranchisee S p0 p1) fun (u1 : Unit) => lt (gR S p0 5) fun (a2 : Nat) => lt (gR S a2 5) fun (a4 : Nat) => cl (f_X0_shareOfNational S a4 p1) fun (v6 : Int64) => some (.inl v6)
set_option maxHeartbeats 4000000 in
set_option maxRecDepth 100000 in
theorem c_X11_nationalShare (S : St) (p0 : Nat) (p1 : Int32) : CtX yX11_nationalShare cX11_nationalShare 2 (some .long) 7 111 (fun _ => [.ref p0, .int p1]) [(p0, 10)] S (f_X11_nationalShare S p0 p1) oL (fun _ => S) := by
  refine CtX_of RX11 rfl (by decide) (fun _ => Nat.le_of_ble_eq_true rfl) 0 (vs := fun _ => [some (.ref p0), some (.int p1)]) (fun _ => rfl) (fun C X E hr tx ht => ?_)
  have t0_ : tT C p0 10 := ht (p0, 10) (by simp)
  show Jd C 2 (QX C oL (fun _ => S) S) S 0 [some (.ref p0), some (.int p1)] [] (f_X11_nationalShare S p0 p1)
  unfold f_X11_nationalShare
  refine s_run X ok_X11_nationalShare 0 2 (pc' := 2) (vs' := [some (.ref p0), some (.int p1)]) (st' := [.int p1, .ref p0]) rfl ?_
  refine s_callVX (b := p0) (As := [.int p1]) (rest := []) X E tx mv_X11_159 (c_X11_requireFranchisee S p0 p1) rfl (ta1 t0_) rfl (by decide) t0_ rfl rfl (Nat.le_of_ble_eq_true rfl) (Nat.le_of_ble_eq_true rfl) (Nat.le_of_ble_eq_true rfl) (dk okd_X11_nationalShare 0 rfl) (st' := fun u1 => []) (fun _ => rfl) (fun u1 => ?_)
  refine s_run X ok_X11_nationalShare 2 1 (pc' := 6) (vs' := [some (.ref p0), some (.int p1)]) (st' := [.ref p0]) rfl ?_
  refine s_getR X fl_X11_41 t0_ (dk okd_X11_nationalShare 1 rfl) (fun a2 (t3 : tT C a2 1) => ?_)
  refine s_getR X fl_X11_140 t3 (dk okd_X11_nationalShare 2 rfl) (fun a4 (t5 : tT C a4 0) => ?_)
  refine s_run X ok_X11_nationalShare 3 1 (pc' := 13) (vs' := [some (.ref p0), some (.int p1)]) (st' := [.int p1, .ref a4]) rfl ?_
  refine s_callV (b := a4) (As := [.int p1]) (rest := []) X E mv_X11_344 (c_X0_shareOfNational S a4 p1) rfl (ta1 t5) rfl (by decide) t5 rfl rfl (Nat.le_of_ble_eq_true rfl) (Nat.le_of_ble_eq_true rfl) (Nat.le_of_ble_eq_true rfl) (dk okd_X11_nationalShare 3 rfl) (st' := fun v6 => [.long v6]) (fun _ => rfl) (fun v6 => ?_)
  exact s_lretX X hr (dk okd_X11_nationalShare 4 rfl) rfl rfl
def tab_X11_requestTransfer : List En := [(0, 8, 0, 0), (1, 4, 1, 0), (5, 4, 2, 0), (9, 4, 2, 0), (10, 2, 0, 999), (16, 0, 0, 1), (17, 41, 21, 0), (20, 0, 0, 0), (24, 6, 3, 0), (25, 3, 0, 0), (26, 40, 0, 0), (30, 6, 3, 0), (34, 40, 0, 0), (38, 0, 0, 1), (39, 41, 43, 0), (42, 0, 0, 0), (46, 8, 0, 0), (50, 4, 1, 0), (51, 4, 2, 0), (58, 0, 0, 0), (60, 8, 0, 0), (67, 4, 1, 0), (68, 8, 0, 0), (78, 4, 2, 0), (79, 6, 3, 0), (83, 0, 0, 1)]
theorem ok_X11_requestTransfer : tab_X11_requestTransfer.all (okE cX11_requestTransfer) = true := by decide +kernel
def ed_X11_requestTransfer : List (Nat × Instr × Nat) := [(2, .invokevirtual 159, 3), (6, .ifCond .lt 14, 3), (13, .if_icmp .gt 7, 3), (21, .invokestatic 107, 3), (27, .ifCond .lt 15, 3), (31, .ldc2_w 233, 3), (35, .ifCond .gt 7, 3), (43, .invokestatic 107, 3), (47, .getfield 41, 3), (52, .invokevirtual 347, 3), (55, .ifCond .ne 5, 3), (59, .ireturn, 1), (61, .getfield 41, 3), (64, .getfield 350, 3), (69, .getfield 41, 3), (72, .getfield 140, 3), (75, .getfield 144, 3), (80, .invokevirtual 354, 3), (84, .ireturn, 1)]
theorem okd_X11_requestTransfer : ed_X11_requestTransfer.all (okD cX11_requestTransfer) = true := by decide +kernel
def f_X11_requestTransfer (S : St) (p0 : Nat) (p1 : Int32) (p2 : Int32) (p3 : Int64) : Option ((Int32 × St) ⊕ Nat) := clx (f_X11_requireFranchisee S p0 p1) fun (u1 : Unit) => jn (κ := Int32 → Option ((Int32 × St) ⊕ Nat)) (fun x2 => clx (f_X11_requireArgument S x2) fun (u5 : Unit) => jn (κ := Int32 → Option ((Int32 × St) ⊕ Nat)) (fun x6 => clx (f_X11_requireArgument S x6) fun (u9 : Unit) => lt (gR S p0 5) fun (a10 : Nat) => cl (f_X1_mayTransfer S a10 p1 p2) fun (v12 : Int32) => if v12 = 0 then (some (.inl (0, S))) else (lt (gR S p0 5) fun (a13 : Nat) => lt (gR S a13 4) fun (a15 : Nat) => lt (gR S p0 5) fun (a17 : Nat) => lt (gR S a17 5) fun (a19 : Nat) => lt (gI S a19 6) fun (v21 : Int32) => cl (f_X10_begin S a15 p1 v21 p2 p3) fun (S22 : St) => some (.inl (1, S22)))) fun k7 => jn (κ := Option ((Int32 × St) ⊕ Nat)) (k7 0) fun k23 => if p3 < 0 then (k23) else (if 1000000000 < p3 then (k23) else (k7 1))) fun k3 => jn (κ := Option ((Int32 × St) ⊕ Nat)) (k3 0) fun k25 => if p2 < 0 then (k25) else (if 999 < p2 then (k25) else (k3 1))
set_option maxHeartbeats 4000000 in
set_option maxRecDepth 100000 in
theorem c_X11_requestTransfer (S : St) (p0 : Nat) (p1 : Int32) (p2 : Int32) (p3 : Int64) : CtX yX11_requestTransfer cX11_requestTransfer 5 (some .boolean) 7 111 (fun _ => [.ref p0, .int p1, .int p2, .long p3]) [(p0, 10)] S (f_X11_requestTransfer S p0 p1 p2 p3) oIS sS := by
  refine CtX_of RX11 rfl (by decide) (fun _ => Nat.le_of_ble_eq_true rfl) 0 (vs := fun _ => [some (.ref p0), some (.int p1), some (.int p2), some (.long p3), none]) (fun _ => rfl) (fun C X E hr tx ht => ?_)
  have t0_ : tT C p0 10 := ht (p0, 10) (by simp)
  show Jd C 5 (QX C oIS sS S) S 0 [some (.ref p0), some (.int p1), some (.int p2), some (.long p3), none] [] (f_X11_requestTransfer S p0 p1 p2 p3)
  unfold f_X11_requestTransfer
  refine s_run X ok_X11_requestTransfer 0 2 (pc' := 2) (vs' := [some (.ref p0), some (.int p1), some (.int p2), some (.long p3), none]) (st' := [.int p1, .ref p0]) rfl ?_
  refine s_callVX (b := p0) (As := [.int p1]) (rest := []) X E tx mv_X11_159 (c_X11_requireFranchisee S p0 p1) rfl (ta1 t0_) rfl (by decide) t0_ rfl rfl (Nat.le_of_ble_eq_true rfl) (Nat.le_of_ble_eq_true rfl) (Nat.le_of_ble_eq_true rfl) (dk okd_X11_requestTransfer 0 rfl) (st' := fun u1 => []) (fun _ => rfl) (fun u1 => ?_)
  refine s_run X ok_X11_requestTransfer 2 1 (pc' := 6) (vs' := [some (.ref p0), some (.int p1), some (.int p2), some (.long p3), none]) (st' := [.int p2]) rfl ?_
  refine s_jn (κ := Int32 → Option ((Int32 × St) ⊕ Nat)) (fun k3 => ∀ (x2 : Int32), Jd C 5 (QX C oIS sS S) S 21 [some (.ref p0), some (.int p1), some (.int p2), some (.long p3), none] [.int x2] (k3 x2)) (fun x2 => ?_) (fun k3 h4 => ?_)
  · refine s_callSX (As := [.int x2]) (rest := []) X E tx ms_X11_107 (c_X11_requireArgument S x2) rfl (ta0) rfl rfl (Nat.le_of_ble_eq_true rfl) (Nat.le_of_ble_eq_true rfl) (Nat.le_of_ble_eq_true rfl) (dk okd_X11_requestTransfer 3 rfl) (st' := fun u5 => []) (fun _ => rfl) (fun u5 => ?_)
    refine s_run X ok_X11_requestTransfer 8 3 (pc' := 27) (vs' := [some (.ref p0), some (.int p1), some (.int p2), some (.long p3), none]) (st' := [.int (lg_cmp p3 0)]) rfl ?_
    refine s_jn (κ := Int32 → Option ((Int32 × St) ⊕ Nat)) (fun k7 => ∀ (x6 : Int32), Jd C 5 (QX C oIS sS S) S 43 [some (.ref p0), some (.int p1), some (.int p2), some (.long p3), none] [.int x6] (k7 x6)) (fun x6 => ?_) (fun k7 h8 => ?_)
    · refine s_callSX (As := [.int x6]) (rest := []) X E tx ms_X11_107 (c_X11_requireArgument S x6) rfl (ta0) rfl rfl (Nat.le_of_ble_eq_true rfl) (Nat.le_of_ble_eq_true rfl) (Nat.le_of_ble_eq_true rfl) (dk okd_X11_requestTransfer 7 rfl) (st' := fun u9 => []) (fun _ => rfl) (fun u9 => ?_)
      refine s_run X ok_X11_requestTransfer 16 1 (pc' := 47) (vs' := [some (.ref p0), some (.int p1), some (.int p2), some (.long p3), none]) (st' := [.ref p0]) rfl ?_
      refine s_getR X fl_X11_41 t0_ (dk okd_X11_requestTransfer 8 rfl) (fun a10 (t11 : tT C a10 1) => ?_)
      refine s_run X ok_X11_requestTransfer 17 2 (pc' := 52) (vs' := [some (.ref p0), some (.int p1), some (.int p2), some (.long p3), none]) (st' := [.int p2, .int p1, .ref a10]) rfl ?_
      refine s_callV (b := a10) (As := [.int p1, .int p2]) (rest := []) X E mv_X11_347 (c_X1_mayTransfer S a10 p1 p2) rfl (ta1 t11) rfl (by decide) t11 rfl rfl (Nat.le_of_ble_eq_true rfl) (Nat.le_of_ble_eq_true rfl) (Nat.le_of_ble_eq_true rfl) (dk okd_X11_requestTransfer 9 rfl) (st' := fun v12 => [.int v12]) (fun _ => rfl) (fun v12 => ?_)
      refine s_if_ne (tgt := 60) X (dk okd_X11_requestTransfer 10 rfl) (by decide) ?_ ?_
      · refine s_run X ok_X11_requestTransfer 20 1 (pc' := 61) (vs' := [some (.ref p0), some (.int p1), some (.int p2), some (.long p3), none]) (st' := [.ref p0]) rfl ?_
        refine s_getR X fl_X11_41 t0_ (dk okd_X11_requestTransfer 12 rfl) (fun a13 (t14 : tT C a13 1) => ?_)
        refine s_getR X fl_X11_350 t14 (dk okd_X11_requestTransfer 13 rfl) (fun a15 (t16 : tT C a15 9) => ?_)
        refine s_run X ok_X11_requestTransfer 21 2 (pc' := 69) (vs' := [some (.ref p0), some (.int p1), some (.int p2), some (.long p3), none]) (st' := [.ref p0, .int p1, .ref a15]) rfl ?_
        refine s_getR X fl_X11_41 t0_ (dk okd_X11_requestTransfer 14 rfl) (fun a17 (t18 : tT C a17 1) => ?_)
        refine s_getR X fl_X11_140 t18 (dk okd_X11_requestTransfer 15 rfl) (fun a19 (t20 : tT C a19 0) => ?_)
        refine s_getI X fl_X11_144 t20 (dk okd_X11_requestTransfer 16 rfl) (fun v21 => ?_)
        refine s_run X ok_X11_requestTransfer 23 2 (pc' := 80) (vs' := [some (.ref p0), some (.int p1), some (.int p2), some (.long p3), none]) (st' := [.long p3, .int p2, .int v21, .int p1, .ref a15]) rfl ?_
        refine s_callV (b := a15) (As := [.int p1, .int v21, .int p2, .long p3]) (rest := []) X E mv_X11_354 (c_X10_begin S a15 p1 v21 p2 p3) rfl (ta1 t16) rfl (by decide) t16 rfl rfl (Nat.le_of_ble_eq_true rfl) (Nat.le_of_ble_eq_true rfl) (Nat.le_of_ble_eq_true rfl) (dk okd_X11_requestTransfer 17 rfl) (st' := fun S22 => []) (fun _ => rfl) (fun S22 => ?_)
        refine s_run X ok_X11_requestTransfer 25 1 (pc' := 84) (vs' := [some (.ref p0), some (.int p1), some (.int p2), some (.long p3), none]) (st' := [.int 1]) rfl ?_
        exact s_zret0X X hr (dk okd_X11_requestTransfer 18 rfl) (by decide) rfl rfl
      · refine s_run X ok_X11_requestTransfer 19 1 (pc' := 59) (vs' := [some (.ref p0), some (.int p1), some (.int p2), some (.long p3), none]) (st' := [.int 0]) rfl ?_
        exact s_zret0X X hr (dk okd_X11_requestTransfer 11 rfl) (by decide) rfl rfl
    · refine s_jn (κ := Option ((Int32 × St) ⊕ Nat)) (fun k23 => Jd C 5 (QX C oIS sS S) S 42 [some (.ref p0), some (.int p1), some (.int p2), some (.long p3), none] [] k23) ?_ (fun k23 h24 => ?_)
      · refine s_run X ok_X11_requestTransfer 15 1 (pc' := 43) (vs' := [some (.ref p0), some (.int p1), some (.int p2), some (.long p3), none]) (st' := [.int 0]) rfl ?_
        exact h8 0
      · refine s_lif_lt (tgt := 42) X (dk okd_X11_requestTransfer 4 rfl) (by decide) ?_ ?_
        · exact h24
        · refine s_run X ok_X11_requestTransfer 11 1 (pc' := 31) (vs' := [some (.ref p0), some (.int p1), some (.int p2), some (.long p3), none]) (st' := [.long p3]) rfl ?_
          refine s_ldc2 X cl_X11_233 (dk okd_X11_requestTransfer 5 rfl) ?_
          refine s_run X ok_X11_requestTransfer 12 1 (pc' := 35) (vs' := [some (.ref p0), some (.int p1), some (.int p2), some (.long p3), none]) (st' := [.int (lg_cmp p3 1000000000)]) rfl ?_
          refine s_lif_gt (tgt := 42) X (dk okd_X11_requestTransfer 6 rfl) (by decide) ?_ ?_
          · exact h24
          · refine s_run X ok_X11_requestTransfer 13 2 (pc' := 43) (vs' := [some (.ref p0), some (.int p1), some (.int p2), some (.long p3), none]) (st' := [.int 1]) rfl ?_
            exact h8 1
  · refine s_jn (κ := Option ((Int32 × St) ⊕ Nat)) (fun k25 => Jd C 5 (QX C oIS sS S) S 20 [some (.ref p0), some (.int p1), some (.int p2), some (.long p3), none] [] k25) ?_ (fun k25 h26 => ?_)
    · refine s_run X ok_X11_requestTransfer 7 1 (pc' := 21) (vs' := [some (.ref p0), some (.int p1), some (.int p2), some (.long p3), none]) (st' := [.int 0]) rfl ?_
      exact h4 0
    · refine s_if_lt (tgt := 20) X (dk okd_X11_requestTransfer 1 rfl) (by decide) ?_ ?_
      · exact h26
      · refine s_run X ok_X11_requestTransfer 3 2 (pc' := 13) (vs' := [some (.ref p0), some (.int p1), some (.int p2), some (.long p3), none]) (st' := [.int 999, .int p2]) rfl ?_
        refine s_icmp_gt (tgt := 20) X (dk okd_X11_requestTransfer 2 rfl) (by decide) ?_ ?_
        · exact h26
        · refine s_run X ok_X11_requestTransfer 5 2 (pc' := 21) (vs' := [some (.ref p0), some (.int p1), some (.int p2), some (.long p3), none]) (st' := [.int 1]) rfl ?_
          exact h4 1
def tab_X11_vote : List En := [(0, 8, 0, 0), (1, 4, 1, 0), (5, 4, 2, 0), (9, 4, 2, 0), (10, 0, 0, 5), (14, 0, 0, 1), (15, 41, 19, 0), (18, 0, 0, 0), (22, 8, 0, 0), (29, 4, 1, 0), (30, 4, 2, 0), (31, 4, 3, 0)]
theorem ok_X11_vote : tab_X11_vote.all (okE cX11_vote) = true := by decide +kernel
def ed_X11_vote : List (Nat × Instr × Nat) := [(2, .invokevirtual 159, 3), (6, .ifCond .lt 12, 3), (11, .if_icmp .ge 7, 3), (19, .invokestatic 107, 3), (23, .getfield 41, 3), (26, .getfield 350, 3), (32, .invokevirtual 360, 3), (35, .ireturn, 1)]
theorem okd_X11_vote : ed_X11_vote.all (okD cX11_vote) = true := by decide +kernel
def f_X11_vote (S : St) (p0 : Nat) (p1 : Int32) (p2 : Int32) (p3 : Int32) : Option ((Int32 × St) ⊕ Nat) := clx (f_X11_requireFranchisee S p0 p1) fun (u1 : Unit) => jn (κ := Int32 → Option ((Int32 × St) ⊕ Nat)) (fun x2 => clx (f_X11_requireArgument S x2) fun (u5 : Unit) => lt (gR S p0 5) fun (a6 : Nat) => lt (gR S a6 4) fun (a8 : Nat) => cl (f_X10_addVote S a8 p1 p2 p3) fun (o10 : Int32 × St) => some (.inl (o10.1, o10.2))) fun k3 => jn (κ := Option ((Int32 × St) ⊕ Nat)) (k3 0) fun k11 => if p2 < 0 then (k11) else (if 5 ≤ p2 then (k11) else (k3 1))
set_option maxHeartbeats 4000000 in
set_option maxRecDepth 100000 in
theorem c_X11_vote (S : St) (p0 : Nat) (p1 : Int32) (p2 : Int32) (p3 : Int32) : CtX yX11_vote cX11_vote 4 (some .int) 7 111 (fun _ => [.ref p0, .int p1, .int p2, .int p3]) [(p0, 10)] S (f_X11_vote S p0 p1 p2 p3) oIS sS := by
  refine CtX_of RX11 rfl (by decide) (fun _ => Nat.le_of_ble_eq_true rfl) 0 (vs := fun _ => [some (.ref p0), some (.int p1), some (.int p2), some (.int p3)]) (fun _ => rfl) (fun C X E hr tx ht => ?_)
  have t0_ : tT C p0 10 := ht (p0, 10) (by simp)
  show Jd C 4 (QX C oIS sS S) S 0 [some (.ref p0), some (.int p1), some (.int p2), some (.int p3)] [] (f_X11_vote S p0 p1 p2 p3)
  unfold f_X11_vote
  refine s_run X ok_X11_vote 0 2 (pc' := 2) (vs' := [some (.ref p0), some (.int p1), some (.int p2), some (.int p3)]) (st' := [.int p1, .ref p0]) rfl ?_
  refine s_callVX (b := p0) (As := [.int p1]) (rest := []) X E tx mv_X11_159 (c_X11_requireFranchisee S p0 p1) rfl (ta1 t0_) rfl (by decide) t0_ rfl rfl (Nat.le_of_ble_eq_true rfl) (Nat.le_of_ble_eq_true rfl) (Nat.le_of_ble_eq_true rfl) (dk okd_X11_vote 0 rfl) (st' := fun u1 => []) (fun _ => rfl) (fun u1 => ?_)
  refine s_run X ok_X11_vote 2 1 (pc' := 6) (vs' := [some (.ref p0), some (.int p1), some (.int p2), some (.int p3)]) (st' := [.int p2]) rfl ?_
  refine s_jn (κ := Int32 → Option ((Int32 × St) ⊕ Nat)) (fun k3 => ∀ (x2 : Int32), Jd C 4 (QX C oIS sS S) S 19 [some (.ref p0), some (.int p1), some (.int p2), some (.int p3)] [.int x2] (k3 x2)) (fun x2 => ?_) (fun k3 h4 => ?_)
  · refine s_callSX (As := [.int x2]) (rest := []) X E tx ms_X11_107 (c_X11_requireArgument S x2) rfl (ta0) rfl rfl (Nat.le_of_ble_eq_true rfl) (Nat.le_of_ble_eq_true rfl) (Nat.le_of_ble_eq_true rfl) (dk okd_X11_vote 3 rfl) (st' := fun u5 => []) (fun _ => rfl) (fun u5 => ?_)
    refine s_run X ok_X11_vote 8 1 (pc' := 23) (vs' := [some (.ref p0), some (.int p1), some (.int p2), some (.int p3)]) (st' := [.ref p0]) rfl ?_
    refine s_getR X fl_X11_41 t0_ (dk okd_X11_vote 4 rfl) (fun a6 (t7 : tT C a6 1) => ?_)
    refine s_getR X fl_X11_350 t7 (dk okd_X11_vote 5 rfl) (fun a8 (t9 : tT C a8 9) => ?_)
    refine s_run X ok_X11_vote 9 3 (pc' := 32) (vs' := [some (.ref p0), some (.int p1), some (.int p2), some (.int p3)]) (st' := [.int p3, .int p2, .int p1, .ref a8]) rfl ?_
    refine s_callV (b := a8) (As := [.int p1, .int p2, .int p3]) (rest := []) X E mv_X11_360 (c_X10_addVote S a8 p1 p2 p3) rfl (ta1 t9) rfl (by decide) t9 rfl rfl (Nat.le_of_ble_eq_true rfl) (Nat.le_of_ble_eq_true rfl) (Nat.le_of_ble_eq_true rfl) (dk okd_X11_vote 6 rfl) (st' := fun o10 => [.int o10.1]) (fun _ => rfl) (fun o10 => ?_)
    exact s_iretX X hr (dk okd_X11_vote 7 rfl) rfl rfl
  · refine s_jn (κ := Option ((Int32 × St) ⊕ Nat)) (fun k11 => Jd C 4 (QX C oIS sS S) S 18 [some (.ref p0), some (.int p1), some (.int p2), some (.int p3)] [] k11) ?_ (fun k11 h12 => ?_)
    · refine s_run X ok_X11_vote 7 1 (pc' := 19) (vs' := [some (.ref p0), some (.int p1), some (.int p2), some (.int p3)]) (st' := [.int 0]) rfl ?_
      exact h4 0
    · refine s_if_lt (tgt := 18) X (dk okd_X11_vote 1 rfl) (by decide) ?_ ?_
      · exact h12
      · refine s_run X ok_X11_vote 3 2 (pc' := 11) (vs' := [some (.ref p0), some (.int p1), some (.int p2), some (.int p3)]) (st' := [.int 5, .int p2]) rfl ?_
        refine s_icmp_ge (tgt := 18) X (dk okd_X11_vote 2 rfl) (by decide) ?_ ?_
        · exact h12
        · refine s_run X ok_X11_vote 5 2 (pc' := 19) (vs' := [some (.ref p0), some (.int p1), some (.int p2), some (.int p3)]) (st' := [.int 1]) rfl ?_
          exact h4 1
def tab_X11_exercise : List En := [(0, 8, 0, 0), (1, 4, 1, 0), (5, 8, 0, 0), (9, 4, 1, 0)]
theorem ok_X11_exercise : tab_X11_exercise.all (okE cX11_exercise) = true := by decide +kernel
def ed_X11_exercise : List (Nat × Instr × Nat) := [(2, .invokevirtual 159, 3), (6, .getfield 41, 3), (10, .invokevirtual 364, 3), (13, .ireturn, 1)]
theorem okd_X11_exercise : ed_X11_exercise.all (okD cX11_exercise) = true := by decide +kernel
def f_X11_exercise (S : St) (p0 : Nat) (p1 : Int32) : Option ((Int32 × St) ⊕ Nat) := clx (f_X11_requireFranchisee S p0 p1) fun (u1 : Unit) => lt (gR S p0 5) fun (a2 : Nat) => cl (f_X1_takeOver S a2 p1) fun (o4 : Int32 × St) => zc o4.1 (some (.inl (o4.1, o4.2)))
set_option maxHeartbeats 4000000 in
set_option maxRecDepth 100000 in
theorem c_X11_exercise (S : St) (p0 : Nat) (p1 : Int32) : CtX yX11_exercise cX11_exercise 2 (some .boolean) 7 111 (fun _ => [.ref p0, .int p1]) [(p0, 10)] S (f_X11_exercise S p0 p1) oIS sS := by
  refine CtX_of RX11 rfl (by decide) (fun _ => Nat.le_of_ble_eq_true rfl) 0 (vs := fun _ => [some (.ref p0), some (.int p1)]) (fun _ => rfl) (fun C X E hr tx ht => ?_)
  have t0_ : tT C p0 10 := ht (p0, 10) (by simp)
  show Jd C 2 (QX C oIS sS S) S 0 [some (.ref p0), some (.int p1)] [] (f_X11_exercise S p0 p1)
  unfold f_X11_exercise
  refine s_run X ok_X11_exercise 0 2 (pc' := 2) (vs' := [some (.ref p0), some (.int p1)]) (st' := [.int p1, .ref p0]) rfl ?_
  refine s_callVX (b := p0) (As := [.int p1]) (rest := []) X E tx mv_X11_159 (c_X11_requireFranchisee S p0 p1) rfl (ta1 t0_) rfl (by decide) t0_ rfl rfl (Nat.le_of_ble_eq_true rfl) (Nat.le_of_ble_eq_true rfl) (Nat.le_of_ble_eq_true rfl) (dk okd_X11_exercise 0 rfl) (st' := fun u1 => []) (fun _ => rfl) (fun u1 => ?_)
  refine s_run X ok_X11_exercise 2 1 (pc' := 6) (vs' := [some (.ref p0), some (.int p1)]) (st' := [.ref p0]) rfl ?_
  refine s_getR X fl_X11_41 t0_ (dk okd_X11_exercise 1 rfl) (fun a2 (t3 : tT C a2 1) => ?_)
  refine s_run X ok_X11_exercise 3 1 (pc' := 10) (vs' := [some (.ref p0), some (.int p1)]) (st' := [.int p1, .ref a2]) rfl ?_
  refine s_callV (b := a2) (As := [.int p1]) (rest := []) X E mv_X11_364 (c_X1_takeOver S a2 p1) rfl (ta1 t3) rfl (by decide) t3 rfl rfl (Nat.le_of_ble_eq_true rfl) (Nat.le_of_ble_eq_true rfl) (Nat.le_of_ble_eq_true rfl) (dk okd_X11_exercise 2 rfl) (st' := fun o4 => [.int o4.1]) (fun _ => rfl) (fun o4 => ?_)
  exact s_zretX X hr (dk okd_X11_exercise 3 rfl) rfl rfl
def tab_X11_withdraw : List En := [(0, 8, 0, 0), (1, 4, 1, 0), (5, 8, 0, 0), (12, 4, 1, 0), (13, 0, 0, 0)]
theorem ok_X11_withdraw : tab_X11_withdraw.all (okE cX11_withdraw) = true := by decide +kernel
def ed_X11_withdraw : List (Nat × Instr × Nat) := [(2, .invokevirtual 159, 3), (6, .getfield 41, 3), (9, .getfield 350, 3), (14, .invokevirtual 367, 3), (17, .ireturn, 1)]
theorem okd_X11_withdraw : ed_X11_withdraw.all (okD cX11_withdraw) = true := by decide +kernel
def f_X11_withdraw (S : St) (p0 : Nat) (p1 : Int32) : Option ((Int32 × St) ⊕ Nat) := clx (f_X11_requireFranchisee S p0 p1) fun (u1 : Unit) => lt (gR S p0 5) fun (a2 : Nat) => lt (gR S a2 4) fun (a4 : Nat) => cl (f_X10_endOpen S a4 p1 0) fun (o6 : Int32 × St) => zc o6.1 (some (.inl (o6.1, o6.2)))
set_option maxHeartbeats 4000000 in
set_option maxRecDepth 100000 in
theorem c_X11_withdraw (S : St) (p0 : Nat) (p1 : Int32) : CtX yX11_withdraw cX11_withdraw 2 (some .boolean) 7 111 (fun _ => [.ref p0, .int p1]) [(p0, 10)] S (f_X11_withdraw S p0 p1) oIS sS := by
  refine CtX_of RX11 rfl (by decide) (fun _ => Nat.le_of_ble_eq_true rfl) 0 (vs := fun _ => [some (.ref p0), some (.int p1)]) (fun _ => rfl) (fun C X E hr tx ht => ?_)
  have t0_ : tT C p0 10 := ht (p0, 10) (by simp)
  show Jd C 2 (QX C oIS sS S) S 0 [some (.ref p0), some (.int p1)] [] (f_X11_withdraw S p0 p1)
  unfold f_X11_withdraw
  refine s_run X ok_X11_withdraw 0 2 (pc' := 2) (vs' := [some (.ref p0), some (.int p1)]) (st' := [.int p1, .ref p0]) rfl ?_
  refine s_callVX (b := p0) (As := [.int p1]) (rest := []) X E tx mv_X11_159 (c_X11_requireFranchisee S p0 p1) rfl (ta1 t0_) rfl (by decide) t0_ rfl rfl (Nat.le_of_ble_eq_true rfl) (Nat.le_of_ble_eq_true rfl) (Nat.le_of_ble_eq_true rfl) (dk okd_X11_withdraw 0 rfl) (st' := fun u1 => []) (fun _ => rfl) (fun u1 => ?_)
  refine s_run X ok_X11_withdraw 2 1 (pc' := 6) (vs' := [some (.ref p0), some (.int p1)]) (st' := [.ref p0]) rfl ?_
  refine s_getR X fl_X11_41 t0_ (dk okd_X11_withdraw 1 rfl) (fun a2 (t3 : tT C a2 1) => ?_)
  refine s_getR X fl_X11_350 t3 (dk okd_X11_withdraw 2 rfl) (fun a4 (t5 : tT C a4 9) => ?_)
  refine s_run X ok_X11_withdraw 3 2 (pc' := 14) (vs' := [some (.ref p0), some (.int p1)]) (st' := [.int 0, .int p1, .ref a4]) rfl ?_
  refine s_callV (b := a4) (As := [.int p1, .int 0]) (rest := []) X E mv_X11_367 (c_X10_endOpen S a4 p1 0) rfl (ta1 t5) rfl (by decide) t5 rfl rfl (Nat.le_of_ble_eq_true rfl) (Nat.le_of_ble_eq_true rfl) (Nat.le_of_ble_eq_true rfl) (dk okd_X11_withdraw 3 rfl) (st' := fun o6 => [.int o6.1]) (fun _ => rfl) (fun o6 => ?_)
  exact s_zretX X hr (dk okd_X11_withdraw 4 rfl) rfl rfl
def tab_X11_transferState : List En := [(0, 8, 0, 0), (1, 4, 1, 0), (5, 8, 0, 0), (15, 4, 1, 0)]
theorem ok_X11_transferState : tab_X11_transferState.all (okE cX11_transferState) = true := by decide +kernel
def ed_X11_transferState : List (Nat × Instr × Nat) := [(2, .invokevirtual 159, 3), (6, .getfield 41, 3), (9, .getfield 350, 3), (12, .getfield 370, 3), (16, .iaload, 1), (17, .ireturn, 1)]
theorem okd_X11_transferState : ed_X11_transferState.all (okD cX11_transferState) = true := by decide +kernel
def f_X11_transferState (S : St) (p0 : Nat) (p1 : Int32) : Option ((Int32) ⊕ Nat) := clx (f_X11_requireFranchisee S p0 p1) fun (u1 : Unit) => lt (gR S p0 5) fun (a2 : Nat) => lt (gR S a2 4) fun (a4 : Nat) => lt (gR S a4 0) fun (a6 : Nat) => ldI S a6 p1 fun (v8 : Int32) => some (.inl v8)
set_option maxHeartbeats 4000000 in
set_option maxRecDepth 100000 in
theorem c_X11_transferState (S : St) (p0 : Nat) (p1 : Int32) : CtX yX11_transferState cX11_transferState 2 (some .int) 7 111 (fun _ => [.ref p0, .int p1]) [(p0, 10)] S (f_X11_transferState S p0 p1) oI (fun _ => S) := by
  refine CtX_of RX11 rfl (by decide) (fun _ => Nat.le_of_ble_eq_true rfl) 0 (vs := fun _ => [some (.ref p0), some (.int p1)]) (fun _ => rfl) (fun C X E hr tx ht => ?_)
  have t0_ : tT C p0 10 := ht (p0, 10) (by simp)
  show Jd C 2 (QX C oI (fun _ => S) S) S 0 [some (.ref p0), some (.int p1)] [] (f_X11_transferState S p0 p1)
  unfold f_X11_transferState
  refine s_run X ok_X11_transferState 0 2 (pc' := 2) (vs' := [some (.ref p0), some (.int p1)]) (st' := [.int p1, .ref p0]) rfl ?_
  refine s_callVX (b := p0) (As := [.int p1]) (rest := []) X E tx mv_X11_159 (c_X11_requireFranchisee S p0 p1) rfl (ta1 t0_) rfl (by decide) t0_ rfl rfl (Nat.le_of_ble_eq_true rfl) (Nat.le_of_ble_eq_true rfl) (Nat.le_of_ble_eq_true rfl) (dk okd_X11_transferState 0 rfl) (st' := fun u1 => []) (fun _ => rfl) (fun u1 => ?_)
  refine s_run X ok_X11_transferState 2 1 (pc' := 6) (vs' := [some (.ref p0), some (.int p1)]) (st' := [.ref p0]) rfl ?_
  refine s_getR X fl_X11_41 t0_ (dk okd_X11_transferState 1 rfl) (fun a2 (t3 : tT C a2 1) => ?_)
  refine s_getR X fl_X11_350 t3 (dk okd_X11_transferState 2 rfl) (fun a4 (t5 : tT C a4 9) => ?_)
  refine s_getR X fl_X11_370 t5 (dk okd_X11_transferState 3 rfl) (fun a6 (t7 : tT C a6 13) => ?_)
  refine s_run X ok_X11_transferState 3 1 (pc' := 16) (vs' := [some (.ref p0), some (.int p1)]) (st' := [.int p1, .ref a6]) rfl ?_
  refine s_iald X t7 (dk okd_X11_transferState 4 rfl) (fun v8 => ?_)
  exact s_iretX X hr (dk okd_X11_transferState 5 rfl) rfl rfl
def tab_X11_transferWait : List En := [(0, 8, 0, 0), (1, 4, 1, 0), (5, 8, 0, 0), (12, 4, 1, 0), (19, 8, 0, 0), (23, 4, 1, 0), (27, 41, 31, 0), (30, 0, 0, (-1))]
theorem ok_X11_transferWait : tab_X11_transferWait.all (okE cX11_transferWait) = true := by decide +kernel
def ed_X11_transferWait : List (Nat × Instr × Nat) := [(2, .invokevirtual 159, 3), (6, .getfield 41, 3), (9, .getfield 350, 3), (13, .invokevirtual 373, 3), (16, .ifCond .eq 14, 3), (20, .getfield 41, 3), (24, .invokevirtual 376, 3), (31, .ireturn, 1)]
theorem okd_X11_transferWait : ed_X11_transferWait.all (okD cX11_transferWait) = true := by decide +kernel
def f_X11_transferWait (S : St) (p0 : Nat) (p1 : Int32) : Option ((Int32) ⊕ Nat) := clx (f_X11_requireFranchisee S p0 p1) fun (u1 : Unit) => lt (gR S p0 5) fun (a2 : Nat) => lt (gR S a2 4) fun (a4 : Nat) => cl (f_X10_isOpen S a4 p1) fun (v6 : Int32) => if v6 = 0 then (some (.inl (-1))) else (lt (gR S p0 5) fun (a7 : Nat) => cl (f_X1_monthsOfDelayLeft S a7 p1) fun (v9 : Int32) => some (.inl v9))
set_option maxHeartbeats 4000000 in
set_option maxRecDepth 100000 in
theorem c_X11_transferWait (S : St) (p0 : Nat) (p1 : Int32) : CtX yX11_transferWait cX11_transferWait 2 (some .int) 7 111 (fun _ => [.ref p0, .int p1]) [(p0, 10)] S (f_X11_transferWait S p0 p1) oI (fun _ => S) := by
  refine CtX_of RX11 rfl (by decide) (fun _ => Nat.le_of_ble_eq_true rfl) 0 (vs := fun _ => [some (.ref p0), some (.int p1)]) (fun _ => rfl) (fun C X E hr tx ht => ?_)
  have t0_ : tT C p0 10 := ht (p0, 10) (by simp)
  show Jd C 2 (QX C oI (fun _ => S) S) S 0 [some (.ref p0), some (.int p1)] [] (f_X11_transferWait S p0 p1)
  unfold f_X11_transferWait
  refine s_run X ok_X11_transferWait 0 2 (pc' := 2) (vs' := [some (.ref p0), some (.int p1)]) (st' := [.int p1, .ref p0]) rfl ?_
  refine s_callVX (b := p0) (As := [.int p1]) (rest := []) X E tx mv_X11_159 (c_X11_requireFranchisee S p0 p1) rfl (ta1 t0_) rfl (by decide) t0_ rfl rfl (Nat.le_of_ble_eq_true rfl) (Nat.le_of_ble_eq_true rfl) (Nat.le_of_ble_eq_true rfl) (dk okd_X11_transferWait 0 rfl) (st' := fun u1 => []) (fun _ => rfl) (fun u1 => ?_)
  refine s_run X ok_X11_transferWait 2 1 (pc' := 6) (vs' := [some (.ref p0), some (.int p1)]) (st' := [.ref p0]) rfl ?_
  refine s_getR X fl_X11_41 t0_ (dk okd_X11_transferWait 1 rfl) (fun a2 (t3 : tT C a2 1) => ?_)
  refine s_getR X fl_X11_350 t3 (dk okd_X11_transferWait 2 rfl) (fun a4 (t5 : tT C a4 9) => ?_)
  refine s_run X ok_X11_transferWait 3 1 (pc' := 13) (vs' := [some (.ref p0), some (.int p1)]) (st' := [.int p1, .ref a4]) rfl ?_
  refine s_callV (b := a4) (As := [.int p1]) (rest := []) X E mv_X11_373 (c_X10_isOpen S a4 p1) rfl (ta1 t5) rfl (by decide) t5 rfl rfl (Nat.le_of_ble_eq_true rfl) (Nat.le_of_ble_eq_true rfl) (Nat.le_of_ble_eq_true rfl) (dk okd_X11_transferWait 3 rfl) (st' := fun v6 => [.int v6]) (fun _ => rfl) (fun v6 => ?_)
  refine s_if_eq (tgt := 30) X (dk okd_X11_transferWait 4 rfl) (by decide) ?_ ?_
  · refine s_run X ok_X11_transferWait 7 1 (pc' := 31) (vs' := [some (.ref p0), some (.int p1)]) (st' := [.int (-1)]) rfl ?_
    exact s_iretX X hr (dk okd_X11_transferWait 7 rfl) rfl rfl
  · refine s_run X ok_X11_transferWait 4 1 (pc' := 20) (vs' := [some (.ref p0), some (.int p1)]) (st' := [.ref p0]) rfl ?_
    refine s_getR X fl_X11_41 t0_ (dk okd_X11_transferWait 5 rfl) (fun a7 (t8 : tT C a7 1) => ?_)
    refine s_run X ok_X11_transferWait 5 1 (pc' := 24) (vs' := [some (.ref p0), some (.int p1)]) (st' := [.int p1, .ref a7]) rfl ?_
    refine s_callV (b := a7) (As := [.int p1]) (rest := []) X E mv_X11_376 (c_X1_monthsOfDelayLeft S a7 p1) rfl (ta1 t8) rfl (by decide) t8 rfl rfl (Nat.le_of_ble_eq_true rfl) (Nat.le_of_ble_eq_true rfl) (Nat.le_of_ble_eq_true rfl) (dk okd_X11_transferWait 6 rfl) (st' := fun v9 => [.int v9]) (fun _ => rfl) (fun v9 => ?_)
    refine s_run X ok_X11_transferWait 6 1 (pc' := 31) (vs' := [some (.ref p0), some (.int p1)]) (st' := [.int v9]) rfl ?_
    exact s_iretX X hr (dk okd_X11_transferWait 7 rfl) rfl rfl
def tab_X11_generation : List En := [(0, 8, 0, 0), (1, 4, 1, 0), (5, 8, 0, 0), (15, 4, 1, 0)]
theorem ok_X11_generation : tab_X11_generation.all (okE cX11_generation) = true := by decide +kernel
def ed_X11_generation : List (Nat × Instr × Nat) := [(2, .invokevirtual 159, 3), (6, .getfield 41, 3), (9, .getfield 85, 3), (12, .getfield 379, 3), (16, .iaload, 1), (17, .ireturn, 1)]
theorem okd_X11_generation : ed_X11_generation.all (okD cX11_generation) = true := by decide +kernel
def f_X11_generation (S : St) (p0 : Nat) (p1 : Int32) : Option ((Int32) ⊕ Nat) := clx (f_X11_requireFranchisee S p0 p1) fun (u1 : Unit) => lt (gR S p0 5) fun (a2 : Nat) => lt (gR S a2 3) fun (a4 : Nat) => lt (gR S a4 5) fun (a6 : Nat) => ldI S a6 p1 fun (v8 : Int32) => some (.inl v8)
set_option maxHeartbeats 4000000 in
set_option maxRecDepth 100000 in
theorem c_X11_generation (S : St) (p0 : Nat) (p1 : Int32) : CtX yX11_generation cX11_generation 2 (some .int) 7 111 (fun _ => [.ref p0, .int p1]) [(p0, 10)] S (f_X11_generation S p0 p1) oI (fun _ => S) := by
  refine CtX_of RX11 rfl (by decide) (fun _ => Nat.le_of_ble_eq_true rfl) 0 (vs := fun _ => [some (.ref p0), some (.int p1)]) (fun _ => rfl) (fun C X E hr tx ht => ?_)
  have t0_ : tT C p0 10 := ht (p0, 10) (by simp)
  show Jd C 2 (QX C oI (fun _ => S) S) S 0 [some (.ref p0), some (.int p1)] [] (f_X11_generation S p0 p1)
  unfold f_X11_generation
  refine s_run X ok_X11_generation 0 2 (pc' := 2) (vs' := [some (.ref p0), some (.int p1)]) (st' := [.int p1, .ref p0]) rfl ?_
  refine s_callVX (b := p0) (As := [.int p1]) (rest := []) X E tx mv_X11_159 (c_X11_requireFranchisee S p0 p1) rfl (ta1 t0_) rfl (by decide) t0_ rfl rfl (Nat.le_of_ble_eq_true rfl) (Nat.le_of_ble_eq_true rfl) (Nat.le_of_ble_eq_true rfl) (dk okd_X11_generation 0 rfl) (st' := fun u1 => []) (fun _ => rfl) (fun u1 => ?_)
  refine s_run X ok_X11_generation 2 1 (pc' := 6) (vs' := [some (.ref p0), some (.int p1)]) (st' := [.ref p0]) rfl ?_
  refine s_getR X fl_X11_41 t0_ (dk okd_X11_generation 1 rfl) (fun a2 (t3 : tT C a2 1) => ?_)
  refine s_getR X fl_X11_85 t3 (dk okd_X11_generation 2 rfl) (fun a4 (t5 : tT C a4 2) => ?_)
  refine s_getR X fl_X11_379 t5 (dk okd_X11_generation 3 rfl) (fun a6 (t7 : tT C a6 13) => ?_)
  refine s_run X ok_X11_generation 3 1 (pc' := 16) (vs' := [some (.ref p0), some (.int p1)]) (st' := [.int p1, .ref a6]) rfl ?_
  refine s_iald X t7 (dk okd_X11_generation 4 rfl) (fun v8 => ?_)
  exact s_iretX X hr (dk okd_X11_generation 5 rfl) rfl rfl
def tab_X11_worth : List En := [(0, 8, 0, 0), (1, 4, 1, 0), (5, 8, 0, 0), (15, 4, 1, 0)]
theorem ok_X11_worth : tab_X11_worth.all (okE cX11_worth) = true := by decide +kernel
def ed_X11_worth : List (Nat × Instr × Nat) := [(2, .invokevirtual 159, 3), (6, .getfield 41, 3), (9, .getfield 85, 3), (12, .getfield 382, 3), (16, .iaload, 1), (17, .ireturn, 1)]
theorem okd_X11_worth : ed_X11_worth.all (okD cX11_worth) = true := by decide +kernel
def f_X11_worth (S : St) (p0 : Nat) (p1 : Int32) : Option ((Int32) ⊕ Nat) := clx (f_X11_requireFranchisee S p0 p1) fun (u1 : Unit) => lt (gR S p0 5) fun (a2 : Nat) => lt (gR S a2 3) fun (a4 : Nat) => lt (gR S a4 3) fun (a6 : Nat) => ldI S a6 p1 fun (v8 : Int32) => some (.inl v8)
set_option maxHeartbeats 4000000 in
set_option maxRecDepth 100000 in
theorem c_X11_worth (S : St) (p0 : Nat) (p1 : Int32) : CtX yX11_worth cX11_worth 2 (some .int) 7 111 (fun _ => [.ref p0, .int p1]) [(p0, 10)] S (f_X11_worth S p0 p1) oI (fun _ => S) := by
  refine CtX_of RX11 rfl (by decide) (fun _ => Nat.le_of_ble_eq_true rfl) 0 (vs := fun _ => [some (.ref p0), some (.int p1)]) (fun _ => rfl) (fun C X E hr tx ht => ?_)
  have t0_ : tT C p0 10 := ht (p0, 10) (by simp)
  show Jd C 2 (QX C oI (fun _ => S) S) S 0 [some (.ref p0), some (.int p1)] [] (f_X11_worth S p0 p1)
  unfold f_X11_worth
  refine s_run X ok_X11_worth 0 2 (pc' := 2) (vs' := [some (.ref p0), some (.int p1)]) (st' := [.int p1, .ref p0]) rfl ?_
  refine s_callVX (b := p0) (As := [.int p1]) (rest := []) X E tx mv_X11_159 (c_X11_requireFranchisee S p0 p1) rfl (ta1 t0_) rfl (by decide) t0_ rfl rfl (Nat.le_of_ble_eq_true rfl) (Nat.le_of_ble_eq_true rfl) (Nat.le_of_ble_eq_true rfl) (dk okd_X11_worth 0 rfl) (st' := fun u1 => []) (fun _ => rfl) (fun u1 => ?_)
  refine s_run X ok_X11_worth 2 1 (pc' := 6) (vs' := [some (.ref p0), some (.int p1)]) (st' := [.ref p0]) rfl ?_
  refine s_getR X fl_X11_41 t0_ (dk okd_X11_worth 1 rfl) (fun a2 (t3 : tT C a2 1) => ?_)
  refine s_getR X fl_X11_85 t3 (dk okd_X11_worth 2 rfl) (fun a4 (t5 : tT C a4 2) => ?_)
  refine s_getR X fl_X11_382 t5 (dk okd_X11_worth 3 rfl) (fun a6 (t7 : tT C a6 13) => ?_)
  refine s_run X ok_X11_worth 3 1 (pc' := 16) (vs' := [some (.ref p0), some (.int p1)]) (st' := [.int p1, .ref a6]) rfl ?_
  refine s_iald X t7 (dk okd_X11_worth 4 rfl) (fun v8 => ?_)
  exact s_iretX X hr (dk okd_X11_worth 5 rfl) rfl rfl
def tab_X11_saveSnapshot : List En := [(0, 4, 1, 0), (4, 4, 1, 0), (5, 0, 0, 2), (9, 0, 0, 0), (11, 8, 0, 0), (15, 4, 1, 0), (17, 8, 0, 0), (24, 8, 0, 0), (28, 4, 1, 0), (29, 0, 0, 1), (31, 0, 0, 1)]
theorem ok_X11_saveSnapshot : tab_X11_saveSnapshot.all (okE cX11_saveSnapshot) = true := by decide +kernel
def ed_X11_saveSnapshot : List (Nat × Instr × Nat) := [(1, .ifCond .lt 8, 3), (6, .if_icmp .lt 5, 3), (10, .ireturn, 1), (12, .getfield 33, 3), (16, .aaload, 1), (18, .getfield 41, 3), (21, .invokevirtual 385, 3), (25, .getfield 37, 3), (30, .bastore, 1), (32, .ireturn, 1)]
theorem okd_X11_saveSnapshot : ed_X11_saveSnapshot.all (okD cX11_saveSnapshot) = true := by decide +kernel
def f_X11_saveSnapshot (S : St) (p0 : Nat) (p1 : Int32) : Option (Int32 × St) := if p1 < 0 then (some (0, S)) else (if p1 < 2 then (lt (gR S p0 3) fun (a1 : Nat) => ldR S a1 p1 fun (a3 : Nat) => lt (gR S p0 5) fun (a5 : Nat) => cl (f_X1_copyFrom S a3 a5) fun (S7 : St) => lt (gR S7 p0 4) fun (a8 : Nat) => stI S7 a8 p1 (vp_nar .boolean 1) fun (S10 : St) => some (1, S10)) else (some (0, S)))
set_option maxHeartbeats 4000000 in
set_option maxRecDepth 100000 in
theorem c_X11_saveSnapshot (S : St) (p0 : Nat) (p1 : Int32) : Ct yX11_saveSnapshot cX11_saveSnapshot 2 (some .boolean) 3 91 (fun _ => [.ref p0, .int p1]) [(p0, 10)] S (f_X11_saveSnapshot S p0 p1) oIS sS := by
  refine Ct_of RX11 rfl (by decide) (fun _ => Nat.le_of_ble_eq_true rfl) 0 (vs := fun _ => [some (.ref p0), some (.int p1)]) (fun _ => rfl) (fun C X E hr ht => ?_)
  have t0_ : tT C p0 10 := ht (p0, 10) (by simp)
  show Jd C 2 (QJ C oIS sS) S 0 [some (.ref p0), some (.int p1)] [] (f_X11_saveSnapshot S p0 p1)
  unfold f_X11_saveSnapshot
  refine s_run X ok_X11_saveSnapshot 0 1 (pc' := 1) (vs' := [some (.ref p0), some (.int p1)]) (st' := [.int p1]) rfl ?_
  refine s_if_lt (tgt := 9) X (dk okd_X11_saveSnapshot 0 rfl) (by decide) ?_ ?_
  · refine s_run X ok_X11_saveSnapshot 3 1 (pc' := 10) (vs' := [some (.ref p0), some (.int p1)]) (st' := [.int 0]) rfl ?_
    exact s_zret0 X hr (dk okd_X11_saveSnapshot 2 rfl) (by decide) rfl rfl
  · refine s_run X ok_X11_saveSnapshot 1 2 (pc' := 6) (vs' := [some (.ref p0), some (.int p1)]) (st' := [.int 2, .int p1]) rfl ?_
    refine s_icmp_lt (tgt := 11) X (dk okd_X11_saveSnapshot 1 rfl) (by decide) ?_ ?_
    · refine s_run X ok_X11_saveSnapshot 4 1 (pc' := 12) (vs' := [some (.ref p0), some (.int p1)]) (st' := [.ref p0]) rfl ?_
      refine s_getR X fl_X11_33 t0_ (dk okd_X11_saveSnapshot 3 rfl) (fun a1 (t2 : tT C a1 16) => ?_)
      refine s_run X ok_X11_saveSnapshot 5 1 (pc' := 16) (vs' := [some (.ref p0), some (.int p1)]) (st' := [.int p1, .ref a1]) rfl ?_
      refine s_aald X t2 (dk okd_X11_saveSnapshot 4 rfl) (fun a3 (t4 : tT C a3 1) => ?_)
      refine s_run X ok_X11_saveSnapshot 6 1 (pc' := 18) (vs' := [some (.ref p0), some (.int p1)]) (st' := [.ref p0, .ref a3]) rfl ?_
      refine s_getR X fl_X11_41 t0_ (dk okd_X11_saveSnapshot 5 rfl) (fun a5 (t6 : tT C a5 1) => ?_)
      refine s_callV (b := a3) (As := [.ref a5]) (rest := []) X E mv_X11_385 (c_X1_copyFrom S a3 a5) rfl (ta2 t4 t6) rfl (by decide) t4 rfl rfl (Nat.le_of_ble_eq_true rfl) (Nat.le_of_ble_eq_true rfl) (Nat.le_of_ble_eq_true rfl) (dk okd_X11_saveSnapshot 6 rfl) (st' := fun S7 => []) (fun _ => rfl) (fun S7 => ?_)
      refine s_run X ok_X11_saveSnapshot 7 1 (pc' := 25) (vs' := [some (.ref p0), some (.int p1)]) (st' := [.ref p0]) rfl ?_
      refine s_getR X fl_X11_37 t0_ (dk okd_X11_saveSnapshot 7 rfl) (fun a8 (t9 : tT C a8 15) => ?_)
      refine s_run X ok_X11_saveSnapshot 8 2 (pc' := 30) (vs' := [some (.ref p0), some (.int p1)]) (st' := [.int 1, .int p1, .ref a8]) rfl ?_
      refine s_zast X t9 (dk okd_X11_saveSnapshot 8 rfl) (fun S10 => ?_)
      refine s_run X ok_X11_saveSnapshot 10 1 (pc' := 32) (vs' := [some (.ref p0), some (.int p1)]) (st' := [.int 1]) rfl ?_
      exact s_zret0 X hr (dk okd_X11_saveSnapshot 9 rfl) (by decide) rfl rfl
    · refine s_run X ok_X11_saveSnapshot 3 1 (pc' := 10) (vs' := [some (.ref p0), some (.int p1)]) (st' := [.int 0]) rfl ?_
      exact s_zret0 X hr (dk okd_X11_saveSnapshot 2 rfl) (by decide) rfl rfl
def tab_X11_restoreSnapshot : List En := [(0, 4, 1, 0), (4, 4, 1, 0), (5, 0, 0, 2), (9, 8, 0, 0), (13, 4, 1, 0), (18, 0, 0, 0), (20, 8, 0, 0), (24, 8, 0, 0), (28, 4, 1, 0), (33, 0, 0, 1)]
theorem ok_X11_restoreSnapshot : tab_X11_restoreSnapshot.all (okE cX11_restoreSnapshot) = true := by decide +kernel
def ed_X11_restoreSnapshot : List (Nat × Instr × Nat) := [(1, .ifCond .lt 17, 3), (6, .if_icmp .ge 12, 3), (10, .getfield 37, 3), (14, .baload, 1), (15, .ifCond .ne 5, 3), (19, .ireturn, 1), (21, .getfield 41, 3), (25, .getfield 33, 3), (29, .aaload, 1), (30, .invokevirtual 385, 3), (34, .ireturn, 1)]
theorem okd_X11_restoreSnapshot : ed_X11_restoreSnapshot.all (okD cX11_restoreSnapshot) = true := by decide +kernel
def f_X11_restoreSnapshot (S : St) (p0 : Nat) (p1 : Int32) : Option (Int32 × St) := if p1 < 0 then (some (0, S)) else (if 2 ≤ p1 then (some (0, S)) else (lt (gR S p0 4) fun (a1 : Nat) => ldI S a1 p1 fun (v3 : Int32) => if v3 = 0 then (some (0, S)) else (lt (gR S p0 5) fun (a4 : Nat) => lt (gR S p0 3) fun (a6 : Nat) => ldR S a6 p1 fun (a8 : Nat) => cl (f_X1_copyFrom S a4 a8) fun (S10 : St) => some (1, S10))))
set_option maxHeartbeats 4000000 in
set_option maxRecDepth 100000 in
theorem c_X11_restoreSnapshot (S : St) (p0 : Nat) (p1 : Int32) : Ct yX11_restoreSnapshot cX11_restoreSnapshot 2 (some .boolean) 3 91 (fun _ => [.ref p0, .int p1]) [(p0, 10)] S (f_X11_restoreSnapshot S p0 p1) oIS sS := by
  refine Ct_of RX11 rfl (by decide) (fun _ => Nat.le_of_ble_eq_true rfl) 0 (vs := fun _ => [some (.ref p0), some (.int p1)]) (fun _ => rfl) (fun C X E hr ht => ?_)
  have t0_ : tT C p0 10 := ht (p0, 10) (by simp)
  show Jd C 2 (QJ C oIS sS) S 0 [some (.ref p0), some (.int p1)] [] (f_X11_restoreSnapshot S p0 p1)
  unfold f_X11_restoreSnapshot
  refine s_run X ok_X11_restoreSnapshot 0 1 (pc' := 1) (vs' := [some (.ref p0), some (.int p1)]) (st' := [.int p1]) rfl ?_
  refine s_if_lt (tgt := 18) X (dk okd_X11_restoreSnapshot 0 rfl) (by decide) ?_ ?_
  · refine s_run X ok_X11_restoreSnapshot 5 1 (pc' := 19) (vs' := [some (.ref p0), some (.int p1)]) (st' := [.int 0]) rfl ?_
    exact s_zret0 X hr (dk okd_X11_restoreSnapshot 5 rfl) (by decide) rfl rfl
  · refine s_run X ok_X11_restoreSnapshot 1 2 (pc' := 6) (vs' := [some (.ref p0), some (.int p1)]) (st' := [.int 2, .int p1]) rfl ?_
    refine s_icmp_ge (tgt := 18) X (dk okd_X11_restoreSnapshot 1 rfl) (by decide) ?_ ?_
    · refine s_run X ok_X11_restoreSnapshot 5 1 (pc' := 19) (vs' := [some (.ref p0), some (.int p1)]) (st' := [.int 0]) rfl ?_
      exact s_zret0 X hr (dk okd_X11_restoreSnapshot 5 rfl) (by decide) rfl rfl
    · refine s_run X ok_X11_restoreSnapshot 3 1 (pc' := 10) (vs' := [some (.ref p0), some (.int p1)]) (st' := [.ref p0]) rfl ?_
      refine s_getR X fl_X11_37 t0_ (dk okd_X11_restoreSnapshot 2 rfl) (fun a1 (t2 : tT C a1 15) => ?_)
      refine s_run X ok_X11_restoreSnapshot 4 1 (pc' := 14) (vs' := [some (.ref p0), some (.int p1)]) (st' := [.int p1, .ref a1]) rfl ?_
      refine s_zald X t2 (dk okd_X11_restoreSnapshot 3 rfl) (fun v3 => ?_)
      refine s_if_ne (tgt := 20) X (dk okd_X11_restoreSnapshot 4 rfl) (by decide) ?_ ?_
      · refine s_run X ok_X11_restoreSnapshot 6 1 (pc' := 21) (vs' := [some (.ref p0), some (.int p1)]) (st' := [.ref p0]) rfl ?_
        refine s_getR X fl_X11_41 t0_ (dk okd_X11_restoreSnapshot 6 rfl) (fun a4 (t5 : tT C a4 1) => ?_)
        refine s_run X ok_X11_restoreSnapshot 7 1 (pc' := 25) (vs' := [some (.ref p0), some (.int p1)]) (st' := [.ref p0, .ref a4]) rfl ?_
        refine s_getR X fl_X11_33 t0_ (dk okd_X11_restoreSnapshot 7 rfl) (fun a6 (t7 : tT C a6 16) => ?_)
        refine s_run X ok_X11_restoreSnapshot 8 1 (pc' := 29) (vs' := [some (.ref p0), some (.int p1)]) (st' := [.int p1, .ref a6, .ref a4]) rfl ?_
        refine s_aald X t7 (dk okd_X11_restoreSnapshot 8 rfl) (fun a8 (t9 : tT C a8 1) => ?_)
        refine s_callV (b := a4) (As := [.ref a8]) (rest := []) X E mv_X11_385 (c_X1_copyFrom S a4 a8) rfl (ta2 t5 t9) rfl (by decide) t5 rfl rfl (Nat.le_of_ble_eq_true rfl) (Nat.le_of_ble_eq_true rfl) (Nat.le_of_ble_eq_true rfl) (dk okd_X11_restoreSnapshot 9 rfl) (st' := fun S10 => []) (fun _ => rfl) (fun S10 => ?_)
        refine s_run X ok_X11_restoreSnapshot 9 1 (pc' := 34) (vs' := [some (.ref p0), some (.int p1)]) (st' := [.int 1]) rfl ?_
        exact s_zret0 X hr (dk okd_X11_restoreSnapshot 10 rfl) (by decide) rfl rfl
      · refine s_run X ok_X11_restoreSnapshot 5 1 (pc' := 19) (vs' := [some (.ref p0), some (.int p1)]) (st' := [.int 0]) rfl ?_
        exact s_zret0 X hr (dk okd_X11_restoreSnapshot 5 rfl) (by decide) rfl rfl
def tab_X11_requireAmount : List En := [(0, 6, 0, 0), (1, 3, 1, 0), (2, 40, 0, 0), (6, 6, 0, 0), (10, 40, 0, 0), (14, 0, 0, 1), (15, 41, 19, 0), (18, 0, 0, 0)]
theorem ok_X11_requireAmount : tab_X11_requireAmount.all (okE cX11_requireAmount) = true := by decide +kernel
def ed_X11_requireAmount : List (Nat × Instr × Nat) := [(3, .ifCond .lt 15, 3), (7, .ldc2_w 233, 3), (11, .ifCond .gt 7, 3), (19, .invokestatic 107, 3), (22, .return_, 1)]
theorem okd_X11_requireAmount : ed_X11_requireAmount.all (okD cX11_requireAmount) = true := by decide +kernel
def f_X11_requireAmount (S : St) (p0 : Int64) : Option ((Unit) ⊕ Nat) := jn (κ := Int32 → Option ((Unit) ⊕ Nat)) (fun x1 => clx (f_X11_requireArgument S x1) fun (u4 : Unit) => some (.inl ())) fun k2 => jn (κ := Option ((Unit) ⊕ Nat)) (k2 0) fun k5 => if p0 < 1 then (k5) else (if 1000000000 < p0 then (k5) else (k2 1))
set_option maxHeartbeats 4000000 in
set_option maxRecDepth 100000 in
theorem c_X11_requireAmount (S : St) (p0 : Int64) : CtX yX11_requireAmount cX11_requireAmount 2 none 7 110 (fun _ => [.long p0]) [] S (f_X11_requireAmount S p0) oU (fun _ => S) := by
  refine CtX_of RX11 rfl (by decide) (fun _ => Nat.le_of_ble_eq_true rfl) 0 (vs := fun _ => [some (.long p0), none]) (fun _ => rfl) (fun C X E hr tx ht => ?_)
  show Jd C 2 (QX C oU (fun _ => S) S) S 0 [some (.long p0), none] [] (f_X11_requireAmount S p0)
  unfold f_X11_requireAmount
  refine s_run X ok_X11_requireAmount 0 3 (pc' := 3) (vs' := [some (.long p0), none]) (st' := [.int (lg_cmp p0 1)]) rfl ?_
  refine s_jn (κ := Int32 → Option ((Unit) ⊕ Nat)) (fun k2 => ∀ (x1 : Int32), Jd C 2 (QX C oU (fun _ => S) S) S 19 [none, none] [.int x1] (k2 x1)) (fun x1 => ?_) (fun k2 h3 => ?_)
  · refine s_callSX (As := [.int x1]) (rest := []) X E tx ms_X11_107 (c_X11_requireArgument S x1) rfl (ta0) rfl rfl (Nat.le_of_ble_eq_true rfl) (Nat.le_of_ble_eq_true rfl) (Nat.le_of_ble_eq_true rfl) (dk okd_X11_requireAmount 3 rfl) (st' := fun u4 => []) (fun _ => rfl) (fun u4 => ?_)
    exact s_vretX X hr (dk okd_X11_requireAmount 4 rfl) rfl rfl
  · refine s_jn (κ := Option ((Unit) ⊕ Nat)) (fun k5 => Jd C 2 (QX C oU (fun _ => S) S) S 18 [none, none] [] k5) ?_ (fun k5 h6 => ?_)
    · refine s_run X ok_X11_requireAmount 7 1 (pc' := 19) (vs' := [none, none]) (st' := [.int 0]) rfl ?_
      exact h3 0
    · refine s_lif_lt (tgt := 18) X (dk okd_X11_requireAmount 0 rfl) (by decide) ?_ ?_
      · exact s_less [false, false] rfl (h6)
      · refine s_run X ok_X11_requireAmount 3 1 (pc' := 7) (vs' := [some (.long p0), none]) (st' := [.long p0]) rfl ?_
        refine s_ldc2 X cl_X11_233 (dk okd_X11_requireAmount 1 rfl) ?_
        refine s_run X ok_X11_requireAmount 4 1 (pc' := 11) (vs' := [some (.long p0), none]) (st' := [.int (lg_cmp p0 1000000000)]) rfl ?_
        refine s_lif_gt (tgt := 18) X (dk okd_X11_requireAmount 2 rfl) (by decide) ?_ ?_
        · exact s_less [false, false] rfl (h6)
        · refine s_run X ok_X11_requireAmount 5 2 (pc' := 19) (vs' := [some (.long p0), none]) (st' := [.int 1]) rfl ?_
          exact s_less [false, false] rfl (h3 1)
def tab_X12_partName : List En := [(0, 4, 0, 0), (40, 1, 0, 114), (42, 1, 0, 111), (44, 1, 0, 121), (46, 1, 0, 97), (48, 1, 0, 108), (56, 25, 0, 0), (57, 1, 0, 116), (59, 1, 0, 121), (61, 0, 0, 0), (62, 0, 0, 0), (63, 0, 0, 0), (67, 23, 0, 0), (69, 1, 0, 97), (71, 1, 0, 100), (73, 0, 0, 0), (74, 0, 0, 0), (75, 0, 0, 0), (80, 1, 0, 105), (82, 1, 0, 110), (84, 1, 0, 116), (86, 1, 0, 101), (88, 1, 0, 114), (96, 25, 0, 0), (97, 1, 0, 101), (99, 1, 0, 115), (101, 1, 0, 116), (103, 0, 0, 0), (104, 0, 0, 0), (108, 23, 0, 0), (110, 1, 0, 112), (112, 1, 0, 97), (114, 1, 0, 105), (116, 1, 0, 100), (118, 0, 0, 0), (123, 1, 0, 114), (125, 1, 0, 101), (127, 1, 0, 99), (129, 1, 0, 101), (131, 1, 0, 105), (139, 25, 0, 0), (140, 1, 0, 118), (142, 1, 0, 101), (144, 1, 0, 100), (146, 0, 0, 0), (147, 0, 0, 0), (151, 23, 0, 0), (153, 1, 0, 100), (155, 1, 0, 117), (157, 1, 0, 101), (159, 0, 0, 0), (160, 0, 0, 0), (165, 1, 0, 98), (167, 1, 0, 97), (169, 1, 0, 108), (171, 1, 0, 97), (173, 1, 0, 110), (181, 25, 0, 0), (182, 1, 0, 99), (184, 1, 0, 101), (186, 0, 0, 0), (187, 0, 0, 0), (188, 0, 0, 0), (192, 23, 0, 0)]
theorem ok_X12_partName : tab_X12_partName.all (okE cX12_partName) = true := by decide +kernel
def ed_X12_partName : List (Nat × Instr × Nat) := [(1, .tableswitch 164 0 5 #[39, 68, 79, 109, 122, 152], 39), (50, .invokestatic 278, 3), (53, .ldc2_w 282, 3), (64, .invokestatic 278, 3), (68, .lreturn, 1), (76, .invokestatic 278, 3), (79, .lreturn, 1), (90, .invokestatic 278, 3), (93, .ldc2_w 284, 3), (105, .invokestatic 278, 3), (109, .lreturn, 1), (119, .invokestatic 278, 3), (122, .lreturn, 1), (133, .invokestatic 278, 3), (136, .ldc2_w 284, 3), (148, .invokestatic 278, 3), (152, .lreturn, 1), (161, .invokestatic 278, 3), (164, .lreturn, 1), (175, .invokestatic 278, 3), (178, .ldc2_w 282, 3), (189, .invokestatic 278, 3), (193, .lreturn, 1)]
theorem okd_X12_partName : ed_X12_partName.all (okD cX12_partName) = true := by decide +kernel
def f_X12_partName (S : St) (p0 : Int32) : Option (Int64) := if p0 = 0 then (cl (f_X12_pack S 114 111 121 97 108) fun (v1 : Int64) => cl (f_X12_pack S 116 121 0 0 0) fun (v2 : Int64) => some ((v1 * 1024) + v2)) else (if p0 = 1 then (cl (f_X12_pack S 97 100 0 0 0) fun (v3 : Int64) => some v3) else (if p0 = 2 then (cl (f_X12_pack S 105 110 116 101 114) fun (v4 : Int64) => cl (f_X12_pack S 101 115 116 0 0) fun (v5 : Int64) => some ((v4 * 32768) + v5)) else (if p0 = 3 then (cl (f_X12_pack S 112 97 105 100 0) fun (v6 : Int64) => some v6) else (if p0 = 4 then (cl (f_X12_pack S 114 101 99 101 105) fun (v7 : Int64) => cl (f_X12_pack S 118 101 100 0 0) fun (v8 : Int64) => some ((v7 * 32768) + v8)) else (if p0 = 5 then (cl (f_X12_pack S 100 117 101 0 0) fun (v9 : Int64) => some v9) else (cl (f_X12_pack S 98 97 108 97 110) fun (v10 : Int64) => cl (f_X12_pack S 99 101 0 0 0) fun (v11 : Int64) => some ((v10 * 1024) + v11)))))))
set_option maxHeartbeats 4000000 in
set_option maxRecDepth 100000 in
theorem c_X12_partName (S : St) (p0 : Int32) : Ct yX12_partName cX12_partName 1 (some .long) 1 26 (fun _ => [.int p0]) [] S (f_X12_partName S p0) oL (fun _ => S) := by
  refine Ct_of RX12 rfl (by decide) (fun _ => Nat.le_of_ble_eq_true rfl) 0 (vs := fun _ => [some (.int p0)]) (fun _ => rfl) (fun C X E hr ht => ?_)
  show Jd C 1 (QJ C oL (fun _ => S)) S 0 [some (.int p0)] [] (f_X12_partName S p0)
  unfold f_X12_partName
  refine s_run X ok_X12_partName 0 1 (pc' := 1) (vs' := [some (.int p0)]) (st' := [.int p0]) rfl ?_
  refine s_tabc (c := 0) (tgt := 40) X (dk okd_X12_partName 0 rfl) (by decide) (by decide) rfl (by decide) ?_ (fun n0 => ?_)
  · refine s_run X ok_X12_partName 1 5 (pc' := 50) (vs' := [some (.int p0)]) (st' := [.int 108, .int 97, .int 121, .int 111, .int 114]) rfl ?_
    refine s_callS (As := [.int 114, .int 111, .int 121, .int 97, .int 108]) (rest := []) X E ms_X12_278 (c_X12_pack S 114 111 121 97 108) rfl (ta0) rfl rfl (Nat.le_of_ble_eq_true rfl) (Nat.le_of_ble_eq_true rfl) (Nat.le_of_ble_eq_true rfl) (dk okd_X12_partName 1 rfl) (st' := fun v1 => [.long v1]) (fun _ => rfl) (fun v1 => ?_)
    refine s_ldc2 X cl_X12_282 (dk okd_X12_partName 2 rfl) ?_
    refine s_run X ok_X12_partName 6 6 (pc' := 64) (vs' := [some (.int p0)]) (st' := [.int 0, .int 0, .int 0, .int 121, .int 116, .long (v1 * 1024)]) rfl ?_
    refine s_callS (As := [.int 116, .int 121, .int 0, .int 0, .int 0]) (rest := [.long (v1 * 1024)]) X E ms_X12_278 (c_X12_pack S 116 121 0 0 0) rfl (ta0) rfl rfl (Nat.le_of_ble_eq_true rfl) (Nat.le_of_ble_eq_true rfl) (Nat.le_of_ble_eq_true rfl) (dk okd_X12_partName 3 rfl) (st' := fun v2 => [.long v2, .long (v1 * 1024)]) (fun _ => rfl) (fun v2 => ?_)
    refine s_run X ok_X12_partName 12 1 (pc' := 68) (vs' := [some (.int p0)]) (st' := [.long ((v1 * 1024) + v2)]) rfl ?_
    exact s_lret X hr (dk okd_X12_partName 4 rfl) rfl rfl
  refine s_tabc (c := 1) (tgt := 69) X (dk okd_X12_partName 0 rfl) (by decide) (by decide) rfl (by decide) ?_ (fun n1 => ?_)
  · refine s_run X ok_X12_partName 13 5 (pc' := 76) (vs' := [some (.int p0)]) (st' := [.int 0, .int 0, .int 0, .int 100, .int 97]) rfl ?_
    refine s_callS (As := [.int 97, .int 100, .int 0, .int 0, .int 0]) (rest := []) X E ms_X12_278 (c_X12_pack S 97 100 0 0 0) rfl (ta0) rfl rfl (Nat.le_of_ble_eq_true rfl) (Nat.le_of_ble_eq_true rfl) (Nat.le_of_ble_eq_true rfl) (dk okd_X12_partName 5 rfl) (st' := fun v3 => [.long v3]) (fun _ => rfl) (fun v3 => ?_)
    exact s_lret X hr (dk okd_X12_partName 6 rfl) rfl rfl
  refine s_tabc (c := 2) (tgt := 80) X (dk okd_X12_partName 0 rfl) (by decide) (by decide) rfl (by decide) ?_ (fun n2 => ?_)
  · refine s_run X ok_X12_partName 18 5 (pc' := 90) (vs' := [some (.int p0)]) (st' := [.int 114, .int 101, .int 116, .int 110, .int 105]) rfl ?_
    refine s_callS (As := [.int 105, .int 110, .int 116, .int 101, .int 114]) (rest := []) X E ms_X12_278 (c_X12_pack S 105 110 116 101 114) rfl (ta0) rfl rfl (Nat.le_of_ble_eq_true rfl) (Nat.le_of_ble_eq_true rfl) (Nat.le_of_ble_eq_true rfl) (dk okd_X12_partName 7 rfl) (st' := fun v4 => [.long v4]) (fun _ => rfl) (fun v4 => ?_)
    refine s_ldc2 X cl_X12_284 (dk okd_X12_partName 8 rfl) ?_
    refine s_run X ok_X12_partName 23 6 (pc' := 105) (vs' := [some (.int p0)]) (st' := [.int 0, .int 0, .int 116, .int 115, .int 101, .long (v4 * 32768)]) rfl ?_
    refine s_callS (As := [.int 101, .int 115, .int 116, .int 0, .int 0]) (rest := [.long (v4 * 32768)]) X E ms_X12_278 (c_X12_pack S 101 115 116 0 0) rfl (ta0) rfl rfl (Nat.le_of_ble_eq_true rfl) (Nat.le_of_ble_eq_true rfl) (Nat.le_of_ble_eq_true rfl) (dk okd_X12_partName 9 rfl) (st' := fun v5 => [.long v5, .long (v4 * 32768)]) (fun _ => rfl) (fun v5 => ?_)
    refine s_run X ok_X12_partName 29 1 (pc' := 109) (vs' := [some (.int p0)]) (st' := [.long ((v4 * 32768) + v5)]) rfl ?_
    exact s_lret X hr (dk okd_X12_partName 10 rfl) rfl rfl
  refine s_tabc (c := 3) (tgt := 110) X (dk okd_X12_partName 0 rfl) (by decide) (by decide) rfl (by decide) ?_ (fun n3 => ?_)
  · refine s_run X ok_X12_partName 30 5 (pc' := 119) (vs' := [some (.int p0)]) (st' := [.int 0, .int 100, .int 105, .int 97, .int 112]) rfl ?_
    refine s_callS (As := [.int 112, .int 97, .int 105, .int 100, .int 0]) (rest := []) X E ms_X12_278 (c_X12_pack S 112 97 105 100 0) rfl (ta0) rfl rfl (Nat.le_of_ble_eq_true rfl) (Nat.le_of_ble_eq_true rfl) (Nat.le_of_ble_eq_true rfl) (dk okd_X12_partName 11 rfl) (st' := fun v6 => [.long v6]) (fun _ => rfl) (fun v6 => ?_)
    exact s_lret X hr (dk okd_X12_partName 12 rfl) rfl rfl
  refine s_tabc (c := 4) (tgt := 123) X (dk okd_X12_partName 0 rfl) (by decide) (by decide) rfl (by decide) ?_ (fun n4 => ?_)
  · refine s_run X ok_X12_partName 35 5 (pc' := 133) (vs' := [some (.int p0)]) (st' := [.int 105, .int 101, .int 99, .int 101, .int 114]) rfl ?_
    refine s_callS (As := [.int 114, .int 101, .int 99, .int 101, .int 105]) (rest := []) X E ms_X12_278 (c_X12_pack S 114 101 99 101 105) rfl (ta0) rfl rfl (Nat.le_of_ble_eq_true rfl) (Nat.le_of_ble_eq_true rfl) (Nat.le_of_ble_eq_true rfl) (dk okd_X12_partName 13 rfl) (st' := fun v7 => [.long v7]) (fun _ => rfl) (fun v7 => ?_)
    refine s_ldc2 X cl_X12_284 (dk okd_X12_partName 14 rfl) ?_
    refine s_run X ok_X12_partName 40 6 (pc' := 148) (vs' := [some (.int p0)]) (st' := [.int 0, .int 0, .int 100, .int 101, .int 118, .long (v7 * 32768)]) rfl ?_
    refine s_callS (As := [.int 118, .int 101, .int 100, .int 0, .int 0]) (rest := [.long (v7 * 32768)]) X E ms_X12_278 (c_X12_pack S 118 101 100 0 0) rfl (ta0) rfl rfl (Nat.le_of_ble_eq_true rfl) (Nat.le_of_ble_eq_true rfl) (Nat.le_of_ble_eq_true rfl) (dk okd_X12_partName 15 rfl) (st' := fun v8 => [.long v8, .long (v7 * 32768)]) (fun _ => rfl) (fun v8 => ?_)
    refine s_run X ok_X12_partName 46 1 (pc' := 152) (vs' := [some (.int p0)]) (st' := [.long ((v7 * 32768) + v8)]) rfl ?_
    exact s_lret X hr (dk okd_X12_partName 16 rfl) rfl rfl
  refine s_tabc (c := 5) (tgt := 153) X (dk okd_X12_partName 0 rfl) (by decide) (by decide) rfl (by decide) ?_ (fun n5 => ?_)
  · refine s_run X ok_X12_partName 47 5 (pc' := 161) (vs' := [some (.int p0)]) (st' := [.int 0, .int 0, .int 101, .int 117, .int 100]) rfl ?_
    refine s_callS (As := [.int 100, .int 117, .int 101, .int 0, .int 0]) (rest := []) X E ms_X12_278 (c_X12_pack S 100 117 101 0 0) rfl (ta0) rfl rfl (Nat.le_of_ble_eq_true rfl) (Nat.le_of_ble_eq_true rfl) (Nat.le_of_ble_eq_true rfl) (dk okd_X12_partName 17 rfl) (st' := fun v9 => [.long v9]) (fun _ => rfl) (fun v9 => ?_)
    exact s_lret X hr (dk okd_X12_partName 18 rfl) rfl rfl
  refine s_tabd (tgt := 165) X (dk okd_X12_partName 0 rfl) (tabout (n := 6) (by decide) (fun j hj => match j, hj with | 0, _ => n0 | 1, _ => n1 | 2, _ => n2 | 3, _ => n3 | 4, _ => n4 | 5, _ => n5)) (by decide) ?_
  refine s_run X ok_X12_partName 52 5 (pc' := 175) (vs' := [some (.int p0)]) (st' := [.int 110, .int 97, .int 108, .int 97, .int 98]) rfl ?_
  refine s_callS (As := [.int 98, .int 97, .int 108, .int 97, .int 110]) (rest := []) X E ms_X12_278 (c_X12_pack S 98 97 108 97 110) rfl (ta0) rfl rfl (Nat.le_of_ble_eq_true rfl) (Nat.le_of_ble_eq_true rfl) (Nat.le_of_ble_eq_true rfl) (dk okd_X12_partName 19 rfl) (st' := fun v10 => [.long v10]) (fun _ => rfl) (fun v10 => ?_)
  refine s_ldc2 X cl_X12_282 (dk okd_X12_partName 20 rfl) ?_
  refine s_run X ok_X12_partName 57 6 (pc' := 189) (vs' := [some (.int p0)]) (st' := [.int 0, .int 0, .int 0, .int 101, .int 99, .long (v10 * 1024)]) rfl ?_
  refine s_callS (As := [.int 99, .int 101, .int 0, .int 0, .int 0]) (rest := [.long (v10 * 1024)]) X E ms_X12_278 (c_X12_pack S 99 101 0 0 0) rfl (ta0) rfl rfl (Nat.le_of_ble_eq_true rfl) (Nat.le_of_ble_eq_true rfl) (Nat.le_of_ble_eq_true rfl) (dk okd_X12_partName 21 rfl) (st' := fun v11 => [.long v11, .long (v10 * 1024)]) (fun _ => rfl) (fun v11 => ?_)
  refine s_run X ok_X12_partName 63 1 (pc' := 193) (vs' := [some (.int p0)]) (st' := [.long ((v10 * 1024) + v11)]) rfl ?_
  exact s_lret X hr (dk okd_X12_partName 22 rfl) rfl rfl
def tab_X12_formatInvoice : List En := [(0, 8, 0, 0), (1, 0, 0, 0), (5, 8, 0, 0), (6, 8, 0, 0), (7, 4, 1, 0), (14, 0, 0, 1), (15, 41, 19, 0), (18, 0, 0, 0), (19, 0, 0, 1), (26, 8, 0, 0), (27, 8, 0, 0), (28, 4, 2, 0), (35, 0, 0, 1), (36, 41, 40, 0), (39, 0, 0, 0), (40, 0, 0, 2), (47, 0, 0, 0), (49, 8, 0, 0), (50, 0, 0, 0), (54, 0, 0, 0), (55, 10, 3, 0), (56, 4, 3, 0), (57, 1, 0, 7), (62, 4, 3, 0), (66, 8, 0, 0), (67, 1, 0, 32), (72, 8, 0, 0), (73, 4, 3, 0), (80, 8, 0, 0), (81, 8, 0, 0), (85, 8, 0, 0), (86, 4, 1, 0), (87, 4, 2, 0), (91, 4, 3, 0), (92, 17, 0, 0), (97, 16, 3, 1), (100, 41, 56, 0), (103, 8, 0, 0)]
theorem ok_X12_formatInvoice : tab_X12_formatInvoice.all (okE cX12_formatInvoice) = true := by decide +kernel
def ed_X12_formatInvoice : List (Nat × Instr × Nat) := [(2, .putfield 50, 3), (8, .invokevirtual 85, 3), (11, .ifCond .ne 7, 3), (20, .invokevirtual 81, 3), (23, .ifCond .ne 24, 3), (29, .invokevirtual 207, 3), (32, .ifCond .ne 7, 3), (41, .invokevirtual 81, 3), (44, .ifCond .eq 5, 3), (48, .ireturn, 1), (51, .putfield 266, 3), (59, .if_icmp .ge 44, 3), (63, .ifCond .le 9, 3), (69, .invokevirtual 271, 3), (74, .invokestatic 286, 3), (77, .invokevirtual 289, 3), (82, .getfield 9, 3), (88, .invokevirtual 231, 3), (93, .laload, 1), (94, .invokevirtual 293, 3), (104, .getfield 266, 3), (107, .ireturn, 1)]
theorem okd_X12_formatInvoice : ed_X12_formatInvoice.all (okD cX12_formatInvoice) = true := by decide +kernel
def f_X12_formatInvoice (S : St) (p0 : Nat) (p1 : Int32) (p2 : Int32) : Option (Int32 × St) := lt (uI S p0 2 0) fun (S1 : St) => cl (f_X12_isFranchisee S1 p0 p1) fun (v2 : Int32) => jn (κ := Int32 → Option (Int32 × St)) (fun x3 => cl (f_X12_throwsIf S1 p0 x3 1) fun (o6 : Int32 × St) => if o6.1 = 0 then (cl (f_X12_isClosed o6.2 p0 p2) fun (v7 : Int32) => jn (κ := Int32 → Option (Int32 × St)) (fun x8 => cl (f_X12_throwsIf o6.2 p0 x8 2) fun (o11 : Int32 × St) => if o11.1 = 0 then (lt (uI o11.2 p0 7 0) fun (S12 : St) => jn (κ := St → Option (Int32 × St)) (fun S13 => lt (gI S13 p0 7) fun (v16 : Int32) => some (v16, S13)) fun k14 => lp (κ := Int32 → St → Option (Int32 × St)) (fun _ _ => none) (fun k19 x17 S18 => if 7 ≤ x17 then (k14 S18) else (jn (κ := St → Option (Int32 × St)) (fun S21 => cl (f_X12_partName S21 x17) fun (v24 : Int64) => cl (f_X12_appendWord S21 p0 v24) fun (S25 : St) => lt (gR S25 p0 0) fun (a26 : Nat) => cl (f_X12_invoiceRow S25 p0 p1 p2) fun (v28 : Int32) => ldJ S25 a26 (v28 + x17) fun (v29 : Int64) => cl (f_X12_appendAmount S25 p0 v29) fun (S30 : St) => k19 (x17 + 1) S30) fun k22 => if x17 ≤ 0 then (k22 S18) else (cl (f_X12_append S18 p0 32) fun (S31 : St) => k22 S31))) FU 0 S12) else (some (0, o11.2))) fun k9 => if v7 = 0 then (k9 1) else (k9 0)) else (some (0, o6.2))) fun k4 => if v2 = 0 then (k4 1) else (k4 0)
set_option maxHeartbeats 4000000 in
set_option maxRecDepth 100000 in
theorem c_X12_formatInvoice (S : St) (p0 : Nat) (p1 : Int32) (p2 : Int32) : Ct yX12_formatInvoice cX12_formatInvoice 4 (some .int) 2 47 (fun _ => [.ref p0, .int p1, .int p2]) [(p0, 11)] S (f_X12_formatInvoice S p0 p1 p2) oIS sS := by
  refine Ct_of RX12 rfl (by decide) (fun _ => Nat.le_of_ble_eq_true rfl) 1 (vs := fun _ => [some (.ref p0), some (.int p1), some (.int p2), none]) (fun _ => rfl) (fun C X E hr ht => ?_)
  have t0_ : tT C p0 11 := ht (p0, 11) (by simp)
  show Jd C 4 (QJ C oIS sS) S 0 [some (.ref p0), some (.int p1), some (.int p2), none] [] (f_X12_formatInvoice S p0 p1 p2)
  unfold f_X12_formatInvoice
  refine s_run X ok_X12_formatInvoice 0 2 (pc' := 2) (vs' := [some (.ref p0), some (.int p1), some (.int p2), none]) (st' := [.int 0, .ref p0]) rfl ?_
  refine s_putI X fp_X12_50 t0_ (dk okd_X12_formatInvoice 0 rfl) (fun S1 => ?_)
  refine s_run X ok_X12_formatInvoice 2 3 (pc' := 8) (vs' := [some (.ref p0), some (.int p1), some (.int p2), none]) (st' := [.int p1, .ref p0, .ref p0]) rfl ?_
  refine s_callV (b := p0) (As := [.int p1]) (rest := [.ref p0]) X E mv_X12_85 (c_X12_isFranchisee S1 p0 p1) rfl (ta1 t0_) rfl (by decide) t0_ rfl rfl (Nat.le_of_ble_eq_true rfl) (Nat.le_of_ble_eq_true rfl) (Nat.le_of_ble_eq_true rfl) (dk okd_X12_formatInvoice 1 rfl) (st' := fun v2 => [.int v2, .ref p0]) (fun _ => rfl) (fun v2 => ?_)
  refine s_jn (κ := Int32 → Option (Int32 × St)) (fun k4 => ∀ (x3 : Int32), Jd C 4 (QJ C oIS sS) S1 19 [some (.ref p0), some (.int p1), some (.int p2), none] [.int x3, .ref p0] (k4 x3)) (fun x3 => ?_) (fun k4 h5 => ?_)
  · refine s_run X ok_X12_formatInvoice 8 1 (pc' := 20) (vs' := [some (.ref p0), some (.int p1), some (.int p2), none]) (st' := [.int 1, .int x3, .ref p0]) rfl ?_
    refine s_callV (b := p0) (As := [.int x3, .int 1]) (rest := []) X E mv_X12_81 (c_X12_throwsIf S1 p0 x3 1) rfl (ta1 t0_) rfl (by decide) t0_ rfl rfl (Nat.le_of_ble_eq_true rfl) (Nat.le_of_ble_eq_true rfl) (Nat.le_of_ble_eq_true rfl) (dk okd_X12_formatInvoice 3 rfl) (st' := fun o6 => [.int o6.1]) (fun _ => rfl) (fun o6 => ?_)
    refine s_if_ne (tgt := 47) X (dk okd_X12_formatInvoice 4 rfl) (by decide) ?_ ?_
    · refine s_run X ok_X12_formatInvoice 16 1 (pc' := 48) (vs' := [some (.ref p0), some (.int p1), some (.int p2), none]) (st' := [.int 0]) rfl ?_
      exact s_iret X hr (dk okd_X12_formatInvoice 9 rfl) rfl rfl
    · refine s_run X ok_X12_formatInvoice 9 3 (pc' := 29) (vs' := [some (.ref p0), some (.int p1), some (.int p2), none]) (st' := [.int p2, .ref p0, .ref p0]) rfl ?_
      refine s_callV (b := p0) (As := [.int p2]) (rest := [.ref p0]) X E mv_X12_207 (c_X12_isClosed o6.2 p0 p2) rfl (ta1 t0_) rfl (by decide) t0_ rfl rfl (Nat.le_of_ble_eq_true rfl) (Nat.le_of_ble_eq_true rfl) (Nat.le_of_ble_eq_true rfl) (dk okd_X12_formatInvoice 5 rfl) (st' := fun v7 => [.int v7, .ref p0]) (fun _ => rfl) (fun v7 => ?_)
      refine s_jn (κ := Int32 → Option (Int32 × St)) (fun k9 => ∀ (x8 : Int32), Jd C 4 (QJ C oIS sS) o6.2 40 [some (.ref p0), some (.int p1), some (.int p2), none] [.int x8, .ref p0] (k9 x8)) (fun x8 => ?_) (fun k9 h10 => ?_)
      · refine s_run X ok_X12_formatInvoice 15 1 (pc' := 41) (vs' := [some (.ref p0), some (.int p1), some (.int p2), none]) (st' := [.int 2, .int x8, .ref p0]) rfl ?_
        refine s_callV (b := p0) (As := [.int x8, .int 2]) (rest := []) X E mv_X12_81 (c_X12_throwsIf o6.2 p0 x8 2) rfl (ta1 t0_) rfl (by decide) t0_ rfl rfl (Nat.le_of_ble_eq_true rfl) (Nat.le_of_ble_eq_true rfl) (Nat.le_of_ble_eq_true rfl) (dk okd_X12_formatInvoice 7 rfl) (st' := fun o11 => [.int o11.1]) (fun _ => rfl) (fun o11 => ?_)
        refine s_if_eq (tgt := 49) X (dk okd_X12_formatInvoice 8 rfl) (by decide) ?_ ?_
        · refine s_run X ok_X12_formatInvoice 17 2 (pc' := 51) (vs' := [some (.ref p0), some (.int p1), some (.int p2), none]) (st' := [.int 0, .ref p0]) rfl ?_
          refine s_putI X fp_X12_266 t0_ (dk okd_X12_formatInvoice 10 rfl) (fun S12 => ?_)
          refine s_run X ok_X12_formatInvoice 19 2 (pc' := 56) (vs' := [some (.ref p0), some (.int p1), some (.int p2), some (.int 0)]) (st' := []) rfl ?_
          refine s_jn (κ := St → Option (Int32 × St)) (fun k14 => ∀ (S13 : St), Jd C 4 (QJ C oIS sS) S13 103 [some (.ref p0), none, none, none] [] (k14 S13)) (fun S13 => ?_) (fun k14 h15 => ?_)
          · refine s_run X ok_X12_formatInvoice 37 1 (pc' := 104) (vs' := [some (.ref p0), none, none, none]) (st' := [.ref p0]) rfl ?_
            refine s_getI X fl_X12_266 t0_ (dk okd_X12_formatInvoice 20 rfl) (fun v16 => ?_)
            exact s_iret X hr (dk okd_X12_formatInvoice 21 rfl) rfl rfl
          · refine s_lp (κ := Int32 → St → Option (Int32 × St)) (fun k19 => ∀ (x17 : Int32) (S18 : St), Jd C 4 (QJ C oIS sS) S18 56 [some (.ref p0), some (.int p1), some (.int p2), some (.int x17)] [] (k19 x17 S18)) (fun _ _ => s_none) (fun k19 h20 x17 S18 => ?_) FU 0 S12
            refine s_run X ok_X12_formatInvoice 21 2 (pc' := 59) (vs' := [some (.ref p0), some (.int p1), some (.int p2), some (.int x17)]) (st' := [.int 7, .int x17]) rfl ?_
            refine s_icmp_ge (tgt := 103) X (dk okd_X12_formatInvoice 11 rfl) (by decide) ?_ ?_
            · exact s_less [true, false, false, false] rfl (h15 S18)
            · refine s_run X ok_X12_formatInvoice 23 1 (pc' := 63) (vs' := [some (.ref p0), some (.int p1), some (.int p2), some (.int x17)]) (st' := [.int x17]) rfl ?_
              refine s_jn (κ := St → Option (Int32 × St)) (fun k22 => ∀ (S21 : St), Jd C 4 (QJ C oIS sS) S21 72 [some (.ref p0), some (.int p1), some (.int p2), some (.int x17)] [] (k22 S21)) (fun S21 => ?_) (fun k22 h23 => ?_)
              · refine s_run X ok_X12_formatInvoice 26 2 (pc' := 74) (vs' := [some (.ref p0), some (.int p1), some (.int p2), some (.int x17)]) (st' := [.int x17, .ref p0]) rfl ?_
                refine s_callS (As := [.int x17]) (rest := [.ref p0]) X E ms_X12_286 (c_X12_partName S21 x17) rfl (ta0) rfl rfl (Nat.le_of_ble_eq_true rfl) (Nat.le_of_ble_eq_true rfl) (Nat.le_of_ble_eq_true rfl) (dk okd_X12_formatInvoice 14 rfl) (st' := fun v24 => [.long v24, .ref p0]) (fun _ => rfl) (fun v24 => ?_)
                refine s_callV (b := p0) (As := [.long v24]) (rest := []) X E mv_X12_289 (c_X12_appendWord S21 p0 v24) rfl (ta1 t0_) rfl (by decide) t0_ rfl rfl (Nat.le_of_ble_eq_true rfl) (Nat.le_of_ble_eq_true rfl) (Nat.le_of_ble_eq_true rfl) (dk okd_X12_formatInvoice 15 rfl) (st' := fun S25 => []) (fun _ => rfl) (fun S25 => ?_)
                refine s_run X ok_X12_formatInvoice 28 2 (pc' := 82) (vs' := [some (.ref p0), some (.int p1), some (.int p2), some (.int x17)]) (st' := [.ref p0, .ref p0]) rfl ?_
                refine s_getR X fl_X12_9 t0_ (dk okd_X12_formatInvoice 16 rfl) (fun a26 (t27 : tT C a26 14) => ?_)
                refine s_run X ok_X12_formatInvoice 30 3 (pc' := 88) (vs' := [some (.ref p0), some (.int p1), some (.int p2), some (.int x17)]) (st' := [.int p2, .int p1, .ref p0, .ref a26, .ref p0]) rfl ?_
                refine s_callV (b := p0) (As := [.int p1, .int p2]) (rest := [.ref a26, .ref p0]) X E mv_X12_231 (c_X12_invoiceRow S25 p0 p1 p2) rfl (ta1 t0_) rfl (by decide) t0_ rfl rfl (Nat.le_of_ble_eq_true rfl) (Nat.le_of_ble_eq_true rfl) (Nat.le_of_ble_eq_true rfl) (dk okd_X12_formatInvoice 17 rfl) (st' := fun v28 => [.int v28, .ref a26, .ref p0]) (fun _ => rfl) (fun v28 => ?_)
                refine s_run X ok_X12_formatInvoice 33 2 (pc' := 93) (vs' := [some (.ref p0), some (.int p1), some (.int p2), some (.int x17)]) (st' := [.int (v28 + x17), .ref a26, .ref p0]) rfl ?_
                refine s_lald X t27 (dk okd_X12_formatInvoice 18 rfl) (fun v29 => ?_)
                refine s_callV (b := p0) (As := [.long v29]) (rest := []) X E mv_X12_293 (c_X12_appendAmount S25 p0 v29) rfl (ta1 t0_) rfl (by decide) t0_ rfl rfl (Nat.le_of_ble_eq_true rfl) (Nat.le_of_ble_eq_true rfl) (Nat.le_of_ble_eq_true rfl) (dk okd_X12_formatInvoice 19 rfl) (st' := fun S30 => []) (fun _ => rfl) (fun S30 => ?_)
                refine s_run X ok_X12_formatInvoice 35 2 (pc' := 56) (vs' := [some (.ref p0), some (.int p1), some (.int p2), some (.int (x17 + 1))]) (st' := []) rfl ?_
                exact h20 (x17 + 1) S30
              · refine s_if_le (tgt := 72) X (dk okd_X12_formatInvoice 12 rfl) (by decide) ?_ ?_
                · exact h23 S18
                · refine s_run X ok_X12_formatInvoice 24 2 (pc' := 69) (vs' := [some (.ref p0), some (.int p1), some (.int p2), some (.int x17)]) (st' := [.int 32, .ref p0]) rfl ?_
                  refine s_callV (b := p0) (As := [.int 32]) (rest := []) X E mv_X12_271 (c_X12_append S18 p0 32) rfl (ta1 t0_) rfl (by decide) t0_ rfl rfl (Nat.le_of_ble_eq_true rfl) (Nat.le_of_ble_eq_true rfl) (Nat.le_of_ble_eq_true rfl) (dk okd_X12_formatInvoice 13 rfl) (st' := fun S31 => []) (fun _ => rfl) (fun S31 => ?_)
                  exact h23 S31
        · refine s_run X ok_X12_formatInvoice 16 1 (pc' := 48) (vs' := [some (.ref p0), some (.int p1), some (.int p2), none]) (st' := [.int 0]) rfl ?_
          exact s_iret X hr (dk okd_X12_formatInvoice 9 rfl) rfl rfl
      · refine s_if_ne (tgt := 39) X (dk okd_X12_formatInvoice 6 rfl) (by decide) ?_ ?_
        · refine s_run X ok_X12_formatInvoice 14 1 (pc' := 40) (vs' := [some (.ref p0), some (.int p1), some (.int p2), none]) (st' := [.int 0, .ref p0]) rfl ?_
          exact h10 0
        · refine s_run X ok_X12_formatInvoice 12 2 (pc' := 40) (vs' := [some (.ref p0), some (.int p1), some (.int p2), none]) (st' := [.int 1, .ref p0]) rfl ?_
          exact h10 1
  · refine s_if_ne (tgt := 18) X (dk okd_X12_formatInvoice 2 rfl) (by decide) ?_ ?_
    · refine s_run X ok_X12_formatInvoice 7 1 (pc' := 19) (vs' := [some (.ref p0), some (.int p1), some (.int p2), none]) (st' := [.int 0, .ref p0]) rfl ?_
      exact h5 0
    · refine s_run X ok_X12_formatInvoice 5 2 (pc' := 19) (vs' := [some (.ref p0), some (.int p1), some (.int p2), none]) (st' := [.int 1, .ref p0]) rfl ?_
      exact h5 1
def tab_J0_length_8abf5 : List En := [(0, 8, 0, 0), (5, 8, 0, 0), (9, 30, 0, 0)]
theorem ok_J0_length_8abf5 : tab_J0_length_8abf5.all (okE cJ0_length_8abf5) = true := by decide +kernel
def ed_J0_length_8abf5 : List (Nat × Instr × Nat) := [(1, .getfield 9, 3), (4, .arraylength, 1), (6, .invokevirtual 335, 3), (10, .ireturn, 1)]
theorem okd_J0_length_8abf5 : ed_J0_length_8abf5.all (okD cJ0_length_8abf5) = true := by decide +kernel
def f_J0_length_8abf5 (S : St) (p0 : Nat) : Option (Int32) := tk p0 <| tk p0 <| lt (slen p0) fun (v1 : Int32) => tk p0 <| cl (f_J0_coder_7d493 S p0) fun (v2 : Int32) => some (v1 >>> (v2 &&& 31))
set_option maxHeartbeats 4000000 in
set_option maxRecDepth 100000 in
theorem c_J0_length_8abf5 (S : St) (p0 : Nat) : Ct yJ0_length_8abf5 cJ0_length_8abf5 1 (some .int) 1 20 (fun cy => [.ref (cy (100 + 2 * p0))]) [] S (f_J0_length_8abf5 S p0) oI (fun _ => S) := by
  refine Ct_of RJ0 rfl (by decide) (fun _ => Nat.le_of_ble_eq_true rfl) 0 (vs := fun cy => [some (.ref (cy (100 + 2 * p0)))]) (fun _ => rfl) (fun C X E hr ht => ?_)
  show Jd C 1 (QJ C oI (fun _ => S)) S 0 [some (.ref (cS C p0))] [] (f_J0_length_8abf5 S p0)
  unfold f_J0_length_8abf5
  refine s_run X ok_J0_length_8abf5 0 1 (pc' := 1) (vs' := [some (.ref (cS C p0))]) (st' := [.ref (cS C p0)]) rfl ?_
  refine s_sval X E sl_J0_9 (dk okd_J0_length_8abf5 0 rfl) ?_
  refine s_salen X E (dk okd_J0_length_8abf5 1 rfl) (fun v1 => ?_)
  refine s_run X ok_J0_length_8abf5 1 1 (pc' := 6) (vs' := [some (.ref (cS C p0))]) (st' := [.ref (cS C p0), .int v1]) rfl ?_
  refine s_callT (i := p0) (As := []) (rest := [.int v1]) X E mv_J0_335 (c_J0_coder_7d493 S p0) rfl (ta0) rfl rfl rfl (Nat.le_of_ble_eq_true rfl) (Nat.le_of_ble_eq_true rfl) (Nat.le_of_ble_eq_true rfl) (dk okd_J0_length_8abf5 2 rfl) (st' := fun v2 => [.int v2, .int v1]) (fun _ => rfl) (fun v2 => ?_)
  refine s_run X ok_J0_length_8abf5 2 1 (pc' := 10) (vs' := [some (.ref (cS C p0))]) (st' := [.int (v1 >>> (v2 &&& 31))]) rfl ?_
  exact s_iret X hr (dk okd_J0_length_8abf5 3 rfl) rfl rfl
def tab_J0_checkIndex_df160 : List En := [(0, 4, 0, 0), (1, 4, 1, 0), (8, 38, 0, 0)]
theorem ok_J0_checkIndex_df160 : tab_J0_checkIndex_df160.all (okE cJ0_checkIndex_df160) = true := by decide +kernel
def ed_J0_checkIndex_df160 : List (Nat × Instr × Nat) := [(2, .getstatic 1053, 3), (5, .invokestatic 1059, 3), (9, .return_, 1)]
theorem okd_J0_checkIndex_df160 : ed_J0_checkIndex_df160.all (okD cJ0_checkIndex_df160) = true := by decide +kernel
def f_J0_checkIndex_df160 (S : St) (p0 : Int32) (p1 : Int32) : Option (Unit) := cl (f_J3_checkIndex_8e157 S p0 p1) fun (v3 : Int32) => some ()
set_option maxHeartbeats 4000000 in
set_option maxRecDepth 100000 in
theorem c_J0_checkIndex_df160 (S : St) (p0 : Int32) (p1 : Int32) : Ct yJ0_checkIndex_df160 cJ0_checkIndex_df160 2 none 1 22 (fun _ => [.int p0, .int p1]) [] S (f_J0_checkIndex_df160 S p0 p1) oU (fun _ => S) := by
  refine Ct_of RJ0 rfl (by decide) (fun _ => Nat.le_of_ble_eq_true rfl) 0 (vs := fun _ => [some (.int p0), some (.int p1)]) (fun _ => rfl) (fun C X E hr ht => ?_)
  show Jd C 2 (QJ C oU (fun _ => S)) S 0 [some (.int p0), some (.int p1)] [] (f_J0_checkIndex_df160 S p0 p1)
  unfold f_J0_checkIndex_df160
  refine s_run X ok_J0_checkIndex_df160 0 2 (pc' := 2) (vs' := [some (.int p0), some (.int p1)]) (st' := [.int p1, .int p0]) rfl ?_
  refine s_gsio X E so_J0_1053 (dk okd_J0_checkIndex_df160 0 rfl) (fun w1 h2 => ?_)
  refine s_callS (As := [.int p0, .int p1, w1]) (rest := []) X E ms_J0_1059 (c_J3_checkIndex_8e157 S p0 p1 w1 h2) rfl (ta0) rfl rfl (Nat.le_of_ble_eq_true rfl) (Nat.le_of_ble_eq_true rfl) (Nat.le_of_ble_eq_true rfl) (dk okd_J0_checkIndex_df160 1 rfl) (st' := fun v3 => [.int v3]) (fun _ => rfl) (fun v3 => ?_)
  refine s_run X ok_J0_checkIndex_df160 2 1 (pc' := 9) (vs' := [some (.int p0), some (.int p1)]) (st' := []) rfl ?_
  exact s_vret X hr (dk okd_J0_checkIndex_df160 2 rfl) rfl rfl
def tab_J1_charAt_3b067 : List En := [(0, 4, 1, 0), (1, 8, 0, 0), (6, 8, 0, 0), (7, 4, 1, 0), (9, 2, 0, 255), (12, 20, 0, 0)]
theorem ok_J1_charAt_3b067 : tab_J1_charAt_3b067.all (okE cJ1_charAt_3b067) = true := by decide +kernel
def ed_J1_charAt_3b067 : List (Nat × Instr × Nat) := [(2, .arraylength, 1), (3, .invokestatic 9, 3), (8, .baload, 1), (13, .i2c, 1), (14, .ireturn, 1)]
theorem okd_J1_charAt_3b067 : ed_J1_charAt_3b067.all (okD cJ1_charAt_3b067) = true := by decide +kernel
def f_J1_charAt_3b067 (S : St) (p0 : Nat) (p1 : Int32) : Option (Int32) := tk p0 <| lt (slen p0) fun (v1 : Int32) => cl (f_J0_checkIndex_df160 S p1 v1) fun (u2 : Unit) => sld p0 p1 fun (v3 : Int32) => lt (((Int32.toUInt32 (v3 &&& 255)) % 65536).toInt32) fun (v4 : Int32) => nrw .char v4 (some v4)
set_option maxHeartbeats 4000000 in
set_option maxRecDepth 100000 in
theorem c_J1_charAt_3b067 (S : St) (p0 : Nat) (p1 : Int32) : Ct yJ1_charAt_3b067 cJ1_charAt_3b067 2 (some .char) 2 43 (fun cy => [.ref (cy (101 + 2 * p0)), .int p1]) [] S (f_J1_charAt_3b067 S p0 p1) oI (fun _ => S) := by
  refine Ct_of RJ1 rfl (by decide) (fun _ => Nat.le_of_ble_eq_true rfl) 0 (vs := fun cy => [some (.ref (cy (101 + 2 * p0))), some (.int p1)]) (fun _ => rfl) (fun C X E hr ht => ?_)
  show Jd C 2 (QJ C oI (fun _ => S)) S 0 [some (.ref (cV C p0)), some (.int p1)] [] (f_J1_charAt_3b067 S p0 p1)
  unfold f_J1_charAt_3b067
  refine s_run X ok_J1_charAt_3b067 0 2 (pc' := 2) (vs' := [some (.ref (cV C p0)), some (.int p1)]) (st' := [.ref (cV C p0), .int p1]) rfl ?_
  refine s_salen X E (dk okd_J1_charAt_3b067 0 rfl) (fun v1 => ?_)
  refine s_callS (As := [.int p1, .int v1]) (rest := []) X E ms_J1_9 (c_J0_checkIndex_df160 S p1 v1) rfl (ta0) rfl rfl (Nat.le_of_ble_eq_true rfl) (Nat.le_of_ble_eq_true rfl) (Nat.le_of_ble_eq_true rfl) (dk okd_J1_charAt_3b067 1 rfl) (st' := fun u2 => []) (fun _ => rfl) (fun u2 => ?_)
  refine s_run X ok_J1_charAt_3b067 2 2 (pc' := 8) (vs' := [some (.ref (cV C p0)), some (.int p1)]) (st' := [.int p1, .ref (cV C p0)]) rfl ?_
  refine s_sbald X E (dk okd_J1_charAt_3b067 2 rfl) (fun v3 => ?_)
  refine s_run X ok_J1_charAt_3b067 4 2 (pc' := 13) (vs' := [some (.ref (cV C p0)), some (.int p1)]) (st' := [.int (v3 &&& 255)]) rfl ?_
  refine s_i2c X (dk okd_J1_charAt_3b067 3 rfl) ?_
  refine s_nmI (fun v4 => ?_)
  exact s_nret X hr (dk okd_J1_charAt_3b067 4 rfl) rfl rfl
