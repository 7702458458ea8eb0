theorem cl_L_270 : Cond.constantLong RL 270 4294967295 ∈ TT := TT_10 (i := 199) rfl rfl
theorem mh_L_261 : MH RL 261 yL_coverage cL_coverage 5 [(0, 10, 13, 22), (0, 10, 17, 13)] 4 := ⟨TT_6 (i := 48) rfl rfl, TT_6 (i := 49) rfl rfl, TT_1 (i := 0) rfl rfl, TT_6 (i := 50) rfl rfl, ⟨by decide, by decide, by decide +kernel⟩⟩
theorem mh_L_264 : MH RL 264 yL_rivalCells cL_rivalCells 5 [(0, 10, 13, 22), (0, 10, 17, 13)] 4 := ⟨TT_6 (i := 59) rfl rfl, TT_6 (i := 60) rfl rfl, TT_1 (i := 0) rfl rfl, TT_6 (i := 61) rfl rfl, ⟨by decide, by decide, by decide +kernel⟩⟩
theorem mh_L_267 : MH RL 267 yL_halvingLine cL_halvingLine 4 [(0, 9, 12, 22)] 3 := ⟨TT_6 (i := 70) rfl rfl, TT_6 (i := 71) rfl rfl, TT_1 (i := 0) rfl rfl, TT_6 (i := 72) rfl rfl, ⟨by decide, by decide, by decide +kernel⟩⟩
theorem mh_L_272 : MH RL 272 yL_royalty cL_royalty 6 [(0, 10, 13, 22), (0, 10, 17, 13)] 4 := ⟨TT_6 (i := 85) rfl rfl, TT_6 (i := 86) rfl rfl, TT_1 (i := 0) rfl rfl, TT_6 (i := 87) rfl rfl, ⟨by decide, by decide, by decide +kernel⟩⟩
theorem mh_L_276 : MH RL 276 yL_planOf cL_planOf 4 [(0, 9, 12, 22)] 3 := ⟨TT_6 (i := 99) rfl rfl, TT_6 (i := 100) rfl rfl, TT_1 (i := 0) rfl rfl, TT_6 (i := 101) rfl rfl, ⟨by decide, by decide, by decide +kernel⟩⟩
theorem mh_L_279 : MH RL 279 yL_setPlan cL_setPlan 5 [(0, 10, 13, 22)] 4 := ⟨TT_6 (i := 106) rfl rfl, TT_6 (i := 107) rfl rfl, TT_1 (i := 0) rfl rfl, TT_6 (i := 108) rfl rfl, ⟨by decide, by decide, by decide +kernel⟩⟩
theorem mh_L_282 : MH RL 282 yL_cheapestPlan cL_cheapestPlan 4 [(0, 9, 12, 22)] 3 := ⟨TT_6 (i := 113) rfl rfl, TT_6 (i := 114) rfl rfl, TT_1 (i := 0) rfl rfl, TT_6 (i := 115) rfl rfl, ⟨by decide, by decide, by decide +kernel⟩⟩
theorem mh_L_285 : MH RL 285 yL_reportSales cL_reportSales 6 [(0, 10, 13, 22), (0, 10, 17, 13), (0, 10, 21, 79)] 4 := ⟨TT_6 (i := 128) rfl rfl, TT_6 (i := 129) rfl rfl, TT_1 (i := 0) rfl rfl, TT_6 (i := 130) rfl rfl, ⟨by decide, by decide, by decide +kernel⟩⟩
theorem mh_L_288 : MH RL 288 yL_deliver cL_deliver 8 [(0, 13, 16, 22), (0, 13, 20, 13), (0, 13, 24, 79)] 6 := ⟨TT_6 (i := 159) rfl rfl, TT_6 (i := 160) rfl rfl, TT_1 (i := 0) rfl rfl, TT_6 (i := 161) rfl rfl, ⟨by decide, by decide, by decide +kernel⟩⟩
theorem mh_L_292 : MH RL 292 yL_sales cL_sales 4 [(0, 8, 11, 22)] 3 := ⟨TT_6 (i := 167) rfl rfl, TT_6 (i := 168) rfl rfl, TT_1 (i := 0) rfl rfl, TT_6 (i := 169) rfl rfl, ⟨by decide, by decide, by decide +kernel⟩⟩
theorem mh_L_295 : MH RL 295 yL_salesOf cL_salesOf 5 [(0, 9, 12, 22), (0, 9, 16, 13)] 4 := ⟨TT_6 (i := 174) rfl rfl, TT_6 (i := 175) rfl rfl, TT_1 (i := 0) rfl rfl, TT_6 (i := 176) rfl rfl, ⟨by decide, by decide, by decide +kernel⟩⟩
theorem mh_L_302 : MH RL 302 yL_creditDue cL_creditDue 5 [(0, 9, 12, 22)] 4 := ⟨TT_6 (i := 187) rfl rfl, TT_6 (i := 188) rfl rfl, TT_1 (i := 0) rfl rfl, TT_6 (i := 189) rfl rfl, ⟨by decide, by decide, by decide +kernel⟩⟩
theorem mh_L_305 : MH RL 305 yL_closeMonth cL_closeMonth 3 [(0, 8, 11, 79)] 2 := ⟨TT_6 (i := 195) rfl rfl, TT_6 (i := 196) rfl rfl, TT_1 (i := 0) rfl rfl, TT_6 (i := 197) rfl rfl, ⟨by decide, by decide, by decide +kernel⟩⟩
theorem mh_L_309 : MH RL 309 yL_invoice cL_invoice 6 [(0, 11, 14, 22), (0, 11, 18, 13)] 5 := ⟨TT_6 (i := 203) rfl rfl, TT_6 (i := 204) rfl rfl, TT_1 (i := 0) rfl rfl, TT_6 (i := 205) rfl rfl, ⟨by decide, by decide, by decide +kernel⟩⟩
theorem mh_L_312 : MH RL 312 yL_predictDue cL_predictDue 5 [(0, 9, 12, 22), (0, 9, 16, 13)] 4 := ⟨TT_6 (i := 214) rfl rfl, TT_6 (i := 215) rfl rfl, TT_1 (i := 0) rfl rfl, TT_6 (i := 216) rfl rfl, ⟨by decide, by decide, by decide +kernel⟩⟩
theorem mh_L_315 : MH RL 315 yL_balance cL_balance 4 [(0, 8, 11, 22)] 3 := ⟨TT_6 (i := 223) rfl rfl, TT_6 (i := 224) rfl rfl, TT_1 (i := 0) rfl rfl, TT_6 (i := 225) rfl rfl, ⟨by decide, by decide, by decide +kernel⟩⟩
theorem mh_L_323 : MH RL 323 yL_pay cL_pay 6 [(0, 10, 13, 22), (0, 10, 17, 13)] 4 := ⟨TT_6 (i := 230) rfl rfl, TT_6 (i := 231) rfl rfl, TT_1 (i := 0) rfl rfl, TT_6 (i := 232) rfl rfl, ⟨by decide, by decide, by decide +kernel⟩⟩
theorem mh_L_326 : MH RL 326 yL_monthsOverdue cL_monthsOverdue 4 [(0, 9, 12, 22)] 3 := ⟨TT_7 (i := 1) rfl rfl, TT_7 (i := 2) rfl rfl, TT_1 (i := 0) rfl rfl, TT_7 (i := 3) rfl rfl, ⟨by decide, by decide, by decide +kernel⟩⟩
theorem mh_L_329 : MH RL 329 yL_payOff cL_payOff 6 [(0, 11, 14, 22), (0, 11, 18, 13)] 4 := ⟨TT_7 (i := 8) rfl rfl, TT_7 (i := 9) rfl rfl, TT_1 (i := 0) rfl rfl, TT_7 (i := 10) rfl rfl, ⟨by decide, by decide, by decide +kernel⟩⟩
theorem mv_L_263 : MV RL 263 yX12_coverage cX12_coverage 5 (some .int) 2 := ⟨TT_8 (i := 214) rfl rfl, TT_8 (i := 215) rfl rfl, TT_8 (i := 216) rfl rfl, TT_1 (i := 13) rfl rfl, TT_8 (i := 217) rfl rfl, ⟨by decide, by decide, by decide +kernel⟩⟩
theorem mv_L_266 : MV RL 266 yX12_rivalCells cX12_rivalCells 7 (some .int) 2 := ⟨TT_8 (i := 219) rfl rfl, TT_8 (i := 220) rfl rfl, TT_8 (i := 221) rfl rfl, TT_1 (i := 13) rfl rfl, TT_8 (i := 222) rfl rfl, ⟨by decide, by decide, by decide +kernel⟩⟩
theorem mv_L_269 : MV RL 269 yX12_halvingLine cX12_halvingLine 8 (some .int) 1 := ⟨TT_8 (i := 223) rfl rfl, TT_8 (i := 224) rfl rfl, TT_8 (i := 225) rfl rfl, TT_1 (i := 13) rfl rfl, TT_8 (i := 226) rfl rfl, ⟨by decide, by decide, by decide +kernel⟩⟩
theorem mv_L_275 : MV RL 275 yX12_royalty cX12_royalty 4 (some .long) 2 := ⟨TT_8 (i := 231) rfl rfl, TT_8 (i := 232) rfl rfl, TT_8 (i := 233) rfl rfl, TT_1 (i := 13) rfl rfl, TT_8 (i := 234) rfl rfl, ⟨by decide, by decide, by decide +kernel⟩⟩
theorem mv_L_278 : MV RL 278 yX12_planOf cX12_planOf 2 (some .int) 1 := ⟨TT_9 (i := 13) rfl rfl, TT_9 (i := 14) rfl rfl, TT_9 (i := 15) rfl rfl, TT_1 (i := 13) rfl rfl, TT_9 (i := 16) rfl rfl, ⟨by decide, by decide, by decide +kernel⟩⟩
theorem mv_L_281 : MV RL 281 yX12_setPlan cX12_setPlan 4 (some .int) 2 := ⟨TT_9 (i := 21) rfl rfl, TT_9 (i := 22) rfl rfl, TT_9 (i := 23) rfl rfl, TT_1 (i := 13) rfl rfl, TT_9 (i := 24) rfl rfl, ⟨by decide, by decide, by decide +kernel⟩⟩
theorem mv_L_284 : MV RL 284 yX12_cheapestPlan cX12_cheapestPlan 6 (some .int) 1 := ⟨TT_9 (i := 29) rfl rfl, TT_9 (i := 30) rfl rfl, TT_9 (i := 31) rfl rfl, TT_1 (i := 13) rfl rfl, TT_9 (i := 32) rfl rfl, ⟨by decide, by decide, by decide +kernel⟩⟩
theorem mv_L_287 : MV RL 287 yX12_reportSales cX12_reportSales 6 (some .long) 2 := ⟨TT_9 (i := 44) rfl rfl, TT_9 (i := 45) rfl rfl, TT_9 (i := 46) rfl rfl, TT_1 (i := 13) rfl rfl, TT_9 (i := 47) rfl rfl, ⟨by decide, by decide, by decide +kernel⟩⟩
theorem mv_L_291 : MV RL 291 yX12_deliver cX12_deliver 8 (some .long) 4 := ⟨TT_9 (i := 54) rfl rfl, TT_9 (i := 55) rfl rfl, TT_9 (i := 56) rfl rfl, TT_1 (i := 13) rfl rfl, TT_9 (i := 57) rfl rfl, ⟨by decide, by decide, by decide +kernel⟩⟩
theorem mv_L_294 : MV RL 294 yX12_sales cX12_sales 2 (some .long) 1 := ⟨TT_9 (i := 59) rfl rfl, TT_9 (i := 60) rfl rfl, TT_9 (i := 61) rfl rfl, TT_1 (i := 13) rfl rfl, TT_9 (i := 62) rfl rfl, ⟨by decide, by decide, by decide +kernel⟩⟩
theorem mv_L_297 : MV RL 297 yX12_salesOf cX12_salesOf 3 (some .long) 2 := ⟨TT_9 (i := 63) rfl rfl, TT_9 (i := 64) rfl rfl, TT_9 (i := 65) rfl rfl, TT_1 (i := 13) rfl rfl, TT_9 (i := 66) rfl rfl, ⟨by decide, by decide, by decide +kernel⟩⟩
theorem mv_L_298 : MV RL 298 yX11_ranked cX11_ranked 2 (some .int) 1 := ⟨TT_4 (i := 35) rfl rfl, TT_4 (i := 36) rfl rfl, TT_4 (i := 37) rfl rfl, TT_1 (i := 1) rfl rfl, TT_4 (i := 38) rfl rfl, ⟨by decide, by decide, by decide +kernel⟩⟩
theorem mv_L_301 : MV RL 301 yX12_ranked cX12_ranked 7 (some .int) 1 := ⟨TT_9 (i := 75) rfl rfl, TT_9 (i := 76) rfl rfl, TT_9 (i := 77) rfl rfl, TT_1 (i := 13) rfl rfl, TT_9 (i := 78) rfl rfl, ⟨by decide, by decide, by decide +kernel⟩⟩
theorem mv_L_304 : MV RL 304 yX12_creditDue cX12_creditDue 3 (some .long) 2 := ⟨TT_9 (i := 83) rfl rfl, TT_9 (i := 84) rfl rfl, TT_9 (i := 85) rfl rfl, TT_1 (i := 13) rfl rfl, TT_9 (i := 86) rfl rfl, ⟨by decide, by decide, by decide +kernel⟩⟩
theorem mv_L_308 : MV RL 308 yX12_closeMonth cX12_closeMonth 8 (some .int) 0 := ⟨TT_9 (i := 91) rfl rfl, TT_9 (i := 92) rfl rfl, TT_9 (i := 93) rfl rfl, TT_1 (i := 13) rfl rfl, TT_9 (i := 94) rfl rfl, ⟨by decide, by decide, by decide +kernel⟩⟩
theorem mv_L_311 : MV RL 311 yX12_invoice cX12_invoice 4 (some .long) 3 := ⟨TT_9 (i := 117) rfl rfl, TT_9 (i := 118) rfl rfl, TT_9 (i := 119) rfl rfl, TT_1 (i := 13) rfl rfl, TT_9 (i := 120) rfl rfl, ⟨by decide, by decide, by decide +kernel⟩⟩
theorem mv_L_314 : MV RL 314 yX12_predictDue cX12_predictDue 3 (some .long) 2 := ⟨TT_9 (i := 122) rfl rfl, TT_9 (i := 123) rfl rfl, TT_9 (i := 124) rfl rfl, TT_1 (i := 13) rfl rfl, TT_9 (i := 125) rfl rfl, ⟨by decide, by decide, by decide +kernel⟩⟩
theorem mv_L_317 : MV RL 317 yX12_balance cX12_balance 2 (some .long) 1 := ⟨TT_9 (i := 127) rfl rfl, TT_9 (i := 128) rfl rfl, TT_9 (i := 129) rfl rfl, TT_1 (i := 13) rfl rfl, TT_9 (i := 130) rfl rfl, ⟨by decide, by decide, by decide +kernel⟩⟩
theorem mv_L_318 : MV RL 318 yX11_totalOwed cX11_totalOwed 1 (some .long) 0 := ⟨TT_4 (i := 58) rfl rfl, TT_4 (i := 59) rfl rfl, TT_4 (i := 60) rfl rfl, TT_1 (i := 1) rfl rfl, TT_4 (i := 61) rfl rfl, ⟨by decide, by decide, by decide +kernel⟩⟩
theorem mv_L_322 : MV RL 322 yX12_totalOwed cX12_totalOwed 4 (some .long) 0 := ⟨TT_9 (i := 131) rfl rfl, TT_9 (i := 132) rfl rfl, TT_9 (i := 133) rfl rfl, TT_1 (i := 13) rfl rfl, TT_9 (i := 134) rfl rfl, ⟨by decide, by decide, by decide +kernel⟩⟩
theorem mv_L_325 : MV RL 325 yX12_pay cX12_pay 4 (some .long) 2 := ⟨TT_9 (i := 135) rfl rfl, TT_9 (i := 136) rfl rfl, TT_9 (i := 137) rfl rfl, TT_1 (i := 13) rfl rfl, TT_9 (i := 138) rfl rfl, ⟨by decide, by decide, by decide +kernel⟩⟩
theorem mv_L_328 : MV RL 328 yX12_monthsOverdue cX12_monthsOverdue 2 (some .int) 1 := ⟨TT_9 (i := 143) rfl rfl, TT_9 (i := 144) rfl rfl, TT_9 (i := 145) rfl rfl, TT_1 (i := 13) rfl rfl, TT_9 (i := 146) rfl rfl, ⟨by decide, by decide, by decide +kernel⟩⟩
theorem mv_L_331 : MV RL 331 yX12_payOff cX12_payOff 7 (some .int) 2 := ⟨TT_9 (i := 139) rfl rfl, TT_9 (i := 140) rfl rfl, TT_9 (i := 141) rfl rfl, TT_1 (i := 13) rfl rfl, TT_9 (i := 142) rfl rfl, ⟨by decide, by decide, by decide +kernel⟩⟩
def tab_law_21 : List En := [(1322, 8, 1, 0), (1323, 8, 0, 0), (1324, 5, 4, 0), (1326, 0, 0, 1), (1327, 17, 0, 0), (1329, 8, 0, 0), (1330, 5, 4, 0), (1332, 0, 0, 2), (1333, 17, 0, 0), (1335, 8, 3, 0), (1339, 11, 5, 0), (1341, 8, 2, 0), (1342, 8, 0, 0), (1343, 5, 4, 0), (1345, 0, 0, 1), (1346, 17, 0, 0), (1348, 8, 0, 0), (1349, 5, 4, 0), (1351, 0, 0, 2), (1352, 17, 0, 0), (1357, 11, 6, 0), (1359, 8, 2, 0), (1363, 5, 5, 0), (1368, 0, 0, 0), (1370, 5, 5, 0), (1375, 8, 3, 0), (1376, 0, 0, 0), (1378, 5, 6, 0), (1380, 31, 0, 0), (1381, 40, 0, 0), (1385, 0, 0, 0), (1387, 41, 4006, 0)]
theorem ok_law_21 : tab_law_21.all (okE code) = true := by decide +kernel
def ed_law_21 : List (Nat × Instr × Nat) := [(1328, .iaload, 1), (1334, .iaload, 1), (1336, .invokestatic 261, 3), (1347, .iaload, 1), (1353, .iaload, 1), (1354, .invokevirtual 263, 3), (1360, .invokevirtual 214, 3), (1365, .if_icmp .eq 5, 3), (1369, .ireturn, 1), (1372, .ifCond .ne 15, 3), (1377, .laload, 1), (1382, .ifCond .eq 5, 3), (1386, .ireturn, 1)]
theorem okd_law_21 : ed_law_21.all (okD code) = true := by decide +kernel
def f_law_21 (Ls : Nat) (xs : Nat → Int32) (S : St) (x m o : Nat) (i : Int32) (c : Nat) (kont : St → Nat → Option Unit) : Option Unit := sx Ls xs (i + 1) fun (v1 : Int32) => sx Ls xs (i + 2) fun (v2 : Int32) => cl (f_L_coverage S x v1 v2 o) fun (o3 : Int32 × St × Nat) => bud (c + o3.2.2) <| sx Ls xs (i + 1) fun (v5 : Int32) => sx Ls xs (i + 2) fun (v6 : Int32) => cl (f_X12_coverage o3.2.1 m v5 v6) fun (o7 : Int32 × St) => cl (f_X12_thrown o7.2 m) fun (v8 : Int32) => if v8 = o3.1 then (jn (κ := Option (Unit)) (kont o7.2 ((c + o3.2.2))) fun k9 => if o3.1 = 0 then (ldJ o7.2 o 0 fun (v11 : Int64) => if v11 = (Int32.toInt64 o7.1) then (k9) else (none)) else (k9)) else (none)
set_option maxHeartbeats 4000000 in
set_option maxRecDepth 100000 in
theorem c_law_21 {Cn : Nat → CT} {b Ls : Nat} {xs : Nat → Int32} {Q : Unit → State → Prop} {x m o : Nat} {i : Int32} (hf : Fam Cn b Ls xs) (tx0 : tT (Cn 0) x 10) (tm0 : tT (Cn 0) m 11) (to0 : tT (Cn 0) o 14) (S : St) (c : Nat) (hc : c ≤ 512) (kont : St → Nat → Option Unit) (hk : ∀ (S : St) (c : Nat), c ≤ 512 → Jd (Cn c) 8 Q S 4006 [some (.ref b), some (.ref x), some (.ref m), some (.ref o), some (.int i), none, none, none] [] (kont S c)) : Jd (Cn c) 8 Q S 1322 [some (.ref b), some (.ref x), some (.ref m), some (.ref o), some (.int i), none, none, none] [] (f_law_21 Ls xs S x m o i c kont) := by
  have X := hf.X hc
  have E := hf.E c
  have tx_ := hf.T c tx0
  have tm_ := hf.T c tm0
  have to_ := hf.T c to0
  unfold f_law_21
  refine s_run X ok_law_21 0 5 (pc' := 1328) (vs' := [some (.ref b), some (.ref x), some (.ref m), some (.ref o), some (.int i), none, none, none]) (st' := [.int (i + 1), .ref b, .ref x]) rfl ?_
  refine s_sld hf (dk okd_law_21 0 rfl) (fun v1 => ?_)
  refine s_run X ok_law_21 5 4 (pc' := 1334) (vs' := [some (.ref b), some (.ref x), some (.ref m), some (.ref o), some (.int i), none, none, none]) (st' := [.int (i + 2), .ref b, .int v1, .ref x]) rfl ?_
  refine s_sld hf (dk okd_law_21 1 rfl) (fun v2 => ?_)
  refine s_run X ok_law_21 9 1 (pc' := 1336) (vs' := [some (.ref b), some (.ref x), some (.ref m), some (.ref o), some (.int i), none, none, none]) (st' := [.ref o, .int v2, .int v1, .ref x]) rfl ?_
  refine s_callH (c0 := c) (As := [.ref x, .int v1, .int v2, .ref o]) (rest := []) hf mh_L_261 (c_L_coverage S x v1 v2 o) (ta2 tx_ to_) rfl rfl (Nat.le_of_ble_eq_true rfl) (Nat.le_of_ble_eq_true rfl) (Nat.le_of_ble_eq_true rfl) (dk okd_law_21 2 rfl) (st' := fun o3 => [.int o3.1]) (fun _ => rfl) (fun o3 hb4 => ?_)
  have X := hf.X hb4
  have E := hf.E (c + o3.2.2)
  have tx_ := hf.T (c + o3.2.2) tx_
  have tm_ := hf.T (c + o3.2.2) tm_
  have to_ := hf.T (c + o3.2.2) to_
  refine s_run X ok_law_21 10 6 (pc' := 1347) (vs' := [some (.ref b), some (.ref x), some (.ref m), some (.ref o), some (.int i), some (.int o3.1), none, none]) (st' := [.int (i + 1), .ref b, .ref m]) rfl ?_
  refine s_sld hf (dk okd_law_21 3 rfl) (fun v5 => ?_)
  refine s_run X ok_law_21 16 4 (pc' := 1353) (vs' := [some (.ref b), some (.ref x), some (.ref m), some (.ref o), some (.int i), some (.int o3.1), none, none]) (st' := [.int (i + 2), .ref b, .int v5, .ref m]) rfl ?_
  refine s_sld hf (dk okd_law_21 4 rfl) (fun v6 => ?_)
  refine s_callV (b := m) (As := [.int v5, .int v6]) (rest := []) X E mv_L_263 (c_X12_coverage o3.2.1 m v5 v6) rfl (ta1 tm_) rfl (by decide) tm_ rfl rfl (Nat.le_of_ble_eq_true rfl) (Nat.le_of_ble_eq_true rfl) (Nat.le_of_ble_eq_true rfl) (dk okd_law_21 5 rfl) (st' := fun o7 => [.int o7.1]) (fun _ => rfl) (fun o7 => ?_)
  refine s_run X ok_law_21 20 2 (pc' := 1360) (vs' := [some (.ref b), some (.ref x), some (.ref m), some (.ref o), some (.int i), some (.int o3.1), some (.int o7.1), none]) (st' := [.ref m]) rfl ?_
  refine s_callV (b := m) (As := []) (rest := []) X E mv_L_214 (c_X12_thrown o7.2 m) rfl (ta1 tm_) rfl (by decide) tm_ rfl rfl (Nat.le_of_ble_eq_true rfl) (Nat.le_of_ble_eq_true rfl) (Nat.le_of_ble_eq_true rfl) (dk okd_law_21 6 rfl) (st' := fun v8 => [.int v8]) (fun _ => rfl) (fun v8 => ?_)
  refine s_run X ok_law_21 22 1 (pc' := 1365) (vs' := [some (.ref b), some (.ref x), some (.ref m), some (.ref o), some (.int i), some (.int o3.1), some (.int o7.1), none]) (st' := [.int o3.1, .int v8]) rfl ?_
  refine s_icmp_eq (tgt := 1370) X (dk okd_law_21 7 rfl) (by decide) ?_ ?_
  · refine s_run X ok_law_21 24 1 (pc' := 1372) (vs' := [some (.ref b), some (.ref x), some (.ref m), some (.ref o), some (.int i), some (.int o3.1), some (.int o7.1), none]) (st' := [.int o3.1]) rfl ?_
    refine s_jn (κ := Option (Unit)) (fun k9 => Jd (Cn (c + o3.2.2)) 8 Q o7.2 1387 [some (.ref b), some (.ref x), some (.ref m), some (.ref o), some (.int i), none, none, none] [] k9) ?_ (fun k9 h10 => ?_)
    · refine s_run X ok_law_21 31 1 (pc' := 4006) (vs' := [some (.ref b), some (.ref x), some (.ref m), some (.ref o), some (.int i), none, none, none]) (st' := []) rfl ?_
      exact s_less [true, true, true, true, true, false, false, false] rfl (hk o7.2 ((c + o3.2.2)) hb4)
    · refine s_if_ne (tgt := 1387) X (dk okd_law_21 9 rfl) (by decide) ?_ ?_
      · exact s_less [true, true, true, true, true, false, false, false] rfl (h10)
      · refine s_run X ok_law_21 25 2 (pc' := 1377) (vs' := [some (.ref b), some (.ref x), some (.ref m), some (.ref o), some (.int i), some (.int o3.1), some (.int o7.1), none]) (st' := [.int 0, .ref o]) rfl ?_
        refine s_lald X to_ (dk okd_law_21 10 rfl) (fun v11 => ?_)
        refine s_run X ok_law_21 27 3 (pc' := 1382) (vs' := [some (.ref b), some (.ref x), some (.ref m), some (.ref o), some (.int i), some (.int o3.1), some (.int o7.1), none]) (st' := [.int (lg_cmp v11 (Int32.toInt64 o7.1))]) rfl ?_
        refine s_lif_eq (tgt := 1387) X (dk okd_law_21 11 rfl) (by decide) ?_ ?_
        · exact s_less [true, true, true, true, true, false, false, false] rfl (h10)
        · refine s_run X ok_law_21 30 1 (pc' := 1386) (vs' := [some (.ref b), some (.ref x), some (.ref m), some (.ref o), some (.int i), some (.int o3.1), some (.int o7.1), none]) (st' := [.int 0]) rfl ?_
          exact s_none
  · refine s_run X ok_law_21 23 1 (pc' := 1369) (vs' := [some (.ref b), some (.ref x), some (.ref m), some (.ref o), some (.int i), some (.int o3.1), some (.int o7.1), none]) (st' := [.int 0]) rfl ?_
    exact s_none
def tab_law_22 : List En := [(1390, 8, 1, 0), (1391, 8, 0, 0), (1392, 5, 4, 0), (1394, 0, 0, 1), (1395, 17, 0, 0), (1397, 8, 0, 0), (1398, 5, 4, 0), (1400, 0, 0, 2), (1401, 17, 0, 0), (1403, 8, 3, 0), (1407, 11, 5, 0), (1409, 8, 2, 0), (1410, 8, 0, 0), (1411, 5, 4, 0), (1413, 0, 0, 1), (1414, 17, 0, 0), (1416, 8, 0, 0), (1417, 5, 4, 0), (1419, 0, 0, 2), (1420, 17, 0, 0), (1425, 11, 6, 0), (1427, 8, 2, 0), (1431, 5, 5, 0), (1436, 0, 0, 0), (1438, 5, 5, 0), (1443, 8, 3, 0), (1444, 0, 0, 0), (1446, 5, 6, 0), (1448, 31, 0, 0), (1449, 40, 0, 0), (1453, 0, 0, 0), (1455, 41, 4006, 0)]
theorem ok_law_22 : tab_law_22.all (okE code) = true := by decide +kernel
def ed_law_22 : List (Nat × Instr × Nat) := [(1396, .iaload, 1), (1402, .iaload, 1), (1404, .invokestatic 264, 3), (1415, .iaload, 1), (1421, .iaload, 1), (1422, .invokevirtual 266, 3), (1428, .invokevirtual 214, 3), (1433, .if_icmp .eq 5, 3), (1437, .ireturn, 1), (1440, .ifCond .ne 15, 3), (1445, .laload, 1), (1450, .ifCond .eq 5, 3), (1454, .ireturn, 1)]
theorem okd_law_22 : ed_law_22.all (okD code) = true := by decide +kernel
def f_law_22 (Ls : Nat) (xs : Nat → Int32) (S : St) (x m o : Nat) (i : Int32) (c : Nat) (kont : St → Nat → Option Unit) : Option Unit := sx Ls xs (i + 1) fun (v1 : Int32) => sx Ls xs (i + 2) fun (v2 : Int32) => cl (f_L_rivalCells S x v1 v2 o) fun (o3 : Int32 × St × Nat) => bud (c + o3.2.2) <| sx Ls xs (i + 1) fun (v5 : Int32) => sx Ls xs (i + 2) fun (v6 : Int32) => cl (f_X12_rivalCells o3.2.1 m v5 v6) fun (o7 : Int32 × St) => cl (f_X12_thrown o7.2 m) fun (v8 : Int32) => if v8 = o3.1 then (jn (κ := Option (Unit)) (kont o7.2 ((c + o3.2.2))) fun k9 => if o3.1 = 0 then (ldJ o7.2 o 0 fun (v11 : Int64) => if v11 = (Int32.toInt64 o7.1) then (k9) else (none)) else (k9)) else (none)
set_option maxHeartbeats 4000000 in
set_option maxRecDepth 100000 in
theorem c_law_22 {Cn : Nat → CT} {b Ls : Nat} {xs : Nat → Int32} {Q : Unit → State → Prop} {x m o : Nat} {i : Int32} (hf : Fam Cn b Ls xs) (tx0 : tT (Cn 0) x 10) (tm0 : tT (Cn 0) m 11) (to0 : tT (Cn 0) o 14) (S : St) (c : Nat) (hc : c ≤ 512) (kont : St → Nat → Option Unit) (hk : ∀ (S : St) (c : Nat), c ≤ 512 → Jd (Cn c) 8 Q S 4006 [some (.ref b), some (.ref x), some (.ref m), some (.ref o), some (.int i), none, none, none] [] (kont S c)) : Jd (Cn c) 8 Q S 1390 [some (.ref b), some (.ref x), some (.ref m), some (.ref o), some (.int i), none, none, none] [] (f_law_22 Ls xs S x m o i c kont) := by
  have X := hf.X hc
  have E := hf.E c
  have tx_ := hf.T c tx0
  have tm_ := hf.T c tm0
  have to_ := hf.T c to0
  unfold f_law_22
  refine s_run X ok_law_22 0 5 (pc' := 1396) (vs' := [some (.ref b), some (.ref x), some (.ref m), some (.ref o), some (.int i), none, none, none]) (st' := [.int (i + 1), .ref b, .ref x]) rfl ?_
  refine s_sld hf (dk okd_law_22 0 rfl) (fun v1 => ?_)
  refine s_run X ok_law_22 5 4 (pc' := 1402) (vs' := [some (.ref b), some (.ref x), some (.ref m), some (.ref o), some (.int i), none, none, none]) (st' := [.int (i + 2), .ref b, .int v1, .ref x]) rfl ?_
  refine s_sld hf (dk okd_law_22 1 rfl) (fun v2 => ?_)
  refine s_run X ok_law_22 9 1 (pc' := 1404) (vs' := [some (.ref b), some (.ref x), some (.ref m), some (.ref o), some (.int i), none, none, none]) (st' := [.ref o, .int v2, .int v1, .ref x]) rfl ?_
  refine s_callH (c0 := c) (As := [.ref x, .int v1, .int v2, .ref o]) (rest := []) hf mh_L_264 (c_L_rivalCells S x v1 v2 o) (ta2 tx_ to_) rfl rfl (Nat.le_of_ble_eq_true rfl) (Nat.le_of_ble_eq_true rfl) (Nat.le_of_ble_eq_true rfl) (dk okd_law_22 2 rfl) (st' := fun o3 => [.int o3.1]) (fun _ => rfl) (fun o3 hb4 => ?_)
  have X := hf.X hb4
  have E := hf.E (c + o3.2.2)
  have tx_ := hf.T (c + o3.2.2) tx_
  have tm_ := hf.T (c + o3.2.2) tm_
  have to_ := hf.T (c + o3.2.2) to_
  refine s_run X ok_law_22 10 6 (pc' := 1415) (vs' := [some (.ref b), some (.ref x), some (.ref m), some (.ref o), some (.int i), some (.int o3.1), none, none]) (st' := [.int (i + 1), .ref b, .ref m]) rfl ?_
  refine s_sld hf (dk okd_law_22 3 rfl) (fun v5 => ?_)
  refine s_run X ok_law_22 16 4 (pc' := 1421) (vs' := [some (.ref b), some (.ref x), some (.ref m), some (.ref o), some (.int i), some (.int o3.1), none, none]) (st' := [.int (i + 2), .ref b, .int v5, .ref m]) rfl ?_
  refine s_sld hf (dk okd_law_22 4 rfl) (fun v6 => ?_)
  refine s_callV (b := m) (As := [.int v5, .int v6]) (rest := []) X E mv_L_266 (c_X12_rivalCells o3.2.1 m v5 v6) rfl (ta1 tm_) rfl (by decide) tm_ rfl rfl (Nat.le_of_ble_eq_true rfl) (Nat.le_of_ble_eq_true rfl) (Nat.le_of_ble_eq_true rfl) (dk okd_law_22 5 rfl) (st' := fun o7 => [.int o7.1]) (fun _ => rfl) (fun o7 => ?_)
  refine s_run X ok_law_22 20 2 (pc' := 1428) (vs' := [some (.ref b), some (.ref x), some (.ref m), some (.ref o), some (.int i), some (.int o3.1), some (.int o7.1), none]) (st' := [.ref m]) rfl ?_
  refine s_callV (b := m) (As := []) (rest := []) X E mv_L_214 (c_X12_thrown o7.2 m) rfl (ta1 tm_) rfl (by decide) tm_ rfl rfl (Nat.le_of_ble_eq_true rfl) (Nat.le_of_ble_eq_true rfl) (Nat.le_of_ble_eq_true rfl) (dk okd_law_22 6 rfl) (st' := fun v8 => [.int v8]) (fun _ => rfl) (fun v8 => ?_)
  refine s_run X ok_law_22 22 1 (pc' := 1433) (vs' := [some (.ref b), some (.ref x), some (.ref m), some (.ref o), some (.int i), some (.int o3.1), some (.int o7.1), none]) (st' := [.int o3.1, .int v8]) rfl ?_
  refine s_icmp_eq (tgt := 1438) X (dk okd_law_22 7 rfl) (by decide) ?_ ?_
  · refine s_run X ok_law_22 24 1 (pc' := 1440) (vs' := [some (.ref b), some (.ref x), some (.ref m), some (.ref o), some (.int i), some (.int o3.1), some (.int o7.1), none]) (st' := [.int o3.1]) rfl ?_
    refine s_jn (κ := Option (Unit)) (fun k9 => Jd (Cn (c + o3.2.2)) 8 Q o7.2 1455 [some (.ref b), some (.ref x), some (.ref m), some (.ref o), some (.int i), none, none, none] [] k9) ?_ (fun k9 h10 => ?_)
    · refine s_run X ok_law_22 31 1 (pc' := 4006) (vs' := [some (.ref b), some (.ref x), some (.ref m), some (.ref o), some (.int i), none, none, none]) (st' := []) rfl ?_
      exact s_less [true, true, true, true, true, false, false, false] rfl (hk o7.2 ((c + o3.2.2)) hb4)
    · refine s_if_ne (tgt := 1455) X (dk okd_law_22 9 rfl) (by decide) ?_ ?_
      · exact s_less [true, true, true, true, true, false, false, false] rfl (h10)
      · refine s_run X ok_law_22 25 2 (pc' := 1445) (vs' := [some (.ref b), some (.ref x), some (.ref m), some (.ref o), some (.int i), some (.int o3.1), some (.int o7.1), none]) (st' := [.int 0, .ref o]) rfl ?_
        refine s_lald X to_ (dk okd_law_22 10 rfl) (fun v11 => ?_)
        refine s_run X ok_law_22 27 3 (pc' := 1450) (vs' := [some (.ref b), some (.ref x), some (.ref m), some (.ref o), some (.int i), some (.int o3.1), some (.int o7.1), none]) (st' := [.int (lg_cmp v11 (Int32.toInt64 o7.1))]) rfl ?_
        refine s_lif_eq (tgt := 1455) X (dk okd_law_22 11 rfl) (by decide) ?_ ?_
        · exact s_less [true, true, true, true, true, false, false, false] rfl (h10)
        · refine s_run X ok_law_22 30 1 (pc' := 1454) (vs' := [some (.ref b), some (.ref x), some (.ref m), some (.ref o), some (.int i), some (.int o3.1), some (.int o7.1), none]) (st' := [.int 0]) rfl ?_
          exact s_none
  · refine s_run X ok_law_22 23 1 (pc' := 1437) (vs' := [some (.ref b), some (.ref x), some (.ref m), some (.ref o), some (.int i), some (.int o3.1), some (.int o7.1), none]) (st' := [.int 0]) rfl ?_
    exact s_none
def tab_law_23 : List En := [(1458, 8, 1, 0), (1459, 8, 0, 0), (1460, 5, 4, 0), (1462, 0, 0, 1), (1463, 17, 0, 0), (1465, 8, 3, 0), (1469, 11, 5, 0), (1471, 8, 2, 0), (1472, 8, 0, 0), (1473, 5, 4, 0), (1475, 0, 0, 1), (1476, 17, 0, 0), (1481, 11, 6, 0), (1483, 8, 2, 0), (1487, 5, 5, 0), (1492, 0, 0, 0), (1494, 5, 5, 0), (1499, 8, 3, 0), (1500, 0, 0, 0), (1502, 5, 6, 0), (1504, 31, 0, 0), (1505, 40, 0, 0), (1509, 0, 0, 0), (1511, 41, 4006, 0)]
theorem ok_law_23 : tab_law_23.all (okE code) = true := by decide +kernel
def ed_law_23 : List (Nat × Instr × Nat) := [(1464, .iaload, 1), (1466, .invokestatic 267, 3), (1477, .iaload, 1), (1478, .invokevirtual 269, 3), (1484, .invokevirtual 214, 3), (1489, .if_icmp .eq 5, 3), (1493, .ireturn, 1), (1496, .ifCond .ne 15, 3), (1501, .laload, 1), (1506, .ifCond .eq 5, 3), (1510, .ireturn, 1)]
theorem okd_law_23 : ed_law_23.all (okD code) = true := by decide +kernel
def f_law_23 (Ls : Nat) (xs : Nat → Int32) (S : St) (x m o : Nat) (i : Int32) (c : Nat) (kont : St → Nat → Option Unit) : Option Unit := sx Ls xs (i + 1) fun (v1 : Int32) => cl (f_L_halvingLine S x v1 o) fun (o2 : Int32 × St × Nat) => bud (c + o2.2.2) <| sx Ls xs (i + 1) fun (v4 : Int32) => cl (f_X12_halvingLine o2.2.1 m v4) fun (o5 : Int32 × St) => cl (f_X12_thrown o5.2 m) fun (v6 : Int32) => if v6 = o2.1 then (jn (κ := Option (Unit)) (kont o5.2 ((c + o2.2.2))) fun k7 => if o2.1 = 0 then (ldJ o5.2 o 0 fun (v9 : Int64) => if v9 = (Int32.toInt64 o5.1) then (k7) else (none)) else (k7)) else (none)
set_option maxHeartbeats 4000000 in
set_option maxRecDepth 100000 in
theorem c_law_23 {Cn : Nat → CT} {b Ls : Nat} {xs : Nat → Int32} {Q : Unit → State → Prop} {x m o : Nat} {i : Int32} (hf : Fam Cn b Ls xs) (tx0 : tT (Cn 0) x 10) (tm0 : tT (Cn 0) m 11) (to0 : tT (Cn 0) o 14) (S : St) (c : Nat) (hc : c ≤ 512) (kont : St → Nat → Option Unit) (hk : ∀ (S : St) (c : Nat), c ≤ 512 → Jd (Cn c) 8 Q S 4006 [some (.ref b), some (.ref x), some (.ref m), some (.ref o), some (.int i), none, none, none] [] (kont S c)) : Jd (Cn c) 8 Q S 1458 [some (.ref b), some (.ref x), some (.ref m), some (.ref o), some (.int i), none, none, none] [] (f_law_23 Ls xs S x m o i c kont) := by
  have X := hf.X hc
  have E := hf.E c
  have tx_ := hf.T c tx0
  have tm_ := hf.T c tm0
  have to_ := hf.T c to0
  unfold f_law_23
  refine s_run X ok_law_23 0 5 (pc' := 1464) (vs' := [some (.ref b), some (.ref x), some (.ref m), some (.ref o), some (.int i), none, none, none]) (st' := [.int (i + 1), .ref b, .ref x]) rfl ?_
  refine s_sld hf (dk okd_law_23 0 rfl) (fun v1 => ?_)
  refine s_run X ok_law_23 5 1 (pc' := 1466) (vs' := [some (.ref b), some (.ref x), some (.ref m), some (.ref o), some (.int i), none, none, none]) (st' := [.ref o, .int v1, .ref x]) rfl ?_
  refine s_callH (c0 := c) (As := [.ref x, .int v1, .ref o]) (rest := []) hf mh_L_267 (c_L_halvingLine S x v1 o) (ta2 tx_ to_) rfl rfl (Nat.le_of_ble_eq_true rfl) (Nat.le_of_ble_eq_true rfl) (Nat.le_of_ble_eq_true rfl) (dk okd_law_23 1 rfl) (st' := fun o2 => [.int o2.1]) (fun _ => rfl) (fun o2 hb3 => ?_)
  have X := hf.X hb3
  have E := hf.E (c + o2.2.2)
  have tx_ := hf.T (c + o2.2.2) tx_
  have tm_ := hf.T (c + o2.2.2) tm_
  have to_ := hf.T (c + o2.2.2) to_
  refine s_run X ok_law_23 6 6 (pc' := 1477) (vs' := [some (.ref b), some (.ref x), some (.ref m), some (.ref o), some (.int i), some (.int o2.1), none, none]) (st' := [.int (i + 1), .ref b, .ref m]) rfl ?_
  refine s_sld hf (dk okd_law_23 2 rfl) (fun v4 => ?_)
  refine s_callV (b := m) (As := [.int v4]) (rest := []) X E mv_L_269 (c_X12_halvingLine o2.2.1 m v4) rfl (ta1 tm_) rfl (by decide) tm_ rfl rfl (Nat.le_of_ble_eq_true rfl) (Nat.le_of_ble_eq_true rfl) (Nat.le_of_ble_eq_true rfl) (dk okd_law_23 3 rfl) (st' := fun o5 => [.int o5.1]) (fun _ => rfl) (fun o5 => ?_)
  refine s_run X ok_law_23 12 2 (pc' := 1484) (vs' := [some (.ref b), some (.ref x), some (.ref m), some (.ref o), some (.int i), some (.int o2.1), some (.int o5.1), none]) (st' := [.ref m]) rfl ?_
  refine s_callV (b := m) (As := []) (rest := []) X E mv_L_214 (c_X12_thrown o5.2 m) rfl (ta1 tm_) rfl (by decide) tm_ rfl rfl (Nat.le_of_ble_eq_true rfl) (Nat.le_of_ble_eq_true rfl) (Nat.le_of_ble_eq_true rfl) (dk okd_law_23 4 rfl) (st' := fun v6 => [.int v6]) (fun _ => rfl) (fun v6 => ?_)
  refine s_run X ok_law_23 14 1 (pc' := 1489) (vs' := [some (.ref b), some (.ref x), some (.ref m), some (.ref o), some (.int i), some (.int o2.1), some (.int o5.1), none]) (st' := [.int o2.1, .int v6]) rfl ?_
  refine s_icmp_eq (tgt := 1494) X (dk okd_law_23 5 rfl) (by decide) ?_ ?_
  · refine s_run X ok_law_23 16 1 (pc' := 1496) (vs' := [some (.ref b), some (.ref x), some (.ref m), some (.ref o), some (.int i), some (.int o2.1), some (.int o5.1), none]) (st' := [.int o2.1]) rfl ?_
    refine s_jn (κ := Option (Unit)) (fun k7 => Jd (Cn (c + o2.2.2)) 8 Q o5.2 1511 [some (.ref b), some (.ref x), some (.ref m), some (.ref o), some (.int i), none, none, none] [] k7) ?_ (fun k7 h8 => ?_)
    · refine s_run X ok_law_23 23 1 (pc' := 4006) (vs' := [some (.ref b), some (.ref x), some (.ref m), some (.ref o), some (.int i), none, none, none]) (st' := []) rfl ?_
      exact s_less [true, true, true, true, true, false, false, false] rfl (hk o5.2 ((c + o2.2.2)) hb3)
    · refine s_if_ne (tgt := 1511) X (dk okd_law_23 7 rfl) (by decide) ?_ ?_
      · exact s_less [true, true, true, true, true, false, false, false] rfl (h8)
      · refine s_run X ok_law_23 17 2 (pc' := 1501) (vs' := [some (.ref b), some (.ref x), some (.ref m), some (.ref o), some (.int i), some (.int o2.1), some (.int o5.1), none]) (st' := [.int 0, .ref o]) rfl ?_
        refine s_lald X to_ (dk okd_law_23 8 rfl) (fun v9 => ?_)
        refine s_run X ok_law_23 19 3 (pc' := 1506) (vs' := [some (.ref b), some (.ref x), some (.ref m), some (.ref o), some (.int i), some (.int o2.1), some (.int o5.1), none]) (st' := [.int (lg_cmp v9 (Int32.toInt64 o5.1))]) rfl ?_
        refine s_lif_eq (tgt := 1511) X (dk okd_law_23 9 rfl) (by decide) ?_ ?_
        · exact s_less [true, true, true, true, true, false, false, false] rfl (h8)
        · refine s_run X ok_law_23 22 1 (pc' := 1510) (vs' := [some (.ref b), some (.ref x), some (.ref m), some (.ref o), some (.int i), some (.int o2.1), some (.int o5.1), none]) (st' := [.int 0]) rfl ?_
          exact s_none
  · refine s_run X ok_law_23 15 1 (pc' := 1493) (vs' := [some (.ref b), some (.ref x), some (.ref m), some (.ref o), some (.int i), some (.int o2.1), some (.int o5.1), none]) (st' := [.int 0]) rfl ?_
    exact s_none
def tab_law_24 : List En := [(1514, 8, 1, 0), (1515, 8, 0, 0), (1516, 5, 4, 0), (1518, 0, 0, 1), (1519, 17, 0, 0), (1521, 8, 0, 0), (1522, 5, 4, 0), (1524, 0, 0, 2), (1525, 17, 0, 0), (1527, 31, 0, 0), (1528, 1, 0, 32), (1530, 34, 0, 0), (1531, 8, 0, 0), (1532, 5, 4, 0), (1534, 0, 0, 3), (1535, 17, 0, 0), (1537, 31, 0, 0), (1541, 26, 0, 0), (1542, 27, 0, 0), (1543, 8, 3, 0), (1547, 11, 5, 0), (1549, 8, 2, 0), (1550, 8, 0, 0), (1551, 5, 4, 0), (1553, 0, 0, 1), (1554, 17, 0, 0), (1556, 8, 0, 0), (1557, 5, 4, 0), (1559, 0, 0, 2), (1560, 17, 0, 0), (1562, 31, 0, 0), (1563, 1, 0, 32), (1565, 34, 0, 0), (1566, 8, 0, 0), (1567, 5, 4, 0), (1569, 0, 0, 3), (1570, 17, 0, 0), (1572, 31, 0, 0), (1576, 26, 0, 0), (1577, 27, 0, 0), (1581, 13, 6, 0), (1583, 8, 2, 0), (1587, 5, 5, 0), (1592, 0, 0, 0), (1594, 5, 5, 0), (1599, 8, 3, 0), (1600, 0, 0, 0), (1602, 7, 6, 0), (1604, 40, 0, 0), (1608, 0, 0, 0), (1610, 41, 4006, 0)]
theorem ok_law_24 : tab_law_24.all (okE code) = true := by decide +kernel
def ed_law_24 : List (Nat × Instr × Nat) := [(1520, .iaload, 1), (1526, .iaload, 1), (1536, .iaload, 1), (1538, .ldc2_w 270, 3), (1544, .invokestatic 272, 3), (1555, .iaload, 1), (1561, .iaload, 1), (1571, .iaload, 1), (1573, .ldc2_w 270, 3), (1578, .invokevirtual 275, 3), (1584, .invokevirtual 214, 3), (1589, .if_icmp .eq 5, 3), (1593, .ireturn, 1), (1596, .ifCond .ne 14, 3), (1601, .laload, 1), (1605, .ifCond .eq 5, 3), (1609, .ireturn, 1)]
theorem okd_law_24 : ed_law_24.all (okD code) = true := by decide +kernel
def f_law_24 (Ls : Nat) (xs : Nat → Int32) (S : St) (x m o : Nat) (i : Int32) (c : Nat) (kont : St → Nat → Option Unit) : Option Unit := sx Ls xs (i + 1) fun (v1 : Int32) => sx Ls xs (i + 2) fun (v2 : Int32) => sx Ls xs (i + 3) fun (v3 : Int32) => cl (f_L_royalty S x v1 (((Int32.toInt64 v2) <<< ((Int32.toInt64 32) &&& 63)) ||| ((Int32.toInt64 v3) &&& 4294967295)) o) fun (o4 : Int32 × St × Nat) => bud (c + o4.2.2) <| sx Ls xs (i + 1) fun (v6 : Int32) => sx Ls xs (i + 2) fun (v7 : Int32) => sx Ls xs (i + 3) fun (v8 : Int32) => cl (f_X12_royalty o4.2.1 m v6 (((Int32.toInt64 v7) <<< ((Int32.toInt64 32) &&& 63)) ||| ((Int32.toInt64 v8) &&& 4294967295))) fun (o9 : Int64 × St) => cl (f_X12_thrown o9.2 m) fun (v10 : Int32) => if v10 = o4.1 then (jn (κ := Option (Unit)) (kont o9.2 ((c + o4.2.2))) fun k11 => if o4.1 = 0 then (ldJ o9.2 o 0 fun (v13 : Int64) => if v13 = o9.1 then (k11) else (none)) else (k11)) else (none)
set_option maxHeartbeats 4000000 in
set_option maxRecDepth 100000 in
theorem c_law_24 {Cn : Nat → CT} {b Ls : Nat} {xs : Nat → Int32} {Q : Unit → State → Prop} {x m o : Nat} {i : Int32} (hf : Fam Cn b Ls xs) (tx0 : tT (Cn 0) x 10) (tm0 : tT (Cn 0) m 11) (to0 : tT (Cn 0) o 14) (S : St) (c : Nat) (hc : c ≤ 512) (kont : St → Nat → Option Unit) (hk : ∀ (S : St) (c : Nat), c ≤ 512 → Jd (Cn c) 8 Q S 4006 [some (.ref b), some (.ref x), some (.ref m), some (.ref o), some (.int i), none, none, none] [] (kont S c)) : Jd (Cn c) 8 Q S 1514 [some (.ref b), some (.ref x), some (.ref m), some (.ref o), some (.int i), none, none, none] [] (f_law_24 Ls xs S x m o i c kont) := by
  have X := hf.X hc
  have E := hf.E c
  have tx_ := hf.T c tx0
  have tm_ := hf.T c tm0
  have to_ := hf.T c to0
  unfold f_law_24
  refine s_run X ok_law_24 0 5 (pc' := 1520) (vs' := [some (.ref b), some (.ref x), some (.ref m), some (.ref o), some (.int i), none, none, none]) (st' := [.int (i + 1), .ref b, .ref x]) rfl ?_
  refine s_sld hf (dk okd_law_24 0 rfl) (fun v1 => ?_)
  refine s_run X ok_law_24 5 4 (pc' := 1526) (vs' := [some (.ref b), some (.ref x), some (.ref m), some (.ref o), some (.int i), none, none, none]) (st' := [.int (i + 2), .ref b, .int v1, .ref x]) rfl ?_
  refine s_sld hf (dk okd_law_24 1 rfl) (fun v2 => ?_)
  refine s_run X ok_law_24 9 7 (pc' := 1536) (vs' := [some (.ref b), some (.ref x), some (.ref m), some (.ref o), some (.int i), none, none, none]) (st' := [.int (i + 3), .ref b, .long ((Int32.toInt64 v2) <<< ((Int32.toInt64 32) &&& 63)), .int v1, .ref x]) rfl ?_
  refine s_sld hf (dk okd_law_24 2 rfl) (fun v3 => ?_)
  refine s_run X ok_law_24 16 1 (pc' := 1538) (vs' := [some (.ref b), some (.ref x), some (.ref m), some (.ref o), some (.int i), none, none, none]) (st' := [.long (Int32.toInt64 v3), .long ((Int32.toInt64 v2) <<< ((Int32.toInt64 32) &&& 63)), .int v1, .ref x]) rfl ?_
  refine s_ldc2 X cl_L_270 (dk okd_law_24 3 rfl) ?_
  refine s_run X ok_law_24 17 3 (pc' := 1544) (vs' := [some (.ref b), some (.ref x), some (.ref m), some (.ref o), some (.int i), none, none, none]) (st' := [.ref o, .long (((Int32.toInt64 v2) <<< ((Int32.toInt64 32) &&& 63)) ||| ((Int32.toInt64 v3) &&& 4294967295)), .int v1, .ref x]) rfl ?_
  refine s_callH (c0 := c) (As := [.ref x, .int v1, .long (((Int32.toInt64 v2) <<< ((Int32.toInt64 32) &&& 63)) ||| ((Int32.toInt64 v3) &&& 4294967295)), .ref o]) (rest := []) hf mh_L_272 (c_L_royalty S x v1 (((Int32.toInt64 v2) <<< ((Int32.toInt64 32) &&& 63)) ||| ((Int32.toInt64 v3) &&& 4294967295)) o) (ta2 tx_ to_) rfl rfl (Nat.le_of_ble_eq_true rfl) (Nat.le_of_ble_eq_true rfl) (Nat.le_of_ble_eq_true rfl) (dk okd_law_24 4 rfl) (st' := fun o4 => [.int o4.1]) (fun _ => rfl) (fun o4 hb5 => ?_)
  have X := hf.X hb5
  have E := hf.E (c + o4.2.2)
  have tx_ := hf.T (c + o4.2.2) tx_
  have tm_ := hf.T (c + o4.2.2) tm_
  have to_ := hf.T (c + o4.2.2) to_
  refine s_run X ok_law_24 20 6 (pc' := 1555) (vs' := [some (.ref b), some (.ref x), some (.ref m), some (.ref o), some (.int i), some (.int o4.1), none, none]) (st' := [.int (i + 1), .ref b, .ref m]) rfl ?_
  refine s_sld hf (dk okd_law_24 5 rfl) (fun v6 => ?_)
  refine s_run X ok_law_24 26 4 (pc' := 1561) (vs' := [some (.ref b), some (.ref x), some (.ref m), some (.ref o), some (.int i), some (.int o4.1), none, none]) (st' := [.int (i + 2), .ref b, .int v6, .ref m]) rfl ?_
  refine s_sld hf (dk okd_law_24 6 rfl) (fun v7 => ?_)
  refine s_run X ok_law_24 30 7 (pc' := 1571) (vs' := [some (.ref b), some (.ref x), some (.ref m), some (.ref o), some (.int i), some (.int o4.1), none, none]) (st' := [.int (i + 3), .ref b, .long ((Int32.toInt64 v7) <<< ((Int32.toInt64 32) &&& 63)), .int v6, .ref m]) rfl ?_
  refine s_sld hf (dk okd_law_24 7 rfl) (fun v8 => ?_)
  refine s_run X ok_law_24 37 1 (pc' := 1573) (vs' := [some (.ref b), some (.ref x), some (.ref m), some (.ref o), some (.int i), some (.int o4.1), none, none]) (st' := [.long (Int32.toInt64 v8), .long ((Int32.toInt64 v7) <<< ((Int32.toInt64 32) &&& 63)), .int v6, .ref m]) rfl ?_
  refine s_ldc2 X cl_L_270 (dk okd_law_24 8 rfl) ?_
  refine s_run X ok_law_24 38 2 (pc' := 1578) (vs' := [some (.ref b), some (.ref x), some (.ref m), some (.ref o), some (.int i), some (.int o4.1), none, none]) (st' := [.long (((Int32.toInt64 v7) <<< ((Int32.toInt64 32) &&& 63)) ||| ((Int32.toInt64 v8) &&& 4294967295)), .int v6, .ref m]) rfl ?_
  refine s_callV (b := m) (As := [.int v6, .long (((Int32.toInt64 v7) <<< ((Int32.toInt64 32) &&& 63)) ||| ((Int32.toInt64 v8) &&& 4294967295))]) (rest := []) X E mv_L_275 (c_X12_royalty o4.2.1 m v6 (((Int32.toInt64 v7) <<< ((Int32.toInt64 32) &&& 63)) ||| ((Int32.toInt64 v8) &&& 4294967295))) rfl (ta1 tm_) rfl (by decide) tm_ rfl rfl (Nat.le_of_ble_eq_true rfl) (Nat.le_of_ble_eq_true rfl) (Nat.le_of_ble_eq_true rfl) (dk okd_law_24 9 rfl) (st' := fun o9 => [.long o9.1]) (fun _ => rfl) (fun o9 => ?_)
  refine s_run X ok_law_24 40 2 (pc' := 1584) (vs' := [some (.ref b), some (.ref x), some (.ref m), some (.ref o), some (.int i), some (.int o4.1), some (.long o9.1), none]) (st' := [.ref m]) rfl ?_
  refine s_callV (b := m) (As := []) (rest := []) X E mv_L_214 (c_X12_thrown o9.2 m) rfl (ta1 tm_) rfl (by decide) tm_ rfl rfl (Nat.le_of_ble_eq_true rfl) (Nat.le_of_ble_eq_true rfl) (Nat.le_of_ble_eq_true rfl) (dk okd_law_24 10 rfl) (st' := fun v10 => [.int v10]) (fun _ => rfl) (fun v10 => ?_)
  refine s_run X ok_law_24 42 1 (pc' := 1589) (vs' := [some (.ref b), some (.ref x), some (.ref m), some (.ref o), some (.int i), some (.int o4.1), some (.long o9.1), none]) (st' := [.int o4.1, .int v10]) rfl ?_
  refine s_icmp_eq (tgt := 1594) X (dk okd_law_24 11 rfl) (by decide) ?_ ?_
  · refine s_run X ok_law_24 44 1 (pc' := 1596) (vs' := [some (.ref b), some (.ref x), some (.ref m), some (.ref o), some (.int i), some (.int o4.1), some (.long o9.1), none]) (st' := [.int o4.1]) rfl ?_
    refine s_jn (κ := Option (Unit)) (fun k11 => Jd (Cn (c + o4.2.2)) 8 Q o9.2 1610 [some (.ref b), some (.ref x), some (.ref m), some (.ref o), some (.int i), none, none, none] [] k11) ?_ (fun k11 h12 => ?_)
    · refine s_run X ok_law_24 50 1 (pc' := 4006) (vs' := [some (.ref b), some (.ref x), some (.ref m), some (.ref o), some (.int i), none, none, none]) (st' := []) rfl ?_
      exact s_less [true, true, true, true, true, false, false, false] rfl (hk o9.2 ((c + o4.2.2)) hb5)
    · refine s_if_ne (tgt := 1610) X (dk okd_law_24 13 rfl) (by decide) ?_ ?_
      · exact s_less [true, true, true, true, true, false, false, false] rfl (h12)
      · refine s_run X ok_law_24 45 2 (pc' := 1601) (vs' := [some (.ref b), some (.ref x), some (.ref m), some (.ref o), some (.int i), some (.int o4.1), some (.long o9.1), none]) (st' := [.int 0, .ref o]) rfl ?_
        refine s_lald X to_ (dk okd_law_24 14 rfl) (fun v13 => ?_)
        refine s_run X ok_law_24 47 2 (pc' := 1605) (vs' := [some (.ref b), some (.ref x), some (.ref m), some (.ref o), some (.int i), some (.int o4.1), some (.long o9.1), none]) (st' := [.int (lg_cmp v13 o9.1)]) rfl ?_
        refine s_lif_eq (tgt := 1610) X (dk okd_law_24 15 rfl) (by decide) ?_ ?_
        · exact s_less [true, true, true, true, true, false, false, false] rfl (h12)
        · refine s_run X ok_law_24 49 1 (pc' := 1609) (vs' := [some (.ref b), some (.ref x), some (.ref m), some (.ref o), some (.int i), some (.int o4.1), some (.long o9.1), none]) (st' := [.int 0]) rfl ?_
          exact s_none
  · refine s_run X ok_law_24 43 1 (pc' := 1593) (vs' := [some (.ref b), some (.ref x), some (.ref m), some (.ref o), some (.int i), some (.int o4.1), some (.long o9.1), none]) (st' := [.int 0]) rfl ?_
    exact s_none
def tab_law_25 : List En := [(1613, 8, 1, 0), (1614, 8, 0, 0), (1615, 5, 4, 0), (1617, 0, 0, 1), (1618, 17, 0, 0), (1620, 8, 3, 0), (1624, 11, 5, 0), (1626, 8, 2, 0), (1627, 8, 0, 0), (1628, 5, 4, 0), (1630, 0, 0, 1), (1631, 17, 0, 0), (1636, 11, 6, 0), (1638, 8, 2, 0), (1642, 5, 5, 0), (1647, 0, 0, 0), (1649, 5, 5, 0), (1654, 8, 3, 0), (1655, 0, 0, 0), (1657, 5, 6, 0), (1659, 31, 0, 0), (1660, 40, 0, 0), (1664, 0, 0, 0), (1666, 41, 4006, 0)]
theorem ok_law_25 : tab_law_25.all (okE code) = true := by decide +kernel
def ed_law_25 : List (Nat × Instr × Nat) := [(1619, .iaload, 1), (1621, .invokestatic 276, 3), (1632, .iaload, 1), (1633, .invokevirtual 278, 3), (1639, .invokevirtual 214, 3), (1644, .if_icmp .eq 5, 3), (1648, .ireturn, 1), (1651, .ifCond .ne 15, 3), (1656, .laload, 1), (1661, .ifCond .eq 5, 3), (1665, .ireturn, 1)]
theorem okd_law_25 : ed_law_25.all (okD code) = true := by decide +kernel
def f_law_25 (Ls : Nat) (xs : Nat → Int32) (S : St) (x m o : Nat) (i : Int32) (c : Nat) (kont : St → Nat → Option Unit) : Option Unit := sx Ls xs (i + 1) fun (v1 : Int32) => cl (f_L_planOf S x v1 o) fun (o2 : Int32 × St × Nat) => bud (c + o2.2.2) <| sx Ls xs (i + 1) fun (v4 : Int32) => cl (f_X12_planOf o2.2.1 m v4) fun (o5 : Int32 × St) => cl (f_X12_thrown o5.2 m) fun (v6 : Int32) => if v6 = o2.1 then (jn (κ := Option (Unit)) (kont o5.2 ((c + o2.2.2))) fun k7 => if o2.1 = 0 then (ldJ o5.2 o 0 fun (v9 : Int64) => if v9 = (Int32.toInt64 o5.1) then (k7) else (none)) else (k7)) else (none)
set_option maxHeartbeats 4000000 in
set_option maxRecDepth 100000 in
theorem c_law_25 {Cn : Nat → CT} {b Ls : Nat} {xs : Nat → Int32} {Q : Unit → State → Prop} {x m o : Nat} {i : Int32} (hf : Fam Cn b Ls xs) (tx0 : tT (Cn 0) x 10) (tm0 : tT (Cn 0) m 11) (to0 : tT (Cn 0) o 14) (S : St) (c : Nat) (hc : c ≤ 512) (kont : St → Nat → Option Unit) (hk : ∀ (S : St) (c : Nat), c ≤ 512 → Jd (Cn c) 8 Q S 4006 [some (.ref b), some (.ref x), some (.ref m), some (.ref o), some (.int i), none, none, none] [] (kont S c)) : Jd (Cn c) 8 Q S 1613 [some (.ref b), some (.ref x), some (.ref m), some (.ref o), some (.int i), none, none, none] [] (f_law_25 Ls xs S x m o i c kont) := by
  have X := hf.X hc
  have E := hf.E c
  have tx_ := hf.T c tx0
  have tm_ := hf.T c tm0
  have to_ := hf.T c to0
  unfold f_law_25
  refine s_run X ok_law_25 0 5 (pc' := 1619) (vs' := [some (.ref b), some (.ref x), some (.ref m), some (.ref o), some (.int i), none, none, none]) (st' := [.int (i + 1), .ref b, .ref x]) rfl ?_
  refine s_sld hf (dk okd_law_25 0 rfl) (fun v1 => ?_)
  refine s_run X ok_law_25 5 1 (pc' := 1621) (vs' := [some (.ref b), some (.ref x), some (.ref m), some (.ref o), some (.int i), none, none, none]) (st' := [.ref o, .int v1, .ref x]) rfl ?_
  refine s_callH (c0 := c) (As := [.ref x, .int v1, .ref o]) (rest := []) hf mh_L_276 (c_L_planOf S x v1 o) (ta2 tx_ to_) rfl rfl (Nat.le_of_ble_eq_true rfl) (Nat.le_of_ble_eq_true rfl) (Nat.le_of_ble_eq_true rfl) (dk okd_law_25 1 rfl) (st' := fun o2 => [.int o2.1]) (fun _ => rfl) (fun o2 hb3 => ?_)
  have X := hf.X hb3
  have E := hf.E (c + o2.2.2)
  have tx_ := hf.T (c + o2.2.2) tx_
  have tm_ := hf.T (c + o2.2.2) tm_
  have to_ := hf.T (c + o2.2.2) to_
  refine s_run X ok_law_25 6 6 (pc' := 1632) (vs' := [some (.ref b), some (.ref x), some (.ref m), some (.ref o), some (.int i), some (.int o2.1), none, none]) (st' := [.int (i + 1), .ref b, .ref m]) rfl ?_
  refine s_sld hf (dk okd_law_25 2 rfl) (fun v4 => ?_)
  refine s_callV (b := m) (As := [.int v4]) (rest := []) X E mv_L_278 (c_X12_planOf o2.2.1 m v4) rfl (ta1 tm_) rfl (by decide) tm_ rfl rfl (Nat.le_of_ble_eq_true rfl) (Nat.le_of_ble_eq_true rfl) (Nat.le_of_ble_eq_true rfl) (dk okd_law_25 3 rfl) (st' := fun o5 => [.int o5.1]) (fun _ => rfl) (fun o5 => ?_)
  refine s_run X ok_law_25 12 2 (pc' := 1639) (vs' := [some (.ref b), some (.ref x), some (.ref m), some (.ref o), some (.int i), some (.int o2.1), some (.int o5.1), none]) (st' := [.ref m]) rfl ?_
  refine s_callV (b := m) (As := []) (rest := []) X E mv_L_214 (c_X12_thrown o5.2 m) rfl (ta1 tm_) rfl (by decide) tm_ rfl rfl (Nat.le_of_ble_eq_true rfl) (Nat.le_of_ble_eq_true rfl) (Nat.le_of_ble_eq_true rfl) (dk okd_law_25 4 rfl) (st' := fun v6 => [.int v6]) (fun _ => rfl) (fun v6 => ?_)
  refine s_run X ok_law_25 14 1 (pc' := 1644) (vs' := [some (.ref b), some (.ref x), some (.ref m), some (.ref o), some (.int i), some (.int o2.1), some (.int o5.1), none]) (st' := [.int o2.1, .int v6]) rfl ?_
  refine s_icmp_eq (tgt := 1649) X (dk okd_law_25 5 rfl) (by decide) ?_ ?_
  · refine s_run X ok_law_25 16 1 (pc' := 1651) (vs' := [some (.ref b), some (.ref x), some (.ref m), some (.ref o), some (.int i), some (.int o2.1), some (.int o5.1), none]) (st' := [.int o2.1]) rfl ?_
    refine s_jn (κ := Option (Unit)) (fun k7 => Jd (Cn (c + o2.2.2)) 8 Q o5.2 1666 [some (.ref b), some (.ref x), some (.ref m), some (.ref o), some (.int i), none, none, none] [] k7) ?_ (fun k7 h8 => ?_)
    · refine s_run X ok_law_25 23 1 (pc' := 4006) (vs' := [some (.ref b), some (.ref x), some (.ref m), some (.ref o), some (.int i), none, none, none]) (st' := []) rfl ?_
      exact s_less [true, true, true, true, true, false, false, false] rfl (hk o5.2 ((c + o2.2.2)) hb3)
    · refine s_if_ne (tgt := 1666) X (dk okd_law_25 7 rfl) (by decide) ?_ ?_
      · exact s_less [true, true, true, true, true, false, false, false] rfl (h8)
      · refine s_run X ok_law_25 17 2 (pc' := 1656) (vs' := [some (.ref b), some (.ref x), some (.ref m), some (.ref o), some (.int i), some (.int o2.1), some (.int o5.1), none]) (st' := [.int 0, .ref o]) rfl ?_
        refine s_lald X to_ (dk okd_law_25 8 rfl) (fun v9 => ?_)
        refine s_run X ok_law_25 19 3 (pc' := 1661) (vs' := [some (.ref b), some (.ref x), some (.ref m), some (.ref o), some (.int i), some (.int o2.1), some (.int o5.1), none]) (st' := [.int (lg_cmp v9 (Int32.toInt64 o5.1))]) rfl ?_
        refine s_lif_eq (tgt := 1666) X (dk okd_law_25 9 rfl) (by decide) ?_ ?_
        · exact s_less [true, true, true, true, true, false, false, false] rfl (h8)
        · refine s_run X ok_law_25 22 1 (pc' := 1665) (vs' := [some (.ref b), some (.ref x), some (.ref m), some (.ref o), some (.int i), some (.int o2.1), some (.int o5.1), none]) (st' := [.int 0]) rfl ?_
          exact s_none
  · refine s_run X ok_law_25 15 1 (pc' := 1648) (vs' := [some (.ref b), some (.ref x), some (.ref m), some (.ref o), some (.int i), some (.int o2.1), some (.int o5.1), none]) (st' := [.int 0]) rfl ?_
    exact s_none
def tab_law_26 : List En := [(1669, 8, 1, 0), (1670, 8, 0, 0), (1671, 5, 4, 0), (1673, 0, 0, 1), (1674, 17, 0, 0), (1676, 8, 0, 0), (1677, 5, 4, 0), (1679, 0, 0, 2), (1680, 17, 0, 0), (1682, 8, 3, 0), (1686, 11, 5, 0), (1688, 8, 2, 0), (1689, 8, 0, 0), (1690, 5, 4, 0), (1692, 0, 0, 1), (1693, 17, 0, 0), (1695, 8, 0, 0), (1696, 5, 4, 0), (1698, 0, 0, 2), (1699, 17, 0, 0), (1704, 11, 6, 0), (1706, 8, 2, 0), (1710, 5, 5, 0), (1715, 0, 0, 0), (1717, 5, 5, 0), (1722, 8, 3, 0), (1723, 0, 0, 0), (1725, 5, 6, 0), (1727, 31, 0, 0), (1728, 40, 0, 0), (1732, 0, 0, 0), (1734, 41, 4006, 0)]
theorem ok_law_26 : tab_law_26.all (okE code) = true := by decide +kernel
def ed_law_26 : List (Nat × Instr × Nat) := [(1675, .iaload, 1), (1681, .iaload, 1), (1683, .invokestatic 279, 3), (1694, .iaload, 1), (1700, .iaload, 1), (1701, .invokevirtual 281, 3), (1707, .invokevirtual 214, 3), (1712, .if_icmp .eq 5, 3), (1716, .ireturn, 1), (1719, .ifCond .ne 15, 3), (1724, .laload, 1), (1729, .ifCond .eq 5, 3), (1733, .ireturn, 1)]
theorem okd_law_26 : ed_law_26.all (okD code) = true := by decide +kernel
def f_law_26 (Ls : Nat) (xs : Nat → Int32) (S : St) (x m o : Nat) (i : Int32) (c : Nat) (kont : St → Nat → Option Unit) : Option Unit := sx Ls xs (i + 1) fun (v1 : Int32) => sx Ls xs (i + 2) fun (v2 : Int32) => cl (f_L_setPlan S x v1 v2 o) fun (o3 : Int32 × St × Nat) => bud (c + o3.2.2) <| sx Ls xs (i + 1) fun (v5 : Int32) => sx Ls xs (i + 2) fun (v6 : Int32) => cl (f_X12_setPlan o3.2.1 m v5 v6) fun (o7 : Int32 × St) => cl (f_X12_thrown o7.2 m) fun (v8 : Int32) => if v8 = o3.1 then (jn (κ := Option (Unit)) (kont o7.2 ((c + o3.2.2))) fun k9 => if o3.1 = 0 then (ldJ o7.2 o 0 fun (v11 : Int64) => if v11 = (Int32.toInt64 o7.1) then (k9) else (none)) else (k9)) else (none)
set_option maxHeartbeats 4000000 in
set_option maxRecDepth 100000 in
theorem c_law_26 {Cn : Nat → CT} {b Ls : Nat} {xs : Nat → Int32} {Q : Unit → State → Prop} {x m o : Nat} {i : Int32} (hf : Fam Cn b Ls xs) (tx0 : tT (Cn 0) x 10) (tm0 : tT (Cn 0) m 11) (to0 : tT (Cn 0) o 14) (S : St) (c : Nat) (hc : c ≤ 512) (kont : St → Nat → Option Unit) (hk : ∀ (S : St) (c : Nat), c ≤ 512 → Jd (Cn c) 8 Q S 4006 [some (.ref b), some (.ref x), some (.ref m), some (.ref o), some (.int i), none, none, none] [] (kont S c)) : Jd (Cn c) 8 Q S 1669 [some (.ref b), some (.ref x), some (.ref m), some (.ref o), some (.int i), none, none, none] [] (f_law_26 Ls xs S x m o i c kont) := by
  have X := hf.X hc
  have E := hf.E c
  have tx_ := hf.T c tx0
  have tm_ := hf.T c tm0
  have to_ := hf.T c to0
  unfold f_law_26
  refine s_run X ok_law_26 0 5 (pc' := 1675) (vs' := [some (.ref b), some (.ref x), some (.ref m), some (.ref o), some (.int i), none, none, none]) (st' := [.int (i + 1), .ref b, .ref x]) rfl ?_
  refine s_sld hf (dk okd_law_26 0 rfl) (fun v1 => ?_)
  refine s_run X ok_law_26 5 4 (pc' := 1681) (vs' := [some (.ref b), some (.ref x), some (.ref m), some (.ref o), some (.int i), none, none, none]) (st' := [.int (i + 2), .ref b, .int v1, .ref x]) rfl ?_
  refine s_sld hf (dk okd_law_26 1 rfl) (fun v2 => ?_)
  refine s_run X ok_law_26 9 1 (pc' := 1683) (vs' := [some (.ref b), some (.ref x), some (.ref m), some (.ref o), some (.int i), none, none, none]) (st' := [.ref o, .int v2, .int v1, .ref x]) rfl ?_
  refine s_callH (c0 := c) (As := [.ref x, .int v1, .int v2, .ref o]) (rest := []) hf mh_L_279 (c_L_setPlan S x v1 v2 o) (ta2 tx_ to_) rfl rfl (Nat.le_of_ble_eq_true rfl) (Nat.le_of_ble_eq_true rfl) (Nat.le_of_ble_eq_true rfl) (dk okd_law_26 2 rfl) (st' := fun o3 => [.int o3.1]) (fun _ => rfl) (fun o3 hb4 => ?_)
  have X := hf.X hb4
  have E := hf.E (c + o3.2.2)
  have tx_ := hf.T (c + o3.2.2) tx_
  have tm_ := hf.T (c + o3.2.2) tm_
  have to_ := hf.T (c + o3.2.2) to_
  refine s_run X ok_law_26 10 6 (pc' := 1694) (vs' := [some (.ref b), some (.ref x), some (.ref m), some (.ref o), some (.int i), some (.int o3.1), none, none]) (st' := [.int (i + 1), .ref b, .ref m]) rfl ?_
  refine s_sld hf (dk okd_law_26 3 rfl) (fun v5 => ?_)
  refine s_run X ok_law_26 16 4 (pc' := 1700) (vs' := [some (.ref b), some (.ref x), some (.ref m), some (.ref o), some (.int i), some (.int o3.1), none, none]) (st' := [.int (i + 2), .ref b, .int v5, .ref m]) rfl ?_
  refine s_sld hf (dk okd_law_26 4 rfl) (fun v6 => ?_)
  refine s_callV (b := m) (As := [.int v5, .int v6]) (rest := []) X E mv_L_281 (c_X12_setPlan o3.2.1 m v5 v6) rfl (ta1 tm_) rfl (by decide) tm_ rfl rfl (Nat.le_of_ble_eq_true rfl) (Nat.le_of_ble_eq_true rfl) (Nat.le_of_ble_eq_true rfl) (dk okd_law_26 5 rfl) (st' := fun o7 => [.int o7.1]) (fun _ => rfl) (fun o7 => ?_)
  refine s_run X ok_law_26 20 2 (pc' := 1707) (vs' := [some (.ref b), some (.ref x), some (.ref m), some (.ref o), some (.int i), some (.int o3.1), some (.int o7.1), none]) (st' := [.ref m]) rfl ?_
  refine s_callV (b := m) (As := []) (rest := []) X E mv_L_214 (c_X12_thrown o7.2 m) rfl (ta1 tm_) rfl (by decide) tm_ rfl rfl (Nat.le_of_ble_eq_true rfl) (Nat.le_of_ble_eq_true rfl) (Nat.le_of_ble_eq_true rfl) (dk okd_law_26 6 rfl) (st' := fun v8 => [.int v8]) (fun _ => rfl) (fun v8 => ?_)
  refine s_run X ok_law_26 22 1 (pc' := 1712) (vs' := [some (.ref b), some (.ref x), some (.ref m), some (.ref o), some (.int i), some (.int o3.1), some (.int o7.1), none]) (st' := [.int o3.1, .int v8]) rfl ?_
  refine s_icmp_eq (tgt := 1717) X (dk okd_law_26 7 rfl) (by decide) ?_ ?_
  · refine s_run X ok_law_26 24 1 (pc' := 1719) (vs' := [some (.ref b), some (.ref x), some (.ref m), some (.ref o), some (.int i), some (.int o3.1), some (.int o7.1), none]) (st' := [.int o3.1]) rfl ?_
    refine s_jn (κ := Option (Unit)) (fun k9 => Jd (Cn (c + o3.2.2)) 8 Q o7.2 1734 [some (.ref b), some (.ref x), some (.ref m), some (.ref o), some (.int i), none, none, none] [] k9) ?_ (fun k9 h10 => ?_)
    · refine s_run X ok_law_26 31 1 (pc' := 4006) (vs' := [some (.ref b), some (.ref x), some (.ref m), some (.ref o), some (.int i), none, none, none]) (st' := []) rfl ?_
      exact s_less [true, true, true, true, true, false, false, false] rfl (hk o7.2 ((c + o3.2.2)) hb4)
    · refine s_if_ne (tgt := 1734) X (dk okd_law_26 9 rfl) (by decide) ?_ ?_
      · exact s_less [true, true, true, true, true, false, false, false] rfl (h10)
      · refine s_run X ok_law_26 25 2 (pc' := 1724) (vs' := [some (.ref b), some (.ref x), some (.ref m), some (.ref o), some (.int i), some (.int o3.1), some (.int o7.1), none]) (st' := [.int 0, .ref o]) rfl ?_
        refine s_lald X to_ (dk okd_law_26 10 rfl) (fun v11 => ?_)
        refine s_run X ok_law_26 27 3 (pc' := 1729) (vs' := [some (.ref b), some (.ref x), some (.ref m), some (.ref o), some (.int i), some (.int o3.1), some (.int o7.1), none]) (st' := [.int (lg_cmp v11 (Int32.toInt64 o7.1))]) rfl ?_
        refine s_lif_eq (tgt := 1734) X (dk okd_law_26 11 rfl) (by decide) ?_ ?_
        · exact s_less [true, true, true, true, true, false, false, false] rfl (h10)
        · refine s_run X ok_law_26 30 1 (pc' := 1733) (vs' := [some (.ref b), some (.ref x), some (.ref m), some (.ref o), some (.int i), some (.int o3.1), some (.int o7.1), none]) (st' := [.int 0]) rfl ?_
          exact s_none
  · refine s_run X ok_law_26 23 1 (pc' := 1716) (vs' := [some (.ref b), some (.ref x), some (.ref m), some (.ref o), some (.int i), some (.int o3.1), some (.int o7.1), none]) (st' := [.int 0]) rfl ?_
    exact s_none
def tab_law_27 : List En := [(1737, 8, 1, 0), (1738, 8, 0, 0), (1739, 5, 4, 0), (1741, 0, 0, 1), (1742, 17, 0, 0), (1744, 8, 3, 0), (1748, 11, 5, 0), (1750, 8, 2, 0), (1751, 8, 0, 0), (1752, 5, 4, 0), (1754, 0, 0, 1), (1755, 17, 0, 0), (1760, 11, 6, 0), (1762, 8, 2, 0), (1766, 5, 5, 0), (1771, 0, 0, 0), (1773, 5, 5, 0), (1778, 8, 3, 0), (1779, 0, 0, 0), (1781, 5, 6, 0), (1783, 31, 0, 0), (1784, 40, 0, 0), (1788, 0, 0, 0), (1790, 41, 4006, 0)]
theorem ok_law_27 : tab_law_27.all (okE code) = true := by decide +kernel
def ed_law_27 : List (Nat × Instr × Nat) := [(1743, .iaload, 1), (1745, .invokestatic 282, 3), (1756, .iaload, 1), (1757, .invokevirtual 284, 3), (1763, .invokevirtual 214, 3), (1768, .if_icmp .eq 5, 3), (1772, .ireturn, 1), (1775, .ifCond .ne 15, 3), (1780, .laload, 1), (1785, .ifCond .eq 5, 3), (1789, .ireturn, 1)]
theorem okd_law_27 : ed_law_27.all (okD code) = true := by decide +kernel
def f_law_27 (Ls : Nat) (xs : Nat → Int32) (S : St) (x m o : Nat) (i : Int32) (c : Nat) (kont : St → Nat → Option Unit) : Option Unit := sx Ls xs (i + 1) fun (v1 : Int32) => cl (f_L_cheapestPlan S x v1 o) fun (o2 : Int32 × St × Nat) => bud (c + o2.2.2) <| sx Ls xs (i + 1) fun (v4 : Int32) => cl (f_X12_cheapestPlan o2.2.1 m v4) fun (o5 : Int32 × St) => cl (f_X12_thrown o5.2 m) fun (v6 : Int32) => if v6 = o2.1 then (jn (κ := Option (Unit)) (kont o5.2 ((c + o2.2.2))) fun k7 => if o2.1 = 0 then (ldJ o5.2 o 0 fun (v9 : Int64) => if v9 = (Int32.toInt64 o5.1) then (k7) else (none)) else (k7)) else (none)
set_option maxHeartbeats 4000000 in
set_option maxRecDepth 100000 in
theorem c_law_27 {Cn : Nat → CT} {b Ls : Nat} {xs : Nat → Int32} {Q : Unit → State → Prop} {x m o : Nat} {i : Int32} (hf : Fam Cn b Ls xs) (tx0 : tT (Cn 0) x 10) (tm0 : tT (Cn 0) m 11) (to0 : tT (Cn 0) o 14) (S : St) (c : Nat) (hc : c ≤ 512) (kont : St → Nat → Option Unit) (hk : ∀ (S : St) (c : Nat), c ≤ 512 → Jd (Cn c) 8 Q S 4006 [some (.ref b), some (.ref x), some (.ref m), some (.ref o), some (.int i), none, none, none] [] (kont S c)) : Jd (Cn c) 8 Q S 1737 [some (.ref b), some (.ref x), some (.ref m), some (.ref o), some (.int i), none, none, none] [] (f_law_27 Ls xs S x m o i c kont) := by
  have X := hf.X hc
  have E := hf.E c
  have tx_ := hf.T c tx0
  have tm_ := hf.T c tm0
  have to_ := hf.T c to0
  unfold f_law_27
  refine s_run X ok_law_27 0 5 (pc' := 1743) (vs' := [some (.ref b), some (.ref x), some (.ref m), some (.ref o), some (.int i), none, none, none]) (st' := [.int (i + 1), .ref b, .ref x]) rfl ?_
  refine s_sld hf (dk okd_law_27 0 rfl) (fun v1 => ?_)
  refine s_run X ok_law_27 5 1 (pc' := 1745) (vs' := [some (.ref b), some (.ref x), some (.ref m), some (.ref o), some (.int i), none, none, none]) (st' := [.ref o, .int v1, .ref x]) rfl ?_
  refine s_callH (c0 := c) (As := [.ref x, .int v1, .ref o]) (rest := []) hf mh_L_282 (c_L_cheapestPlan S x v1 o) (ta2 tx_ to_) rfl rfl (Nat.le_of_ble_eq_true rfl) (Nat.le_of_ble_eq_true rfl) (Nat.le_of_ble_eq_true rfl) (dk okd_law_27 1 rfl) (st' := fun o2 => [.int o2.1]) (fun _ => rfl) (fun o2 hb3 => ?_)
  have X := hf.X hb3
  have E := hf.E (c + o2.2.2)
  have tx_ := hf.T (c + o2.2.2) tx_
  have tm_ := hf.T (c + o2.2.2) tm_
  have to_ := hf.T (c + o2.2.2) to_
  refine s_run X ok_law_27 6 6 (pc' := 1756) (vs' := [some (.ref b), some (.ref x), some (.ref m), some (.ref o), some (.int i), some (.int o2.1), none, none]) (st' := [.int (i + 1), .ref b, .ref m]) rfl ?_
  refine s_sld hf (dk okd_law_27 2 rfl) (fun v4 => ?_)
  refine s_callV (b := m) (As := [.int v4]) (rest := []) X E mv_L_284 (c_X12_cheapestPlan o2.2.1 m v4) rfl (ta1 tm_) rfl (by decide) tm_ rfl rfl (Nat.le_of_ble_eq_true rfl) (Nat.le_of_ble_eq_true rfl) (Nat.le_of_ble_eq_true rfl) (dk okd_law_27 3 rfl) (st' := fun o5 => [.int o5.1]) (fun _ => rfl) (fun o5 => ?_)
  refine s_run X ok_law_27 12 2 (pc' := 1763) (vs' := [some (.ref b), some (.ref x), some (.ref m), some (.ref o), some (.int i), some (.int o2.1), some (.int o5.1), none]) (st' := [.ref m]) rfl ?_
  refine s_callV (b := m) (As := []) (rest := []) X E mv_L_214 (c_X12_thrown o5.2 m) rfl (ta1 tm_) rfl (by decide) tm_ rfl rfl (Nat.le_of_ble_eq_true rfl) (Nat.le_of_ble_eq_true rfl) (Nat.le_of_ble_eq_true rfl) (dk okd_law_27 4 rfl) (st' := fun v6 => [.int v6]) (fun _ => rfl) (fun v6 => ?_)
  refine s_run X ok_law_27 14 1 (pc' := 1768) (vs' := [some (.ref b), some (.ref x), some (.ref m), some (.ref o), some (.int i), some (.int o2.1), some (.int o5.1), none]) (st' := [.int o2.1, .int v6]) rfl ?_
  refine s_icmp_eq (tgt := 1773) X (dk okd_law_27 5 rfl) (by decide) ?_ ?_
  · refine s_run X ok_law_27 16 1 (pc' := 1775) (vs' := [some (.ref b), some (.ref x), some (.ref m), some (.ref o), some (.int i), some (.int o2.1), some (.int o5.1), none]) (st' := [.int o2.1]) rfl ?_
    refine s_jn (κ := Option (Unit)) (fun k7 => Jd (Cn (c + o2.2.2)) 8 Q o5.2 1790 [some (.ref b), some (.ref x), some (.ref m), some (.ref o), some (.int i), none, none, none] [] k7) ?_ (fun k7 h8 => ?_)
    · refine s_run X ok_law_27 23 1 (pc' := 4006) (vs' := [some (.ref b), some (.ref x), some (.ref m), some (.ref o), some (.int i), none, none, none]) (st' := []) rfl ?_
      exact s_less [true, true, true, true, true, false, false, false] rfl (hk o5.2 ((c + o2.2.2)) hb3)
    · refine s_if_ne (tgt := 1790) X (dk okd_law_27 7 rfl) (by decide) ?_ ?_
      · exact s_less [true, true, true, true, true, false, false, false] rfl (h8)
      · refine s_run X ok_law_27 17 2 (pc' := 1780) (vs' := [some (.ref b), some (.ref x), some (.ref m), some (.ref o), some (.int i), some (.int o2.1), some (.int o5.1), none]) (st' := [.int 0, .ref o]) rfl ?_
        refine s_lald X to_ (dk okd_law_27 8 rfl) (fun v9 => ?_)
        refine s_run X ok_law_27 19 3 (pc' := 1785) (vs' := [some (.ref b), some (.ref x), some (.ref m), some (.ref o), some (.int i), some (.int o2.1), some (.int o5.1), none]) (st' := [.int (lg_cmp v9 (Int32.toInt64 o5.1))]) rfl ?_
        refine s_lif_eq (tgt := 1790) X (dk okd_law_27 9 rfl) (by decide) ?_ ?_
        · exact s_less [true, true, true, true, true, false, false, false] rfl (h8)
        · refine s_run X ok_law_27 22 1 (pc' := 1789) (vs' := [some (.ref b), some (.ref x), some (.ref m), some (.ref o), some (.int i), some (.int o2.1), some (.int o5.1), none]) (st' := [.int 0]) rfl ?_
          exact s_none
  · refine s_run X ok_law_27 15 1 (pc' := 1772) (vs' := [some (.ref b), some (.ref x), some (.ref m), some (.ref o), some (.int i), some (.int o2.1), some (.int o5.1), none]) (st' := [.int 0]) rfl ?_
    exact s_none
def tab_law_28 : List En := [(1793, 8, 1, 0), (1794, 8, 0, 0), (1795, 5, 4, 0), (1797, 0, 0, 1), (1798, 17, 0, 0), (1800, 8, 0, 0), (1801, 5, 4, 0), (1803, 0, 0, 2), (1804, 17, 0, 0), (1806, 31, 0, 0), (1807, 1, 0, 32), (1809, 34, 0, 0), (1810, 8, 0, 0), (1811, 5, 4, 0), (1813, 0, 0, 3), (1814, 17, 0, 0), (1816, 31, 0, 0), (1820, 26, 0, 0), (1821, 27, 0, 0), (1822, 8, 3, 0), (1826, 11, 5, 0), (1828, 8, 2, 0), (1829, 8, 0, 0), (1830, 5, 4, 0), (1832, 0, 0, 1), (1833, 17, 0, 0), (1835, 8, 0, 0), (1836, 5, 4, 0), (1838, 0, 0, 2), (1839, 17, 0, 0), (1841, 31, 0, 0), (1842, 1, 0, 32), (1844, 34, 0, 0), (1845, 8, 0, 0), (1846, 5, 4, 0), (1848, 0, 0, 3), (1849, 17, 0, 0), (1851, 31, 0, 0), (1855, 26, 0, 0), (1856, 27, 0, 0), (1860, 13, 6, 0), (1862, 8, 2, 0), (1866, 5, 5, 0), (1871, 0, 0, 0), (1873, 5, 5, 0), (1878, 8, 3, 0), (1879, 0, 0, 0), (1881, 7, 6, 0), (1883, 40, 0, 0), (1887, 0, 0, 0), (1889, 41, 4006, 0)]
theorem ok_law_28 : tab_law_28.all (okE code) = true := by decide +kernel
def ed_law_28 : List (Nat × Instr × Nat) := [(1799, .iaload, 1), (1805, .iaload, 1), (1815, .iaload, 1), (1817, .ldc2_w 270, 3), (1823, .invokestatic 285, 3), (1834, .iaload, 1), (1840, .iaload, 1), (1850, .iaload, 1), (1852, .ldc2_w 270, 3), (1857, .invokevirtual 287, 3), (1863, .invokevirtual 214, 3), (1868, .if_icmp .eq 5, 3), (1872, .ireturn, 1), (1875, .ifCond .ne 14, 3), (1880, .laload, 1), (1884, .ifCond .eq 5, 3), (1888, .ireturn, 1)]
theorem okd_law_28 : ed_law_28.all (okD code) = true := by decide +kernel
def f_law_28 (Ls : Nat) (xs : Nat → Int32) (S : St) (x m o : Nat) (i : Int32) (c : Nat) (kont : St → Nat → Option Unit) : Option Unit := sx Ls xs (i + 1) fun (v1 : Int32) => sx Ls xs (i + 2) fun (v2 : Int32) => sx Ls xs (i + 3) fun (v3 : Int32) => cl (f_L_reportSales S x v1 (((Int32.toInt64 v2) <<< ((Int32.toInt64 32) &&& 63)) ||| ((Int32.toInt64 v3) &&& 4294967295)) o) fun (o4 : Int32 × St × Nat) => bud (c + o4.2.2) <| sx Ls xs (i + 1) fun (v6 : Int32) => sx Ls xs (i + 2) fun (v7 : Int32) => sx Ls xs (i + 3) fun (v8 : Int32) => cl (f_X12_reportSales o4.2.1 m v6 (((Int32.toInt64 v7) <<< ((Int32.toInt64 32) &&& 63)) ||| ((Int32.toInt64 v8) &&& 4294967295))) fun (o9 : Int64 × St) => cl (f_X12_thrown o9.2 m) fun (v10 : Int32) => if v10 = o4.1 then (jn (κ := Option (Unit)) (kont o9.2 ((c + o4.2.2))) fun k11 => if o4.1 = 0 then (ldJ o9.2 o 0 fun (v13 : Int64) => if v13 = o9.1 then (k11) else (none)) else (k11)) else (none)
set_option maxHeartbeats 4000000 in
set_option maxRecDepth 100000 in
theorem c_law_28 {Cn : Nat → CT} {b Ls : Nat} {xs : Nat → Int32} {Q : Unit → State → Prop} {x m o : Nat} {i : Int32} (hf : Fam Cn b Ls xs) (tx0 : tT (Cn 0) x 10) (tm0 : tT (Cn 0) m 11) (to0 : tT (Cn 0) o 14) (S : St) (c : Nat) (hc : c ≤ 512) (kont : St → Nat → Option Unit) (hk : ∀ (S : St) (c : Nat), c ≤ 512 → Jd (Cn c) 8 Q S 4006 [some (.ref b), some (.ref x), some (.ref m), some (.ref o), some (.int i), none, none, none] [] (kont S c)) : Jd (Cn c) 8 Q S 1793 [some (.ref b), some (.ref x), some (.ref m), some (.ref o), some (.int i), none, none, none] [] (f_law_28 Ls xs S x m o i c kont) := by
  have X := hf.X hc
  have E := hf.E c
  have tx_ := hf.T c tx0
  have tm_ := hf.T c tm0
  have to_ := hf.T c to0
  unfold f_law_28
  refine s_run X ok_law_28 0 5 (pc' := 1799) (vs' := [some (.ref b), some (.ref x), some (.ref m), some (.ref o), some (.int i), none, none, none]) (st' := [.int (i + 1), .ref b, .ref x]) rfl ?_
  refine s_sld hf (dk okd_law_28 0 rfl) (fun v1 => ?_)
  refine s_run X ok_law_28 5 4 (pc' := 1805) (vs' := [some (.ref b), some (.ref x), some (.ref m), some (.ref o), some (.int i), none, none, none]) (st' := [.int (i + 2), .ref b, .int v1, .ref x]) rfl ?_
  refine s_sld hf (dk okd_law_28 1 rfl) (fun v2 => ?_)
  refine s_run X ok_law_28 9 7 (pc' := 1815) (vs' := [some (.ref b), some (.ref x), some (.ref m), some (.ref o), some (.int i), none, none, none]) (st' := [.int (i + 3), .ref b, .long ((Int32.toInt64 v2) <<< ((Int32.toInt64 32) &&& 63)), .int v1, .ref x]) rfl ?_
  refine s_sld hf (dk okd_law_28 2 rfl) (fun v3 => ?_)
  refine s_run X ok_law_28 16 1 (pc' := 1817) (vs' := [some (.ref b), some (.ref x), some (.ref m), some (.ref o), some (.int i), none, none, none]) (st' := [.long (Int32.toInt64 v3), .long ((Int32.toInt64 v2) <<< ((Int32.toInt64 32) &&& 63)), .int v1, .ref x]) rfl ?_
  refine s_ldc2 X cl_L_270 (dk okd_law_28 3 rfl) ?_
  refine s_run X ok_law_28 17 3 (pc' := 1823) (vs' := [some (.ref b), some (.ref x), some (.ref m), some (.ref o), some (.int i), none, none, none]) (st' := [.ref o, .long (((Int32.toInt64 v2) <<< ((Int32.toInt64 32) &&& 63)) ||| ((Int32.toInt64 v3) &&& 4294967295)), .int v1, .ref x]) rfl ?_
  refine s_callH (c0 := c) (As := [.ref x, .int v1, .long (((Int32.toInt64 v2) <<< ((Int32.toInt64 32) &&& 63)) ||| ((Int32.toInt64 v3) &&& 4294967295)), .ref o]) (rest := []) hf mh_L_285 (c_L_reportSales S x v1 (((Int32.toInt64 v2) <<< ((Int32.toInt64 32) &&& 63)) ||| ((Int32.toInt64 v3) &&& 4294967295)) o) (ta2 tx_ to_) rfl rfl (Nat.le_of_ble_eq_true rfl) (Nat.le_of_ble_eq_true rfl) (Nat.le_of_ble_eq_true rfl) (dk okd_law_28 4 rfl) (st' := fun o4 => [.int o4.1]) (fun _ => rfl) (fun o4 hb5 => ?_)
  have X := hf.X hb5
  have E := hf.E (c + o4.2.2)
  have tx_ := hf.T (c + o4.2.2) tx_
  have tm_ := hf.T (c + o4.2.2) tm_
  have to_ := hf.T (c + o4.2.2) to_
  refine s_run X ok_law_28 20 6 (pc' := 1834) (vs' := [some (.ref b), some (.ref x), some (.ref m), some (.ref o), some (.int i), some (.int o4.1), none, none]) (st' := [.int (i + 1), .ref b, .ref m]) rfl ?_
  refine s_sld hf (dk okd_law_28 5 rfl) (fun v6 => ?_)
  refine s_run X ok_law_28 26 4 (pc' := 1840) (vs' := [some (.ref b), some (.ref x), some (.ref m), some (.ref o), some (.int i), some (.int o4.1), none, none]) (st' := [.int (i + 2), .ref b, .int v6, .ref m]) rfl ?_
  refine s_sld hf (dk okd_law_28 6 rfl) (fun v7 => ?_)
  refine s_run X ok_law_28 30 7 (pc' := 1850) (vs' := [some (.ref b), some (.ref x), some (.ref m), some (.ref o), some (.int i), some (.int o4.1), none, none]) (st' := [.int (i + 3), .ref b, .long ((Int32.toInt64 v7) <<< ((Int32.toInt64 32) &&& 63)), .int v6, .ref m]) rfl ?_
  refine s_sld hf (dk okd_law_28 7 rfl) (fun v8 => ?_)
  refine s_run X ok_law_28 37 1 (pc' := 1852) (vs' := [some (.ref b), some (.ref x), some (.ref m), some (.ref o), some (.int i), some (.int o4.1), none, none]) (st' := [.long (Int32.toInt64 v8), .long ((Int32.toInt64 v7) <<< ((Int32.toInt64 32) &&& 63)), .int v6, .ref m]) rfl ?_
  refine s_ldc2 X cl_L_270 (dk okd_law_28 8 rfl) ?_
  refine s_run X ok_law_28 38 2 (pc' := 1857) (vs' := [some (.ref b), some (.ref x), some (.ref m), some (.ref o), some (.int i), some (.int o4.1), none, none]) (st' := [.long (((Int32.toInt64 v7) <<< ((Int32.toInt64 32) &&& 63)) ||| ((Int32.toInt64 v8) &&& 4294967295)), .int v6, .ref m]) rfl ?_
  refine s_callV (b := m) (As := [.int v6, .long (((Int32.toInt64 v7) <<< ((Int32.toInt64 32) &&& 63)) ||| ((Int32.toInt64 v8) &&& 4294967295))]) (rest := []) X E mv_L_287 (c_X12_reportSales o4.2.1 m v6 (((Int32.toInt64 v7) <<< ((Int32.toInt64 32) &&& 63)) ||| ((Int32.toInt64 v8) &&& 4294967295))) rfl (ta1 tm_) rfl (by decide) tm_ rfl rfl (Nat.le_of_ble_eq_true rfl) (Nat.le_of_ble_eq_true rfl) (Nat.le_of_ble_eq_true rfl) (dk okd_law_28 9 rfl) (st' := fun o9 => [.long o9.1]) (fun _ => rfl) (fun o9 => ?_)
  refine s_run X ok_law_28 40 2 (pc' := 1863) (vs' := [some (.ref b), some (.ref x), some (.ref m), some (.ref o), some (.int i), some (.int o4.1), some (.long o9.1), none]) (st' := [.ref m]) rfl ?_
  refine s_callV (b := m) (As := []) (rest := []) X E mv_L_214 (c_X12_thrown o9.2 m) rfl (ta1 tm_) rfl (by decide) tm_ rfl rfl (Nat.le_of_ble_eq_true rfl) (Nat.le_of_ble_eq_true rfl) (Nat.le_of_ble_eq_true rfl) (dk okd_law_28 10 rfl) (st' := fun v10 => [.int v10]) (fun _ => rfl) (fun v10 => ?_)
  refine s_run X ok_law_28 42 1 (pc' := 1868) (vs' := [some (.ref b), some (.ref x), some (.ref m), some (.ref o), some (.int i), some (.int o4.1), some (.long o9.1), none]) (st' := [.int o4.1, .int v10]) rfl ?_
  refine s_icmp_eq (tgt := 1873) X (dk okd_law_28 11 rfl) (by decide) ?_ ?_
  · refine s_run X ok_law_28 44 1 (pc' := 1875) (vs' := [some (.ref b), some (.ref x), some (.ref m), some (.ref o), some (.int i), some (.int o4.1), some (.long o9.1), none]) (st' := [.int o4.1]) rfl ?_
    refine s_jn (κ := Option (Unit)) (fun k11 => Jd (Cn (c + o4.2.2)) 8 Q o9.2 1889 [some (.ref b), some (.ref x), some (.ref m), some (.ref o), some (.int i), none, none, none] [] k11) ?_ (fun k11 h12 => ?_)
    · refine s_run X ok_law_28 50 1 (pc' := 4006) (vs' := [some (.ref b), some (.ref x), some (.ref m), some (.ref o), some (.int i), none, none, none]) (st' := []) rfl ?_
      exact s_less [true, true, true, true, true, false, false, false] rfl (hk o9.2 ((c + o4.2.2)) hb5)
    · refine s_if_ne (tgt := 1889) X (dk okd_law_28 13 rfl) (by decide) ?_ ?_
      · exact s_less [true, true, true, true, true, false, false, false] rfl (h12)
      · refine s_run X ok_law_28 45 2 (pc' := 1880) (vs' := [some (.ref b), some (.ref x), some (.ref m), some (.ref o), some (.int i), some (.int o4.1), some (.long o9.1), none]) (st' := [.int 0, .ref o]) rfl ?_
        refine s_lald X to_ (dk okd_law_28 14 rfl) (fun v13 => ?_)
        refine s_run X ok_law_28 47 2 (pc' := 1884) (vs' := [some (.ref b), some (.ref x), some (.ref m), some (.ref o), some (.int i), some (.int o4.1), some (.long o9.1), none]) (st' := [.int (lg_cmp v13 o9.1)]) rfl ?_
        refine s_lif_eq (tgt := 1889) X (dk okd_law_28 15 rfl) (by decide) ?_ ?_
        · exact s_less [true, true, true, true, true, false, false, false] rfl (h12)
        · refine s_run X ok_law_28 49 1 (pc' := 1888) (vs' := [some (.ref b), some (.ref x), some (.ref m), some (.ref o), some (.int i), some (.int o4.1), some (.long o9.1), none]) (st' := [.int 0]) rfl ?_
          exact s_none
  · refine s_run X ok_law_28 43 1 (pc' := 1872) (vs' := [some (.ref b), some (.ref x), some (.ref m), some (.ref o), some (.int i), some (.int o4.1), some (.long o9.1), none]) (st' := [.int 0]) rfl ?_
    exact s_none
def tab_law_29 : List En := [(1892, 8, 1, 0), (1893, 8, 0, 0), (1894, 5, 4, 0), (1896, 0, 0, 1), (1897, 17, 0, 0), (1899, 8, 0, 0), (1900, 5, 4, 0), (1902, 0, 0, 2), (1903, 17, 0, 0), (1905, 8, 0, 0), (1906, 5, 4, 0), (1908, 0, 0, 3), (1909, 17, 0, 0), (1911, 8, 0, 0), (1912, 5, 4, 0), (1914, 0, 0, 4), (1915, 17, 0, 0), (1917, 31, 0, 0), (1918, 1, 0, 32), (1920, 34, 0, 0), (1921, 8, 0, 0), (1922, 5, 4, 0), (1924, 0, 0, 5), (1925, 17, 0, 0), (1927, 31, 0, 0), (1931, 26, 0, 0), (1932, 27, 0, 0), (1933, 8, 3, 0), (1937, 11, 5, 0), (1939, 8, 2, 0), (1940, 8, 0, 0), (1941, 5, 4, 0), (1943, 0, 0, 1), (1944, 17, 0, 0), (1946, 8, 0, 0), (1947, 5, 4, 0), (1949, 0, 0, 2), (1950, 17, 0, 0), (1952, 8, 0, 0), (1953, 5, 4, 0), (1955, 0, 0, 3), (1956, 17, 0, 0), (1958, 8, 0, 0), (1959, 5, 4, 0), (1961, 0, 0, 4), (1962, 17, 0, 0), (1964, 31, 0, 0), (1965, 1, 0, 32), (1967, 34, 0, 0), (1968, 8, 0, 0), (1969, 5, 4, 0), (1971, 0, 0, 5), (1972, 17, 0, 0), (1974, 31, 0, 0), (1978, 26, 0, 0), (1979, 27, 0, 0), (1983, 13, 6, 0), (1985, 8, 2, 0), (1989, 5, 5, 0), (1994, 0, 0, 0), (1996, 5, 5, 0), (2001, 8, 3, 0), (2002, 0, 0, 0), (2004, 7, 6, 0), (2006, 40, 0, 0), (2010, 0, 0, 0), (2012, 41, 4006, 0)]
theorem ok_law_29 : tab_law_29.all (okE code) = true := by decide +kernel
def ed_law_29 : List (Nat × Instr × Nat) := [(1898, .iaload, 1), (1904, .iaload, 1), (1910, .iaload, 1), (1916, .iaload, 1), (1926, .iaload, 1), (1928, .ldc2_w 270, 3), (1934, .invokestatic 288, 3), (1945, .iaload, 1), (1951, .iaload, 1), (1957, .iaload, 1), (1963, .iaload, 1), (1973, .iaload, 1), (1975, .ldc2_w 270, 3), (1980, .invokevirtual 291, 3), (1986, .invokevirtual 214, 3), (1991, .if_icmp .eq 5, 3), (1995, .ireturn, 1), (1998, .ifCond .ne 14, 3), (2003, .laload, 1), (2007, .ifCond .eq 5, 3), (2011, .ireturn, 1)]
theorem okd_law_29 : ed_law_29.all (okD code) = true := by decide +kernel
def f_law_29 (Ls : Nat) (xs : Nat → Int32) (S : St) (x m o : Nat) (i : Int32) (c : Nat) (kont : St → Nat → Option Unit) : Option Unit := sx Ls xs (i + 1) fun (v1 : Int32) => sx Ls xs (i + 2) fun (v2 : Int32) => sx Ls xs (i + 3) fun (v3 : Int32) => sx Ls xs (i + 4) fun (v4 : Int32) => sx Ls xs (i + 5) fun (v5 : Int32) => cl (f_L_deliver S x v1 v2 v3 (((Int32.toInt64 v4) <<< ((Int32.toInt64 32) &&& 63)) ||| ((Int32.toInt64 v5) &&& 4294967295)) o) fun (o6 : Int32 × St × Nat) => bud (c + o6.2.2) <| sx Ls xs (i + 1) fun (v8 : Int32) => sx Ls xs (i + 2) fun (v9 : Int32) => sx Ls xs (i + 3) fun (v10 : Int32) => sx Ls xs (i + 4) fun (v11 : Int32) => sx Ls xs (i + 5) fun (v12 : Int32) => cl (f_X12_deliver o6.2.1 m v8 v9 v10 (((Int32.toInt64 v11) <<< ((Int32.toInt64 32) &&& 63)) ||| ((Int32.toInt64 v12) &&& 4294967295))) fun (o13 : Int64 × St) => cl (f_X12_thrown o13.2 m) fun (v14 : Int32) => if v14 = o6.1 then (jn (κ := Option (Unit)) (kont o13.2 ((c + o6.2.2))) fun k15 => if o6.1 = 0 then (ldJ o13.2 o 0 fun (v17 : Int64) => if v17 = o13.1 then (k15) else (none)) else (k15)) else (none)
set_option maxHeartbeats 4000000 in
set_option maxRecDepth 100000 in
theorem c_law_29 {Cn : Nat → CT} {b Ls : Nat} {xs : Nat → Int32} {Q : Unit → State → Prop} {x m o : Nat} {i : Int32} (hf : Fam Cn b Ls xs) (tx0 : tT (Cn 0) x 10) (tm0 : tT (Cn 0) m 11) (to0 : tT (Cn 0) o 14) (S : St) (c : Nat) (hc : c ≤ 512) (kont : St → Nat → Option Unit) (hk : ∀ (S : St) (c : Nat), c ≤ 512 → Jd (Cn c) 8 Q S 4006 [some (.ref b), some (.ref x), some (.ref m), some (.ref o), some (.int i), none, none, none] [] (kont S c)) : Jd (Cn c) 8 Q S 1892 [some (.ref b), some (.ref x), some (.ref m), some (.ref o), some (.int i), none, none, none] [] (f_law_29 Ls xs S x m o i c kont) := by
  have X := hf.X hc
  have E := hf.E c
  have tx_ := hf.T c tx0
  have tm_ := hf.T c tm0
  have to_ := hf.T c to0
  unfold f_law_29
  refine s_run X ok_law_29 0 5 (pc' := 1898) (vs' := [some (.ref b), some (.ref x), some (.ref m), some (.ref o), some (.int i), none, none, none]) (st' := [.int (i + 1), .ref b, .ref x]) rfl ?_
  refine s_sld hf (dk okd_law_29 0 rfl) (fun v1 => ?_)
  refine s_run X ok_law_29 5 4 (pc' := 1904) (vs' := [some (.ref b), some (.ref x), some (.ref m), some (.ref o), some (.int i), none, none, none]) (st' := [.int (i + 2), .ref b, .int v1, .ref x]) rfl ?_
  refine s_sld hf (dk okd_law_29 1 rfl) (fun v2 => ?_)
  refine s_run X ok_law_29 9 4 (pc' := 1910) (vs' := [some (.ref b), some (.ref x), some (.ref m), some (.ref o), some (.int i), none, none, none]) (st' := [.int (i + 3), .ref b, .int v2, .int v1, .ref x]) rfl ?_
  refine s_sld hf (dk okd_law_29 2 rfl) (fun v3 => ?_)
  refine s_run X ok_law_29 13 4 (pc' := 1916) (vs' := [some (.ref b), some (.ref x), some (.ref m), some (.ref o), some (.int i), none, none, none]) (st' := [.int (i + 4), .ref b, .int v3, .int v2, .int v1, .ref x]) rfl ?_
  refine s_sld hf (dk okd_law_29 3 rfl) (fun v4 => ?_)
  refine s_run X ok_law_29 17 7 (pc' := 1926) (vs' := [some (.ref b), some (.ref x), some (.ref m), some (.ref o), some (.int i), none, none, none]) (st' := [.int (i + 5), .ref b, .long ((Int32.toInt64 v4) <<< ((Int32.toInt64 32) &&& 63)), .int v3, .int v2, .int v1, .ref x]) rfl ?_
  refine s_sld hf (dk okd_law_29 4 rfl) (fun v5 => ?_)
  refine s_run X ok_law_29 24 1 (pc' := 1928) (vs' := [some (.ref b), some (.ref x), some (.ref m), some (.ref o), some (.int i), none, none, none]) (st' := [.long (Int32.toInt64 v5), .long ((Int32.toInt64 v4) <<< ((Int32.toInt64 32) &&& 63)), .int v3, .int v2, .int v1, .ref x]) rfl ?_
  refine s_ldc2 X cl_L_270 (dk okd_law_29 5 rfl) ?_
  refine s_run X ok_law_29 25 3 (pc' := 1934) (vs' := [some (.ref b), some (.ref x), some (.ref m), some (.ref o), some (.int i), none, none, none]) (st' := [.ref o, .long (((Int32.toInt64 v4) <<< ((Int32.toInt64 32) &&& 63)) ||| ((Int32.toInt64 v5) &&& 4294967295)), .int v3, .int v2, .int v1, .ref x]) rfl ?_
  refine s_callH (c0 := c) (As := [.ref x, .int v1, .int v2, .int v3, .long (((Int32.toInt64 v4) <<< ((Int32.toInt64 32) &&& 63)) ||| ((Int32.toInt64 v5) &&& 4294967295)), .ref o]) (rest := []) hf mh_L_288 (c_L_deliver S x v1 v2 v3 (((Int32.toInt64 v4) <<< ((Int32.toInt64 32) &&& 63)) ||| ((Int32.toInt64 v5) &&& 4294967295)) o) (ta2 tx_ to_) rfl rfl (Nat.le_of_ble_eq_true rfl) (Nat.le_of_ble_eq_true rfl) (Nat.le_of_ble_eq_true rfl) (dk okd_law_29 6 rfl) (st' := fun o6 => [.int o6.1]) (fun _ => rfl) (fun o6 hb7 => ?_)
  have X := hf.X hb7
  have E := hf.E (c + o6.2.2)
  have tx_ := hf.T (c + o6.2.2) tx_
  have tm_ := hf.T (c + o6.2.2) tm_
  have to_ := hf.T (c + o6.2.2) to_
  refine s_run X ok_law_29 28 6 (pc' := 1945) (vs' := [some (.ref b), some (.ref x), some (.ref m), some (.ref o), some (.int i), some (.int o6.1), none, none]) (st' := [.int (i + 1), .ref b, .ref m]) rfl ?_
  refine s_sld hf (dk okd_law_29 7 rfl) (fun v8 => ?_)
  refine s_run X ok_law_29 34 4 (pc' := 1951) (vs' := [some (.ref b), some (.ref x), some (.ref m), some (.ref o), some (.int i), some (.int o6.1), none, none]) (st' := [.int (i + 2), .ref b, .int v8, .ref m]) rfl ?_
  refine s_sld hf (dk okd_law_29 8 rfl) (fun v9 => ?_)
  refine s_run X ok_law_29 38 4 (pc' := 1957) (vs' := [some (.ref b), some (.ref x), some (.ref m), some (.ref o), some (.int i), some (.int o6.1), none, none]) (st' := [.int (i + 3), .ref b, .int v9, .int v8, .ref m]) rfl ?_
  refine s_sld hf (dk okd_law_29 9 rfl) (fun v10 => ?_)
  refine s_run X ok_law_29 42 4 (pc' := 1963) (vs' := [some (.ref b), some (.ref x), some (.ref m), some (.ref o), some (.int i), some (.int o6.1), none, none]) (st' := [.int (i + 4), .ref b, .int v10, .int v9, .int v8, .ref m]) rfl ?_
  refine s_sld hf (dk okd_law_29 10 rfl) (fun v11 => ?_)
  refine s_run X ok_law_29 46 7 (pc' := 1973) (vs' := [some (.ref b), some (.ref x), some (.ref m), some (.ref o), some (.int i), some (.int o6.1), none, none]) (st' := [.int (i + 5), .ref b, .long ((Int32.toInt64 v11) <<< ((Int32.toInt64 32) &&& 63)), .int v10, .int v9, .int v8, .ref m]) rfl ?_
  refine s_sld hf (dk okd_law_29 11 rfl) (fun v12 => ?_)
  refine s_run X ok_law_29 53 1 (pc' := 1975) (vs' := [some (.ref b), some (.ref x), some (.ref m), some (.ref o), some (.int i), some (.int o6.1), none, none]) (st' := [.long (Int32.toInt64 v12), .long ((Int32.toInt64 v11) <<< ((Int32.toInt64 32) &&& 63)), .int v10, .int v9, .int v8, .ref m]) rfl ?_
  refine s_ldc2 X cl_L_270 (dk okd_law_29 12 rfl) ?_
  refine s_run X ok_law_29 54 2 (pc' := 1980) (vs' := [some (.ref b), some (.ref x), some (.ref m), some (.ref o), some (.int i), some (.int o6.1), none, none]) (st' := [.long (((Int32.toInt64 v11) <<< ((Int32.toInt64 32) &&& 63)) ||| ((Int32.toInt64 v12) &&& 4294967295)), .int v10, .int v9, .int v8, .ref m]) rfl ?_
  refine s_callV (b := m) (As := [.int v8, .int v9, .int v10, .long (((Int32.toInt64 v11) <<< ((Int32.toInt64 32) &&& 63)) ||| ((Int32.toInt64 v12) &&& 4294967295))]) (rest := []) X E mv_L_291 (c_X12_deliver o6.2.1 m v8 v9 v10 (((Int32.toInt64 v11) <<< ((Int32.toInt64 32) &&& 63)) ||| ((Int32.toInt64 v12) &&& 4294967295))) rfl (ta1 tm_) rfl (by decide) tm_ rfl rfl (Nat.le_of_ble_eq_true rfl) (Nat.le_of_ble_eq_true rfl) (Nat.le_of_ble_eq_true rfl) (dk okd_law_29 13 rfl) (st' := fun o13 => [.long o13.1]) (fun _ => rfl) (fun o13 => ?_)
  refine s_run X ok_law_29 56 2 (pc' := 1986) (vs' := [some (.ref b), some (.ref x), some (.ref m), some (.ref o), some (.int i), some (.int o6.1), some (.long o13.1), none]) (st' := [.ref m]) rfl ?_
  refine s_callV (b := m) (As := []) (rest := []) X E mv_L_214 (c_X12_thrown o13.2 m) rfl (ta1 tm_) rfl (by decide) tm_ rfl rfl (Nat.le_of_ble_eq_true rfl) (Nat.le_of_ble_eq_true rfl) (Nat.le_of_ble_eq_true rfl) (dk okd_law_29 14 rfl) (st' := fun v14 => [.int v14]) (fun _ => rfl) (fun v14 => ?_)
  refine s_run X ok_law_29 58 1 (pc' := 1991) (vs' := [some (.ref b), some (.ref x), some (.ref m), some (.ref o), some (.int i), some (.int o6.1), some (.long o13.1), none]) (st' := [.int o6.1, .int v14]) rfl ?_
  refine s_icmp_eq (tgt := 1996) X (dk okd_law_29 15 rfl) (by decide) ?_ ?_
  · refine s_run X ok_law_29 60 1 (pc' := 1998) (vs' := [some (.ref b), some (.ref x), some (.ref m), some (.ref o), some (.int i), some (.int o6.1), some (.long o13.1), none]) (st' := [.int o6.1]) rfl ?_
    refine s_jn (κ := Option (Unit)) (fun k15 => Jd (Cn (c + o6.2.2)) 8 Q o13.2 2012 [some (.ref b), some (.ref x), some (.ref m), some (.ref o), some (.int i), none, none, none] [] k15) ?_ (fun k15 h16 => ?_)
    · refine s_run X ok_law_29 66 1 (pc' := 4006) (vs' := [some (.ref b), some (.ref x), some (.ref m), some (.ref o), some (.int i), none, none, none]) (st' := []) rfl ?_
      exact s_less [true, true, true, true, true, false, false, false] rfl (hk o13.2 ((c + o6.2.2)) hb7)
    · refine s_if_ne (tgt := 2012) X (dk okd_law_29 17 rfl) (by decide) ?_ ?_
      · exact s_less [true, true, true, true, true, false, false, false] rfl (h16)
      · refine s_run X ok_law_29 61 2 (pc' := 2003) (vs' := [some (.ref b), some (.ref x), some (.ref m), some (.ref o), some (.int i), some (.int o6.1), some (.long o13.1), none]) (st' := [.int 0, .ref o]) rfl ?_
        refine s_lald X to_ (dk okd_law_29 18 rfl) (fun v17 => ?_)
        refine s_run X ok_law_29 63 2 (pc' := 2007) (vs' := [some (.ref b), some (.ref x), some (.ref m), some (.ref o), some (.int i), some (.int o6.1), some (.long o13.1), none]) (st' := [.int (lg_cmp v17 o13.1)]) rfl ?_
        refine s_lif_eq (tgt := 2012) X (dk okd_law_29 19 rfl) (by decide) ?_ ?_
        · exact s_less [true, true, true, true, true, false, false, false] rfl (h16)
        · refine s_run X ok_law_29 65 1 (pc' := 2011) (vs' := [some (.ref b), some (.ref x), some (.ref m), some (.ref o), some (.int i), some (.int o6.1), some (.long o13.1), none]) (st' := [.int 0]) rfl ?_
          exact s_none
  · refine s_run X ok_law_29 59 1 (pc' := 1995) (vs' := [some (.ref b), some (.ref x), some (.ref m), some (.ref o), some (.int i), some (.int o6.1), some (.long o13.1), none]) (st' := [.int 0]) rfl ?_
    exact s_none
def tab_law_30 : List En := [(2015, 8, 1, 0), (2016, 8, 0, 0), (2017, 5, 4, 0), (2019, 0, 0, 1), (2020, 17, 0, 0), (2022, 8, 3, 0), (2026, 11, 5, 0), (2028, 8, 2, 0), (2029, 8, 0, 0), (2030, 5, 4, 0), (2032, 0, 0, 1), (2033, 17, 0, 0), (2038, 13, 6, 0), (2040, 8, 2, 0), (2044, 5, 5, 0), (2049, 0, 0, 0), (2051, 5, 5, 0), (2056, 8, 3, 0), (2057, 0, 0, 0), (2059, 7, 6, 0), (2061, 40, 0, 0), (2065, 0, 0, 0), (2067, 41, 4006, 0)]
theorem ok_law_30 : tab_law_30.all (okE code) = true := by decide +kernel
def ed_law_30 : List (Nat × Instr × Nat) := [(2021, .iaload, 1), (2023, .invokestatic 292, 3), (2034, .iaload, 1), (2035, .invokevirtual 294, 3), (2041, .invokevirtual 214, 3), (2046, .if_icmp .eq 5, 3), (2050, .ireturn, 1), (2053, .ifCond .ne 14, 3), (2058, .laload, 1), (2062, .ifCond .eq 5, 3), (2066, .ireturn, 1)]
theorem okd_law_30 : ed_law_30.all (okD code) = true := by decide +kernel
def f_law_30 (Ls : Nat) (xs : Nat → Int32) (S : St) (x m o : Nat) (i : Int32) (c : Nat) (kont : St → Nat → Option Unit) : Option Unit := sx Ls xs (i + 1) fun (v1 : Int32) => cl (f_L_sales S x v1 o) fun (o2 : Int32 × St × Nat) => bud (c + o2.2.2) <| sx Ls xs (i + 1) fun (v4 : Int32) => cl (f_X12_sales o2.2.1 m v4) fun (o5 : Int64 × St) => cl (f_X12_thrown o5.2 m) fun (v6 : Int32) => if v6 = o2.1 then (jn (κ := Option (Unit)) (kont o5.2 ((c + o2.2.2))) fun k7 => if o2.1 = 0 then (ldJ o5.2 o 0 fun (v9 : Int64) => if v9 = o5.1 then (k7) else (none)) else (k7)) else (none)
set_option maxHeartbeats 4000000 in
set_option maxRecDepth 100000 in
theorem c_law_30 {Cn : Nat → CT} {b Ls : Nat} {xs : Nat → Int32} {Q : Unit → State → Prop} {x m o : Nat} {i : Int32} (hf : Fam Cn b Ls xs) (tx0 : tT (Cn 0) x 10) (tm0 : tT (Cn 0) m 11) (to0 : tT (Cn 0) o 14) (S : St) (c : Nat) (hc : c ≤ 512) (kont : St → Nat → Option Unit) (hk : ∀ (S : St) (c : Nat), c ≤ 512 → Jd (Cn c) 8 Q S 4006 [some (.ref b), some (.ref x), some (.ref m), some (.ref o), some (.int i), none, none, none] [] (kont S c)) : Jd (Cn c) 8 Q S 2015 [some (.ref b), some (.ref x), some (.ref m), some (.ref o), some (.int i), none, none, none] [] (f_law_30 Ls xs S x m o i c kont) := by
  have X := hf.X hc
  have E := hf.E c
  have tx_ := hf.T c tx0
  have tm_ := hf.T c tm0
  have to_ := hf.T c to0
  unfold f_law_30
  refine s_run X ok_law_30 0 5 (pc' := 2021) (vs' := [some (.ref b), some (.ref x), some (.ref m), some (.ref o), some (.int i), none, none, none]) (st' := [.int (i + 1), .ref b, .ref x]) rfl ?_
  refine s_sld hf (dk okd_law_30 0 rfl) (fun v1 => ?_)
  refine s_run X ok_law_30 5 1 (pc' := 2023) (vs' := [some (.ref b), some (.ref x), some (.ref m), some (.ref o), some (.int i), none, none, none]) (st' := [.ref o, .int v1, .ref x]) rfl ?_
  refine s_callH (c0 := c) (As := [.ref x, .int v1, .ref o]) (rest := []) hf mh_L_292 (c_L_sales S x v1 o) (ta2 tx_ to_) rfl rfl (Nat.le_of_ble_eq_true rfl) (Nat.le_of_ble_eq_true rfl) (Nat.le_of_ble_eq_true rfl) (dk okd_law_30 1 rfl) (st' := fun o2 => [.int o2.1]) (fun _ => rfl) (fun o2 hb3 => ?_)
  have X := hf.X hb3
  have E := hf.E (c + o2.2.2)
  have tx_ := hf.T (c + o2.2.2) tx_
  have tm_ := hf.T (c + o2.2.2) tm_
  have to_ := hf.T (c + o2.2.2) to_
  refine s_run X ok_law_30 6 6 (pc' := 2034) (vs' := [some (.ref b), some (.ref x), some (.ref m), some (.ref o), some (.int i), some (.int o2.1), none, none]) (st' := [.int (i + 1), .ref b, .ref m]) rfl ?_
  refine s_sld hf (dk okd_law_30 2 rfl) (fun v4 => ?_)
  refine s_callV (b := m) (As := [.int v4]) (rest := []) X E mv_L_294 (c_X12_sales o2.2.1 m v4) rfl (ta1 tm_) rfl (by decide) tm_ rfl rfl (Nat.le_of_ble_eq_true rfl) (Nat.le_of_ble_eq_true rfl) (Nat.le_of_ble_eq_true rfl) (dk okd_law_30 3 rfl) (st' := fun o5 => [.long o5.1]) (fun _ => rfl) (fun o5 => ?_)
  refine s_run X ok_law_30 12 2 (pc' := 2041) (vs' := [some (.ref b), some (.ref x), some (.ref m), some (.ref o), some (.int i), some (.int o2.1), some (.long o5.1), none]) (st' := [.ref m]) rfl ?_
  refine s_callV (b := m) (As := []) (rest := []) X E mv_L_214 (c_X12_thrown o5.2 m) rfl (ta1 tm_) rfl (by decide) tm_ rfl rfl (Nat.le_of_ble_eq_true rfl) (Nat.le_of_ble_eq_true rfl) (Nat.le_of_ble_eq_true rfl) (dk okd_law_30 4 rfl) (st' := fun v6 => [.int v6]) (fun _ => rfl) (fun v6 => ?_)
  refine s_run X ok_law_30 14 1 (pc' := 2046) (vs' := [some (.ref b), some (.ref x), some (.ref m), some (.ref o), some (.int i), some (.int o2.1), some (.long o5.1), none]) (st' := [.int o2.1, .int v6]) rfl ?_
  refine s_icmp_eq (tgt := 2051) X (dk okd_law_30 5 rfl) (by decide) ?_ ?_
  · refine s_run X ok_law_30 16 1 (pc' := 2053) (vs' := [some (.ref b), some (.ref x), some (.ref m), some (.ref o), some (.int i), some (.int o2.1), some (.long o5.1), none]) (st' := [.int o2.1]) rfl ?_
    refine s_jn (κ := Option (Unit)) (fun k7 => Jd (Cn (c + o2.2.2)) 8 Q o5.2 2067 [some (.ref b), some (.ref x), some (.ref m), some (.ref o), some (.int i), none, none, none] [] k7) ?_ (fun k7 h8 => ?_)
    · refine s_run X ok_law_30 22 1 (pc' := 4006) (vs' := [some (.ref b), some (.ref x), some (.ref m), some (.ref o), some (.int i), none, none, none]) (st' := []) rfl ?_
      exact s_less [true, true, true, true, true, false, false, false] rfl (hk o5.2 ((c + o2.2.2)) hb3)
    · refine s_if_ne (tgt := 2067) X (dk okd_law_30 7 rfl) (by decide) ?_ ?_
      · exact s_less [true, true, true, true, true, false, false, false] rfl (h8)
      · refine s_run X ok_law_30 17 2 (pc' := 2058) (vs' := [some (.ref b), some (.ref x), some (.ref m), some (.ref o), some (.int i), some (.int o2.1), some (.long o5.1), none]) (st' := [.int 0, .ref o]) rfl ?_
        refine s_lald X to_ (dk okd_law_30 8 rfl) (fun v9 => ?_)
        refine s_run X ok_law_30 19 2 (pc' := 2062) (vs' := [some (.ref b), some (.ref x), some (.ref m), some (.ref o), some (.int i), some (.int o2.1), some (.long o5.1), none]) (st' := [.int (lg_cmp v9 o5.1)]) rfl ?_
        refine s_lif_eq (tgt := 2067) X (dk okd_law_30 9 rfl) (by decide) ?_ ?_
        · exact s_less [true, true, true, true, true, false, false, false] rfl (h8)
        · refine s_run X ok_law_30 21 1 (pc' := 2066) (vs' := [some (.ref b), some (.ref x), some (.ref m), some (.ref o), some (.int i), some (.int o2.1), some (.long o5.1), none]) (st' := [.int 0]) rfl ?_
          exact s_none
  · refine s_run X ok_law_30 15 1 (pc' := 2050) (vs' := [some (.ref b), some (.ref x), some (.ref m), some (.ref o), some (.int i), some (.int o2.1), some (.long o5.1), none]) (st' := [.int 0]) rfl ?_
    exact s_none
def tab_law_31 : List En := [(2070, 8, 1, 0), (2071, 8, 0, 0), (2072, 5, 4, 0), (2074, 0, 0, 1), (2075, 17, 0, 0), (2077, 8, 0, 0), (2078, 5, 4, 0), (2080, 0, 0, 2), (2081, 17, 0, 0), (2083, 8, 3, 0), (2087, 11, 5, 0), (2089, 8, 2, 0), (2090, 8, 0, 0), (2091, 5, 4, 0), (2093, 0, 0, 1), (2094, 17, 0, 0), (2096, 8, 0, 0), (2097, 5, 4, 0), (2099, 0, 0, 2), (2100, 17, 0, 0), (2105, 13, 6, 0), (2107, 8, 2, 0), (2111, 5, 5, 0), (2116, 0, 0, 0), (2118, 5, 5, 0), (2123, 8, 3, 0), (2124, 0, 0, 0), (2126, 7, 6, 0), (2128, 40, 0, 0), (2132, 0, 0, 0), (2134, 41, 4006, 0)]
theorem ok_law_31 : tab_law_31.all (okE code) = true := by decide +kernel
def ed_law_31 : List (Nat × Instr × Nat) := [(2076, .iaload, 1), (2082, .iaload, 1), (2084, .invokestatic 295, 3), (2095, .iaload, 1), (2101, .iaload, 1), (2102, .invokevirtual 297, 3), (2108, .invokevirtual 214, 3), (2113, .if_icmp .eq 5, 3), (2117, .ireturn, 1), (2120, .ifCond .ne 14, 3), (2125, .laload, 1), (2129, .ifCond .eq 5, 3), (2133, .ireturn, 1)]
theorem okd_law_31 : ed_law_31.all (okD code) = true := by decide +kernel
def f_law_31 (Ls : Nat) (xs : Nat → Int32) (S : St) (x m o : Nat) (i : Int32) (c : Nat) (kont : St → Nat → Option Unit) : Option Unit := sx Ls xs (i + 1) fun (v1 : Int32) => sx Ls xs (i + 2) fun (v2 : Int32) => cl (f_L_salesOf S x v1 v2 o) fun (o3 : Int32 × St × Nat) => bud (c + o3.2.2) <| sx Ls xs (i + 1) fun (v5 : Int32) => sx Ls xs (i + 2) fun (v6 : Int32) => cl (f_X12_salesOf o3.2.1 m v5 v6) fun (o7 : Int64 × St) => cl (f_X12_thrown o7.2 m) fun (v8 : Int32) => if v8 = o3.1 then (jn (κ := Option (Unit)) (kont o7.2 ((c + o3.2.2))) fun k9 => if o3.1 = 0 then (ldJ o7.2 o 0 fun (v11 : Int64) => if v11 = o7.1 then (k9) else (none)) else (k9)) else (none)
set_option maxHeartbeats 4000000 in
set_option maxRecDepth 100000 in
theorem c_law_31 {Cn : Nat → CT} {b Ls : Nat} {xs : Nat → Int32} {Q : Unit → State → Prop} {x m o : Nat} {i : Int32} (hf : Fam Cn b Ls xs) (tx0 : tT (Cn 0) x 10) (tm0 : tT (Cn 0) m 11) (to0 : tT (Cn 0) o 14) (S : St) (c : Nat) (hc : c ≤ 512) (kont : St → Nat → Option Unit) (hk : ∀ (S : St) (c : Nat), c ≤ 512 → Jd (Cn c) 8 Q S 4006 [some (.ref b), some (.ref x), some (.ref m), some (.ref o), some (.int i), none, none, none] [] (kont S c)) : Jd (Cn c) 8 Q S 2070 [some (.ref b), some (.ref x), some (.ref m), some (.ref o), some (.int i), none, none, none] [] (f_law_31 Ls xs S x m o i c kont) := by
  have X := hf.X hc
  have E := hf.E c
  have tx_ := hf.T c tx0
  have tm_ := hf.T c tm0
  have to_ := hf.T c to0
  unfold f_law_31
  refine s_run X ok_law_31 0 5 (pc' := 2076) (vs' := [some (.ref b), some (.ref x), some (.ref m), some (.ref o), some (.int i), none, none, none]) (st' := [.int (i + 1), .ref b, .ref x]) rfl ?_
  refine s_sld hf (dk okd_law_31 0 rfl) (fun v1 => ?_)
  refine s_run X ok_law_31 5 4 (pc' := 2082) (vs' := [some (.ref b), some (.ref x), some (.ref m), some (.ref o), some (.int i), none, none, none]) (st' := [.int (i + 2), .ref b, .int v1, .ref x]) rfl ?_
  refine s_sld hf (dk okd_law_31 1 rfl) (fun v2 => ?_)
  refine s_run X ok_law_31 9 1 (pc' := 2084) (vs' := [some (.ref b), some (.ref x), some (.ref m), some (.ref o), some (.int i), none, none, none]) (st' := [.ref o, .int v2, .int v1, .ref x]) rfl ?_
  refine s_callH (c0 := c) (As := [.ref x, .int v1, .int v2, .ref o]) (rest := []) hf mh_L_295 (c_L_salesOf S x v1 v2 o) (ta2 tx_ to_) rfl rfl (Nat.le_of_ble_eq_true rfl) (Nat.le_of_ble_eq_true rfl) (Nat.le_of_ble_eq_true rfl) (dk okd_law_31 2 rfl) (st' := fun o3 => [.int o3.1]) (fun _ => rfl) (fun o3 hb4 => ?_)
  have X := hf.X hb4
  have E := hf.E (c + o3.2.2)
  have tx_ := hf.T (c + o3.2.2) tx_
  have tm_ := hf.T (c + o3.2.2) tm_
  have to_ := hf.T (c + o3.2.2) to_
  refine s_run X ok_law_31 10 6 (pc' := 2095) (vs' := [some (.ref b), some (.ref x), some (.ref m), some (.ref o), some (.int i), some (.int o3.1), none, none]) (st' := [.int (i + 1), .ref b, .ref m]) rfl ?_
  refine s_sld hf (dk okd_law_31 3 rfl) (fun v5 => ?_)
  refine s_run X ok_law_31 16 4 (pc' := 2101) (vs' := [some (.ref b), some (.ref x), some (.ref m), some (.ref o), some (.int i), some (.int o3.1), none, none]) (st' := [.int (i + 2), .ref b, .int v5, .ref m]) rfl ?_
  refine s_sld hf (dk okd_law_31 4 rfl) (fun v6 => ?_)
  refine s_callV (b := m) (As := [.int v5, .int v6]) (rest := []) X E mv_L_297 (c_X12_salesOf o3.2.1 m v5 v6) rfl (ta1 tm_) rfl (by decide) tm_ rfl rfl (Nat.le_of_ble_eq_true rfl) (Nat.le_of_ble_eq_true rfl) (Nat.le_of_ble_eq_true rfl) (dk okd_law_31 5 rfl) (st' := fun o7 => [.long o7.1]) (fun _ => rfl) (fun o7 => ?_)
  refine s_run X ok_law_31 20 2 (pc' := 2108) (vs' := [some (.ref b), some (.ref x), some (.ref m), some (.ref o), some (.int i), some (.int o3.1), some (.long o7.1), none]) (st' := [.ref m]) rfl ?_
  refine s_callV (b := m) (As := []) (rest := []) X E mv_L_214 (c_X12_thrown o7.2 m) rfl (ta1 tm_) rfl (by decide) tm_ rfl rfl (Nat.le_of_ble_eq_true rfl) (Nat.le_of_ble_eq_true rfl) (Nat.le_of_ble_eq_true rfl) (dk okd_law_31 6 rfl) (st' := fun v8 => [.int v8]) (fun _ => rfl) (fun v8 => ?_)
  refine s_run X ok_law_31 22 1 (pc' := 2113) (vs' := [some (.ref b), some (.ref x), some (.ref m), some (.ref o), some (.int i), some (.int o3.1), some (.long o7.1), none]) (st' := [.int o3.1, .int v8]) rfl ?_
  refine s_icmp_eq (tgt := 2118) X (dk okd_law_31 7 rfl) (by decide) ?_ ?_
  · refine s_run X ok_law_31 24 1 (pc' := 2120) (vs' := [some (.ref b), some (.ref x), some (.ref m), some (.ref o), some (.int i), some (.int o3.1), some (.long o7.1), none]) (st' := [.int o3.1]) rfl ?_
    refine s_jn (κ := Option (Unit)) (fun k9 => Jd (Cn (c + o3.2.2)) 8 Q o7.2 2134 [some (.ref b), some (.ref x), some (.ref m), some (.ref o), some (.int i), none, none, none] [] k9) ?_ (fun k9 h10 => ?_)
    · refine s_run X ok_law_31 30 1 (pc' := 4006) (vs' := [some (.ref b), some (.ref x), some (.ref m), some (.ref o), some (.int i), none, none, none]) (st' := []) rfl ?_
      exact s_less [true, true, true, true, true, false, false, false] rfl (hk o7.2 ((c + o3.2.2)) hb4)
    · refine s_if_ne (tgt := 2134) X (dk okd_law_31 9 rfl) (by decide) ?_ ?_
      · exact s_less [true, true, true, true, true, false, false, false] rfl (h10)
      · refine s_run X ok_law_31 25 2 (pc' := 2125) (vs' := [some (.ref b), some (.ref x), some (.ref m), some (.ref o), some (.int i), some (.int o3.1), some (.long o7.1), none]) (st' := [.int 0, .ref o]) rfl ?_
        refine s_lald X to_ (dk okd_law_31 10 rfl) (fun v11 => ?_)
        refine s_run X ok_law_31 27 2 (pc' := 2129) (vs' := [some (.ref b), some (.ref x), some (.ref m), some (.ref o), some (.int i), some (.int o3.1), some (.long o7.1), none]) (st' := [.int (lg_cmp v11 o7.1)]) rfl ?_
        refine s_lif_eq (tgt := 2134) X (dk okd_law_31 11 rfl) (by decide) ?_ ?_
        · exact s_less [true, true, true, true, true, false, false, false] rfl (h10)
        · refine s_run X ok_law_31 29 1 (pc' := 2133) (vs' := [some (.ref b), some (.ref x), some (.ref m), some (.ref o), some (.int i), some (.int o3.1), some (.long o7.1), none]) (st' := [.int 0]) rfl ?_
          exact s_none
  · refine s_run X ok_law_31 23 1 (pc' := 2117) (vs' := [some (.ref b), some (.ref x), some (.ref m), some (.ref o), some (.int i), some (.int o3.1), some (.long o7.1), none]) (st' := [.int 0]) rfl ?_
    exact s_none
def tab_law_32 : List En := [(2137, 8, 1, 0), (2138, 8, 0, 0), (2139, 5, 4, 0), (2141, 0, 0, 1), (2142, 17, 0, 0), (2147, 8, 2, 0), (2148, 8, 0, 0), (2149, 5, 4, 0), (2151, 0, 0, 1), (2152, 17, 0, 0), (2160, 0, 0, 0)]
theorem ok_law_32 : tab_law_32.all (okE code) = true := by decide +kernel
def ed_law_32 : List (Nat × Instr × Nat) := [(2143, .iaload, 1), (2144, .invokevirtual 298, 3), (2153, .iaload, 1), (2154, .invokevirtual 301, 3), (2157, .if_icmp .eq 1849, 3), (2161, .ireturn, 1)]
theorem okd_law_32 : ed_law_32.all (okD code) = true := by decide +kernel
def f_law_32 (Ls : Nat) (xs : Nat → Int32) (S : St) (x m o : Nat) (i : Int32) (c : Nat) (kont : St → Nat → Option Unit) : Option Unit := sx Ls xs (i + 1) fun (v1 : Int32) => cl (f_X11_ranked S x v1) fun (v2 : Int32) => sx Ls xs (i + 1) fun (v3 : Int32) => cl (f_X12_ranked S m v3) fun (o4 : Int32 × St) => if v2 = o4.1 then (kont o4.2 (c)) else (none)
set_option maxHeartbeats 4000000 in
set_option maxRecDepth 100000 in
theorem c_law_32 {Cn : Nat → CT} {b Ls : Nat} {xs : Nat → Int32} {Q : Unit → State → Prop} {x m o : Nat} {i : Int32} (hf : Fam Cn b Ls xs) (tx0 : tT (Cn 0) x 10) (tm0 : tT (Cn 0) m 11) (to0 : tT (Cn 0) o 14) (S : St) (c : Nat) (hc : c ≤ 512) (kont : St → Nat → Option Unit) (hk : ∀ (S : St) (c : Nat), c ≤ 512 → Jd (Cn c) 8 Q S 4006 [some (.ref b), some (.ref x), some (.ref m), some (.ref o), some (.int i), none, none, none] [] (kont S c)) : Jd (Cn c) 8 Q S 2137 [some (.ref b), some (.ref x), some (.ref m), some (.ref o), some (.int i), none, none, none] [] (f_law_32 Ls xs S x m o i c kont) := by
  have X := hf.X hc
  have E := hf.E c
  have tx_ := hf.T c tx0
  have tm_ := hf.T c tm0
  have to_ := hf.T c to0
  unfold f_law_32
  refine s_run X ok_law_32 0 5 (pc' := 2143) (vs' := [some (.ref b), some (.ref x), some (.ref m), some (.ref o), some (.int i), none, none, none]) (st' := [.int (i + 1), .ref b, .ref x]) rfl ?_
  refine s_sld hf (dk okd_law_32 0 rfl) (fun v1 => ?_)
  refine s_callV (b := x) (As := [.int v1]) (rest := []) X E mv_L_298 (c_X11_ranked S x v1) rfl (ta1 tx_) rfl (by decide) tx_ rfl rfl (Nat.le_of_ble_eq_true rfl) (Nat.le_of_ble_eq_true rfl) (Nat.le_of_ble_eq_true rfl) (dk okd_law_32 1 rfl) (st' := fun v2 => [.int v2]) (fun _ => rfl) (fun v2 => ?_)
  refine s_run X ok_law_32 5 5 (pc' := 2153) (vs' := [some (.ref b), some (.ref x), some (.ref m), some (.ref o), some (.int i), none, none, none]) (st' := [.int (i + 1), .ref b, .ref m, .int v2]) rfl ?_
  refine s_sld hf (dk okd_law_32 2 rfl) (fun v3 => ?_)
  refine s_callV (b := m) (As := [.int v3]) (rest := [.int v2]) X E mv_L_301 (c_X12_ranked S m v3) rfl (ta1 tm_) rfl (by decide) tm_ rfl rfl (Nat.le_of_ble_eq_true rfl) (Nat.le_of_ble_eq_true rfl) (Nat.le_of_ble_eq_true rfl) (dk okd_law_32 3 rfl) (st' := fun o4 => [.int o4.1, .int v2]) (fun _ => rfl) (fun o4 => ?_)
  refine s_icmp_eq (tgt := 4006) X (dk okd_law_32 4 rfl) (by decide) ?_ ?_
  · exact s_less [true, true, true, true, true, false, false, false] rfl (hk o4.2 (c) hc)
  · refine s_run X ok_law_32 10 1 (pc' := 2161) (vs' := [some (.ref b), some (.ref x), some (.ref m), some (.ref o), some (.int i), none, none, none]) (st' := [.int 0]) rfl ?_
    exact s_none
def tab_law_33 : List En := [(2162, 8, 1, 0), (2163, 8, 0, 0), (2164, 5, 4, 0), (2166, 0, 0, 1), (2167, 17, 0, 0), (2169, 8, 0, 0), (2170, 5, 4, 0), (2172, 0, 0, 2), (2173, 17, 0, 0), (2175, 8, 3, 0), (2179, 11, 5, 0), (2181, 8, 2, 0), (2182, 8, 0, 0), (2183, 5, 4, 0), (2185, 0, 0, 1), (2186, 17, 0, 0), (2188, 8, 0, 0), (2189, 5, 4, 0), (2191, 0, 0, 2), (2192, 17, 0, 0), (2197, 13, 6, 0), (2199, 8, 2, 0), (2203, 5, 5, 0), (2208, 0, 0, 0), (2210, 5, 5, 0), (2215, 8, 3, 0), (2216, 0, 0, 0), (2218, 7, 6, 0), (2220, 40, 0, 0), (2224, 0, 0, 0), (2226, 41, 4006, 0)]
theorem ok_law_33 : tab_law_33.all (okE code) = true := by decide +kernel
def ed_law_33 : List (Nat × Instr × Nat) := [(2168, .iaload, 1), (2174, .iaload, 1), (2176, .invokestatic 302, 3), (2187, .iaload, 1), (2193, .iaload, 1), (2194, .invokevirtual 304, 3), (2200, .invokevirtual 214, 3), (2205, .if_icmp .eq 5, 3), (2209, .ireturn, 1), (2212, .ifCond .ne 14, 3), (2217, .laload, 1), (2221, .ifCond .eq 5, 3), (2225, .ireturn, 1)]
theorem okd_law_33 : ed_law_33.all (okD code) = true := by decide +kernel
def f_law_33 (Ls : Nat) (xs : Nat → Int32) (S : St) (x m o : Nat) (i : Int32) (c : Nat) (kont : St → Nat → Option Unit) : Option Unit := sx Ls xs (i + 1) fun (v1 : Int32) => sx Ls xs (i + 2) fun (v2 : Int32) => cl (f_L_creditDue S x v1 v2 o) fun (o3 : Int32 × St × Nat) => bud (c + o3.2.2) <| sx Ls xs (i + 1) fun (v5 : Int32) => sx Ls xs (i + 2) fun (v6 : Int32) => cl (f_X12_creditDue o3.2.1 m v5 v6) fun (o7 : Int64 × St) => cl (f_X12_thrown o7.2 m) fun (v8 : Int32) => if v8 = o3.1 then (jn (κ := Option (Unit)) (kont o7.2 ((c + o3.2.2))) fun k9 => if o3.1 = 0 then (ldJ o7.2 o 0 fun (v11 : Int64) => if v11 = o7.1 then (k9) else (none)) else (k9)) else (none)
set_option maxHeartbeats 4000000 in
set_option maxRecDepth 100000 in
theorem c_law_33 {Cn : Nat → CT} {b Ls : Nat} {xs : Nat → Int32} {Q : Unit → State → Prop} {x m o : Nat} {i : Int32} (hf : Fam Cn b Ls xs) (tx0 : tT (Cn 0) x 10) (tm0 : tT (Cn 0) m 11) (to0 : tT (Cn 0) o 14) (S : St) (c : Nat) (hc : c ≤ 512) (kont : St → Nat → Option Unit) (hk : ∀ (S : St) (c : Nat), c ≤ 512 → Jd (Cn c) 8 Q S 4006 [some (.ref b), some (.ref x), some (.ref m), some (.ref o), some (.int i), none, none, none] [] (kont S c)) : Jd (Cn c) 8 Q S 2162 [some (.ref b), some (.ref x), some (.ref m), some (.ref o), some (.int i), none, none, none] [] (f_law_33 Ls xs S x m o i c kont) := by
  have X := hf.X hc
  have E := hf.E c
  have tx_ := hf.T c tx0
  have tm_ := hf.T c tm0
  have to_ := hf.T c to0
  unfold f_law_33
  refine s_run X ok_law_33 0 5 (pc' := 2168) (vs' := [some (.ref b), some (.ref x), some (.ref m), some (.ref o), some (.int i), none, none, none]) (st' := [.int (i + 1), .ref b, .ref x]) rfl ?_
  refine s_sld hf (dk okd_law_33 0 rfl) (fun v1 => ?_)
  refine s_run X ok_law_33 5 4 (pc' := 2174) (vs' := [some (.ref b), some (.ref x), some (.ref m), some (.ref o), some (.int i), none, none, none]) (st' := [.int (i + 2), .ref b, .int v1, .ref x]) rfl ?_
  refine s_sld hf (dk okd_law_33 1 rfl) (fun v2 => ?_)
  refine s_run X ok_law_33 9 1 (pc' := 2176) (vs' := [some (.ref b), some (.ref x), some (.ref m), some (.ref o), some (.int i), none, none, none]) (st' := [.ref o, .int v2, .int v1, .ref x]) rfl ?_
  refine s_callH (c0 := c) (As := [.ref x, .int v1, .int v2, .ref o]) (rest := []) hf mh_L_302 (c_L_creditDue S x v1 v2 o) (ta2 tx_ to_) rfl rfl (Nat.le_of_ble_eq_true rfl) (Nat.le_of_ble_eq_true rfl) (Nat.le_of_ble_eq_true rfl) (dk okd_law_33 2 rfl) (st' := fun o3 => [.int o3.1]) (fun _ => rfl) (fun o3 hb4 => ?_)
  have X := hf.X hb4
  have E := hf.E (c + o3.2.2)
  have tx_ := hf.T (c + o3.2.2) tx_
  have tm_ := hf.T (c + o3.2.2) tm_
  have to_ := hf.T (c + o3.2.2) to_
  refine s_run X ok_law_33 10 6 (pc' := 2187) (vs' := [some (.ref b), some (.ref x), some (.ref m), some (.ref o), some (.int i), some (.int o3.1), none, none]) (st' := [.int (i + 1), .ref b, .ref m]) rfl ?_
  refine s_sld hf (dk okd_law_33 3 rfl) (fun v5 => ?_)
  refine s_run X ok_law_33 16 4 (pc' := 2193) (vs' := [some (.ref b), some (.ref x), some (.ref m), some (.ref o), some (.int i), some (.int o3.1), none, none]) (st' := [.int (i + 2), .ref b, .int v5, .ref m]) rfl ?_
  refine s_sld hf (dk okd_law_33 4 rfl) (fun v6 => ?_)
  refine s_callV (b := m) (As := [.int v5, .int v6]) (rest := []) X E mv_L_304 (c_X12_creditDue o3.2.1 m v5 v6) rfl (ta1 tm_) rfl (by decide) tm_ rfl rfl (Nat.le_of_ble_eq_true rfl) (Nat.le_of_ble_eq_true rfl) (Nat.le_of_ble_eq_true rfl) (dk okd_law_33 5 rfl) (st' := fun o7 => [.long o7.1]) (fun _ => rfl) (fun o7 => ?_)
  refine s_run X ok_law_33 20 2 (pc' := 2200) (vs' := [some (.ref b), some (.ref x), some (.ref m), some (.ref o), some (.int i), some (.int o3.1), some (.long o7.1), none]) (st' := [.ref m]) rfl ?_
  refine s_callV (b := m) (As := []) (rest := []) X E mv_L_214 (c_X12_thrown o7.2 m) rfl (ta1 tm_) rfl (by decide) tm_ rfl rfl (Nat.le_of_ble_eq_true rfl) (Nat.le_of_ble_eq_true rfl) (Nat.le_of_ble_eq_true rfl) (dk okd_law_33 6 rfl) (st' := fun v8 => [.int v8]) (fun _ => rfl) (fun v8 => ?_)
  refine s_run X ok_law_33 22 1 (pc' := 2205) (vs' := [some (.ref b), some (.ref x), some (.ref m), some (.ref o), some (.int i), some (.int o3.1), some (.long o7.1), none]) (st' := [.int o3.1, .int v8]) rfl ?_
  refine s_icmp_eq (tgt := 2210) X (dk okd_law_33 7 rfl) (by decide) ?_ ?_
  · refine s_run X ok_law_33 24 1 (pc' := 2212) (vs' := [some (.ref b), some (.ref x), some (.ref m), some (.ref o), some (.int i), some (.int o3.1), some (.long o7.1), none]) (st' := [.int o3.1]) rfl ?_
    refine s_jn (κ := Option (Unit)) (fun k9 => Jd (Cn (c + o3.2.2)) 8 Q o7.2 2226 [some (.ref b), some (.ref x), some (.ref m), some (.ref o), some (.int i), none, none, none] [] k9) ?_ (fun k9 h10 => ?_)
    · refine s_run X ok_law_33 30 1 (pc' := 4006) (vs' := [some (.ref b), some (.ref x), some (.ref m), some (.ref o), some (.int i), none, none, none]) (st' := []) rfl ?_
      exact s_less [true, true, true, true, true, false, false, false] rfl (hk o7.2 ((c + o3.2.2)) hb4)
    · refine s_if_ne (tgt := 2226) X (dk okd_law_33 9 rfl) (by decide) ?_ ?_
      · exact s_less [true, true, true, true, true, false, false, false] rfl (h10)
      · refine s_run X ok_law_33 25 2 (pc' := 2217) (vs' := [some (.ref b), some (.ref x), some (.ref m), some (.ref o), some (.int i), some (.int o3.1), some (.long o7.1), none]) (st' := [.int 0, .ref o]) rfl ?_
        refine s_lald X to_ (dk okd_law_33 10 rfl) (fun v11 => ?_)
        refine s_run X ok_law_33 27 2 (pc' := 2221) (vs' := [some (.ref b), some (.ref x), some (.ref m), some (.ref o), some (.int i), some (.int o3.1), some (.long o7.1), none]) (st' := [.int (lg_cmp v11 o7.1)]) rfl ?_
        refine s_lif_eq (tgt := 2226) X (dk okd_law_33 11 rfl) (by decide) ?_ ?_
        · exact s_less [true, true, true, true, true, false, false, false] rfl (h10)
        · refine s_run X ok_law_33 29 1 (pc' := 2225) (vs' := [some (.ref b), some (.ref x), some (.ref m), some (.ref o), some (.int i), some (.int o3.1), some (.long o7.1), none]) (st' := [.int 0]) rfl ?_
          exact s_none
  · refine s_run X ok_law_33 23 1 (pc' := 2209) (vs' := [some (.ref b), some (.ref x), some (.ref m), some (.ref o), some (.int i), some (.int o3.1), some (.long o7.1), none]) (st' := [.int 0]) rfl ?_
    exact s_none
def tab_law_34 : List En := [(2229, 8, 1, 0), (2230, 8, 3, 0), (2234, 11, 5, 0), (2236, 8, 2, 0), (2240, 11, 6, 0), (2242, 8, 2, 0), (2246, 5, 5, 0), (2251, 0, 0, 0), (2253, 5, 5, 0), (2258, 8, 3, 0), (2259, 0, 0, 0), (2261, 5, 6, 0), (2263, 31, 0, 0), (2264, 40, 0, 0), (2268, 0, 0, 0), (2270, 41, 4006, 0)]
theorem ok_law_34 : tab_law_34.all (okE code) = true := by decide +kernel
def ed_law_34 : List (Nat × Instr × Nat) := [(2231, .invokestatic 305, 3), (2237, .invokevirtual 308, 3), (2243, .invokevirtual 214, 3), (2248, .if_icmp .eq 5, 3), (2252, .ireturn, 1), (2255, .ifCond .ne 15, 3), (2260, .laload, 1), (2265, .ifCond .eq 5, 3), (2269, .ireturn, 1)]
theorem okd_law_34 : ed_law_34.all (okD code) = true := by decide +kernel
def f_law_34 (Ls : Nat) (xs : Nat → Int32) (S : St) (x m o : Nat) (i : Int32) (c : Nat) (kont : St → Nat → Option Unit) : Option Unit := cl (f_L_closeMonth S x o) fun (o1 : Int32 × St × Nat) => bud (c + o1.2.2) <| cl (f_X12_closeMonth o1.2.1 m) fun (o3 : Int32 × St) => cl (f_X12_thrown o3.2 m) fun (v4 : Int32) => if v4 = o1.1 then (jn (κ := Option (Unit)) (kont o3.2 ((c + o1.2.2))) fun k5 => if o1.1 = 0 then (ldJ o3.2 o 0 fun (v7 : Int64) => if v7 = (Int32.toInt64 o3.1) then (k5) else (none)) else (k5)) else (none)
set_option maxHeartbeats 4000000 in
set_option maxRecDepth 100000 in
theorem c_law_34 {Cn : Nat → CT} {b Ls : Nat} {xs : Nat → Int32} {Q : Unit → State → Prop} {x m o : Nat} {i : Int32} (hf : Fam Cn b Ls xs) (tx0 : tT (Cn 0) x 10) (tm0 : tT (Cn 0) m 11) (to0 : tT (Cn 0) o 14) (S : St) (c : Nat) (hc : c ≤ 512) (kont : St → Nat → Option Unit) (hk : ∀ (S : St) (c : Nat), c ≤ 512 → Jd (Cn c) 8 Q S 4006 [some (.ref b), some (.ref x), some (.ref m), some (.ref o), some (.int i), none, none, none] [] (kont S c)) : Jd (Cn c) 8 Q S 2229 [some (.ref b), some (.ref x), some (.ref m), some (.ref o), some (.int i), none, none, none] [] (f_law_34 Ls xs S x m o i c kont) := by
  have X := hf.X hc
  have E := hf.E c
  have tx_ := hf.T c tx0
  have tm_ := hf.T c tm0
  have to_ := hf.T c to0
  unfold f_law_34
  refine s_run X ok_law_34 0 2 (pc' := 2231) (vs' := [some (.ref b), some (.ref x), some (.ref m), some (.ref o), some (.int i), none, none, none]) (st' := [.ref o, .ref x]) rfl ?_
  refine s_callH (c0 := c) (As := [.ref x, .ref o]) (rest := []) hf mh_L_305 (c_L_closeMonth S x o) (ta2 tx_ to_) rfl rfl (Nat.le_of_ble_eq_true rfl) (Nat.le_of_ble_eq_true rfl) (Nat.le_of_ble_eq_true rfl) (dk okd_law_34 0 rfl) (st' := fun o1 => [.int o1.1]) (fun _ => rfl) (fun o1 hb2 => ?_)
  have X := hf.X hb2
  have E := hf.E (c + o1.2.2)
  have tx_ := hf.T (c + o1.2.2) tx_
  have tm_ := hf.T (c + o1.2.2) tm_
  have to_ := hf.T (c + o1.2.2) to_
  refine s_run X ok_law_34 2 2 (pc' := 2237) (vs' := [some (.ref b), some (.ref x), some (.ref m), some (.ref o), some (.int i), some (.int o1.1), none, none]) (st' := [.ref m]) rfl ?_
  refine s_callV (b := m) (As := []) (rest := []) X E mv_L_308 (c_X12_closeMonth o1.2.1 m) rfl (ta1 tm_) rfl (by decide) tm_ rfl rfl (Nat.le_of_ble_eq_true rfl) (Nat.le_of_ble_eq_true rfl) (Nat.le_of_ble_eq_true rfl) (dk okd_law_34 1 rfl) (st' := fun o3 => [.int o3.1]) (fun _ => rfl) (fun o3 => ?_)
  refine s_run X ok_law_34 4 2 (pc' := 2243) (vs' := [some (.ref b), some (.ref x), some (.ref m), some (.ref o), some (.int i), some (.int o1.1), some (.int o3.1), none]) (st' := [.ref m]) rfl ?_
  refine s_callV (b := m) (As := []) (rest := []) X E mv_L_214 (c_X12_thrown o3.2 m) rfl (ta1 tm_) rfl (by decide) tm_ rfl rfl (Nat.le_of_ble_eq_true rfl) (Nat.le_of_ble_eq_true rfl) (Nat.le_of_ble_eq_true rfl) (dk okd_law_34 2 rfl) (st' := fun v4 => [.int v4]) (fun _ => rfl) (fun v4 => ?_)
  refine s_run X ok_law_34 6 1 (pc' := 2248) (vs' := [some (.ref b), some (.ref x), some (.ref m), some (.ref o), some (.int i), some (.int o1.1), some (.int o3.1), none]) (st' := [.int o1.1, .int v4]) rfl ?_
  refine s_icmp_eq (tgt := 2253) X (dk okd_law_34 3 rfl) (by decide) ?_ ?_
  · refine s_run X ok_law_34 8 1 (pc' := 2255) (vs' := [some (.ref b), some (.ref x), some (.ref m), some (.ref o), some (.int i), some (.int o1.1), some (.int o3.1), none]) (st' := [.int o1.1]) rfl ?_
    refine s_jn (κ := Option (Unit)) (fun k5 => Jd (Cn (c + o1.2.2)) 8 Q o3.2 2270 [some (.ref b), some (.ref x), some (.ref m), some (.ref o), some (.int i), none, none, none] [] k5) ?_ (fun k5 h6 => ?_)
    · refine s_run X ok_law_34 15 1 (pc' := 4006) (vs' := [some (.ref b), some (.ref x), some (.ref m), some (.ref o), some (.int i), none, none, none]) (st' := []) rfl ?_
      exact s_less [true, true, true, true, true, false, false, false] rfl (hk o3.2 ((c + o1.2.2)) hb2)
    · refine s_if_ne (tgt := 2270) X (dk okd_law_34 5 rfl) (by decide) ?_ ?_
      · exact s_less [true, true, true, true, true, false, false, false] rfl (h6)
      · refine s_run X ok_law_34 9 2 (pc' := 2260) (vs' := [some (.ref b), some (.ref x), some (.ref m), some (.ref o), some (.int i), some (.int o1.1), some (.int o3.1), none]) (st' := [.int 0, .ref o]) rfl ?_
        refine s_lald X to_ (dk okd_law_34 6 rfl) (fun v7 => ?_)
        refine s_run X ok_law_34 11 3 (pc' := 2265) (vs' := [some (.ref b), some (.ref x), some (.ref m), some (.ref o), some (.int i), some (.int o1.1), some (.int o3.1), none]) (st' := [.int (lg_cmp v7 (Int32.toInt64 o3.1))]) rfl ?_
        refine s_lif_eq (tgt := 2270) X (dk okd_law_34 7 rfl) (by decide) ?_ ?_
        · exact s_less [true, true, true, true, true, false, false, false] rfl (h6)
        · refine s_run X ok_law_34 14 1 (pc' := 2269) (vs' := [some (.ref b), some (.ref x), some (.ref m), some (.ref o), some (.int i), some (.int o1.1), some (.int o3.1), none]) (st' := [.int 0]) rfl ?_
          exact s_none
  · refine s_run X ok_law_34 7 1 (pc' := 2252) (vs' := [some (.ref b), some (.ref x), some (.ref m), some (.ref o), some (.int i), some (.int o1.1), some (.int o3.1), none]) (st' := [.int 0]) rfl ?_
    exact s_none
def tab_law_35 : List En := [(2273, 8, 1, 0), (2274, 8, 0, 0), (2275, 5, 4, 0), (2277, 0, 0, 1), (2278, 17, 0, 0), (2280, 8, 0, 0), (2281, 5, 4, 0), (2283, 0, 0, 2), (2284, 17, 0, 0), (2286, 8, 0, 0), (2287, 5, 4, 0), (2289, 0, 0, 3), (2290, 17, 0, 0), (2292, 8, 3, 0), (2296, 11, 5, 0), (2298, 8, 2, 0), (2299, 8, 0, 0), (2300, 5, 4, 0), (2302, 0, 0, 1), (2303, 17, 0, 0), (2305, 8, 0, 0), (2306, 5, 4, 0), (2308, 0, 0, 2), (2309, 17, 0, 0), (2311, 8, 0, 0), (2312, 5, 4, 0), (2314, 0, 0, 3), (2315, 17, 0, 0), (2320, 13, 6, 0), (2322, 8, 2, 0), (2326, 5, 5, 0), (2331, 0, 0, 0), (2333, 5, 5, 0), (2338, 8, 3, 0), (2339, 0, 0, 0), (2341, 7, 6, 0), (2343, 40, 0, 0), (2347, 0, 0, 0), (2349, 41, 4006, 0)]
theorem ok_law_35 : tab_law_35.all (okE code) = true := by decide +kernel
def ed_law_35 : List (Nat × Instr × Nat) := [(2279, .iaload, 1), (2285, .iaload, 1), (2291, .iaload, 1), (2293, .invokestatic 309, 3), (2304, .iaload, 1), (2310, .iaload, 1), (2316, .iaload, 1), (2317, .invokevirtual 311, 3), (2323, .invokevirtual 214, 3), (2328, .if_icmp .eq 5, 3), (2332, .ireturn, 1), (2335, .ifCond .ne 14, 3), (2340, .laload, 1), (2344, .ifCond .eq 5, 3), (2348, .ireturn, 1)]
theorem okd_law_35 : ed_law_35.all (okD code) = true := by decide +kernel
def f_law_35 (Ls : Nat) (xs : Nat → Int32) (S : St) (x m o : Nat) (i : Int32) (c : Nat) (kont : St → Nat → Option Unit) : Option Unit := sx Ls xs (i + 1) fun (v1 : Int32) => sx Ls xs (i + 2) fun (v2 : Int32) => sx Ls xs (i + 3) fun (v3 : Int32) => cl (f_L_invoice S x v1 v2 v3 o) fun (o4 : Int32 × St × Nat) => bud (c + o4.2.2) <| sx Ls xs (i + 1) fun (v6 : Int32) => sx Ls xs (i + 2) fun (v7 : Int32) => sx Ls xs (i + 3) fun (v8 : Int32) => cl (f_X12_invoice o4.2.1 m v6 v7 v8) fun (o9 : Int64 × St) => cl (f_X12_thrown o9.2 m) fun (v10 : Int32) => if v10 = o4.1 then (jn (κ := Option (Unit)) (kont o9.2 ((c + o4.2.2))) fun k11 => if o4.1 = 0 then (ldJ o9.2 o 0 fun (v13 : Int64) => if v13 = o9.1 then (k11) else (none)) else (k11)) else (none)
set_option maxHeartbeats 4000000 in
set_option maxRecDepth 100000 in
theorem c_law_35 {Cn : Nat → CT} {b Ls : Nat} {xs : Nat → Int32} {Q : Unit → State → Prop} {x m o : Nat} {i : Int32} (hf : Fam Cn b Ls xs) (tx0 : tT (Cn 0) x 10) (tm0 : tT (Cn 0) m 11) (to0 : tT (Cn 0) o 14) (S : St) (c : Nat) (hc : c ≤ 512) (kont : St → Nat → Option Unit) (hk : ∀ (S : St) (c : Nat), c ≤ 512 → Jd (Cn c) 8 Q S 4006 [some (.ref b), some (.ref x), some (.ref m), some (.ref o), some (.int i), none, none, none] [] (kont S c)) : Jd (Cn c) 8 Q S 2273 [some (.ref b), some (.ref x), some (.ref m), some (.ref o), some (.int i), none, none, none] [] (f_law_35 Ls xs S x m o i c kont) := by
  have X := hf.X hc
  have E := hf.E c
  have tx_ := hf.T c tx0
  have tm_ := hf.T c tm0
  have to_ := hf.T c to0
  unfold f_law_35
  refine s_run X ok_law_35 0 5 (pc' := 2279) (vs' := [some (.ref b), some (.ref x), some (.ref m), some (.ref o), some (.int i), none, none, none]) (st' := [.int (i + 1), .ref b, .ref x]) rfl ?_
  refine s_sld hf (dk okd_law_35 0 rfl) (fun v1 => ?_)
  refine s_run X ok_law_35 5 4 (pc' := 2285) (vs' := [some (.ref b), some (.ref x), some (.ref m), some (.ref o), some (.int i), none, none, none]) (st' := [.int (i + 2), .ref b, .int v1, .ref x]) rfl ?_
  refine s_sld hf (dk okd_law_35 1 rfl) (fun v2 => ?_)
  refine s_run X ok_law_35 9 4 (pc' := 2291) (vs' := [some (.ref b), some (.ref x), some (.ref m), some (.ref o), some (.int i), none, none, none]) (st' := [.int (i + 3), .ref b, .int v2, .int v1, .ref x]) rfl ?_
  refine s_sld hf (dk okd_law_35 2 rfl) (fun v3 => ?_)
  refine s_run X ok_law_35 13 1 (pc' := 2293) (vs' := [some (.ref b), some (.ref x), some (.ref m), some (.ref o), some (.int i), none, none, none]) (st' := [.ref o, .int v3, .int v2, .int v1, .ref x]) rfl ?_
  refine s_callH (c0 := c) (As := [.ref x, .int v1, .int v2, .int v3, .ref o]) (rest := []) hf mh_L_309 (c_L_invoice S x v1 v2 v3 o) (ta2 tx_ to_) rfl rfl (Nat.le_of_ble_eq_true rfl) (Nat.le_of_ble_eq_true rfl) (Nat.le_of_ble_eq_true rfl) (dk okd_law_35 3 rfl) (st' := fun o4 => [.int o4.1]) (fun _ => rfl) (fun o4 hb5 => ?_)
  have X := hf.X hb5
  have E := hf.E (c + o4.2.2)
  have tx_ := hf.T (c + o4.2.2) tx_
  have tm_ := hf.T (c + o4.2.2) tm_
  have to_ := hf.T (c + o4.2.2) to_
  refine s_run X ok_law_35 14 6 (pc' := 2304) (vs' := [some (.ref b), some (.ref x), some (.ref m), some (.ref o), some (.int i), some (.int o4.1), none, none]) (st' := [.int (i + 1), .ref b, .ref m]) rfl ?_
  refine s_sld hf (dk okd_law_35 4 rfl) (fun v6 => ?_)
  refine s_run X ok_law_35 20 4 (pc' := 2310) (vs' := [some (.ref b), some (.ref x), some (.ref m), some (.ref o), some (.int i), some (.int o4.1), none, none]) (st' := [.int (i + 2), .ref b, .int v6, .ref m]) rfl ?_
  refine s_sld hf (dk okd_law_35 5 rfl) (fun v7 => ?_)
  refine s_run X ok_law_35 24 4 (pc' := 2316) (vs' := [some (.ref b), some (.ref x), some (.ref m), some (.ref o), some (.int i), some (.int o4.1), none, none]) (st' := [.int (i + 3), .ref b, .int v7, .int v6, .ref m]) rfl ?_
  refine s_sld hf (dk okd_law_35 6 rfl) (fun v8 => ?_)
  refine s_callV (b := m) (As := [.int v6, .int v7, .int v8]) (rest := []) X E mv_L_311 (c_X12_invoice o4.2.1 m v6 v7 v8) rfl (ta1 tm_) rfl (by decide) tm_ rfl rfl (Nat.le_of_ble_eq_true rfl) (Nat.le_of_ble_eq_true rfl) (Nat.le_of_ble_eq_true rfl) (dk okd_law_35 7 rfl) (st' := fun o9 => [.long o9.1]) (fun _ => rfl) (fun o9 => ?_)
  refine s_run X ok_law_35 28 2 (pc' := 2323) (vs' := [some (.ref b), some (.ref x), some (.ref m), some (.ref o), some (.int i), some (.int o4.1), some (.long o9.1), none]) (st' := [.ref m]) rfl ?_
  refine s_callV (b := m) (As := []) (rest := []) X E mv_L_214 (c_X12_thrown o9.2 m) rfl (ta1 tm_) rfl (by decide) tm_ rfl rfl (Nat.le_of_ble_eq_true rfl) (Nat.le_of_ble_eq_true rfl) (Nat.le_of_ble_eq_true rfl) (dk okd_law_35 8 rfl) (st' := fun v10 => [.int v10]) (fun _ => rfl) (fun v10 => ?_)
  refine s_run X ok_law_35 30 1 (pc' := 2328) (vs' := [some (.ref b), some (.ref x), some (.ref m), some (.ref o), some (.int i), some (.int o4.1), some (.long o9.1), none]) (st' := [.int o4.1, .int v10]) rfl ?_
  refine s_icmp_eq (tgt := 2333) X (dk okd_law_35 9 rfl) (by decide) ?_ ?_
  · refine s_run X ok_law_35 32 1 (pc' := 2335) (vs' := [some (.ref b), some (.ref x), some (.ref m), some (.ref o), some (.int i), some (.int o4.1), some (.long o9.1), none]) (st' := [.int o4.1]) rfl ?_
    refine s_jn (κ := Option (Unit)) (fun k11 => Jd (Cn (c + o4.2.2)) 8 Q o9.2 2349 [some (.ref b), some (.ref x), some (.ref m), some (.ref o), some (.int i), none, none, none] [] k11) ?_ (fun k11 h12 => ?_)
    · refine s_run X ok_law_35 38 1 (pc' := 4006) (vs' := [some (.ref b), some (.ref x), some (.ref m), some (.ref o), some (.int i), none, none, none]) (st' := []) rfl ?_
      exact s_less [true, true, true, true, true, false, false, false] rfl (hk o9.2 ((c + o4.2.2)) hb5)
    · refine s_if_ne (tgt := 2349) X (dk okd_law_35 11 rfl) (by decide) ?_ ?_
      · exact s_less [true, true, true, true, true, false, false, false] rfl (h12)
      · refine s_run X ok_law_35 33 2 (pc' := 2340) (vs' := [some (.ref b), some (.ref x), some (.ref m), some (.ref o), some (.int i), some (.int o4.1), some (.long o9.1), none]) (st' := [.int 0, .ref o]) rfl ?_
        refine s_lald X to_ (dk okd_law_35 12 rfl) (fun v13 => ?_)
        refine s_run X ok_law_35 35 2 (pc' := 2344) (vs' := [some (.ref b), some (.ref x), some (.ref m), some (.ref o), some (.int i), some (.int o4.1), some (.long o9.1), none]) (st' := [.int (lg_cmp v13 o9.1)]) rfl ?_
        refine s_lif_eq (tgt := 2349) X (dk okd_law_35 13 rfl) (by decide) ?_ ?_
        · exact s_less [true, true, true, true, true, false, false, false] rfl (h12)
        · refine s_run X ok_law_35 37 1 (pc' := 2348) (vs' := [some (.ref b), some (.ref x), some (.ref m), some (.ref o), some (.int i), some (.int o4.1), some (.long o9.1), none]) (st' := [.int 0]) rfl ?_
          exact s_none
  · refine s_run X ok_law_35 31 1 (pc' := 2332) (vs' := [some (.ref b), some (.ref x), some (.ref m), some (.ref o), some (.int i), some (.int o4.1), some (.long o9.1), none]) (st' := [.int 0]) rfl ?_
    exact s_none
def tab_law_36 : List En := [(2352, 8, 1, 0), (2353, 8, 0, 0), (2354, 5, 4, 0), (2356, 0, 0, 1), (2357, 17, 0, 0), (2359, 8, 0, 0), (2360, 5, 4, 0), (2362, 0, 0, 2), (2363, 17, 0, 0), (2365, 8, 3, 0), (2369, 11, 5, 0), (2371, 8, 2, 0), (2372, 8, 0, 0), (2373, 5, 4, 0), (2375, 0, 0, 1), (2376, 17, 0, 0), (2378, 8, 0, 0), (2379, 5, 4, 0), (2381, 0, 0, 2), (2382, 17, 0, 0), (2387, 13, 6, 0), (2389, 8, 2, 0), (2393, 5, 5, 0), (2398, 0, 0, 0), (2400, 5, 5, 0), (2405, 8, 3, 0), (2406, 0, 0, 0), (2408, 7, 6, 0), (2410, 40, 0, 0), (2414, 0, 0, 0), (2416, 41, 4006, 0)]
theorem ok_law_36 : tab_law_36.all (okE code) = true := by decide +kernel
def ed_law_36 : List (Nat × Instr × Nat) := [(2358, .iaload, 1), (2364, .iaload, 1), (2366, .invokestatic 312, 3), (2377, .iaload, 1), (2383, .iaload, 1), (2384, .invokevirtual 314, 3), (2390, .invokevirtual 214, 3), (2395, .if_icmp .eq 5, 3), (2399, .ireturn, 1), (2402, .ifCond .ne 14, 3), (2407, .laload, 1), (2411, .ifCond .eq 5, 3), (2415, .ireturn, 1)]
theorem okd_law_36 : ed_law_36.all (okD code) = true := by decide +kernel
def f_law_36 (Ls : Nat) (xs : Nat → Int32) (S : St) (x m o : Nat) (i : Int32) (c : Nat) (kont : St → Nat → Option Unit) : Option Unit := sx Ls xs (i + 1) fun (v1 : Int32) => sx Ls xs (i + 2) fun (v2 : Int32) => cl (f_L_predictDue S x v1 v2 o) fun (o3 : Int32 × St × Nat) => bud (c + o3.2.2) <| sx Ls xs (i + 1) fun (v5 : Int32) => sx Ls xs (i + 2) fun (v6 : Int32) => cl (f_X12_predictDue o3.2.1 m v5 v6) fun (o7 : Int64 × St) => cl (f_X12_thrown o7.2 m) fun (v8 : Int32) => if v8 = o3.1 then (jn (κ := Option (Unit)) (kont o7.2 ((c + o3.2.2))) fun k9 => if o3.1 = 0 then (ldJ o7.2 o 0 fun (v11 : Int64) => if v11 = o7.1 then (k9) else (none)) else (k9)) else (none)
set_option maxHeartbeats 4000000 in
set_option maxRecDepth 100000 in
theorem c_law_36 {Cn : Nat → CT} {b Ls : Nat} {xs : Nat → Int32} {Q : Unit → State → Prop} {x m o : Nat} {i : Int32} (hf : Fam Cn b Ls xs) (tx0 : tT (Cn 0) x 10) (tm0 : tT (Cn 0) m 11) (to0 : tT (Cn 0) o 14) (S : St) (c : Nat) (hc : c ≤ 512) (kont : St → Nat → Option Unit) (hk : ∀ (S : St) (c : Nat), c ≤ 512 → Jd (Cn c) 8 Q S 4006 [some (.ref b), some (.ref x), some (.ref m), some (.ref o), some (.int i), none, none, none] [] (kont S c)) : Jd (Cn c) 8 Q S 2352 [some (.ref b), some (.ref x), some (.ref m), some (.ref o), some (.int i), none, none, none] [] (f_law_36 Ls xs S x m o i c kont) := by
  have X := hf.X hc
  have E := hf.E c
  have tx_ := hf.T c tx0
  have tm_ := hf.T c tm0
  have to_ := hf.T c to0
  unfold f_law_36
  refine s_run X ok_law_36 0 5 (pc' := 2358) (vs' := [some (.ref b), some (.ref x), some (.ref m), some (.ref o), some (.int i), none, none, none]) (st' := [.int (i + 1), .ref b, .ref x]) rfl ?_
  refine s_sld hf (dk okd_law_36 0 rfl) (fun v1 => ?_)
  refine s_run X ok_law_36 5 4 (pc' := 2364) (vs' := [some (.ref b), some (.ref x), some (.ref m), some (.ref o), some (.int i), none, none, none]) (st' := [.int (i + 2), .ref b, .int v1, .ref x]) rfl ?_
  refine s_sld hf (dk okd_law_36 1 rfl) (fun v2 => ?_)
  refine s_run X ok_law_36 9 1 (pc' := 2366) (vs' := [some (.ref b), some (.ref x), some (.ref m), some (.ref o), some (.int i), none, none, none]) (st' := [.ref o, .int v2, .int v1, .ref x]) rfl ?_
  refine s_callH (c0 := c) (As := [.ref x, .int v1, .int v2, .ref o]) (rest := []) hf mh_L_312 (c_L_predictDue S x v1 v2 o) (ta2 tx_ to_) rfl rfl (Nat.le_of_ble_eq_true rfl) (Nat.le_of_ble_eq_true rfl) (Nat.le_of_ble_eq_true rfl) (dk okd_law_36 2 rfl) (st' := fun o3 => [.int o3.1]) (fun _ => rfl) (fun o3 hb4 => ?_)
  have X := hf.X hb4
  have E := hf.E (c + o3.2.2)
  have tx_ := hf.T (c + o3.2.2) tx_
  have tm_ := hf.T (c + o3.2.2) tm_
  have to_ := hf.T (c + o3.2.2) to_
  refine s_run X ok_law_36 10 6 (pc' := 2377) (vs' := [some (.ref b), some (.ref x), some (.ref m), some (.ref o), some (.int i), some (.int o3.1), none, none]) (st' := [.int (i + 1), .ref b, .ref m]) rfl ?_
  refine s_sld hf (dk okd_law_36 3 rfl) (fun v5 => ?_)
  refine s_run X ok_law_36 16 4 (pc' := 2383) (vs' := [some (.ref b), some (.ref x), some (.ref m), some (.ref o), some (.int i), some (.int o3.1), none, none]) (st' := [.int (i + 2), .ref b, .int v5, .ref m]) rfl ?_
  refine s_sld hf (dk okd_law_36 4 rfl) (fun v6 => ?_)
  refine s_callV (b := m) (As := [.int v5, .int v6]) (rest := []) X E mv_L_314 (c_X12_predictDue o3.2.1 m v5 v6) rfl (ta1 tm_) rfl (by decide) tm_ rfl rfl (Nat.le_of_ble_eq_true rfl) (Nat.le_of_ble_eq_true rfl) (Nat.le_of_ble_eq_true rfl) (dk okd_law_36 5 rfl) (st' := fun o7 => [.long o7.1]) (fun _ => rfl) (fun o7 => ?_)
  refine s_run X ok_law_36 20 2 (pc' := 2390) (vs' := [some (.ref b), some (.ref x), some (.ref m), some (.ref o), some (.int i), some (.int o3.1), some (.long o7.1), none]) (st' := [.ref m]) rfl ?_
  refine s_callV (b := m) (As := []) (rest := []) X E mv_L_214 (c_X12_thrown o7.2 m) rfl (ta1 tm_) rfl (by decide) tm_ rfl rfl (Nat.le_of_ble_eq_true rfl) (Nat.le_of_ble_eq_true rfl) (Nat.le_of_ble_eq_true rfl) (dk okd_law_36 6 rfl) (st' := fun v8 => [.int v8]) (fun _ => rfl) (fun v8 => ?_)
  refine s_run X ok_law_36 22 1 (pc' := 2395) (vs' := [some (.ref b), some (.ref x), some (.ref m), some (.ref o), some (.int i), some (.int o3.1), some (.long o7.1), none]) (st' := [.int o3.1, .int v8]) rfl ?_
  refine s_icmp_eq (tgt := 2400) X (dk okd_law_36 7 rfl) (by decide) ?_ ?_
  · refine s_run X ok_law_36 24 1 (pc' := 2402) (vs' := [some (.ref b), some (.ref x), some (.ref m), some (.ref o), some (.int i), some (.int o3.1), some (.long o7.1), none]) (st' := [.int o3.1]) rfl ?_
    refine s_jn (κ := Option (Unit)) (fun k9 => Jd (Cn (c + o3.2.2)) 8 Q o7.2 2416 [some (.ref b), some (.ref x), some (.ref m), some (.ref o), some (.int i), none, none, none] [] k9) ?_ (fun k9 h10 => ?_)
    · refine s_run X ok_law_36 30 1 (pc' := 4006) (vs' := [some (.ref b), some (.ref x), some (.ref m), some (.ref o), some (.int i), none, none, none]) (st' := []) rfl ?_
      exact s_less [true, true, true, true, true, false, false, false] rfl (hk o7.2 ((c + o3.2.2)) hb4)
    · refine s_if_ne (tgt := 2416) X (dk okd_law_36 9 rfl) (by decide) ?_ ?_
      · exact s_less [true, true, true, true, true, false, false, false] rfl (h10)
      · refine s_run X ok_law_36 25 2 (pc' := 2407) (vs' := [some (.ref b), some (.ref x), some (.ref m), some (.ref o), some (.int i), some (.int o3.1), some (.long o7.1), none]) (st' := [.int 0, .ref o]) rfl ?_
        refine s_lald X to_ (dk okd_law_36 10 rfl) (fun v11 => ?_)
        refine s_run X ok_law_36 27 2 (pc' := 2411) (vs' := [some (.ref b), some (.ref x), some (.ref m), some (.ref o), some (.int i), some (.int o3.1), some (.long o7.1), none]) (st' := [.int (lg_cmp v11 o7.1)]) rfl ?_
        refine s_lif_eq (tgt := 2416) X (dk okd_law_36 11 rfl) (by decide) ?_ ?_
        · exact s_less [true, true, true, true, true, false, false, false] rfl (h10)
        · refine s_run X ok_law_36 29 1 (pc' := 2415) (vs' := [some (.ref b), some (.ref x), some (.ref m), some (.ref o), some (.int i), some (.int o3.1), some (.long o7.1), none]) (st' := [.int 0]) rfl ?_
          exact s_none
  · refine s_run X ok_law_36 23 1 (pc' := 2399) (vs' := [some (.ref b), some (.ref x), some (.ref m), some (.ref o), some (.int i), some (.int o3.1), some (.long o7.1), none]) (st' := [.int 0]) rfl ?_
    exact s_none
def tab_law_37 : List En := [(2419, 8, 1, 0), (2420, 8, 0, 0), (2421, 5, 4, 0), (2423, 0, 0, 1), (2424, 17, 0, 0), (2426, 8, 3, 0), (2430, 11, 5, 0), (2432, 8, 2, 0), (2433, 8, 0, 0), (2434, 5, 4, 0), (2436, 0, 0, 1), (2437, 17, 0, 0), (2442, 13, 6, 0), (2444, 8, 2, 0), (2448, 5, 5, 0), (2453, 0, 0, 0), (2455, 5, 5, 0), (2460, 8, 3, 0), (2461, 0, 0, 0), (2463, 7, 6, 0), (2465, 40, 0, 0), (2469, 0, 0, 0), (2471, 41, 4006, 0)]
theorem ok_law_37 : tab_law_37.all (okE code) = true := by decide +kernel
def ed_law_37 : List (Nat × Instr × Nat) := [(2425, .iaload, 1), (2427, .invokestatic 315, 3), (2438, .iaload, 1), (2439, .invokevirtual 317, 3), (2445, .invokevirtual 214, 3), (2450, .if_icmp .eq 5, 3), (2454, .ireturn, 1), (2457, .ifCond .ne 14, 3), (2462, .laload, 1), (2466, .ifCond .eq 5, 3), (2470, .ireturn, 1)]
theorem okd_law_37 : ed_law_37.all (okD code) = true := by decide +kernel
def f_law_37 (Ls : Nat) (xs : Nat → Int32) (S : St) (x m o : Nat) (i : Int32) (c : Nat) (kont : St → Nat → Option Unit) : Option Unit := sx Ls xs (i + 1) fun (v1 : Int32) => cl (f_L_balance S x v1 o) fun (o2 : Int32 × St × Nat) => bud (c + o2.2.2) <| sx Ls xs (i + 1) fun (v4 : Int32) => cl (f_X12_balance o2.2.1 m v4) fun (o5 : Int64 × St) => cl (f_X12_thrown o5.2 m) fun (v6 : Int32) => if v6 = o2.1 then (jn (κ := Option (Unit)) (kont o5.2 ((c + o2.2.2))) fun k7 => if o2.1 = 0 then (ldJ o5.2 o 0 fun (v9 : Int64) => if v9 = o5.1 then (k7) else (none)) else (k7)) else (none)
set_option maxHeartbeats 4000000 in
set_option maxRecDepth 100000 in
theorem c_law_37 {Cn : Nat → CT} {b Ls : Nat} {xs : Nat → Int32} {Q : Unit → State → Prop} {x m o : Nat} {i : Int32} (hf : Fam Cn b Ls xs) (tx0 : tT (Cn 0) x 10) (tm0 : tT (Cn 0) m 11) (to0 : tT (Cn 0) o 14) (S : St) (c : Nat) (hc : c ≤ 512) (kont : St → Nat → Option Unit) (hk : ∀ (S : St) (c : Nat), c ≤ 512 → Jd (Cn c) 8 Q S 4006 [some (.ref b), some (.ref x), some (.ref m), some (.ref o), some (.int i), none, none, none] [] (kont S c)) : Jd (Cn c) 8 Q S 2419 [some (.ref b), some (.ref x), some (.ref m), some (.ref o), some (.int i), none, none, none] [] (f_law_37 Ls xs S x m o i c kont) := by
  have X := hf.X hc
  have E := hf.E c
  have tx_ := hf.T c tx0
  have tm_ := hf.T c tm0
  have to_ := hf.T c to0
  unfold f_law_37
  refine s_run X ok_law_37 0 5 (pc' := 2425) (vs' := [some (.ref b), some (.ref x), some (.ref m), some (.ref o), some (.int i), none, none, none]) (st' := [.int (i + 1), .ref b, .ref x]) rfl ?_
  refine s_sld hf (dk okd_law_37 0 rfl) (fun v1 => ?_)
  refine s_run X ok_law_37 5 1 (pc' := 2427) (vs' := [some (.ref b), some (.ref x), some (.ref m), some (.ref o), some (.int i), none, none, none]) (st' := [.ref o, .int v1, .ref x]) rfl ?_
  refine s_callH (c0 := c) (As := [.ref x, .int v1, .ref o]) (rest := []) hf mh_L_315 (c_L_balance S x v1 o) (ta2 tx_ to_) rfl rfl (Nat.le_of_ble_eq_true rfl) (Nat.le_of_ble_eq_true rfl) (Nat.le_of_ble_eq_true rfl) (dk okd_law_37 1 rfl) (st' := fun o2 => [.int o2.1]) (fun _ => rfl) (fun o2 hb3 => ?_)
  have X := hf.X hb3
  have E := hf.E (c + o2.2.2)
  have tx_ := hf.T (c + o2.2.2) tx_
  have tm_ := hf.T (c + o2.2.2) tm_
  have to_ := hf.T (c + o2.2.2) to_
  refine s_run X ok_law_37 6 6 (pc' := 2438) (vs' := [some (.ref b), some (.ref x), some (.ref m), some (.ref o), some (.int i), some (.int o2.1), none, none]) (st' := [.int (i + 1), .ref b, .ref m]) rfl ?_
  refine s_sld hf (dk okd_law_37 2 rfl) (fun v4 => ?_)
  refine s_callV (b := m) (As := [.int v4]) (rest := []) X E mv_L_317 (c_X12_balance o2.2.1 m v4) rfl (ta1 tm_) rfl (by decide) tm_ rfl rfl (Nat.le_of_ble_eq_true rfl) (Nat.le_of_ble_eq_true rfl) (Nat.le_of_ble_eq_true rfl) (dk okd_law_37 3 rfl) (st' := fun o5 => [.long o5.1]) (fun _ => rfl) (fun o5 => ?_)
  refine s_run X ok_law_37 12 2 (pc' := 2445) (vs' := [some (.ref b), some (.ref x), some (.ref m), some (.ref o), some (.int i), some (.int o2.1), some (.long o5.1), none]) (st' := [.ref m]) rfl ?_
  refine s_callV (b := m) (As := []) (rest := []) X E mv_L_214 (c_X12_thrown o5.2 m) rfl (ta1 tm_) rfl (by decide) tm_ rfl rfl (Nat.le_of_ble_eq_true rfl) (Nat.le_of_ble_eq_true rfl) (Nat.le_of_ble_eq_true rfl) (dk okd_law_37 4 rfl) (st' := fun v6 => [.int v6]) (fun _ => rfl) (fun v6 => ?_)
  refine s_run X ok_law_37 14 1 (pc' := 2450) (vs' := [some (.ref b), some (.ref x), some (.ref m), some (.ref o), some (.int i), some (.int o2.1), some (.long o5.1), none]) (st' := [.int o2.1, .int v6]) rfl ?_
  refine s_icmp_eq (tgt := 2455) X (dk okd_law_37 5 rfl) (by decide) ?_ ?_
  · refine s_run X ok_law_37 16 1 (pc' := 2457) (vs' := [some (.ref b), some (.ref x), some (.ref m), some (.ref o), some (.int i), some (.int o2.1), some (.long o5.1), none]) (st' := [.int o2.1]) rfl ?_
    refine s_jn (κ := Option (Unit)) (fun k7 => Jd (Cn (c + o2.2.2)) 8 Q o5.2 2471 [some (.ref b), some (.ref x), some (.ref m), some (.ref o), some (.int i), none, none, none] [] k7) ?_ (fun k7 h8 => ?_)
    · refine s_run X ok_law_37 22 1 (pc' := 4006) (vs' := [some (.ref b), some (.ref x), some (.ref m), some (.ref o), some (.int i), none, none, none]) (st' := []) rfl ?_
      exact s_less [true, true, true, true, true, false, false, false] rfl (hk o5.2 ((c + o2.2.2)) hb3)
    · refine s_if_ne (tgt := 2471) X (dk okd_law_37 7 rfl) (by decide) ?_ ?_
      · exact s_less [true, true, true, true, true, false, false, false] rfl (h8)
      · refine s_run X ok_law_37 17 2 (pc' := 2462) (vs' := [some (.ref b), some (.ref x), some (.ref m), some (.ref o), some (.int i), some (.int o2.1), some (.long o5.1), none]) (st' := [.int 0, .ref o]) rfl ?_
        refine s_lald X to_ (dk okd_law_37 8 rfl) (fun v9 => ?_)
        refine s_run X ok_law_37 19 2 (pc' := 2466) (vs' := [some (.ref b), some (.ref x), some (.ref m), some (.ref o), some (.int i), some (.int o2.1), some (.long o5.1), none]) (st' := [.int (lg_cmp v9 o5.1)]) rfl ?_
        refine s_lif_eq (tgt := 2471) X (dk okd_law_37 9 rfl) (by decide) ?_ ?_
        · exact s_less [true, true, true, true, true, false, false, false] rfl (h8)
        · refine s_run X ok_law_37 21 1 (pc' := 2470) (vs' := [some (.ref b), some (.ref x), some (.ref m), some (.ref o), some (.int i), some (.int o2.1), some (.long o5.1), none]) (st' := [.int 0]) rfl ?_
          exact s_none
  · refine s_run X ok_law_37 15 1 (pc' := 2454) (vs' := [some (.ref b), some (.ref x), some (.ref m), some (.ref o), some (.int i), some (.int o2.1), some (.long o5.1), none]) (st' := [.int 0]) rfl ?_
    exact s_none
def tab_law_38 : List En := [(2474, 8, 1, 0), (2478, 8, 2, 0), (2482, 40, 0, 0), (2486, 0, 0, 0)]
theorem ok_law_38 : tab_law_38.all (okE code) = true := by decide +kernel
def ed_law_38 : List (Nat × Instr × Nat) := [(2475, .invokevirtual 318, 3), (2479, .invokevirtual 322, 3), (2483, .ifCond .eq 1523, 3), (2487, .ireturn, 1)]
theorem okd_law_38 : ed_law_38.all (okD code) = true := by decide +kernel
def f_law_38 (Ls : Nat) (xs : Nat → Int32) (S : St) (x m o : Nat) (i : Int32) (c : Nat) (kont : St → Nat → Option Unit) : Option Unit := cl (f_X11_totalOwed S x) fun (v1 : Int64) => cl (f_X12_totalOwed S m) fun (o2 : Int64 × St) => if v1 = o2.1 then (kont o2.2 (c)) else (none)
set_option maxHeartbeats 4000000 in
set_option maxRecDepth 100000 in
theorem c_law_38 {Cn : Nat → CT} {b Ls : Nat} {xs : Nat → Int32} {Q : Unit → State → Prop} {x m o : Nat} {i : Int32} (hf : Fam Cn b Ls xs) (tx0 : tT (Cn 0) x 10) (tm0 : tT (Cn 0) m 11) (to0 : tT (Cn 0) o 14) (S : St) (c : Nat) (hc : c ≤ 512) (kont : St → Nat → Option Unit) (hk : ∀ (S : St) (c : Nat), c ≤ 512 → Jd (Cn c) 8 Q S 4006 [some (.ref b), some (.ref x), some (.ref m), some (.ref o), some (.int i), none, none, none] [] (kont S c)) : Jd (Cn c) 8 Q S 2474 [some (.ref b), some (.ref x), some (.ref m), some (.ref o), some (.int i), none, none, none] [] (f_law_38 Ls xs S x m o i c kont) := by
  have X := hf.X hc
  have E := hf.E c
  have tx_ := hf.T c tx0
  have tm_ := hf.T c tm0
  have to_ := hf.T c to0
  unfold f_law_38
  refine s_run X ok_law_38 0 1 (pc' := 2475) (vs' := [some (.ref b), some (.ref x), some (.ref m), some (.ref o), some (.int i), none, none, none]) (st' := [.ref x]) rfl ?_
  refine s_callV (b := x) (As := []) (rest := []) X E mv_L_318 (c_X11_totalOwed S x) rfl (ta1 tx_) rfl (by decide) tx_ rfl rfl (Nat.le_of_ble_eq_true rfl) (Nat.le_of_ble_eq_true rfl) (Nat.le_of_ble_eq_true rfl) (dk okd_law_38 0 rfl) (st' := fun v1 => [.long v1]) (fun _ => rfl) (fun v1 => ?_)
  refine s_run X ok_law_38 1 1 (pc' := 2479) (vs' := [some (.ref b), some (.ref x), some (.ref m), some (.ref o), some (.int i), none, none, none]) (st' := [.ref m, .long v1]) rfl ?_
  refine s_callV (b := m) (As := []) (rest := [.long v1]) X E mv_L_322 (c_X12_totalOwed S m) rfl (ta1 tm_) rfl (by decide) tm_ rfl rfl (Nat.le_of_ble_eq_true rfl) (Nat.le_of_ble_eq_true rfl) (Nat.le_of_ble_eq_true rfl) (dk okd_law_38 1 rfl) (st' := fun o2 => [.long o2.1, .long v1]) (fun _ => rfl) (fun o2 => ?_)
  refine s_run X ok_law_38 2 1 (pc' := 2483) (vs' := [some (.ref b), some (.ref x), some (.ref m), some (.ref o), some (.int i), none, none, none]) (st' := [.int (lg_cmp v1 o2.1)]) rfl ?_
  refine s_lif_eq (tgt := 4006) X (dk okd_law_38 2 rfl) (by decide) ?_ ?_
  · exact s_less [true, true, true, true, true, false, false, false] rfl (hk o2.2 (c) hc)
  · refine s_run X ok_law_38 3 1 (pc' := 2487) (vs' := [some (.ref b), some (.ref x), some (.ref m), some (.ref o), some (.int i), none, none, none]) (st' := [.int 0]) rfl ?_
    exact s_none
def tab_law_39 : List En := [(2488, 8, 1, 0), (2489, 8, 0, 0), (2490, 5, 4, 0), (2492, 0, 0, 1), (2493, 17, 0, 0), (2495, 8, 0, 0), (2496, 5, 4, 0), (2498, 0, 0, 2), (2499, 17, 0, 0), (2501, 31, 0, 0), (2502, 1, 0, 32), (2504, 34, 0, 0), (2505, 8, 0, 0), (2506, 5, 4, 0), (2508, 0, 0, 3), (2509, 17, 0, 0), (2511, 31, 0, 0), (2515, 26, 0, 0), (2516, 27, 0, 0), (2517, 8, 3, 0), (2521, 11, 5, 0), (2523, 8, 2, 0), (2524, 8, 0, 0), (2525, 5, 4, 0), (2527, 0, 0, 1), (2528, 17, 0, 0), (2530, 8, 0, 0), (2531, 5, 4, 0), (2533, 0, 0, 2), (2534, 17, 0, 0), (2536, 31, 0, 0), (2537, 1, 0, 32), (2539, 34, 0, 0), (2540, 8, 0, 0), (2541, 5, 4, 0), (2543, 0, 0, 3), (2544, 17, 0, 0), (2546, 31, 0, 0), (2550, 26, 0, 0), (2551, 27, 0, 0), (2555, 13, 6, 0), (2557, 8, 2, 0), (2561, 5, 5, 0), (2566, 0, 0, 0), (2568, 5, 5, 0), (2573, 8, 3, 0), (2574, 0, 0, 0), (2576, 7, 6, 0), (2578, 40, 0, 0), (2582, 0, 0, 0), (2584, 41, 4006, 0)]
theorem ok_law_39 : tab_law_39.all (okE code) = true := by decide +kernel
def ed_law_39 : List (Nat × Instr × Nat) := [(2494, .iaload, 1), (2500, .iaload, 1), (2510, .iaload, 1), (2512, .ldc2_w 270, 3), (2518, .invokestatic 323, 3), (2529, .iaload, 1), (2535, .iaload, 1), (2545, .iaload, 1), (2547, .ldc2_w 270, 3), (2552, .invokevirtual 325, 3), (2558, .invokevirtual 214, 3), (2563, .if_icmp .eq 5, 3), (2567, .ireturn, 1), (2570, .ifCond .ne 14, 3), (2575, .laload, 1), (2579, .ifCond .eq 5, 3), (2583, .ireturn, 1)]
theorem okd_law_39 : ed_law_39.all (okD code) = true := by decide +kernel
def f_law_39 (Ls : Nat) (xs : Nat → Int32) (S : St) (x m o : Nat) (i : Int32) (c : Nat) (kont : St → Nat → Option Unit) : Option Unit := sx Ls xs (i + 1) fun (v1 : Int32) => sx Ls xs (i + 2) fun (v2 : Int32) => sx Ls xs (i + 3) fun (v3 : Int32) => cl (f_L_pay S x v1 (((Int32.toInt64 v2) <<< ((Int32.toInt64 32) &&& 63)) ||| ((Int32.toInt64 v3) &&& 4294967295)) o) fun (o4 : Int32 × St × Nat) => bud (c + o4.2.2) <| sx Ls xs (i + 1) fun (v6 : Int32) => sx Ls xs (i + 2) fun (v7 : Int32) => sx Ls xs (i + 3) fun (v8 : Int32) => cl (f_X12_pay o4.2.1 m v6 (((Int32.toInt64 v7) <<< ((Int32.toInt64 32) &&& 63)) ||| ((Int32.toInt64 v8) &&& 4294967295))) fun (o9 : Int64 × St) => cl (f_X12_thrown o9.2 m) fun (v10 : Int32) => if v10 = o4.1 then (jn (κ := Option (Unit)) (kont o9.2 ((c + o4.2.2))) fun k11 => if o4.1 = 0 then (ldJ o9.2 o 0 fun (v13 : Int64) => if v13 = o9.1 then (k11) else (none)) else (k11)) else (none)
set_option maxHeartbeats 4000000 in
set_option maxRecDepth 100000 in
theorem c_law_39 {Cn : Nat → CT} {b Ls : Nat} {xs : Nat → Int32} {Q : Unit → State → Prop} {x m o : Nat} {i : Int32} (hf : Fam Cn b Ls xs) (tx0 : tT (Cn 0) x 10) (tm0 : tT (Cn 0) m 11) (to0 : tT (Cn 0) o 14) (S : St) (c : Nat) (hc : c ≤ 512) (kont : St → Nat → Option Unit) (hk : ∀ (S : St) (c : Nat), c ≤ 512 → Jd (Cn c) 8 Q S 4006 [some (.ref b), some (.ref x), some (.ref m), some (.ref o), some (.int i), none, none, none] [] (kont S c)) : Jd (Cn c) 8 Q S 2488 [some (.ref b), some (.ref x), some (.ref m), some (.ref o), some (.int i), none, none, none] [] (f_law_39 Ls xs S x m o i c kont) := by
  have X := hf.X hc
  have E := hf.E c
  have tx_ := hf.T c tx0
  have tm_ := hf.T c tm0
  have to_ := hf.T c to0
  unfold f_law_39
  refine s_run X ok_law_39 0 5 (pc' := 2494) (vs' := [some (.ref b), some (.ref x), some (.ref m), some (.ref o), some (.int i), none, none, none]) (st' := [.int (i + 1), .ref b, .ref x]) rfl ?_
  refine s_sld hf (dk okd_law_39 0 rfl) (fun v1 => ?_)
  refine s_run X ok_law_39 5 4 (pc' := 2500) (vs' := [some (.ref b), some (.ref x), some (.ref m), some (.ref o), some (.int i), none, none, none]) (st' := [.int (i + 2), .ref b, .int v1, .ref x]) rfl ?_
  refine s_sld hf (dk okd_law_39 1 rfl) (fun v2 => ?_)
  refine s_run X ok_law_39 9 7 (pc' := 2510) (vs' := [some (.ref b), some (.ref x), some (.ref m), some (.ref o), some (.int i), none, none, none]) (st' := [.int (i + 3), .ref b, .long ((Int32.toInt64 v2) <<< ((Int32.toInt64 32) &&& 63)), .int v1, .ref x]) rfl ?_
  refine s_sld hf (dk okd_law_39 2 rfl) (fun v3 => ?_)
  refine s_run X ok_law_39 16 1 (pc' := 2512) (vs' := [some (.ref b), some (.ref x), some (.ref m), some (.ref o), some (.int i), none, none, none]) (st' := [.long (Int32.toInt64 v3), .long ((Int32.toInt64 v2) <<< ((Int32.toInt64 32) &&& 63)), .int v1, .ref x]) rfl ?_
  refine s_ldc2 X cl_L_270 (dk okd_law_39 3 rfl) ?_
  refine s_run X ok_law_39 17 3 (pc' := 2518) (vs' := [some (.ref b), some (.ref x), some (.ref m), some (.ref o), some (.int i), none, none, none]) (st' := [.ref o, .long (((Int32.toInt64 v2) <<< ((Int32.toInt64 32) &&& 63)) ||| ((Int32.toInt64 v3) &&& 4294967295)), .int v1, .ref x]) rfl ?_
  refine s_callH (c0 := c) (As := [.ref x, .int v1, .long (((Int32.toInt64 v2) <<< ((Int32.toInt64 32) &&& 63)) ||| ((Int32.toInt64 v3) &&& 4294967295)), .ref o]) (rest := []) hf mh_L_323 (c_L_pay S x v1 (((Int32.toInt64 v2) <<< ((Int32.toInt64 32) &&& 63)) ||| ((Int32.toInt64 v3) &&& 4294967295)) o) (ta2 tx_ to_) rfl rfl (Nat.le_of_ble_eq_true rfl) (Nat.le_of_ble_eq_true rfl) (Nat.le_of_ble_eq_true rfl) (dk okd_law_39 4 rfl) (st' := fun o4 => [.int o4.1]) (fun _ => rfl) (fun o4 hb5 => ?_)
  have X := hf.X hb5
  have E := hf.E (c + o4.2.2)
  have tx_ := hf.T (c + o4.2.2) tx_
  have tm_ := hf.T (c + o4.2.2) tm_
  have to_ := hf.T (c + o4.2.2) to_
  refine s_run X ok_law_39 20 6 (pc' := 2529) (vs' := [some (.ref b), some (.ref x), some (.ref m), some (.ref o), some (.int i), some (.int o4.1), none, none]) (st' := [.int (i + 1), .ref b, .ref m]) rfl ?_
  refine s_sld hf (dk okd_law_39 5 rfl) (fun v6 => ?_)
  refine s_run X ok_law_39 26 4 (pc' := 2535) (vs' := [some (.ref b), some (.ref x), some (.ref m), some (.ref o), some (.int i), some (.int o4.1), none, none]) (st' := [.int (i + 2), .ref b, .int v6, .ref m]) rfl ?_
  refine s_sld hf (dk okd_law_39 6 rfl) (fun v7 => ?_)
  refine s_run X ok_law_39 30 7 (pc' := 2545) (vs' := [some (.ref b), some (.ref x), some (.ref m), some (.ref o), some (.int i), some (.int o4.1), none, none]) (st' := [.int (i + 3), .ref b, .long ((Int32.toInt64 v7) <<< ((Int32.toInt64 32) &&& 63)), .int v6, .ref m]) rfl ?_
  refine s_sld hf (dk okd_law_39 7 rfl) (fun v8 => ?_)
  refine s_run X ok_law_39 37 1 (pc' := 2547) (vs' := [some (.ref b), some (.ref x), some (.ref m), some (.ref o), some (.int i), some (.int o4.1), none, none]) (st' := [.long (Int32.toInt64 v8), .long ((Int32.toInt64 v7) <<< ((Int32.toInt64 32) &&& 63)), .int v6, .ref m]) rfl ?_
  refine s_ldc2 X cl_L_270 (dk okd_law_39 8 rfl) ?_
  refine s_run X ok_law_39 38 2 (pc' := 2552) (vs' := [some (.ref b), some (.ref x), some (.ref m), some (.ref o), some (.int i), some (.int o4.1), none, none]) (st' := [.long (((Int32.toInt64 v7) <<< ((Int32.toInt64 32) &&& 63)) ||| ((Int32.toInt64 v8) &&& 4294967295)), .int v6, .ref m]) rfl ?_
  refine s_callV (b := m) (As := [.int v6, .long (((Int32.toInt64 v7) <<< ((Int32.toInt64 32) &&& 63)) ||| ((Int32.toInt64 v8) &&& 4294967295))]) (rest := []) X E mv_L_325 (c_X12_pay o4.2.1 m v6 (((Int32.toInt64 v7) <<< ((Int32.toInt64 32) &&& 63)) ||| ((Int32.toInt64 v8) &&& 4294967295))) rfl (ta1 tm_) rfl (by decide) tm_ rfl rfl (Nat.le_of_ble_eq_true rfl) (Nat.le_of_ble_eq_true rfl) (Nat.le_of_ble_eq_true rfl) (dk okd_law_39 9 rfl) (st' := fun o9 => [.long o9.1]) (fun _ => rfl) (fun o9 => ?_)
  refine s_run X ok_law_39 40 2 (pc' := 2558) (vs' := [some (.ref b), some (.ref x), some (.ref m), some (.ref o), some (.int i), some (.int o4.1), some (.long o9.1), none]) (st' := [.ref m]) rfl ?_
  refine s_callV (b := m) (As := []) (rest := []) X E mv_L_214 (c_X12_thrown o9.2 m) rfl (ta1 tm_) rfl (by decide) tm_ rfl rfl (Nat.le_of_ble_eq_true rfl) (Nat.le_of_ble_eq_true rfl) (Nat.le_of_ble_eq_true rfl) (dk okd_law_39 10 rfl) (st' := fun v10 => [.int v10]) (fun _ => rfl) (fun v10 => ?_)
  refine s_run X ok_law_39 42 1 (pc' := 2563) (vs' := [some (.ref b), some (.ref x), some (.ref m), some (.ref o), some (.int i), some (.int o4.1), some (.long o9.1), none]) (st' := [.int o4.1, .int v10]) rfl ?_
  refine s_icmp_eq (tgt := 2568) X (dk okd_law_39 11 rfl) (by decide) ?_ ?_
  · refine s_run X ok_law_39 44 1 (pc' := 2570) (vs' := [some (.ref b), some (.ref x), some (.ref m), some (.ref o), some (.int i), some (.int o4.1), some (.long o9.1), none]) (st' := [.int o4.1]) rfl ?_
    refine s_jn (κ := Option (Unit)) (fun k11 => Jd (Cn (c + o4.2.2)) 8 Q o9.2 2584 [some (.ref b), some (.ref x), some (.ref m), some (.ref o), some (.int i), none, none, none] [] k11) ?_ (fun k11 h12 => ?_)
    · refine s_run X ok_law_39 50 1 (pc' := 4006) (vs' := [some (.ref b), some (.ref x), some (.ref m), some (.ref o), some (.int i), none, none, none]) (st' := []) rfl ?_
      exact s_less [true, true, true, true, true, false, false, false] rfl (hk o9.2 ((c + o4.2.2)) hb5)
    · refine s_if_ne (tgt := 2584) X (dk okd_law_39 13 rfl) (by decide) ?_ ?_
      · exact s_less [true, true, true, true, true, false, false, false] rfl (h12)
      · refine s_run X ok_law_39 45 2 (pc' := 2575) (vs' := [some (.ref b), some (.ref x), some (.ref m), some (.ref o), some (.int i), some (.int o4.1), some (.long o9.1), none]) (st' := [.int 0, .ref o]) rfl ?_
        refine s_lald X to_ (dk okd_law_39 14 rfl) (fun v13 => ?_)
        refine s_run X ok_law_39 47 2 (pc' := 2579) (vs' := [some (.ref b), some (.ref x), some (.ref m), some (.ref o), some (.int i), some (.int o4.1), some (.long o9.1), none]) (st' := [.int (lg_cmp v13 o9.1)]) rfl ?_
        refine s_lif_eq (tgt := 2584) X (dk okd_law_39 15 rfl) (by decide) ?_ ?_
        · exact s_less [true, true, true, true, true, false, false, false] rfl (h12)
        · refine s_run X ok_law_39 49 1 (pc' := 2583) (vs' := [some (.ref b), some (.ref x), some (.ref m), some (.ref o), some (.int i), some (.int o4.1), some (.long o9.1), none]) (st' := [.int 0]) rfl ?_
          exact s_none
  · refine s_run X ok_law_39 43 1 (pc' := 2567) (vs' := [some (.ref b), some (.ref x), some (.ref m), some (.ref o), some (.int i), some (.int o4.1), some (.long o9.1), none]) (st' := [.int 0]) rfl ?_
    exact s_none
def tab_law_40 : List En := [(2587, 8, 1, 0), (2588, 8, 0, 0), (2589, 5, 4, 0), (2591, 0, 0, 1), (2592, 17, 0, 0), (2594, 8, 3, 0), (2598, 11, 5, 0), (2600, 8, 2, 0), (2601, 8, 0, 0), (2602, 5, 4, 0), (2604, 0, 0, 1), (2605, 17, 0, 0), (2610, 11, 6, 0), (2612, 8, 2, 0), (2616, 5, 5, 0), (2621, 0, 0, 0), (2623, 5, 5, 0), (2628, 8, 3, 0), (2629, 0, 0, 0), (2631, 5, 6, 0), (2633, 31, 0, 0), (2634, 40, 0, 0), (2638, 0, 0, 0), (2640, 41, 4006, 0)]
theorem ok_law_40 : tab_law_40.all (okE code) = true := by decide +kernel
def ed_law_40 : List (Nat × Instr × Nat) := [(2593, .iaload, 1), (2595, .invokestatic 326, 3), (2606, .iaload, 1), (2607, .invokevirtual 328, 3), (2613, .invokevirtual 214, 3), (2618, .if_icmp .eq 5, 3), (2622, .ireturn, 1), (2625, .ifCond .ne 15, 3), (2630, .laload, 1), (2635, .ifCond .eq 5, 3), (2639, .ireturn, 1)]
theorem okd_law_40 : ed_law_40.all (okD code) = true := by decide +kernel
def f_law_40 (Ls : Nat) (xs : Nat → Int32) (S : St) (x m o : Nat) (i : Int32) (c : Nat) (kont : St → Nat → Option Unit) : Option Unit := sx Ls xs (i + 1) fun (v1 : Int32) => cl (f_L_monthsOverdue S x v1 o) fun (o2 : Int32 × St × Nat) => bud (c + o2.2.2) <| sx Ls xs (i + 1) fun (v4 : Int32) => cl (f_X12_monthsOverdue o2.2.1 m v4) fun (o5 : Int32 × St) => cl (f_X12_thrown o5.2 m) fun (v6 : Int32) => if v6 = o2.1 then (jn (κ := Option (Unit)) (kont o5.2 ((c + o2.2.2))) fun k7 => if o2.1 = 0 then (ldJ o5.2 o 0 fun (v9 : Int64) => if v9 = (Int32.toInt64 o5.1) then (k7) else (none)) else (k7)) else (none)
set_option maxHeartbeats 4000000 in
set_option maxRecDepth 100000 in
theorem c_law_40 {Cn : Nat → CT} {b Ls : Nat} {xs : Nat → Int32} {Q : Unit → State → Prop} {x m o : Nat} {i : Int32} (hf : Fam Cn b Ls xs) (tx0 : tT (Cn 0) x 10) (tm0 : tT (Cn 0) m 11) (to0 : tT (Cn 0) o 14) (S : St) (c : Nat) (hc : c ≤ 512) (kont : St → Nat → Option Unit) (hk : ∀ (S : St) (c : Nat), c ≤ 512 → Jd (Cn c) 8 Q S 4006 [some (.ref b), some (.ref x), some (.ref m), some (.ref o), some (.int i), none, none, none] [] (kont S c)) : Jd (Cn c) 8 Q S 2587 [some (.ref b), some (.ref x), some (.ref m), some (.ref o), some (.int i), none, none, none] [] (f_law_40 Ls xs S x m o i c kont) := by
  have X := hf.X hc
  have E := hf.E c
  have tx_ := hf.T c tx0
  have tm_ := hf.T c tm0
  have to_ := hf.T c to0
  unfold f_law_40
  refine s_run X ok_law_40 0 5 (pc' := 2593) (vs' := [some (.ref b), some (.ref x), some (.ref m), some (.ref o), some (.int i), none, none, none]) (st' := [.int (i + 1), .ref b, .ref x]) rfl ?_
  refine s_sld hf (dk okd_law_40 0 rfl) (fun v1 => ?_)
  refine s_run X ok_law_40 5 1 (pc' := 2595) (vs' := [some (.ref b), some (.ref x), some (.ref m), some (.ref o), some (.int i), none, none, none]) (st' := [.ref o, .int v1, .ref x]) rfl ?_
  refine s_callH (c0 := c) (As := [.ref x, .int v1, .ref o]) (rest := []) hf mh_L_326 (c_L_monthsOverdue S x v1 o) (ta2 tx_ to_) rfl rfl (Nat.le_of_ble_eq_true rfl) (Nat.le_of_ble_eq_true rfl) (Nat.le_of_ble_eq_true rfl) (dk okd_law_40 1 rfl) (st' := fun o2 => [.int o2.1]) (fun _ => rfl) (fun o2 hb3 => ?_)
  have X := hf.X hb3
  have E := hf.E (c + o2.2.2)
  have tx_ := hf.T (c + o2.2.2) tx_
  have tm_ := hf.T (c + o2.2.2) tm_
  have to_ := hf.T (c + o2.2.2) to_
  refine s_run X ok_law_40 6 6 (pc' := 2606) (vs' := [some (.ref b), some (.ref x), some (.ref m), some (.ref o), some (.int i), some (.int o2.1), none, none]) (st' := [.int (i + 1), .ref b, .ref m]) rfl ?_
  refine s_sld hf (dk okd_law_40 2 rfl) (fun v4 => ?_)
  refine s_callV (b := m) (As := [.int v4]) (rest := []) X E mv_L_328 (c_X12_monthsOverdue o2.2.1 m v4) rfl (ta1 tm_) rfl (by decide) tm_ rfl rfl (Nat.le_of_ble_eq_true rfl) (Nat.le_of_ble_eq_true rfl) (Nat.le_of_ble_eq_true rfl) (dk okd_law_40 3 rfl) (st' := fun o5 => [.int o5.1]) (fun _ => rfl) (fun o5 => ?_)
  refine s_run X ok_law_40 12 2 (pc' := 2613) (vs' := [some (.ref b), some (.ref x), some (.ref m), some (.ref o), some (.int i), some (.int o2.1), some (.int o5.1), none]) (st' := [.ref m]) rfl ?_
  refine s_callV (b := m) (As := []) (rest := []) X E mv_L_214 (c_X12_thrown o5.2 m) rfl (ta1 tm_) rfl (by decide) tm_ rfl rfl (Nat.le_of_ble_eq_true rfl) (Nat.le_of_ble_eq_true rfl) (Nat.le_of_ble_eq_true rfl) (dk okd_law_40 4 rfl) (st' := fun v6 => [.int v6]) (fun _ => rfl) (fun v6 => ?_)
  refine s_run X ok_law_40 14 1 (pc' := 2618) (vs' := [some (.ref b), some (.ref x), some (.ref m), some (.ref o), some (.int i), some (.int o2.1), some (.int o5.1), none]) (st' := [.int o2.1, .int v6]) rfl ?_
  refine s_icmp_eq (tgt := 2623) X (dk okd_law_40 5 rfl) (by decide) ?_ ?_
  · refine s_run X ok_law_40 16 1 (pc' := 2625) (vs' := [some (.ref b), some (.ref x), some (.ref m), some (.ref o), some (.int i), some (.int o2.1), some (.int o5.1), none]) (st' := [.int o2.1]) rfl ?_
    refine s_jn (κ := Option (Unit)) (fun k7 => Jd (Cn (c + o2.2.2)) 8 Q o5.2 2640 [some (.ref b), some (.ref x), some (.ref m), some (.ref o), some (.int i), none, none, none] [] k7) ?_ (fun k7 h8 => ?_)
    · refine s_run X ok_law_40 23 1 (pc' := 4006) (vs' := [some (.ref b), some (.ref x), some (.ref m), some (.ref o), some (.int i), none, none, none]) (st' := []) rfl ?_
      exact s_less [true, true, true, true, true, false, false, false] rfl (hk o5.2 ((c + o2.2.2)) hb3)
    · refine s_if_ne (tgt := 2640) X (dk okd_law_40 7 rfl) (by decide) ?_ ?_
      · exact s_less [true, true, true, true, true, false, false, false] rfl (h8)
      · refine s_run X ok_law_40 17 2 (pc' := 2630) (vs' := [some (.ref b), some (.ref x), some (.ref m), some (.ref o), some (.int i), some (.int o2.1), some (.int o5.1), none]) (st' := [.int 0, .ref o]) rfl ?_
        refine s_lald X to_ (dk okd_law_40 8 rfl) (fun v9 => ?_)
        refine s_run X ok_law_40 19 3 (pc' := 2635) (vs' := [some (.ref b), some (.ref x), some (.ref m), some (.ref o), some (.int i), some (.int o2.1), some (.int o5.1), none]) (st' := [.int (lg_cmp v9 (Int32.toInt64 o5.1))]) rfl ?_
        refine s_lif_eq (tgt := 2640) X (dk okd_law_40 9 rfl) (by decide) ?_ ?_
        · exact s_less [true, true, true, true, true, false, false, false] rfl (h8)
        · refine s_run X ok_law_40 22 1 (pc' := 2639) (vs' := [some (.ref b), some (.ref x), some (.ref m), some (.ref o), some (.int i), some (.int o2.1), some (.int o5.1), none]) (st' := [.int 0]) rfl ?_
          exact s_none
  · refine s_run X ok_law_40 15 1 (pc' := 2622) (vs' := [some (.ref b), some (.ref x), some (.ref m), some (.ref o), some (.int i), some (.int o2.1), some (.int o5.1), none]) (st' := [.int 0]) rfl ?_
    exact s_none
def tab_law_41 : List En := [(2643, 8, 1, 0), (2644, 8, 0, 0), (2645, 5, 4, 0), (2647, 0, 0, 1), (2648, 17, 0, 0), (2650, 8, 0, 0), (2651, 5, 4, 0), (2653, 0, 0, 2), (2654, 17, 0, 0), (2656, 31, 0, 0), (2657, 1, 0, 32), (2659, 34, 0, 0), (2660, 8, 0, 0), (2661, 5, 4, 0), (2663, 0, 0, 3), (2664, 17, 0, 0), (2666, 31, 0, 0), (2670, 26, 0, 0), (2671, 27, 0, 0), (2672, 8, 3, 0), (2676, 11, 5, 0), (2678, 8, 2, 0), (2679, 8, 0, 0), (2680, 5, 4, 0), (2682, 0, 0, 1), (2683, 17, 0, 0), (2685, 8, 0, 0), (2686, 5, 4, 0), (2688, 0, 0, 2), (2689, 17, 0, 0), (2691, 31, 0, 0), (2692, 1, 0, 32), (2694, 34, 0, 0), (2695, 8, 0, 0), (2696, 5, 4, 0), (2698, 0, 0, 3), (2699, 17, 0, 0), (2701, 31, 0, 0), (2705, 26, 0, 0), (2706, 27, 0, 0), (2710, 11, 6, 0), (2712, 8, 2, 0), (2716, 5, 5, 0), (2721, 0, 0, 0), (2723, 5, 5, 0), (2728, 8, 3, 0), (2729, 0, 0, 0), (2731, 5, 6, 0), (2733, 31, 0, 0), (2734, 40, 0, 0), (2738, 0, 0, 0), (2740, 41, 4006, 0)]
theorem ok_law_41 : tab_law_41.all (okE code) = true := by decide +kernel
def ed_law_41 : List (Nat × Instr × Nat) := [(2649, .iaload, 1), (2655, .iaload, 1), (2665, .iaload, 1), (2667, .ldc2_w 270, 3), (2673, .invokestatic 329, 3), (2684, .iaload, 1), (2690, .iaload, 1), (2700, .iaload, 1), (2702, .ldc2_w 270, 3), (2707, .invokevirtual 331, 3), (2713, .invokevirtual 214, 3), (2718, .if_icmp .eq 5, 3), (2722, .ireturn, 1), (2725, .ifCond .ne 15, 3), (2730, .laload, 1), (2735, .ifCond .eq 5, 3), (2739, .ireturn, 1)]
theorem okd_law_41 : ed_law_41.all (okD code) = true := by decide +kernel
def f_law_41 (Ls : Nat) (xs : Nat → Int32) (S : St) (x m o : Nat) (i : Int32) (c : Nat) (kont : St → Nat → Option Unit) : Option Unit := sx Ls xs (i + 1) fun (v1 : Int32) => sx Ls xs (i + 2) fun (v2 : Int32) => sx Ls xs (i + 3) fun (v3 : Int32) => cl (f_L_payOff S x v1 (((Int32.toInt64 v2) <<< ((Int32.toInt64 32) &&& 63)) ||| ((Int32.toInt64 v3) &&& 4294967295)) o) fun (o4 : Int32 × St × Nat) => bud (c + o4.2.2) <| sx Ls xs (i + 1) fun (v6 : Int32) => sx Ls xs (i + 2) fun (v7 : Int32) => sx Ls xs (i + 3) fun (v8 : Int32) => cl (f_X12_payOff o4.2.1 m v6 (((Int32.toInt64 v7) <<< ((Int32.toInt64 32) &&& 63)) ||| ((Int32.toInt64 v8) &&& 4294967295))) fun (o9 : Int32 × St) => cl (f_X12_thrown o9.2 m) fun (v10 : Int32) => if v10 = o4.1 then (jn (κ := Option (Unit)) (kont o9.2 ((c + o4.2.2))) fun k11 => if o4.1 = 0 then (ldJ o9.2 o 0 fun (v13 : Int64) => if v13 = (Int32.toInt64 o9.1) then (k11) else (none)) else (k11)) else (none)
set_option maxHeartbeats 4000000 in
set_option maxRecDepth 100000 in
theorem c_law_41 {Cn : Nat → CT} {b Ls : Nat} {xs : Nat → Int32} {Q : Unit → State → Prop} {x m o : Nat} {i : Int32} (hf : Fam Cn b Ls xs) (tx0 : tT (Cn 0) x 10) (tm0 : tT (Cn 0) m 11) (to0 : tT (Cn 0) o 14) (S : St) (c : Nat) (hc : c ≤ 512) (kont : St → Nat → Option Unit) (hk : ∀ (S : St) (c : Nat), c ≤ 512 → Jd (Cn c) 8 Q S 4006 [some (.ref b), some (.ref x), some (.ref m), some (.ref o), some (.int i), none, none, none] [] (kont S c)) : Jd (Cn c) 8 Q S 2643 [some (.ref b), some (.ref x), some (.ref m), some (.ref o), some (.int i), none, none, none] [] (f_law_41 Ls xs S x m o i c kont) := by
  have X := hf.X hc
  have E := hf.E c
  have tx_ := hf.T c tx0
  have tm_ := hf.T c tm0
  have to_ := hf.T c to0
  unfold f_law_41
  refine s_run X ok_law_41 0 5 (pc' := 2649) (vs' := [some (.ref b), some (.ref x), some (.ref m), some (.ref o), some (.int i), none, none, none]) (st' := [.int (i + 1), .ref b, .ref x]) rfl ?_
  refine s_sld hf (dk okd_law_41 0 rfl) (fun v1 => ?_)
  refine s_run X ok_law_41 5 4 (pc' := 2655) (vs' := [some (.ref b), some (.ref x), some (.ref m), some (.ref o), some (.int i), none, none, none]) (st' := [.int (i + 2), .ref b, .int v1, .ref x]) rfl ?_
  refine s_sld hf (dk okd_law_41 1 rfl) (fun v2 => ?_)
  refine s_run X ok_law_41 9 7 (pc' := 2665) (vs' := [some (.ref b), some (.ref x), some (.ref m), some (.ref o), some (.int i), none, none, none]) (st' := [.int (i + 3), .ref b, .long ((Int32.toInt64 v2) <<< ((Int32.toInt64 32) &&& 63)), .int v1, .ref x]) rfl ?_
  refine s_sld hf (dk okd_law_41 2 rfl) (fun v3 => ?_)
  refine s_run X ok_law_41 16 1 (pc' := 2667) (vs' := [some (.ref b), some (.ref x), some (.ref m), some (.ref o), some (.int i), none, none, none]) (st' := [.long (Int32.toInt64 v3), .long ((Int32.toInt64 v2) <<< ((Int32.toInt64 32) &&& 63)), .int v1, .ref x]) rfl ?_
  refine s_ldc2 X cl_L_270 (dk okd_law_41 3 rfl) ?_
  refine s_run X ok_law_41 17 3 (pc' := 2673) (vs' := [some (.ref b), some (.ref x), some (.ref m), some (.ref o), some (.int i), none, none, none]) (st' := [.ref o, .long (((Int32.toInt64 v2) <<< ((Int32.toInt64 32) &&& 63)) ||| ((Int32.toInt64 v3) &&& 4294967295)), .int v1, .ref x]) rfl ?_
  refine s_callH (c0 := c) (As := [.ref x, .int v1, .long (((Int32.toInt64 v2) <<< ((Int32.toInt64 32) &&& 63)) ||| ((Int32.toInt64 v3) &&& 4294967295)), .ref o]) (rest := []) hf mh_L_329 (c_L_payOff S x v1 (((Int32.toInt64 v2) <<< ((Int32.toInt64 32) &&& 63)) ||| ((Int32.toInt64 v3) &&& 4294967295)) o) (ta2 tx_ to_) rfl rfl (Nat.le_of_ble_eq_true rfl) (Nat.le_of_ble_eq_true rfl) (Nat.le_of_ble_eq_true rfl) (dk okd_law_41 4 rfl) (st' := fun o4 => [.int o4.1]) (fun _ => rfl) (fun o4 hb5 => ?_)
  have X := hf.X hb5
  have E := hf.E (c + o4.2.2)
  have tx_ := hf.T (c + o4.2.2) tx_
  have tm_ := hf.T (c + o4.2.2) tm_
  have to_ := hf.T (c + o4.2.2) to_
  refine s_run X ok_law_41 20 6 (pc' := 2684) (vs' := [some (.ref b), some (.ref x), some (.ref m), some (.ref o), some (.int i), some (.int o4.1), none, none]) (st' := [.int (i + 1), .ref b, .ref m]) rfl ?_
  refine s_sld hf (dk okd_law_41 5 rfl) (fun v6 => ?_)
  refine s_run X ok_law_41 26 4 (pc' := 2690) (vs' := [some (.ref b), some (.ref x), some (.ref m), some (.ref o), some (.int i), some (.int o4.1), none, none]) (st' := [.int (i + 2), .ref b, .int v6, .ref m]) rfl ?_
  refine s_sld hf (dk okd_law_41 6 rfl) (fun v7 => ?_)
  refine s_run X ok_law_41 30 7 (pc' := 2700) (vs' := [some (.ref b), some (.ref x), some (.ref m), some (.ref o), some (.int i), some (.int o4.1), none, none]) (st' := [.int (i + 3), .ref b, .long ((Int32.toInt64 v7) <<< ((Int32.toInt64 32) &&& 63)), .int v6, .ref m]) rfl ?_
  refine s_sld hf (dk okd_law_41 7 rfl) (fun v8 => ?_)
  refine s_run X ok_law_41 37 1 (pc' := 2702) (vs' := [some (.ref b), some (.ref x), some (.ref m), some (.ref o), some (.int i), some (.int o4.1), none, none]) (st' := [.long (Int32.toInt64 v8), .long ((Int32.toInt64 v7) <<< ((Int32.toInt64 32) &&& 63)), .int v6, .ref m]) rfl ?_
  refine s_ldc2 X cl_L_270 (dk okd_law_41 8 rfl) ?_
  refine s_run X ok_law_41 38 2 (pc' := 2707) (vs' := [some (.ref b), some (.ref x), some (.ref m), some (.ref o), some (.int i), some (.int o4.1), none, none]) (st' := [.long (((Int32.toInt64 v7) <<< ((Int32.toInt64 32) &&& 63)) ||| ((Int32.toInt64 v8) &&& 4294967295)), .int v6, .ref m]) rfl ?_
  refine s_callV (b := m) (As := [.int v6, .long (((Int32.toInt64 v7) <<< ((Int32.toInt64 32) &&& 63)) ||| ((Int32.toInt64 v8) &&& 4294967295))]) (rest := []) X E mv_L_331 (c_X12_payOff o4.2.1 m v6 (((Int32.toInt64 v7) <<< ((Int32.toInt64 32) &&& 63)) ||| ((Int32.toInt64 v8) &&& 4294967295))) rfl (ta1 tm_) rfl (by decide) tm_ rfl rfl (Nat.le_of_ble_eq_true rfl) (Nat.le_of_ble_eq_true rfl) (Nat.le_of_ble_eq_true rfl) (dk okd_law_41 9 rfl) (st' := fun o9 => [.int o9.1]) (fun _ => rfl) (fun o9 => ?_)
  refine s_run X ok_law_41 40 2 (pc' := 2713) (vs' := [some (.ref b), some (.ref x), some (.ref m), some (.ref o), some (.int i), some (.int o4.1), some (.int o9.1), none]) (st' := [.ref m]) rfl ?_
  refine s_callV (b := m) (As := []) (rest := []) X E mv_L_214 (c_X12_thrown o9.2 m) rfl (ta1 tm_) rfl (by decide) tm_ rfl rfl (Nat.le_of_ble_eq_true rfl) (Nat.le_of_ble_eq_true rfl) (Nat.le_of_ble_eq_true rfl) (dk okd_law_41 10 rfl) (st' := fun v10 => [.int v10]) (fun _ => rfl) (fun v10 => ?_)
  refine s_run X ok_law_41 42 1 (pc' := 2718) (vs' := [some (.ref b), some (.ref x), some (.ref m), some (.ref o), some (.int i), some (.int o4.1), some (.int o9.1), none]) (st' := [.int o4.1, .int v10]) rfl ?_
  refine s_icmp_eq (tgt := 2723) X (dk okd_law_41 11 rfl) (by decide) ?_ ?_
  · refine s_run X ok_law_41 44 1 (pc' := 2725) (vs' := [some (.ref b), some (.ref x), some (.ref m), some (.ref o), some (.int i), some (.int o4.1), some (.int o9.1), none]) (st' := [.int o4.1]) rfl ?_
    refine s_jn (κ := Option (Unit)) (fun k11 => Jd (Cn (c + o4.2.2)) 8 Q o9.2 2740 [some (.ref b), some (.ref x), some (.ref m), some (.ref o), some (.int i), none, none, none] [] k11) ?_ (fun k11 h12 => ?_)
    · refine s_run X ok_law_41 51 1 (pc' := 4006) (vs' := [some (.ref b), some (.ref x), some (.ref m), some (.ref o), some (.int i), none, none, none]) (st' := []) rfl ?_
      exact s_less [true, true, true, true, true, false, false, false] rfl (hk o9.2 ((c + o4.2.2)) hb5)
    · refine s_if_ne (tgt := 2740) X (dk okd_law_41 13 rfl) (by decide) ?_ ?_
      · exact s_less [true, true, true, true, true, false, false, false] rfl (h12)
      · refine s_run X ok_law_41 45 2 (pc' := 2730) (vs' := [some (.ref b), some (.ref x), some (.ref m), some (.ref o), some (.int i), some (.int o4.1), some (.int o9.1), none]) (st' := [.int 0, .ref o]) rfl ?_
        refine s_lald X to_ (dk okd_law_41 14 rfl) (fun v13 => ?_)
        refine s_run X ok_law_41 47 3 (pc' := 2735) (vs' := [some (.ref b), some (.ref x), some (.ref m), some (.ref o), some (.int i), some (.int o4.1), some (.int o9.1), none]) (st' := [.int (lg_cmp v13 (Int32.toInt64 o9.1))]) rfl ?_
        refine s_lif_eq (tgt := 2740) X (dk okd_law_41 15 rfl) (by decide) ?_ ?_
        · exact s_less [true, true, true, true, true, false, false, false] rfl (h12)
        · refine s_run X ok_law_41 50 1 (pc' := 2739) (vs' := [some (.ref b), some (.ref x), some (.ref m), some (.ref o), some (.int i), some (.int o4.1), some (.int o9.1), none]) (st' := [.int 0]) rfl ?_
          exact s_none
  · refine s_run X ok_law_41 43 1 (pc' := 2722) (vs' := [some (.ref b), some (.ref x), some (.ref m), some (.ref o), some (.int i), some (.int o4.1), some (.int o9.1), none]) (st' := [.int 0]) rfl ?_
    exact s_none
