theorem mh_L_332 : MH RL 332 yL_terminate cL_terminate 4 [(0, 16, 19, 22)] 3 := ⟨TT_7 (i := 19) rfl rfl, TT_7 (i := 20) rfl rfl, TT_1 (i := 0) rfl rfl, TT_7 (i := 21) rfl rfl, ⟨by decide, by decide, by decide +kernel⟩⟩
theorem mh_L_335 : MH RL 335 yL_status cL_status 4 [(0, 9, 12, 22)] 3 := ⟨TT_7 (i := 43) rfl rfl, TT_7 (i := 44) rfl rfl, TT_1 (i := 0) rfl rfl, TT_7 (i := 45) rfl rfl, ⟨by decide, by decide, by decide +kernel⟩⟩
theorem mh_L_342 : MH RL 342 yL_contributions cL_contributions 4 [(0, 8, 11, 22)] 3 := ⟨TT_7 (i := 50) rfl rfl, TT_7 (i := 51) rfl rfl, TT_1 (i := 0) rfl rfl, TT_7 (i := 52) rfl rfl, ⟨by decide, by decide, by decide +kernel⟩⟩
theorem mh_L_345 : MH RL 345 yL_spent cL_spent 4 [(0, 8, 11, 13)] 3 := ⟨TT_7 (i := 57) rfl rfl, TT_7 (i := 58) rfl rfl, TT_1 (i := 0) rfl rfl, TT_7 (i := 59) rfl rfl, ⟨by decide, by decide, by decide +kernel⟩⟩
theorem mh_L_348 : MH RL 348 yL_campaign cL_campaign 5 [(0, 16, 19, 13)] 3 := ⟨TT_7 (i := 64) rfl rfl, TT_7 (i := 65) rfl rfl, TT_1 (i := 0) rfl rfl, TT_7 (i := 66) rfl rfl, ⟨by decide, by decide, by decide +kernel⟩⟩
theorem mh_L_352 : MH RL 352 yL_grant cL_grant 6 [(0, 18, 21, 22), (0, 18, 25, 13)] 4 := ⟨TT_7 (i := 72) rfl rfl, TT_7 (i := 73) rfl rfl, TT_1 (i := 0) rfl rfl, TT_7 (i := 74) rfl rfl, ⟨by decide, by decide, by decide +kernel⟩⟩
theorem mh_L_355 : MH RL 355 yL_allowance cL_allowance 4 [(0, 8, 11, 22)] 3 := ⟨TT_7 (i := 80) rfl rfl, TT_7 (i := 81) rfl rfl, TT_1 (i := 0) rfl rfl, TT_7 (i := 82) rfl rfl, ⟨by decide, by decide, by decide +kernel⟩⟩
theorem mh_L_358 : MH RL 358 yL_nationalShare cL_nationalShare 4 [(0, 8, 11, 22)] 3 := ⟨TT_7 (i := 88) rfl rfl, TT_7 (i := 89) rfl rfl, TT_1 (i := 0) rfl rfl, TT_7 (i := 90) rfl rfl, ⟨by decide, by decide, by decide +kernel⟩⟩
theorem mh_L_361 : MH RL 361 yL_requestTransfer cL_requestTransfer 7 [(0, 19, 22, 22), (0, 19, 26, 13)] 5 := ⟨TT_7 (i := 99) rfl rfl, TT_7 (i := 100) rfl rfl, TT_1 (i := 0) rfl rfl, TT_7 (i := 101) rfl rfl, ⟨by decide, by decide, by decide +kernel⟩⟩
theorem mh_L_365 : MH RL 365 yL_vote cL_vote 6 [(0, 12, 15, 22), (0, 12, 19, 13)] 5 := ⟨TT_7 (i := 115) rfl rfl, TT_7 (i := 116) rfl rfl, TT_1 (i := 0) rfl rfl, TT_7 (i := 117) rfl rfl, ⟨by decide, by decide, by decide +kernel⟩⟩
theorem mh_L_369 : MH RL 369 yL_exercise cL_exercise 4 [(0, 16, 19, 22)] 3 := ⟨TT_7 (i := 123) rfl rfl, TT_7 (i := 124) rfl rfl, TT_1 (i := 0) rfl rfl, TT_7 (i := 125) rfl rfl, ⟨by decide, by decide, by decide +kernel⟩⟩
theorem mh_L_372 : MH RL 372 yL_withdraw cL_withdraw 4 [(0, 16, 19, 22)] 3 := ⟨TT_7 (i := 134) rfl rfl, TT_7 (i := 135) rfl rfl, TT_1 (i := 0) rfl rfl, TT_7 (i := 136) rfl rfl, ⟨by decide, by decide, by decide +kernel⟩⟩
theorem mh_L_375 : MH RL 375 yL_transferState cL_transferState 4 [(0, 9, 12, 22)] 3 := ⟨TT_7 (i := 142) rfl rfl, TT_7 (i := 143) rfl rfl, TT_1 (i := 0) rfl rfl, TT_7 (i := 144) rfl rfl, ⟨by decide, by decide, by decide +kernel⟩⟩
theorem mh_L_378 : MH RL 378 yL_transferWait cL_transferWait 4 [(0, 9, 12, 22)] 3 := ⟨TT_7 (i := 149) rfl rfl, TT_7 (i := 150) rfl rfl, TT_1 (i := 0) rfl rfl, TT_7 (i := 151) rfl rfl, ⟨by decide, by decide, by decide +kernel⟩⟩
theorem mh_L_381 : MH RL 381 yL_generation cL_generation 4 [(0, 9, 12, 22)] 3 := ⟨TT_7 (i := 158) rfl rfl, TT_7 (i := 159) rfl rfl, TT_1 (i := 0) rfl rfl, TT_7 (i := 160) rfl rfl, ⟨by decide, by decide, by decide +kernel⟩⟩
theorem mh_L_384 : MH RL 384 yL_worth cL_worth 4 [(0, 9, 12, 22)] 3 := ⟨TT_7 (i := 165) rfl rfl, TT_7 (i := 166) rfl rfl, TT_1 (i := 0) rfl rfl, TT_7 (i := 167) rfl rfl, ⟨by decide, by decide, by decide +kernel⟩⟩
theorem mh_L_395 : MH RL 395 yL_formatInvoice cL_formatInvoice 5 [(0, 10, 13, 22), (0, 10, 17, 13)] 4 := ⟨TT_7 (i := 172) rfl rfl, TT_7 (i := 173) rfl rfl, TT_1 (i := 0) rfl rfl, TT_7 (i := 174) rfl rfl, ⟨by decide, by decide, by decide +kernel⟩⟩
theorem mv_L_334 : MV RL 334 yX12_terminate cX12_terminate 3 (some .boolean) 1 := ⟨TT_9 (i := 147) rfl rfl, TT_9 (i := 148) rfl rfl, TT_9 (i := 149) rfl rfl, TT_1 (i := 13) rfl rfl, TT_9 (i := 150) rfl rfl, ⟨by decide, by decide, by decide +kernel⟩⟩
theorem mv_L_337 : MV RL 337 yX12_status cX12_status 2 (some .int) 1 := ⟨TT_9 (i := 156) rfl rfl, TT_9 (i := 157) rfl rfl, TT_9 (i := 158) rfl rfl, TT_1 (i := 13) rfl rfl, TT_9 (i := 159) rfl rfl, ⟨by decide, by decide, by decide +kernel⟩⟩
theorem mv_L_338 : MV RL 338 yX11_fundBalance cX11_fundBalance 1 (some .long) 0 := ⟨TT_4 (i := 73) rfl rfl, TT_4 (i := 74) rfl rfl, TT_4 (i := 75) rfl rfl, TT_1 (i := 1) rfl rfl, TT_4 (i := 76) rfl rfl, ⟨by decide, by decide, by decide +kernel⟩⟩
theorem mv_L_341 : MV RL 341 yX12_fundBalance cX12_fundBalance 1 (some .long) 0 := ⟨TT_9 (i := 160) rfl rfl, TT_9 (i := 161) rfl rfl, TT_9 (i := 162) rfl rfl, TT_1 (i := 13) rfl rfl, TT_9 (i := 163) rfl rfl, ⟨by decide, by decide, by decide +kernel⟩⟩
theorem mv_L_344 : MV RL 344 yX12_contributions cX12_contributions 2 (some .long) 1 := ⟨TT_9 (i := 172) rfl rfl, TT_9 (i := 173) rfl rfl, TT_9 (i := 174) rfl rfl, TT_1 (i := 13) rfl rfl, TT_9 (i := 175) rfl rfl, ⟨by decide, by decide, by decide +kernel⟩⟩
theorem mv_L_347 : MV RL 347 yX12_spent cX12_spent 2 (some .long) 1 := ⟨TT_9 (i := 176) rfl rfl, TT_9 (i := 177) rfl rfl, TT_9 (i := 178) rfl rfl, TT_1 (i := 13) rfl rfl, TT_9 (i := 179) rfl rfl, ⟨by decide, by decide, by decide +kernel⟩⟩
theorem mv_L_351 : MV RL 351 yX12_campaign cX12_campaign 3 (some .boolean) 1 := ⟨TT_9 (i := 180) rfl rfl, TT_9 (i := 181) rfl rfl, TT_9 (i := 182) rfl rfl, TT_1 (i := 13) rfl rfl, TT_9 (i := 183) rfl rfl, ⟨by decide, by decide, by decide +kernel⟩⟩
theorem mv_L_354 : MV RL 354 yX12_grant cX12_grant 4 (some .boolean) 2 := ⟨TT_9 (i := 184) rfl rfl, TT_9 (i := 185) rfl rfl, TT_9 (i := 186) rfl rfl, TT_1 (i := 13) rfl rfl, TT_9 (i := 187) rfl rfl, ⟨by decide, by decide, by decide +kernel⟩⟩
theorem mv_L_357 : MV RL 357 yX12_allowance cX12_allowance 2 (some .long) 1 := ⟨TT_9 (i := 192) rfl rfl, TT_9 (i := 193) rfl rfl, TT_9 (i := 194) rfl rfl, TT_1 (i := 13) rfl rfl, TT_9 (i := 195) rfl rfl, ⟨by decide, by decide, by decide +kernel⟩⟩
theorem mv_L_360 : MV RL 360 yX12_nationalShare cX12_nationalShare 11 (some .long) 1 := ⟨TT_9 (i := 196) rfl rfl, TT_9 (i := 197) rfl rfl, TT_9 (i := 198) rfl rfl, TT_1 (i := 13) rfl rfl, TT_9 (i := 199) rfl rfl, ⟨by decide, by decide, by decide +kernel⟩⟩
theorem mv_L_364 : MV RL 364 yX12_requestTransfer cX12_requestTransfer 5 (some .boolean) 3 := ⟨TT_9 (i := 204) rfl rfl, TT_9 (i := 205) rfl rfl, TT_9 (i := 206) rfl rfl, TT_1 (i := 13) rfl rfl, TT_9 (i := 207) rfl rfl, ⟨by decide, by decide, by decide +kernel⟩⟩
theorem mv_L_368 : MV RL 368 yX12_vote cX12_vote 4 (some .int) 3 := ⟨TT_9 (i := 209) rfl rfl, TT_9 (i := 210) rfl rfl, TT_9 (i := 211) rfl rfl, TT_1 (i := 13) rfl rfl, TT_9 (i := 212) rfl rfl, ⟨by decide, by decide, by decide +kernel⟩⟩
theorem mv_L_371 : MV RL 371 yX12_exercise cX12_exercise 2 (some .boolean) 1 := ⟨TT_9 (i := 213) rfl rfl, TT_9 (i := 214) rfl rfl, TT_9 (i := 215) rfl rfl, TT_1 (i := 13) rfl rfl, TT_9 (i := 216) rfl rfl, ⟨by decide, by decide, by decide +kernel⟩⟩
theorem mv_L_374 : MV RL 374 yX12_withdraw cX12_withdraw 2 (some .boolean) 1 := ⟨TT_9 (i := 218) rfl rfl, TT_9 (i := 219) rfl rfl, TT_9 (i := 220) rfl rfl, TT_1 (i := 13) rfl rfl, TT_9 (i := 221) rfl rfl, ⟨by decide, by decide, by decide +kernel⟩⟩
theorem mv_L_377 : MV RL 377 yX12_transferState cX12_transferState 2 (some .int) 1 := ⟨TT_9 (i := 222) rfl rfl, TT_9 (i := 223) rfl rfl, TT_9 (i := 224) rfl rfl, TT_1 (i := 13) rfl rfl, TT_9 (i := 225) rfl rfl, ⟨by decide, by decide, by decide +kernel⟩⟩
theorem mv_L_380 : MV RL 380 yX12_transferWait cX12_transferWait 2 (some .int) 1 := ⟨TT_9 (i := 226) rfl rfl, TT_9 (i := 227) rfl rfl, TT_9 (i := 228) rfl rfl, TT_1 (i := 13) rfl rfl, TT_9 (i := 229) rfl rfl, ⟨by decide, by decide, by decide +kernel⟩⟩
theorem mv_L_383 : MV RL 383 yX12_generation cX12_generation 2 (some .int) 1 := ⟨TT_9 (i := 230) rfl rfl, TT_9 (i := 231) rfl rfl, TT_9 (i := 232) rfl rfl, TT_1 (i := 13) rfl rfl, TT_9 (i := 233) rfl rfl, ⟨by decide, by decide, by decide +kernel⟩⟩
theorem mv_L_386 : MV RL 386 yX12_worth cX12_worth 2 (some .int) 1 := ⟨TT_9 (i := 234) rfl rfl, TT_9 (i := 235) rfl rfl, TT_9 (i := 236) rfl rfl, TT_1 (i := 13) rfl rfl, TT_9 (i := 237) rfl rfl, ⟨by decide, by decide, by decide +kernel⟩⟩
theorem mv_L_387 : MV RL 387 yX11_saveSnapshot cX11_saveSnapshot 2 (some .boolean) 1 := ⟨TT_4 (i := 85) rfl rfl, TT_4 (i := 86) rfl rfl, TT_4 (i := 87) rfl rfl, TT_1 (i := 1) rfl rfl, TT_4 (i := 88) rfl rfl, ⟨by decide, by decide, by decide +kernel⟩⟩
theorem mv_L_390 : MV RL 390 yX12_saveSnapshot cX12_saveSnapshot 2 (some .boolean) 1 := ⟨TT_8 (i := 56) rfl rfl, TT_8 (i := 57) rfl rfl, TT_8 (i := 58) rfl rfl, TT_1 (i := 13) rfl rfl, TT_8 (i := 59) rfl rfl, ⟨by decide, by decide, by decide +kernel⟩⟩
theorem mv_L_391 : MV RL 391 yX11_restoreSnapshot cX11_restoreSnapshot 2 (some .boolean) 1 := ⟨TT_4 (i := 121) rfl rfl, TT_4 (i := 122) rfl rfl, TT_4 (i := 123) rfl rfl, TT_1 (i := 1) rfl rfl, TT_4 (i := 124) rfl rfl, ⟨by decide, by decide, by decide +kernel⟩⟩
theorem mv_L_394 : MV RL 394 yX12_restoreSnapshot cX12_restoreSnapshot 2 (some .boolean) 1 := ⟨TT_8 (i := 67) rfl rfl, TT_8 (i := 68) rfl rfl, TT_8 (i := 69) rfl rfl, TT_1 (i := 13) rfl rfl, TT_8 (i := 70) rfl rfl, ⟨by decide, by decide, by decide +kernel⟩⟩
theorem mv_L_397 : MV RL 397 yX12_formatInvoice cX12_formatInvoice 4 (some .int) 2 := ⟨TT_9 (i := 238) rfl rfl, TT_9 (i := 239) rfl rfl, TT_10 (i := 0) rfl rfl, TT_1 (i := 13) rfl rfl, TT_10 (i := 1) rfl rfl, ⟨by decide, by decide, by decide +kernel⟩⟩
theorem mv_L_398 : MV RL 398 yX11_formattedByte cX11_formattedByte 2 (some .int) 1 := ⟨TT_4 (i := 125) rfl rfl, TT_4 (i := 126) rfl rfl, TT_4 (i := 127) rfl rfl, TT_1 (i := 1) rfl rfl, TT_4 (i := 128) rfl rfl, ⟨by decide, by decide, by decide +kernel⟩⟩
theorem mv_L_401 : MV RL 401 yX12_formattedByte cX12_formattedByte 2 (some .int) 1 := ⟨TT_10 (i := 27) rfl rfl, TT_10 (i := 28) rfl rfl, TT_10 (i := 29) rfl rfl, TT_1 (i := 13) rfl rfl, TT_10 (i := 30) rfl rfl, ⟨by decide, by decide, by decide +kernel⟩⟩
def tab_law_42 : List En := [(2743, 8, 1, 0), (2744, 8, 0, 0), (2745, 5, 4, 0), (2747, 0, 0, 1), (2748, 17, 0, 0), (2750, 8, 3, 0), (2754, 11, 5, 0), (2756, 8, 2, 0), (2757, 8, 0, 0), (2758, 5, 4, 0), (2760, 0, 0, 1), (2761, 17, 0, 0), (2766, 11, 6, 0), (2768, 8, 2, 0), (2772, 5, 5, 0), (2777, 0, 0, 0), (2779, 5, 5, 0), (2784, 8, 3, 0), (2785, 0, 0, 0), (2787, 5, 6, 0), (2792, 3, 1, 0), (2793, 41, 2797, 0), (2796, 3, 0, 0), (2797, 40, 0, 0), (2801, 0, 0, 0), (2803, 41, 4006, 0)]
theorem ok_law_42 : tab_law_42.all (okE code) = true := by decide +kernel
def ed_law_42 : List (Nat × Instr × Nat) := [(2749, .iaload, 1), (2751, .invokestatic 332, 3), (2762, .iaload, 1), (2763, .invokevirtual 334, 3), (2769, .invokevirtual 214, 3), (2774, .if_icmp .eq 5, 3), (2778, .ireturn, 1), (2781, .ifCond .ne 22, 3), (2786, .laload, 1), (2789, .ifCond .eq 7, 3), (2798, .ifCond .eq 5, 3), (2802, .ireturn, 1)]
theorem okd_law_42 : ed_law_42.all (okD code) = true := by decide +kernel
def f_law_42 (Ls : Nat) (xs : Nat → Int32) (S : St) (x m o : Nat) (i : Int32) (c : Nat) (kont : St → Nat → Option Unit) : Option Unit := sx Ls xs (i + 1) fun (v1 : Int32) => cl (f_L_terminate S x v1 o) fun (o2 : Int32 × St × Nat) => bud (c + o2.2.2) <| sx Ls xs (i + 1) fun (v4 : Int32) => cl (f_X12_terminate o2.2.1 m v4) fun (o5 : Int32 × St) => cl (f_X12_thrown o5.2 m) fun (v6 : Int32) => if v6 = o2.1 then (jn (κ := Option (Unit)) (kont o5.2 ((c + o2.2.2))) fun k7 => if o2.1 = 0 then (ldJ o5.2 o 0 fun (v9 : Int64) => jn (κ := Int64 → Option (Unit)) (fun x10 => if v9 = x10 then (k7) else (none)) fun k11 => if o5.1 = 0 then (k11 0) else (k11 1)) else (k7)) else (none)
set_option maxHeartbeats 4000000 in
set_option maxRecDepth 100000 in
theorem c_law_42 {Cn : Nat → CT} {b Ls : Nat} {xs : Nat → Int32} {Q : Unit → State → Prop} {x m o : Nat} {i : Int32} (hf : Fam Cn b Ls xs) (tx0 : tT (Cn 0) x 10) (tm0 : tT (Cn 0) m 11) (to0 : tT (Cn 0) o 14) (S : St) (c : Nat) (hc : c ≤ 512) (kont : St → Nat → Option Unit) (hk : ∀ (S : St) (c : Nat), c ≤ 512 → Jd (Cn c) 8 Q S 4006 [some (.ref b), some (.ref x), some (.ref m), some (.ref o), some (.int i), none, none, none] [] (kont S c)) : Jd (Cn c) 8 Q S 2743 [some (.ref b), some (.ref x), some (.ref m), some (.ref o), some (.int i), none, none, none] [] (f_law_42 Ls xs S x m o i c kont) := by
  have X := hf.X hc
  have E := hf.E c
  have tx_ := hf.T c tx0
  have tm_ := hf.T c tm0
  have to_ := hf.T c to0
  unfold f_law_42
  refine s_run X ok_law_42 0 5 (pc' := 2749) (vs' := [some (.ref b), some (.ref x), some (.ref m), some (.ref o), some (.int i), none, none, none]) (st' := [.int (i + 1), .ref b, .ref x]) rfl ?_
  refine s_sld hf (dk okd_law_42 0 rfl) (fun v1 => ?_)
  refine s_run X ok_law_42 5 1 (pc' := 2751) (vs' := [some (.ref b), some (.ref x), some (.ref m), some (.ref o), some (.int i), none, none, none]) (st' := [.ref o, .int v1, .ref x]) rfl ?_
  refine s_callH (c0 := c) (As := [.ref x, .int v1, .ref o]) (rest := []) hf mh_L_332 (c_L_terminate S x v1 o) (ta2 tx_ to_) rfl rfl (Nat.le_of_ble_eq_true rfl) (Nat.le_of_ble_eq_true rfl) (Nat.le_of_ble_eq_true rfl) (dk okd_law_42 1 rfl) (st' := fun o2 => [.int o2.1]) (fun _ => rfl) (fun o2 hb3 => ?_)
  have X := hf.X hb3
  have E := hf.E (c + o2.2.2)
  have tx_ := hf.T (c + o2.2.2) tx_
  have tm_ := hf.T (c + o2.2.2) tm_
  have to_ := hf.T (c + o2.2.2) to_
  refine s_run X ok_law_42 6 6 (pc' := 2762) (vs' := [some (.ref b), some (.ref x), some (.ref m), some (.ref o), some (.int i), some (.int o2.1), none, none]) (st' := [.int (i + 1), .ref b, .ref m]) rfl ?_
  refine s_sld hf (dk okd_law_42 2 rfl) (fun v4 => ?_)
  refine s_callV (b := m) (As := [.int v4]) (rest := []) X E mv_L_334 (c_X12_terminate o2.2.1 m v4) rfl (ta1 tm_) rfl (by decide) tm_ rfl rfl (Nat.le_of_ble_eq_true rfl) (Nat.le_of_ble_eq_true rfl) (Nat.le_of_ble_eq_true rfl) (dk okd_law_42 3 rfl) (st' := fun o5 => [.int o5.1]) (fun _ => rfl) (fun o5 => ?_)
  refine s_run X ok_law_42 12 2 (pc' := 2769) (vs' := [some (.ref b), some (.ref x), some (.ref m), some (.ref o), some (.int i), some (.int o2.1), some (.int o5.1), none]) (st' := [.ref m]) rfl ?_
  refine s_callV (b := m) (As := []) (rest := []) X E mv_L_214 (c_X12_thrown o5.2 m) rfl (ta1 tm_) rfl (by decide) tm_ rfl rfl (Nat.le_of_ble_eq_true rfl) (Nat.le_of_ble_eq_true rfl) (Nat.le_of_ble_eq_true rfl) (dk okd_law_42 4 rfl) (st' := fun v6 => [.int v6]) (fun _ => rfl) (fun v6 => ?_)
  refine s_run X ok_law_42 14 1 (pc' := 2774) (vs' := [some (.ref b), some (.ref x), some (.ref m), some (.ref o), some (.int i), some (.int o2.1), some (.int o5.1), none]) (st' := [.int o2.1, .int v6]) rfl ?_
  refine s_icmp_eq (tgt := 2779) X (dk okd_law_42 5 rfl) (by decide) ?_ ?_
  · refine s_run X ok_law_42 16 1 (pc' := 2781) (vs' := [some (.ref b), some (.ref x), some (.ref m), some (.ref o), some (.int i), some (.int o2.1), some (.int o5.1), none]) (st' := [.int o2.1]) rfl ?_
    refine s_jn (κ := Option (Unit)) (fun k7 => Jd (Cn (c + o2.2.2)) 8 Q o5.2 2803 [some (.ref b), some (.ref x), some (.ref m), some (.ref o), some (.int i), none, none, none] [] k7) ?_ (fun k7 h8 => ?_)
    · refine s_run X ok_law_42 25 1 (pc' := 4006) (vs' := [some (.ref b), some (.ref x), some (.ref m), some (.ref o), some (.int i), none, none, none]) (st' := []) rfl ?_
      exact s_less [true, true, true, true, true, false, false, false] rfl (hk o5.2 ((c + o2.2.2)) hb3)
    · refine s_if_ne (tgt := 2803) X (dk okd_law_42 7 rfl) (by decide) ?_ ?_
      · exact s_less [true, true, true, true, true, false, false, false] rfl (h8)
      · refine s_run X ok_law_42 17 2 (pc' := 2786) (vs' := [some (.ref b), some (.ref x), some (.ref m), some (.ref o), some (.int i), some (.int o2.1), some (.int o5.1), none]) (st' := [.int 0, .ref o]) rfl ?_
        refine s_lald X to_ (dk okd_law_42 8 rfl) (fun v9 => ?_)
        refine s_run X ok_law_42 19 1 (pc' := 2789) (vs' := [some (.ref b), some (.ref x), some (.ref m), some (.ref o), some (.int i), some (.int o2.1), some (.int o5.1), none]) (st' := [.int o5.1, .long v9]) rfl ?_
        refine s_jn (κ := Int64 → Option (Unit)) (fun k11 => ∀ (x10 : Int64), Jd (Cn (c + o2.2.2)) 8 Q o5.2 2797 [some (.ref b), some (.ref x), some (.ref m), some (.ref o), some (.int i), none, none, none] [.long x10, .long v9] (k11 x10)) (fun x10 => ?_) (fun k11 h12 => ?_)
        · refine s_run X ok_law_42 23 1 (pc' := 2798) (vs' := [some (.ref b), some (.ref x), some (.ref m), some (.ref o), some (.int i), none, none, none]) (st' := [.int (lg_cmp v9 x10)]) rfl ?_
          refine s_lif_eq (tgt := 2803) X (dk okd_law_42 10 rfl) (by decide) ?_ ?_
          · exact h8
          · refine s_run X ok_law_42 24 1 (pc' := 2802) (vs' := [some (.ref b), some (.ref x), some (.ref m), some (.ref o), some (.int i), none, none, none]) (st' := [.int 0]) rfl ?_
            exact s_none
        · refine s_if_eq (tgt := 2796) X (dk okd_law_42 9 rfl) (by decide) ?_ ?_
          · refine s_run X ok_law_42 22 1 (pc' := 2797) (vs' := [some (.ref b), some (.ref x), some (.ref m), some (.ref o), some (.int i), some (.int o2.1), some (.int o5.1), none]) (st' := [.long 0, .long v9]) rfl ?_
            exact s_less [true, true, true, true, true, false, false, false] rfl (h12 0)
          · refine s_run X ok_law_42 20 2 (pc' := 2797) (vs' := [some (.ref b), some (.ref x), some (.ref m), some (.ref o), some (.int i), some (.int o2.1), some (.int o5.1), none]) (st' := [.long 1, .long v9]) rfl ?_
            exact s_less [true, true, true, true, true, false, false, false] rfl (h12 1)
  · refine s_run X ok_law_42 15 1 (pc' := 2778) (vs' := [some (.ref b), some (.ref x), some (.ref m), some (.ref o), some (.int i), some (.int o2.1), some (.int o5.1), none]) (st' := [.int 0]) rfl ?_
    exact s_none
def tab_law_43 : List En := [(2806, 8, 1, 0), (2807, 8, 0, 0), (2808, 5, 4, 0), (2810, 0, 0, 1), (2811, 17, 0, 0), (2813, 8, 3, 0), (2817, 11, 5, 0), (2819, 8, 2, 0), (2820, 8, 0, 0), (2821, 5, 4, 0), (2823, 0, 0, 1), (2824, 17, 0, 0), (2829, 11, 6, 0), (2831, 8, 2, 0), (2835, 5, 5, 0), (2840, 0, 0, 0), (2842, 5, 5, 0), (2847, 8, 3, 0), (2848, 0, 0, 0), (2850, 5, 6, 0), (2852, 31, 0, 0), (2853, 40, 0, 0), (2857, 0, 0, 0), (2859, 41, 4006, 0)]
theorem ok_law_43 : tab_law_43.all (okE code) = true := by decide +kernel
def ed_law_43 : List (Nat × Instr × Nat) := [(2812, .iaload, 1), (2814, .invokestatic 335, 3), (2825, .iaload, 1), (2826, .invokevirtual 337, 3), (2832, .invokevirtual 214, 3), (2837, .if_icmp .eq 5, 3), (2841, .ireturn, 1), (2844, .ifCond .ne 15, 3), (2849, .laload, 1), (2854, .ifCond .eq 5, 3), (2858, .ireturn, 1)]
theorem okd_law_43 : ed_law_43.all (okD code) = true := by decide +kernel
def f_law_43 (Ls : Nat) (xs : Nat → Int32) (S : St) (x m o : Nat) (i : Int32) (c : Nat) (kont : St → Nat → Option Unit) : Option Unit := sx Ls xs (i + 1) fun (v1 : Int32) => cl (f_L_status S x v1 o) fun (o2 : Int32 × St × Nat) => bud (c + o2.2.2) <| sx Ls xs (i + 1) fun (v4 : Int32) => cl (f_X12_status o2.2.1 m v4) fun (o5 : Int32 × St) => cl (f_X12_thrown o5.2 m) fun (v6 : Int32) => if v6 = o2.1 then (jn (κ := Option (Unit)) (kont o5.2 ((c + o2.2.2))) fun k7 => if o2.1 = 0 then (ldJ o5.2 o 0 fun (v9 : Int64) => if v9 = (Int32.toInt64 o5.1) then (k7) else (none)) else (k7)) else (none)
set_option maxHeartbeats 4000000 in
set_option maxRecDepth 100000 in
theorem c_law_43 {Cn : Nat → CT} {b Ls : Nat} {xs : Nat → Int32} {Q : Unit → State → Prop} {x m o : Nat} {i : Int32} (hf : Fam Cn b Ls xs) (tx0 : tT (Cn 0) x 10) (tm0 : tT (Cn 0) m 11) (to0 : tT (Cn 0) o 14) (S : St) (c : Nat) (hc : c ≤ 512) (kont : St → Nat → Option Unit) (hk : ∀ (S : St) (c : Nat), c ≤ 512 → Jd (Cn c) 8 Q S 4006 [some (.ref b), some (.ref x), some (.ref m), some (.ref o), some (.int i), none, none, none] [] (kont S c)) : Jd (Cn c) 8 Q S 2806 [some (.ref b), some (.ref x), some (.ref m), some (.ref o), some (.int i), none, none, none] [] (f_law_43 Ls xs S x m o i c kont) := by
  have X := hf.X hc
  have E := hf.E c
  have tx_ := hf.T c tx0
  have tm_ := hf.T c tm0
  have to_ := hf.T c to0
  unfold f_law_43
  refine s_run X ok_law_43 0 5 (pc' := 2812) (vs' := [some (.ref b), some (.ref x), some (.ref m), some (.ref o), some (.int i), none, none, none]) (st' := [.int (i + 1), .ref b, .ref x]) rfl ?_
  refine s_sld hf (dk okd_law_43 0 rfl) (fun v1 => ?_)
  refine s_run X ok_law_43 5 1 (pc' := 2814) (vs' := [some (.ref b), some (.ref x), some (.ref m), some (.ref o), some (.int i), none, none, none]) (st' := [.ref o, .int v1, .ref x]) rfl ?_
  refine s_callH (c0 := c) (As := [.ref x, .int v1, .ref o]) (rest := []) hf mh_L_335 (c_L_status S x v1 o) (ta2 tx_ to_) rfl rfl (Nat.le_of_ble_eq_true rfl) (Nat.le_of_ble_eq_true rfl) (Nat.le_of_ble_eq_true rfl) (dk okd_law_43 1 rfl) (st' := fun o2 => [.int o2.1]) (fun _ => rfl) (fun o2 hb3 => ?_)
  have X := hf.X hb3
  have E := hf.E (c + o2.2.2)
  have tx_ := hf.T (c + o2.2.2) tx_
  have tm_ := hf.T (c + o2.2.2) tm_
  have to_ := hf.T (c + o2.2.2) to_
  refine s_run X ok_law_43 6 6 (pc' := 2825) (vs' := [some (.ref b), some (.ref x), some (.ref m), some (.ref o), some (.int i), some (.int o2.1), none, none]) (st' := [.int (i + 1), .ref b, .ref m]) rfl ?_
  refine s_sld hf (dk okd_law_43 2 rfl) (fun v4 => ?_)
  refine s_callV (b := m) (As := [.int v4]) (rest := []) X E mv_L_337 (c_X12_status o2.2.1 m v4) rfl (ta1 tm_) rfl (by decide) tm_ rfl rfl (Nat.le_of_ble_eq_true rfl) (Nat.le_of_ble_eq_true rfl) (Nat.le_of_ble_eq_true rfl) (dk okd_law_43 3 rfl) (st' := fun o5 => [.int o5.1]) (fun _ => rfl) (fun o5 => ?_)
  refine s_run X ok_law_43 12 2 (pc' := 2832) (vs' := [some (.ref b), some (.ref x), some (.ref m), some (.ref o), some (.int i), some (.int o2.1), some (.int o5.1), none]) (st' := [.ref m]) rfl ?_
  refine s_callV (b := m) (As := []) (rest := []) X E mv_L_214 (c_X12_thrown o5.2 m) rfl (ta1 tm_) rfl (by decide) tm_ rfl rfl (Nat.le_of_ble_eq_true rfl) (Nat.le_of_ble_eq_true rfl) (Nat.le_of_ble_eq_true rfl) (dk okd_law_43 4 rfl) (st' := fun v6 => [.int v6]) (fun _ => rfl) (fun v6 => ?_)
  refine s_run X ok_law_43 14 1 (pc' := 2837) (vs' := [some (.ref b), some (.ref x), some (.ref m), some (.ref o), some (.int i), some (.int o2.1), some (.int o5.1), none]) (st' := [.int o2.1, .int v6]) rfl ?_
  refine s_icmp_eq (tgt := 2842) X (dk okd_law_43 5 rfl) (by decide) ?_ ?_
  · refine s_run X ok_law_43 16 1 (pc' := 2844) (vs' := [some (.ref b), some (.ref x), some (.ref m), some (.ref o), some (.int i), some (.int o2.1), some (.int o5.1), none]) (st' := [.int o2.1]) rfl ?_
    refine s_jn (κ := Option (Unit)) (fun k7 => Jd (Cn (c + o2.2.2)) 8 Q o5.2 2859 [some (.ref b), some (.ref x), some (.ref m), some (.ref o), some (.int i), none, none, none] [] k7) ?_ (fun k7 h8 => ?_)
    · refine s_run X ok_law_43 23 1 (pc' := 4006) (vs' := [some (.ref b), some (.ref x), some (.ref m), some (.ref o), some (.int i), none, none, none]) (st' := []) rfl ?_
      exact s_less [true, true, true, true, true, false, false, false] rfl (hk o5.2 ((c + o2.2.2)) hb3)
    · refine s_if_ne (tgt := 2859) X (dk okd_law_43 7 rfl) (by decide) ?_ ?_
      · exact s_less [true, true, true, true, true, false, false, false] rfl (h8)
      · refine s_run X ok_law_43 17 2 (pc' := 2849) (vs' := [some (.ref b), some (.ref x), some (.ref m), some (.ref o), some (.int i), some (.int o2.1), some (.int o5.1), none]) (st' := [.int 0, .ref o]) rfl ?_
        refine s_lald X to_ (dk okd_law_43 8 rfl) (fun v9 => ?_)
        refine s_run X ok_law_43 19 3 (pc' := 2854) (vs' := [some (.ref b), some (.ref x), some (.ref m), some (.ref o), some (.int i), some (.int o2.1), some (.int o5.1), none]) (st' := [.int (lg_cmp v9 (Int32.toInt64 o5.1))]) rfl ?_
        refine s_lif_eq (tgt := 2859) X (dk okd_law_43 9 rfl) (by decide) ?_ ?_
        · exact s_less [true, true, true, true, true, false, false, false] rfl (h8)
        · refine s_run X ok_law_43 22 1 (pc' := 2858) (vs' := [some (.ref b), some (.ref x), some (.ref m), some (.ref o), some (.int i), some (.int o2.1), some (.int o5.1), none]) (st' := [.int 0]) rfl ?_
          exact s_none
  · refine s_run X ok_law_43 15 1 (pc' := 2841) (vs' := [some (.ref b), some (.ref x), some (.ref m), some (.ref o), some (.int i), some (.int o2.1), some (.int o5.1), none]) (st' := [.int 0]) rfl ?_
    exact s_none
def tab_law_44 : List En := [(2862, 8, 1, 0), (2866, 8, 2, 0), (2870, 40, 0, 0), (2874, 0, 0, 0)]
theorem ok_law_44 : tab_law_44.all (okE code) = true := by decide +kernel
def ed_law_44 : List (Nat × Instr × Nat) := [(2863, .invokevirtual 338, 3), (2867, .invokevirtual 341, 3), (2871, .ifCond .eq 1135, 3), (2875, .ireturn, 1)]
theorem okd_law_44 : ed_law_44.all (okD code) = true := by decide +kernel
def f_law_44 (Ls : Nat) (xs : Nat → Int32) (S : St) (x m o : Nat) (i : Int32) (c : Nat) (kont : St → Nat → Option Unit) : Option Unit := cl (f_X11_fundBalance S x) fun (v1 : Int64) => cl (f_X12_fundBalance S m) fun (o2 : Int64 × St) => if v1 = o2.1 then (kont o2.2 (c)) else (none)
set_option maxHeartbeats 4000000 in
set_option maxRecDepth 100000 in
theorem c_law_44 {Cn : Nat → CT} {b Ls : Nat} {xs : Nat → Int32} {Q : Unit → State → Prop} {x m o : Nat} {i : Int32} (hf : Fam Cn b Ls xs) (tx0 : tT (Cn 0) x 10) (tm0 : tT (Cn 0) m 11) (to0 : tT (Cn 0) o 14) (S : St) (c : Nat) (hc : c ≤ 512) (kont : St → Nat → Option Unit) (hk : ∀ (S : St) (c : Nat), c ≤ 512 → Jd (Cn c) 8 Q S 4006 [some (.ref b), some (.ref x), some (.ref m), some (.ref o), some (.int i), none, none, none] [] (kont S c)) : Jd (Cn c) 8 Q S 2862 [some (.ref b), some (.ref x), some (.ref m), some (.ref o), some (.int i), none, none, none] [] (f_law_44 Ls xs S x m o i c kont) := by
  have X := hf.X hc
  have E := hf.E c
  have tx_ := hf.T c tx0
  have tm_ := hf.T c tm0
  have to_ := hf.T c to0
  unfold f_law_44
  refine s_run X ok_law_44 0 1 (pc' := 2863) (vs' := [some (.ref b), some (.ref x), some (.ref m), some (.ref o), some (.int i), none, none, none]) (st' := [.ref x]) rfl ?_
  refine s_callV (b := x) (As := []) (rest := []) X E mv_L_338 (c_X11_fundBalance S x) rfl (ta1 tx_) rfl (by decide) tx_ rfl rfl (Nat.le_of_ble_eq_true rfl) (Nat.le_of_ble_eq_true rfl) (Nat.le_of_ble_eq_true rfl) (dk okd_law_44 0 rfl) (st' := fun v1 => [.long v1]) (fun _ => rfl) (fun v1 => ?_)
  refine s_run X ok_law_44 1 1 (pc' := 2867) (vs' := [some (.ref b), some (.ref x), some (.ref m), some (.ref o), some (.int i), none, none, none]) (st' := [.ref m, .long v1]) rfl ?_
  refine s_callV (b := m) (As := []) (rest := [.long v1]) X E mv_L_341 (c_X12_fundBalance S m) rfl (ta1 tm_) rfl (by decide) tm_ rfl rfl (Nat.le_of_ble_eq_true rfl) (Nat.le_of_ble_eq_true rfl) (Nat.le_of_ble_eq_true rfl) (dk okd_law_44 1 rfl) (st' := fun o2 => [.long o2.1, .long v1]) (fun _ => rfl) (fun o2 => ?_)
  refine s_run X ok_law_44 2 1 (pc' := 2871) (vs' := [some (.ref b), some (.ref x), some (.ref m), some (.ref o), some (.int i), none, none, none]) (st' := [.int (lg_cmp v1 o2.1)]) rfl ?_
  refine s_lif_eq (tgt := 4006) X (dk okd_law_44 2 rfl) (by decide) ?_ ?_
  · exact s_less [true, true, true, true, true, false, false, false] rfl (hk o2.2 (c) hc)
  · refine s_run X ok_law_44 3 1 (pc' := 2875) (vs' := [some (.ref b), some (.ref x), some (.ref m), some (.ref o), some (.int i), none, none, none]) (st' := [.int 0]) rfl ?_
    exact s_none
def tab_law_45 : List En := [(2876, 8, 1, 0), (2877, 8, 0, 0), (2878, 5, 4, 0), (2880, 0, 0, 1), (2881, 17, 0, 0), (2883, 8, 3, 0), (2887, 11, 5, 0), (2889, 8, 2, 0), (2890, 8, 0, 0), (2891, 5, 4, 0), (2893, 0, 0, 1), (2894, 17, 0, 0), (2899, 13, 6, 0), (2901, 8, 2, 0), (2905, 5, 5, 0), (2910, 0, 0, 0), (2912, 5, 5, 0), (2917, 8, 3, 0), (2918, 0, 0, 0), (2920, 7, 6, 0), (2922, 40, 0, 0), (2926, 0, 0, 0), (2928, 41, 4006, 0)]
theorem ok_law_45 : tab_law_45.all (okE code) = true := by decide +kernel
def ed_law_45 : List (Nat × Instr × Nat) := [(2882, .iaload, 1), (2884, .invokestatic 342, 3), (2895, .iaload, 1), (2896, .invokevirtual 344, 3), (2902, .invokevirtual 214, 3), (2907, .if_icmp .eq 5, 3), (2911, .ireturn, 1), (2914, .ifCond .ne 14, 3), (2919, .laload, 1), (2923, .ifCond .eq 5, 3), (2927, .ireturn, 1)]
theorem okd_law_45 : ed_law_45.all (okD code) = true := by decide +kernel
def f_law_45 (Ls : Nat) (xs : Nat → Int32) (S : St) (x m o : Nat) (i : Int32) (c : Nat) (kont : St → Nat → Option Unit) : Option Unit := sx Ls xs (i + 1) fun (v1 : Int32) => cl (f_L_contributions S x v1 o) fun (o2 : Int32 × St × Nat) => bud (c + o2.2.2) <| sx Ls xs (i + 1) fun (v4 : Int32) => cl (f_X12_contributions o2.2.1 m v4) fun (o5 : Int64 × St) => cl (f_X12_thrown o5.2 m) fun (v6 : Int32) => if v6 = o2.1 then (jn (κ := Option (Unit)) (kont o5.2 ((c + o2.2.2))) fun k7 => if o2.1 = 0 then (ldJ o5.2 o 0 fun (v9 : Int64) => if v9 = o5.1 then (k7) else (none)) else (k7)) else (none)
set_option maxHeartbeats 4000000 in
set_option maxRecDepth 100000 in
theorem c_law_45 {Cn : Nat → CT} {b Ls : Nat} {xs : Nat → Int32} {Q : Unit → State → Prop} {x m o : Nat} {i : Int32} (hf : Fam Cn b Ls xs) (tx0 : tT (Cn 0) x 10) (tm0 : tT (Cn 0) m 11) (to0 : tT (Cn 0) o 14) (S : St) (c : Nat) (hc : c ≤ 512) (kont : St → Nat → Option Unit) (hk : ∀ (S : St) (c : Nat), c ≤ 512 → Jd (Cn c) 8 Q S 4006 [some (.ref b), some (.ref x), some (.ref m), some (.ref o), some (.int i), none, none, none] [] (kont S c)) : Jd (Cn c) 8 Q S 2876 [some (.ref b), some (.ref x), some (.ref m), some (.ref o), some (.int i), none, none, none] [] (f_law_45 Ls xs S x m o i c kont) := by
  have X := hf.X hc
  have E := hf.E c
  have tx_ := hf.T c tx0
  have tm_ := hf.T c tm0
  have to_ := hf.T c to0
  unfold f_law_45
  refine s_run X ok_law_45 0 5 (pc' := 2882) (vs' := [some (.ref b), some (.ref x), some (.ref m), some (.ref o), some (.int i), none, none, none]) (st' := [.int (i + 1), .ref b, .ref x]) rfl ?_
  refine s_sld hf (dk okd_law_45 0 rfl) (fun v1 => ?_)
  refine s_run X ok_law_45 5 1 (pc' := 2884) (vs' := [some (.ref b), some (.ref x), some (.ref m), some (.ref o), some (.int i), none, none, none]) (st' := [.ref o, .int v1, .ref x]) rfl ?_
  refine s_callH (c0 := c) (As := [.ref x, .int v1, .ref o]) (rest := []) hf mh_L_342 (c_L_contributions S x v1 o) (ta2 tx_ to_) rfl rfl (Nat.le_of_ble_eq_true rfl) (Nat.le_of_ble_eq_true rfl) (Nat.le_of_ble_eq_true rfl) (dk okd_law_45 1 rfl) (st' := fun o2 => [.int o2.1]) (fun _ => rfl) (fun o2 hb3 => ?_)
  have X := hf.X hb3
  have E := hf.E (c + o2.2.2)
  have tx_ := hf.T (c + o2.2.2) tx_
  have tm_ := hf.T (c + o2.2.2) tm_
  have to_ := hf.T (c + o2.2.2) to_
  refine s_run X ok_law_45 6 6 (pc' := 2895) (vs' := [some (.ref b), some (.ref x), some (.ref m), some (.ref o), some (.int i), some (.int o2.1), none, none]) (st' := [.int (i + 1), .ref b, .ref m]) rfl ?_
  refine s_sld hf (dk okd_law_45 2 rfl) (fun v4 => ?_)
  refine s_callV (b := m) (As := [.int v4]) (rest := []) X E mv_L_344 (c_X12_contributions o2.2.1 m v4) rfl (ta1 tm_) rfl (by decide) tm_ rfl rfl (Nat.le_of_ble_eq_true rfl) (Nat.le_of_ble_eq_true rfl) (Nat.le_of_ble_eq_true rfl) (dk okd_law_45 3 rfl) (st' := fun o5 => [.long o5.1]) (fun _ => rfl) (fun o5 => ?_)
  refine s_run X ok_law_45 12 2 (pc' := 2902) (vs' := [some (.ref b), some (.ref x), some (.ref m), some (.ref o), some (.int i), some (.int o2.1), some (.long o5.1), none]) (st' := [.ref m]) rfl ?_
  refine s_callV (b := m) (As := []) (rest := []) X E mv_L_214 (c_X12_thrown o5.2 m) rfl (ta1 tm_) rfl (by decide) tm_ rfl rfl (Nat.le_of_ble_eq_true rfl) (Nat.le_of_ble_eq_true rfl) (Nat.le_of_ble_eq_true rfl) (dk okd_law_45 4 rfl) (st' := fun v6 => [.int v6]) (fun _ => rfl) (fun v6 => ?_)
  refine s_run X ok_law_45 14 1 (pc' := 2907) (vs' := [some (.ref b), some (.ref x), some (.ref m), some (.ref o), some (.int i), some (.int o2.1), some (.long o5.1), none]) (st' := [.int o2.1, .int v6]) rfl ?_
  refine s_icmp_eq (tgt := 2912) X (dk okd_law_45 5 rfl) (by decide) ?_ ?_
  · refine s_run X ok_law_45 16 1 (pc' := 2914) (vs' := [some (.ref b), some (.ref x), some (.ref m), some (.ref o), some (.int i), some (.int o2.1), some (.long o5.1), none]) (st' := [.int o2.1]) rfl ?_
    refine s_jn (κ := Option (Unit)) (fun k7 => Jd (Cn (c + o2.2.2)) 8 Q o5.2 2928 [some (.ref b), some (.ref x), some (.ref m), some (.ref o), some (.int i), none, none, none] [] k7) ?_ (fun k7 h8 => ?_)
    · refine s_run X ok_law_45 22 1 (pc' := 4006) (vs' := [some (.ref b), some (.ref x), some (.ref m), some (.ref o), some (.int i), none, none, none]) (st' := []) rfl ?_
      exact s_less [true, true, true, true, true, false, false, false] rfl (hk o5.2 ((c + o2.2.2)) hb3)
    · refine s_if_ne (tgt := 2928) X (dk okd_law_45 7 rfl) (by decide) ?_ ?_
      · exact s_less [true, true, true, true, true, false, false, false] rfl (h8)
      · refine s_run X ok_law_45 17 2 (pc' := 2919) (vs' := [some (.ref b), some (.ref x), some (.ref m), some (.ref o), some (.int i), some (.int o2.1), some (.long o5.1), none]) (st' := [.int 0, .ref o]) rfl ?_
        refine s_lald X to_ (dk okd_law_45 8 rfl) (fun v9 => ?_)
        refine s_run X ok_law_45 19 2 (pc' := 2923) (vs' := [some (.ref b), some (.ref x), some (.ref m), some (.ref o), some (.int i), some (.int o2.1), some (.long o5.1), none]) (st' := [.int (lg_cmp v9 o5.1)]) rfl ?_
        refine s_lif_eq (tgt := 2928) X (dk okd_law_45 9 rfl) (by decide) ?_ ?_
        · exact s_less [true, true, true, true, true, false, false, false] rfl (h8)
        · refine s_run X ok_law_45 21 1 (pc' := 2927) (vs' := [some (.ref b), some (.ref x), some (.ref m), some (.ref o), some (.int i), some (.int o2.1), some (.long o5.1), none]) (st' := [.int 0]) rfl ?_
          exact s_none
  · refine s_run X ok_law_45 15 1 (pc' := 2911) (vs' := [some (.ref b), some (.ref x), some (.ref m), some (.ref o), some (.int i), some (.int o2.1), some (.long o5.1), none]) (st' := [.int 0]) rfl ?_
    exact s_none
def tab_law_46 : List En := [(2931, 8, 1, 0), (2932, 8, 0, 0), (2933, 5, 4, 0), (2935, 0, 0, 1), (2936, 17, 0, 0), (2938, 8, 3, 0), (2942, 11, 5, 0), (2944, 8, 2, 0), (2945, 8, 0, 0), (2946, 5, 4, 0), (2948, 0, 0, 1), (2949, 17, 0, 0), (2954, 13, 6, 0), (2956, 8, 2, 0), (2960, 5, 5, 0), (2965, 0, 0, 0), (2967, 5, 5, 0), (2972, 8, 3, 0), (2973, 0, 0, 0), (2975, 7, 6, 0), (2977, 40, 0, 0), (2981, 0, 0, 0), (2983, 41, 4006, 0)]
theorem ok_law_46 : tab_law_46.all (okE code) = true := by decide +kernel
def ed_law_46 : List (Nat × Instr × Nat) := [(2937, .iaload, 1), (2939, .invokestatic 345, 3), (2950, .iaload, 1), (2951, .invokevirtual 347, 3), (2957, .invokevirtual 214, 3), (2962, .if_icmp .eq 5, 3), (2966, .ireturn, 1), (2969, .ifCond .ne 14, 3), (2974, .laload, 1), (2978, .ifCond .eq 5, 3), (2982, .ireturn, 1)]
theorem okd_law_46 : ed_law_46.all (okD code) = true := by decide +kernel
def f_law_46 (Ls : Nat) (xs : Nat → Int32) (S : St) (x m o : Nat) (i : Int32) (c : Nat) (kont : St → Nat → Option Unit) : Option Unit := sx Ls xs (i + 1) fun (v1 : Int32) => cl (f_L_spent S x v1 o) fun (o2 : Int32 × St × Nat) => bud (c + o2.2.2) <| sx Ls xs (i + 1) fun (v4 : Int32) => cl (f_X12_spent o2.2.1 m v4) fun (o5 : Int64 × St) => cl (f_X12_thrown o5.2 m) fun (v6 : Int32) => if v6 = o2.1 then (jn (κ := Option (Unit)) (kont o5.2 ((c + o2.2.2))) fun k7 => if o2.1 = 0 then (ldJ o5.2 o 0 fun (v9 : Int64) => if v9 = o5.1 then (k7) else (none)) else (k7)) else (none)
set_option maxHeartbeats 4000000 in
set_option maxRecDepth 100000 in
theorem c_law_46 {Cn : Nat → CT} {b Ls : Nat} {xs : Nat → Int32} {Q : Unit → State → Prop} {x m o : Nat} {i : Int32} (hf : Fam Cn b Ls xs) (tx0 : tT (Cn 0) x 10) (tm0 : tT (Cn 0) m 11) (to0 : tT (Cn 0) o 14) (S : St) (c : Nat) (hc : c ≤ 512) (kont : St → Nat → Option Unit) (hk : ∀ (S : St) (c : Nat), c ≤ 512 → Jd (Cn c) 8 Q S 4006 [some (.ref b), some (.ref x), some (.ref m), some (.ref o), some (.int i), none, none, none] [] (kont S c)) : Jd (Cn c) 8 Q S 2931 [some (.ref b), some (.ref x), some (.ref m), some (.ref o), some (.int i), none, none, none] [] (f_law_46 Ls xs S x m o i c kont) := by
  have X := hf.X hc
  have E := hf.E c
  have tx_ := hf.T c tx0
  have tm_ := hf.T c tm0
  have to_ := hf.T c to0
  unfold f_law_46
  refine s_run X ok_law_46 0 5 (pc' := 2937) (vs' := [some (.ref b), some (.ref x), some (.ref m), some (.ref o), some (.int i), none, none, none]) (st' := [.int (i + 1), .ref b, .ref x]) rfl ?_
  refine s_sld hf (dk okd_law_46 0 rfl) (fun v1 => ?_)
  refine s_run X ok_law_46 5 1 (pc' := 2939) (vs' := [some (.ref b), some (.ref x), some (.ref m), some (.ref o), some (.int i), none, none, none]) (st' := [.ref o, .int v1, .ref x]) rfl ?_
  refine s_callH (c0 := c) (As := [.ref x, .int v1, .ref o]) (rest := []) hf mh_L_345 (c_L_spent S x v1 o) (ta2 tx_ to_) rfl rfl (Nat.le_of_ble_eq_true rfl) (Nat.le_of_ble_eq_true rfl) (Nat.le_of_ble_eq_true rfl) (dk okd_law_46 1 rfl) (st' := fun o2 => [.int o2.1]) (fun _ => rfl) (fun o2 hb3 => ?_)
  have X := hf.X hb3
  have E := hf.E (c + o2.2.2)
  have tx_ := hf.T (c + o2.2.2) tx_
  have tm_ := hf.T (c + o2.2.2) tm_
  have to_ := hf.T (c + o2.2.2) to_
  refine s_run X ok_law_46 6 6 (pc' := 2950) (vs' := [some (.ref b), some (.ref x), some (.ref m), some (.ref o), some (.int i), some (.int o2.1), none, none]) (st' := [.int (i + 1), .ref b, .ref m]) rfl ?_
  refine s_sld hf (dk okd_law_46 2 rfl) (fun v4 => ?_)
  refine s_callV (b := m) (As := [.int v4]) (rest := []) X E mv_L_347 (c_X12_spent o2.2.1 m v4) rfl (ta1 tm_) rfl (by decide) tm_ rfl rfl (Nat.le_of_ble_eq_true rfl) (Nat.le_of_ble_eq_true rfl) (Nat.le_of_ble_eq_true rfl) (dk okd_law_46 3 rfl) (st' := fun o5 => [.long o5.1]) (fun _ => rfl) (fun o5 => ?_)
  refine s_run X ok_law_46 12 2 (pc' := 2957) (vs' := [some (.ref b), some (.ref x), some (.ref m), some (.ref o), some (.int i), some (.int o2.1), some (.long o5.1), none]) (st' := [.ref m]) rfl ?_
  refine s_callV (b := m) (As := []) (rest := []) X E mv_L_214 (c_X12_thrown o5.2 m) rfl (ta1 tm_) rfl (by decide) tm_ rfl rfl (Nat.le_of_ble_eq_true rfl) (Nat.le_of_ble_eq_true rfl) (Nat.le_of_ble_eq_true rfl) (dk okd_law_46 4 rfl) (st' := fun v6 => [.int v6]) (fun _ => rfl) (fun v6 => ?_)
  refine s_run X ok_law_46 14 1 (pc' := 2962) (vs' := [some (.ref b), some (.ref x), some (.ref m), some (.ref o), some (.int i), some (.int o2.1), some (.long o5.1), none]) (st' := [.int o2.1, .int v6]) rfl ?_
  refine s_icmp_eq (tgt := 2967) X (dk okd_law_46 5 rfl) (by decide) ?_ ?_
  · refine s_run X ok_law_46 16 1 (pc' := 2969) (vs' := [some (.ref b), some (.ref x), some (.ref m), some (.ref o), some (.int i), some (.int o2.1), some (.long o5.1), none]) (st' := [.int o2.1]) rfl ?_
    refine s_jn (κ := Option (Unit)) (fun k7 => Jd (Cn (c + o2.2.2)) 8 Q o5.2 2983 [some (.ref b), some (.ref x), some (.ref m), some (.ref o), some (.int i), none, none, none] [] k7) ?_ (fun k7 h8 => ?_)
    · refine s_run X ok_law_46 22 1 (pc' := 4006) (vs' := [some (.ref b), some (.ref x), some (.ref m), some (.ref o), some (.int i), none, none, none]) (st' := []) rfl ?_
      exact s_less [true, true, true, true, true, false, false, false] rfl (hk o5.2 ((c + o2.2.2)) hb3)
    · refine s_if_ne (tgt := 2983) X (dk okd_law_46 7 rfl) (by decide) ?_ ?_
      · exact s_less [true, true, true, true, true, false, false, false] rfl (h8)
      · refine s_run X ok_law_46 17 2 (pc' := 2974) (vs' := [some (.ref b), some (.ref x), some (.ref m), some (.ref o), some (.int i), some (.int o2.1), some (.long o5.1), none]) (st' := [.int 0, .ref o]) rfl ?_
        refine s_lald X to_ (dk okd_law_46 8 rfl) (fun v9 => ?_)
        refine s_run X ok_law_46 19 2 (pc' := 2978) (vs' := [some (.ref b), some (.ref x), some (.ref m), some (.ref o), some (.int i), some (.int o2.1), some (.long o5.1), none]) (st' := [.int (lg_cmp v9 o5.1)]) rfl ?_
        refine s_lif_eq (tgt := 2983) X (dk okd_law_46 9 rfl) (by decide) ?_ ?_
        · exact s_less [true, true, true, true, true, false, false, false] rfl (h8)
        · refine s_run X ok_law_46 21 1 (pc' := 2982) (vs' := [some (.ref b), some (.ref x), some (.ref m), some (.ref o), some (.int i), some (.int o2.1), some (.long o5.1), none]) (st' := [.int 0]) rfl ?_
          exact s_none
  · refine s_run X ok_law_46 15 1 (pc' := 2966) (vs' := [some (.ref b), some (.ref x), some (.ref m), some (.ref o), some (.int i), some (.int o2.1), some (.long o5.1), none]) (st' := [.int 0]) rfl ?_
    exact s_none
def tab_law_47 : List En := [(2986, 8, 1, 0), (2987, 8, 0, 0), (2988, 5, 4, 0), (2990, 0, 0, 1), (2991, 17, 0, 0), (2993, 31, 0, 0), (2994, 1, 0, 32), (2996, 34, 0, 0), (2997, 8, 0, 0), (2998, 5, 4, 0), (3000, 0, 0, 2), (3001, 17, 0, 0), (3003, 31, 0, 0), (3007, 26, 0, 0), (3008, 27, 0, 0), (3009, 8, 3, 0), (3013, 11, 5, 0), (3015, 8, 2, 0), (3016, 8, 0, 0), (3017, 5, 4, 0), (3019, 0, 0, 1), (3020, 17, 0, 0), (3022, 31, 0, 0), (3023, 1, 0, 32), (3025, 34, 0, 0), (3026, 8, 0, 0), (3027, 5, 4, 0), (3029, 0, 0, 2), (3030, 17, 0, 0), (3032, 31, 0, 0), (3036, 26, 0, 0), (3037, 27, 0, 0), (3041, 11, 6, 0), (3043, 8, 2, 0), (3047, 5, 5, 0), (3052, 0, 0, 0), (3054, 5, 5, 0), (3059, 8, 3, 0), (3060, 0, 0, 0), (3062, 5, 6, 0), (3067, 3, 1, 0), (3068, 41, 3072, 0), (3071, 3, 0, 0), (3072, 40, 0, 0), (3076, 0, 0, 0), (3078, 41, 4006, 0)]
theorem ok_law_47 : tab_law_47.all (okE code) = true := by decide +kernel
def ed_law_47 : List (Nat × Instr × Nat) := [(2992, .iaload, 1), (3002, .iaload, 1), (3004, .ldc2_w 270, 3), (3010, .invokestatic 348, 3), (3021, .iaload, 1), (3031, .iaload, 1), (3033, .ldc2_w 270, 3), (3038, .invokevirtual 351, 3), (3044, .invokevirtual 214, 3), (3049, .if_icmp .eq 5, 3), (3053, .ireturn, 1), (3056, .ifCond .ne 22, 3), (3061, .laload, 1), (3064, .ifCond .eq 7, 3), (3073, .ifCond .eq 5, 3), (3077, .ireturn, 1)]
theorem okd_law_47 : ed_law_47.all (okD code) = true := by decide +kernel
def f_law_47 (Ls : Nat) (xs : Nat → Int32) (S : St) (x m o : Nat) (i : Int32) (c : Nat) (kont : St → Nat → Option Unit) : Option Unit := sx Ls xs (i + 1) fun (v1 : Int32) => sx Ls xs (i + 2) fun (v2 : Int32) => cl (f_L_campaign S x (((Int32.toInt64 v1) <<< ((Int32.toInt64 32) &&& 63)) ||| ((Int32.toInt64 v2) &&& 4294967295)) o) fun (o3 : Int32 × St × Nat) => bud (c + o3.2.2) <| sx Ls xs (i + 1) fun (v5 : Int32) => sx Ls xs (i + 2) fun (v6 : Int32) => cl (f_X12_campaign o3.2.1 m (((Int32.toInt64 v5) <<< ((Int32.toInt64 32) &&& 63)) ||| ((Int32.toInt64 v6) &&& 4294967295))) fun (o7 : Int32 × St) => cl (f_X12_thrown o7.2 m) fun (v8 : Int32) => if v8 = o3.1 then (jn (κ := Option (Unit)) (kont o7.2 ((c + o3.2.2))) fun k9 => if o3.1 = 0 then (ldJ o7.2 o 0 fun (v11 : Int64) => jn (κ := Int64 → Option (Unit)) (fun x12 => if v11 = x12 then (k9) else (none)) fun k13 => if o7.1 = 0 then (k13 0) else (k13 1)) else (k9)) else (none)
set_option maxHeartbeats 4000000 in
set_option maxRecDepth 100000 in
theorem c_law_47 {Cn : Nat → CT} {b Ls : Nat} {xs : Nat → Int32} {Q : Unit → State → Prop} {x m o : Nat} {i : Int32} (hf : Fam Cn b Ls xs) (tx0 : tT (Cn 0) x 10) (tm0 : tT (Cn 0) m 11) (to0 : tT (Cn 0) o 14) (S : St) (c : Nat) (hc : c ≤ 512) (kont : St → Nat → Option Unit) (hk : ∀ (S : St) (c : Nat), c ≤ 512 → Jd (Cn c) 8 Q S 4006 [some (.ref b), some (.ref x), some (.ref m), some (.ref o), some (.int i), none, none, none] [] (kont S c)) : Jd (Cn c) 8 Q S 2986 [some (.ref b), some (.ref x), some (.ref m), some (.ref o), some (.int i), none, none, none] [] (f_law_47 Ls xs S x m o i c kont) := by
  have X := hf.X hc
  have E := hf.E c
  have tx_ := hf.T c tx0
  have tm_ := hf.T c tm0
  have to_ := hf.T c to0
  unfold f_law_47
  refine s_run X ok_law_47 0 5 (pc' := 2992) (vs' := [some (.ref b), some (.ref x), some (.ref m), some (.ref o), some (.int i), none, none, none]) (st' := [.int (i + 1), .ref b, .ref x]) rfl ?_
  refine s_sld hf (dk okd_law_47 0 rfl) (fun v1 => ?_)
  refine s_run X ok_law_47 5 7 (pc' := 3002) (vs' := [some (.ref b), some (.ref x), some (.ref m), some (.ref o), some (.int i), none, none, none]) (st' := [.int (i + 2), .ref b, .long ((Int32.toInt64 v1) <<< ((Int32.toInt64 32) &&& 63)), .ref x]) rfl ?_
  refine s_sld hf (dk okd_law_47 1 rfl) (fun v2 => ?_)
  refine s_run X ok_law_47 12 1 (pc' := 3004) (vs' := [some (.ref b), some (.ref x), some (.ref m), some (.ref o), some (.int i), none, none, none]) (st' := [.long (Int32.toInt64 v2), .long ((Int32.toInt64 v1) <<< ((Int32.toInt64 32) &&& 63)), .ref x]) rfl ?_
  refine s_ldc2 X cl_L_270 (dk okd_law_47 2 rfl) ?_
  refine s_run X ok_law_47 13 3 (pc' := 3010) (vs' := [some (.ref b), some (.ref x), some (.ref m), some (.ref o), some (.int i), none, none, none]) (st' := [.ref o, .long (((Int32.toInt64 v1) <<< ((Int32.toInt64 32) &&& 63)) ||| ((Int32.toInt64 v2) &&& 4294967295)), .ref x]) rfl ?_
  refine s_callH (c0 := c) (As := [.ref x, .long (((Int32.toInt64 v1) <<< ((Int32.toInt64 32) &&& 63)) ||| ((Int32.toInt64 v2) &&& 4294967295)), .ref o]) (rest := []) hf mh_L_348 (c_L_campaign S x (((Int32.toInt64 v1) <<< ((Int32.toInt64 32) &&& 63)) ||| ((Int32.toInt64 v2) &&& 4294967295)) o) (ta2 tx_ to_) rfl rfl (Nat.le_of_ble_eq_true rfl) (Nat.le_of_ble_eq_true rfl) (Nat.le_of_ble_eq_true rfl) (dk okd_law_47 3 rfl) (st' := fun o3 => [.int o3.1]) (fun _ => rfl) (fun o3 hb4 => ?_)
  have X := hf.X hb4
  have E := hf.E (c + o3.2.2)
  have tx_ := hf.T (c + o3.2.2) tx_
  have tm_ := hf.T (c + o3.2.2) tm_
  have to_ := hf.T (c + o3.2.2) to_
  refine s_run X ok_law_47 16 6 (pc' := 3021) (vs' := [some (.ref b), some (.ref x), some (.ref m), some (.ref o), some (.int i), some (.int o3.1), none, none]) (st' := [.int (i + 1), .ref b, .ref m]) rfl ?_
  refine s_sld hf (dk okd_law_47 4 rfl) (fun v5 => ?_)
  refine s_run X ok_law_47 22 7 (pc' := 3031) (vs' := [some (.ref b), some (.ref x), some (.ref m), some (.ref o), some (.int i), some (.int o3.1), none, none]) (st' := [.int (i + 2), .ref b, .long ((Int32.toInt64 v5) <<< ((Int32.toInt64 32) &&& 63)), .ref m]) rfl ?_
  refine s_sld hf (dk okd_law_47 5 rfl) (fun v6 => ?_)
  refine s_run X ok_law_47 29 1 (pc' := 3033) (vs' := [some (.ref b), some (.ref x), some (.ref m), some (.ref o), some (.int i), some (.int o3.1), none, none]) (st' := [.long (Int32.toInt64 v6), .long ((Int32.toInt64 v5) <<< ((Int32.toInt64 32) &&& 63)), .ref m]) rfl ?_
  refine s_ldc2 X cl_L_270 (dk okd_law_47 6 rfl) ?_
  refine s_run X ok_law_47 30 2 (pc' := 3038) (vs' := [some (.ref b), some (.ref x), some (.ref m), some (.ref o), some (.int i), some (.int o3.1), none, none]) (st' := [.long (((Int32.toInt64 v5) <<< ((Int32.toInt64 32) &&& 63)) ||| ((Int32.toInt64 v6) &&& 4294967295)), .ref m]) rfl ?_
  refine s_callV (b := m) (As := [.long (((Int32.toInt64 v5) <<< ((Int32.toInt64 32) &&& 63)) ||| ((Int32.toInt64 v6) &&& 4294967295))]) (rest := []) X E mv_L_351 (c_X12_campaign o3.2.1 m (((Int32.toInt64 v5) <<< ((Int32.toInt64 32) &&& 63)) ||| ((Int32.toInt64 v6) &&& 4294967295))) rfl (ta1 tm_) rfl (by decide) tm_ rfl rfl (Nat.le_of_ble_eq_true rfl) (Nat.le_of_ble_eq_true rfl) (Nat.le_of_ble_eq_true rfl) (dk okd_law_47 7 rfl) (st' := fun o7 => [.int o7.1]) (fun _ => rfl) (fun o7 => ?_)
  refine s_run X ok_law_47 32 2 (pc' := 3044) (vs' := [some (.ref b), some (.ref x), some (.ref m), some (.ref o), some (.int i), some (.int o3.1), some (.int o7.1), none]) (st' := [.ref m]) rfl ?_
  refine s_callV (b := m) (As := []) (rest := []) X E mv_L_214 (c_X12_thrown o7.2 m) rfl (ta1 tm_) rfl (by decide) tm_ rfl rfl (Nat.le_of_ble_eq_true rfl) (Nat.le_of_ble_eq_true rfl) (Nat.le_of_ble_eq_true rfl) (dk okd_law_47 8 rfl) (st' := fun v8 => [.int v8]) (fun _ => rfl) (fun v8 => ?_)
  refine s_run X ok_law_47 34 1 (pc' := 3049) (vs' := [some (.ref b), some (.ref x), some (.ref m), some (.ref o), some (.int i), some (.int o3.1), some (.int o7.1), none]) (st' := [.int o3.1, .int v8]) rfl ?_
  refine s_icmp_eq (tgt := 3054) X (dk okd_law_47 9 rfl) (by decide) ?_ ?_
  · refine s_run X ok_law_47 36 1 (pc' := 3056) (vs' := [some (.ref b), some (.ref x), some (.ref m), some (.ref o), some (.int i), some (.int o3.1), some (.int o7.1), none]) (st' := [.int o3.1]) rfl ?_
    refine s_jn (κ := Option (Unit)) (fun k9 => Jd (Cn (c + o3.2.2)) 8 Q o7.2 3078 [some (.ref b), some (.ref x), some (.ref m), some (.ref o), some (.int i), none, none, none] [] k9) ?_ (fun k9 h10 => ?_)
    · refine s_run X ok_law_47 45 1 (pc' := 4006) (vs' := [some (.ref b), some (.ref x), some (.ref m), some (.ref o), some (.int i), none, none, none]) (st' := []) rfl ?_
      exact s_less [true, true, true, true, true, false, false, false] rfl (hk o7.2 ((c + o3.2.2)) hb4)
    · refine s_if_ne (tgt := 3078) X (dk okd_law_47 11 rfl) (by decide) ?_ ?_
      · exact s_less [true, true, true, true, true, false, false, false] rfl (h10)
      · refine s_run X ok_law_47 37 2 (pc' := 3061) (vs' := [some (.ref b), some (.ref x), some (.ref m), some (.ref o), some (.int i), some (.int o3.1), some (.int o7.1), none]) (st' := [.int 0, .ref o]) rfl ?_
        refine s_lald X to_ (dk okd_law_47 12 rfl) (fun v11 => ?_)
        refine s_run X ok_law_47 39 1 (pc' := 3064) (vs' := [some (.ref b), some (.ref x), some (.ref m), some (.ref o), some (.int i), some (.int o3.1), some (.int o7.1), none]) (st' := [.int o7.1, .long v11]) rfl ?_
        refine s_jn (κ := Int64 → Option (Unit)) (fun k13 => ∀ (x12 : Int64), Jd (Cn (c + o3.2.2)) 8 Q o7.2 3072 [some (.ref b), some (.ref x), some (.ref m), some (.ref o), some (.int i), none, none, none] [.long x12, .long v11] (k13 x12)) (fun x12 => ?_) (fun k13 h14 => ?_)
        · refine s_run X ok_law_47 43 1 (pc' := 3073) (vs' := [some (.ref b), some (.ref x), some (.ref m), some (.ref o), some (.int i), none, none, none]) (st' := [.int (lg_cmp v11 x12)]) rfl ?_
          refine s_lif_eq (tgt := 3078) X (dk okd_law_47 14 rfl) (by decide) ?_ ?_
          · exact h10
          · refine s_run X ok_law_47 44 1 (pc' := 3077) (vs' := [some (.ref b), some (.ref x), some (.ref m), some (.ref o), some (.int i), none, none, none]) (st' := [.int 0]) rfl ?_
            exact s_none
        · refine s_if_eq (tgt := 3071) X (dk okd_law_47 13 rfl) (by decide) ?_ ?_
          · refine s_run X ok_law_47 42 1 (pc' := 3072) (vs' := [some (.ref b), some (.ref x), some (.ref m), some (.ref o), some (.int i), some (.int o3.1), some (.int o7.1), none]) (st' := [.long 0, .long v11]) rfl ?_
            exact s_less [true, true, true, true, true, false, false, false] rfl (h14 0)
          · refine s_run X ok_law_47 40 2 (pc' := 3072) (vs' := [some (.ref b), some (.ref x), some (.ref m), some (.ref o), some (.int i), some (.int o3.1), some (.int o7.1), none]) (st' := [.long 1, .long v11]) rfl ?_
            exact s_less [true, true, true, true, true, false, false, false] rfl (h14 1)
  · refine s_run X ok_law_47 35 1 (pc' := 3053) (vs' := [some (.ref b), some (.ref x), some (.ref m), some (.ref o), some (.int i), some (.int o3.1), some (.int o7.1), none]) (st' := [.int 0]) rfl ?_
    exact s_none
def tab_law_48 : List En := [(3081, 8, 1, 0), (3082, 8, 0, 0), (3083, 5, 4, 0), (3085, 0, 0, 1), (3086, 17, 0, 0), (3088, 8, 0, 0), (3089, 5, 4, 0), (3091, 0, 0, 2), (3092, 17, 0, 0), (3094, 31, 0, 0), (3095, 1, 0, 32), (3097, 34, 0, 0), (3098, 8, 0, 0), (3099, 5, 4, 0), (3101, 0, 0, 3), (3102, 17, 0, 0), (3104, 31, 0, 0), (3108, 26, 0, 0), (3109, 27, 0, 0), (3110, 8, 3, 0), (3114, 11, 5, 0), (3116, 8, 2, 0), (3117, 8, 0, 0), (3118, 5, 4, 0), (3120, 0, 0, 1), (3121, 17, 0, 0), (3123, 8, 0, 0), (3124, 5, 4, 0), (3126, 0, 0, 2), (3127, 17, 0, 0), (3129, 31, 0, 0), (3130, 1, 0, 32), (3132, 34, 0, 0), (3133, 8, 0, 0), (3134, 5, 4, 0), (3136, 0, 0, 3), (3137, 17, 0, 0), (3139, 31, 0, 0), (3143, 26, 0, 0), (3144, 27, 0, 0), (3148, 11, 6, 0), (3150, 8, 2, 0), (3154, 5, 5, 0), (3159, 0, 0, 0), (3161, 5, 5, 0), (3166, 8, 3, 0), (3167, 0, 0, 0), (3169, 5, 6, 0), (3174, 3, 1, 0), (3175, 41, 3179, 0), (3178, 3, 0, 0), (3179, 40, 0, 0), (3183, 0, 0, 0), (3185, 41, 4006, 0)]
theorem ok_law_48 : tab_law_48.all (okE code) = true := by decide +kernel
def ed_law_48 : List (Nat × Instr × Nat) := [(3087, .iaload, 1), (3093, .iaload, 1), (3103, .iaload, 1), (3105, .ldc2_w 270, 3), (3111, .invokestatic 352, 3), (3122, .iaload, 1), (3128, .iaload, 1), (3138, .iaload, 1), (3140, .ldc2_w 270, 3), (3145, .invokevirtual 354, 3), (3151, .invokevirtual 214, 3), (3156, .if_icmp .eq 5, 3), (3160, .ireturn, 1), (3163, .ifCond .ne 22, 3), (3168, .laload, 1), (3171, .ifCond .eq 7, 3), (3180, .ifCond .eq 5, 3), (3184, .ireturn, 1)]
theorem okd_law_48 : ed_law_48.all (okD code) = true := by decide +kernel
def f_law_48 (Ls : Nat) (xs : Nat → Int32) (S : St) (x m o : Nat) (i : Int32) (c : Nat) (kont : St → Nat → Option Unit) : Option Unit := sx Ls xs (i + 1) fun (v1 : Int32) => sx Ls xs (i + 2) fun (v2 : Int32) => sx Ls xs (i + 3) fun (v3 : Int32) => cl (f_L_grant S x v1 (((Int32.toInt64 v2) <<< ((Int32.toInt64 32) &&& 63)) ||| ((Int32.toInt64 v3) &&& 4294967295)) o) fun (o4 : Int32 × St × Nat) => bud (c + o4.2.2) <| sx Ls xs (i + 1) fun (v6 : Int32) => sx Ls xs (i + 2) fun (v7 : Int32) => sx Ls xs (i + 3) fun (v8 : Int32) => cl (f_X12_grant o4.2.1 m v6 (((Int32.toInt64 v7) <<< ((Int32.toInt64 32) &&& 63)) ||| ((Int32.toInt64 v8) &&& 4294967295))) fun (o9 : Int32 × St) => cl (f_X12_thrown o9.2 m) fun (v10 : Int32) => if v10 = o4.1 then (jn (κ := Option (Unit)) (kont o9.2 ((c + o4.2.2))) fun k11 => if o4.1 = 0 then (ldJ o9.2 o 0 fun (v13 : Int64) => jn (κ := Int64 → Option (Unit)) (fun x14 => if v13 = x14 then (k11) else (none)) fun k15 => if o9.1 = 0 then (k15 0) else (k15 1)) else (k11)) else (none)
set_option maxHeartbeats 4000000 in
set_option maxRecDepth 100000 in
theorem c_law_48 {Cn : Nat → CT} {b Ls : Nat} {xs : Nat → Int32} {Q : Unit → State → Prop} {x m o : Nat} {i : Int32} (hf : Fam Cn b Ls xs) (tx0 : tT (Cn 0) x 10) (tm0 : tT (Cn 0) m 11) (to0 : tT (Cn 0) o 14) (S : St) (c : Nat) (hc : c ≤ 512) (kont : St → Nat → Option Unit) (hk : ∀ (S : St) (c : Nat), c ≤ 512 → Jd (Cn c) 8 Q S 4006 [some (.ref b), some (.ref x), some (.ref m), some (.ref o), some (.int i), none, none, none] [] (kont S c)) : Jd (Cn c) 8 Q S 3081 [some (.ref b), some (.ref x), some (.ref m), some (.ref o), some (.int i), none, none, none] [] (f_law_48 Ls xs S x m o i c kont) := by
  have X := hf.X hc
  have E := hf.E c
  have tx_ := hf.T c tx0
  have tm_ := hf.T c tm0
  have to_ := hf.T c to0
  unfold f_law_48
  refine s_run X ok_law_48 0 5 (pc' := 3087) (vs' := [some (.ref b), some (.ref x), some (.ref m), some (.ref o), some (.int i), none, none, none]) (st' := [.int (i + 1), .ref b, .ref x]) rfl ?_
  refine s_sld hf (dk okd_law_48 0 rfl) (fun v1 => ?_)
  refine s_run X ok_law_48 5 4 (pc' := 3093) (vs' := [some (.ref b), some (.ref x), some (.ref m), some (.ref o), some (.int i), none, none, none]) (st' := [.int (i + 2), .ref b, .int v1, .ref x]) rfl ?_
  refine s_sld hf (dk okd_law_48 1 rfl) (fun v2 => ?_)
  refine s_run X ok_law_48 9 7 (pc' := 3103) (vs' := [some (.ref b), some (.ref x), some (.ref m), some (.ref o), some (.int i), none, none, none]) (st' := [.int (i + 3), .ref b, .long ((Int32.toInt64 v2) <<< ((Int32.toInt64 32) &&& 63)), .int v1, .ref x]) rfl ?_
  refine s_sld hf (dk okd_law_48 2 rfl) (fun v3 => ?_)
  refine s_run X ok_law_48 16 1 (pc' := 3105) (vs' := [some (.ref b), some (.ref x), some (.ref m), some (.ref o), some (.int i), none, none, none]) (st' := [.long (Int32.toInt64 v3), .long ((Int32.toInt64 v2) <<< ((Int32.toInt64 32) &&& 63)), .int v1, .ref x]) rfl ?_
  refine s_ldc2 X cl_L_270 (dk okd_law_48 3 rfl) ?_
  refine s_run X ok_law_48 17 3 (pc' := 3111) (vs' := [some (.ref b), some (.ref x), some (.ref m), some (.ref o), some (.int i), none, none, none]) (st' := [.ref o, .long (((Int32.toInt64 v2) <<< ((Int32.toInt64 32) &&& 63)) ||| ((Int32.toInt64 v3) &&& 4294967295)), .int v1, .ref x]) rfl ?_
  refine s_callH (c0 := c) (As := [.ref x, .int v1, .long (((Int32.toInt64 v2) <<< ((Int32.toInt64 32) &&& 63)) ||| ((Int32.toInt64 v3) &&& 4294967295)), .ref o]) (rest := []) hf mh_L_352 (c_L_grant S x v1 (((Int32.toInt64 v2) <<< ((Int32.toInt64 32) &&& 63)) ||| ((Int32.toInt64 v3) &&& 4294967295)) o) (ta2 tx_ to_) rfl rfl (Nat.le_of_ble_eq_true rfl) (Nat.le_of_ble_eq_true rfl) (Nat.le_of_ble_eq_true rfl) (dk okd_law_48 4 rfl) (st' := fun o4 => [.int o4.1]) (fun _ => rfl) (fun o4 hb5 => ?_)
  have X := hf.X hb5
  have E := hf.E (c + o4.2.2)
  have tx_ := hf.T (c + o4.2.2) tx_
  have tm_ := hf.T (c + o4.2.2) tm_
  have to_ := hf.T (c + o4.2.2) to_
  refine s_run X ok_law_48 20 6 (pc' := 3122) (vs' := [some (.ref b), some (.ref x), some (.ref m), some (.ref o), some (.int i), some (.int o4.1), none, none]) (st' := [.int (i + 1), .ref b, .ref m]) rfl ?_
  refine s_sld hf (dk okd_law_48 5 rfl) (fun v6 => ?_)
  refine s_run X ok_law_48 26 4 (pc' := 3128) (vs' := [some (.ref b), some (.ref x), some (.ref m), some (.ref o), some (.int i), some (.int o4.1), none, none]) (st' := [.int (i + 2), .ref b, .int v6, .ref m]) rfl ?_
  refine s_sld hf (dk okd_law_48 6 rfl) (fun v7 => ?_)
  refine s_run X ok_law_48 30 7 (pc' := 3138) (vs' := [some (.ref b), some (.ref x), some (.ref m), some (.ref o), some (.int i), some (.int o4.1), none, none]) (st' := [.int (i + 3), .ref b, .long ((Int32.toInt64 v7) <<< ((Int32.toInt64 32) &&& 63)), .int v6, .ref m]) rfl ?_
  refine s_sld hf (dk okd_law_48 7 rfl) (fun v8 => ?_)
  refine s_run X ok_law_48 37 1 (pc' := 3140) (vs' := [some (.ref b), some (.ref x), some (.ref m), some (.ref o), some (.int i), some (.int o4.1), none, none]) (st' := [.long (Int32.toInt64 v8), .long ((Int32.toInt64 v7) <<< ((Int32.toInt64 32) &&& 63)), .int v6, .ref m]) rfl ?_
  refine s_ldc2 X cl_L_270 (dk okd_law_48 8 rfl) ?_
  refine s_run X ok_law_48 38 2 (pc' := 3145) (vs' := [some (.ref b), some (.ref x), some (.ref m), some (.ref o), some (.int i), some (.int o4.1), none, none]) (st' := [.long (((Int32.toInt64 v7) <<< ((Int32.toInt64 32) &&& 63)) ||| ((Int32.toInt64 v8) &&& 4294967295)), .int v6, .ref m]) rfl ?_
  refine s_callV (b := m) (As := [.int v6, .long (((Int32.toInt64 v7) <<< ((Int32.toInt64 32) &&& 63)) ||| ((Int32.toInt64 v8) &&& 4294967295))]) (rest := []) X E mv_L_354 (c_X12_grant o4.2.1 m v6 (((Int32.toInt64 v7) <<< ((Int32.toInt64 32) &&& 63)) ||| ((Int32.toInt64 v8) &&& 4294967295))) rfl (ta1 tm_) rfl (by decide) tm_ rfl rfl (Nat.le_of_ble_eq_true rfl) (Nat.le_of_ble_eq_true rfl) (Nat.le_of_ble_eq_true rfl) (dk okd_law_48 9 rfl) (st' := fun o9 => [.int o9.1]) (fun _ => rfl) (fun o9 => ?_)
  refine s_run X ok_law_48 40 2 (pc' := 3151) (vs' := [some (.ref b), some (.ref x), some (.ref m), some (.ref o), some (.int i), some (.int o4.1), some (.int o9.1), none]) (st' := [.ref m]) rfl ?_
  refine s_callV (b := m) (As := []) (rest := []) X E mv_L_214 (c_X12_thrown o9.2 m) rfl (ta1 tm_) rfl (by decide) tm_ rfl rfl (Nat.le_of_ble_eq_true rfl) (Nat.le_of_ble_eq_true rfl) (Nat.le_of_ble_eq_true rfl) (dk okd_law_48 10 rfl) (st' := fun v10 => [.int v10]) (fun _ => rfl) (fun v10 => ?_)
  refine s_run X ok_law_48 42 1 (pc' := 3156) (vs' := [some (.ref b), some (.ref x), some (.ref m), some (.ref o), some (.int i), some (.int o4.1), some (.int o9.1), none]) (st' := [.int o4.1, .int v10]) rfl ?_
  refine s_icmp_eq (tgt := 3161) X (dk okd_law_48 11 rfl) (by decide) ?_ ?_
  · refine s_run X ok_law_48 44 1 (pc' := 3163) (vs' := [some (.ref b), some (.ref x), some (.ref m), some (.ref o), some (.int i), some (.int o4.1), some (.int o9.1), none]) (st' := [.int o4.1]) rfl ?_
    refine s_jn (κ := Option (Unit)) (fun k11 => Jd (Cn (c + o4.2.2)) 8 Q o9.2 3185 [some (.ref b), some (.ref x), some (.ref m), some (.ref o), some (.int i), none, none, none] [] k11) ?_ (fun k11 h12 => ?_)
    · refine s_run X ok_law_48 53 1 (pc' := 4006) (vs' := [some (.ref b), some (.ref x), some (.ref m), some (.ref o), some (.int i), none, none, none]) (st' := []) rfl ?_
      exact s_less [true, true, true, true, true, false, false, false] rfl (hk o9.2 ((c + o4.2.2)) hb5)
    · refine s_if_ne (tgt := 3185) X (dk okd_law_48 13 rfl) (by decide) ?_ ?_
      · exact s_less [true, true, true, true, true, false, false, false] rfl (h12)
      · refine s_run X ok_law_48 45 2 (pc' := 3168) (vs' := [some (.ref b), some (.ref x), some (.ref m), some (.ref o), some (.int i), some (.int o4.1), some (.int o9.1), none]) (st' := [.int 0, .ref o]) rfl ?_
        refine s_lald X to_ (dk okd_law_48 14 rfl) (fun v13 => ?_)
        refine s_run X ok_law_48 47 1 (pc' := 3171) (vs' := [some (.ref b), some (.ref x), some (.ref m), some (.ref o), some (.int i), some (.int o4.1), some (.int o9.1), none]) (st' := [.int o9.1, .long v13]) rfl ?_
        refine s_jn (κ := Int64 → Option (Unit)) (fun k15 => ∀ (x14 : Int64), Jd (Cn (c + o4.2.2)) 8 Q o9.2 3179 [some (.ref b), some (.ref x), some (.ref m), some (.ref o), some (.int i), none, none, none] [.long x14, .long v13] (k15 x14)) (fun x14 => ?_) (fun k15 h16 => ?_)
        · refine s_run X ok_law_48 51 1 (pc' := 3180) (vs' := [some (.ref b), some (.ref x), some (.ref m), some (.ref o), some (.int i), none, none, none]) (st' := [.int (lg_cmp v13 x14)]) rfl ?_
          refine s_lif_eq (tgt := 3185) X (dk okd_law_48 16 rfl) (by decide) ?_ ?_
          · exact h12
          · refine s_run X ok_law_48 52 1 (pc' := 3184) (vs' := [some (.ref b), some (.ref x), some (.ref m), some (.ref o), some (.int i), none, none, none]) (st' := [.int 0]) rfl ?_
            exact s_none
        · refine s_if_eq (tgt := 3178) X (dk okd_law_48 15 rfl) (by decide) ?_ ?_
          · refine s_run X ok_law_48 50 1 (pc' := 3179) (vs' := [some (.ref b), some (.ref x), some (.ref m), some (.ref o), some (.int i), some (.int o4.1), some (.int o9.1), none]) (st' := [.long 0, .long v13]) rfl ?_
            exact s_less [true, true, true, true, true, false, false, false] rfl (h16 0)
          · refine s_run X ok_law_48 48 2 (pc' := 3179) (vs' := [some (.ref b), some (.ref x), some (.ref m), some (.ref o), some (.int i), some (.int o4.1), some (.int o9.1), none]) (st' := [.long 1, .long v13]) rfl ?_
            exact s_less [true, true, true, true, true, false, false, false] rfl (h16 1)
  · refine s_run X ok_law_48 43 1 (pc' := 3160) (vs' := [some (.ref b), some (.ref x), some (.ref m), some (.ref o), some (.int i), some (.int o4.1), some (.int o9.1), none]) (st' := [.int 0]) rfl ?_
    exact s_none
def tab_law_49 : List En := [(3188, 8, 1, 0), (3189, 8, 0, 0), (3190, 5, 4, 0), (3192, 0, 0, 1), (3193, 17, 0, 0), (3195, 8, 3, 0), (3199, 11, 5, 0), (3201, 8, 2, 0), (3202, 8, 0, 0), (3203, 5, 4, 0), (3205, 0, 0, 1), (3206, 17, 0, 0), (3211, 13, 6, 0), (3213, 8, 2, 0), (3217, 5, 5, 0), (3222, 0, 0, 0), (3224, 5, 5, 0), (3229, 8, 3, 0), (3230, 0, 0, 0), (3232, 7, 6, 0), (3234, 40, 0, 0), (3238, 0, 0, 0), (3240, 41, 4006, 0)]
theorem ok_law_49 : tab_law_49.all (okE code) = true := by decide +kernel
def ed_law_49 : List (Nat × Instr × Nat) := [(3194, .iaload, 1), (3196, .invokestatic 355, 3), (3207, .iaload, 1), (3208, .invokevirtual 357, 3), (3214, .invokevirtual 214, 3), (3219, .if_icmp .eq 5, 3), (3223, .ireturn, 1), (3226, .ifCond .ne 14, 3), (3231, .laload, 1), (3235, .ifCond .eq 5, 3), (3239, .ireturn, 1)]
theorem okd_law_49 : ed_law_49.all (okD code) = true := by decide +kernel
def f_law_49 (Ls : Nat) (xs : Nat → Int32) (S : St) (x m o : Nat) (i : Int32) (c : Nat) (kont : St → Nat → Option Unit) : Option Unit := sx Ls xs (i + 1) fun (v1 : Int32) => cl (f_L_allowance S x v1 o) fun (o2 : Int32 × St × Nat) => bud (c + o2.2.2) <| sx Ls xs (i + 1) fun (v4 : Int32) => cl (f_X12_allowance o2.2.1 m v4) fun (o5 : Int64 × St) => cl (f_X12_thrown o5.2 m) fun (v6 : Int32) => if v6 = o2.1 then (jn (κ := Option (Unit)) (kont o5.2 ((c + o2.2.2))) fun k7 => if o2.1 = 0 then (ldJ o5.2 o 0 fun (v9 : Int64) => if v9 = o5.1 then (k7) else (none)) else (k7)) else (none)
set_option maxHeartbeats 4000000 in
set_option maxRecDepth 100000 in
theorem c_law_49 {Cn : Nat → CT} {b Ls : Nat} {xs : Nat → Int32} {Q : Unit → State → Prop} {x m o : Nat} {i : Int32} (hf : Fam Cn b Ls xs) (tx0 : tT (Cn 0) x 10) (tm0 : tT (Cn 0) m 11) (to0 : tT (Cn 0) o 14) (S : St) (c : Nat) (hc : c ≤ 512) (kont : St → Nat → Option Unit) (hk : ∀ (S : St) (c : Nat), c ≤ 512 → Jd (Cn c) 8 Q S 4006 [some (.ref b), some (.ref x), some (.ref m), some (.ref o), some (.int i), none, none, none] [] (kont S c)) : Jd (Cn c) 8 Q S 3188 [some (.ref b), some (.ref x), some (.ref m), some (.ref o), some (.int i), none, none, none] [] (f_law_49 Ls xs S x m o i c kont) := by
  have X := hf.X hc
  have E := hf.E c
  have tx_ := hf.T c tx0
  have tm_ := hf.T c tm0
  have to_ := hf.T c to0
  unfold f_law_49
  refine s_run X ok_law_49 0 5 (pc' := 3194) (vs' := [some (.ref b), some (.ref x), some (.ref m), some (.ref o), some (.int i), none, none, none]) (st' := [.int (i + 1), .ref b, .ref x]) rfl ?_
  refine s_sld hf (dk okd_law_49 0 rfl) (fun v1 => ?_)
  refine s_run X ok_law_49 5 1 (pc' := 3196) (vs' := [some (.ref b), some (.ref x), some (.ref m), some (.ref o), some (.int i), none, none, none]) (st' := [.ref o, .int v1, .ref x]) rfl ?_
  refine s_callH (c0 := c) (As := [.ref x, .int v1, .ref o]) (rest := []) hf mh_L_355 (c_L_allowance S x v1 o) (ta2 tx_ to_) rfl rfl (Nat.le_of_ble_eq_true rfl) (Nat.le_of_ble_eq_true rfl) (Nat.le_of_ble_eq_true rfl) (dk okd_law_49 1 rfl) (st' := fun o2 => [.int o2.1]) (fun _ => rfl) (fun o2 hb3 => ?_)
  have X := hf.X hb3
  have E := hf.E (c + o2.2.2)
  have tx_ := hf.T (c + o2.2.2) tx_
  have tm_ := hf.T (c + o2.2.2) tm_
  have to_ := hf.T (c + o2.2.2) to_
  refine s_run X ok_law_49 6 6 (pc' := 3207) (vs' := [some (.ref b), some (.ref x), some (.ref m), some (.ref o), some (.int i), some (.int o2.1), none, none]) (st' := [.int (i + 1), .ref b, .ref m]) rfl ?_
  refine s_sld hf (dk okd_law_49 2 rfl) (fun v4 => ?_)
  refine s_callV (b := m) (As := [.int v4]) (rest := []) X E mv_L_357 (c_X12_allowance o2.2.1 m v4) rfl (ta1 tm_) rfl (by decide) tm_ rfl rfl (Nat.le_of_ble_eq_true rfl) (Nat.le_of_ble_eq_true rfl) (Nat.le_of_ble_eq_true rfl) (dk okd_law_49 3 rfl) (st' := fun o5 => [.long o5.1]) (fun _ => rfl) (fun o5 => ?_)
  refine s_run X ok_law_49 12 2 (pc' := 3214) (vs' := [some (.ref b), some (.ref x), some (.ref m), some (.ref o), some (.int i), some (.int o2.1), some (.long o5.1), none]) (st' := [.ref m]) rfl ?_
  refine s_callV (b := m) (As := []) (rest := []) X E mv_L_214 (c_X12_thrown o5.2 m) rfl (ta1 tm_) rfl (by decide) tm_ rfl rfl (Nat.le_of_ble_eq_true rfl) (Nat.le_of_ble_eq_true rfl) (Nat.le_of_ble_eq_true rfl) (dk okd_law_49 4 rfl) (st' := fun v6 => [.int v6]) (fun _ => rfl) (fun v6 => ?_)
  refine s_run X ok_law_49 14 1 (pc' := 3219) (vs' := [some (.ref b), some (.ref x), some (.ref m), some (.ref o), some (.int i), some (.int o2.1), some (.long o5.1), none]) (st' := [.int o2.1, .int v6]) rfl ?_
  refine s_icmp_eq (tgt := 3224) X (dk okd_law_49 5 rfl) (by decide) ?_ ?_
  · refine s_run X ok_law_49 16 1 (pc' := 3226) (vs' := [some (.ref b), some (.ref x), some (.ref m), some (.ref o), some (.int i), some (.int o2.1), some (.long o5.1), none]) (st' := [.int o2.1]) rfl ?_
    refine s_jn (κ := Option (Unit)) (fun k7 => Jd (Cn (c + o2.2.2)) 8 Q o5.2 3240 [some (.ref b), some (.ref x), some (.ref m), some (.ref o), some (.int i), none, none, none] [] k7) ?_ (fun k7 h8 => ?_)
    · refine s_run X ok_law_49 22 1 (pc' := 4006) (vs' := [some (.ref b), some (.ref x), some (.ref m), some (.ref o), some (.int i), none, none, none]) (st' := []) rfl ?_
      exact s_less [true, true, true, true, true, false, false, false] rfl (hk o5.2 ((c + o2.2.2)) hb3)
    · refine s_if_ne (tgt := 3240) X (dk okd_law_49 7 rfl) (by decide) ?_ ?_
      · exact s_less [true, true, true, true, true, false, false, false] rfl (h8)
      · refine s_run X ok_law_49 17 2 (pc' := 3231) (vs' := [some (.ref b), some (.ref x), some (.ref m), some (.ref o), some (.int i), some (.int o2.1), some (.long o5.1), none]) (st' := [.int 0, .ref o]) rfl ?_
        refine s_lald X to_ (dk okd_law_49 8 rfl) (fun v9 => ?_)
        refine s_run X ok_law_49 19 2 (pc' := 3235) (vs' := [some (.ref b), some (.ref x), some (.ref m), some (.ref o), some (.int i), some (.int o2.1), some (.long o5.1), none]) (st' := [.int (lg_cmp v9 o5.1)]) rfl ?_
        refine s_lif_eq (tgt := 3240) X (dk okd_law_49 9 rfl) (by decide) ?_ ?_
        · exact s_less [true, true, true, true, true, false, false, false] rfl (h8)
        · refine s_run X ok_law_49 21 1 (pc' := 3239) (vs' := [some (.ref b), some (.ref x), some (.ref m), some (.ref o), some (.int i), some (.int o2.1), some (.long o5.1), none]) (st' := [.int 0]) rfl ?_
          exact s_none
  · refine s_run X ok_law_49 15 1 (pc' := 3223) (vs' := [some (.ref b), some (.ref x), some (.ref m), some (.ref o), some (.int i), some (.int o2.1), some (.long o5.1), none]) (st' := [.int 0]) rfl ?_
    exact s_none
def tab_law_50 : List En := [(3243, 8, 1, 0), (3244, 8, 0, 0), (3245, 5, 4, 0), (3247, 0, 0, 1), (3248, 17, 0, 0), (3250, 8, 3, 0), (3254, 11, 5, 0), (3256, 8, 2, 0), (3257, 8, 0, 0), (3258, 5, 4, 0), (3260, 0, 0, 1), (3261, 17, 0, 0), (3266, 13, 6, 0), (3268, 8, 2, 0), (3272, 5, 5, 0), (3277, 0, 0, 0), (3279, 5, 5, 0), (3284, 8, 3, 0), (3285, 0, 0, 0), (3287, 7, 6, 0), (3289, 40, 0, 0), (3293, 0, 0, 0), (3295, 41, 4006, 0)]
theorem ok_law_50 : tab_law_50.all (okE code) = true := by decide +kernel
def ed_law_50 : List (Nat × Instr × Nat) := [(3249, .iaload, 1), (3251, .invokestatic 358, 3), (3262, .iaload, 1), (3263, .invokevirtual 360, 3), (3269, .invokevirtual 214, 3), (3274, .if_icmp .eq 5, 3), (3278, .ireturn, 1), (3281, .ifCond .ne 14, 3), (3286, .laload, 1), (3290, .ifCond .eq 5, 3), (3294, .ireturn, 1)]
theorem okd_law_50 : ed_law_50.all (okD code) = true := by decide +kernel
def f_law_50 (Ls : Nat) (xs : Nat → Int32) (S : St) (x m o : Nat) (i : Int32) (c : Nat) (kont : St → Nat → Option Unit) : Option Unit := sx Ls xs (i + 1) fun (v1 : Int32) => cl (f_L_nationalShare S x v1 o) fun (o2 : Int32 × St × Nat) => bud (c + o2.2.2) <| sx Ls xs (i + 1) fun (v4 : Int32) => cl (f_X12_nationalShare o2.2.1 m v4) fun (o5 : Int64 × St) => cl (f_X12_thrown o5.2 m) fun (v6 : Int32) => if v6 = o2.1 then (jn (κ := Option (Unit)) (kont o5.2 ((c + o2.2.2))) fun k7 => if o2.1 = 0 then (ldJ o5.2 o 0 fun (v9 : Int64) => if v9 = o5.1 then (k7) else (none)) else (k7)) else (none)
set_option maxHeartbeats 4000000 in
set_option maxRecDepth 100000 in
theorem c_law_50 {Cn : Nat → CT} {b Ls : Nat} {xs : Nat → Int32} {Q : Unit → State → Prop} {x m o : Nat} {i : Int32} (hf : Fam Cn b Ls xs) (tx0 : tT (Cn 0) x 10) (tm0 : tT (Cn 0) m 11) (to0 : tT (Cn 0) o 14) (S : St) (c : Nat) (hc : c ≤ 512) (kont : St → Nat → Option Unit) (hk : ∀ (S : St) (c : Nat), c ≤ 512 → Jd (Cn c) 8 Q S 4006 [some (.ref b), some (.ref x), some (.ref m), some (.ref o), some (.int i), none, none, none] [] (kont S c)) : Jd (Cn c) 8 Q S 3243 [some (.ref b), some (.ref x), some (.ref m), some (.ref o), some (.int i), none, none, none] [] (f_law_50 Ls xs S x m o i c kont) := by
  have X := hf.X hc
  have E := hf.E c
  have tx_ := hf.T c tx0
  have tm_ := hf.T c tm0
  have to_ := hf.T c to0
  unfold f_law_50
  refine s_run X ok_law_50 0 5 (pc' := 3249) (vs' := [some (.ref b), some (.ref x), some (.ref m), some (.ref o), some (.int i), none, none, none]) (st' := [.int (i + 1), .ref b, .ref x]) rfl ?_
  refine s_sld hf (dk okd_law_50 0 rfl) (fun v1 => ?_)
  refine s_run X ok_law_50 5 1 (pc' := 3251) (vs' := [some (.ref b), some (.ref x), some (.ref m), some (.ref o), some (.int i), none, none, none]) (st' := [.ref o, .int v1, .ref x]) rfl ?_
  refine s_callH (c0 := c) (As := [.ref x, .int v1, .ref o]) (rest := []) hf mh_L_358 (c_L_nationalShare S x v1 o) (ta2 tx_ to_) rfl rfl (Nat.le_of_ble_eq_true rfl) (Nat.le_of_ble_eq_true rfl) (Nat.le_of_ble_eq_true rfl) (dk okd_law_50 1 rfl) (st' := fun o2 => [.int o2.1]) (fun _ => rfl) (fun o2 hb3 => ?_)
  have X := hf.X hb3
  have E := hf.E (c + o2.2.2)
  have tx_ := hf.T (c + o2.2.2) tx_
  have tm_ := hf.T (c + o2.2.2) tm_
  have to_ := hf.T (c + o2.2.2) to_
  refine s_run X ok_law_50 6 6 (pc' := 3262) (vs' := [some (.ref b), some (.ref x), some (.ref m), some (.ref o), some (.int i), some (.int o2.1), none, none]) (st' := [.int (i + 1), .ref b, .ref m]) rfl ?_
  refine s_sld hf (dk okd_law_50 2 rfl) (fun v4 => ?_)
  refine s_callV (b := m) (As := [.int v4]) (rest := []) X E mv_L_360 (c_X12_nationalShare o2.2.1 m v4) rfl (ta1 tm_) rfl (by decide) tm_ rfl rfl (Nat.le_of_ble_eq_true rfl) (Nat.le_of_ble_eq_true rfl) (Nat.le_of_ble_eq_true rfl) (dk okd_law_50 3 rfl) (st' := fun o5 => [.long o5.1]) (fun _ => rfl) (fun o5 => ?_)
  refine s_run X ok_law_50 12 2 (pc' := 3269) (vs' := [some (.ref b), some (.ref x), some (.ref m), some (.ref o), some (.int i), some (.int o2.1), some (.long o5.1), none]) (st' := [.ref m]) rfl ?_
  refine s_callV (b := m) (As := []) (rest := []) X E mv_L_214 (c_X12_thrown o5.2 m) rfl (ta1 tm_) rfl (by decide) tm_ rfl rfl (Nat.le_of_ble_eq_true rfl) (Nat.le_of_ble_eq_true rfl) (Nat.le_of_ble_eq_true rfl) (dk okd_law_50 4 rfl) (st' := fun v6 => [.int v6]) (fun _ => rfl) (fun v6 => ?_)
  refine s_run X ok_law_50 14 1 (pc' := 3274) (vs' := [some (.ref b), some (.ref x), some (.ref m), some (.ref o), some (.int i), some (.int o2.1), some (.long o5.1), none]) (st' := [.int o2.1, .int v6]) rfl ?_
  refine s_icmp_eq (tgt := 3279) X (dk okd_law_50 5 rfl) (by decide) ?_ ?_
  · refine s_run X ok_law_50 16 1 (pc' := 3281) (vs' := [some (.ref b), some (.ref x), some (.ref m), some (.ref o), some (.int i), some (.int o2.1), some (.long o5.1), none]) (st' := [.int o2.1]) rfl ?_
    refine s_jn (κ := Option (Unit)) (fun k7 => Jd (Cn (c + o2.2.2)) 8 Q o5.2 3295 [some (.ref b), some (.ref x), some (.ref m), some (.ref o), some (.int i), none, none, none] [] k7) ?_ (fun k7 h8 => ?_)
    · refine s_run X ok_law_50 22 1 (pc' := 4006) (vs' := [some (.ref b), some (.ref x), some (.ref m), some (.ref o), some (.int i), none, none, none]) (st' := []) rfl ?_
      exact s_less [true, true, true, true, true, false, false, false] rfl (hk o5.2 ((c + o2.2.2)) hb3)
    · refine s_if_ne (tgt := 3295) X (dk okd_law_50 7 rfl) (by decide) ?_ ?_
      · exact s_less [true, true, true, true, true, false, false, false] rfl (h8)
      · refine s_run X ok_law_50 17 2 (pc' := 3286) (vs' := [some (.ref b), some (.ref x), some (.ref m), some (.ref o), some (.int i), some (.int o2.1), some (.long o5.1), none]) (st' := [.int 0, .ref o]) rfl ?_
        refine s_lald X to_ (dk okd_law_50 8 rfl) (fun v9 => ?_)
        refine s_run X ok_law_50 19 2 (pc' := 3290) (vs' := [some (.ref b), some (.ref x), some (.ref m), some (.ref o), some (.int i), some (.int o2.1), some (.long o5.1), none]) (st' := [.int (lg_cmp v9 o5.1)]) rfl ?_
        refine s_lif_eq (tgt := 3295) X (dk okd_law_50 9 rfl) (by decide) ?_ ?_
        · exact s_less [true, true, true, true, true, false, false, false] rfl (h8)
        · refine s_run X ok_law_50 21 1 (pc' := 3294) (vs' := [some (.ref b), some (.ref x), some (.ref m), some (.ref o), some (.int i), some (.int o2.1), some (.long o5.1), none]) (st' := [.int 0]) rfl ?_
          exact s_none
  · refine s_run X ok_law_50 15 1 (pc' := 3278) (vs' := [some (.ref b), some (.ref x), some (.ref m), some (.ref o), some (.int i), some (.int o2.1), some (.long o5.1), none]) (st' := [.int 0]) rfl ?_
    exact s_none
def tab_law_51 : List En := [(3298, 8, 1, 0), (3299, 8, 0, 0), (3300, 5, 4, 0), (3302, 0, 0, 1), (3303, 17, 0, 0), (3305, 8, 0, 0), (3306, 5, 4, 0), (3308, 0, 0, 2), (3309, 17, 0, 0), (3311, 8, 0, 0), (3312, 5, 4, 0), (3314, 0, 0, 3), (3315, 17, 0, 0), (3317, 31, 0, 0), (3318, 1, 0, 32), (3320, 34, 0, 0), (3321, 8, 0, 0), (3322, 5, 4, 0), (3324, 0, 0, 4), (3325, 17, 0, 0), (3327, 31, 0, 0), (3331, 26, 0, 0), (3332, 27, 0, 0), (3333, 8, 3, 0), (3337, 11, 5, 0), (3339, 8, 2, 0), (3340, 8, 0, 0), (3341, 5, 4, 0), (3343, 0, 0, 1), (3344, 17, 0, 0), (3346, 8, 0, 0), (3347, 5, 4, 0), (3349, 0, 0, 2), (3350, 17, 0, 0), (3352, 8, 0, 0), (3353, 5, 4, 0), (3355, 0, 0, 3), (3356, 17, 0, 0), (3358, 31, 0, 0), (3359, 1, 0, 32), (3361, 34, 0, 0), (3362, 8, 0, 0), (3363, 5, 4, 0), (3365, 0, 0, 4), (3366, 17, 0, 0), (3368, 31, 0, 0), (3372, 26, 0, 0), (3373, 27, 0, 0), (3377, 11, 6, 0), (3379, 8, 2, 0), (3383, 5, 5, 0), (3388, 0, 0, 0), (3390, 5, 5, 0), (3395, 8, 3, 0), (3396, 0, 0, 0), (3398, 5, 6, 0), (3403, 3, 1, 0), (3404, 41, 3408, 0), (3407, 3, 0, 0), (3408, 40, 0, 0), (3412, 0, 0, 0), (3414, 41, 4006, 0)]
theorem ok_law_51 : tab_law_51.all (okE code) = true := by decide +kernel
def ed_law_51 : List (Nat × Instr × Nat) := [(3304, .iaload, 1), (3310, .iaload, 1), (3316, .iaload, 1), (3326, .iaload, 1), (3328, .ldc2_w 270, 3), (3334, .invokestatic 361, 3), (3345, .iaload, 1), (3351, .iaload, 1), (3357, .iaload, 1), (3367, .iaload, 1), (3369, .ldc2_w 270, 3), (3374, .invokevirtual 364, 3), (3380, .invokevirtual 214, 3), (3385, .if_icmp .eq 5, 3), (3389, .ireturn, 1), (3392, .ifCond .ne 22, 3), (3397, .laload, 1), (3400, .ifCond .eq 7, 3), (3409, .ifCond .eq 5, 3), (3413, .ireturn, 1)]
theorem okd_law_51 : ed_law_51.all (okD code) = true := by decide +kernel
def f_law_51 (Ls : Nat) (xs : Nat → Int32) (S : St) (x m o : Nat) (i : Int32) (c : Nat) (kont : St → Nat → Option Unit) : Option Unit := sx Ls xs (i + 1) fun (v1 : Int32) => sx Ls xs (i + 2) fun (v2 : Int32) => sx Ls xs (i + 3) fun (v3 : Int32) => sx Ls xs (i + 4) fun (v4 : Int32) => cl (f_L_requestTransfer S x v1 v2 (((Int32.toInt64 v3) <<< ((Int32.toInt64 32) &&& 63)) ||| ((Int32.toInt64 v4) &&& 4294967295)) o) fun (o5 : Int32 × St × Nat) => bud (c + o5.2.2) <| sx Ls xs (i + 1) fun (v7 : Int32) => sx Ls xs (i + 2) fun (v8 : Int32) => sx Ls xs (i + 3) fun (v9 : Int32) => sx Ls xs (i + 4) fun (v10 : Int32) => cl (f_X12_requestTransfer o5.2.1 m v7 v8 (((Int32.toInt64 v9) <<< ((Int32.toInt64 32) &&& 63)) ||| ((Int32.toInt64 v10) &&& 4294967295))) fun (o11 : Int32 × St) => cl (f_X12_thrown o11.2 m) fun (v12 : Int32) => if v12 = o5.1 then (jn (κ := Option (Unit)) (kont o11.2 ((c + o5.2.2))) fun k13 => if o5.1 = 0 then (ldJ o11.2 o 0 fun (v15 : Int64) => jn (κ := Int64 → Option (Unit)) (fun x16 => if v15 = x16 then (k13) else (none)) fun k17 => if o11.1 = 0 then (k17 0) else (k17 1)) else (k13)) else (none)
set_option maxHeartbeats 4000000 in
set_option maxRecDepth 100000 in
theorem c_law_51 {Cn : Nat → CT} {b Ls : Nat} {xs : Nat → Int32} {Q : Unit → State → Prop} {x m o : Nat} {i : Int32} (hf : Fam Cn b Ls xs) (tx0 : tT (Cn 0) x 10) (tm0 : tT (Cn 0) m 11) (to0 : tT (Cn 0) o 14) (S : St) (c : Nat) (hc : c ≤ 512) (kont : St → Nat → Option Unit) (hk : ∀ (S : St) (c : Nat), c ≤ 512 → Jd (Cn c) 8 Q S 4006 [some (.ref b), some (.ref x), some (.ref m), some (.ref o), some (.int i), none, none, none] [] (kont S c)) : Jd (Cn c) 8 Q S 3298 [some (.ref b), some (.ref x), some (.ref m), some (.ref o), some (.int i), none, none, none] [] (f_law_51 Ls xs S x m o i c kont) := by
  have X := hf.X hc
  have E := hf.E c
  have tx_ := hf.T c tx0
  have tm_ := hf.T c tm0
  have to_ := hf.T c to0
  unfold f_law_51
  refine s_run X ok_law_51 0 5 (pc' := 3304) (vs' := [some (.ref b), some (.ref x), some (.ref m), some (.ref o), some (.int i), none, none, none]) (st' := [.int (i + 1), .ref b, .ref x]) rfl ?_
  refine s_sld hf (dk okd_law_51 0 rfl) (fun v1 => ?_)
  refine s_run X ok_law_51 5 4 (pc' := 3310) (vs' := [some (.ref b), some (.ref x), some (.ref m), some (.ref o), some (.int i), none, none, none]) (st' := [.int (i + 2), .ref b, .int v1, .ref x]) rfl ?_
  refine s_sld hf (dk okd_law_51 1 rfl) (fun v2 => ?_)
  refine s_run X ok_law_51 9 4 (pc' := 3316) (vs' := [some (.ref b), some (.ref x), some (.ref m), some (.ref o), some (.int i), none, none, none]) (st' := [.int (i + 3), .ref b, .int v2, .int v1, .ref x]) rfl ?_
  refine s_sld hf (dk okd_law_51 2 rfl) (fun v3 => ?_)
  refine s_run X ok_law_51 13 7 (pc' := 3326) (vs' := [some (.ref b), some (.ref x), some (.ref m), some (.ref o), some (.int i), none, none, none]) (st' := [.int (i + 4), .ref b, .long ((Int32.toInt64 v3) <<< ((Int32.toInt64 32) &&& 63)), .int v2, .int v1, .ref x]) rfl ?_
  refine s_sld hf (dk okd_law_51 3 rfl) (fun v4 => ?_)
  refine s_run X ok_law_51 20 1 (pc' := 3328) (vs' := [some (.ref b), some (.ref x), some (.ref m), some (.ref o), some (.int i), none, none, none]) (st' := [.long (Int32.toInt64 v4), .long ((Int32.toInt64 v3) <<< ((Int32.toInt64 32) &&& 63)), .int v2, .int v1, .ref x]) rfl ?_
  refine s_ldc2 X cl_L_270 (dk okd_law_51 4 rfl) ?_
  refine s_run X ok_law_51 21 3 (pc' := 3334) (vs' := [some (.ref b), some (.ref x), some (.ref m), some (.ref o), some (.int i), none, none, none]) (st' := [.ref o, .long (((Int32.toInt64 v3) <<< ((Int32.toInt64 32) &&& 63)) ||| ((Int32.toInt64 v4) &&& 4294967295)), .int v2, .int v1, .ref x]) rfl ?_
  refine s_callH (c0 := c) (As := [.ref x, .int v1, .int v2, .long (((Int32.toInt64 v3) <<< ((Int32.toInt64 32) &&& 63)) ||| ((Int32.toInt64 v4) &&& 4294967295)), .ref o]) (rest := []) hf mh_L_361 (c_L_requestTransfer S x v1 v2 (((Int32.toInt64 v3) <<< ((Int32.toInt64 32) &&& 63)) ||| ((Int32.toInt64 v4) &&& 4294967295)) o) (ta2 tx_ to_) rfl rfl (Nat.le_of_ble_eq_true rfl) (Nat.le_of_ble_eq_true rfl) (Nat.le_of_ble_eq_true rfl) (dk okd_law_51 5 rfl) (st' := fun o5 => [.int o5.1]) (fun _ => rfl) (fun o5 hb6 => ?_)
  have X := hf.X hb6
  have E := hf.E (c + o5.2.2)
  have tx_ := hf.T (c + o5.2.2) tx_
  have tm_ := hf.T (c + o5.2.2) tm_
  have to_ := hf.T (c + o5.2.2) to_
  refine s_run X ok_law_51 24 6 (pc' := 3345) (vs' := [some (.ref b), some (.ref x), some (.ref m), some (.ref o), some (.int i), some (.int o5.1), none, none]) (st' := [.int (i + 1), .ref b, .ref m]) rfl ?_
  refine s_sld hf (dk okd_law_51 6 rfl) (fun v7 => ?_)
  refine s_run X ok_law_51 30 4 (pc' := 3351) (vs' := [some (.ref b), some (.ref x), some (.ref m), some (.ref o), some (.int i), some (.int o5.1), none, none]) (st' := [.int (i + 2), .ref b, .int v7, .ref m]) rfl ?_
  refine s_sld hf (dk okd_law_51 7 rfl) (fun v8 => ?_)
  refine s_run X ok_law_51 34 4 (pc' := 3357) (vs' := [some (.ref b), some (.ref x), some (.ref m), some (.ref o), some (.int i), some (.int o5.1), none, none]) (st' := [.int (i + 3), .ref b, .int v8, .int v7, .ref m]) rfl ?_
  refine s_sld hf (dk okd_law_51 8 rfl) (fun v9 => ?_)
  refine s_run X ok_law_51 38 7 (pc' := 3367) (vs' := [some (.ref b), some (.ref x), some (.ref m), some (.ref o), some (.int i), some (.int o5.1), none, none]) (st' := [.int (i + 4), .ref b, .long ((Int32.toInt64 v9) <<< ((Int32.toInt64 32) &&& 63)), .int v8, .int v7, .ref m]) rfl ?_
  refine s_sld hf (dk okd_law_51 9 rfl) (fun v10 => ?_)
  refine s_run X ok_law_51 45 1 (pc' := 3369) (vs' := [some (.ref b), some (.ref x), some (.ref m), some (.ref o), some (.int i), some (.int o5.1), none, none]) (st' := [.long (Int32.toInt64 v10), .long ((Int32.toInt64 v9) <<< ((Int32.toInt64 32) &&& 63)), .int v8, .int v7, .ref m]) rfl ?_
  refine s_ldc2 X cl_L_270 (dk okd_law_51 10 rfl) ?_
  refine s_run X ok_law_51 46 2 (pc' := 3374) (vs' := [some (.ref b), some (.ref x), some (.ref m), some (.ref o), some (.int i), some (.int o5.1), none, none]) (st' := [.long (((Int32.toInt64 v9) <<< ((Int32.toInt64 32) &&& 63)) ||| ((Int32.toInt64 v10) &&& 4294967295)), .int v8, .int v7, .ref m]) rfl ?_
  refine s_callV (b := m) (As := [.int v7, .int v8, .long (((Int32.toInt64 v9) <<< ((Int32.toInt64 32) &&& 63)) ||| ((Int32.toInt64 v10) &&& 4294967295))]) (rest := []) X E mv_L_364 (c_X12_requestTransfer o5.2.1 m v7 v8 (((Int32.toInt64 v9) <<< ((Int32.toInt64 32) &&& 63)) ||| ((Int32.toInt64 v10) &&& 4294967295))) rfl (ta1 tm_) rfl (by decide) tm_ rfl rfl (Nat.le_of_ble_eq_true rfl) (Nat.le_of_ble_eq_true rfl) (Nat.le_of_ble_eq_true rfl) (dk okd_law_51 11 rfl) (st' := fun o11 => [.int o11.1]) (fun _ => rfl) (fun o11 => ?_)
  refine s_run X ok_law_51 48 2 (pc' := 3380) (vs' := [some (.ref b), some (.ref x), some (.ref m), some (.ref o), some (.int i), some (.int o5.1), some (.int o11.1), none]) (st' := [.ref m]) rfl ?_
  refine s_callV (b := m) (As := []) (rest := []) X E mv_L_214 (c_X12_thrown o11.2 m) rfl (ta1 tm_) rfl (by decide) tm_ rfl rfl (Nat.le_of_ble_eq_true rfl) (Nat.le_of_ble_eq_true rfl) (Nat.le_of_ble_eq_true rfl) (dk okd_law_51 12 rfl) (st' := fun v12 => [.int v12]) (fun _ => rfl) (fun v12 => ?_)
  refine s_run X ok_law_51 50 1 (pc' := 3385) (vs' := [some (.ref b), some (.ref x), some (.ref m), some (.ref o), some (.int i), some (.int o5.1), some (.int o11.1), none]) (st' := [.int o5.1, .int v12]) rfl ?_
  refine s_icmp_eq (tgt := 3390) X (dk okd_law_51 13 rfl) (by decide) ?_ ?_
  · refine s_run X ok_law_51 52 1 (pc' := 3392) (vs' := [some (.ref b), some (.ref x), some (.ref m), some (.ref o), some (.int i), some (.int o5.1), some (.int o11.1), none]) (st' := [.int o5.1]) rfl ?_
    refine s_jn (κ := Option (Unit)) (fun k13 => Jd (Cn (c + o5.2.2)) 8 Q o11.2 3414 [some (.ref b), some (.ref x), some (.ref m), some (.ref o), some (.int i), none, none, none] [] k13) ?_ (fun k13 h14 => ?_)
    · refine s_run X ok_law_51 61 1 (pc' := 4006) (vs' := [some (.ref b), some (.ref x), some (.ref m), some (.ref o), some (.int i), none, none, none]) (st' := []) rfl ?_
      exact s_less [true, true, true, true, true, false, false, false] rfl (hk o11.2 ((c + o5.2.2)) hb6)
    · refine s_if_ne (tgt := 3414) X (dk okd_law_51 15 rfl) (by decide) ?_ ?_
      · exact s_less [true, true, true, true, true, false, false, false] rfl (h14)
      · refine s_run X ok_law_51 53 2 (pc' := 3397) (vs' := [some (.ref b), some (.ref x), some (.ref m), some (.ref o), some (.int i), some (.int o5.1), some (.int o11.1), none]) (st' := [.int 0, .ref o]) rfl ?_
        refine s_lald X to_ (dk okd_law_51 16 rfl) (fun v15 => ?_)
        refine s_run X ok_law_51 55 1 (pc' := 3400) (vs' := [some (.ref b), some (.ref x), some (.ref m), some (.ref o), some (.int i), some (.int o5.1), some (.int o11.1), none]) (st' := [.int o11.1, .long v15]) rfl ?_
        refine s_jn (κ := Int64 → Option (Unit)) (fun k17 => ∀ (x16 : Int64), Jd (Cn (c + o5.2.2)) 8 Q o11.2 3408 [some (.ref b), some (.ref x), some (.ref m), some (.ref o), some (.int i), none, none, none] [.long x16, .long v15] (k17 x16)) (fun x16 => ?_) (fun k17 h18 => ?_)
        · refine s_run X ok_law_51 59 1 (pc' := 3409) (vs' := [some (.ref b), some (.ref x), some (.ref m), some (.ref o), some (.int i), none, none, none]) (st' := [.int (lg_cmp v15 x16)]) rfl ?_
          refine s_lif_eq (tgt := 3414) X (dk okd_law_51 18 rfl) (by decide) ?_ ?_
          · exact h14
          · refine s_run X ok_law_51 60 1 (pc' := 3413) (vs' := [some (.ref b), some (.ref x), some (.ref m), some (.ref o), some (.int i), none, none, none]) (st' := [.int 0]) rfl ?_
            exact s_none
        · refine s_if_eq (tgt := 3407) X (dk okd_law_51 17 rfl) (by decide) ?_ ?_
          · refine s_run X ok_law_51 58 1 (pc' := 3408) (vs' := [some (.ref b), some (.ref x), some (.ref m), some (.ref o), some (.int i), some (.int o5.1), some (.int o11.1), none]) (st' := [.long 0, .long v15]) rfl ?_
            exact s_less [true, true, true, true, true, false, false, false] rfl (h18 0)
          · refine s_run X ok_law_51 56 2 (pc' := 3408) (vs' := [some (.ref b), some (.ref x), some (.ref m), some (.ref o), some (.int i), some (.int o5.1), some (.int o11.1), none]) (st' := [.long 1, .long v15]) rfl ?_
            exact s_less [true, true, true, true, true, false, false, false] rfl (h18 1)
  · refine s_run X ok_law_51 51 1 (pc' := 3389) (vs' := [some (.ref b), some (.ref x), some (.ref m), some (.ref o), some (.int i), some (.int o5.1), some (.int o11.1), none]) (st' := [.int 0]) rfl ?_
    exact s_none
def tab_law_52 : List En := [(3417, 8, 1, 0), (3418, 8, 0, 0), (3419, 5, 4, 0), (3421, 0, 0, 1), (3422, 17, 0, 0), (3424, 8, 0, 0), (3425, 5, 4, 0), (3427, 0, 0, 2), (3428, 17, 0, 0), (3430, 8, 0, 0), (3431, 5, 4, 0), (3433, 0, 0, 3), (3434, 17, 0, 0), (3439, 0, 0, 1), (3440, 41, 3444, 0), (3443, 0, 0, 0), (3444, 8, 3, 0), (3448, 11, 5, 0), (3450, 8, 2, 0), (3451, 8, 0, 0), (3452, 5, 4, 0), (3454, 0, 0, 1), (3455, 17, 0, 0), (3457, 8, 0, 0), (3458, 5, 4, 0), (3460, 0, 0, 2), (3461, 17, 0, 0), (3463, 8, 0, 0), (3464, 5, 4, 0), (3466, 0, 0, 3), (3467, 17, 0, 0), (3472, 0, 0, 1), (3473, 41, 3477, 0), (3476, 0, 0, 0), (3480, 11, 6, 0), (3482, 8, 2, 0), (3486, 5, 5, 0), (3491, 0, 0, 0), (3493, 5, 5, 0), (3498, 8, 3, 0), (3499, 0, 0, 0), (3501, 5, 6, 0), (3503, 31, 0, 0), (3504, 40, 0, 0), (3508, 0, 0, 0), (3510, 41, 4006, 0)]
theorem ok_law_52 : tab_law_52.all (okE code) = true := by decide +kernel
def ed_law_52 : List (Nat × Instr × Nat) := [(3423, .iaload, 1), (3429, .iaload, 1), (3435, .iaload, 1), (3436, .ifCond .eq 7, 3), (3445, .invokestatic 365, 3), (3456, .iaload, 1), (3462, .iaload, 1), (3468, .iaload, 1), (3469, .ifCond .eq 7, 3), (3477, .invokevirtual 368, 3), (3483, .invokevirtual 214, 3), (3488, .if_icmp .eq 5, 3), (3492, .ireturn, 1), (3495, .ifCond .ne 15, 3), (3500, .laload, 1), (3505, .ifCond .eq 5, 3), (3509, .ireturn, 1)]
theorem okd_law_52 : ed_law_52.all (okD code) = true := by decide +kernel
def f_law_52 (Ls : Nat) (xs : Nat → Int32) (S : St) (x m o : Nat) (i : Int32) (c : Nat) (kont : St → Nat → Option Unit) : Option Unit := sx Ls xs (i + 1) fun (v1 : Int32) => sx Ls xs (i + 2) fun (v2 : Int32) => sx Ls xs (i + 3) fun (v3 : Int32) => jn (κ := Int32 → Option (Unit)) (fun x4 => cl (f_L_vote S x v1 v2 x4 o) fun (o7 : Int32 × St × Nat) => bud (c + o7.2.2) <| sx Ls xs (i + 1) fun (v9 : Int32) => sx Ls xs (i + 2) fun (v10 : Int32) => sx Ls xs (i + 3) fun (v11 : Int32) => jn (κ := Int32 → Option (Unit)) (fun x12 => cl (f_X12_vote o7.2.1 m v9 v10 x12) fun (o15 : Int32 × St) => cl (f_X12_thrown o15.2 m) fun (v16 : Int32) => if v16 = o7.1 then (jn (κ := Option (Unit)) (kont o15.2 ((c + o7.2.2))) fun k17 => if o7.1 = 0 then (ldJ o15.2 o 0 fun (v19 : Int64) => if v19 = (Int32.toInt64 o15.1) then (k17) else (none)) else (k17)) else (none)) fun k13 => if v11 = 0 then (k13 0) else (k13 1)) fun k5 => if v3 = 0 then (k5 0) else (k5 1)
set_option maxHeartbeats 4000000 in
set_option maxRecDepth 100000 in
theorem c_law_52 {Cn : Nat → CT} {b Ls : Nat} {xs : Nat → Int32} {Q : Unit → State → Prop} {x m o : Nat} {i : Int32} (hf : Fam Cn b Ls xs) (tx0 : tT (Cn 0) x 10) (tm0 : tT (Cn 0) m 11) (to0 : tT (Cn 0) o 14) (S : St) (c : Nat) (hc : c ≤ 512) (kont : St → Nat → Option Unit) (hk : ∀ (S : St) (c : Nat), c ≤ 512 → Jd (Cn c) 8 Q S 4006 [some (.ref b), some (.ref x), some (.ref m), some (.ref o), some (.int i), none, none, none] [] (kont S c)) : Jd (Cn c) 8 Q S 3417 [some (.ref b), some (.ref x), some (.ref m), some (.ref o), some (.int i), none, none, none] [] (f_law_52 Ls xs S x m o i c kont) := by
  have X := hf.X hc
  have E := hf.E c
  have tx_ := hf.T c tx0
  have tm_ := hf.T c tm0
  have to_ := hf.T c to0
  unfold f_law_52
  refine s_run X ok_law_52 0 5 (pc' := 3423) (vs' := [some (.ref b), some (.ref x), some (.ref m), some (.ref o), some (.int i), none, none, none]) (st' := [.int (i + 1), .ref b, .ref x]) rfl ?_
  refine s_sld hf (dk okd_law_52 0 rfl) (fun v1 => ?_)
  refine s_run X ok_law_52 5 4 (pc' := 3429) (vs' := [some (.ref b), some (.ref x), some (.ref m), some (.ref o), some (.int i), none, none, none]) (st' := [.int (i + 2), .ref b, .int v1, .ref x]) rfl ?_
  refine s_sld hf (dk okd_law_52 1 rfl) (fun v2 => ?_)
  refine s_run X ok_law_52 9 4 (pc' := 3435) (vs' := [some (.ref b), some (.ref x), some (.ref m), some (.ref o), some (.int i), none, none, none]) (st' := [.int (i + 3), .ref b, .int v2, .int v1, .ref x]) rfl ?_
  refine s_sld hf (dk okd_law_52 2 rfl) (fun v3 => ?_)
  refine s_jn (κ := Int32 → Option (Unit)) (fun k5 => ∀ (x4 : Int32), Jd (Cn (c + o7.2.2)) 8 Q S 3444 [some (.ref b), some (.ref x), some (.ref m), some (.ref o), some (.int i), none, none, none] [.int x4, .int v2, .int v1, .ref x] (k5 x4)) (fun x4 => ?_) (fun k5 h6 => ?_)
  · refine s_run X ok_law_52 16 1 (pc' := 3445) (vs' := [some (.ref b), some (.ref x), some (.ref m), some (.ref o), some (.int i), none, none, none]) (st' := [.ref o, .int x4, .int v2, .int v1, .ref x]) rfl ?_
    refine s_callH (c0 := c) (As := [.ref x, .int v1, .int v2, .int x4, .ref o]) (rest := []) hf mh_L_365 (c_L_vote S x v1 v2 x4 o) (ta2 tx_ to_) rfl rfl (Nat.le_of_ble_eq_true rfl) (Nat.le_of_ble_eq_true rfl) (Nat.le_of_ble_eq_true rfl) (dk okd_law_52 4 rfl) (st' := fun o7 => [.int o7.1]) (fun _ => rfl) (fun o7 hb8 => ?_)
    have X := hf.X hb8
    have E := hf.E (c + o7.2.2)
    have tx_ := hf.T (c + o7.2.2) tx_
    have tm_ := hf.T (c + o7.2.2) tm_
    have to_ := hf.T (c + o7.2.2) to_
    refine s_run X ok_law_52 17 6 (pc' := 3456) (vs' := [some (.ref b), some (.ref x), some (.ref m), some (.ref o), some (.int i), some (.int o7.1), none, none]) (st' := [.int (i + 1), .ref b, .ref m]) rfl ?_
    refine s_sld hf (dk okd_law_52 5 rfl) (fun v9 => ?_)
    refine s_run X ok_law_52 23 4 (pc' := 3462) (vs' := [some (.ref b), some (.ref x), some (.ref m), some (.ref o), some (.int i), some (.int o7.1), none, none]) (st' := [.int (i + 2), .ref b, .int v9, .ref m]) rfl ?_
    refine s_sld hf (dk okd_law_52 6 rfl) (fun v10 => ?_)
    refine s_run X ok_law_52 27 4 (pc' := 3468) (vs' := [some (.ref b), some (.ref x), some (.ref m), some (.ref o), some (.int i), some (.int o7.1), none, none]) (st' := [.int (i + 3), .ref b, .int v10, .int v9, .ref m]) rfl ?_
    refine s_sld hf (dk okd_law_52 7 rfl) (fun v11 => ?_)
    refine s_jn (κ := Int32 → Option (Unit)) (fun k13 => ∀ (x12 : Int32), Jd (Cn (c + o7.2.2)) 8 Q o7.2.1 3477 [some (.ref b), some (.ref x), some (.ref m), some (.ref o), some (.int i), some (.int o7.1), none, none] [.int x12, .int v10, .int v9, .ref m] (k13 x12)) (fun x12 => ?_) (fun k13 h14 => ?_)
    · refine s_callV (b := m) (As := [.int v9, .int v10, .int x12]) (rest := []) X E mv_L_368 (c_X12_vote o7.2.1 m v9 v10 x12) rfl (ta1 tm_) rfl (by decide) tm_ rfl rfl (Nat.le_of_ble_eq_true rfl) (Nat.le_of_ble_eq_true rfl) (Nat.le_of_ble_eq_true rfl) (dk okd_law_52 9 rfl) (st' := fun o15 => [.int o15.1]) (fun _ => rfl) (fun o15 => ?_)
      refine s_run X ok_law_52 34 2 (pc' := 3483) (vs' := [some (.ref b), some (.ref x), some (.ref m), some (.ref o), some (.int i), some (.int o7.1), some (.int o15.1), none]) (st' := [.ref m]) rfl ?_
      refine s_callV (b := m) (As := []) (rest := []) X E mv_L_214 (c_X12_thrown o15.2 m) rfl (ta1 tm_) rfl (by decide) tm_ rfl rfl (Nat.le_of_ble_eq_true rfl) (Nat.le_of_ble_eq_true rfl) (Nat.le_of_ble_eq_true rfl) (dk okd_law_52 10 rfl) (st' := fun v16 => [.int v16]) (fun _ => rfl) (fun v16 => ?_)
      refine s_run X ok_law_52 36 1 (pc' := 3488) (vs' := [some (.ref b), some (.ref x), some (.ref m), some (.ref o), some (.int i), some (.int o7.1), some (.int o15.1), none]) (st' := [.int o7.1, .int v16]) rfl ?_
      refine s_icmp_eq (tgt := 3493) X (dk okd_law_52 11 rfl) (by decide) ?_ ?_
      · refine s_run X ok_law_52 38 1 (pc' := 3495) (vs' := [some (.ref b), some (.ref x), some (.ref m), some (.ref o), some (.int i), some (.int o7.1), some (.int o15.1), none]) (st' := [.int o7.1]) rfl ?_
        refine s_jn (κ := Option (Unit)) (fun k17 => Jd (Cn (c + o7.2.2)) 8 Q o15.2 3510 [some (.ref b), some (.ref x), some (.ref m), some (.ref o), some (.int i), none, none, none] [] k17) ?_ (fun k17 h18 => ?_)
        · refine s_run X ok_law_52 45 1 (pc' := 4006) (vs' := [some (.ref b), some (.ref x), some (.ref m), some (.ref o), some (.int i), none, none, none]) (st' := []) rfl ?_
          exact s_less [true, true, true, true, true, false, false, false] rfl (hk o15.2 ((c + o7.2.2)) hb8)
        · refine s_if_ne (tgt := 3510) X (dk okd_law_52 13 rfl) (by decide) ?_ ?_
          · exact s_less [true, true, true, true, true, false, false, false] rfl (h18)
          · refine s_run X ok_law_52 39 2 (pc' := 3500) (vs' := [some (.ref b), some (.ref x), some (.ref m), some (.ref o), some (.int i), some (.int o7.1), some (.int o15.1), none]) (st' := [.int 0, .ref o]) rfl ?_
            refine s_lald X to_ (dk okd_law_52 14 rfl) (fun v19 => ?_)
            refine s_run X ok_law_52 41 3 (pc' := 3505) (vs' := [some (.ref b), some (.ref x), some (.ref m), some (.ref o), some (.int i), some (.int o7.1), some (.int o15.1), none]) (st' := [.int (lg_cmp v19 (Int32.toInt64 o15.1))]) rfl ?_
            refine s_lif_eq (tgt := 3510) X (dk okd_law_52 15 rfl) (by decide) ?_ ?_
            · exact s_less [true, true, true, true, true, false, false, false] rfl (h18)
            · refine s_run X ok_law_52 44 1 (pc' := 3509) (vs' := [some (.ref b), some (.ref x), some (.ref m), some (.ref o), some (.int i), some (.int o7.1), some (.int o15.1), none]) (st' := [.int 0]) rfl ?_
              exact s_none
      · refine s_run X ok_law_52 37 1 (pc' := 3492) (vs' := [some (.ref b), some (.ref x), some (.ref m), some (.ref o), some (.int i), some (.int o7.1), some (.int o15.1), none]) (st' := [.int 0]) rfl ?_
        exact s_none
    · refine s_if_eq (tgt := 3476) X (dk okd_law_52 8 rfl) (by decide) ?_ ?_
      · refine s_run X ok_law_52 33 1 (pc' := 3477) (vs' := [some (.ref b), some (.ref x), some (.ref m), some (.ref o), some (.int i), some (.int o7.1), none, none]) (st' := [.int 0, .int v10, .int v9, .ref m]) rfl ?_
        exact h14 0
      · refine s_run X ok_law_52 31 2 (pc' := 3477) (vs' := [some (.ref b), some (.ref x), some (.ref m), some (.ref o), some (.int i), some (.int o7.1), none, none]) (st' := [.int 1, .int v10, .int v9, .ref m]) rfl ?_
        exact h14 1
  · refine s_if_eq (tgt := 3443) X (dk okd_law_52 3 rfl) (by decide) ?_ ?_
    · refine s_run X ok_law_52 15 1 (pc' := 3444) (vs' := [some (.ref b), some (.ref x), some (.ref m), some (.ref o), some (.int i), none, none, none]) (st' := [.int 0, .int v2, .int v1, .ref x]) rfl ?_
      exact h6 0
    · refine s_run X ok_law_52 13 2 (pc' := 3444) (vs' := [some (.ref b), some (.ref x), some (.ref m), some (.ref o), some (.int i), none, none, none]) (st' := [.int 1, .int v2, .int v1, .ref x]) rfl ?_
      exact h6 1
def tab_law_53 : List En := [(3513, 8, 1, 0), (3514, 8, 0, 0), (3515, 5, 4, 0), (3517, 0, 0, 1), (3518, 17, 0, 0), (3520, 8, 3, 0), (3524, 11, 5, 0), (3526, 8, 2, 0), (3527, 8, 0, 0), (3528, 5, 4, 0), (3530, 0, 0, 1), (3531, 17, 0, 0), (3536, 11, 6, 0), (3538, 8, 2, 0), (3542, 5, 5, 0), (3547, 0, 0, 0), (3549, 5, 5, 0), (3554, 8, 3, 0), (3555, 0, 0, 0), (3557, 5, 6, 0), (3562, 3, 1, 0), (3563, 41, 3567, 0), (3566, 3, 0, 0), (3567, 40, 0, 0), (3571, 0, 0, 0), (3573, 41, 4006, 0)]
theorem ok_law_53 : tab_law_53.all (okE code) = true := by decide +kernel
def ed_law_53 : List (Nat × Instr × Nat) := [(3519, .iaload, 1), (3521, .invokestatic 369, 3), (3532, .iaload, 1), (3533, .invokevirtual 371, 3), (3539, .invokevirtual 214, 3), (3544, .if_icmp .eq 5, 3), (3548, .ireturn, 1), (3551, .ifCond .ne 22, 3), (3556, .laload, 1), (3559, .ifCond .eq 7, 3), (3568, .ifCond .eq 5, 3), (3572, .ireturn, 1)]
theorem okd_law_53 : ed_law_53.all (okD code) = true := by decide +kernel
def f_law_53 (Ls : Nat) (xs : Nat → Int32) (S : St) (x m o : Nat) (i : Int32) (c : Nat) (kont : St → Nat → Option Unit) : Option Unit := sx Ls xs (i + 1) fun (v1 : Int32) => cl (f_L_exercise S x v1 o) fun (o2 : Int32 × St × Nat) => bud (c + o2.2.2) <| sx Ls xs (i + 1) fun (v4 : Int32) => cl (f_X12_exercise o2.2.1 m v4) fun (o5 : Int32 × St) => cl (f_X12_thrown o5.2 m) fun (v6 : Int32) => if v6 = o2.1 then (jn (κ := Option (Unit)) (kont o5.2 ((c + o2.2.2))) fun k7 => if o2.1 = 0 then (ldJ o5.2 o 0 fun (v9 : Int64) => jn (κ := Int64 → Option (Unit)) (fun x10 => if v9 = x10 then (k7) else (none)) fun k11 => if o5.1 = 0 then (k11 0) else (k11 1)) else (k7)) else (none)
set_option maxHeartbeats 4000000 in
set_option maxRecDepth 100000 in
theorem c_law_53 {Cn : Nat → CT} {b Ls : Nat} {xs : Nat → Int32} {Q : Unit → State → Prop} {x m o : Nat} {i : Int32} (hf : Fam Cn b Ls xs) (tx0 : tT (Cn 0) x 10) (tm0 : tT (Cn 0) m 11) (to0 : tT (Cn 0) o 14) (S : St) (c : Nat) (hc : c ≤ 512) (kont : St → Nat → Option Unit) (hk : ∀ (S : St) (c : Nat), c ≤ 512 → Jd (Cn c) 8 Q S 4006 [some (.ref b), some (.ref x), some (.ref m), some (.ref o), some (.int i), none, none, none] [] (kont S c)) : Jd (Cn c) 8 Q S 3513 [some (.ref b), some (.ref x), some (.ref m), some (.ref o), some (.int i), none, none, none] [] (f_law_53 Ls xs S x m o i c kont) := by
  have X := hf.X hc
  have E := hf.E c
  have tx_ := hf.T c tx0
  have tm_ := hf.T c tm0
  have to_ := hf.T c to0
  unfold f_law_53
  refine s_run X ok_law_53 0 5 (pc' := 3519) (vs' := [some (.ref b), some (.ref x), some (.ref m), some (.ref o), some (.int i), none, none, none]) (st' := [.int (i + 1), .ref b, .ref x]) rfl ?_
  refine s_sld hf (dk okd_law_53 0 rfl) (fun v1 => ?_)
  refine s_run X ok_law_53 5 1 (pc' := 3521) (vs' := [some (.ref b), some (.ref x), some (.ref m), some (.ref o), some (.int i), none, none, none]) (st' := [.ref o, .int v1, .ref x]) rfl ?_
  refine s_callH (c0 := c) (As := [.ref x, .int v1, .ref o]) (rest := []) hf mh_L_369 (c_L_exercise S x v1 o) (ta2 tx_ to_) rfl rfl (Nat.le_of_ble_eq_true rfl) (Nat.le_of_ble_eq_true rfl) (Nat.le_of_ble_eq_true rfl) (dk okd_law_53 1 rfl) (st' := fun o2 => [.int o2.1]) (fun _ => rfl) (fun o2 hb3 => ?_)
  have X := hf.X hb3
  have E := hf.E (c + o2.2.2)
  have tx_ := hf.T (c + o2.2.2) tx_
  have tm_ := hf.T (c + o2.2.2) tm_
  have to_ := hf.T (c + o2.2.2) to_
  refine s_run X ok_law_53 6 6 (pc' := 3532) (vs' := [some (.ref b), some (.ref x), some (.ref m), some (.ref o), some (.int i), some (.int o2.1), none, none]) (st' := [.int (i + 1), .ref b, .ref m]) rfl ?_
  refine s_sld hf (dk okd_law_53 2 rfl) (fun v4 => ?_)
  refine s_callV (b := m) (As := [.int v4]) (rest := []) X E mv_L_371 (c_X12_exercise o2.2.1 m v4) rfl (ta1 tm_) rfl (by decide) tm_ rfl rfl (Nat.le_of_ble_eq_true rfl) (Nat.le_of_ble_eq_true rfl) (Nat.le_of_ble_eq_true rfl) (dk okd_law_53 3 rfl) (st' := fun o5 => [.int o5.1]) (fun _ => rfl) (fun o5 => ?_)
  refine s_run X ok_law_53 12 2 (pc' := 3539) (vs' := [some (.ref b), some (.ref x), some (.ref m), some (.ref o), some (.int i), some (.int o2.1), some (.int o5.1), none]) (st' := [.ref m]) rfl ?_
  refine s_callV (b := m) (As := []) (rest := []) X E mv_L_214 (c_X12_thrown o5.2 m) rfl (ta1 tm_) rfl (by decide) tm_ rfl rfl (Nat.le_of_ble_eq_true rfl) (Nat.le_of_ble_eq_true rfl) (Nat.le_of_ble_eq_true rfl) (dk okd_law_53 4 rfl) (st' := fun v6 => [.int v6]) (fun _ => rfl) (fun v6 => ?_)
  refine s_run X ok_law_53 14 1 (pc' := 3544) (vs' := [some (.ref b), some (.ref x), some (.ref m), some (.ref o), some (.int i), some (.int o2.1), some (.int o5.1), none]) (st' := [.int o2.1, .int v6]) rfl ?_
  refine s_icmp_eq (tgt := 3549) X (dk okd_law_53 5 rfl) (by decide) ?_ ?_
  · refine s_run X ok_law_53 16 1 (pc' := 3551) (vs' := [some (.ref b), some (.ref x), some (.ref m), some (.ref o), some (.int i), some (.int o2.1), some (.int o5.1), none]) (st' := [.int o2.1]) rfl ?_
    refine s_jn (κ := Option (Unit)) (fun k7 => Jd (Cn (c + o2.2.2)) 8 Q o5.2 3573 [some (.ref b), some (.ref x), some (.ref m), some (.ref o), some (.int i), none, none, none] [] k7) ?_ (fun k7 h8 => ?_)
    · refine s_run X ok_law_53 25 1 (pc' := 4006) (vs' := [some (.ref b), some (.ref x), some (.ref m), some (.ref o), some (.int i), none, none, none]) (st' := []) rfl ?_
      exact s_less [true, true, true, true, true, false, false, false] rfl (hk o5.2 ((c + o2.2.2)) hb3)
    · refine s_if_ne (tgt := 3573) X (dk okd_law_53 7 rfl) (by decide) ?_ ?_
      · exact s_less [true, true, true, true, true, false, false, false] rfl (h8)
      · refine s_run X ok_law_53 17 2 (pc' := 3556) (vs' := [some (.ref b), some (.ref x), some (.ref m), some (.ref o), some (.int i), some (.int o2.1), some (.int o5.1), none]) (st' := [.int 0, .ref o]) rfl ?_
        refine s_lald X to_ (dk okd_law_53 8 rfl) (fun v9 => ?_)
        refine s_run X ok_law_53 19 1 (pc' := 3559) (vs' := [some (.ref b), some (.ref x), some (.ref m), some (.ref o), some (.int i), some (.int o2.1), some (.int o5.1), none]) (st' := [.int o5.1, .long v9]) rfl ?_
        refine s_jn (κ := Int64 → Option (Unit)) (fun k11 => ∀ (x10 : Int64), Jd (Cn (c + o2.2.2)) 8 Q o5.2 3567 [some (.ref b), some (.ref x), some (.ref m), some (.ref o), some (.int i), none, none, none] [.long x10, .long v9] (k11 x10)) (fun x10 => ?_) (fun k11 h12 => ?_)
        · refine s_run X ok_law_53 23 1 (pc' := 3568) (vs' := [some (.ref b), some (.ref x), some (.ref m), some (.ref o), some (.int i), none, none, none]) (st' := [.int (lg_cmp v9 x10)]) rfl ?_
          refine s_lif_eq (tgt := 3573) X (dk okd_law_53 10 rfl) (by decide) ?_ ?_
          · exact h8
          · refine s_run X ok_law_53 24 1 (pc' := 3572) (vs' := [some (.ref b), some (.ref x), some (.ref m), some (.ref o), some (.int i), none, none, none]) (st' := [.int 0]) rfl ?_
            exact s_none
        · refine s_if_eq (tgt := 3566) X (dk okd_law_53 9 rfl) (by decide) ?_ ?_
          · refine s_run X ok_law_53 22 1 (pc' := 3567) (vs' := [some (.ref b), some (.ref x), some (.ref m), some (.ref o), some (.int i), some (.int o2.1), some (.int o5.1), none]) (st' := [.long 0, .long v9]) rfl ?_
            exact s_less [true, true, true, true, true, false, false, false] rfl (h12 0)
          · refine s_run X ok_law_53 20 2 (pc' := 3567) (vs' := [some (.ref b), some (.ref x), some (.ref m), some (.ref o), some (.int i), some (.int o2.1), some (.int o5.1), none]) (st' := [.long 1, .long v9]) rfl ?_
            exact s_less [true, true, true, true, true, false, false, false] rfl (h12 1)
  · refine s_run X ok_law_53 15 1 (pc' := 3548) (vs' := [some (.ref b), some (.ref x), some (.ref m), some (.ref o), some (.int i), some (.int o2.1), some (.int o5.1), none]) (st' := [.int 0]) rfl ?_
    exact s_none
def tab_law_54 : List En := [(3576, 8, 1, 0), (3577, 8, 0, 0), (3578, 5, 4, 0), (3580, 0, 0, 1), (3581, 17, 0, 0), (3583, 8, 3, 0), (3587, 11, 5, 0), (3589, 8, 2, 0), (3590, 8, 0, 0), (3591, 5, 4, 0), (3593, 0, 0, 1), (3594, 17, 0, 0), (3599, 11, 6, 0), (3601, 8, 2, 0), (3605, 5, 5, 0), (3610, 0, 0, 0), (3612, 5, 5, 0), (3617, 8, 3, 0), (3618, 0, 0, 0), (3620, 5, 6, 0), (3625, 3, 1, 0), (3626, 41, 3630, 0), (3629, 3, 0, 0), (3630, 40, 0, 0), (3634, 0, 0, 0), (3636, 41, 4006, 0)]
theorem ok_law_54 : tab_law_54.all (okE code) = true := by decide +kernel
def ed_law_54 : List (Nat × Instr × Nat) := [(3582, .iaload, 1), (3584, .invokestatic 372, 3), (3595, .iaload, 1), (3596, .invokevirtual 374, 3), (3602, .invokevirtual 214, 3), (3607, .if_icmp .eq 5, 3), (3611, .ireturn, 1), (3614, .ifCond .ne 22, 3), (3619, .laload, 1), (3622, .ifCond .eq 7, 3), (3631, .ifCond .eq 5, 3), (3635, .ireturn, 1)]
theorem okd_law_54 : ed_law_54.all (okD code) = true := by decide +kernel
def f_law_54 (Ls : Nat) (xs : Nat → Int32) (S : St) (x m o : Nat) (i : Int32) (c : Nat) (kont : St → Nat → Option Unit) : Option Unit := sx Ls xs (i + 1) fun (v1 : Int32) => cl (f_L_withdraw S x v1 o) fun (o2 : Int32 × St × Nat) => bud (c + o2.2.2) <| sx Ls xs (i + 1) fun (v4 : Int32) => cl (f_X12_withdraw o2.2.1 m v4) fun (o5 : Int32 × St) => cl (f_X12_thrown o5.2 m) fun (v6 : Int32) => if v6 = o2.1 then (jn (κ := Option (Unit)) (kont o5.2 ((c + o2.2.2))) fun k7 => if o2.1 = 0 then (ldJ o5.2 o 0 fun (v9 : Int64) => jn (κ := Int64 → Option (Unit)) (fun x10 => if v9 = x10 then (k7) else (none)) fun k11 => if o5.1 = 0 then (k11 0) else (k11 1)) else (k7)) else (none)
set_option maxHeartbeats 4000000 in
set_option maxRecDepth 100000 in
theorem c_law_54 {Cn : Nat → CT} {b Ls : Nat} {xs : Nat → Int32} {Q : Unit → State → Prop} {x m o : Nat} {i : Int32} (hf : Fam Cn b Ls xs) (tx0 : tT (Cn 0) x 10) (tm0 : tT (Cn 0) m 11) (to0 : tT (Cn 0) o 14) (S : St) (c : Nat) (hc : c ≤ 512) (kont : St → Nat → Option Unit) (hk : ∀ (S : St) (c : Nat), c ≤ 512 → Jd (Cn c) 8 Q S 4006 [some (.ref b), some (.ref x), some (.ref m), some (.ref o), some (.int i), none, none, none] [] (kont S c)) : Jd (Cn c) 8 Q S 3576 [some (.ref b), some (.ref x), some (.ref m), some (.ref o), some (.int i), none, none, none] [] (f_law_54 Ls xs S x m o i c kont) := by
  have X := hf.X hc
  have E := hf.E c
  have tx_ := hf.T c tx0
  have tm_ := hf.T c tm0
  have to_ := hf.T c to0
  unfold f_law_54
  refine s_run X ok_law_54 0 5 (pc' := 3582) (vs' := [some (.ref b), some (.ref x), some (.ref m), some (.ref o), some (.int i), none, none, none]) (st' := [.int (i + 1), .ref b, .ref x]) rfl ?_
  refine s_sld hf (dk okd_law_54 0 rfl) (fun v1 => ?_)
  refine s_run X ok_law_54 5 1 (pc' := 3584) (vs' := [some (.ref b), some (.ref x), some (.ref m), some (.ref o), some (.int i), none, none, none]) (st' := [.ref o, .int v1, .ref x]) rfl ?_
  refine s_callH (c0 := c) (As := [.ref x, .int v1, .ref o]) (rest := []) hf mh_L_372 (c_L_withdraw S x v1 o) (ta2 tx_ to_) rfl rfl (Nat.le_of_ble_eq_true rfl) (Nat.le_of_ble_eq_true rfl) (Nat.le_of_ble_eq_true rfl) (dk okd_law_54 1 rfl) (st' := fun o2 => [.int o2.1]) (fun _ => rfl) (fun o2 hb3 => ?_)
  have X := hf.X hb3
  have E := hf.E (c + o2.2.2)
  have tx_ := hf.T (c + o2.2.2) tx_
  have tm_ := hf.T (c + o2.2.2) tm_
  have to_ := hf.T (c + o2.2.2) to_
  refine s_run X ok_law_54 6 6 (pc' := 3595) (vs' := [some (.ref b), some (.ref x), some (.ref m), some (.ref o), some (.int i), some (.int o2.1), none, none]) (st' := [.int (i + 1), .ref b, .ref m]) rfl ?_
  refine s_sld hf (dk okd_law_54 2 rfl) (fun v4 => ?_)
  refine s_callV (b := m) (As := [.int v4]) (rest := []) X E mv_L_374 (c_X12_withdraw o2.2.1 m v4) rfl (ta1 tm_) rfl (by decide) tm_ rfl rfl (Nat.le_of_ble_eq_true rfl) (Nat.le_of_ble_eq_true rfl) (Nat.le_of_ble_eq_true rfl) (dk okd_law_54 3 rfl) (st' := fun o5 => [.int o5.1]) (fun _ => rfl) (fun o5 => ?_)
  refine s_run X ok_law_54 12 2 (pc' := 3602) (vs' := [some (.ref b), some (.ref x), some (.ref m), some (.ref o), some (.int i), some (.int o2.1), some (.int o5.1), none]) (st' := [.ref m]) rfl ?_
  refine s_callV (b := m) (As := []) (rest := []) X E mv_L_214 (c_X12_thrown o5.2 m) rfl (ta1 tm_) rfl (by decide) tm_ rfl rfl (Nat.le_of_ble_eq_true rfl) (Nat.le_of_ble_eq_true rfl) (Nat.le_of_ble_eq_true rfl) (dk okd_law_54 4 rfl) (st' := fun v6 => [.int v6]) (fun _ => rfl) (fun v6 => ?_)
  refine s_run X ok_law_54 14 1 (pc' := 3607) (vs' := [some (.ref b), some (.ref x), some (.ref m), some (.ref o), some (.int i), some (.int o2.1), some (.int o5.1), none]) (st' := [.int o2.1, .int v6]) rfl ?_
  refine s_icmp_eq (tgt := 3612) X (dk okd_law_54 5 rfl) (by decide) ?_ ?_
  · refine s_run X ok_law_54 16 1 (pc' := 3614) (vs' := [some (.ref b), some (.ref x), some (.ref m), some (.ref o), some (.int i), some (.int o2.1), some (.int o5.1), none]) (st' := [.int o2.1]) rfl ?_
    refine s_jn (κ := Option (Unit)) (fun k7 => Jd (Cn (c + o2.2.2)) 8 Q o5.2 3636 [some (.ref b), some (.ref x), some (.ref m), some (.ref o), some (.int i), none, none, none] [] k7) ?_ (fun k7 h8 => ?_)
    · refine s_run X ok_law_54 25 1 (pc' := 4006) (vs' := [some (.ref b), some (.ref x), some (.ref m), some (.ref o), some (.int i), none, none, none]) (st' := []) rfl ?_
      exact s_less [true, true, true, true, true, false, false, false] rfl (hk o5.2 ((c + o2.2.2)) hb3)
    · refine s_if_ne (tgt := 3636) X (dk okd_law_54 7 rfl) (by decide) ?_ ?_
      · exact s_less [true, true, true, true, true, false, false, false] rfl (h8)
      · refine s_run X ok_law_54 17 2 (pc' := 3619) (vs' := [some (.ref b), some (.ref x), some (.ref m), some (.ref o), some (.int i), some (.int o2.1), some (.int o5.1), none]) (st' := [.int 0, .ref o]) rfl ?_
        refine s_lald X to_ (dk okd_law_54 8 rfl) (fun v9 => ?_)
        refine s_run X ok_law_54 19 1 (pc' := 3622) (vs' := [some (.ref b), some (.ref x), some (.ref m), some (.ref o), some (.int i), some (.int o2.1), some (.int o5.1), none]) (st' := [.int o5.1, .long v9]) rfl ?_
        refine s_jn (κ := Int64 → Option (Unit)) (fun k11 => ∀ (x10 : Int64), Jd (Cn (c + o2.2.2)) 8 Q o5.2 3630 [some (.ref b), some (.ref x), some (.ref m), some (.ref o), some (.int i), none, none, none] [.long x10, .long v9] (k11 x10)) (fun x10 => ?_) (fun k11 h12 => ?_)
        · refine s_run X ok_law_54 23 1 (pc' := 3631) (vs' := [some (.ref b), some (.ref x), some (.ref m), some (.ref o), some (.int i), none, none, none]) (st' := [.int (lg_cmp v9 x10)]) rfl ?_
          refine s_lif_eq (tgt := 3636) X (dk okd_law_54 10 rfl) (by decide) ?_ ?_
          · exact h8
          · refine s_run X ok_law_54 24 1 (pc' := 3635) (vs' := [some (.ref b), some (.ref x), some (.ref m), some (.ref o), some (.int i), none, none, none]) (st' := [.int 0]) rfl ?_
            exact s_none
        · refine s_if_eq (tgt := 3629) X (dk okd_law_54 9 rfl) (by decide) ?_ ?_
          · refine s_run X ok_law_54 22 1 (pc' := 3630) (vs' := [some (.ref b), some (.ref x), some (.ref m), some (.ref o), some (.int i), some (.int o2.1), some (.int o5.1), none]) (st' := [.long 0, .long v9]) rfl ?_
            exact s_less [true, true, true, true, true, false, false, false] rfl (h12 0)
          · refine s_run X ok_law_54 20 2 (pc' := 3630) (vs' := [some (.ref b), some (.ref x), some (.ref m), some (.ref o), some (.int i), some (.int o2.1), some (.int o5.1), none]) (st' := [.long 1, .long v9]) rfl ?_
            exact s_less [true, true, true, true, true, false, false, false] rfl (h12 1)
  · refine s_run X ok_law_54 15 1 (pc' := 3611) (vs' := [some (.ref b), some (.ref x), some (.ref m), some (.ref o), some (.int i), some (.int o2.1), some (.int o5.1), none]) (st' := [.int 0]) rfl ?_
    exact s_none
def tab_law_55 : List En := [(3639, 8, 1, 0), (3640, 8, 0, 0), (3641, 5, 4, 0), (3643, 0, 0, 1), (3644, 17, 0, 0), (3646, 8, 3, 0), (3650, 11, 5, 0), (3652, 8, 2, 0), (3653, 8, 0, 0), (3654, 5, 4, 0), (3656, 0, 0, 1), (3657, 17, 0, 0), (3662, 11, 6, 0), (3664, 8, 2, 0), (3668, 5, 5, 0), (3673, 0, 0, 0), (3675, 5, 5, 0), (3680, 8, 3, 0), (3681, 0, 0, 0), (3683, 5, 6, 0), (3685, 31, 0, 0), (3686, 40, 0, 0), (3690, 0, 0, 0), (3692, 41, 4006, 0)]
theorem ok_law_55 : tab_law_55.all (okE code) = true := by decide +kernel
def ed_law_55 : List (Nat × Instr × Nat) := [(3645, .iaload, 1), (3647, .invokestatic 375, 3), (3658, .iaload, 1), (3659, .invokevirtual 377, 3), (3665, .invokevirtual 214, 3), (3670, .if_icmp .eq 5, 3), (3674, .ireturn, 1), (3677, .ifCond .ne 15, 3), (3682, .laload, 1), (3687, .ifCond .eq 5, 3), (3691, .ireturn, 1)]
theorem okd_law_55 : ed_law_55.all (okD code) = true := by decide +kernel
def f_law_55 (Ls : Nat) (xs : Nat → Int32) (S : St) (x m o : Nat) (i : Int32) (c : Nat) (kont : St → Nat → Option Unit) : Option Unit := sx Ls xs (i + 1) fun (v1 : Int32) => cl (f_L_transferState S x v1 o) fun (o2 : Int32 × St × Nat) => bud (c + o2.2.2) <| sx Ls xs (i + 1) fun (v4 : Int32) => cl (f_X12_transferState o2.2.1 m v4) fun (o5 : Int32 × St) => cl (f_X12_thrown o5.2 m) fun (v6 : Int32) => if v6 = o2.1 then (jn (κ := Option (Unit)) (kont o5.2 ((c + o2.2.2))) fun k7 => if o2.1 = 0 then (ldJ o5.2 o 0 fun (v9 : Int64) => if v9 = (Int32.toInt64 o5.1) then (k7) else (none)) else (k7)) else (none)
set_option maxHeartbeats 4000000 in
set_option maxRecDepth 100000 in
theorem c_law_55 {Cn : Nat → CT} {b Ls : Nat} {xs : Nat → Int32} {Q : Unit → State → Prop} {x m o : Nat} {i : Int32} (hf : Fam Cn b Ls xs) (tx0 : tT (Cn 0) x 10) (tm0 : tT (Cn 0) m 11) (to0 : tT (Cn 0) o 14) (S : St) (c : Nat) (hc : c ≤ 512) (kont : St → Nat → Option Unit) (hk : ∀ (S : St) (c : Nat), c ≤ 512 → Jd (Cn c) 8 Q S 4006 [some (.ref b), some (.ref x), some (.ref m), some (.ref o), some (.int i), none, none, none] [] (kont S c)) : Jd (Cn c) 8 Q S 3639 [some (.ref b), some (.ref x), some (.ref m), some (.ref o), some (.int i), none, none, none] [] (f_law_55 Ls xs S x m o i c kont) := by
  have X := hf.X hc
  have E := hf.E c
  have tx_ := hf.T c tx0
  have tm_ := hf.T c tm0
  have to_ := hf.T c to0
  unfold f_law_55
  refine s_run X ok_law_55 0 5 (pc' := 3645) (vs' := [some (.ref b), some (.ref x), some (.ref m), some (.ref o), some (.int i), none, none, none]) (st' := [.int (i + 1), .ref b, .ref x]) rfl ?_
  refine s_sld hf (dk okd_law_55 0 rfl) (fun v1 => ?_)
  refine s_run X ok_law_55 5 1 (pc' := 3647) (vs' := [some (.ref b), some (.ref x), some (.ref m), some (.ref o), some (.int i), none, none, none]) (st' := [.ref o, .int v1, .ref x]) rfl ?_
  refine s_callH (c0 := c) (As := [.ref x, .int v1, .ref o]) (rest := []) hf mh_L_375 (c_L_transferState S x v1 o) (ta2 tx_ to_) rfl rfl (Nat.le_of_ble_eq_true rfl) (Nat.le_of_ble_eq_true rfl) (Nat.le_of_ble_eq_true rfl) (dk okd_law_55 1 rfl) (st' := fun o2 => [.int o2.1]) (fun _ => rfl) (fun o2 hb3 => ?_)
  have X := hf.X hb3
  have E := hf.E (c + o2.2.2)
  have tx_ := hf.T (c + o2.2.2) tx_
  have tm_ := hf.T (c + o2.2.2) tm_
  have to_ := hf.T (c + o2.2.2) to_
  refine s_run X ok_law_55 6 6 (pc' := 3658) (vs' := [some (.ref b), some (.ref x), some (.ref m), some (.ref o), some (.int i), some (.int o2.1), none, none]) (st' := [.int (i + 1), .ref b, .ref m]) rfl ?_
  refine s_sld hf (dk okd_law_55 2 rfl) (fun v4 => ?_)
  refine s_callV (b := m) (As := [.int v4]) (rest := []) X E mv_L_377 (c_X12_transferState o2.2.1 m v4) rfl (ta1 tm_) rfl (by decide) tm_ rfl rfl (Nat.le_of_ble_eq_true rfl) (Nat.le_of_ble_eq_true rfl) (Nat.le_of_ble_eq_true rfl) (dk okd_law_55 3 rfl) (st' := fun o5 => [.int o5.1]) (fun _ => rfl) (fun o5 => ?_)
  refine s_run X ok_law_55 12 2 (pc' := 3665) (vs' := [some (.ref b), some (.ref x), some (.ref m), some (.ref o), some (.int i), some (.int o2.1), some (.int o5.1), none]) (st' := [.ref m]) rfl ?_
  refine s_callV (b := m) (As := []) (rest := []) X E mv_L_214 (c_X12_thrown o5.2 m) rfl (ta1 tm_) rfl (by decide) tm_ rfl rfl (Nat.le_of_ble_eq_true rfl) (Nat.le_of_ble_eq_true rfl) (Nat.le_of_ble_eq_true rfl) (dk okd_law_55 4 rfl) (st' := fun v6 => [.int v6]) (fun _ => rfl) (fun v6 => ?_)
  refine s_run X ok_law_55 14 1 (pc' := 3670) (vs' := [some (.ref b), some (.ref x), some (.ref m), some (.ref o), some (.int i), some (.int o2.1), some (.int o5.1), none]) (st' := [.int o2.1, .int v6]) rfl ?_
  refine s_icmp_eq (tgt := 3675) X (dk okd_law_55 5 rfl) (by decide) ?_ ?_
  · refine s_run X ok_law_55 16 1 (pc' := 3677) (vs' := [some (.ref b), some (.ref x), some (.ref m), some (.ref o), some (.int i), some (.int o2.1), some (.int o5.1), none]) (st' := [.int o2.1]) rfl ?_
    refine s_jn (κ := Option (Unit)) (fun k7 => Jd (Cn (c + o2.2.2)) 8 Q o5.2 3692 [some (.ref b), some (.ref x), some (.ref m), some (.ref o), some (.int i), none, none, none] [] k7) ?_ (fun k7 h8 => ?_)
    · refine s_run X ok_law_55 23 1 (pc' := 4006) (vs' := [some (.ref b), some (.ref x), some (.ref m), some (.ref o), some (.int i), none, none, none]) (st' := []) rfl ?_
      exact s_less [true, true, true, true, true, false, false, false] rfl (hk o5.2 ((c + o2.2.2)) hb3)
    · refine s_if_ne (tgt := 3692) X (dk okd_law_55 7 rfl) (by decide) ?_ ?_
      · exact s_less [true, true, true, true, true, false, false, false] rfl (h8)
      · refine s_run X ok_law_55 17 2 (pc' := 3682) (vs' := [some (.ref b), some (.ref x), some (.ref m), some (.ref o), some (.int i), some (.int o2.1), some (.int o5.1), none]) (st' := [.int 0, .ref o]) rfl ?_
        refine s_lald X to_ (dk okd_law_55 8 rfl) (fun v9 => ?_)
        refine s_run X ok_law_55 19 3 (pc' := 3687) (vs' := [some (.ref b), some (.ref x), some (.ref m), some (.ref o), some (.int i), some (.int o2.1), some (.int o5.1), none]) (st' := [.int (lg_cmp v9 (Int32.toInt64 o5.1))]) rfl ?_
        refine s_lif_eq (tgt := 3692) X (dk okd_law_55 9 rfl) (by decide) ?_ ?_
        · exact s_less [true, true, true, true, true, false, false, false] rfl (h8)
        · refine s_run X ok_law_55 22 1 (pc' := 3691) (vs' := [some (.ref b), some (.ref x), some (.ref m), some (.ref o), some (.int i), some (.int o2.1), some (.int o5.1), none]) (st' := [.int 0]) rfl ?_
          exact s_none
  · refine s_run X ok_law_55 15 1 (pc' := 3674) (vs' := [some (.ref b), some (.ref x), some (.ref m), some (.ref o), some (.int i), some (.int o2.1), some (.int o5.1), none]) (st' := [.int 0]) rfl ?_
    exact s_none
def tab_law_56 : List En := [(3695, 8, 1, 0), (3696, 8, 0, 0), (3697, 5, 4, 0), (3699, 0, 0, 1), (3700, 17, 0, 0), (3702, 8, 3, 0), (3706, 11, 5, 0), (3708, 8, 2, 0), (3709, 8, 0, 0), (3710, 5, 4, 0), (3712, 0, 0, 1), (3713, 17, 0, 0), (3718, 11, 6, 0), (3720, 8, 2, 0), (3724, 5, 5, 0), (3729, 0, 0, 0), (3731, 5, 5, 0), (3736, 8, 3, 0), (3737, 0, 0, 0), (3739, 5, 6, 0), (3741, 31, 0, 0), (3742, 40, 0, 0), (3746, 0, 0, 0), (3748, 41, 4006, 0)]
theorem ok_law_56 : tab_law_56.all (okE code) = true := by decide +kernel
def ed_law_56 : List (Nat × Instr × Nat) := [(3701, .iaload, 1), (3703, .invokestatic 378, 3), (3714, .iaload, 1), (3715, .invokevirtual 380, 3), (3721, .invokevirtual 214, 3), (3726, .if_icmp .eq 5, 3), (3730, .ireturn, 1), (3733, .ifCond .ne 15, 3), (3738, .laload, 1), (3743, .ifCond .eq 5, 3), (3747, .ireturn, 1)]
theorem okd_law_56 : ed_law_56.all (okD code) = true := by decide +kernel
def f_law_56 (Ls : Nat) (xs : Nat → Int32) (S : St) (x m o : Nat) (i : Int32) (c : Nat) (kont : St → Nat → Option Unit) : Option Unit := sx Ls xs (i + 1) fun (v1 : Int32) => cl (f_L_transferWait S x v1 o) fun (o2 : Int32 × St × Nat) => bud (c + o2.2.2) <| sx Ls xs (i + 1) fun (v4 : Int32) => cl (f_X12_transferWait o2.2.1 m v4) fun (o5 : Int32 × St) => cl (f_X12_thrown o5.2 m) fun (v6 : Int32) => if v6 = o2.1 then (jn (κ := Option (Unit)) (kont o5.2 ((c + o2.2.2))) fun k7 => if o2.1 = 0 then (ldJ o5.2 o 0 fun (v9 : Int64) => if v9 = (Int32.toInt64 o5.1) then (k7) else (none)) else (k7)) else (none)
set_option maxHeartbeats 4000000 in
set_option maxRecDepth 100000 in
theorem c_law_56 {Cn : Nat → CT} {b Ls : Nat} {xs : Nat → Int32} {Q : Unit → State → Prop} {x m o : Nat} {i : Int32} (hf : Fam Cn b Ls xs) (tx0 : tT (Cn 0) x 10) (tm0 : tT (Cn 0) m 11) (to0 : tT (Cn 0) o 14) (S : St) (c : Nat) (hc : c ≤ 512) (kont : St → Nat → Option Unit) (hk : ∀ (S : St) (c : Nat), c ≤ 512 → Jd (Cn c) 8 Q S 4006 [some (.ref b), some (.ref x), some (.ref m), some (.ref o), some (.int i), none, none, none] [] (kont S c)) : Jd (Cn c) 8 Q S 3695 [some (.ref b), some (.ref x), some (.ref m), some (.ref o), some (.int i), none, none, none] [] (f_law_56 Ls xs S x m o i c kont) := by
  have X := hf.X hc
  have E := hf.E c
  have tx_ := hf.T c tx0
  have tm_ := hf.T c tm0
  have to_ := hf.T c to0
  unfold f_law_56
  refine s_run X ok_law_56 0 5 (pc' := 3701) (vs' := [some (.ref b), some (.ref x), some (.ref m), some (.ref o), some (.int i), none, none, none]) (st' := [.int (i + 1), .ref b, .ref x]) rfl ?_
  refine s_sld hf (dk okd_law_56 0 rfl) (fun v1 => ?_)
  refine s_run X ok_law_56 5 1 (pc' := 3703) (vs' := [some (.ref b), some (.ref x), some (.ref m), some (.ref o), some (.int i), none, none, none]) (st' := [.ref o, .int v1, .ref x]) rfl ?_
  refine s_callH (c0 := c) (As := [.ref x, .int v1, .ref o]) (rest := []) hf mh_L_378 (c_L_transferWait S x v1 o) (ta2 tx_ to_) rfl rfl (Nat.le_of_ble_eq_true rfl) (Nat.le_of_ble_eq_true rfl) (Nat.le_of_ble_eq_true rfl) (dk okd_law_56 1 rfl) (st' := fun o2 => [.int o2.1]) (fun _ => rfl) (fun o2 hb3 => ?_)
  have X := hf.X hb3
  have E := hf.E (c + o2.2.2)
  have tx_ := hf.T (c + o2.2.2) tx_
  have tm_ := hf.T (c + o2.2.2) tm_
  have to_ := hf.T (c + o2.2.2) to_
  refine s_run X ok_law_56 6 6 (pc' := 3714) (vs' := [some (.ref b), some (.ref x), some (.ref m), some (.ref o), some (.int i), some (.int o2.1), none, none]) (st' := [.int (i + 1), .ref b, .ref m]) rfl ?_
  refine s_sld hf (dk okd_law_56 2 rfl) (fun v4 => ?_)
  refine s_callV (b := m) (As := [.int v4]) (rest := []) X E mv_L_380 (c_X12_transferWait o2.2.1 m v4) rfl (ta1 tm_) rfl (by decide) tm_ rfl rfl (Nat.le_of_ble_eq_true rfl) (Nat.le_of_ble_eq_true rfl) (Nat.le_of_ble_eq_true rfl) (dk okd_law_56 3 rfl) (st' := fun o5 => [.int o5.1]) (fun _ => rfl) (fun o5 => ?_)
  refine s_run X ok_law_56 12 2 (pc' := 3721) (vs' := [some (.ref b), some (.ref x), some (.ref m), some (.ref o), some (.int i), some (.int o2.1), some (.int o5.1), none]) (st' := [.ref m]) rfl ?_
  refine s_callV (b := m) (As := []) (rest := []) X E mv_L_214 (c_X12_thrown o5.2 m) rfl (ta1 tm_) rfl (by decide) tm_ rfl rfl (Nat.le_of_ble_eq_true rfl) (Nat.le_of_ble_eq_true rfl) (Nat.le_of_ble_eq_true rfl) (dk okd_law_56 4 rfl) (st' := fun v6 => [.int v6]) (fun _ => rfl) (fun v6 => ?_)
  refine s_run X ok_law_56 14 1 (pc' := 3726) (vs' := [some (.ref b), some (.ref x), some (.ref m), some (.ref o), some (.int i), some (.int o2.1), some (.int o5.1), none]) (st' := [.int o2.1, .int v6]) rfl ?_
  refine s_icmp_eq (tgt := 3731) X (dk okd_law_56 5 rfl) (by decide) ?_ ?_
  · refine s_run X ok_law_56 16 1 (pc' := 3733) (vs' := [some (.ref b), some (.ref x), some (.ref m), some (.ref o), some (.int i), some (.int o2.1), some (.int o5.1), none]) (st' := [.int o2.1]) rfl ?_
    refine s_jn (κ := Option (Unit)) (fun k7 => Jd (Cn (c + o2.2.2)) 8 Q o5.2 3748 [some (.ref b), some (.ref x), some (.ref m), some (.ref o), some (.int i), none, none, none] [] k7) ?_ (fun k7 h8 => ?_)
    · refine s_run X ok_law_56 23 1 (pc' := 4006) (vs' := [some (.ref b), some (.ref x), some (.ref m), some (.ref o), some (.int i), none, none, none]) (st' := []) rfl ?_
      exact s_less [true, true, true, true, true, false, false, false] rfl (hk o5.2 ((c + o2.2.2)) hb3)
    · refine s_if_ne (tgt := 3748) X (dk okd_law_56 7 rfl) (by decide) ?_ ?_
      · exact s_less [true, true, true, true, true, false, false, false] rfl (h8)
      · refine s_run X ok_law_56 17 2 (pc' := 3738) (vs' := [some (.ref b), some (.ref x), some (.ref m), some (.ref o), some (.int i), some (.int o2.1), some (.int o5.1), none]) (st' := [.int 0, .ref o]) rfl ?_
        refine s_lald X to_ (dk okd_law_56 8 rfl) (fun v9 => ?_)
        refine s_run X ok_law_56 19 3 (pc' := 3743) (vs' := [some (.ref b), some (.ref x), some (.ref m), some (.ref o), some (.int i), some (.int o2.1), some (.int o5.1), none]) (st' := [.int (lg_cmp v9 (Int32.toInt64 o5.1))]) rfl ?_
        refine s_lif_eq (tgt := 3748) X (dk okd_law_56 9 rfl) (by decide) ?_ ?_
        · exact s_less [true, true, true, true, true, false, false, false] rfl (h8)
        · refine s_run X ok_law_56 22 1 (pc' := 3747) (vs' := [some (.ref b), some (.ref x), some (.ref m), some (.ref o), some (.int i), some (.int o2.1), some (.int o5.1), none]) (st' := [.int 0]) rfl ?_
          exact s_none
  · refine s_run X ok_law_56 15 1 (pc' := 3730) (vs' := [some (.ref b), some (.ref x), some (.ref m), some (.ref o), some (.int i), some (.int o2.1), some (.int o5.1), none]) (st' := [.int 0]) rfl ?_
    exact s_none
def tab_law_57 : List En := [(3751, 8, 1, 0), (3752, 8, 0, 0), (3753, 5, 4, 0), (3755, 0, 0, 1), (3756, 17, 0, 0), (3758, 8, 3, 0), (3762, 11, 5, 0), (3764, 8, 2, 0), (3765, 8, 0, 0), (3766, 5, 4, 0), (3768, 0, 0, 1), (3769, 17, 0, 0), (3774, 11, 6, 0), (3776, 8, 2, 0), (3780, 5, 5, 0), (3785, 0, 0, 0), (3787, 5, 5, 0), (3792, 8, 3, 0), (3793, 0, 0, 0), (3795, 5, 6, 0), (3797, 31, 0, 0), (3798, 40, 0, 0), (3802, 0, 0, 0), (3804, 41, 4006, 0)]
theorem ok_law_57 : tab_law_57.all (okE code) = true := by decide +kernel
def ed_law_57 : List (Nat × Instr × Nat) := [(3757, .iaload, 1), (3759, .invokestatic 381, 3), (3770, .iaload, 1), (3771, .invokevirtual 383, 3), (3777, .invokevirtual 214, 3), (3782, .if_icmp .eq 5, 3), (3786, .ireturn, 1), (3789, .ifCond .ne 15, 3), (3794, .laload, 1), (3799, .ifCond .eq 5, 3), (3803, .ireturn, 1)]
theorem okd_law_57 : ed_law_57.all (okD code) = true := by decide +kernel
def f_law_57 (Ls : Nat) (xs : Nat → Int32) (S : St) (x m o : Nat) (i : Int32) (c : Nat) (kont : St → Nat → Option Unit) : Option Unit := sx Ls xs (i + 1) fun (v1 : Int32) => cl (f_L_generation S x v1 o) fun (o2 : Int32 × St × Nat) => bud (c + o2.2.2) <| sx Ls xs (i + 1) fun (v4 : Int32) => cl (f_X12_generation o2.2.1 m v4) fun (o5 : Int32 × St) => cl (f_X12_thrown o5.2 m) fun (v6 : Int32) => if v6 = o2.1 then (jn (κ := Option (Unit)) (kont o5.2 ((c + o2.2.2))) fun k7 => if o2.1 = 0 then (ldJ o5.2 o 0 fun (v9 : Int64) => if v9 = (Int32.toInt64 o5.1) then (k7) else (none)) else (k7)) else (none)
set_option maxHeartbeats 4000000 in
set_option maxRecDepth 100000 in
theorem c_law_57 {Cn : Nat → CT} {b Ls : Nat} {xs : Nat → Int32} {Q : Unit → State → Prop} {x m o : Nat} {i : Int32} (hf : Fam Cn b Ls xs) (tx0 : tT (Cn 0) x 10) (tm0 : tT (Cn 0) m 11) (to0 : tT (Cn 0) o 14) (S : St) (c : Nat) (hc : c ≤ 512) (kont : St → Nat → Option Unit) (hk : ∀ (S : St) (c : Nat), c ≤ 512 → Jd (Cn c) 8 Q S 4006 [some (.ref b), some (.ref x), some (.ref m), some (.ref o), some (.int i), none, none, none] [] (kont S c)) : Jd (Cn c) 8 Q S 3751 [some (.ref b), some (.ref x), some (.ref m), some (.ref o), some (.int i), none, none, none] [] (f_law_57 Ls xs S x m o i c kont) := by
  have X := hf.X hc
  have E := hf.E c
  have tx_ := hf.T c tx0
  have tm_ := hf.T c tm0
  have to_ := hf.T c to0
  unfold f_law_57
  refine s_run X ok_law_57 0 5 (pc' := 3757) (vs' := [some (.ref b), some (.ref x), some (.ref m), some (.ref o), some (.int i), none, none, none]) (st' := [.int (i + 1), .ref b, .ref x]) rfl ?_
  refine s_sld hf (dk okd_law_57 0 rfl) (fun v1 => ?_)
  refine s_run X ok_law_57 5 1 (pc' := 3759) (vs' := [some (.ref b), some (.ref x), some (.ref m), some (.ref o), some (.int i), none, none, none]) (st' := [.ref o, .int v1, .ref x]) rfl ?_
  refine s_callH (c0 := c) (As := [.ref x, .int v1, .ref o]) (rest := []) hf mh_L_381 (c_L_generation S x v1 o) (ta2 tx_ to_) rfl rfl (Nat.le_of_ble_eq_true rfl) (Nat.le_of_ble_eq_true rfl) (Nat.le_of_ble_eq_true rfl) (dk okd_law_57 1 rfl) (st' := fun o2 => [.int o2.1]) (fun _ => rfl) (fun o2 hb3 => ?_)
  have X := hf.X hb3
  have E := hf.E (c + o2.2.2)
  have tx_ := hf.T (c + o2.2.2) tx_
  have tm_ := hf.T (c + o2.2.2) tm_
  have to_ := hf.T (c + o2.2.2) to_
  refine s_run X ok_law_57 6 6 (pc' := 3770) (vs' := [some (.ref b), some (.ref x), some (.ref m), some (.ref o), some (.int i), some (.int o2.1), none, none]) (st' := [.int (i + 1), .ref b, .ref m]) rfl ?_
  refine s_sld hf (dk okd_law_57 2 rfl) (fun v4 => ?_)
  refine s_callV (b := m) (As := [.int v4]) (rest := []) X E mv_L_383 (c_X12_generation o2.2.1 m v4) rfl (ta1 tm_) rfl (by decide) tm_ rfl rfl (Nat.le_of_ble_eq_true rfl) (Nat.le_of_ble_eq_true rfl) (Nat.le_of_ble_eq_true rfl) (dk okd_law_57 3 rfl) (st' := fun o5 => [.int o5.1]) (fun _ => rfl) (fun o5 => ?_)
  refine s_run X ok_law_57 12 2 (pc' := 3777) (vs' := [some (.ref b), some (.ref x), some (.ref m), some (.ref o), some (.int i), some (.int o2.1), some (.int o5.1), none]) (st' := [.ref m]) rfl ?_
  refine s_callV (b := m) (As := []) (rest := []) X E mv_L_214 (c_X12_thrown o5.2 m) rfl (ta1 tm_) rfl (by decide) tm_ rfl rfl (Nat.le_of_ble_eq_true rfl) (Nat.le_of_ble_eq_true rfl) (Nat.le_of_ble_eq_true rfl) (dk okd_law_57 4 rfl) (st' := fun v6 => [.int v6]) (fun _ => rfl) (fun v6 => ?_)
  refine s_run X ok_law_57 14 1 (pc' := 3782) (vs' := [some (.ref b), some (.ref x), some (.ref m), some (.ref o), some (.int i), some (.int o2.1), some (.int o5.1), none]) (st' := [.int o2.1, .int v6]) rfl ?_
  refine s_icmp_eq (tgt := 3787) X (dk okd_law_57 5 rfl) (by decide) ?_ ?_
  · refine s_run X ok_law_57 16 1 (pc' := 3789) (vs' := [some (.ref b), some (.ref x), some (.ref m), some (.ref o), some (.int i), some (.int o2.1), some (.int o5.1), none]) (st' := [.int o2.1]) rfl ?_
    refine s_jn (κ := Option (Unit)) (fun k7 => Jd (Cn (c + o2.2.2)) 8 Q o5.2 3804 [some (.ref b), some (.ref x), some (.ref m), some (.ref o), some (.int i), none, none, none] [] k7) ?_ (fun k7 h8 => ?_)
    · refine s_run X ok_law_57 23 1 (pc' := 4006) (vs' := [some (.ref b), some (.ref x), some (.ref m), some (.ref o), some (.int i), none, none, none]) (st' := []) rfl ?_
      exact s_less [true, true, true, true, true, false, false, false] rfl (hk o5.2 ((c + o2.2.2)) hb3)
    · refine s_if_ne (tgt := 3804) X (dk okd_law_57 7 rfl) (by decide) ?_ ?_
      · exact s_less [true, true, true, true, true, false, false, false] rfl (h8)
      · refine s_run X ok_law_57 17 2 (pc' := 3794) (vs' := [some (.ref b), some (.ref x), some (.ref m), some (.ref o), some (.int i), some (.int o2.1), some (.int o5.1), none]) (st' := [.int 0, .ref o]) rfl ?_
        refine s_lald X to_ (dk okd_law_57 8 rfl) (fun v9 => ?_)
        refine s_run X ok_law_57 19 3 (pc' := 3799) (vs' := [some (.ref b), some (.ref x), some (.ref m), some (.ref o), some (.int i), some (.int o2.1), some (.int o5.1), none]) (st' := [.int (lg_cmp v9 (Int32.toInt64 o5.1))]) rfl ?_
        refine s_lif_eq (tgt := 3804) X (dk okd_law_57 9 rfl) (by decide) ?_ ?_
        · exact s_less [true, true, true, true, true, false, false, false] rfl (h8)
        · refine s_run X ok_law_57 22 1 (pc' := 3803) (vs' := [some (.ref b), some (.ref x), some (.ref m), some (.ref o), some (.int i), some (.int o2.1), some (.int o5.1), none]) (st' := [.int 0]) rfl ?_
          exact s_none
  · refine s_run X ok_law_57 15 1 (pc' := 3786) (vs' := [some (.ref b), some (.ref x), some (.ref m), some (.ref o), some (.int i), some (.int o2.1), some (.int o5.1), none]) (st' := [.int 0]) rfl ?_
    exact s_none
def tab_law_58 : List En := [(3807, 8, 1, 0), (3808, 8, 0, 0), (3809, 5, 4, 0), (3811, 0, 0, 1), (3812, 17, 0, 0), (3814, 8, 3, 0), (3818, 11, 5, 0), (3820, 8, 2, 0), (3821, 8, 0, 0), (3822, 5, 4, 0), (3824, 0, 0, 1), (3825, 17, 0, 0), (3830, 11, 6, 0), (3832, 8, 2, 0), (3836, 5, 5, 0), (3841, 0, 0, 0), (3843, 5, 5, 0), (3848, 8, 3, 0), (3849, 0, 0, 0), (3851, 5, 6, 0), (3853, 31, 0, 0), (3854, 40, 0, 0), (3858, 0, 0, 0), (3860, 41, 4006, 0)]
theorem ok_law_58 : tab_law_58.all (okE code) = true := by decide +kernel
def ed_law_58 : List (Nat × Instr × Nat) := [(3813, .iaload, 1), (3815, .invokestatic 384, 3), (3826, .iaload, 1), (3827, .invokevirtual 386, 3), (3833, .invokevirtual 214, 3), (3838, .if_icmp .eq 5, 3), (3842, .ireturn, 1), (3845, .ifCond .ne 15, 3), (3850, .laload, 1), (3855, .ifCond .eq 5, 3), (3859, .ireturn, 1)]
theorem okd_law_58 : ed_law_58.all (okD code) = true := by decide +kernel
def f_law_58 (Ls : Nat) (xs : Nat → Int32) (S : St) (x m o : Nat) (i : Int32) (c : Nat) (kont : St → Nat → Option Unit) : Option Unit := sx Ls xs (i + 1) fun (v1 : Int32) => cl (f_L_worth S x v1 o) fun (o2 : Int32 × St × Nat) => bud (c + o2.2.2) <| sx Ls xs (i + 1) fun (v4 : Int32) => cl (f_X12_worth o2.2.1 m v4) fun (o5 : Int32 × St) => cl (f_X12_thrown o5.2 m) fun (v6 : Int32) => if v6 = o2.1 then (jn (κ := Option (Unit)) (kont o5.2 ((c + o2.2.2))) fun k7 => if o2.1 = 0 then (ldJ o5.2 o 0 fun (v9 : Int64) => if v9 = (Int32.toInt64 o5.1) then (k7) else (none)) else (k7)) else (none)
set_option maxHeartbeats 4000000 in
set_option maxRecDepth 100000 in
theorem c_law_58 {Cn : Nat → CT} {b Ls : Nat} {xs : Nat → Int32} {Q : Unit → State → Prop} {x m o : Nat} {i : Int32} (hf : Fam Cn b Ls xs) (tx0 : tT (Cn 0) x 10) (tm0 : tT (Cn 0) m 11) (to0 : tT (Cn 0) o 14) (S : St) (c : Nat) (hc : c ≤ 512) (kont : St → Nat → Option Unit) (hk : ∀ (S : St) (c : Nat), c ≤ 512 → Jd (Cn c) 8 Q S 4006 [some (.ref b), some (.ref x), some (.ref m), some (.ref o), some (.int i), none, none, none] [] (kont S c)) : Jd (Cn c) 8 Q S 3807 [some (.ref b), some (.ref x), some (.ref m), some (.ref o), some (.int i), none, none, none] [] (f_law_58 Ls xs S x m o i c kont) := by
  have X := hf.X hc
  have E := hf.E c
  have tx_ := hf.T c tx0
  have tm_ := hf.T c tm0
  have to_ := hf.T c to0
  unfold f_law_58
  refine s_run X ok_law_58 0 5 (pc' := 3813) (vs' := [some (.ref b), some (.ref x), some (.ref m), some (.ref o), some (.int i), none, none, none]) (st' := [.int (i + 1), .ref b, .ref x]) rfl ?_
  refine s_sld hf (dk okd_law_58 0 rfl) (fun v1 => ?_)
  refine s_run X ok_law_58 5 1 (pc' := 3815) (vs' := [some (.ref b), some (.ref x), some (.ref m), some (.ref o), some (.int i), none, none, none]) (st' := [.ref o, .int v1, .ref x]) rfl ?_
  refine s_callH (c0 := c) (As := [.ref x, .int v1, .ref o]) (rest := []) hf mh_L_384 (c_L_worth S x v1 o) (ta2 tx_ to_) rfl rfl (Nat.le_of_ble_eq_true rfl) (Nat.le_of_ble_eq_true rfl) (Nat.le_of_ble_eq_true rfl) (dk okd_law_58 1 rfl) (st' := fun o2 => [.int o2.1]) (fun _ => rfl) (fun o2 hb3 => ?_)
  have X := hf.X hb3
  have E := hf.E (c + o2.2.2)
  have tx_ := hf.T (c + o2.2.2) tx_
  have tm_ := hf.T (c + o2.2.2) tm_
  have to_ := hf.T (c + o2.2.2) to_
  refine s_run X ok_law_58 6 6 (pc' := 3826) (vs' := [some (.ref b), some (.ref x), some (.ref m), some (.ref o), some (.int i), some (.int o2.1), none, none]) (st' := [.int (i + 1), .ref b, .ref m]) rfl ?_
  refine s_sld hf (dk okd_law_58 2 rfl) (fun v4 => ?_)
  refine s_callV (b := m) (As := [.int v4]) (rest := []) X E mv_L_386 (c_X12_worth o2.2.1 m v4) rfl (ta1 tm_) rfl (by decide) tm_ rfl rfl (Nat.le_of_ble_eq_true rfl) (Nat.le_of_ble_eq_true rfl) (Nat.le_of_ble_eq_true rfl) (dk okd_law_58 3 rfl) (st' := fun o5 => [.int o5.1]) (fun _ => rfl) (fun o5 => ?_)
  refine s_run X ok_law_58 12 2 (pc' := 3833) (vs' := [some (.ref b), some (.ref x), some (.ref m), some (.ref o), some (.int i), some (.int o2.1), some (.int o5.1), none]) (st' := [.ref m]) rfl ?_
  refine s_callV (b := m) (As := []) (rest := []) X E mv_L_214 (c_X12_thrown o5.2 m) rfl (ta1 tm_) rfl (by decide) tm_ rfl rfl (Nat.le_of_ble_eq_true rfl) (Nat.le_of_ble_eq_true rfl) (Nat.le_of_ble_eq_true rfl) (dk okd_law_58 4 rfl) (st' := fun v6 => [.int v6]) (fun _ => rfl) (fun v6 => ?_)
  refine s_run X ok_law_58 14 1 (pc' := 3838) (vs' := [some (.ref b), some (.ref x), some (.ref m), some (.ref o), some (.int i), some (.int o2.1), some (.int o5.1), none]) (st' := [.int o2.1, .int v6]) rfl ?_
  refine s_icmp_eq (tgt := 3843) X (dk okd_law_58 5 rfl) (by decide) ?_ ?_
  · refine s_run X ok_law_58 16 1 (pc' := 3845) (vs' := [some (.ref b), some (.ref x), some (.ref m), some (.ref o), some (.int i), some (.int o2.1), some (.int o5.1), none]) (st' := [.int o2.1]) rfl ?_
    refine s_jn (κ := Option (Unit)) (fun k7 => Jd (Cn (c + o2.2.2)) 8 Q o5.2 3860 [some (.ref b), some (.ref x), some (.ref m), some (.ref o), some (.int i), none, none, none] [] k7) ?_ (fun k7 h8 => ?_)
    · refine s_run X ok_law_58 23 1 (pc' := 4006) (vs' := [some (.ref b), some (.ref x), some (.ref m), some (.ref o), some (.int i), none, none, none]) (st' := []) rfl ?_
      exact s_less [true, true, true, true, true, false, false, false] rfl (hk o5.2 ((c + o2.2.2)) hb3)
    · refine s_if_ne (tgt := 3860) X (dk okd_law_58 7 rfl) (by decide) ?_ ?_
      · exact s_less [true, true, true, true, true, false, false, false] rfl (h8)
      · refine s_run X ok_law_58 17 2 (pc' := 3850) (vs' := [some (.ref b), some (.ref x), some (.ref m), some (.ref o), some (.int i), some (.int o2.1), some (.int o5.1), none]) (st' := [.int 0, .ref o]) rfl ?_
        refine s_lald X to_ (dk okd_law_58 8 rfl) (fun v9 => ?_)
        refine s_run X ok_law_58 19 3 (pc' := 3855) (vs' := [some (.ref b), some (.ref x), some (.ref m), some (.ref o), some (.int i), some (.int o2.1), some (.int o5.1), none]) (st' := [.int (lg_cmp v9 (Int32.toInt64 o5.1))]) rfl ?_
        refine s_lif_eq (tgt := 3860) X (dk okd_law_58 9 rfl) (by decide) ?_ ?_
        · exact s_less [true, true, true, true, true, false, false, false] rfl (h8)
        · refine s_run X ok_law_58 22 1 (pc' := 3859) (vs' := [some (.ref b), some (.ref x), some (.ref m), some (.ref o), some (.int i), some (.int o2.1), some (.int o5.1), none]) (st' := [.int 0]) rfl ?_
          exact s_none
  · refine s_run X ok_law_58 15 1 (pc' := 3842) (vs' := [some (.ref b), some (.ref x), some (.ref m), some (.ref o), some (.int i), some (.int o2.1), some (.int o5.1), none]) (st' := [.int 0]) rfl ?_
    exact s_none
def tab_law_59 : List En := [(3863, 8, 1, 0), (3864, 8, 0, 0), (3865, 5, 4, 0), (3867, 0, 0, 1), (3868, 17, 0, 0), (3873, 8, 2, 0), (3874, 8, 0, 0), (3875, 5, 4, 0), (3877, 0, 0, 1), (3878, 17, 0, 0), (3886, 0, 0, 0)]
theorem ok_law_59 : tab_law_59.all (okE code) = true := by decide +kernel
def ed_law_59 : List (Nat × Instr × Nat) := [(3869, .iaload, 1), (3870, .invokevirtual 387, 3), (3879, .iaload, 1), (3880, .invokevirtual 390, 3), (3883, .if_icmp .eq 123, 3), (3887, .ireturn, 1)]
theorem okd_law_59 : ed_law_59.all (okD code) = true := by decide +kernel
def f_law_59 (Ls : Nat) (xs : Nat → Int32) (S : St) (x m o : Nat) (i : Int32) (c : Nat) (kont : St → Nat → Option Unit) : Option Unit := sx Ls xs (i + 1) fun (v1 : Int32) => cl (f_X11_saveSnapshot S x v1) fun (o2 : Int32 × St) => sx Ls xs (i + 1) fun (v3 : Int32) => cl (f_X12_saveSnapshot o2.2 m v3) fun (o4 : Int32 × St) => if o2.1 = o4.1 then (kont o4.2 (c)) else (none)
set_option maxHeartbeats 4000000 in
set_option maxRecDepth 100000 in
theorem c_law_59 {Cn : Nat → CT} {b Ls : Nat} {xs : Nat → Int32} {Q : Unit → State → Prop} {x m o : Nat} {i : Int32} (hf : Fam Cn b Ls xs) (tx0 : tT (Cn 0) x 10) (tm0 : tT (Cn 0) m 11) (to0 : tT (Cn 0) o 14) (S : St) (c : Nat) (hc : c ≤ 512) (kont : St → Nat → Option Unit) (hk : ∀ (S : St) (c : Nat), c ≤ 512 → Jd (Cn c) 8 Q S 4006 [some (.ref b), some (.ref x), some (.ref m), some (.ref o), some (.int i), none, none, none] [] (kont S c)) : Jd (Cn c) 8 Q S 3863 [some (.ref b), some (.ref x), some (.ref m), some (.ref o), some (.int i), none, none, none] [] (f_law_59 Ls xs S x m o i c kont) := by
  have X := hf.X hc
  have E := hf.E c
  have tx_ := hf.T c tx0
  have tm_ := hf.T c tm0
  have to_ := hf.T c to0
  unfold f_law_59
  refine s_run X ok_law_59 0 5 (pc' := 3869) (vs' := [some (.ref b), some (.ref x), some (.ref m), some (.ref o), some (.int i), none, none, none]) (st' := [.int (i + 1), .ref b, .ref x]) rfl ?_
  refine s_sld hf (dk okd_law_59 0 rfl) (fun v1 => ?_)
  refine s_callV (b := x) (As := [.int v1]) (rest := []) X E mv_L_387 (c_X11_saveSnapshot S x v1) rfl (ta1 tx_) rfl (by decide) tx_ rfl rfl (Nat.le_of_ble_eq_true rfl) (Nat.le_of_ble_eq_true rfl) (Nat.le_of_ble_eq_true rfl) (dk okd_law_59 1 rfl) (st' := fun o2 => [.int o2.1]) (fun _ => rfl) (fun o2 => ?_)
  refine s_run X ok_law_59 5 5 (pc' := 3879) (vs' := [some (.ref b), some (.ref x), some (.ref m), some (.ref o), some (.int i), none, none, none]) (st' := [.int (i + 1), .ref b, .ref m, .int o2.1]) rfl ?_
  refine s_sld hf (dk okd_law_59 2 rfl) (fun v3 => ?_)
  refine s_callV (b := m) (As := [.int v3]) (rest := [.int o2.1]) X E mv_L_390 (c_X12_saveSnapshot o2.2 m v3) rfl (ta1 tm_) rfl (by decide) tm_ rfl rfl (Nat.le_of_ble_eq_true rfl) (Nat.le_of_ble_eq_true rfl) (Nat.le_of_ble_eq_true rfl) (dk okd_law_59 3 rfl) (st' := fun o4 => [.int o4.1, .int o2.1]) (fun _ => rfl) (fun o4 => ?_)
  refine s_icmp_eq (tgt := 4006) X (dk okd_law_59 4 rfl) (by decide) ?_ ?_
  · exact s_less [true, true, true, true, true, false, false, false] rfl (hk o4.2 (c) hc)
  · refine s_run X ok_law_59 10 1 (pc' := 3887) (vs' := [some (.ref b), some (.ref x), some (.ref m), some (.ref o), some (.int i), none, none, none]) (st' := [.int 0]) rfl ?_
    exact s_none
def tab_law_60 : List En := [(3888, 8, 1, 0), (3889, 8, 0, 0), (3890, 5, 4, 0), (3892, 0, 0, 1), (3893, 17, 0, 0), (3898, 8, 2, 0), (3899, 8, 0, 0), (3900, 5, 4, 0), (3902, 0, 0, 1), (3903, 17, 0, 0), (3911, 0, 0, 0)]
theorem ok_law_60 : tab_law_60.all (okE code) = true := by decide +kernel
def ed_law_60 : List (Nat × Instr × Nat) := [(3894, .iaload, 1), (3895, .invokevirtual 391, 3), (3904, .iaload, 1), (3905, .invokevirtual 394, 3), (3908, .if_icmp .eq 98, 3), (3912, .ireturn, 1)]
theorem okd_law_60 : ed_law_60.all (okD code) = true := by decide +kernel
def f_law_60 (Ls : Nat) (xs : Nat → Int32) (S : St) (x m o : Nat) (i : Int32) (c : Nat) (kont : St → Nat → Option Unit) : Option Unit := sx Ls xs (i + 1) fun (v1 : Int32) => cl (f_X11_restoreSnapshot S x v1) fun (o2 : Int32 × St) => sx Ls xs (i + 1) fun (v3 : Int32) => cl (f_X12_restoreSnapshot o2.2 m v3) fun (o4 : Int32 × St) => if o2.1 = o4.1 then (kont o4.2 (c)) else (none)
set_option maxHeartbeats 4000000 in
set_option maxRecDepth 100000 in
theorem c_law_60 {Cn : Nat → CT} {b Ls : Nat} {xs : Nat → Int32} {Q : Unit → State → Prop} {x m o : Nat} {i : Int32} (hf : Fam Cn b Ls xs) (tx0 : tT (Cn 0) x 10) (tm0 : tT (Cn 0) m 11) (to0 : tT (Cn 0) o 14) (S : St) (c : Nat) (hc : c ≤ 512) (kont : St → Nat → Option Unit) (hk : ∀ (S : St) (c : Nat), c ≤ 512 → Jd (Cn c) 8 Q S 4006 [some (.ref b), some (.ref x), some (.ref m), some (.ref o), some (.int i), none, none, none] [] (kont S c)) : Jd (Cn c) 8 Q S 3888 [some (.ref b), some (.ref x), some (.ref m), some (.ref o), some (.int i), none, none, none] [] (f_law_60 Ls xs S x m o i c kont) := by
  have X := hf.X hc
  have E := hf.E c
  have tx_ := hf.T c tx0
  have tm_ := hf.T c tm0
  have to_ := hf.T c to0
  unfold f_law_60
  refine s_run X ok_law_60 0 5 (pc' := 3894) (vs' := [some (.ref b), some (.ref x), some (.ref m), some (.ref o), some (.int i), none, none, none]) (st' := [.int (i + 1), .ref b, .ref x]) rfl ?_
  refine s_sld hf (dk okd_law_60 0 rfl) (fun v1 => ?_)
  refine s_callV (b := x) (As := [.int v1]) (rest := []) X E mv_L_391 (c_X11_restoreSnapshot S x v1) rfl (ta1 tx_) rfl (by decide) tx_ rfl rfl (Nat.le_of_ble_eq_true rfl) (Nat.le_of_ble_eq_true rfl) (Nat.le_of_ble_eq_true rfl) (dk okd_law_60 1 rfl) (st' := fun o2 => [.int o2.1]) (fun _ => rfl) (fun o2 => ?_)
  refine s_run X ok_law_60 5 5 (pc' := 3904) (vs' := [some (.ref b), some (.ref x), some (.ref m), some (.ref o), some (.int i), none, none, none]) (st' := [.int (i + 1), .ref b, .ref m, .int o2.1]) rfl ?_
  refine s_sld hf (dk okd_law_60 2 rfl) (fun v3 => ?_)
  refine s_callV (b := m) (As := [.int v3]) (rest := [.int o2.1]) X E mv_L_394 (c_X12_restoreSnapshot o2.2 m v3) rfl (ta1 tm_) rfl (by decide) tm_ rfl rfl (Nat.le_of_ble_eq_true rfl) (Nat.le_of_ble_eq_true rfl) (Nat.le_of_ble_eq_true rfl) (dk okd_law_60 3 rfl) (st' := fun o4 => [.int o4.1, .int o2.1]) (fun _ => rfl) (fun o4 => ?_)
  refine s_icmp_eq (tgt := 4006) X (dk okd_law_60 4 rfl) (by decide) ?_ ?_
  · exact s_less [true, true, true, true, true, false, false, false] rfl (hk o4.2 (c) hc)
  · refine s_run X ok_law_60 10 1 (pc' := 3912) (vs' := [some (.ref b), some (.ref x), some (.ref m), some (.ref o), some (.int i), none, none, none]) (st' := [.int 0]) rfl ?_
    exact s_none
def tab_law_61 : List En := [(3913, 8, 1, 0), (3914, 8, 0, 0), (3915, 5, 4, 0), (3917, 0, 0, 1), (3918, 17, 0, 0), (3920, 8, 0, 0), (3921, 5, 4, 0), (3923, 0, 0, 2), (3924, 17, 0, 0), (3926, 8, 3, 0), (3930, 11, 5, 0), (3932, 8, 2, 0), (3933, 8, 0, 0), (3934, 5, 4, 0), (3936, 0, 0, 1), (3937, 17, 0, 0), (3939, 8, 0, 0), (3940, 5, 4, 0), (3942, 0, 0, 2), (3943, 17, 0, 0), (3948, 11, 6, 0), (3950, 8, 2, 0), (3954, 5, 5, 0), (3959, 0, 0, 0), (3961, 5, 5, 0), (3966, 8, 3, 0), (3967, 0, 0, 0), (3969, 5, 6, 0), (3971, 31, 0, 0), (3972, 40, 0, 0), (3976, 0, 0, 0), (3978, 41, 4006, 0)]
theorem ok_law_61 : tab_law_61.all (okE code) = true := by decide +kernel
def ed_law_61 : List (Nat × Instr × Nat) := [(3919, .iaload, 1), (3925, .iaload, 1), (3927, .invokestatic 395, 3), (3938, .iaload, 1), (3944, .iaload, 1), (3945, .invokevirtual 397, 3), (3951, .invokevirtual 214, 3), (3956, .if_icmp .eq 5, 3), (3960, .ireturn, 1), (3963, .ifCond .ne 15, 3), (3968, .laload, 1), (3973, .ifCond .eq 5, 3), (3977, .ireturn, 1)]
theorem okd_law_61 : ed_law_61.all (okD code) = true := by decide +kernel
def f_law_61 (Ls : Nat) (xs : Nat → Int32) (S : St) (x m o : Nat) (i : Int32) (c : Nat) (kont : St → Nat → Option Unit) : Option Unit := sx Ls xs (i + 1) fun (v1 : Int32) => sx Ls xs (i + 2) fun (v2 : Int32) => cl (f_L_formatInvoice S x v1 v2 o) fun (o3 : Int32 × St × Nat) => bud (c + o3.2.2) <| sx Ls xs (i + 1) fun (v5 : Int32) => sx Ls xs (i + 2) fun (v6 : Int32) => cl (f_X12_formatInvoice o3.2.1 m v5 v6) fun (o7 : Int32 × St) => cl (f_X12_thrown o7.2 m) fun (v8 : Int32) => if v8 = o3.1 then (jn (κ := Option (Unit)) (kont o7.2 ((c + o3.2.2))) fun k9 => if o3.1 = 0 then (ldJ o7.2 o 0 fun (v11 : Int64) => if v11 = (Int32.toInt64 o7.1) then (k9) else (none)) else (k9)) else (none)
set_option maxHeartbeats 4000000 in
set_option maxRecDepth 100000 in
theorem c_law_61 {Cn : Nat → CT} {b Ls : Nat} {xs : Nat → Int32} {Q : Unit → State → Prop} {x m o : Nat} {i : Int32} (hf : Fam Cn b Ls xs) (tx0 : tT (Cn 0) x 10) (tm0 : tT (Cn 0) m 11) (to0 : tT (Cn 0) o 14) (S : St) (c : Nat) (hc : c ≤ 512) (kont : St → Nat → Option Unit) (hk : ∀ (S : St) (c : Nat), c ≤ 512 → Jd (Cn c) 8 Q S 4006 [some (.ref b), some (.ref x), some (.ref m), some (.ref o), some (.int i), none, none, none] [] (kont S c)) : Jd (Cn c) 8 Q S 3913 [some (.ref b), some (.ref x), some (.ref m), some (.ref o), some (.int i), none, none, none] [] (f_law_61 Ls xs S x m o i c kont) := by
  have X := hf.X hc
  have E := hf.E c
  have tx_ := hf.T c tx0
  have tm_ := hf.T c tm0
  have to_ := hf.T c to0
  unfold f_law_61
  refine s_run X ok_law_61 0 5 (pc' := 3919) (vs' := [some (.ref b), some (.ref x), some (.ref m), some (.ref o), some (.int i), none, none, none]) (st' := [.int (i + 1), .ref b, .ref x]) rfl ?_
  refine s_sld hf (dk okd_law_61 0 rfl) (fun v1 => ?_)
  refine s_run X ok_law_61 5 4 (pc' := 3925) (vs' := [some (.ref b), some (.ref x), some (.ref m), some (.ref o), some (.int i), none, none, none]) (st' := [.int (i + 2), .ref b, .int v1, .ref x]) rfl ?_
  refine s_sld hf (dk okd_law_61 1 rfl) (fun v2 => ?_)
  refine s_run X ok_law_61 9 1 (pc' := 3927) (vs' := [some (.ref b), some (.ref x), some (.ref m), some (.ref o), some (.int i), none, none, none]) (st' := [.ref o, .int v2, .int v1, .ref x]) rfl ?_
  refine s_callH (c0 := c) (As := [.ref x, .int v1, .int v2, .ref o]) (rest := []) hf mh_L_395 (c_L_formatInvoice S x v1 v2 o) (ta2 tx_ to_) rfl rfl (Nat.le_of_ble_eq_true rfl) (Nat.le_of_ble_eq_true rfl) (Nat.le_of_ble_eq_true rfl) (dk okd_law_61 2 rfl) (st' := fun o3 => [.int o3.1]) (fun _ => rfl) (fun o3 hb4 => ?_)
  have X := hf.X hb4
  have E := hf.E (c + o3.2.2)
  have tx_ := hf.T (c + o3.2.2) tx_
  have tm_ := hf.T (c + o3.2.2) tm_
  have to_ := hf.T (c + o3.2.2) to_
  refine s_run X ok_law_61 10 6 (pc' := 3938) (vs' := [some (.ref b), some (.ref x), some (.ref m), some (.ref o), some (.int i), some (.int o3.1), none, none]) (st' := [.int (i + 1), .ref b, .ref m]) rfl ?_
  refine s_sld hf (dk okd_law_61 3 rfl) (fun v5 => ?_)
  refine s_run X ok_law_61 16 4 (pc' := 3944) (vs' := [some (.ref b), some (.ref x), some (.ref m), some (.ref o), some (.int i), some (.int o3.1), none, none]) (st' := [.int (i + 2), .ref b, .int v5, .ref m]) rfl ?_
  refine s_sld hf (dk okd_law_61 4 rfl) (fun v6 => ?_)
  refine s_callV (b := m) (As := [.int v5, .int v6]) (rest := []) X E mv_L_397 (c_X12_formatInvoice o3.2.1 m v5 v6) rfl (ta1 tm_) rfl (by decide) tm_ rfl rfl (Nat.le_of_ble_eq_true rfl) (Nat.le_of_ble_eq_true rfl) (Nat.le_of_ble_eq_true rfl) (dk okd_law_61 5 rfl) (st' := fun o7 => [.int o7.1]) (fun _ => rfl) (fun o7 => ?_)
  refine s_run X ok_law_61 20 2 (pc' := 3951) (vs' := [some (.ref b), some (.ref x), some (.ref m), some (.ref o), some (.int i), some (.int o3.1), some (.int o7.1), none]) (st' := [.ref m]) rfl ?_
  refine s_callV (b := m) (As := []) (rest := []) X E mv_L_214 (c_X12_thrown o7.2 m) rfl (ta1 tm_) rfl (by decide) tm_ rfl rfl (Nat.le_of_ble_eq_true rfl) (Nat.le_of_ble_eq_true rfl) (Nat.le_of_ble_eq_true rfl) (dk okd_law_61 6 rfl) (st' := fun v8 => [.int v8]) (fun _ => rfl) (fun v8 => ?_)
  refine s_run X ok_law_61 22 1 (pc' := 3956) (vs' := [some (.ref b), some (.ref x), some (.ref m), some (.ref o), some (.int i), some (.int o3.1), some (.int o7.1), none]) (st' := [.int o3.1, .int v8]) rfl ?_
  refine s_icmp_eq (tgt := 3961) X (dk okd_law_61 7 rfl) (by decide) ?_ ?_
  · refine s_run X ok_law_61 24 1 (pc' := 3963) (vs' := [some (.ref b), some (.ref x), some (.ref m), some (.ref o), some (.int i), some (.int o3.1), some (.int o7.1), none]) (st' := [.int o3.1]) rfl ?_
    refine s_jn (κ := Option (Unit)) (fun k9 => Jd (Cn (c + o3.2.2)) 8 Q o7.2 3978 [some (.ref b), some (.ref x), some (.ref m), some (.ref o), some (.int i), none, none, none] [] k9) ?_ (fun k9 h10 => ?_)
    · refine s_run X ok_law_61 31 1 (pc' := 4006) (vs' := [some (.ref b), some (.ref x), some (.ref m), some (.ref o), some (.int i), none, none, none]) (st' := []) rfl ?_
      exact s_less [true, true, true, true, true, false, false, false] rfl (hk o7.2 ((c + o3.2.2)) hb4)
    · refine s_if_ne (tgt := 3978) X (dk okd_law_61 9 rfl) (by decide) ?_ ?_
      · exact s_less [true, true, true, true, true, false, false, false] rfl (h10)
      · refine s_run X ok_law_61 25 2 (pc' := 3968) (vs' := [some (.ref b), some (.ref x), some (.ref m), some (.ref o), some (.int i), some (.int o3.1), some (.int o7.1), none]) (st' := [.int 0, .ref o]) rfl ?_
        refine s_lald X to_ (dk okd_law_61 10 rfl) (fun v11 => ?_)
        refine s_run X ok_law_61 27 3 (pc' := 3973) (vs' := [some (.ref b), some (.ref x), some (.ref m), some (.ref o), some (.int i), some (.int o3.1), some (.int o7.1), none]) (st' := [.int (lg_cmp v11 (Int32.toInt64 o7.1))]) rfl ?_
        refine s_lif_eq (tgt := 3978) X (dk okd_law_61 11 rfl) (by decide) ?_ ?_
        · exact s_less [true, true, true, true, true, false, false, false] rfl (h10)
        · refine s_run X ok_law_61 30 1 (pc' := 3977) (vs' := [some (.ref b), some (.ref x), some (.ref m), some (.ref o), some (.int i), some (.int o3.1), some (.int o7.1), none]) (st' := [.int 0]) rfl ?_
          exact s_none
  · refine s_run X ok_law_61 23 1 (pc' := 3960) (vs' := [some (.ref b), some (.ref x), some (.ref m), some (.ref o), some (.int i), some (.int o3.1), some (.int o7.1), none]) (st' := [.int 0]) rfl ?_
    exact s_none
def tab_law_62 : List En := [(3981, 8, 1, 0), (3982, 8, 0, 0), (3983, 5, 4, 0), (3985, 0, 0, 1), (3986, 17, 0, 0), (3991, 8, 2, 0), (3992, 8, 0, 0), (3993, 5, 4, 0), (3995, 0, 0, 1), (3996, 17, 0, 0), (4004, 0, 0, 0)]
theorem ok_law_62 : tab_law_62.all (okE code) = true := by decide +kernel
def ed_law_62 : List (Nat × Instr × Nat) := [(3987, .iaload, 1), (3988, .invokevirtual 398, 3), (3997, .iaload, 1), (3998, .invokevirtual 401, 3), (4001, .if_icmp .eq 5, 3), (4005, .ireturn, 1)]
theorem okd_law_62 : ed_law_62.all (okD code) = true := by decide +kernel
def f_law_62 (Ls : Nat) (xs : Nat → Int32) (S : St) (x m o : Nat) (i : Int32) (c : Nat) (kont : St → Nat → Option Unit) : Option Unit := sx Ls xs (i + 1) fun (v1 : Int32) => cl (f_X11_formattedByte S x v1) fun (v2 : Int32) => sx Ls xs (i + 1) fun (v3 : Int32) => cl (f_X12_formattedByte S m v3) fun (o4 : Int32 × St) => if v2 = o4.1 then (kont o4.2 (c)) else (none)
set_option maxHeartbeats 4000000 in
set_option maxRecDepth 100000 in
theorem c_law_62 {Cn : Nat → CT} {b Ls : Nat} {xs : Nat → Int32} {Q : Unit → State → Prop} {x m o : Nat} {i : Int32} (hf : Fam Cn b Ls xs) (tx0 : tT (Cn 0) x 10) (tm0 : tT (Cn 0) m 11) (to0 : tT (Cn 0) o 14) (S : St) (c : Nat) (hc : c ≤ 512) (kont : St → Nat → Option Unit) (hk : ∀ (S : St) (c : Nat), c ≤ 512 → Jd (Cn c) 8 Q S 4006 [some (.ref b), some (.ref x), some (.ref m), some (.ref o), some (.int i), none, none, none] [] (kont S c)) : Jd (Cn c) 8 Q S 3981 [some (.ref b), some (.ref x), some (.ref m), some (.ref o), some (.int i), none, none, none] [] (f_law_62 Ls xs S x m o i c kont) := by
  have X := hf.X hc
  have E := hf.E c
  have tx_ := hf.T c tx0
  have tm_ := hf.T c tm0
  have to_ := hf.T c to0
  unfold f_law_62
  refine s_run X ok_law_62 0 5 (pc' := 3987) (vs' := [some (.ref b), some (.ref x), some (.ref m), some (.ref o), some (.int i), none, none, none]) (st' := [.int (i + 1), .ref b, .ref x]) rfl ?_
  refine s_sld hf (dk okd_law_62 0 rfl) (fun v1 => ?_)
  refine s_callV (b := x) (As := [.int v1]) (rest := []) X E mv_L_398 (c_X11_formattedByte S x v1) rfl (ta1 tx_) rfl (by decide) tx_ rfl rfl (Nat.le_of_ble_eq_true rfl) (Nat.le_of_ble_eq_true rfl) (Nat.le_of_ble_eq_true rfl) (dk okd_law_62 1 rfl) (st' := fun v2 => [.int v2]) (fun _ => rfl) (fun v2 => ?_)
  refine s_run X ok_law_62 5 5 (pc' := 3997) (vs' := [some (.ref b), some (.ref x), some (.ref m), some (.ref o), some (.int i), none, none, none]) (st' := [.int (i + 1), .ref b, .ref m, .int v2]) rfl ?_
  refine s_sld hf (dk okd_law_62 2 rfl) (fun v3 => ?_)
  refine s_callV (b := m) (As := [.int v3]) (rest := [.int v2]) X E mv_L_401 (c_X12_formattedByte S m v3) rfl (ta1 tm_) rfl (by decide) tm_ rfl rfl (Nat.le_of_ble_eq_true rfl) (Nat.le_of_ble_eq_true rfl) (Nat.le_of_ble_eq_true rfl) (dk okd_law_62 3 rfl) (st' := fun o4 => [.int o4.1, .int v2]) (fun _ => rfl) (fun o4 => ?_)
  refine s_icmp_eq (tgt := 4006) X (dk okd_law_62 4 rfl) (by decide) ?_ ?_
  · exact s_less [true, true, true, true, true, false, false, false] rfl (hk o4.2 (c) hc)
  · refine s_run X ok_law_62 10 1 (pc' := 4005) (vs' := [some (.ref b), some (.ref x), some (.ref m), some (.ref o), some (.int i), none, none, none]) (st' := [.int 0]) rfl ?_
    exact s_none
