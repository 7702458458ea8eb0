theorem mh_L_326 : MH RL 326 yL_monthsOverdue cL_monthsOverdue 4 [(0, 9, 12, 22)] 3 := ⟨TT_7 (i := 1) rfl rfl, TT_7 (i := 2) rfl rfl, TT_1 (i := 0) rfl rfl, TT_7 (i := 3) rfl rfl, ⟨by decide, by decide, by decide +kernel⟩⟩
theorem mh_L_329 : MH RL 329 yL_payOff cL_payOff 6 [(0, 11, 14, 22), (0, 11, 18, 13)] 4 := ⟨TT_7 (i := 8) rfl rfl, TT_7 (i := 9) rfl rfl, TT_1 (i := 0) rfl rfl, TT_7 (i := 10) rfl rfl, ⟨by decide, by decide, by decide +kernel⟩⟩
theorem mh_L_332 : MH RL 332 yL_terminate cL_terminate 4 [(0, 16, 19, 22)] 3 := ⟨TT_7 (i := 19) rfl rfl, TT_7 (i := 20) rfl rfl, TT_1 (i := 0) rfl rfl, TT_7 (i := 21) rfl rfl, ⟨by decide, by decide, by decide +kernel⟩⟩
theorem mh_L_335 : MH RL 335 yL_status cL_status 4 [(0, 9, 12, 22)] 3 := ⟨TT_7 (i := 43) rfl rfl, TT_7 (i := 44) rfl rfl, TT_1 (i := 0) rfl rfl, TT_7 (i := 45) rfl rfl, ⟨by decide, by decide, by decide +kernel⟩⟩
theorem mh_L_342 : MH RL 342 yL_contributions cL_contributions 4 [(0, 8, 11, 22)] 3 := ⟨TT_7 (i := 50) rfl rfl, TT_7 (i := 51) rfl rfl, TT_1 (i := 0) rfl rfl, TT_7 (i := 52) rfl rfl, ⟨by decide, by decide, by decide +kernel⟩⟩
theorem mh_L_345 : MH RL 345 yL_spent cL_spent 4 [(0, 8, 11, 13)] 3 := ⟨TT_7 (i := 57) rfl rfl, TT_7 (i := 58) rfl rfl, TT_1 (i := 0) rfl rfl, TT_7 (i := 59) rfl rfl, ⟨by decide, by decide, by decide +kernel⟩⟩
theorem mh_L_348 : MH RL 348 yL_campaign cL_campaign 5 [(0, 16, 19, 13)] 3 := ⟨TT_7 (i := 64) rfl rfl, TT_7 (i := 65) rfl rfl, TT_1 (i := 0) rfl rfl, TT_7 (i := 66) rfl rfl, ⟨by decide, by decide, by decide +kernel⟩⟩
theorem mv_L_328 : MV RL 328 yX12_monthsOverdue cX12_monthsOverdue 2 (some .int) 1 := ⟨TT_9 (i := 143) rfl rfl, TT_9 (i := 144) rfl rfl, TT_9 (i := 145) rfl rfl, TT_1 (i := 13) rfl rfl, TT_9 (i := 146) rfl rfl, ⟨by decide, by decide, by decide +kernel⟩⟩
theorem mv_L_331 : MV RL 331 yX12_payOff cX12_payOff 7 (some .int) 2 := ⟨TT_9 (i := 139) rfl rfl, TT_9 (i := 140) rfl rfl, TT_9 (i := 141) rfl rfl, TT_1 (i := 13) rfl rfl, TT_9 (i := 142) rfl rfl, ⟨by decide, by decide, by decide +kernel⟩⟩
theorem mv_L_334 : MV RL 334 yX12_terminate cX12_terminate 3 (some .boolean) 1 := ⟨TT_9 (i := 147) rfl rfl, TT_9 (i := 148) rfl rfl, TT_9 (i := 149) rfl rfl, TT_1 (i := 13) rfl rfl, TT_9 (i := 150) rfl rfl, ⟨by decide, by decide, by decide +kernel⟩⟩
theorem mv_L_337 : MV RL 337 yX12_status cX12_status 2 (some .int) 1 := ⟨TT_9 (i := 156) rfl rfl, TT_9 (i := 157) rfl rfl, TT_9 (i := 158) rfl rfl, TT_1 (i := 13) rfl rfl, TT_9 (i := 159) rfl rfl, ⟨by decide, by decide, by decide +kernel⟩⟩
theorem mv_L_338 : MV RL 338 yX11_fundBalance cX11_fundBalance 1 (some .long) 0 := ⟨TT_4 (i := 73) rfl rfl, TT_4 (i := 74) rfl rfl, TT_4 (i := 75) rfl rfl, TT_1 (i := 1) rfl rfl, TT_4 (i := 76) rfl rfl, ⟨by decide, by decide, by decide +kernel⟩⟩
theorem mv_L_341 : MV RL 341 yX12_fundBalance cX12_fundBalance 1 (some .long) 0 := ⟨TT_9 (i := 160) rfl rfl, TT_9 (i := 161) rfl rfl, TT_9 (i := 162) rfl rfl, TT_1 (i := 13) rfl rfl, TT_9 (i := 163) rfl rfl, ⟨by decide, by decide, by decide +kernel⟩⟩
theorem mv_L_344 : MV RL 344 yX12_contributions cX12_contributions 2 (some .long) 1 := ⟨TT_9 (i := 172) rfl rfl, TT_9 (i := 173) rfl rfl, TT_9 (i := 174) rfl rfl, TT_1 (i := 13) rfl rfl, TT_9 (i := 175) rfl rfl, ⟨by decide, by decide, by decide +kernel⟩⟩
theorem mv_L_347 : MV RL 347 yX12_spent cX12_spent 2 (some .long) 1 := ⟨TT_9 (i := 176) rfl rfl, TT_9 (i := 177) rfl rfl, TT_9 (i := 178) rfl rfl, TT_1 (i := 13) rfl rfl, TT_9 (i := 179) rfl rfl, ⟨by decide, by decide, by decide +kernel⟩⟩
theorem mv_L_351 : MV RL 351 yX12_campaign cX12_campaign 3 (some .boolean) 1 := ⟨TT_9 (i := 180) rfl rfl, TT_9 (i := 181) rfl rfl, TT_9 (i := 182) rfl rfl, TT_1 (i := 13) rfl rfl, TT_9 (i := 183) rfl rfl, ⟨by decide, by decide, by decide +kernel⟩⟩
def tab_law_40 : List En := [(2587, 8, 1, 0), (2588, 8, 0, 0), (2589, 5, 4, 0), (2591, 0, 0, 1), (2592, 17, 0, 0), (2594, 8, 3, 0), (2598, 11, 5, 0), (2600, 8, 2, 0), (2601, 8, 0, 0), (2602, 5, 4, 0), (2604, 0, 0, 1), (2605, 17, 0, 0), (2610, 11, 6, 0), (2612, 8, 2, 0), (2616, 5, 5, 0), (2621, 0, 0, 0), (2623, 5, 5, 0), (2628, 8, 3, 0), (2629, 0, 0, 0), (2631, 5, 6, 0), (2633, 31, 0, 0), (2634, 40, 0, 0), (2638, 0, 0, 0), (2640, 41, 4006, 0)]
theorem ok_law_40 : tab_law_40.all (okE code) = true := by decide +kernel
def ed_law_40 : List (Nat × Instr × Nat) := [(2593, .iaload, 1), (2595, .invokestatic 326, 3), (2606, .iaload, 1), (2607, .invokevirtual 328, 3), (2613, .invokevirtual 214, 3), (2618, .if_icmp .eq 5, 3), (2622, .ireturn, 1), (2625, .ifCond .ne 15, 3), (2630, .laload, 1), (2635, .ifCond .eq 5, 3), (2639, .ireturn, 1)]
theorem okd_law_40 : ed_law_40.all (okD code) = true := by decide +kernel
def f_law_40 (Ls : Nat) (xs : Nat → Int32) (S : St) (x m o : Nat) (i : Int32) (c : Nat) (kont : St → Nat → Option Unit) : Option Unit := sx Ls xs (i + 1) fun (v1 : Int32) => cl (f_L_monthsOverdue S x v1 o) fun (o2 : Int32 × St × Nat) => bud (c + o2.2.2) <| sx Ls xs (i + 1) fun (v4 : Int32) => cl (f_X12_monthsOverdue o2.2.1 m v4) fun (o5 : Int32 × St) => cl (f_X12_thrown o5.2 m) fun (v6 : Int32) => if v6 = o2.1 then (jn (κ := Option (Unit)) (kont o5.2 ((c + o2.2.2))) fun k7 => if o2.1 = 0 then (ldJ o5.2 o 0 fun (v9 : Int64) => if v9 = (Int32.toInt64 o5.1) then (k7) else (none)) else (k7)) else (none)
set_option maxHeartbeats 4000000 in
set_option maxRecDepth 100000 in
theorem c_law_40 {Cn : Nat → CT} {b Ls : Nat} {xs : Nat → Int32} {Q : Unit → State → Prop} {x m o : Nat} {i : Int32} (hf : Fam Cn b Ls xs) (tx0 : tT (Cn 0) x 10) (tm0 : tT (Cn 0) m 11) (to0 : tT (Cn 0) o 14) (S : St) (c : Nat) (hc : c ≤ 512) (kont : St → Nat → Option Unit) (hk : ∀ (S : St) (c : Nat), c ≤ 512 → Jd (Cn c) 8 Q S 4006 [some (.ref b), some (.ref x), some (.ref m), some (.ref o), some (.int i), none, none, none] [] (kont S c)) : Jd (Cn c) 8 Q S 2587 [some (.ref b), some (.ref x), some (.ref m), some (.ref o), some (.int i), none, none, none] [] (f_law_40 Ls xs S x m o i c kont) := by
  have X := hf.X hc
  have E := hf.E c
  have tx_ := hf.T c tx0
  have tm_ := hf.T c tm0
  have to_ := hf.T c to0
  unfold f_law_40
  refine s_run X ok_law_40 0 5 (pc' := 2593) (vs' := [some (.ref b), some (.ref x), some (.ref m), some (.ref o), some (.int i), none, none, none]) (st' := [.int (i + 1), .ref b, .ref x]) rfl ?_
  refine s_sld hf (dk okd_law_40 0 rfl) (fun v1 => ?_)
  refine s_run X ok_law_40 5 1 (pc' := 2595) (vs' := [some (.ref b), some (.ref x), some (.ref m), some (.ref o), some (.int i), none, none, none]) (st' := [.ref o, .int v1, .ref x]) rfl ?_
  refine s_callH (c0 := c) (As := [.ref x, .int v1, .ref o]) (rest := []) hf mh_L_326 (c_L_monthsOverdue S x v1 o) (ta2 tx_ to_) rfl rfl (Nat.le_of_ble_eq_true rfl) (Nat.le_of_ble_eq_true rfl) (Nat.le_of_ble_eq_true rfl) (dk okd_law_40 1 rfl) (st' := fun o2 => [.int o2.1]) (fun _ => rfl) (fun o2 hb3 => ?_)
  have X := hf.X hb3
  have E := hf.E (c + o2.2.2)
  have tx_ := hf.T (c + o2.2.2) tx_
  have tm_ := hf.T (c + o2.2.2) tm_
  have to_ := hf.T (c + o2.2.2) to_
  refine s_run X ok_law_40 6 6 (pc' := 2606) (vs' := [some (.ref b), some (.ref x), some (.ref m), some (.ref o), some (.int i), some (.int o2.1), none, none]) (st' := [.int (i + 1), .ref b, .ref m]) rfl ?_
  refine s_sld hf (dk okd_law_40 2 rfl) (fun v4 => ?_)
  refine s_callV (b := m) (As := [.int v4]) (rest := []) X E mv_L_328 (c_X12_monthsOverdue o2.2.1 m v4) rfl (ta1 tm_) rfl (by decide) tm_ rfl rfl (Nat.le_of_ble_eq_true rfl) (Nat.le_of_ble_eq_true rfl) (Nat.le_of_ble_eq_true rfl) (dk okd_law_40 3 rfl) (st' := fun o5 => [.int o5.1]) (fun _ => rfl) (fun o5 => ?_)
  refine s_run X ok_law_40 12 2 (pc' := 2613) (vs' := [some (.ref b), some (.ref x), some (.ref m), some (.ref o), some (.int i), some (.int o2.1), some (.int o5.1), none]) (st' := [.ref m]) rfl ?_
  refine s_callV (b := m) (As := []) (rest := []) X E mv_L_214 (c_X12_thrown o5.2 m) rfl (ta1 tm_) rfl (by decide) tm_ rfl rfl (Nat.le_of_ble_eq_true rfl) (Nat.le_of_ble_eq_true rfl) (Nat.le_of_ble_eq_true rfl) (dk okd_law_40 4 rfl) (st' := fun v6 => [.int v6]) (fun _ => rfl) (fun v6 => ?_)
  refine s_run X ok_law_40 14 1 (pc' := 2618) (vs' := [some (.ref b), some (.ref x), some (.ref m), some (.ref o), some (.int i), some (.int o2.1), some (.int o5.1), none]) (st' := [.int o2.1, .int v6]) rfl ?_
  refine s_icmp_eq (tgt := 2623) X (dk okd_law_40 5 rfl) (by decide) ?_ ?_
  · refine s_run X ok_law_40 16 1 (pc' := 2625) (vs' := [some (.ref b), some (.ref x), some (.ref m), some (.ref o), some (.int i), some (.int o2.1), some (.int o5.1), none]) (st' := [.int o2.1]) rfl ?_
    refine s_jn (κ := Option (Unit)) (fun k7 => Jd (Cn (c + o2.2.2)) 8 Q o5.2 2640 [some (.ref b), some (.ref x), some (.ref m), some (.ref o), some (.int i), none, none, none] [] k7) ?_ (fun k7 h8 => ?_)
    · refine s_run X ok_law_40 23 1 (pc' := 4006) (vs' := [some (.ref b), some (.ref x), some (.ref m), some (.ref o), some (.int i), none, none, none]) (st' := []) rfl ?_
      exact s_less [true, true, true, true, true, false, false, false] rfl (hk o5.2 ((c + o2.2.2)) hb3)
    · refine s_if_ne (tgt := 2640) X (dk okd_law_40 7 rfl) (by decide) ?_ ?_
      · exact s_less [true, true, true, true, true, false, false, false] rfl (h8)
      · refine s_run X ok_law_40 17 2 (pc' := 2630) (vs' := [some (.ref b), some (.ref x), some (.ref m), some (.ref o), some (.int i), some (.int o2.1), some (.int o5.1), none]) (st' := [.int 0, .ref o]) rfl ?_
        refine s_lald X to_ (dk okd_law_40 8 rfl) (fun v9 => ?_)
        refine s_run X ok_law_40 19 3 (pc' := 2635) (vs' := [some (.ref b), some (.ref x), some (.ref m), some (.ref o), some (.int i), some (.int o2.1), some (.int o5.1), none]) (st' := [.int (lg_cmp v9 (Int32.toInt64 o5.1))]) rfl ?_
        refine s_lif_eq (tgt := 2640) X (dk okd_law_40 9 rfl) (by decide) ?_ ?_
        · exact s_less [true, true, true, true, true, false, false, false] rfl (h8)
        · refine s_run X ok_law_40 22 1 (pc' := 2639) (vs' := [some (.ref b), some (.ref x), some (.ref m), some (.ref o), some (.int i), some (.int o2.1), some (.int o5.1), none]) (st' := [.int 0]) rfl ?_
          exact s_none
  · refine s_run X ok_law_40 15 1 (pc' := 2622) (vs' := [some (.ref b), some (.ref x), some (.ref m), some (.ref o), some (.int i), some (.int o2.1), some (.int o5.1), none]) (st' := [.int 0]) rfl ?_
    exact s_none
def tab_law_41 : List En := [(2643, 8, 1, 0), (2644, 8, 0, 0), (2645, 5, 4, 0), (2647, 0, 0, 1), (2648, 17, 0, 0), (2650, 8, 0, 0), (2651, 5, 4, 0), (2653, 0, 0, 2), (2654, 17, 0, 0), (2656, 31, 0, 0), (2657, 1, 0, 32), (2659, 34, 0, 0), (2660, 8, 0, 0), (2661, 5, 4, 0), (2663, 0, 0, 3), (2664, 17, 0, 0), (2666, 31, 0, 0), (2670, 26, 0, 0), (2671, 27, 0, 0), (2672, 8, 3, 0), (2676, 11, 5, 0), (2678, 8, 2, 0), (2679, 8, 0, 0), (2680, 5, 4, 0), (2682, 0, 0, 1), (2683, 17, 0, 0), (2685, 8, 0, 0), (2686, 5, 4, 0), (2688, 0, 0, 2), (2689, 17, 0, 0), (2691, 31, 0, 0), (2692, 1, 0, 32), (2694, 34, 0, 0), (2695, 8, 0, 0), (2696, 5, 4, 0), (2698, 0, 0, 3), (2699, 17, 0, 0), (2701, 31, 0, 0), (2705, 26, 0, 0), (2706, 27, 0, 0), (2710, 11, 6, 0), (2712, 8, 2, 0), (2716, 5, 5, 0), (2721, 0, 0, 0), (2723, 5, 5, 0), (2728, 8, 3, 0), (2729, 0, 0, 0), (2731, 5, 6, 0), (2733, 31, 0, 0), (2734, 40, 0, 0), (2738, 0, 0, 0), (2740, 41, 4006, 0)]
theorem ok_law_41 : tab_law_41.all (okE code) = true := by decide +kernel
def ed_law_41 : List (Nat × Instr × Nat) := [(2649, .iaload, 1), (2655, .iaload, 1), (2665, .iaload, 1), (2667, .ldc2_w 270, 3), (2673, .invokestatic 329, 3), (2684, .iaload, 1), (2690, .iaload, 1), (2700, .iaload, 1), (2702, .ldc2_w 270, 3), (2707, .invokevirtual 331, 3), (2713, .invokevirtual 214, 3), (2718, .if_icmp .eq 5, 3), (2722, .ireturn, 1), (2725, .ifCond .ne 15, 3), (2730, .laload, 1), (2735, .ifCond .eq 5, 3), (2739, .ireturn, 1)]
theorem okd_law_41 : ed_law_41.all (okD code) = true := by decide +kernel
def f_law_41 (Ls : Nat) (xs : Nat → Int32) (S : St) (x m o : Nat) (i : Int32) (c : Nat) (kont : St → Nat → Option Unit) : Option Unit := sx Ls xs (i + 1) fun (v1 : Int32) => sx Ls xs (i + 2) fun (v2 : Int32) => sx Ls xs (i + 3) fun (v3 : Int32) => cl (f_L_payOff S x v1 (((Int32.toInt64 v2) <<< ((Int32.toInt64 32) &&& 63)) ||| ((Int32.toInt64 v3) &&& 4294967295)) o) fun (o4 : Int32 × St × Nat) => bud (c + o4.2.2) <| sx Ls xs (i + 1) fun (v6 : Int32) => sx Ls xs (i + 2) fun (v7 : Int32) => sx Ls xs (i + 3) fun (v8 : Int32) => cl (f_X12_payOff o4.2.1 m v6 (((Int32.toInt64 v7) <<< ((Int32.toInt64 32) &&& 63)) ||| ((Int32.toInt64 v8) &&& 4294967295))) fun (o9 : Int32 × St) => cl (f_X12_thrown o9.2 m) fun (v10 : Int32) => if v10 = o4.1 then (jn (κ := Option (Unit)) (kont o9.2 ((c + o4.2.2))) fun k11 => if o4.1 = 0 then (ldJ o9.2 o 0 fun (v13 : Int64) => if v13 = (Int32.toInt64 o9.1) then (k11) else (none)) else (k11)) else (none)
set_option maxHeartbeats 4000000 in
set_option maxRecDepth 100000 in
theorem c_law_41 {Cn : Nat → CT} {b Ls : Nat} {xs : Nat → Int32} {Q : Unit → State → Prop} {x m o : Nat} {i : Int32} (hf : Fam Cn b Ls xs) (tx0 : tT (Cn 0) x 10) (tm0 : tT (Cn 0) m 11) (to0 : tT (Cn 0) o 14) (S : St) (c : Nat) (hc : c ≤ 512) (kont : St → Nat → Option Unit) (hk : ∀ (S : St) (c : Nat), c ≤ 512 → Jd (Cn c) 8 Q S 4006 [some (.ref b), some (.ref x), some (.ref m), some (.ref o), some (.int i), none, none, none] [] (kont S c)) : Jd (Cn c) 8 Q S 2643 [some (.ref b), some (.ref x), some (.ref m), some (.ref o), some (.int i), none, none, none] [] (f_law_41 Ls xs S x m o i c kont) := by
  have X := hf.X hc
  have E := hf.E c
  have tx_ := hf.T c tx0
  have tm_ := hf.T c tm0
  have to_ := hf.T c to0
  unfold f_law_41
  refine s_run X ok_law_41 0 5 (pc' := 2649) (vs' := [some (.ref b), some (.ref x), some (.ref m), some (.ref o), some (.int i), none, none, none]) (st' := [.int (i + 1), .ref b, .ref x]) rfl ?_
  refine s_sld hf (dk okd_law_41 0 rfl) (fun v1 => ?_)
  refine s_run X ok_law_41 5 4 (pc' := 2655) (vs' := [some (.ref b), some (.ref x), some (.ref m), some (.ref o), some (.int i), none, none, none]) (st' := [.int (i + 2), .ref b, .int v1, .ref x]) rfl ?_
  refine s_sld hf (dk okd_law_41 1 rfl) (fun v2 => ?_)
  refine s_run X ok_law_41 9 7 (pc' := 2665) (vs' := [some (.ref b), some (.ref x), some (.ref m), some (.ref o), some (.int i), none, none, none]) (st' := [.int (i + 3), .ref b, .long ((Int32.toInt64 v2) <<< ((Int32.toInt64 32) &&& 63)), .int v1, .ref x]) rfl ?_
  refine s_sld hf (dk okd_law_41 2 rfl) (fun v3 => ?_)
  refine s_run X ok_law_41 16 1 (pc' := 2667) (vs' := [some (.ref b), some (.ref x), some (.ref m), some (.ref o), some (.int i), none, none, none]) (st' := [.long (Int32.toInt64 v3), .long ((Int32.toInt64 v2) <<< ((Int32.toInt64 32) &&& 63)), .int v1, .ref x]) rfl ?_
  refine s_ldc2 X cl_L_270 (dk okd_law_41 3 rfl) ?_
  refine s_run X ok_law_41 17 3 (pc' := 2673) (vs' := [some (.ref b), some (.ref x), some (.ref m), some (.ref o), some (.int i), none, none, none]) (st' := [.ref o, .long (((Int32.toInt64 v2) <<< ((Int32.toInt64 32) &&& 63)) ||| ((Int32.toInt64 v3) &&& 4294967295)), .int v1, .ref x]) rfl ?_
  refine s_callH (c0 := c) (As := [.ref x, .int v1, .long (((Int32.toInt64 v2) <<< ((Int32.toInt64 32) &&& 63)) ||| ((Int32.toInt64 v3) &&& 4294967295)), .ref o]) (rest := []) hf mh_L_329 (c_L_payOff S x v1 (((Int32.toInt64 v2) <<< ((Int32.toInt64 32) &&& 63)) ||| ((Int32.toInt64 v3) &&& 4294967295)) o) (ta2 tx_ to_) rfl rfl (Nat.le_of_ble_eq_true rfl) (Nat.le_of_ble_eq_true rfl) (Nat.le_of_ble_eq_true rfl) (dk okd_law_41 4 rfl) (st' := fun o4 => [.int o4.1]) (fun _ => rfl) (fun o4 hb5 => ?_)
  have X := hf.X hb5
  have E := hf.E (c + o4.2.2)
  have tx_ := hf.T (c + o4.2.2) tx_
  have tm_ := hf.T (c + o4.2.2) tm_
  have to_ := hf.T (c + o4.2.2) to_
  refine s_run X ok_law_41 20 6 (pc' := 2684) (vs' := [some (.ref b), some (.ref x), some (.ref m), some (.ref o), some (.int i), some (.int o4.1), none, none]) (st' := [.int (i + 1), .ref b, .ref m]) rfl ?_
  refine s_sld hf (dk okd_law_41 5 rfl) (fun v6 => ?_)
  refine s_run X ok_law_41 26 4 (pc' := 2690) (vs' := [some (.ref b), some (.ref x), some (.ref m), some (.ref o), some (.int i), some (.int o4.1), none, none]) (st' := [.int (i + 2), .ref b, .int v6, .ref m]) rfl ?_
  refine s_sld hf (dk okd_law_41 6 rfl) (fun v7 => ?_)
  refine s_run X ok_law_41 30 7 (pc' := 2700) (vs' := [some (.ref b), some (.ref x), some (.ref m), some (.ref o), some (.int i), some (.int o4.1), none, none]) (st' := [.int (i + 3), .ref b, .long ((Int32.toInt64 v7) <<< ((Int32.toInt64 32) &&& 63)), .int v6, .ref m]) rfl ?_
  refine s_sld hf (dk okd_law_41 7 rfl) (fun v8 => ?_)
  refine s_run X ok_law_41 37 1 (pc' := 2702) (vs' := [some (.ref b), some (.ref x), some (.ref m), some (.ref o), some (.int i), some (.int o4.1), none, none]) (st' := [.long (Int32.toInt64 v8), .long ((Int32.toInt64 v7) <<< ((Int32.toInt64 32) &&& 63)), .int v6, .ref m]) rfl ?_
  refine s_ldc2 X cl_L_270 (dk okd_law_41 8 rfl) ?_
  refine s_run X ok_law_41 38 2 (pc' := 2707) (vs' := [some (.ref b), some (.ref x), some (.ref m), some (.ref o), some (.int i), some (.int o4.1), none, none]) (st' := [.long (((Int32.toInt64 v7) <<< ((Int32.toInt64 32) &&& 63)) ||| ((Int32.toInt64 v8) &&& 4294967295)), .int v6, .ref m]) rfl ?_
  refine s_callV (b := m) (As := [.int v6, .long (((Int32.toInt64 v7) <<< ((Int32.toInt64 32) &&& 63)) ||| ((Int32.toInt64 v8) &&& 4294967295))]) (rest := []) X E mv_L_331 (c_X12_payOff o4.2.1 m v6 (((Int32.toInt64 v7) <<< ((Int32.toInt64 32) &&& 63)) ||| ((Int32.toInt64 v8) &&& 4294967295))) rfl (ta1 tm_) rfl (by decide) tm_ rfl rfl (Nat.le_of_ble_eq_true rfl) (Nat.le_of_ble_eq_true rfl) (Nat.le_of_ble_eq_true rfl) (dk okd_law_41 9 rfl) (st' := fun o9 => [.int o9.1]) (fun _ => rfl) (fun o9 => ?_)
  refine s_run X ok_law_41 40 2 (pc' := 2713) (vs' := [some (.ref b), some (.ref x), some (.ref m), some (.ref o), some (.int i), some (.int o4.1), some (.int o9.1), none]) (st' := [.ref m]) rfl ?_
  refine s_callV (b := m) (As := []) (rest := []) X E mv_L_214 (c_X12_thrown o9.2 m) rfl (ta1 tm_) rfl (by decide) tm_ rfl rfl (Nat.le_of_ble_eq_true rfl) (Nat.le_of_ble_eq_true rfl) (Nat.le_of_ble_eq_true rfl) (dk okd_law_41 10 rfl) (st' := fun v10 => [.int v10]) (fun _ => rfl) (fun v10 => ?_)
  refine s_run X ok_law_41 42 1 (pc' := 2718) (vs' := [some (.ref b), some (.ref x), some (.ref m), some (.ref o), some (.int i), some (.int o4.1), some (.int o9.1), none]) (st' := [.int o4.1, .int v10]) rfl ?_
  refine s_icmp_eq (tgt := 2723) X (dk okd_law_41 11 rfl) (by decide) ?_ ?_
  · refine s_run X ok_law_41 44 1 (pc' := 2725) (vs' := [some (.ref b), some (.ref x), some (.ref m), some (.ref o), some (.int i), some (.int o4.1), some (.int o9.1), none]) (st' := [.int o4.1]) rfl ?_
    refine s_jn (κ := Option (Unit)) (fun k11 => Jd (Cn (c + o4.2.2)) 8 Q o9.2 2740 [some (.ref b), some (.ref x), some (.ref m), some (.ref o), some (.int i), none, none, none] [] k11) ?_ (fun k11 h12 => ?_)
    · refine s_run X ok_law_41 51 1 (pc' := 4006) (vs' := [some (.ref b), some (.ref x), some (.ref m), some (.ref o), some (.int i), none, none, none]) (st' := []) rfl ?_
      exact s_less [true, true, true, true, true, false, false, false] rfl (hk o9.2 ((c + o4.2.2)) hb5)
    · refine s_if_ne (tgt := 2740) X (dk okd_law_41 13 rfl) (by decide) ?_ ?_
      · exact s_less [true, true, true, true, true, false, false, false] rfl (h12)
      · refine s_run X ok_law_41 45 2 (pc' := 2730) (vs' := [some (.ref b), some (.ref x), some (.ref m), some (.ref o), some (.int i), some (.int o4.1), some (.int o9.1), none]) (st' := [.int 0, .ref o]) rfl ?_
        refine s_lald X to_ (dk okd_law_41 14 rfl) (fun v13 => ?_)
        refine s_run X ok_law_41 47 3 (pc' := 2735) (vs' := [some (.ref b), some (.ref x), some (.ref m), some (.ref o), some (.int i), some (.int o4.1), some (.int o9.1), none]) (st' := [.int (lg_cmp v13 (Int32.toInt64 o9.1))]) rfl ?_
        refine s_lif_eq (tgt := 2740) X (dk okd_law_41 15 rfl) (by decide) ?_ ?_
        · exact s_less [true, true, true, true, true, false, false, false] rfl (h12)
        · refine s_run X ok_law_41 50 1 (pc' := 2739) (vs' := [some (.ref b), some (.ref x), some (.ref m), some (.ref o), some (.int i), some (.int o4.1), some (.int o9.1), none]) (st' := [.int 0]) rfl ?_
          exact s_none
  · refine s_run X ok_law_41 43 1 (pc' := 2722) (vs' := [some (.ref b), some (.ref x), some (.ref m), some (.ref o), some (.int i), some (.int o4.1), some (.int o9.1), none]) (st' := [.int 0]) rfl ?_
    exact s_none
def tab_law_42 : List En := [(2743, 8, 1, 0), (2744, 8, 0, 0), (2745, 5, 4, 0), (2747, 0, 0, 1), (2748, 17, 0, 0), (2750, 8, 3, 0), (2754, 11, 5, 0), (2756, 8, 2, 0), (2757, 8, 0, 0), (2758, 5, 4, 0), (2760, 0, 0, 1), (2761, 17, 0, 0), (2766, 11, 6, 0), (2768, 8, 2, 0), (2772, 5, 5, 0), (2777, 0, 0, 0), (2779, 5, 5, 0), (2784, 8, 3, 0), (2785, 0, 0, 0), (2787, 5, 6, 0), (2792, 3, 1, 0), (2793, 41, 2797, 0), (2796, 3, 0, 0), (2797, 40, 0, 0), (2801, 0, 0, 0), (2803, 41, 4006, 0)]
theorem ok_law_42 : tab_law_42.all (okE code) = true := by decide +kernel
def ed_law_42 : List (Nat × Instr × Nat) := [(2749, .iaload, 1), (2751, .invokestatic 332, 3), (2762, .iaload, 1), (2763, .invokevirtual 334, 3), (2769, .invokevirtual 214, 3), (2774, .if_icmp .eq 5, 3), (2778, .ireturn, 1), (2781, .ifCond .ne 22, 3), (2786, .laload, 1), (2789, .ifCond .eq 7, 3), (2798, .ifCond .eq 5, 3), (2802, .ireturn, 1)]
theorem okd_law_42 : ed_law_42.all (okD code) = true := by decide +kernel
def f_law_42 (Ls : Nat) (xs : Nat → Int32) (S : St) (x m o : Nat) (i : Int32) (c : Nat) (kont : St → Nat → Option Unit) : Option Unit := sx Ls xs (i + 1) fun (v1 : Int32) => cl (f_L_terminate S x v1 o) fun (o2 : Int32 × St × Nat) => bud (c + o2.2.2) <| sx Ls xs (i + 1) fun (v4 : Int32) => cl (f_X12_terminate o2.2.1 m v4) fun (o5 : Int32 × St) => cl (f_X12_thrown o5.2 m) fun (v6 : Int32) => if v6 = o2.1 then (jn (κ := Option (Unit)) (kont o5.2 ((c + o2.2.2))) fun k7 => if o2.1 = 0 then (ldJ o5.2 o 0 fun (v9 : Int64) => jn (κ := Int64 → Option (Unit)) (fun x10 => if v9 = x10 then (k7) else (none)) fun k11 => if o5.1 = 0 then (k11 0) else (k11 1)) else (k7)) else (none)
set_option maxHeartbeats 4000000 in
set_option maxRecDepth 100000 in
theorem c_law_42 {Cn : Nat → CT} {b Ls : Nat} {xs : Nat → Int32} {Q : Unit → State → Prop} {x m o : Nat} {i : Int32} (hf : Fam Cn b Ls xs) (tx0 : tT (Cn 0) x 10) (tm0 : tT (Cn 0) m 11) (to0 : tT (Cn 0) o 14) (S : St) (c : Nat) (hc : c ≤ 512) (kont : St → Nat → Option Unit) (hk : ∀ (S : St) (c : Nat), c ≤ 512 → Jd (Cn c) 8 Q S 4006 [some (.ref b), some (.ref x), some (.ref m), some (.ref o), some (.int i), none, none, none] [] (kont S c)) : Jd (Cn c) 8 Q S 2743 [some (.ref b), some (.ref x), some (.ref m), some (.ref o), some (.int i), none, none, none] [] (f_law_42 Ls xs S x m o i c kont) := by
  have X := hf.X hc
  have E := hf.E c
  have tx_ := hf.T c tx0
  have tm_ := hf.T c tm0
  have to_ := hf.T c to0
  unfold f_law_42
  refine s_run X ok_law_42 0 5 (pc' := 2749) (vs' := [some (.ref b), some (.ref x), some (.ref m), some (.ref o), some (.int i), none, none, none]) (st' := [.int (i + 1), .ref b, .ref x]) rfl ?_
  refine s_sld hf (dk okd_law_42 0 rfl) (fun v1 => ?_)
  refine s_run X ok_law_42 5 1 (pc' := 2751) (vs' := [some (.ref b), some (.ref x), some (.ref m), some (.ref o), some (.int i), none, none, none]) (st' := [.ref o, .int v1, .ref x]) rfl ?_
  refine s_callH (c0 := c) (As := [.ref x, .int v1, .ref o]) (rest := []) hf mh_L_332 (c_L_terminate S x v1 o) (ta2 tx_ to_) rfl rfl (Nat.le_of_ble_eq_true rfl) (Nat.le_of_ble_eq_true rfl) (Nat.le_of_ble_eq_true rfl) (dk okd_law_42 1 rfl) (st' := fun o2 => [.int o2.1]) (fun _ => rfl) (fun o2 hb3 => ?_)
  have X := hf.X hb3
  have E := hf.E (c + o2.2.2)
  have tx_ := hf.T (c + o2.2.2) tx_
  have tm_ := hf.T (c + o2.2.2) tm_
  have to_ := hf.T (c + o2.2.2) to_
  refine s_run X ok_law_42 6 6 (pc' := 2762) (vs' := [some (.ref b), some (.ref x), some (.ref m), some (.ref o), some (.int i), some (.int o2.1), none, none]) (st' := [.int (i + 1), .ref b, .ref m]) rfl ?_
  refine s_sld hf (dk okd_law_42 2 rfl) (fun v4 => ?_)
  refine s_callV (b := m) (As := [.int v4]) (rest := []) X E mv_L_334 (c_X12_terminate o2.2.1 m v4) rfl (ta1 tm_) rfl (by decide) tm_ rfl rfl (Nat.le_of_ble_eq_true rfl) (Nat.le_of_ble_eq_true rfl) (Nat.le_of_ble_eq_true rfl) (dk okd_law_42 3 rfl) (st' := fun o5 => [.int o5.1]) (fun _ => rfl) (fun o5 => ?_)
  refine s_run X ok_law_42 12 2 (pc' := 2769) (vs' := [some (.ref b), some (.ref x), some (.ref m), some (.ref o), some (.int i), some (.int o2.1), some (.int o5.1), none]) (st' := [.ref m]) rfl ?_
  refine s_callV (b := m) (As := []) (rest := []) X E mv_L_214 (c_X12_thrown o5.2 m) rfl (ta1 tm_) rfl (by decide) tm_ rfl rfl (Nat.le_of_ble_eq_true rfl) (Nat.le_of_ble_eq_true rfl) (Nat.le_of_ble_eq_true rfl) (dk okd_law_42 4 rfl) (st' := fun v6 => [.int v6]) (fun _ => rfl) (fun v6 => ?_)
  refine s_run X ok_law_42 14 1 (pc' := 2774) (vs' := [some (.ref b), some (.ref x), some (.ref m), some (.ref o), some (.int i), some (.int o2.1), some (.int o5.1), none]) (st' := [.int o2.1, .int v6]) rfl ?_
  refine s_icmp_eq (tgt := 2779) X (dk okd_law_42 5 rfl) (by decide) ?_ ?_
  · refine s_run X ok_law_42 16 1 (pc' := 2781) (vs' := [some (.ref b), some (.ref x), some (.ref m), some (.ref o), some (.int i), some (.int o2.1), some (.int o5.1), none]) (st' := [.int o2.1]) rfl ?_
    refine s_jn (κ := Option (Unit)) (fun k7 => Jd (Cn (c + o2.2.2)) 8 Q o5.2 2803 [some (.ref b), some (.ref x), some (.ref m), some (.ref o), some (.int i), none, none, none] [] k7) ?_ (fun k7 h8 => ?_)
    · refine s_run X ok_law_42 25 1 (pc' := 4006) (vs' := [some (.ref b), some (.ref x), some (.ref m), some (.ref o), some (.int i), none, none, none]) (st' := []) rfl ?_
      exact s_less [true, true, true, true, true, false, false, false] rfl (hk o5.2 ((c + o2.2.2)) hb3)
    · refine s_if_ne (tgt := 2803) X (dk okd_law_42 7 rfl) (by decide) ?_ ?_
      · exact s_less [true, true, true, true, true, false, false, false] rfl (h8)
      · refine s_run X ok_law_42 17 2 (pc' := 2786) (vs' := [some (.ref b), some (.ref x), some (.ref m), some (.ref o), some (.int i), some (.int o2.1), some (.int o5.1), none]) (st' := [.int 0, .ref o]) rfl ?_
        refine s_lald X to_ (dk okd_law_42 8 rfl) (fun v9 => ?_)
        refine s_run X ok_law_42 19 1 (pc' := 2789) (vs' := [some (.ref b), some (.ref x), some (.ref m), some (.ref o), some (.int i), some (.int o2.1), some (.int o5.1), none]) (st' := [.int o5.1, .long v9]) rfl ?_
        refine s_jn (κ := Int64 → Option (Unit)) (fun k11 => ∀ (x10 : Int64), Jd (Cn (c + o2.2.2)) 8 Q o5.2 2797 [some (.ref b), some (.ref x), some (.ref m), some (.ref o), some (.int i), none, none, none] [.long x10, .long v9] (k11 x10)) (fun x10 => ?_) (fun k11 h12 => ?_)
        · refine s_run X ok_law_42 23 1 (pc' := 2798) (vs' := [some (.ref b), some (.ref x), some (.ref m), some (.ref o), some (.int i), none, none, none]) (st' := [.int (lg_cmp v9 x10)]) rfl ?_
          refine s_lif_eq (tgt := 2803) X (dk okd_law_42 10 rfl) (by decide) ?_ ?_
          · exact h8
          · refine s_run X ok_law_42 24 1 (pc' := 2802) (vs' := [some (.ref b), some (.ref x), some (.ref m), some (.ref o), some (.int i), none, none, none]) (st' := [.int 0]) rfl ?_
            exact s_none
        · refine s_if_eq (tgt := 2796) X (dk okd_law_42 9 rfl) (by decide) ?_ ?_
          · refine s_run X ok_law_42 22 1 (pc' := 2797) (vs' := [some (.ref b), some (.ref x), some (.ref m), some (.ref o), some (.int i), some (.int o2.1), some (.int o5.1), none]) (st' := [.long 0, .long v9]) rfl ?_
            exact s_less [true, true, true, true, true, false, false, false] rfl (h12 0)
          · refine s_run X ok_law_42 20 2 (pc' := 2797) (vs' := [some (.ref b), some (.ref x), some (.ref m), some (.ref o), some (.int i), some (.int o2.1), some (.int o5.1), none]) (st' := [.long 1, .long v9]) rfl ?_
            exact s_less [true, true, true, true, true, false, false, false] rfl (h12 1)
  · refine s_run X ok_law_42 15 1 (pc' := 2778) (vs' := [some (.ref b), some (.ref x), some (.ref m), some (.ref o), some (.int i), some (.int o2.1), some (.int o5.1), none]) (st' := [.int 0]) rfl ?_
    exact s_none
def tab_law_43 : List En := [(2806, 8, 1, 0), (2807, 8, 0, 0), (2808, 5, 4, 0), (2810, 0, 0, 1), (2811, 17, 0, 0), (2813, 8, 3, 0), (2817, 11, 5, 0), (2819, 8, 2, 0), (2820, 8, 0, 0), (2821, 5, 4, 0), (2823, 0, 0, 1), (2824, 17, 0, 0), (2829, 11, 6, 0), (2831, 8, 2, 0), (2835, 5, 5, 0), (2840, 0, 0, 0), (2842, 5, 5, 0), (2847, 8, 3, 0), (2848, 0, 0, 0), (2850, 5, 6, 0), (2852, 31, 0, 0), (2853, 40, 0, 0), (2857, 0, 0, 0), (2859, 41, 4006, 0)]
theorem ok_law_43 : tab_law_43.all (okE code) = true := by decide +kernel
def ed_law_43 : List (Nat × Instr × Nat) := [(2812, .iaload, 1), (2814, .invokestatic 335, 3), (2825, .iaload, 1), (2826, .invokevirtual 337, 3), (2832, .invokevirtual 214, 3), (2837, .if_icmp .eq 5, 3), (2841, .ireturn, 1), (2844, .ifCond .ne 15, 3), (2849, .laload, 1), (2854, .ifCond .eq 5, 3), (2858, .ireturn, 1)]
theorem okd_law_43 : ed_law_43.all (okD code) = true := by decide +kernel
def f_law_43 (Ls : Nat) (xs : Nat → Int32) (S : St) (x m o : Nat) (i : Int32) (c : Nat) (kont : St → Nat → Option Unit) : Option Unit := sx Ls xs (i + 1) fun (v1 : Int32) => cl (f_L_status S x v1 o) fun (o2 : Int32 × St × Nat) => bud (c + o2.2.2) <| sx Ls xs (i + 1) fun (v4 : Int32) => cl (f_X12_status o2.2.1 m v4) fun (o5 : Int32 × St) => cl (f_X12_thrown o5.2 m) fun (v6 : Int32) => if v6 = o2.1 then (jn (κ := Option (Unit)) (kont o5.2 ((c + o2.2.2))) fun k7 => if o2.1 = 0 then (ldJ o5.2 o 0 fun (v9 : Int64) => if v9 = (Int32.toInt64 o5.1) then (k7) else (none)) else (k7)) else (none)
set_option maxHeartbeats 4000000 in
set_option maxRecDepth 100000 in
theorem c_law_43 {Cn : Nat → CT} {b Ls : Nat} {xs : Nat → Int32} {Q : Unit → State → Prop} {x m o : Nat} {i : Int32} (hf : Fam Cn b Ls xs) (tx0 : tT (Cn 0) x 10) (tm0 : tT (Cn 0) m 11) (to0 : tT (Cn 0) o 14) (S : St) (c : Nat) (hc : c ≤ 512) (kont : St → Nat → Option Unit) (hk : ∀ (S : St) (c : Nat), c ≤ 512 → Jd (Cn c) 8 Q S 4006 [some (.ref b), some (.ref x), some (.ref m), some (.ref o), some (.int i), none, none, none] [] (kont S c)) : Jd (Cn c) 8 Q S 2806 [some (.ref b), some (.ref x), some (.ref m), some (.ref o), some (.int i), none, none, none] [] (f_law_43 Ls xs S x m o i c kont) := by
  have X := hf.X hc
  have E := hf.E c
  have tx_ := hf.T c tx0
  have tm_ := hf.T c tm0
  have to_ := hf.T c to0
  unfold f_law_43
  refine s_run X ok_law_43 0 5 (pc' := 2812) (vs' := [some (.ref b), some (.ref x), some (.ref m), some (.ref o), some (.int i), none, none, none]) (st' := [.int (i + 1), .ref b, .ref x]) rfl ?_
  refine s_sld hf (dk okd_law_43 0 rfl) (fun v1 => ?_)
  refine s_run X ok_law_43 5 1 (pc' := 2814) (vs' := [some (.ref b), some (.ref x), some (.ref m), some (.ref o), some (.int i), none, none, none]) (st' := [.ref o, .int v1, .ref x]) rfl ?_
  refine s_callH (c0 := c) (As := [.ref x, .int v1, .ref o]) (rest := []) hf mh_L_335 (c_L_status S x v1 o) (ta2 tx_ to_) rfl rfl (Nat.le_of_ble_eq_true rfl) (Nat.le_of_ble_eq_true rfl) (Nat.le_of_ble_eq_true rfl) (dk okd_law_43 1 rfl) (st' := fun o2 => [.int o2.1]) (fun _ => rfl) (fun o2 hb3 => ?_)
  have X := hf.X hb3
  have E := hf.E (c + o2.2.2)
  have tx_ := hf.T (c + o2.2.2) tx_
  have tm_ := hf.T (c + o2.2.2) tm_
  have to_ := hf.T (c + o2.2.2) to_
  refine s_run X ok_law_43 6 6 (pc' := 2825) (vs' := [some (.ref b), some (.ref x), some (.ref m), some (.ref o), some (.int i), some (.int o2.1), none, none]) (st' := [.int (i + 1), .ref b, .ref m]) rfl ?_
  refine s_sld hf (dk okd_law_43 2 rfl) (fun v4 => ?_)
  refine s_callV (b := m) (As := [.int v4]) (rest := []) X E mv_L_337 (c_X12_status o2.2.1 m v4) rfl (ta1 tm_) rfl (by decide) tm_ rfl rfl (Nat.le_of_ble_eq_true rfl) (Nat.le_of_ble_eq_true rfl) (Nat.le_of_ble_eq_true rfl) (dk okd_law_43 3 rfl) (st' := fun o5 => [.int o5.1]) (fun _ => rfl) (fun o5 => ?_)
  refine s_run X ok_law_43 12 2 (pc' := 2832) (vs' := [some (.ref b), some (.ref x), some (.ref m), some (.ref o), some (.int i), some (.int o2.1), some (.int o5.1), none]) (st' := [.ref m]) rfl ?_
  refine s_callV (b := m) (As := []) (rest := []) X E mv_L_214 (c_X12_thrown o5.2 m) rfl (ta1 tm_) rfl (by decide) tm_ rfl rfl (Nat.le_of_ble_eq_true rfl) (Nat.le_of_ble_eq_true rfl) (Nat.le_of_ble_eq_true rfl) (dk okd_law_43 4 rfl) (st' := fun v6 => [.int v6]) (fun _ => rfl) (fun v6 => ?_)
  refine s_run X ok_law_43 14 1 (pc' := 2837) (vs' := [some (.ref b), some (.ref x), some (.ref m), some (.ref o), some (.int i), some (.int o2.1), some (.int o5.1), none]) (st' := [.int o2.1, .int v6]) rfl ?_
  refine s_icmp_eq (tgt := 2842) X (dk okd_law_43 5 rfl) (by decide) ?_ ?_
  · refine s_run X ok_law_43 16 1 (pc' := 2844) (vs' := [some (.ref b), some (.ref x), some (.ref m), some (.ref o), some (.int i), some (.int o2.1), some (.int o5.1), none]) (st' := [.int o2.1]) rfl ?_
    refine s_jn (κ := Option (Unit)) (fun k7 => Jd (Cn (c + o2.2.2)) 8 Q o5.2 2859 [some (.ref b), some (.ref x), some (.ref m), some (.ref o), some (.int i), none, none, none] [] k7) ?_ (fun k7 h8 => ?_)
    · refine s_run X ok_law_43 23 1 (pc' := 4006) (vs' := [some (.ref b), some (.ref x), some (.ref m), some (.ref o), some (.int i), none, none, none]) (st' := []) rfl ?_
      exact s_less [true, true, true, true, true, false, false, false] rfl (hk o5.2 ((c + o2.2.2)) hb3)
    · refine s_if_ne (tgt := 2859) X (dk okd_law_43 7 rfl) (by decide) ?_ ?_
      · exact s_less [true, true, true, true, true, false, false, false] rfl (h8)
      · refine s_run X ok_law_43 17 2 (pc' := 2849) (vs' := [some (.ref b), some (.ref x), some (.ref m), some (.ref o), some (.int i), some (.int o2.1), some (.int o5.1), none]) (st' := [.int 0, .ref o]) rfl ?_
        refine s_lald X to_ (dk okd_law_43 8 rfl) (fun v9 => ?_)
        refine s_run X ok_law_43 19 3 (pc' := 2854) (vs' := [some (.ref b), some (.ref x), some (.ref m), some (.ref o), some (.int i), some (.int o2.1), some (.int o5.1), none]) (st' := [.int (lg_cmp v9 (Int32.toInt64 o5.1))]) rfl ?_
        refine s_lif_eq (tgt := 2859) X (dk okd_law_43 9 rfl) (by decide) ?_ ?_
        · exact s_less [true, true, true, true, true, false, false, false] rfl (h8)
        · refine s_run X ok_law_43 22 1 (pc' := 2858) (vs' := [some (.ref b), some (.ref x), some (.ref m), some (.ref o), some (.int i), some (.int o2.1), some (.int o5.1), none]) (st' := [.int 0]) rfl ?_
          exact s_none
  · refine s_run X ok_law_43 15 1 (pc' := 2841) (vs' := [some (.ref b), some (.ref x), some (.ref m), some (.ref o), some (.int i), some (.int o2.1), some (.int o5.1), none]) (st' := [.int 0]) rfl ?_
    exact s_none
def tab_law_44 : List En := [(2862, 8, 1, 0), (2866, 8, 2, 0), (2870, 40, 0, 0), (2874, 0, 0, 0)]
theorem ok_law_44 : tab_law_44.all (okE code) = true := by decide +kernel
def ed_law_44 : List (Nat × Instr × Nat) := [(2863, .invokevirtual 338, 3), (2867, .invokevirtual 341, 3), (2871, .ifCond .eq 1135, 3), (2875, .ireturn, 1)]
theorem okd_law_44 : ed_law_44.all (okD code) = true := by decide +kernel
def f_law_44 (Ls : Nat) (xs : Nat → Int32) (S : St) (x m o : Nat) (i : Int32) (c : Nat) (kont : St → Nat → Option Unit) : Option Unit := cl (f_X11_fundBalance S x) fun (v1 : Int64) => cl (f_X12_fundBalance S m) fun (o2 : Int64 × St) => if v1 = o2.1 then (kont o2.2 (c)) else (none)
set_option maxHeartbeats 4000000 in
set_option maxRecDepth 100000 in
theorem c_law_44 {Cn : Nat → CT} {b Ls : Nat} {xs : Nat → Int32} {Q : Unit → State → Prop} {x m o : Nat} {i : Int32} (hf : Fam Cn b Ls xs) (tx0 : tT (Cn 0) x 10) (tm0 : tT (Cn 0) m 11) (to0 : tT (Cn 0) o 14) (S : St) (c : Nat) (hc : c ≤ 512) (kont : St → Nat → Option Unit) (hk : ∀ (S : St) (c : Nat), c ≤ 512 → Jd (Cn c) 8 Q S 4006 [some (.ref b), some (.ref x), some (.ref m), some (.ref o), some (.int i), none, none, none] [] (kont S c)) : Jd (Cn c) 8 Q S 2862 [some (.ref b), some (.ref x), some (.ref m), some (.ref o), some (.int i), none, none, none] [] (f_law_44 Ls xs S x m o i c kont) := by
  have X := hf.X hc
  have E := hf.E c
  have tx_ := hf.T c tx0
  have tm_ := hf.T c tm0
  have to_ := hf.T c to0
  unfold f_law_44
  refine s_run X ok_law_44 0 1 (pc' := 2863) (vs' := [some (.ref b), some (.ref x), some (.ref m), some (.ref o), some (.int i), none, none, none]) (st' := [.ref x]) rfl ?_
  refine s_callV (b := x) (As := []) (rest := []) X E mv_L_338 (c_X11_fundBalance S x) rfl (ta1 tx_) rfl (by decide) tx_ rfl rfl (Nat.le_of_ble_eq_true rfl) (Nat.le_of_ble_eq_true rfl) (Nat.le_of_ble_eq_true rfl) (dk okd_law_44 0 rfl) (st' := fun v1 => [.long v1]) (fun _ => rfl) (fun v1 => ?_)
  refine s_run X ok_law_44 1 1 (pc' := 2867) (vs' := [some (.ref b), some (.ref x), some (.ref m), some (.ref o), some (.int i), none, none, none]) (st' := [.ref m, .long v1]) rfl ?_
  refine s_callV (b := m) (As := []) (rest := [.long v1]) X E mv_L_341 (c_X12_fundBalance S m) rfl (ta1 tm_) rfl (by decide) tm_ rfl rfl (Nat.le_of_ble_eq_true rfl) (Nat.le_of_ble_eq_true rfl) (Nat.le_of_ble_eq_true rfl) (dk okd_law_44 1 rfl) (st' := fun o2 => [.long o2.1, .long v1]) (fun _ => rfl) (fun o2 => ?_)
  refine s_run X ok_law_44 2 1 (pc' := 2871) (vs' := [some (.ref b), some (.ref x), some (.ref m), some (.ref o), some (.int i), none, none, none]) (st' := [.int (lg_cmp v1 o2.1)]) rfl ?_
  refine s_lif_eq (tgt := 4006) X (dk okd_law_44 2 rfl) (by decide) ?_ ?_
  · exact s_less [true, true, true, true, true, false, false, false] rfl (hk o2.2 (c) hc)
  · refine s_run X ok_law_44 3 1 (pc' := 2875) (vs' := [some (.ref b), some (.ref x), some (.ref m), some (.ref o), some (.int i), none, none, none]) (st' := [.int 0]) rfl ?_
    exact s_none
def tab_law_45 : List En := [(2876, 8, 1, 0), (2877, 8, 0, 0), (2878, 5, 4, 0), (2880, 0, 0, 1), (2881, 17, 0, 0), (2883, 8, 3, 0), (2887, 11, 5, 0), (2889, 8, 2, 0), (2890, 8, 0, 0), (2891, 5, 4, 0), (2893, 0, 0, 1), (2894, 17, 0, 0), (2899, 13, 6, 0), (2901, 8, 2, 0), (2905, 5, 5, 0), (2910, 0, 0, 0), (2912, 5, 5, 0), (2917, 8, 3, 0), (2918, 0, 0, 0), (2920, 7, 6, 0), (2922, 40, 0, 0), (2926, 0, 0, 0), (2928, 41, 4006, 0)]
theorem ok_law_45 : tab_law_45.all (okE code) = true := by decide +kernel
def ed_law_45 : List (Nat × Instr × Nat) := [(2882, .iaload, 1), (2884, .invokestatic 342, 3), (2895, .iaload, 1), (2896, .invokevirtual 344, 3), (2902, .invokevirtual 214, 3), (2907, .if_icmp .eq 5, 3), (2911, .ireturn, 1), (2914, .ifCond .ne 14, 3), (2919, .laload, 1), (2923, .ifCond .eq 5, 3), (2927, .ireturn, 1)]
theorem okd_law_45 : ed_law_45.all (okD code) = true := by decide +kernel
def f_law_45 (Ls : Nat) (xs : Nat → Int32) (S : St) (x m o : Nat) (i : Int32) (c : Nat) (kont : St → Nat → Option Unit) : Option Unit := sx Ls xs (i + 1) fun (v1 : Int32) => cl (f_L_contributions S x v1 o) fun (o2 : Int32 × St × Nat) => bud (c + o2.2.2) <| sx Ls xs (i + 1) fun (v4 : Int32) => cl (f_X12_contributions o2.2.1 m v4) fun (o5 : Int64 × St) => cl (f_X12_thrown o5.2 m) fun (v6 : Int32) => if v6 = o2.1 then (jn (κ := Option (Unit)) (kont o5.2 ((c + o2.2.2))) fun k7 => if o2.1 = 0 then (ldJ o5.2 o 0 fun (v9 : Int64) => if v9 = o5.1 then (k7) else (none)) else (k7)) else (none)
set_option maxHeartbeats 4000000 in
set_option maxRecDepth 100000 in
theorem c_law_45 {Cn : Nat → CT} {b Ls : Nat} {xs : Nat → Int32} {Q : Unit → State → Prop} {x m o : Nat} {i : Int32} (hf : Fam Cn b Ls xs) (tx0 : tT (Cn 0) x 10) (tm0 : tT (Cn 0) m 11) (to0 : tT (Cn 0) o 14) (S : St) (c : Nat) (hc : c ≤ 512) (kont : St → Nat → Option Unit) (hk : ∀ (S : St) (c : Nat), c ≤ 512 → Jd (Cn c) 8 Q S 4006 [some (.ref b), some (.ref x), some (.ref m), some (.ref o), some (.int i), none, none, none] [] (kont S c)) : Jd (Cn c) 8 Q S 2876 [some (.ref b), some (.ref x), some (.ref m), some (.ref o), some (.int i), none, none, none] [] (f_law_45 Ls xs S x m o i c kont) := by
  have X := hf.X hc
  have E := hf.E c
  have tx_ := hf.T c tx0
  have tm_ := hf.T c tm0
  have to_ := hf.T c to0
  unfold f_law_45
  refine s_run X ok_law_45 0 5 (pc' := 2882) (vs' := [some (.ref b), some (.ref x), some (.ref m), some (.ref o), some (.int i), none, none, none]) (st' := [.int (i + 1), .ref b, .ref x]) rfl ?_
  refine s_sld hf (dk okd_law_45 0 rfl) (fun v1 => ?_)
  refine s_run X ok_law_45 5 1 (pc' := 2884) (vs' := [some (.ref b), some (.ref x), some (.ref m), some (.ref o), some (.int i), none, none, none]) (st' := [.ref o, .int v1, .ref x]) rfl ?_
  refine s_callH (c0 := c) (As := [.ref x, .int v1, .ref o]) (rest := []) hf mh_L_342 (c_L_contributions S x v1 o) (ta2 tx_ to_) rfl rfl (Nat.le_of_ble_eq_true rfl) (Nat.le_of_ble_eq_true rfl) (Nat.le_of_ble_eq_true rfl) (dk okd_law_45 1 rfl) (st' := fun o2 => [.int o2.1]) (fun _ => rfl) (fun o2 hb3 => ?_)
  have X := hf.X hb3
  have E := hf.E (c + o2.2.2)
  have tx_ := hf.T (c + o2.2.2) tx_
  have tm_ := hf.T (c + o2.2.2) tm_
  have to_ := hf.T (c + o2.2.2) to_
  refine s_run X ok_law_45 6 6 (pc' := 2895) (vs' := [some (.ref b), some (.ref x), some (.ref m), some (.ref o), some (.int i), some (.int o2.1), none, none]) (st' := [.int (i + 1), .ref b, .ref m]) rfl ?_
  refine s_sld hf (dk okd_law_45 2 rfl) (fun v4 => ?_)
  refine s_callV (b := m) (As := [.int v4]) (rest := []) X E mv_L_344 (c_X12_contributions o2.2.1 m v4) rfl (ta1 tm_) rfl (by decide) tm_ rfl rfl (Nat.le_of_ble_eq_true rfl) (Nat.le_of_ble_eq_true rfl) (Nat.le_of_ble_eq_true rfl) (dk okd_law_45 3 rfl) (st' := fun o5 => [.long o5.1]) (fun _ => rfl) (fun o5 => ?_)
  refine s_run X ok_law_45 12 2 (pc' := 2902) (vs' := [some (.ref b), some (.ref x), some (.ref m), some (.ref o), some (.int i), some (.int o2.1), some (.long o5.1), none]) (st' := [.ref m]) rfl ?_
  refine s_callV (b := m) (As := []) (rest := []) X E mv_L_214 (c_X12_thrown o5.2 m) rfl (ta1 tm_) rfl (by decide) tm_ rfl rfl (Nat.le_of_ble_eq_true rfl) (Nat.le_of_ble_eq_true rfl) (Nat.le_of_ble_eq_true rfl) (dk okd_law_45 4 rfl) (st' := fun v6 => [.int v6]) (fun _ => rfl) (fun v6 => ?_)
  refine s_run X ok_law_45 14 1 (pc' := 2907) (vs' := [some (.ref b), some (.ref x), some (.ref m), some (.ref o), some (.int i), some (.int o2.1), some (.long o5.1), none]) (st' := [.int o2.1, .int v6]) rfl ?_
  refine s_icmp_eq (tgt := 2912) X (dk okd_law_45 5 rfl) (by decide) ?_ ?_
  · refine s_run X ok_law_45 16 1 (pc' := 2914) (vs' := [some (.ref b), some (.ref x), some (.ref m), some (.ref o), some (.int i), some (.int o2.1), some (.long o5.1), none]) (st' := [.int o2.1]) rfl ?_
    refine s_jn (κ := Option (Unit)) (fun k7 => Jd (Cn (c + o2.2.2)) 8 Q o5.2 2928 [some (.ref b), some (.ref x), some (.ref m), some (.ref o), some (.int i), none, none, none] [] k7) ?_ (fun k7 h8 => ?_)
    · refine s_run X ok_law_45 22 1 (pc' := 4006) (vs' := [some (.ref b), some (.ref x), some (.ref m), some (.ref o), some (.int i), none, none, none]) (st' := []) rfl ?_
      exact s_less [true, true, true, true, true, false, false, false] rfl (hk o5.2 ((c + o2.2.2)) hb3)
    · refine s_if_ne (tgt := 2928) X (dk okd_law_45 7 rfl) (by decide) ?_ ?_
      · exact s_less [true, true, true, true, true, false, false, false] rfl (h8)
      · refine s_run X ok_law_45 17 2 (pc' := 2919) (vs' := [some (.ref b), some (.ref x), some (.ref m), some (.ref o), some (.int i), some (.int o2.1), some (.long o5.1), none]) (st' := [.int 0, .ref o]) rfl ?_
        refine s_lald X to_ (dk okd_law_45 8 rfl) (fun v9 => ?_)
        refine s_run X ok_law_45 19 2 (pc' := 2923) (vs' := [some (.ref b), some (.ref x), some (.ref m), some (.ref o), some (.int i), some (.int o2.1), some (.long o5.1), none]) (st' := [.int (lg_cmp v9 o5.1)]) rfl ?_
        refine s_lif_eq (tgt := 2928) X (dk okd_law_45 9 rfl) (by decide) ?_ ?_
        · exact s_less [true, true, true, true, true, false, false, false] rfl (h8)
        · refine s_run X ok_law_45 21 1 (pc' := 2927) (vs' := [some (.ref b), some (.ref x), some (.ref m), some (.ref o), some (.int i), some (.int o2.1), some (.long o5.1), none]) (st' := [.int 0]) rfl ?_
          exact s_none
  · refine s_run X ok_law_45 15 1 (pc' := 2911) (vs' := [some (.ref b), some (.ref x), some (.ref m), some (.ref o), some (.int i), some (.int o2.1), some (.long o5.1), none]) (st' := [.int 0]) rfl ?_
    exact s_none
def tab_law_46 : List En := [(2931, 8, 1, 0), (2932, 8, 0, 0), (2933, 5, 4, 0), (2935, 0, 0, 1), (2936, 17, 0, 0), (2938, 8, 3, 0), (2942, 11, 5, 0), (2944, 8, 2, 0), (2945, 8, 0, 0), (2946, 5, 4, 0), (2948, 0, 0, 1), (2949, 17, 0, 0), (2954, 13, 6, 0), (2956, 8, 2, 0), (2960, 5, 5, 0), (2965, 0, 0, 0), (2967, 5, 5, 0), (2972, 8, 3, 0), (2973, 0, 0, 0), (2975, 7, 6, 0), (2977, 40, 0, 0), (2981, 0, 0, 0), (2983, 41, 4006, 0)]
theorem ok_law_46 : tab_law_46.all (okE code) = true := by decide +kernel
def ed_law_46 : List (Nat × Instr × Nat) := [(2937, .iaload, 1), (2939, .invokestatic 345, 3), (2950, .iaload, 1), (2951, .invokevirtual 347, 3), (2957, .invokevirtual 214, 3), (2962, .if_icmp .eq 5, 3), (2966, .ireturn, 1), (2969, .ifCond .ne 14, 3), (2974, .laload, 1), (2978, .ifCond .eq 5, 3), (2982, .ireturn, 1)]
theorem okd_law_46 : ed_law_46.all (okD code) = true := by decide +kernel
def f_law_46 (Ls : Nat) (xs : Nat → Int32) (S : St) (x m o : Nat) (i : Int32) (c : Nat) (kont : St → Nat → Option Unit) : Option Unit := sx Ls xs (i + 1) fun (v1 : Int32) => cl (f_L_spent S x v1 o) fun (o2 : Int32 × St × Nat) => bud (c + o2.2.2) <| sx Ls xs (i + 1) fun (v4 : Int32) => cl (f_X12_spent o2.2.1 m v4) fun (o5 : Int64 × St) => cl (f_X12_thrown o5.2 m) fun (v6 : Int32) => if v6 = o2.1 then (jn (κ := Option (Unit)) (kont o5.2 ((c + o2.2.2))) fun k7 => if o2.1 = 0 then (ldJ o5.2 o 0 fun (v9 : Int64) => if v9 = o5.1 then (k7) else (none)) else (k7)) else (none)
set_option maxHeartbeats 4000000 in
set_option maxRecDepth 100000 in
theorem c_law_46 {Cn : Nat → CT} {b Ls : Nat} {xs : Nat → Int32} {Q : Unit → State → Prop} {x m o : Nat} {i : Int32} (hf : Fam Cn b Ls xs) (tx0 : tT (Cn 0) x 10) (tm0 : tT (Cn 0) m 11) (to0 : tT (Cn 0) o 14) (S : St) (c : Nat) (hc : c ≤ 512) (kont : St → Nat → Option Unit) (hk : ∀ (S : St) (c : Nat), c ≤ 512 → Jd (Cn c) 8 Q S 4006 [some (.ref b), some (.ref x), some (.ref m), some (.ref o), some (.int i), none, none, none] [] (kont S c)) : Jd (Cn c) 8 Q S 2931 [some (.ref b), some (.ref x), some (.ref m), some (.ref o), some (.int i), none, none, none] [] (f_law_46 Ls xs S x m o i c kont) := by
  have X := hf.X hc
  have E := hf.E c
  have tx_ := hf.T c tx0
  have tm_ := hf.T c tm0
  have to_ := hf.T c to0
  unfold f_law_46
  refine s_run X ok_law_46 0 5 (pc' := 2937) (vs' := [some (.ref b), some (.ref x), some (.ref m), some (.ref o), some (.int i), none, none, none]) (st' := [.int (i + 1), .ref b, .ref x]) rfl ?_
  refine s_sld hf (dk okd_law_46 0 rfl) (fun v1 => ?_)
  refine s_run X ok_law_46 5 1 (pc' := 2939) (vs' := [some (.ref b), some (.ref x), some (.ref m), some (.ref o), some (.int i), none, none, none]) (st' := [.ref o, .int v1, .ref x]) rfl ?_
  refine s_callH (c0 := c) (As := [.ref x, .int v1, .ref o]) (rest := []) hf mh_L_345 (c_L_spent S x v1 o) (ta2 tx_ to_) rfl rfl (Nat.le_of_ble_eq_true rfl) (Nat.le_of_ble_eq_true rfl) (Nat.le_of_ble_eq_true rfl) (dk okd_law_46 1 rfl) (st' := fun o2 => [.int o2.1]) (fun _ => rfl) (fun o2 hb3 => ?_)
  have X := hf.X hb3
  have E := hf.E (c + o2.2.2)
  have tx_ := hf.T (c + o2.2.2) tx_
  have tm_ := hf.T (c + o2.2.2) tm_
  have to_ := hf.T (c + o2.2.2) to_
  refine s_run X ok_law_46 6 6 (pc' := 2950) (vs' := [some (.ref b), some (.ref x), some (.ref m), some (.ref o), some (.int i), some (.int o2.1), none, none]) (st' := [.int (i + 1), .ref b, .ref m]) rfl ?_
  refine s_sld hf (dk okd_law_46 2 rfl) (fun v4 => ?_)
  refine s_callV (b := m) (As := [.int v4]) (rest := []) X E mv_L_347 (c_X12_spent o2.2.1 m v4) rfl (ta1 tm_) rfl (by decide) tm_ rfl rfl (Nat.le_of_ble_eq_true rfl) (Nat.le_of_ble_eq_true rfl) (Nat.le_of_ble_eq_true rfl) (dk okd_law_46 3 rfl) (st' := fun o5 => [.long o5.1]) (fun _ => rfl) (fun o5 => ?_)
  refine s_run X ok_law_46 12 2 (pc' := 2957) (vs' := [some (.ref b), some (.ref x), some (.ref m), some (.ref o), some (.int i), some (.int o2.1), some (.long o5.1), none]) (st' := [.ref m]) rfl ?_
  refine s_callV (b := m) (As := []) (rest := []) X E mv_L_214 (c_X12_thrown o5.2 m) rfl (ta1 tm_) rfl (by decide) tm_ rfl rfl (Nat.le_of_ble_eq_true rfl) (Nat.le_of_ble_eq_true rfl) (Nat.le_of_ble_eq_true rfl) (dk okd_law_46 4 rfl) (st' := fun v6 => [.int v6]) (fun _ => rfl) (fun v6 => ?_)
  refine s_run X ok_law_46 14 1 (pc' := 2962) (vs' := [some (.ref b), some (.ref x), some (.ref m), some (.ref o), some (.int i), some (.int o2.1), some (.long o5.1), none]) (st' := [.int o2.1, .int v6]) rfl ?_
  refine s_icmp_eq (tgt := 2967) X (dk okd_law_46 5 rfl) (by decide) ?_ ?_
  · refine s_run X ok_law_46 16 1 (pc' := 2969) (vs' := [some (.ref b), some (.ref x), some (.ref m), some (.ref o), some (.int i), some (.int o2.1), some (.long o5.1), none]) (st' := [.int o2.1]) rfl ?_
    refine s_jn (κ := Option (Unit)) (fun k7 => Jd (Cn (c + o2.2.2)) 8 Q o5.2 2983 [some (.ref b), some (.ref x), some (.ref m), some (.ref o), some (.int i), none, none, none] [] k7) ?_ (fun k7 h8 => ?_)
    · refine s_run X ok_law_46 22 1 (pc' := 4006) (vs' := [some (.ref b), some (.ref x), some (.ref m), some (.ref o), some (.int i), none, none, none]) (st' := []) rfl ?_
      exact s_less [true, true, true, true, true, false, false, false] rfl (hk o5.2 ((c + o2.2.2)) hb3)
    · refine s_if_ne (tgt := 2983) X (dk okd_law_46 7 rfl) (by decide) ?_ ?_
      · exact s_less [true, true, true, true, true, false, false, false] rfl (h8)
      · refine s_run X ok_law_46 17 2 (pc' := 2974) (vs' := [some (.ref b), some (.ref x), some (.ref m), some (.ref o), some (.int i), some (.int o2.1), some (.long o5.1), none]) (st' := [.int 0, .ref o]) rfl ?_
        refine s_lald X to_ (dk okd_law_46 8 rfl) (fun v9 => ?_)
        refine s_run X ok_law_46 19 2 (pc' := 2978) (vs' := [some (.ref b), some (.ref x), some (.ref m), some (.ref o), some (.int i), some (.int o2.1), some (.long o5.1), none]) (st' := [.int (lg_cmp v9 o5.1)]) rfl ?_
        refine s_lif_eq (tgt := 2983) X (dk okd_law_46 9 rfl) (by decide) ?_ ?_
        · exact s_less [true, true, true, true, true, false, false, false] rfl (h8)
        · refine s_run X ok_law_46 21 1 (pc' := 2982) (vs' := [some (.ref b), some (.ref x), some (.ref m), some (.ref o), some (.int i), some (.int o2.1), some (.long o5.1), none]) (st' := [.int 0]) rfl ?_
          exact s_none
  · refine s_run X ok_law_46 15 1 (pc' := 2966) (vs' := [some (.ref b), some (.ref x), some (.ref m), some (.ref o), some (.int i), some (.int o2.1), some (.long o5.1), none]) (st' := [.int 0]) rfl ?_
    exact s_none
def tab_law_47 : List En := [(2986, 8, 1, 0), (2987, 8, 0, 0), (2988, 5, 4, 0), (2990, 0, 0, 1), (2991, 17, 0, 0), (2993, 31, 0, 0), (2994, 1, 0, 32), (2996, 34, 0, 0), (2997, 8, 0, 0), (2998, 5, 4, 0), (3000, 0, 0, 2), (3001, 17, 0, 0), (3003, 31, 0, 0), (3007, 26, 0, 0), (3008, 27, 0, 0), (3009, 8, 3, 0), (3013, 11, 5, 0), (3015, 8, 2, 0), (3016, 8, 0, 0), (3017, 5, 4, 0), (3019, 0, 0, 1), (3020, 17, 0, 0), (3022, 31, 0, 0), (3023, 1, 0, 32), (3025, 34, 0, 0), (3026, 8, 0, 0), (3027, 5, 4, 0), (3029, 0, 0, 2), (3030, 17, 0, 0), (3032, 31, 0, 0), (3036, 26, 0, 0), (3037, 27, 0, 0), (3041, 11, 6, 0), (3043, 8, 2, 0), (3047, 5, 5, 0), (3052, 0, 0, 0), (3054, 5, 5, 0), (3059, 8, 3, 0), (3060, 0, 0, 0), (3062, 5, 6, 0), (3067, 3, 1, 0), (3068, 41, 3072, 0), (3071, 3, 0, 0), (3072, 40, 0, 0), (3076, 0, 0, 0), (3078, 41, 4006, 0)]
theorem ok_law_47 : tab_law_47.all (okE code) = true := by decide +kernel
def ed_law_47 : List (Nat × Instr × Nat) := [(2992, .iaload, 1), (3002, .iaload, 1), (3004, .ldc2_w 270, 3), (3010, .invokestatic 348, 3), (3021, .iaload, 1), (3031, .iaload, 1), (3033, .ldc2_w 270, 3), (3038, .invokevirtual 351, 3), (3044, .invokevirtual 214, 3), (3049, .if_icmp .eq 5, 3), (3053, .ireturn, 1), (3056, .ifCond .ne 22, 3), (3061, .laload, 1), (3064, .ifCond .eq 7, 3), (3073, .ifCond .eq 5, 3), (3077, .ireturn, 1)]
theorem okd_law_47 : ed_law_47.all (okD code) = true := by decide +kernel
def f_law_47 (Ls : Nat) (xs : Nat → Int32) (S : St) (x m o : Nat) (i : Int32) (c : Nat) (kont : St → Nat → Option Unit) : Option Unit := sx Ls xs (i + 1) fun (v1 : Int32) => sx Ls xs (i + 2) fun (v2 : Int32) => cl (f_L_campaign S x (((Int32.toInt64 v1) <<< ((Int32.toInt64 32) &&& 63)) ||| ((Int32.toInt64 v2) &&& 4294967295)) o) fun (o3 : Int32 × St × Nat) => bud (c + o3.2.2) <| sx Ls xs (i + 1) fun (v5 : Int32) => sx Ls xs (i + 2) fun (v6 : Int32) => cl (f_X12_campaign o3.2.1 m (((Int32.toInt64 v5) <<< ((Int32.toInt64 32) &&& 63)) ||| ((Int32.toInt64 v6) &&& 4294967295))) fun (o7 : Int32 × St) => cl (f_X12_thrown o7.2 m) fun (v8 : Int32) => if v8 = o3.1 then (jn (κ := Option (Unit)) (kont o7.2 ((c + o3.2.2))) fun k9 => if o3.1 = 0 then (ldJ o7.2 o 0 fun (v11 : Int64) => jn (κ := Int64 → Option (Unit)) (fun x12 => if v11 = x12 then (k9) else (none)) fun k13 => if o7.1 = 0 then (k13 0) else (k13 1)) else (k9)) else (none)
set_option maxHeartbeats 4000000 in
set_option maxRecDepth 100000 in
theorem c_law_47 {Cn : Nat → CT} {b Ls : Nat} {xs : Nat → Int32} {Q : Unit → State → Prop} {x m o : Nat} {i : Int32} (hf : Fam Cn b Ls xs) (tx0 : tT (Cn 0) x 10) (tm0 : tT (Cn 0) m 11) (to0 : tT (Cn 0) o 14) (S : St) (c : Nat) (hc : c ≤ 512) (kont : St → Nat → Option Unit) (hk : ∀ (S : St) (c : Nat), c ≤ 512 → Jd (Cn c) 8 Q S 4006 [some (.ref b), some (.ref x), some (.ref m), some (.ref o), some (.int i), none, none, none] [] (kont S c)) : Jd (Cn c) 8 Q S 2986 [some (.ref b), some (.ref x), some (.ref m), some (.ref o), some (.int i), none, none, none] [] (f_law_47 Ls xs S x m o i c kont) := by
  have X := hf.X hc
  have E := hf.E c
  have tx_ := hf.T c tx0
  have tm_ := hf.T c tm0
  have to_ := hf.T c to0
  unfold f_law_47
  refine s_run X ok_law_47 0 5 (pc' := 2992) (vs' := [some (.ref b), some (.ref x), some (.ref m), some (.ref o), some (.int i), none, none, none]) (st' := [.int (i + 1), .ref b, .ref x]) rfl ?_
  refine s_sld hf (dk okd_law_47 0 rfl) (fun v1 => ?_)
  refine s_run X ok_law_47 5 7 (pc' := 3002) (vs' := [some (.ref b), some (.ref x), some (.ref m), some (.ref o), some (.int i), none, none, none]) (st' := [.int (i + 2), .ref b, .long ((Int32.toInt64 v1) <<< ((Int32.toInt64 32) &&& 63)), .ref x]) rfl ?_
  refine s_sld hf (dk okd_law_47 1 rfl) (fun v2 => ?_)
  refine s_run X ok_law_47 12 1 (pc' := 3004) (vs' := [some (.ref b), some (.ref x), some (.ref m), some (.ref o), some (.int i), none, none, none]) (st' := [.long (Int32.toInt64 v2), .long ((Int32.toInt64 v1) <<< ((Int32.toInt64 32) &&& 63)), .ref x]) rfl ?_
  refine s_ldc2 X cl_L_270 (dk okd_law_47 2 rfl) ?_
  refine s_run X ok_law_47 13 3 (pc' := 3010) (vs' := [some (.ref b), some (.ref x), some (.ref m), some (.ref o), some (.int i), none, none, none]) (st' := [.ref o, .long (((Int32.toInt64 v1) <<< ((Int32.toInt64 32) &&& 63)) ||| ((Int32.toInt64 v2) &&& 4294967295)), .ref x]) rfl ?_
  refine s_callH (c0 := c) (As := [.ref x, .long (((Int32.toInt64 v1) <<< ((Int32.toInt64 32) &&& 63)) ||| ((Int32.toInt64 v2) &&& 4294967295)), .ref o]) (rest := []) hf mh_L_348 (c_L_campaign S x (((Int32.toInt64 v1) <<< ((Int32.toInt64 32) &&& 63)) ||| ((Int32.toInt64 v2) &&& 4294967295)) o) (ta2 tx_ to_) rfl rfl (Nat.le_of_ble_eq_true rfl) (Nat.le_of_ble_eq_true rfl) (Nat.le_of_ble_eq_true rfl) (dk okd_law_47 3 rfl) (st' := fun o3 => [.int o3.1]) (fun _ => rfl) (fun o3 hb4 => ?_)
  have X := hf.X hb4
  have E := hf.E (c + o3.2.2)
  have tx_ := hf.T (c + o3.2.2) tx_
  have tm_ := hf.T (c + o3.2.2) tm_
  have to_ := hf.T (c + o3.2.2) to_
  refine s_run X ok_law_47 16 6 (pc' := 3021) (vs' := [some (.ref b), some (.ref x), some (.ref m), some (.ref o), some (.int i), some (.int o3.1), none, none]) (st' := [.int (i + 1), .ref b, .ref m]) rfl ?_
  refine s_sld hf (dk okd_law_47 4 rfl) (fun v5 => ?_)
  refine s_run X ok_law_47 22 7 (pc' := 3031) (vs' := [some (.ref b), some (.ref x), some (.ref m), some (.ref o), some (.int i), some (.int o3.1), none, none]) (st' := [.int (i + 2), .ref b, .long ((Int32.toInt64 v5) <<< ((Int32.toInt64 32) &&& 63)), .ref m]) rfl ?_
  refine s_sld hf (dk okd_law_47 5 rfl) (fun v6 => ?_)
  refine s_run X ok_law_47 29 1 (pc' := 3033) (vs' := [some (.ref b), some (.ref x), some (.ref m), some (.ref o), some (.int i), some (.int o3.1), none, none]) (st' := [.long (Int32.toInt64 v6), .long ((Int32.toInt64 v5) <<< ((Int32.toInt64 32) &&& 63)), .ref m]) rfl ?_
  refine s_ldc2 X cl_L_270 (dk okd_law_47 6 rfl) ?_
  refine s_run X ok_law_47 30 2 (pc' := 3038) (vs' := [some (.ref b), some (.ref x), some (.ref m), some (.ref o), some (.int i), some (.int o3.1), none, none]) (st' := [.long (((Int32.toInt64 v5) <<< ((Int32.toInt64 32) &&& 63)) ||| ((Int32.toInt64 v6) &&& 4294967295)), .ref m]) rfl ?_
  refine s_callV (b := m) (As := [.long (((Int32.toInt64 v5) <<< ((Int32.toInt64 32) &&& 63)) ||| ((Int32.toInt64 v6) &&& 4294967295))]) (rest := []) X E mv_L_351 (c_X12_campaign o3.2.1 m (((Int32.toInt64 v5) <<< ((Int32.toInt64 32) &&& 63)) ||| ((Int32.toInt64 v6) &&& 4294967295))) rfl (ta1 tm_) rfl (by decide) tm_ rfl rfl (Nat.le_of_ble_eq_true rfl) (Nat.le_of_ble_eq_true rfl) (Nat.le_of_ble_eq_true rfl) (dk okd_law_47 7 rfl) (st' := fun o7 => [.int o7.1]) (fun _ => rfl) (fun o7 => ?_)
  refine s_run X ok_law_47 32 2 (pc' := 3044) (vs' := [some (.ref b), some (.ref x), some (.ref m), some (.ref o), some (.int i), some (.int o3.1), some (.int o7.1), none]) (st' := [.ref m]) rfl ?_
  refine s_callV (b := m) (As := []) (rest := []) X E mv_L_214 (c_X12_thrown o7.2 m) rfl (ta1 tm_) rfl (by decide) tm_ rfl rfl (Nat.le_of_ble_eq_true rfl) (Nat.le_of_ble_eq_true rfl) (Nat.le_of_ble_eq_true rfl) (dk okd_law_47 8 rfl) (st' := fun v8 => [.int v8]) (fun _ => rfl) (fun v8 => ?_)
  refine s_run X ok_law_47 34 1 (pc' := 3049) (vs' := [some (.ref b), some (.ref x), some (.ref m), some (.ref o), some (.int i), some (.int o3.1), some (.int o7.1), none]) (st' := [.int o3.1, .int v8]) rfl ?_
  refine s_icmp_eq (tgt := 3054) X (dk okd_law_47 9 rfl) (by decide) ?_ ?_
  · refine s_run X ok_law_47 36 1 (pc' := 3056) (vs' := [some (.ref b), some (.ref x), some (.ref m), some (.ref o), some (.int i), some (.int o3.1), some (.int o7.1), none]) (st' := [.int o3.1]) rfl ?_
    refine s_jn (κ := Option (Unit)) (fun k9 => Jd (Cn (c + o3.2.2)) 8 Q o7.2 3078 [some (.ref b), some (.ref x), some (.ref m), some (.ref o), some (.int i), none, none, none] [] k9) ?_ (fun k9 h10 => ?_)
    · refine s_run X ok_law_47 45 1 (pc' := 4006) (vs' := [some (.ref b), some (.ref x), some (.ref m), some (.ref o), some (.int i), none, none, none]) (st' := []) rfl ?_
      exact s_less [true, true, true, true, true, false, false, false] rfl (hk o7.2 ((c + o3.2.2)) hb4)
    · refine s_if_ne (tgt := 3078) X (dk okd_law_47 11 rfl) (by decide) ?_ ?_
      · exact s_less [true, true, true, true, true, false, false, false] rfl (h10)
      · refine s_run X ok_law_47 37 2 (pc' := 3061) (vs' := [some (.ref b), some (.ref x), some (.ref m), some (.ref o), some (.int i), some (.int o3.1), some (.int o7.1), none]) (st' := [.int 0, .ref o]) rfl ?_
        refine s_lald X to_ (dk okd_law_47 12 rfl) (fun v11 => ?_)
        refine s_run X ok_law_47 39 1 (pc' := 3064) (vs' := [some (.ref b), some (.ref x), some (.ref m), some (.ref o), some (.int i), some (.int o3.1), some (.int o7.1), none]) (st' := [.int o7.1, .long v11]) rfl ?_
        refine s_jn (κ := Int64 → Option (Unit)) (fun k13 => ∀ (x12 : Int64), Jd (Cn (c + o3.2.2)) 8 Q o7.2 3072 [some (.ref b), some (.ref x), some (.ref m), some (.ref o), some (.int i), none, none, none] [.long x12, .long v11] (k13 x12)) (fun x12 => ?_) (fun k13 h14 => ?_)
        · refine s_run X ok_law_47 43 1 (pc' := 3073) (vs' := [some (.ref b), some (.ref x), some (.ref m), some (.ref o), some (.int i), none, none, none]) (st' := [.int (lg_cmp v11 x12)]) rfl ?_
          refine s_lif_eq (tgt := 3078) X (dk okd_law_47 14 rfl) (by decide) ?_ ?_
          · exact h10
          · refine s_run X ok_law_47 44 1 (pc' := 3077) (vs' := [some (.ref b), some (.ref x), some (.ref m), some (.ref o), some (.int i), none, none, none]) (st' := [.int 0]) rfl ?_
            exact s_none
        · refine s_if_eq (tgt := 3071) X (dk okd_law_47 13 rfl) (by decide) ?_ ?_
          · refine s_run X ok_law_47 42 1 (pc' := 3072) (vs' := [some (.ref b), some (.ref x), some (.ref m), some (.ref o), some (.int i), some (.int o3.1), some (.int o7.1), none]) (st' := [.long 0, .long v11]) rfl ?_
            exact s_less [true, true, true, true, true, false, false, false] rfl (h14 0)
          · refine s_run X ok_law_47 40 2 (pc' := 3072) (vs' := [some (.ref b), some (.ref x), some (.ref m), some (.ref o), some (.int i), some (.int o3.1), some (.int o7.1), none]) (st' := [.long 1, .long v11]) rfl ?_
            exact s_less [true, true, true, true, true, false, false, false] rfl (h14 1)
  · refine s_run X ok_law_47 35 1 (pc' := 3053) (vs' := [some (.ref b), some (.ref x), some (.ref m), some (.ref o), some (.int i), some (.int o3.1), some (.int o7.1), none]) (st' := [.int 0]) rfl ?_
    exact s_none
