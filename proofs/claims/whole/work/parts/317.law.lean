theorem mh_L_352 : MH RL 352 yL_grant cL_grant 6 [(0, 18, 21, 22), (0, 18, 25, 13)] 4 := ⟨TT_7 (i := 72) rfl rfl, TT_7 (i := 73) rfl rfl, TT_1 (i := 0) rfl rfl, TT_7 (i := 74) rfl rfl, ⟨by decide, by decide, by decide +kernel⟩⟩
theorem mh_L_355 : MH RL 355 yL_allowance cL_allowance 4 [(0, 8, 11, 22)] 3 := ⟨TT_7 (i := 80) rfl rfl, TT_7 (i := 81) rfl rfl, TT_1 (i := 0) rfl rfl, TT_7 (i := 82) rfl rfl, ⟨by decide, by decide, by decide +kernel⟩⟩
theorem mh_L_358 : MH RL 358 yL_nationalShare cL_nationalShare 4 [(0, 8, 11, 22)] 3 := ⟨TT_7 (i := 88) rfl rfl, TT_7 (i := 89) rfl rfl, TT_1 (i := 0) rfl rfl, TT_7 (i := 90) rfl rfl, ⟨by decide, by decide, by decide +kernel⟩⟩
theorem mh_L_361 : MH RL 361 yL_requestTransfer cL_requestTransfer 7 [(0, 19, 22, 22), (0, 19, 26, 13)] 5 := ⟨TT_7 (i := 99) rfl rfl, TT_7 (i := 100) rfl rfl, TT_1 (i := 0) rfl rfl, TT_7 (i := 101) rfl rfl, ⟨by decide, by decide, by decide +kernel⟩⟩
theorem mh_L_365 : MH RL 365 yL_vote cL_vote 6 [(0, 12, 15, 22), (0, 12, 19, 13)] 5 := ⟨TT_7 (i := 115) rfl rfl, TT_7 (i := 116) rfl rfl, TT_1 (i := 0) rfl rfl, TT_7 (i := 117) rfl rfl, ⟨by decide, by decide, by decide +kernel⟩⟩
theorem mh_L_369 : MH RL 369 yL_exercise cL_exercise 4 [(0, 16, 19, 22)] 3 := ⟨TT_7 (i := 123) rfl rfl, TT_7 (i := 124) rfl rfl, TT_1 (i := 0) rfl rfl, TT_7 (i := 125) rfl rfl, ⟨by decide, by decide, by decide +kernel⟩⟩
theorem mh_L_372 : MH RL 372 yL_withdraw cL_withdraw 4 [(0, 16, 19, 22)] 3 := ⟨TT_7 (i := 134) rfl rfl, TT_7 (i := 135) rfl rfl, TT_1 (i := 0) rfl rfl, TT_7 (i := 136) rfl rfl, ⟨by decide, by decide, by decide +kernel⟩⟩
theorem mh_L_375 : MH RL 375 yL_transferState cL_transferState 4 [(0, 9, 12, 22)] 3 := ⟨TT_7 (i := 142) rfl rfl, TT_7 (i := 143) rfl rfl, TT_1 (i := 0) rfl rfl, TT_7 (i := 144) rfl rfl, ⟨by decide, by decide, by decide +kernel⟩⟩
theorem mv_L_354 : MV RL 354 yX12_grant cX12_grant 4 (some .boolean) 2 := ⟨TT_9 (i := 184) rfl rfl, TT_9 (i := 185) rfl rfl, TT_9 (i := 186) rfl rfl, TT_1 (i := 13) rfl rfl, TT_9 (i := 187) rfl rfl, ⟨by decide, by decide, by decide +kernel⟩⟩
theorem mv_L_357 : MV RL 357 yX12_allowance cX12_allowance 2 (some .long) 1 := ⟨TT_9 (i := 192) rfl rfl, TT_9 (i := 193) rfl rfl, TT_9 (i := 194) rfl rfl, TT_1 (i := 13) rfl rfl, TT_9 (i := 195) rfl rfl, ⟨by decide, by decide, by decide +kernel⟩⟩
theorem mv_L_360 : MV RL 360 yX12_nationalShare cX12_nationalShare 11 (some .long) 1 := ⟨TT_9 (i := 196) rfl rfl, TT_9 (i := 197) rfl rfl, TT_9 (i := 198) rfl rfl, TT_1 (i := 13) rfl rfl, TT_9 (i := 199) rfl rfl, ⟨by decide, by decide, by decide +kernel⟩⟩
theorem mv_L_364 : MV RL 364 yX12_requestTransfer cX12_requestTransfer 5 (some .boolean) 3 := ⟨TT_9 (i := 204) rfl rfl, TT_9 (i := 205) rfl rfl, TT_9 (i := 206) rfl rfl, TT_1 (i := 13) rfl rfl, TT_9 (i := 207) rfl rfl, ⟨by decide, by decide, by decide +kernel⟩⟩
theorem mv_L_368 : MV RL 368 yX12_vote cX12_vote 4 (some .int) 3 := ⟨TT_9 (i := 209) rfl rfl, TT_9 (i := 210) rfl rfl, TT_9 (i := 211) rfl rfl, TT_1 (i := 13) rfl rfl, TT_9 (i := 212) rfl rfl, ⟨by decide, by decide, by decide +kernel⟩⟩
theorem mv_L_371 : MV RL 371 yX12_exercise cX12_exercise 2 (some .boolean) 1 := ⟨TT_9 (i := 213) rfl rfl, TT_9 (i := 214) rfl rfl, TT_9 (i := 215) rfl rfl, TT_1 (i := 13) rfl rfl, TT_9 (i := 216) rfl rfl, ⟨by decide, by decide, by decide +kernel⟩⟩
theorem mv_L_374 : MV RL 374 yX12_withdraw cX12_withdraw 2 (some .boolean) 1 := ⟨TT_9 (i := 218) rfl rfl, TT_9 (i := 219) rfl rfl, TT_9 (i := 220) rfl rfl, TT_1 (i := 13) rfl rfl, TT_9 (i := 221) rfl rfl, ⟨by decide, by decide, by decide +kernel⟩⟩
theorem mv_L_377 : MV RL 377 yX12_transferState cX12_transferState 2 (some .int) 1 := ⟨TT_9 (i := 222) rfl rfl, TT_9 (i := 223) rfl rfl, TT_9 (i := 224) rfl rfl, TT_1 (i := 13) rfl rfl, TT_9 (i := 225) rfl rfl, ⟨by decide, by decide, by decide +kernel⟩⟩
def tab_law_48 : List En := [(3081, 8, 1, 0), (3082, 8, 0, 0), (3083, 5, 4, 0), (3085, 0, 0, 1), (3086, 17, 0, 0), (3088, 8, 0, 0), (3089, 5, 4, 0), (3091, 0, 0, 2), (3092, 17, 0, 0), (3094, 31, 0, 0), (3095, 1, 0, 32), (3097, 34, 0, 0), (3098, 8, 0, 0), (3099, 5, 4, 0), (3101, 0, 0, 3), (3102, 17, 0, 0), (3104, 31, 0, 0), (3108, 26, 0, 0), (3109, 27, 0, 0), (3110, 8, 3, 0), (3114, 11, 5, 0), (3116, 8, 2, 0), (3117, 8, 0, 0), (3118, 5, 4, 0), (3120, 0, 0, 1), (3121, 17, 0, 0), (3123, 8, 0, 0), (3124, 5, 4, 0), (3126, 0, 0, 2), (3127, 17, 0, 0), (3129, 31, 0, 0), (3130, 1, 0, 32), (3132, 34, 0, 0), (3133, 8, 0, 0), (3134, 5, 4, 0), (3136, 0, 0, 3), (3137, 17, 0, 0), (3139, 31, 0, 0), (3143, 26, 0, 0), (3144, 27, 0, 0), (3148, 11, 6, 0), (3150, 8, 2, 0), (3154, 5, 5, 0), (3159, 0, 0, 0), (3161, 5, 5, 0), (3166, 8, 3, 0), (3167, 0, 0, 0), (3169, 5, 6, 0), (3174, 3, 1, 0), (3175, 41, 3179, 0), (3178, 3, 0, 0), (3179, 40, 0, 0), (3183, 0, 0, 0), (3185, 41, 4006, 0)]
theorem ok_law_48 : tab_law_48.all (okE code) = true := by decide +kernel
def ed_law_48 : List (Nat × Instr × Nat) := [(3087, .iaload, 1), (3093, .iaload, 1), (3103, .iaload, 1), (3105, .ldc2_w 270, 3), (3111, .invokestatic 352, 3), (3122, .iaload, 1), (3128, .iaload, 1), (3138, .iaload, 1), (3140, .ldc2_w 270, 3), (3145, .invokevirtual 354, 3), (3151, .invokevirtual 214, 3), (3156, .if_icmp .eq 5, 3), (3160, .ireturn, 1), (3163, .ifCond .ne 22, 3), (3168, .laload, 1), (3171, .ifCond .eq 7, 3), (3180, .ifCond .eq 5, 3), (3184, .ireturn, 1)]
theorem okd_law_48 : ed_law_48.all (okD code) = true := by decide +kernel
def f_law_48 (Ls : Nat) (xs : Nat → Int32) (S : St) (x m o : Nat) (i : Int32) (c : Nat) (kont : St → Nat → Option Unit) : Option Unit := sx Ls xs (i + 1) fun (v1 : Int32) => sx Ls xs (i + 2) fun (v2 : Int32) => sx Ls xs (i + 3) fun (v3 : Int32) => cl (f_L_grant S x v1 (((Int32.toInt64 v2) <<< ((Int32.toInt64 32) &&& 63)) ||| ((Int32.toInt64 v3) &&& 4294967295)) o) fun (o4 : Int32 × St × Nat) => bud (c + o4.2.2) <| sx Ls xs (i + 1) fun (v6 : Int32) => sx Ls xs (i + 2) fun (v7 : Int32) => sx Ls xs (i + 3) fun (v8 : Int32) => cl (f_X12_grant o4.2.1 m v6 (((Int32.toInt64 v7) <<< ((Int32.toInt64 32) &&& 63)) ||| ((Int32.toInt64 v8) &&& 4294967295))) fun (o9 : Int32 × St) => cl (f_X12_thrown o9.2 m) fun (v10 : Int32) => if v10 = o4.1 then (jn (κ := Option (Unit)) (kont o9.2 ((c + o4.2.2))) fun k11 => if o4.1 = 0 then (ldJ o9.2 o 0 fun (v13 : Int64) => jn (κ := Int64 → Option (Unit)) (fun x14 => if v13 = x14 then (k11) else (none)) fun k15 => if o9.1 = 0 then (k15 0) else (k15 1)) else (k11)) else (none)
set_option maxHeartbeats 4000000 in
set_option maxRecDepth 100000 in
theorem c_law_48 {Cn : Nat → CT} {b Ls : Nat} {xs : Nat → Int32} {Q : Unit → State → Prop} {x m o : Nat} {i : Int32} (hf : Fam Cn b Ls xs) (tx0 : tT (Cn 0) x 10) (tm0 : tT (Cn 0) m 11) (to0 : tT (Cn 0) o 14) (S : St) (c : Nat) (hc : c ≤ 512) (kont : St → Nat → Option Unit) (hk : ∀ (S : St) (c : Nat), c ≤ 512 → Jd (Cn c) 8 Q S 4006 [some (.ref b), some (.ref x), some (.ref m), some (.ref o), some (.int i), none, none, none] [] (kont S c)) : Jd (Cn c) 8 Q S 3081 [some (.ref b), some (.ref x), some (.ref m), some (.ref o), some (.int i), none, none, none] [] (f_law_48 Ls xs S x m o i c kont) := by
  have X := hf.X hc
  have E := hf.E c
  have tx_ := hf.T c tx0
  have tm_ := hf.T c tm0
  have to_ := hf.T c to0
  unfold f_law_48
  refine s_run X ok_law_48 0 5 (pc' := 3087) (vs' := [some (.ref b), some (.ref x), some (.ref m), some (.ref o), some (.int i), none, none, none]) (st' := [.int (i + 1), .ref b, .ref x]) rfl ?_
  refine s_sld hf (dk okd_law_48 0 rfl) (fun v1 => ?_)
  refine s_run X ok_law_48 5 4 (pc' := 3093) (vs' := [some (.ref b), some (.ref x), some (.ref m), some (.ref o), some (.int i), none, none, none]) (st' := [.int (i + 2), .ref b, .int v1, .ref x]) rfl ?_
  refine s_sld hf (dk okd_law_48 1 rfl) (fun v2 => ?_)
  refine s_run X ok_law_48 9 7 (pc' := 3103) (vs' := [some (.ref b), some (.ref x), some (.ref m), some (.ref o), some (.int i), none, none, none]) (st' := [.int (i + 3), .ref b, .long ((Int32.toInt64 v2) <<< ((Int32.toInt64 32) &&& 63)), .int v1, .ref x]) rfl ?_
  refine s_sld hf (dk okd_law_48 2 rfl) (fun v3 => ?_)
  refine s_run X ok_law_48 16 1 (pc' := 3105) (vs' := [some (.ref b), some (.ref x), some (.ref m), some (.ref o), some (.int i), none, none, none]) (st' := [.long (Int32.toInt64 v3), .long ((Int32.toInt64 v2) <<< ((Int32.toInt64 32) &&& 63)), .int v1, .ref x]) rfl ?_
  refine s_ldc2 X cl_L_270 (dk okd_law_48 3 rfl) ?_
  refine s_run X ok_law_48 17 3 (pc' := 3111) (vs' := [some (.ref b), some (.ref x), some (.ref m), some (.ref o), some (.int i), none, none, none]) (st' := [.ref o, .long (((Int32.toInt64 v2) <<< ((Int32.toInt64 32) &&& 63)) ||| ((Int32.toInt64 v3) &&& 4294967295)), .int v1, .ref x]) rfl ?_
  refine s_callH (c0 := c) (As := [.ref x, .int v1, .long (((Int32.toInt64 v2) <<< ((Int32.toInt64 32) &&& 63)) ||| ((Int32.toInt64 v3) &&& 4294967295)), .ref o]) (rest := []) hf mh_L_352 (c_L_grant S x v1 (((Int32.toInt64 v2) <<< ((Int32.toInt64 32) &&& 63)) ||| ((Int32.toInt64 v3) &&& 4294967295)) o) (ta2 tx_ to_) rfl rfl (Nat.le_of_ble_eq_true rfl) (Nat.le_of_ble_eq_true rfl) (Nat.le_of_ble_eq_true rfl) (dk okd_law_48 4 rfl) (st' := fun o4 => [.int o4.1]) (fun _ => rfl) (fun o4 hb5 => ?_)
  have X := hf.X hb5
  have E := hf.E (c + o4.2.2)
  have tx_ := hf.T (c + o4.2.2) tx_
  have tm_ := hf.T (c + o4.2.2) tm_
  have to_ := hf.T (c + o4.2.2) to_
  refine s_run X ok_law_48 20 6 (pc' := 3122) (vs' := [some (.ref b), some (.ref x), some (.ref m), some (.ref o), some (.int i), some (.int o4.1), none, none]) (st' := [.int (i + 1), .ref b, .ref m]) rfl ?_
  refine s_sld hf (dk okd_law_48 5 rfl) (fun v6 => ?_)
  refine s_run X ok_law_48 26 4 (pc' := 3128) (vs' := [some (.ref b), some (.ref x), some (.ref m), some (.ref o), some (.int i), some (.int o4.1), none, none]) (st' := [.int (i + 2), .ref b, .int v6, .ref m]) rfl ?_
  refine s_sld hf (dk okd_law_48 6 rfl) (fun v7 => ?_)
  refine s_run X ok_law_48 30 7 (pc' := 3138) (vs' := [some (.ref b), some (.ref x), some (.ref m), some (.ref o), some (.int i), some (.int o4.1), none, none]) (st' := [.int (i + 3), .ref b, .long ((Int32.toInt64 v7) <<< ((Int32.toInt64 32) &&& 63)), .int v6, .ref m]) rfl ?_
  refine s_sld hf (dk okd_law_48 7 rfl) (fun v8 => ?_)
  refine s_run X ok_law_48 37 1 (pc' := 3140) (vs' := [some (.ref b), some (.ref x), some (.ref m), some (.ref o), some (.int i), some (.int o4.1), none, none]) (st' := [.long (Int32.toInt64 v8), .long ((Int32.toInt64 v7) <<< ((Int32.toInt64 32) &&& 63)), .int v6, .ref m]) rfl ?_
  refine s_ldc2 X cl_L_270 (dk okd_law_48 8 rfl) ?_
  refine s_run X ok_law_48 38 2 (pc' := 3145) (vs' := [some (.ref b), some (.ref x), some (.ref m), some (.ref o), some (.int i), some (.int o4.1), none, none]) (st' := [.long (((Int32.toInt64 v7) <<< ((Int32.toInt64 32) &&& 63)) ||| ((Int32.toInt64 v8) &&& 4294967295)), .int v6, .ref m]) rfl ?_
  refine s_callV (b := m) (As := [.int v6, .long (((Int32.toInt64 v7) <<< ((Int32.toInt64 32) &&& 63)) ||| ((Int32.toInt64 v8) &&& 4294967295))]) (rest := []) X E mv_L_354 (c_X12_grant o4.2.1 m v6 (((Int32.toInt64 v7) <<< ((Int32.toInt64 32) &&& 63)) ||| ((Int32.toInt64 v8) &&& 4294967295))) rfl (ta1 tm_) rfl (by decide) tm_ rfl rfl (Nat.le_of_ble_eq_true rfl) (Nat.le_of_ble_eq_true rfl) (Nat.le_of_ble_eq_true rfl) (dk okd_law_48 9 rfl) (st' := fun o9 => [.int o9.1]) (fun _ => rfl) (fun o9 => ?_)
  refine s_run X ok_law_48 40 2 (pc' := 3151) (vs' := [some (.ref b), some (.ref x), some (.ref m), some (.ref o), some (.int i), some (.int o4.1), some (.int o9.1), none]) (st' := [.ref m]) rfl ?_
  refine s_callV (b := m) (As := []) (rest := []) X E mv_L_214 (c_X12_thrown o9.2 m) rfl (ta1 tm_) rfl (by decide) tm_ rfl rfl (Nat.le_of_ble_eq_true rfl) (Nat.le_of_ble_eq_true rfl) (Nat.le_of_ble_eq_true rfl) (dk okd_law_48 10 rfl) (st' := fun v10 => [.int v10]) (fun _ => rfl) (fun v10 => ?_)
  refine s_run X ok_law_48 42 1 (pc' := 3156) (vs' := [some (.ref b), some (.ref x), some (.ref m), some (.ref o), some (.int i), some (.int o4.1), some (.int o9.1), none]) (st' := [.int o4.1, .int v10]) rfl ?_
  refine s_icmp_eq (tgt := 3161) X (dk okd_law_48 11 rfl) (by decide) ?_ ?_
  · refine s_run X ok_law_48 44 1 (pc' := 3163) (vs' := [some (.ref b), some (.ref x), some (.ref m), some (.ref o), some (.int i), some (.int o4.1), some (.int o9.1), none]) (st' := [.int o4.1]) rfl ?_
    refine s_jn (κ := Option (Unit)) (fun k11 => Jd (Cn (c + o4.2.2)) 8 Q o9.2 3185 [some (.ref b), some (.ref x), some (.ref m), some (.ref o), some (.int i), none, none, none] [] k11) ?_ (fun k11 h12 => ?_)
    · refine s_run X ok_law_48 53 1 (pc' := 4006) (vs' := [some (.ref b), some (.ref x), some (.ref m), some (.ref o), some (.int i), none, none, none]) (st' := []) rfl ?_
      exact s_less [true, true, true, true, true, false, false, false] rfl (hk o9.2 ((c + o4.2.2)) hb5)
    · refine s_if_ne (tgt := 3185) X (dk okd_law_48 13 rfl) (by decide) ?_ ?_
      · exact s_less [true, true, true, true, true, false, false, false] rfl (h12)
      · refine s_run X ok_law_48 45 2 (pc' := 3168) (vs' := [some (.ref b), some (.ref x), some (.ref m), some (.ref o), some (.int i), some (.int o4.1), some (.int o9.1), none]) (st' := [.int 0, .ref o]) rfl ?_
        refine s_lald X to_ (dk okd_law_48 14 rfl) (fun v13 => ?_)
        refine s_run X ok_law_48 47 1 (pc' := 3171) (vs' := [some (.ref b), some (.ref x), some (.ref m), some (.ref o), some (.int i), some (.int o4.1), some (.int o9.1), none]) (st' := [.int o9.1, .long v13]) rfl ?_
        refine s_jn (κ := Int64 → Option (Unit)) (fun k15 => ∀ (x14 : Int64), Jd (Cn (c + o4.2.2)) 8 Q o9.2 3179 [some (.ref b), some (.ref x), some (.ref m), some (.ref o), some (.int i), none, none, none] [.long x14, .long v13] (k15 x14)) (fun x14 => ?_) (fun k15 h16 => ?_)
        · refine s_run X ok_law_48 51 1 (pc' := 3180) (vs' := [some (.ref b), some (.ref x), some (.ref m), some (.ref o), some (.int i), none, none, none]) (st' := [.int (lg_cmp v13 x14)]) rfl ?_
          refine s_lif_eq (tgt := 3185) X (dk okd_law_48 16 rfl) (by decide) ?_ ?_
          · exact h12
          · refine s_run X ok_law_48 52 1 (pc' := 3184) (vs' := [some (.ref b), some (.ref x), some (.ref m), some (.ref o), some (.int i), none, none, none]) (st' := [.int 0]) rfl ?_
            exact s_none
        · refine s_if_eq (tgt := 3178) X (dk okd_law_48 15 rfl) (by decide) ?_ ?_
          · refine s_run X ok_law_48 50 1 (pc' := 3179) (vs' := [some (.ref b), some (.ref x), some (.ref m), some (.ref o), some (.int i), some (.int o4.1), some (.int o9.1), none]) (st' := [.long 0, .long v13]) rfl ?_
            exact s_less [true, true, true, true, true, false, false, false] rfl (h16 0)
          · refine s_run X ok_law_48 48 2 (pc' := 3179) (vs' := [some (.ref b), some (.ref x), some (.ref m), some (.ref o), some (.int i), some (.int o4.1), some (.int o9.1), none]) (st' := [.long 1, .long v13]) rfl ?_
            exact s_less [true, true, true, true, true, false, false, false] rfl (h16 1)
  · refine s_run X ok_law_48 43 1 (pc' := 3160) (vs' := [some (.ref b), some (.ref x), some (.ref m), some (.ref o), some (.int i), some (.int o4.1), some (.int o9.1), none]) (st' := [.int 0]) rfl ?_
    exact s_none
def tab_law_49 : List En := [(3188, 8, 1, 0), (3189, 8, 0, 0), (3190, 5, 4, 0), (3192, 0, 0, 1), (3193, 17, 0, 0), (3195, 8, 3, 0), (3199, 11, 5, 0), (3201, 8, 2, 0), (3202, 8, 0, 0), (3203, 5, 4, 0), (3205, 0, 0, 1), (3206, 17, 0, 0), (3211, 13, 6, 0), (3213, 8, 2, 0), (3217, 5, 5, 0), (3222, 0, 0, 0), (3224, 5, 5, 0), (3229, 8, 3, 0), (3230, 0, 0, 0), (3232, 7, 6, 0), (3234, 40, 0, 0), (3238, 0, 0, 0), (3240, 41, 4006, 0)]
theorem ok_law_49 : tab_law_49.all (okE code) = true := by decide +kernel
def ed_law_49 : List (Nat × Instr × Nat) := [(3194, .iaload, 1), (3196, .invokestatic 355, 3), (3207, .iaload, 1), (3208, .invokevirtual 357, 3), (3214, .invokevirtual 214, 3), (3219, .if_icmp .eq 5, 3), (3223, .ireturn, 1), (3226, .ifCond .ne 14, 3), (3231, .laload, 1), (3235, .ifCond .eq 5, 3), (3239, .ireturn, 1)]
theorem okd_law_49 : ed_law_49.all (okD code) = true := by decide +kernel
def f_law_49 (Ls : Nat) (xs : Nat → Int32) (S : St) (x m o : Nat) (i : Int32) (c : Nat) (kont : St → Nat → Option Unit) : Option Unit := sx Ls xs (i + 1) fun (v1 : Int32) => cl (f_L_allowance S x v1 o) fun (o2 : Int32 × St × Nat) => bud (c + o2.2.2) <| sx Ls xs (i + 1) fun (v4 : Int32) => cl (f_X12_allowance o2.2.1 m v4) fun (o5 : Int64 × St) => cl (f_X12_thrown o5.2 m) fun (v6 : Int32) => if v6 = o2.1 then (jn (κ := Option (Unit)) (kont o5.2 ((c + o2.2.2))) fun k7 => if o2.1 = 0 then (ldJ o5.2 o 0 fun (v9 : Int64) => if v9 = o5.1 then (k7) else (none)) else (k7)) else (none)
set_option maxHeartbeats 4000000 in
set_option maxRecDepth 100000 in
theorem c_law_49 {Cn : Nat → CT} {b Ls : Nat} {xs : Nat → Int32} {Q : Unit → State → Prop} {x m o : Nat} {i : Int32} (hf : Fam Cn b Ls xs) (tx0 : tT (Cn 0) x 10) (tm0 : tT (Cn 0) m 11) (to0 : tT (Cn 0) o 14) (S : St) (c : Nat) (hc : c ≤ 512) (kont : St → Nat → Option Unit) (hk : ∀ (S : St) (c : Nat), c ≤ 512 → Jd (Cn c) 8 Q S 4006 [some (.ref b), some (.ref x), some (.ref m), some (.ref o), some (.int i), none, none, none] [] (kont S c)) : Jd (Cn c) 8 Q S 3188 [some (.ref b), some (.ref x), some (.ref m), some (.ref o), some (.int i), none, none, none] [] (f_law_49 Ls xs S x m o i c kont) := by
  have X := hf.X hc
  have E := hf.E c
  have tx_ := hf.T c tx0
  have tm_ := hf.T c tm0
  have to_ := hf.T c to0
  unfold f_law_49
  refine s_run X ok_law_49 0 5 (pc' := 3194) (vs' := [some (.ref b), some (.ref x), some (.ref m), some (.ref o), some (.int i), none, none, none]) (st' := [.int (i + 1), .ref b, .ref x]) rfl ?_
  refine s_sld hf (dk okd_law_49 0 rfl) (fun v1 => ?_)
  refine s_run X ok_law_49 5 1 (pc' := 3196) (vs' := [some (.ref b), some (.ref x), some (.ref m), some (.ref o), some (.int i), none, none, none]) (st' := [.ref o, .int v1, .ref x]) rfl ?_
  refine s_callH (c0 := c) (As := [.ref x, .int v1, .ref o]) (rest := []) hf mh_L_355 (c_L_allowance S x v1 o) (ta2 tx_ to_) rfl rfl (Nat.le_of_ble_eq_true rfl) (Nat.le_of_ble_eq_true rfl) (Nat.le_of_ble_eq_true rfl) (dk okd_law_49 1 rfl) (st' := fun o2 => [.int o2.1]) (fun _ => rfl) (fun o2 hb3 => ?_)
  have X := hf.X hb3
  have E := hf.E (c + o2.2.2)
  have tx_ := hf.T (c + o2.2.2) tx_
  have tm_ := hf.T (c + o2.2.2) tm_
  have to_ := hf.T (c + o2.2.2) to_
  refine s_run X ok_law_49 6 6 (pc' := 3207) (vs' := [some (.ref b), some (.ref x), some (.ref m), some (.ref o), some (.int i), some (.int o2.1), none, none]) (st' := [.int (i + 1), .ref b, .ref m]) rfl ?_
  refine s_sld hf (dk okd_law_49 2 rfl) (fun v4 => ?_)
  refine s_callV (b := m) (As := [.int v4]) (rest := []) X E mv_L_357 (c_X12_allowance o2.2.1 m v4) rfl (ta1 tm_) rfl (by decide) tm_ rfl rfl (Nat.le_of_ble_eq_true rfl) (Nat.le_of_ble_eq_true rfl) (Nat.le_of_ble_eq_true rfl) (dk okd_law_49 3 rfl) (st' := fun o5 => [.long o5.1]) (fun _ => rfl) (fun o5 => ?_)
  refine s_run X ok_law_49 12 2 (pc' := 3214) (vs' := [some (.ref b), some (.ref x), some (.ref m), some (.ref o), some (.int i), some (.int o2.1), some (.long o5.1), none]) (st' := [.ref m]) rfl ?_
  refine s_callV (b := m) (As := []) (rest := []) X E mv_L_214 (c_X12_thrown o5.2 m) rfl (ta1 tm_) rfl (by decide) tm_ rfl rfl (Nat.le_of_ble_eq_true rfl) (Nat.le_of_ble_eq_true rfl) (Nat.le_of_ble_eq_true rfl) (dk okd_law_49 4 rfl) (st' := fun v6 => [.int v6]) (fun _ => rfl) (fun v6 => ?_)
  refine s_run X ok_law_49 14 1 (pc' := 3219) (vs' := [some (.ref b), some (.ref x), some (.ref m), some (.ref o), some (.int i), some (.int o2.1), some (.long o5.1), none]) (st' := [.int o2.1, .int v6]) rfl ?_
  refine s_icmp_eq (tgt := 3224) X (dk okd_law_49 5 rfl) (by decide) ?_ ?_
  · refine s_run X ok_law_49 16 1 (pc' := 3226) (vs' := [some (.ref b), some (.ref x), some (.ref m), some (.ref o), some (.int i), some (.int o2.1), some (.long o5.1), none]) (st' := [.int o2.1]) rfl ?_
    refine s_jn (κ := Option (Unit)) (fun k7 => Jd (Cn (c + o2.2.2)) 8 Q o5.2 3240 [some (.ref b), some (.ref x), some (.ref m), some (.ref o), some (.int i), none, none, none] [] k7) ?_ (fun k7 h8 => ?_)
    · refine s_run X ok_law_49 22 1 (pc' := 4006) (vs' := [some (.ref b), some (.ref x), some (.ref m), some (.ref o), some (.int i), none, none, none]) (st' := []) rfl ?_
      exact s_less [true, true, true, true, true, false, false, false] rfl (hk o5.2 ((c + o2.2.2)) hb3)
    · refine s_if_ne (tgt := 3240) X (dk okd_law_49 7 rfl) (by decide) ?_ ?_
      · exact s_less [true, true, true, true, true, false, false, false] rfl (h8)
      · refine s_run X ok_law_49 17 2 (pc' := 3231) (vs' := [some (.ref b), some (.ref x), some (.ref m), some (.ref o), some (.int i), some (.int o2.1), some (.long o5.1), none]) (st' := [.int 0, .ref o]) rfl ?_
        refine s_lald X to_ (dk okd_law_49 8 rfl) (fun v9 => ?_)
        refine s_run X ok_law_49 19 2 (pc' := 3235) (vs' := [some (.ref b), some (.ref x), some (.ref m), some (.ref o), some (.int i), some (.int o2.1), some (.long o5.1), none]) (st' := [.int (lg_cmp v9 o5.1)]) rfl ?_
        refine s_lif_eq (tgt := 3240) X (dk okd_law_49 9 rfl) (by decide) ?_ ?_
        · exact s_less [true, true, true, true, true, false, false, false] rfl (h8)
        · refine s_run X ok_law_49 21 1 (pc' := 3239) (vs' := [some (.ref b), some (.ref x), some (.ref m), some (.ref o), some (.int i), some (.int o2.1), some (.long o5.1), none]) (st' := [.int 0]) rfl ?_
          exact s_none
  · refine s_run X ok_law_49 15 1 (pc' := 3223) (vs' := [some (.ref b), some (.ref x), some (.ref m), some (.ref o), some (.int i), some (.int o2.1), some (.long o5.1), none]) (st' := [.int 0]) rfl ?_
    exact s_none
def tab_law_50 : List En := [(3243, 8, 1, 0), (3244, 8, 0, 0), (3245, 5, 4, 0), (3247, 0, 0, 1), (3248, 17, 0, 0), (3250, 8, 3, 0), (3254, 11, 5, 0), (3256, 8, 2, 0), (3257, 8, 0, 0), (3258, 5, 4, 0), (3260, 0, 0, 1), (3261, 17, 0, 0), (3266, 13, 6, 0), (3268, 8, 2, 0), (3272, 5, 5, 0), (3277, 0, 0, 0), (3279, 5, 5, 0), (3284, 8, 3, 0), (3285, 0, 0, 0), (3287, 7, 6, 0), (3289, 40, 0, 0), (3293, 0, 0, 0), (3295, 41, 4006, 0)]
theorem ok_law_50 : tab_law_50.all (okE code) = true := by decide +kernel
def ed_law_50 : List (Nat × Instr × Nat) := [(3249, .iaload, 1), (3251, .invokestatic 358, 3), (3262, .iaload, 1), (3263, .invokevirtual 360, 3), (3269, .invokevirtual 214, 3), (3274, .if_icmp .eq 5, 3), (3278, .ireturn, 1), (3281, .ifCond .ne 14, 3), (3286, .laload, 1), (3290, .ifCond .eq 5, 3), (3294, .ireturn, 1)]
theorem okd_law_50 : ed_law_50.all (okD code) = true := by decide +kernel
def f_law_50 (Ls : Nat) (xs : Nat → Int32) (S : St) (x m o : Nat) (i : Int32) (c : Nat) (kont : St → Nat → Option Unit) : Option Unit := sx Ls xs (i + 1) fun (v1 : Int32) => cl (f_L_nationalShare S x v1 o) fun (o2 : Int32 × St × Nat) => bud (c + o2.2.2) <| sx Ls xs (i + 1) fun (v4 : Int32) => cl (f_X12_nationalShare o2.2.1 m v4) fun (o5 : Int64 × St) => cl (f_X12_thrown o5.2 m) fun (v6 : Int32) => if v6 = o2.1 then (jn (κ := Option (Unit)) (kont o5.2 ((c + o2.2.2))) fun k7 => if o2.1 = 0 then (ldJ o5.2 o 0 fun (v9 : Int64) => if v9 = o5.1 then (k7) else (none)) else (k7)) else (none)
set_option maxHeartbeats 4000000 in
set_option maxRecDepth 100000 in
theorem c_law_50 {Cn : Nat → CT} {b Ls : Nat} {xs : Nat → Int32} {Q : Unit → State → Prop} {x m o : Nat} {i : Int32} (hf : Fam Cn b Ls xs) (tx0 : tT (Cn 0) x 10) (tm0 : tT (Cn 0) m 11) (to0 : tT (Cn 0) o 14) (S : St) (c : Nat) (hc : c ≤ 512) (kont : St → Nat → Option Unit) (hk : ∀ (S : St) (c : Nat), c ≤ 512 → Jd (Cn c) 8 Q S 4006 [some (.ref b), some (.ref x), some (.ref m), some (.ref o), some (.int i), none, none, none] [] (kont S c)) : Jd (Cn c) 8 Q S 3243 [some (.ref b), some (.ref x), some (.ref m), some (.ref o), some (.int i), none, none, none] [] (f_law_50 Ls xs S x m o i c kont) := by
  have X := hf.X hc
  have E := hf.E c
  have tx_ := hf.T c tx0
  have tm_ := hf.T c tm0
  have to_ := hf.T c to0
  unfold f_law_50
  refine s_run X ok_law_50 0 5 (pc' := 3249) (vs' := [some (.ref b), some (.ref x), some (.ref m), some (.ref o), some (.int i), none, none, none]) (st' := [.int (i + 1), .ref b, .ref x]) rfl ?_
  refine s_sld hf (dk okd_law_50 0 rfl) (fun v1 => ?_)
  refine s_run X ok_law_50 5 1 (pc' := 3251) (vs' := [some (.ref b), some (.ref x), some (.ref m), some (.ref o), some (.int i), none, none, none]) (st' := [.ref o, .int v1, .ref x]) rfl ?_
  refine s_callH (c0 := c) (As := [.ref x, .int v1, .ref o]) (rest := []) hf mh_L_358 (c_L_nationalShare S x v1 o) (ta2 tx_ to_) rfl rfl (Nat.le_of_ble_eq_true rfl) (Nat.le_of_ble_eq_true rfl) (Nat.le_of_ble_eq_true rfl) (dk okd_law_50 1 rfl) (st' := fun o2 => [.int o2.1]) (fun _ => rfl) (fun o2 hb3 => ?_)
  have X := hf.X hb3
  have E := hf.E (c + o2.2.2)
  have tx_ := hf.T (c + o2.2.2) tx_
  have tm_ := hf.T (c + o2.2.2) tm_
  have to_ := hf.T (c + o2.2.2) to_
  refine s_run X ok_law_50 6 6 (pc' := 3262) (vs' := [some (.ref b), some (.ref x), some (.ref m), some (.ref o), some (.int i), some (.int o2.1), none, none]) (st' := [.int (i + 1), .ref b, .ref m]) rfl ?_
  refine s_sld hf (dk okd_law_50 2 rfl) (fun v4 => ?_)
  refine s_callV (b := m) (As := [.int v4]) (rest := []) X E mv_L_360 (c_X12_nationalShare o2.2.1 m v4) rfl (ta1 tm_) rfl (by decide) tm_ rfl rfl (Nat.le_of_ble_eq_true rfl) (Nat.le_of_ble_eq_true rfl) (Nat.le_of_ble_eq_true rfl) (dk okd_law_50 3 rfl) (st' := fun o5 => [.long o5.1]) (fun _ => rfl) (fun o5 => ?_)
  refine s_run X ok_law_50 12 2 (pc' := 3269) (vs' := [some (.ref b), some (.ref x), some (.ref m), some (.ref o), some (.int i), some (.int o2.1), some (.long o5.1), none]) (st' := [.ref m]) rfl ?_
  refine s_callV (b := m) (As := []) (rest := []) X E mv_L_214 (c_X12_thrown o5.2 m) rfl (ta1 tm_) rfl (by decide) tm_ rfl rfl (Nat.le_of_ble_eq_true rfl) (Nat.le_of_ble_eq_true rfl) (Nat.le_of_ble_eq_true rfl) (dk okd_law_50 4 rfl) (st' := fun v6 => [.int v6]) (fun _ => rfl) (fun v6 => ?_)
  refine s_run X ok_law_50 14 1 (pc' := 3274) (vs' := [some (.ref b), some (.ref x), some (.ref m), some (.ref o), some (.int i), some (.int o2.1), some (.long o5.1), none]) (st' := [.int o2.1, .int v6]) rfl ?_
  refine s_icmp_eq (tgt := 3279) X (dk okd_law_50 5 rfl) (by decide) ?_ ?_
  · refine s_run X ok_law_50 16 1 (pc' := 3281) (vs' := [some (.ref b), some (.ref x), some (.ref m), some (.ref o), some (.int i), some (.int o2.1), some (.long o5.1), none]) (st' := [.int o2.1]) rfl ?_
    refine s_jn (κ := Option (Unit)) (fun k7 => Jd (Cn (c + o2.2.2)) 8 Q o5.2 3295 [some (.ref b), some (.ref x), some (.ref m), some (.ref o), some (.int i), none, none, none] [] k7) ?_ (fun k7 h8 => ?_)
    · refine s_run X ok_law_50 22 1 (pc' := 4006) (vs' := [some (.ref b), some (.ref x), some (.ref m), some (.ref o), some (.int i), none, none, none]) (st' := []) rfl ?_
      exact s_less [true, true, true, true, true, false, false, false] rfl (hk o5.2 ((c + o2.2.2)) hb3)
    · refine s_if_ne (tgt := 3295) X (dk okd_law_50 7 rfl) (by decide) ?_ ?_
      · exact s_less [true, true, true, true, true, false, false, false] rfl (h8)
      · refine s_run X ok_law_50 17 2 (pc' := 3286) (vs' := [some (.ref b), some (.ref x), some (.ref m), some (.ref o), some (.int i), some (.int o2.1), some (.long o5.1), none]) (st' := [.int 0, .ref o]) rfl ?_
        refine s_lald X to_ (dk okd_law_50 8 rfl) (fun v9 => ?_)
        refine s_run X ok_law_50 19 2 (pc' := 3290) (vs' := [some (.ref b), some (.ref x), some (.ref m), some (.ref o), some (.int i), some (.int o2.1), some (.long o5.1), none]) (st' := [.int (lg_cmp v9 o5.1)]) rfl ?_
        refine s_lif_eq (tgt := 3295) X (dk okd_law_50 9 rfl) (by decide) ?_ ?_
        · exact s_less [true, true, true, true, true, false, false, false] rfl (h8)
        · refine s_run X ok_law_50 21 1 (pc' := 3294) (vs' := [some (.ref b), some (.ref x), some (.ref m), some (.ref o), some (.int i), some (.int o2.1), some (.long o5.1), none]) (st' := [.int 0]) rfl ?_
          exact s_none
  · refine s_run X ok_law_50 15 1 (pc' := 3278) (vs' := [some (.ref b), some (.ref x), some (.ref m), some (.ref o), some (.int i), some (.int o2.1), some (.long o5.1), none]) (st' := [.int 0]) rfl ?_
    exact s_none
def tab_law_51 : List En := [(3298, 8, 1, 0), (3299, 8, 0, 0), (3300, 5, 4, 0), (3302, 0, 0, 1), (3303, 17, 0, 0), (3305, 8, 0, 0), (3306, 5, 4, 0), (3308, 0, 0, 2), (3309, 17, 0, 0), (3311, 8, 0, 0), (3312, 5, 4, 0), (3314, 0, 0, 3), (3315, 17, 0, 0), (3317, 31, 0, 0), (3318, 1, 0, 32), (3320, 34, 0, 0), (3321, 8, 0, 0), (3322, 5, 4, 0), (3324, 0, 0, 4), (3325, 17, 0, 0), (3327, 31, 0, 0), (3331, 26, 0, 0), (3332, 27, 0, 0), (3333, 8, 3, 0), (3337, 11, 5, 0), (3339, 8, 2, 0), (3340, 8, 0, 0), (3341, 5, 4, 0), (3343, 0, 0, 1), (3344, 17, 0, 0), (3346, 8, 0, 0), (3347, 5, 4, 0), (3349, 0, 0, 2), (3350, 17, 0, 0), (3352, 8, 0, 0), (3353, 5, 4, 0), (3355, 0, 0, 3), (3356, 17, 0, 0), (3358, 31, 0, 0), (3359, 1, 0, 32), (3361, 34, 0, 0), (3362, 8, 0, 0), (3363, 5, 4, 0), (3365, 0, 0, 4), (3366, 17, 0, 0), (3368, 31, 0, 0), (3372, 26, 0, 0), (3373, 27, 0, 0), (3377, 11, 6, 0), (3379, 8, 2, 0), (3383, 5, 5, 0), (3388, 0, 0, 0), (3390, 5, 5, 0), (3395, 8, 3, 0), (3396, 0, 0, 0), (3398, 5, 6, 0), (3403, 3, 1, 0), (3404, 41, 3408, 0), (3407, 3, 0, 0), (3408, 40, 0, 0), (3412, 0, 0, 0), (3414, 41, 4006, 0)]
theorem ok_law_51 : tab_law_51.all (okE code) = true := by decide +kernel
def ed_law_51 : List (Nat × Instr × Nat) := [(3304, .iaload, 1), (3310, .iaload, 1), (3316, .iaload, 1), (3326, .iaload, 1), (3328, .ldc2_w 270, 3), (3334, .invokestatic 361, 3), (3345, .iaload, 1), (3351, .iaload, 1), (3357, .iaload, 1), (3367, .iaload, 1), (3369, .ldc2_w 270, 3), (3374, .invokevirtual 364, 3), (3380, .invokevirtual 214, 3), (3385, .if_icmp .eq 5, 3), (3389, .ireturn, 1), (3392, .ifCond .ne 22, 3), (3397, .laload, 1), (3400, .ifCond .eq 7, 3), (3409, .ifCond .eq 5, 3), (3413, .ireturn, 1)]
theorem okd_law_51 : ed_law_51.all (okD code) = true := by decide +kernel
def f_law_51 (Ls : Nat) (xs : Nat → Int32) (S : St) (x m o : Nat) (i : Int32) (c : Nat) (kont : St → Nat → Option Unit) : Option Unit := sx Ls xs (i + 1) fun (v1 : Int32) => sx Ls xs (i + 2) fun (v2 : Int32) => sx Ls xs (i + 3) fun (v3 : Int32) => sx Ls xs (i + 4) fun (v4 : Int32) => cl (f_L_requestTransfer S x v1 v2 (((Int32.toInt64 v3) <<< ((Int32.toInt64 32) &&& 63)) ||| ((Int32.toInt64 v4) &&& 4294967295)) o) fun (o5 : Int32 × St × Nat) => bud (c + o5.2.2) <| sx Ls xs (i + 1) fun (v7 : Int32) => sx Ls xs (i + 2) fun (v8 : Int32) => sx Ls xs (i + 3) fun (v9 : Int32) => sx Ls xs (i + 4) fun (v10 : Int32) => cl (f_X12_requestTransfer o5.2.1 m v7 v8 (((Int32.toInt64 v9) <<< ((Int32.toInt64 32) &&& 63)) ||| ((Int32.toInt64 v10) &&& 4294967295))) fun (o11 : Int32 × St) => cl (f_X12_thrown o11.2 m) fun (v12 : Int32) => if v12 = o5.1 then (jn (κ := Option (Unit)) (kont o11.2 ((c + o5.2.2))) fun k13 => if o5.1 = 0 then (ldJ o11.2 o 0 fun (v15 : Int64) => jn (κ := Int64 → Option (Unit)) (fun x16 => if v15 = x16 then (k13) else (none)) fun k17 => if o11.1 = 0 then (k17 0) else (k17 1)) else (k13)) else (none)
set_option maxHeartbeats 4000000 in
set_option maxRecDepth 100000 in
theorem c_law_51 {Cn : Nat → CT} {b Ls : Nat} {xs : Nat → Int32} {Q : Unit → State → Prop} {x m o : Nat} {i : Int32} (hf : Fam Cn b Ls xs) (tx0 : tT (Cn 0) x 10) (tm0 : tT (Cn 0) m 11) (to0 : tT (Cn 0) o 14) (S : St) (c : Nat) (hc : c ≤ 512) (kont : St → Nat → Option Unit) (hk : ∀ (S : St) (c : Nat), c ≤ 512 → Jd (Cn c) 8 Q S 4006 [some (.ref b), some (.ref x), some (.ref m), some (.ref o), some (.int i), none, none, none] [] (kont S c)) : Jd (Cn c) 8 Q S 3298 [some (.ref b), some (.ref x), some (.ref m), some (.ref o), some (.int i), none, none, none] [] (f_law_51 Ls xs S x m o i c kont) := by
  have X := hf.X hc
  have E := hf.E c
  have tx_ := hf.T c tx0
  have tm_ := hf.T c tm0
  have to_ := hf.T c to0
  unfold f_law_51
  refine s_run X ok_law_51 0 5 (pc' := 3304) (vs' := [some (.ref b), some (.ref x), some (.ref m), some (.ref o), some (.int i), none, none, none]) (st' := [.int (i + 1), .ref b, .ref x]) rfl ?_
  refine s_sld hf (dk okd_law_51 0 rfl) (fun v1 => ?_)
  refine s_run X ok_law_51 5 4 (pc' := 3310) (vs' := [some (.ref b), some (.ref x), some (.ref m), some (.ref o), some (.int i), none, none, none]) (st' := [.int (i + 2), .ref b, .int v1, .ref x]) rfl ?_
  refine s_sld hf (dk okd_law_51 1 rfl) (fun v2 => ?_)
  refine s_run X ok_law_51 9 4 (pc' := 3316) (vs' := [some (.ref b), some (.ref x), some (.ref m), some (.ref o), some (.int i), none, none, none]) (st' := [.int (i + 3), .ref b, .int v2, .int v1, .ref x]) rfl ?_
  refine s_sld hf (dk okd_law_51 2 rfl) (fun v3 => ?_)
  refine s_run X ok_law_51 13 7 (pc' := 3326) (vs' := [some (.ref b), some (.ref x), some (.ref m), some (.ref o), some (.int i), none, none, none]) (st' := [.int (i + 4), .ref b, .long ((Int32.toInt64 v3) <<< ((Int32.toInt64 32) &&& 63)), .int v2, .int v1, .ref x]) rfl ?_
  refine s_sld hf (dk okd_law_51 3 rfl) (fun v4 => ?_)
  refine s_run X ok_law_51 20 1 (pc' := 3328) (vs' := [some (.ref b), some (.ref x), some (.ref m), some (.ref o), some (.int i), none, none, none]) (st' := [.long (Int32.toInt64 v4), .long ((Int32.toInt64 v3) <<< ((Int32.toInt64 32) &&& 63)), .int v2, .int v1, .ref x]) rfl ?_
  refine s_ldc2 X cl_L_270 (dk okd_law_51 4 rfl) ?_
  refine s_run X ok_law_51 21 3 (pc' := 3334) (vs' := [some (.ref b), some (.ref x), some (.ref m), some (.ref o), some (.int i), none, none, none]) (st' := [.ref o, .long (((Int32.toInt64 v3) <<< ((Int32.toInt64 32) &&& 63)) ||| ((Int32.toInt64 v4) &&& 4294967295)), .int v2, .int v1, .ref x]) rfl ?_
  refine s_callH (c0 := c) (As := [.ref x, .int v1, .int v2, .long (((Int32.toInt64 v3) <<< ((Int32.toInt64 32) &&& 63)) ||| ((Int32.toInt64 v4) &&& 4294967295)), .ref o]) (rest := []) hf mh_L_361 (c_L_requestTransfer S x v1 v2 (((Int32.toInt64 v3) <<< ((Int32.toInt64 32) &&& 63)) ||| ((Int32.toInt64 v4) &&& 4294967295)) o) (ta2 tx_ to_) rfl rfl (Nat.le_of_ble_eq_true rfl) (Nat.le_of_ble_eq_true rfl) (Nat.le_of_ble_eq_true rfl) (dk okd_law_51 5 rfl) (st' := fun o5 => [.int o5.1]) (fun _ => rfl) (fun o5 hb6 => ?_)
  have X := hf.X hb6
  have E := hf.E (c + o5.2.2)
  have tx_ := hf.T (c + o5.2.2) tx_
  have tm_ := hf.T (c + o5.2.2) tm_
  have to_ := hf.T (c + o5.2.2) to_
  refine s_run X ok_law_51 24 6 (pc' := 3345) (vs' := [some (.ref b), some (.ref x), some (.ref m), some (.ref o), some (.int i), some (.int o5.1), none, none]) (st' := [.int (i + 1), .ref b, .ref m]) rfl ?_
  refine s_sld hf (dk okd_law_51 6 rfl) (fun v7 => ?_)
  refine s_run X ok_law_51 30 4 (pc' := 3351) (vs' := [some (.ref b), some (.ref x), some (.ref m), some (.ref o), some (.int i), some (.int o5.1), none, none]) (st' := [.int (i + 2), .ref b, .int v7, .ref m]) rfl ?_
  refine s_sld hf (dk okd_law_51 7 rfl) (fun v8 => ?_)
  refine s_run X ok_law_51 34 4 (pc' := 3357) (vs' := [some (.ref b), some (.ref x), some (.ref m), some (.ref o), some (.int i), some (.int o5.1), none, none]) (st' := [.int (i + 3), .ref b, .int v8, .int v7, .ref m]) rfl ?_
  refine s_sld hf (dk okd_law_51 8 rfl) (fun v9 => ?_)
  refine s_run X ok_law_51 38 7 (pc' := 3367) (vs' := [some (.ref b), some (.ref x), some (.ref m), some (.ref o), some (.int i), some (.int o5.1), none, none]) (st' := [.int (i + 4), .ref b, .long ((Int32.toInt64 v9) <<< ((Int32.toInt64 32) &&& 63)), .int v8, .int v7, .ref m]) rfl ?_
  refine s_sld hf (dk okd_law_51 9 rfl) (fun v10 => ?_)
  refine s_run X ok_law_51 45 1 (pc' := 3369) (vs' := [some (.ref b), some (.ref x), some (.ref m), some (.ref o), some (.int i), some (.int o5.1), none, none]) (st' := [.long (Int32.toInt64 v10), .long ((Int32.toInt64 v9) <<< ((Int32.toInt64 32) &&& 63)), .int v8, .int v7, .ref m]) rfl ?_
  refine s_ldc2 X cl_L_270 (dk okd_law_51 10 rfl) ?_
  refine s_run X ok_law_51 46 2 (pc' := 3374) (vs' := [some (.ref b), some (.ref x), some (.ref m), some (.ref o), some (.int i), some (.int o5.1), none, none]) (st' := [.long (((Int32.toInt64 v9) <<< ((Int32.toInt64 32) &&& 63)) ||| ((Int32.toInt64 v10) &&& 4294967295)), .int v8, .int v7, .ref m]) rfl ?_
  refine s_callV (b := m) (As := [.int v7, .int v8, .long (((Int32.toInt64 v9) <<< ((Int32.toInt64 32) &&& 63)) ||| ((Int32.toInt64 v10) &&& 4294967295))]) (rest := []) X E mv_L_364 (c_X12_requestTransfer o5.2.1 m v7 v8 (((Int32.toInt64 v9) <<< ((Int32.toInt64 32) &&& 63)) ||| ((Int32.toInt64 v10) &&& 4294967295))) rfl (ta1 tm_) rfl (by decide) tm_ rfl rfl (Nat.le_of_ble_eq_true rfl) (Nat.le_of_ble_eq_true rfl) (Nat.le_of_ble_eq_true rfl) (dk okd_law_51 11 rfl) (st' := fun o11 => [.int o11.1]) (fun _ => rfl) (fun o11 => ?_)
  refine s_run X ok_law_51 48 2 (pc' := 3380) (vs' := [some (.ref b), some (.ref x), some (.ref m), some (.ref o), some (.int i), some (.int o5.1), some (.int o11.1), none]) (st' := [.ref m]) rfl ?_
  refine s_callV (b := m) (As := []) (rest := []) X E mv_L_214 (c_X12_thrown o11.2 m) rfl (ta1 tm_) rfl (by decide) tm_ rfl rfl (Nat.le_of_ble_eq_true rfl) (Nat.le_of_ble_eq_true rfl) (Nat.le_of_ble_eq_true rfl) (dk okd_law_51 12 rfl) (st' := fun v12 => [.int v12]) (fun _ => rfl) (fun v12 => ?_)
  refine s_run X ok_law_51 50 1 (pc' := 3385) (vs' := [some (.ref b), some (.ref x), some (.ref m), some (.ref o), some (.int i), some (.int o5.1), some (.int o11.1), none]) (st' := [.int o5.1, .int v12]) rfl ?_
  refine s_icmp_eq (tgt := 3390) X (dk okd_law_51 13 rfl) (by decide) ?_ ?_
  · refine s_run X ok_law_51 52 1 (pc' := 3392) (vs' := [some (.ref b), some (.ref x), some (.ref m), some (.ref o), some (.int i), some (.int o5.1), some (.int o11.1), none]) (st' := [.int o5.1]) rfl ?_
    refine s_jn (κ := Option (Unit)) (fun k13 => Jd (Cn (c + o5.2.2)) 8 Q o11.2 3414 [some (.ref b), some (.ref x), some (.ref m), some (.ref o), some (.int i), none, none, none] [] k13) ?_ (fun k13 h14 => ?_)
    · refine s_run X ok_law_51 61 1 (pc' := 4006) (vs' := [some (.ref b), some (.ref x), some (.ref m), some (.ref o), some (.int i), none, none, none]) (st' := []) rfl ?_
      exact s_less [true, true, true, true, true, false, false, false] rfl (hk o11.2 ((c + o5.2.2)) hb6)
    · refine s_if_ne (tgt := 3414) X (dk okd_law_51 15 rfl) (by decide) ?_ ?_
      · exact s_less [true, true, true, true, true, false, false, false] rfl (h14)
      · refine s_run X ok_law_51 53 2 (pc' := 3397) (vs' := [some (.ref b), some (.ref x), some (.ref m), some (.ref o), some (.int i), some (.int o5.1), some (.int o11.1), none]) (st' := [.int 0, .ref o]) rfl ?_
        refine s_lald X to_ (dk okd_law_51 16 rfl) (fun v15 => ?_)
        refine s_run X ok_law_51 55 1 (pc' := 3400) (vs' := [some (.ref b), some (.ref x), some (.ref m), some (.ref o), some (.int i), some (.int o5.1), some (.int o11.1), none]) (st' := [.int o11.1, .long v15]) rfl ?_
        refine s_jn (κ := Int64 → Option (Unit)) (fun k17 => ∀ (x16 : Int64), Jd (Cn (c + o5.2.2)) 8 Q o11.2 3408 [some (.ref b), some (.ref x), some (.ref m), some (.ref o), some (.int i), none, none, none] [.long x16, .long v15] (k17 x16)) (fun x16 => ?_) (fun k17 h18 => ?_)
        · refine s_run X ok_law_51 59 1 (pc' := 3409) (vs' := [some (.ref b), some (.ref x), some (.ref m), some (.ref o), some (.int i), none, none, none]) (st' := [.int (lg_cmp v15 x16)]) rfl ?_
          refine s_lif_eq (tgt := 3414) X (dk okd_law_51 18 rfl) (by decide) ?_ ?_
          · exact h14
          · refine s_run X ok_law_51 60 1 (pc' := 3413) (vs' := [some (.ref b), some (.ref x), some (.ref m), some (.ref o), some (.int i), none, none, none]) (st' := [.int 0]) rfl ?_
            exact s_none
        · refine s_if_eq (tgt := 3407) X (dk okd_law_51 17 rfl) (by decide) ?_ ?_
          · refine s_run X ok_law_51 58 1 (pc' := 3408) (vs' := [some (.ref b), some (.ref x), some (.ref m), some (.ref o), some (.int i), some (.int o5.1), some (.int o11.1), none]) (st' := [.long 0, .long v15]) rfl ?_
            exact s_less [true, true, true, true, true, false, false, false] rfl (h18 0)
          · refine s_run X ok_law_51 56 2 (pc' := 3408) (vs' := [some (.ref b), some (.ref x), some (.ref m), some (.ref o), some (.int i), some (.int o5.1), some (.int o11.1), none]) (st' := [.long 1, .long v15]) rfl ?_
            exact s_less [true, true, true, true, true, false, false, false] rfl (h18 1)
  · refine s_run X ok_law_51 51 1 (pc' := 3389) (vs' := [some (.ref b), some (.ref x), some (.ref m), some (.ref o), some (.int i), some (.int o5.1), some (.int o11.1), none]) (st' := [.int 0]) rfl ?_
    exact s_none
def tab_law_52 : List En := [(3417, 8, 1, 0), (3418, 8, 0, 0), (3419, 5, 4, 0), (3421, 0, 0, 1), (3422, 17, 0, 0), (3424, 8, 0, 0), (3425, 5, 4, 0), (3427, 0, 0, 2), (3428, 17, 0, 0), (3430, 8, 0, 0), (3431, 5, 4, 0), (3433, 0, 0, 3), (3434, 17, 0, 0), (3439, 0, 0, 1), (3440, 41, 3444, 0), (3443, 0, 0, 0), (3444, 8, 3, 0), (3448, 11, 5, 0), (3450, 8, 2, 0), (3451, 8, 0, 0), (3452, 5, 4, 0), (3454, 0, 0, 1), (3455, 17, 0, 0), (3457, 8, 0, 0), (3458, 5, 4, 0), (3460, 0, 0, 2), (3461, 17, 0, 0), (3463, 8, 0, 0), (3464, 5, 4, 0), (3466, 0, 0, 3), (3467, 17, 0, 0), (3472, 0, 0, 1), (3473, 41, 3477, 0), (3476, 0, 0, 0), (3480, 11, 6, 0), (3482, 8, 2, 0), (3486, 5, 5, 0), (3491, 0, 0, 0), (3493, 5, 5, 0), (3498, 8, 3, 0), (3499, 0, 0, 0), (3501, 5, 6, 0), (3503, 31, 0, 0), (3504, 40, 0, 0), (3508, 0, 0, 0), (3510, 41, 4006, 0)]
theorem ok_law_52 : tab_law_52.all (okE code) = true := by decide +kernel
def ed_law_52 : List (Nat × Instr × Nat) := [(3423, .iaload, 1), (3429, .iaload, 1), (3435, .iaload, 1), (3436, .ifCond .eq 7, 3), (3445, .invokestatic 365, 3), (3456, .iaload, 1), (3462, .iaload, 1), (3468, .iaload, 1), (3469, .ifCond .eq 7, 3), (3477, .invokevirtual 368, 3), (3483, .invokevirtual 214, 3), (3488, .if_icmp .eq 5, 3), (3492, .ireturn, 1), (3495, .ifCond .ne 15, 3), (3500, .laload, 1), (3505, .ifCond .eq 5, 3), (3509, .ireturn, 1)]
theorem okd_law_52 : ed_law_52.all (okD code) = true := by decide +kernel
def f_law_52 (Ls : Nat) (xs : Nat → Int32) (S : St) (x m o : Nat) (i : Int32) (c : Nat) (kont : St → Nat → Option Unit) : Option Unit := sx Ls xs (i + 1) fun (v1 : Int32) => sx Ls xs (i + 2) fun (v2 : Int32) => sx Ls xs (i + 3) fun (v3 : Int32) => jn (κ := Int32 → Option (Unit)) (fun x4 => cl (f_L_vote S x v1 v2 x4 o) fun (o7 : Int32 × St × Nat) => bud (c + o7.2.2) <| sx Ls xs (i + 1) fun (v9 : Int32) => sx Ls xs (i + 2) fun (v10 : Int32) => sx Ls xs (i + 3) fun (v11 : Int32) => jn (κ := Int32 → Option (Unit)) (fun x12 => cl (f_X12_vote o7.2.1 m v9 v10 x12) fun (o15 : Int32 × St) => cl (f_X12_thrown o15.2 m) fun (v16 : Int32) => if v16 = o7.1 then (jn (κ := Option (Unit)) (kont o15.2 ((c + o7.2.2))) fun k17 => if o7.1 = 0 then (ldJ o15.2 o 0 fun (v19 : Int64) => if v19 = (Int32.toInt64 o15.1) then (k17) else (none)) else (k17)) else (none)) fun k13 => if v11 = 0 then (k13 0) else (k13 1)) fun k5 => if v3 = 0 then (k5 0) else (k5 1)
set_option maxHeartbeats 4000000 in
set_option maxRecDepth 100000 in
theorem c_law_52 {Cn : Nat → CT} {b Ls : Nat} {xs : Nat → Int32} {Q : Unit → State → Prop} {x m o : Nat} {i : Int32} (hf : Fam Cn b Ls xs) (tx0 : tT (Cn 0) x 10) (tm0 : tT (Cn 0) m 11) (to0 : tT (Cn 0) o 14) (S : St) (c : Nat) (hc : c ≤ 512) (kont : St → Nat → Option Unit) (hk : ∀ (S : St) (c : Nat), c ≤ 512 → Jd (Cn c) 8 Q S 4006 [some (.ref b), some (.ref x), some (.ref m), some (.ref o), some (.int i), none, none, none] [] (kont S c)) : Jd (Cn c) 8 Q S 3417 [some (.ref b), some (.ref x), some (.ref m), some (.ref o), some (.int i), none, none, none] [] (f_law_52 Ls xs S x m o i c kont) := by
  have X := hf.X hc
  have E := hf.E c
  have tx_ := hf.T c tx0
  have tm_ := hf.T c tm0
  have to_ := hf.T c to0
  unfold f_law_52
  refine s_run X ok_law_52 0 5 (pc' := 3423) (vs' := [some (.ref b), some (.ref x), some (.ref m), some (.ref o), some (.int i), none, none, none]) (st' := [.int (i + 1), .ref b, .ref x]) rfl ?_
  refine s_sld hf (dk okd_law_52 0 rfl) (fun v1 => ?_)
  refine s_run X ok_law_52 5 4 (pc' := 3429) (vs' := [some (.ref b), some (.ref x), some (.ref m), some (.ref o), some (.int i), none, none, none]) (st' := [.int (i + 2), .ref b, .int v1, .ref x]) rfl ?_
  refine s_sld hf (dk okd_law_52 1 rfl) (fun v2 => ?_)
  refine s_run X ok_law_52 9 4 (pc' := 3435) (vs' := [some (.ref b), some (.ref x), some (.ref m), some (.ref o), some (.int i), none, none, none]) (st' := [.int (i + 3), .ref b, .int v2, .int v1, .ref x]) rfl ?_
  refine s_sld hf (dk okd_law_52 2 rfl) (fun v3 => ?_)
  refine s_jn (κ := Int32 → Option (Unit)) (fun k5 => ∀ (x4 : Int32), Jd (Cn c) 8 Q S 3444 [some (.ref b), some (.ref x), some (.ref m), some (.ref o), some (.int i), none, none, none] [.int x4, .int v2, .int v1, .ref x] (k5 x4)) (fun x4 => ?_) (fun k5 h6 => ?_)
  · refine s_run X ok_law_52 16 1 (pc' := 3445) (vs' := [some (.ref b), some (.ref x), some (.ref m), some (.ref o), some (.int i), none, none, none]) (st' := [.ref o, .int x4, .int v2, .int v1, .ref x]) rfl ?_
    refine s_callH (c0 := c) (As := [.ref x, .int v1, .int v2, .int x4, .ref o]) (rest := []) hf mh_L_365 (c_L_vote S x v1 v2 x4 o) (ta2 tx_ to_) rfl rfl (Nat.le_of_ble_eq_true rfl) (Nat.le_of_ble_eq_true rfl) (Nat.le_of_ble_eq_true rfl) (dk okd_law_52 4 rfl) (st' := fun o7 => [.int o7.1]) (fun _ => rfl) (fun o7 hb8 => ?_)
    have X := hf.X hb8
    have E := hf.E (c + o7.2.2)
    have tx_ := hf.T (c + o7.2.2) tx_
    have tm_ := hf.T (c + o7.2.2) tm_
    have to_ := hf.T (c + o7.2.2) to_
    refine s_run X ok_law_52 17 6 (pc' := 3456) (vs' := [some (.ref b), some (.ref x), some (.ref m), some (.ref o), some (.int i), some (.int o7.1), none, none]) (st' := [.int (i + 1), .ref b, .ref m]) rfl ?_
    refine s_sld hf (dk okd_law_52 5 rfl) (fun v9 => ?_)
    refine s_run X ok_law_52 23 4 (pc' := 3462) (vs' := [some (.ref b), some (.ref x), some (.ref m), some (.ref o), some (.int i), some (.int o7.1), none, none]) (st' := [.int (i + 2), .ref b, .int v9, .ref m]) rfl ?_
    refine s_sld hf (dk okd_law_52 6 rfl) (fun v10 => ?_)
    refine s_run X ok_law_52 27 4 (pc' := 3468) (vs' := [some (.ref b), some (.ref x), some (.ref m), some (.ref o), some (.int i), some (.int o7.1), none, none]) (st' := [.int (i + 3), .ref b, .int v10, .int v9, .ref m]) rfl ?_
    refine s_sld hf (dk okd_law_52 7 rfl) (fun v11 => ?_)
    refine s_jn (κ := Int32 → Option (Unit)) (fun k13 => ∀ (x12 : Int32), Jd (Cn (c + o7.2.2)) 8 Q o7.2.1 3477 [some (.ref b), some (.ref x), some (.ref m), some (.ref o), some (.int i), some (.int o7.1), none, none] [.int x12, .int v10, .int v9, .ref m] (k13 x12)) (fun x12 => ?_) (fun k13 h14 => ?_)
    · refine s_callV (b := m) (As := [.int v9, .int v10, .int x12]) (rest := []) X E mv_L_368 (c_X12_vote o7.2.1 m v9 v10 x12) rfl (ta1 tm_) rfl (by decide) tm_ rfl rfl (Nat.le_of_ble_eq_true rfl) (Nat.le_of_ble_eq_true rfl) (Nat.le_of_ble_eq_true rfl) (dk okd_law_52 9 rfl) (st' := fun o15 => [.int o15.1]) (fun _ => rfl) (fun o15 => ?_)
      refine s_run X ok_law_52 34 2 (pc' := 3483) (vs' := [some (.ref b), some (.ref x), some (.ref m), some (.ref o), some (.int i), some (.int o7.1), some (.int o15.1), none]) (st' := [.ref m]) rfl ?_
      refine s_callV (b := m) (As := []) (rest := []) X E mv_L_214 (c_X12_thrown o15.2 m) rfl (ta1 tm_) rfl (by decide) tm_ rfl rfl (Nat.le_of_ble_eq_true rfl) (Nat.le_of_ble_eq_true rfl) (Nat.le_of_ble_eq_true rfl) (dk okd_law_52 10 rfl) (st' := fun v16 => [.int v16]) (fun _ => rfl) (fun v16 => ?_)
      refine s_run X ok_law_52 36 1 (pc' := 3488) (vs' := [some (.ref b), some (.ref x), some (.ref m), some (.ref o), some (.int i), some (.int o7.1), some (.int o15.1), none]) (st' := [.int o7.1, .int v16]) rfl ?_
      refine s_icmp_eq (tgt := 3493) X (dk okd_law_52 11 rfl) (by decide) ?_ ?_
      · refine s_run X ok_law_52 38 1 (pc' := 3495) (vs' := [some (.ref b), some (.ref x), some (.ref m), some (.ref o), some (.int i), some (.int o7.1), some (.int o15.1), none]) (st' := [.int o7.1]) rfl ?_
        refine s_jn (κ := Option (Unit)) (fun k17 => Jd (Cn (c + o7.2.2)) 8 Q o15.2 3510 [some (.ref b), some (.ref x), some (.ref m), some (.ref o), some (.int i), none, none, none] [] k17) ?_ (fun k17 h18 => ?_)
        · refine s_run X ok_law_52 45 1 (pc' := 4006) (vs' := [some (.ref b), some (.ref x), some (.ref m), some (.ref o), some (.int i), none, none, none]) (st' := []) rfl ?_
          exact s_less [true, true, true, true, true, false, false, false] rfl (hk o15.2 ((c + o7.2.2)) hb8)
        · refine s_if_ne (tgt := 3510) X (dk okd_law_52 13 rfl) (by decide) ?_ ?_
          · exact s_less [true, true, true, true, true, false, false, false] rfl (h18)
          · refine s_run X ok_law_52 39 2 (pc' := 3500) (vs' := [some (.ref b), some (.ref x), some (.ref m), some (.ref o), some (.int i), some (.int o7.1), some (.int o15.1), none]) (st' := [.int 0, .ref o]) rfl ?_
            refine s_lald X to_ (dk okd_law_52 14 rfl) (fun v19 => ?_)
            refine s_run X ok_law_52 41 3 (pc' := 3505) (vs' := [some (.ref b), some (.ref x), some (.ref m), some (.ref o), some (.int i), some (.int o7.1), some (.int o15.1), none]) (st' := [.int (lg_cmp v19 (Int32.toInt64 o15.1))]) rfl ?_
            refine s_lif_eq (tgt := 3510) X (dk okd_law_52 15 rfl) (by decide) ?_ ?_
            · exact s_less [true, true, true, true, true, false, false, false] rfl (h18)
            · refine s_run X ok_law_52 44 1 (pc' := 3509) (vs' := [some (.ref b), some (.ref x), some (.ref m), some (.ref o), some (.int i), some (.int o7.1), some (.int o15.1), none]) (st' := [.int 0]) rfl ?_
              exact s_none
      · refine s_run X ok_law_52 37 1 (pc' := 3492) (vs' := [some (.ref b), some (.ref x), some (.ref m), some (.ref o), some (.int i), some (.int o7.1), some (.int o15.1), none]) (st' := [.int 0]) rfl ?_
        exact s_none
    · refine s_if_eq (tgt := 3476) X (dk okd_law_52 8 rfl) (by decide) ?_ ?_
      · refine s_run X ok_law_52 33 1 (pc' := 3477) (vs' := [some (.ref b), some (.ref x), some (.ref m), some (.ref o), some (.int i), some (.int o7.1), none, none]) (st' := [.int 0, .int v10, .int v9, .ref m]) rfl ?_
        exact h14 0
      · refine s_run X ok_law_52 31 2 (pc' := 3477) (vs' := [some (.ref b), some (.ref x), some (.ref m), some (.ref o), some (.int i), some (.int o7.1), none, none]) (st' := [.int 1, .int v10, .int v9, .ref m]) rfl ?_
        exact h14 1
  · refine s_if_eq (tgt := 3443) X (dk okd_law_52 3 rfl) (by decide) ?_ ?_
    · refine s_run X ok_law_52 15 1 (pc' := 3444) (vs' := [some (.ref b), some (.ref x), some (.ref m), some (.ref o), some (.int i), none, none, none]) (st' := [.int 0, .int v2, .int v1, .ref x]) rfl ?_
      exact h6 0
    · refine s_run X ok_law_52 13 2 (pc' := 3444) (vs' := [some (.ref b), some (.ref x), some (.ref m), some (.ref o), some (.int i), none, none, none]) (st' := [.int 1, .int v2, .int v1, .ref x]) rfl ?_
      exact h6 1
def tab_law_53 : List En := [(3513, 8, 1, 0), (3514, 8, 0, 0), (3515, 5, 4, 0), (3517, 0, 0, 1), (3518, 17, 0, 0), (3520, 8, 3, 0), (3524, 11, 5, 0), (3526, 8, 2, 0), (3527, 8, 0, 0), (3528, 5, 4, 0), (3530, 0, 0, 1), (3531, 17, 0, 0), (3536, 11, 6, 0), (3538, 8, 2, 0), (3542, 5, 5, 0), (3547, 0, 0, 0), (3549, 5, 5, 0), (3554, 8, 3, 0), (3555, 0, 0, 0), (3557, 5, 6, 0), (3562, 3, 1, 0), (3563, 41, 3567, 0), (3566, 3, 0, 0), (3567, 40, 0, 0), (3571, 0, 0, 0), (3573, 41, 4006, 0)]
theorem ok_law_53 : tab_law_53.all (okE code) = true := by decide +kernel
def ed_law_53 : List (Nat × Instr × Nat) := [(3519, .iaload, 1), (3521, .invokestatic 369, 3), (3532, .iaload, 1), (3533, .invokevirtual 371, 3), (3539, .invokevirtual 214, 3), (3544, .if_icmp .eq 5, 3), (3548, .ireturn, 1), (3551, .ifCond .ne 22, 3), (3556, .laload, 1), (3559, .ifCond .eq 7, 3), (3568, .ifCond .eq 5, 3), (3572, .ireturn, 1)]
theorem okd_law_53 : ed_law_53.all (okD code) = true := by decide +kernel
def f_law_53 (Ls : Nat) (xs : Nat → Int32) (S : St) (x m o : Nat) (i : Int32) (c : Nat) (kont : St → Nat → Option Unit) : Option Unit := sx Ls xs (i + 1) fun (v1 : Int32) => cl (f_L_exercise S x v1 o) fun (o2 : Int32 × St × Nat) => bud (c + o2.2.2) <| sx Ls xs (i + 1) fun (v4 : Int32) => cl (f_X12_exercise o2.2.1 m v4) fun (o5 : Int32 × St) => cl (f_X12_thrown o5.2 m) fun (v6 : Int32) => if v6 = o2.1 then (jn (κ := Option (Unit)) (kont o5.2 ((c + o2.2.2))) fun k7 => if o2.1 = 0 then (ldJ o5.2 o 0 fun (v9 : Int64) => jn (κ := Int64 → Option (Unit)) (fun x10 => if v9 = x10 then (k7) else (none)) fun k11 => if o5.1 = 0 then (k11 0) else (k11 1)) else (k7)) else (none)
set_option maxHeartbeats 4000000 in
set_option maxRecDepth 100000 in
theorem c_law_53 {Cn : Nat → CT} {b Ls : Nat} {xs : Nat → Int32} {Q : Unit → State → Prop} {x m o : Nat} {i : Int32} (hf : Fam Cn b Ls xs) (tx0 : tT (Cn 0) x 10) (tm0 : tT (Cn 0) m 11) (to0 : tT (Cn 0) o 14) (S : St) (c : Nat) (hc : c ≤ 512) (kont : St → Nat → Option Unit) (hk : ∀ (S : St) (c : Nat), c ≤ 512 → Jd (Cn c) 8 Q S 4006 [some (.ref b), some (.ref x), some (.ref m), some (.ref o), some (.int i), none, none, none] [] (kont S c)) : Jd (Cn c) 8 Q S 3513 [some (.ref b), some (.ref x), some (.ref m), some (.ref o), some (.int i), none, none, none] [] (f_law_53 Ls xs S x m o i c kont) := by
  have X := hf.X hc
  have E := hf.E c
  have tx_ := hf.T c tx0
  have tm_ := hf.T c tm0
  have to_ := hf.T c to0
  unfold f_law_53
  refine s_run X ok_law_53 0 5 (pc' := 3519) (vs' := [some (.ref b), some (.ref x), some (.ref m), some (.ref o), some (.int i), none, none, none]) (st' := [.int (i + 1), .ref b, .ref x]) rfl ?_
  refine s_sld hf (dk okd_law_53 0 rfl) (fun v1 => ?_)
  refine s_run X ok_law_53 5 1 (pc' := 3521) (vs' := [some (.ref b), some (.ref x), some (.ref m), some (.ref o), some (.int i), none, none, none]) (st' := [.ref o, .int v1, .ref x]) rfl ?_
  refine s_callH (c0 := c) (As := [.ref x, .int v1, .ref o]) (rest := []) hf mh_L_369 (c_L_exercise S x v1 o) (ta2 tx_ to_) rfl rfl (Nat.le_of_ble_eq_true rfl) (Nat.le_of_ble_eq_true rfl) (Nat.le_of_ble_eq_true rfl) (dk okd_law_53 1 rfl) (st' := fun o2 => [.int o2.1]) (fun _ => rfl) (fun o2 hb3 => ?_)
  have X := hf.X hb3
  have E := hf.E (c + o2.2.2)
  have tx_ := hf.T (c + o2.2.2) tx_
  have tm_ := hf.T (c + o2.2.2) tm_
  have to_ := hf.T (c + o2.2.2) to_
  refine s_run X ok_law_53 6 6 (pc' := 3532) (vs' := [some (.ref b), some (.ref x), some (.ref m), some (.ref o), some (.int i), some (.int o2.1), none, none]) (st' := [.int (i + 1), .ref b, .ref m]) rfl ?_
  refine s_sld hf (dk okd_law_53 2 rfl) (fun v4 => ?_)
  refine s_callV (b := m) (As := [.int v4]) (rest := []) X E mv_L_371 (c_X12_exercise o2.2.1 m v4) rfl (ta1 tm_) rfl (by decide) tm_ rfl rfl (Nat.le_of_ble_eq_true rfl) (Nat.le_of_ble_eq_true rfl) (Nat.le_of_ble_eq_true rfl) (dk okd_law_53 3 rfl) (st' := fun o5 => [.int o5.1]) (fun _ => rfl) (fun o5 => ?_)
  refine s_run X ok_law_53 12 2 (pc' := 3539) (vs' := [some (.ref b), some (.ref x), some (.ref m), some (.ref o), some (.int i), some (.int o2.1), some (.int o5.1), none]) (st' := [.ref m]) rfl ?_
  refine s_callV (b := m) (As := []) (rest := []) X E mv_L_214 (c_X12_thrown o5.2 m) rfl (ta1 tm_) rfl (by decide) tm_ rfl rfl (Nat.le_of_ble_eq_true rfl) (Nat.le_of_ble_eq_true rfl) (Nat.le_of_ble_eq_true rfl) (dk okd_law_53 4 rfl) (st' := fun v6 => [.int v6]) (fun _ => rfl) (fun v6 => ?_)
  refine s_run X ok_law_53 14 1 (pc' := 3544) (vs' := [some (.ref b), some (.ref x), some (.ref m), some (.ref o), some (.int i), some (.int o2.1), some (.int o5.1), none]) (st' := [.int o2.1, .int v6]) rfl ?_
  refine s_icmp_eq (tgt := 3549) X (dk okd_law_53 5 rfl) (by decide) ?_ ?_
  · refine s_run X ok_law_53 16 1 (pc' := 3551) (vs' := [some (.ref b), some (.ref x), some (.ref m), some (.ref o), some (.int i), some (.int o2.1), some (.int o5.1), none]) (st' := [.int o2.1]) rfl ?_
    refine s_jn (κ := Option (Unit)) (fun k7 => Jd (Cn (c + o2.2.2)) 8 Q o5.2 3573 [some (.ref b), some (.ref x), some (.ref m), some (.ref o), some (.int i), none, none, none] [] k7) ?_ (fun k7 h8 => ?_)
    · refine s_run X ok_law_53 25 1 (pc' := 4006) (vs' := [some (.ref b), some (.ref x), some (.ref m), some (.ref o), some (.int i), none, none, none]) (st' := []) rfl ?_
      exact s_less [true, true, true, true, true, false, false, false] rfl (hk o5.2 ((c + o2.2.2)) hb3)
    · refine s_if_ne (tgt := 3573) X (dk okd_law_53 7 rfl) (by decide) ?_ ?_
      · exact s_less [true, true, true, true, true, false, false, false] rfl (h8)
      · refine s_run X ok_law_53 17 2 (pc' := 3556) (vs' := [some (.ref b), some (.ref x), some (.ref m), some (.ref o), some (.int i), some (.int o2.1), some (.int o5.1), none]) (st' := [.int 0, .ref o]) rfl ?_
        refine s_lald X to_ (dk okd_law_53 8 rfl) (fun v9 => ?_)
        refine s_run X ok_law_53 19 1 (pc' := 3559) (vs' := [some (.ref b), some (.ref x), some (.ref m), some (.ref o), some (.int i), some (.int o2.1), some (.int o5.1), none]) (st' := [.int o5.1, .long v9]) rfl ?_
        refine s_jn (κ := Int64 → Option (Unit)) (fun k11 => ∀ (x10 : Int64), Jd (Cn (c + o2.2.2)) 8 Q o5.2 3567 [some (.ref b), some (.ref x), some (.ref m), some (.ref o), some (.int i), none, none, none] [.long x10, .long v9] (k11 x10)) (fun x10 => ?_) (fun k11 h12 => ?_)
        · refine s_run X ok_law_53 23 1 (pc' := 3568) (vs' := [some (.ref b), some (.ref x), some (.ref m), some (.ref o), some (.int i), none, none, none]) (st' := [.int (lg_cmp v9 x10)]) rfl ?_
          refine s_lif_eq (tgt := 3573) X (dk okd_law_53 10 rfl) (by decide) ?_ ?_
          · exact h8
          · refine s_run X ok_law_53 24 1 (pc' := 3572) (vs' := [some (.ref b), some (.ref x), some (.ref m), some (.ref o), some (.int i), none, none, none]) (st' := [.int 0]) rfl ?_
            exact s_none
        · refine s_if_eq (tgt := 3566) X (dk okd_law_53 9 rfl) (by decide) ?_ ?_
          · refine s_run X ok_law_53 22 1 (pc' := 3567) (vs' := [some (.ref b), some (.ref x), some (.ref m), some (.ref o), some (.int i), some (.int o2.1), some (.int o5.1), none]) (st' := [.long 0, .long v9]) rfl ?_
            exact s_less [true, true, true, true, true, false, false, false] rfl (h12 0)
          · refine s_run X ok_law_53 20 2 (pc' := 3567) (vs' := [some (.ref b), some (.ref x), some (.ref m), some (.ref o), some (.int i), some (.int o2.1), some (.int o5.1), none]) (st' := [.long 1, .long v9]) rfl ?_
            exact s_less [true, true, true, true, true, false, false, false] rfl (h12 1)
  · refine s_run X ok_law_53 15 1 (pc' := 3548) (vs' := [some (.ref b), some (.ref x), some (.ref m), some (.ref o), some (.int i), some (.int o2.1), some (.int o5.1), none]) (st' := [.int 0]) rfl ?_
    exact s_none
def tab_law_54 : List En := [(3576, 8, 1, 0), (3577, 8, 0, 0), (3578, 5, 4, 0), (3580, 0, 0, 1), (3581, 17, 0, 0), (3583, 8, 3, 0), (3587, 11, 5, 0), (3589, 8, 2, 0), (3590, 8, 0, 0), (3591, 5, 4, 0), (3593, 0, 0, 1), (3594, 17, 0, 0), (3599, 11, 6, 0), (3601, 8, 2, 0), (3605, 5, 5, 0), (3610, 0, 0, 0), (3612, 5, 5, 0), (3617, 8, 3, 0), (3618, 0, 0, 0), (3620, 5, 6, 0), (3625, 3, 1, 0), (3626, 41, 3630, 0), (3629, 3, 0, 0), (3630, 40, 0, 0), (3634, 0, 0, 0), (3636, 41, 4006, 0)]
theorem ok_law_54 : tab_law_54.all (okE code) = true := by decide +kernel
def ed_law_54 : List (Nat × Instr × Nat) := [(3582, .iaload, 1), (3584, .invokestatic 372, 3), (3595, .iaload, 1), (3596, .invokevirtual 374, 3), (3602, .invokevirtual 214, 3), (3607, .if_icmp .eq 5, 3), (3611, .ireturn, 1), (3614, .ifCond .ne 22, 3), (3619, .laload, 1), (3622, .ifCond .eq 7, 3), (3631, .ifCond .eq 5, 3), (3635, .ireturn, 1)]
theorem okd_law_54 : ed_law_54.all (okD code) = true := by decide +kernel
def f_law_54 (Ls : Nat) (xs : Nat → Int32) (S : St) (x m o : Nat) (i : Int32) (c : Nat) (kont : St → Nat → Option Unit) : Option Unit := sx Ls xs (i + 1) fun (v1 : Int32) => cl (f_L_withdraw S x v1 o) fun (o2 : Int32 × St × Nat) => bud (c + o2.2.2) <| sx Ls xs (i + 1) fun (v4 : Int32) => cl (f_X12_withdraw o2.2.1 m v4) fun (o5 : Int32 × St) => cl (f_X12_thrown o5.2 m) fun (v6 : Int32) => if v6 = o2.1 then (jn (κ := Option (Unit)) (kont o5.2 ((c + o2.2.2))) fun k7 => if o2.1 = 0 then (ldJ o5.2 o 0 fun (v9 : Int64) => jn (κ := Int64 → Option (Unit)) (fun x10 => if v9 = x10 then (k7) else (none)) fun k11 => if o5.1 = 0 then (k11 0) else (k11 1)) else (k7)) else (none)
set_option maxHeartbeats 4000000 in
set_option maxRecDepth 100000 in
theorem c_law_54 {Cn : Nat → CT} {b Ls : Nat} {xs : Nat → Int32} {Q : Unit → State → Prop} {x m o : Nat} {i : Int32} (hf : Fam Cn b Ls xs) (tx0 : tT (Cn 0) x 10) (tm0 : tT (Cn 0) m 11) (to0 : tT (Cn 0) o 14) (S : St) (c : Nat) (hc : c ≤ 512) (kont : St → Nat → Option Unit) (hk : ∀ (S : St) (c : Nat), c ≤ 512 → Jd (Cn c) 8 Q S 4006 [some (.ref b), some (.ref x), some (.ref m), some (.ref o), some (.int i), none, none, none] [] (kont S c)) : Jd (Cn c) 8 Q S 3576 [some (.ref b), some (.ref x), some (.ref m), some (.ref o), some (.int i), none, none, none] [] (f_law_54 Ls xs S x m o i c kont) := by
  have X := hf.X hc
  have E := hf.E c
  have tx_ := hf.T c tx0
  have tm_ := hf.T c tm0
  have to_ := hf.T c to0
  unfold f_law_54
  refine s_run X ok_law_54 0 5 (pc' := 3582) (vs' := [some (.ref b), some (.ref x), some (.ref m), some (.ref o), some (.int i), none, none, none]) (st' := [.int (i + 1), .ref b, .ref x]) rfl ?_
  refine s_sld hf (dk okd_law_54 0 rfl) (fun v1 => ?_)
  refine s_run X ok_law_54 5 1 (pc' := 3584) (vs' := [some (.ref b), some (.ref x), some (.ref m), some (.ref o), some (.int i), none, none, none]) (st' := [.ref o, .int v1, .ref x]) rfl ?_
  refine s_callH (c0 := c) (As := [.ref x, .int v1, .ref o]) (rest := []) hf mh_L_372 (c_L_withdraw S x v1 o) (ta2 tx_ to_) rfl rfl (Nat.le_of_ble_eq_true rfl) (Nat.le_of_ble_eq_true rfl) (Nat.le_of_ble_eq_true rfl) (dk okd_law_54 1 rfl) (st' := fun o2 => [.int o2.1]) (fun _ => rfl) (fun o2 hb3 => ?_)
  have X := hf.X hb3
  have E := hf.E (c + o2.2.2)
  have tx_ := hf.T (c + o2.2.2) tx_
  have tm_ := hf.T (c + o2.2.2) tm_
  have to_ := hf.T (c + o2.2.2) to_
  refine s_run X ok_law_54 6 6 (pc' := 3595) (vs' := [some (.ref b), some (.ref x), some (.ref m), some (.ref o), some (.int i), some (.int o2.1), none, none]) (st' := [.int (i + 1), .ref b, .ref m]) rfl ?_
  refine s_sld hf (dk okd_law_54 2 rfl) (fun v4 => ?_)
  refine s_callV (b := m) (As := [.int v4]) (rest := []) X E mv_L_374 (c_X12_withdraw o2.2.1 m v4) rfl (ta1 tm_) rfl (by decide) tm_ rfl rfl (Nat.le_of_ble_eq_true rfl) (Nat.le_of_ble_eq_true rfl) (Nat.le_of_ble_eq_true rfl) (dk okd_law_54 3 rfl) (st' := fun o5 => [.int o5.1]) (fun _ => rfl) (fun o5 => ?_)
  refine s_run X ok_law_54 12 2 (pc' := 3602) (vs' := [some (.ref b), some (.ref x), some (.ref m), some (.ref o), some (.int i), some (.int o2.1), some (.int o5.1), none]) (st' := [.ref m]) rfl ?_
  refine s_callV (b := m) (As := []) (rest := []) X E mv_L_214 (c_X12_thrown o5.2 m) rfl (ta1 tm_) rfl (by decide) tm_ rfl rfl (Nat.le_of_ble_eq_true rfl) (Nat.le_of_ble_eq_true rfl) (Nat.le_of_ble_eq_true rfl) (dk okd_law_54 4 rfl) (st' := fun v6 => [.int v6]) (fun _ => rfl) (fun v6 => ?_)
  refine s_run X ok_law_54 14 1 (pc' := 3607) (vs' := [some (.ref b), some (.ref x), some (.ref m), some (.ref o), some (.int i), some (.int o2.1), some (.int o5.1), none]) (st' := [.int o2.1, .int v6]) rfl ?_
  refine s_icmp_eq (tgt := 3612) X (dk okd_law_54 5 rfl) (by decide) ?_ ?_
  · refine s_run X ok_law_54 16 1 (pc' := 3614) (vs' := [some (.ref b), some (.ref x), some (.ref m), some (.ref o), some (.int i), some (.int o2.1), some (.int o5.1), none]) (st' := [.int o2.1]) rfl ?_
    refine s_jn (κ := Option (Unit)) (fun k7 => Jd (Cn (c + o2.2.2)) 8 Q o5.2 3636 [some (.ref b), some (.ref x), some (.ref m), some (.ref o), some (.int i), none, none, none] [] k7) ?_ (fun k7 h8 => ?_)
    · refine s_run X ok_law_54 25 1 (pc' := 4006) (vs' := [some (.ref b), some (.ref x), some (.ref m), some (.ref o), some (.int i), none, none, none]) (st' := []) rfl ?_
      exact s_less [true, true, true, true, true, false, false, false] rfl (hk o5.2 ((c + o2.2.2)) hb3)
    · refine s_if_ne (tgt := 3636) X (dk okd_law_54 7 rfl) (by decide) ?_ ?_
      · exact s_less [true, true, true, true, true, false, false, false] rfl (h8)
      · refine s_run X ok_law_54 17 2 (pc' := 3619) (vs' := [some (.ref b), some (.ref x), some (.ref m), some (.ref o), some (.int i), some (.int o2.1), some (.int o5.1), none]) (st' := [.int 0, .ref o]) rfl ?_
        refine s_lald X to_ (dk okd_law_54 8 rfl) (fun v9 => ?_)
        refine s_run X ok_law_54 19 1 (pc' := 3622) (vs' := [some (.ref b), some (.ref x), some (.ref m), some (.ref o), some (.int i), some (.int o2.1), some (.int o5.1), none]) (st' := [.int o5.1, .long v9]) rfl ?_
        refine s_jn (κ := Int64 → Option (Unit)) (fun k11 => ∀ (x10 : Int64), Jd (Cn (c + o2.2.2)) 8 Q o5.2 3630 [some (.ref b), some (.ref x), some (.ref m), some (.ref o), some (.int i), none, none, none] [.long x10, .long v9] (k11 x10)) (fun x10 => ?_) (fun k11 h12 => ?_)
        · refine s_run X ok_law_54 23 1 (pc' := 3631) (vs' := [some (.ref b), some (.ref x), some (.ref m), some (.ref o), some (.int i), none, none, none]) (st' := [.int (lg_cmp v9 x10)]) rfl ?_
          refine s_lif_eq (tgt := 3636) X (dk okd_law_54 10 rfl) (by decide) ?_ ?_
          · exact h8
          · refine s_run X ok_law_54 24 1 (pc' := 3635) (vs' := [some (.ref b), some (.ref x), some (.ref m), some (.ref o), some (.int i), none, none, none]) (st' := [.int 0]) rfl ?_
            exact s_none
        · refine s_if_eq (tgt := 3629) X (dk okd_law_54 9 rfl) (by decide) ?_ ?_
          · refine s_run X ok_law_54 22 1 (pc' := 3630) (vs' := [some (.ref b), some (.ref x), some (.ref m), some (.ref o), some (.int i), some (.int o2.1), some (.int o5.1), none]) (st' := [.long 0, .long v9]) rfl ?_
            exact s_less [true, true, true, true, true, false, false, false] rfl (h12 0)
          · refine s_run X ok_law_54 20 2 (pc' := 3630) (vs' := [some (.ref b), some (.ref x), some (.ref m), some (.ref o), some (.int i), some (.int o2.1), some (.int o5.1), none]) (st' := [.long 1, .long v9]) rfl ?_
            exact s_less [true, true, true, true, true, false, false, false] rfl (h12 1)
  · refine s_run X ok_law_54 15 1 (pc' := 3611) (vs' := [some (.ref b), some (.ref x), some (.ref m), some (.ref o), some (.int i), some (.int o2.1), some (.int o5.1), none]) (st' := [.int 0]) rfl ?_
    exact s_none
def tab_law_55 : List En := [(3639, 8, 1, 0), (3640, 8, 0, 0), (3641, 5, 4, 0), (3643, 0, 0, 1), (3644, 17, 0, 0), (3646, 8, 3, 0), (3650, 11, 5, 0), (3652, 8, 2, 0), (3653, 8, 0, 0), (3654, 5, 4, 0), (3656, 0, 0, 1), (3657, 17, 0, 0), (3662, 11, 6, 0), (3664, 8, 2, 0), (3668, 5, 5, 0), (3673, 0, 0, 0), (3675, 5, 5, 0), (3680, 8, 3, 0), (3681, 0, 0, 0), (3683, 5, 6, 0), (3685, 31, 0, 0), (3686, 40, 0, 0), (3690, 0, 0, 0), (3692, 41, 4006, 0)]
theorem ok_law_55 : tab_law_55.all (okE code) = true := by decide +kernel
def ed_law_55 : List (Nat × Instr × Nat) := [(3645, .iaload, 1), (3647, .invokestatic 375, 3), (3658, .iaload, 1), (3659, .invokevirtual 377, 3), (3665, .invokevirtual 214, 3), (3670, .if_icmp .eq 5, 3), (3674, .ireturn, 1), (3677, .ifCond .ne 15, 3), (3682, .laload, 1), (3687, .ifCond .eq 5, 3), (3691, .ireturn, 1)]
theorem okd_law_55 : ed_law_55.all (okD code) = true := by decide +kernel
def f_law_55 (Ls : Nat) (xs : Nat → Int32) (S : St) (x m o : Nat) (i : Int32) (c : Nat) (kont : St → Nat → Option Unit) : Option Unit := sx Ls xs (i + 1) fun (v1 : Int32) => cl (f_L_transferState S x v1 o) fun (o2 : Int32 × St × Nat) => bud (c + o2.2.2) <| sx Ls xs (i + 1) fun (v4 : Int32) => cl (f_X12_transferState o2.2.1 m v4) fun (o5 : Int32 × St) => cl (f_X12_thrown o5.2 m) fun (v6 : Int32) => if v6 = o2.1 then (jn (κ := Option (Unit)) (kont o5.2 ((c + o2.2.2))) fun k7 => if o2.1 = 0 then (ldJ o5.2 o 0 fun (v9 : Int64) => if v9 = (Int32.toInt64 o5.1) then (k7) else (none)) else (k7)) else (none)
set_option maxHeartbeats 4000000 in
set_option maxRecDepth 100000 in
theorem c_law_55 {Cn : Nat → CT} {b Ls : Nat} {xs : Nat → Int32} {Q : Unit → State → Prop} {x m o : Nat} {i : Int32} (hf : Fam Cn b Ls xs) (tx0 : tT (Cn 0) x 10) (tm0 : tT (Cn 0) m 11) (to0 : tT (Cn 0) o 14) (S : St) (c : Nat) (hc : c ≤ 512) (kont : St → Nat → Option Unit) (hk : ∀ (S : St) (c : Nat), c ≤ 512 → Jd (Cn c) 8 Q S 4006 [some (.ref b), some (.ref x), some (.ref m), some (.ref o), some (.int i), none, none, none] [] (kont S c)) : Jd (Cn c) 8 Q S 3639 [some (.ref b), some (.ref x), some (.ref m), some (.ref o), some (.int i), none, none, none] [] (f_law_55 Ls xs S x m o i c kont) := by
  have X := hf.X hc
  have E := hf.E c
  have tx_ := hf.T c tx0
  have tm_ := hf.T c tm0
  have to_ := hf.T c to0
  unfold f_law_55
  refine s_run X ok_law_55 0 5 (pc' := 3645) (vs' := [some (.ref b), some (.ref x), some (.ref m), some (.ref o), some (.int i), none, none, none]) (st' := [.int (i + 1), .ref b, .ref x]) rfl ?_
  refine s_sld hf (dk okd_law_55 0 rfl) (fun v1 => ?_)
  refine s_run X ok_law_55 5 1 (pc' := 3647) (vs' := [some (.ref b), some (.ref x), some (.ref m), some (.ref o), some (.int i), none, none, none]) (st' := [.ref o, .int v1, .ref x]) rfl ?_
  refine s_callH (c0 := c) (As := [.ref x, .int v1, .ref o]) (rest := []) hf mh_L_375 (c_L_transferState S x v1 o) (ta2 tx_ to_) rfl rfl (Nat.le_of_ble_eq_true rfl) (Nat.le_of_ble_eq_true rfl) (Nat.le_of_ble_eq_true rfl) (dk okd_law_55 1 rfl) (st' := fun o2 => [.int o2.1]) (fun _ => rfl) (fun o2 hb3 => ?_)
  have X := hf.X hb3
  have E := hf.E (c + o2.2.2)
  have tx_ := hf.T (c + o2.2.2) tx_
  have tm_ := hf.T (c + o2.2.2) tm_
  have to_ := hf.T (c + o2.2.2) to_
  refine s_run X ok_law_55 6 6 (pc' := 3658) (vs' := [some (.ref b), some (.ref x), some (.ref m), some (.ref o), some (.int i), some (.int o2.1), none, none]) (st' := [.int (i + 1), .ref b, .ref m]) rfl ?_
  refine s_sld hf (dk okd_law_55 2 rfl) (fun v4 => ?_)
  refine s_callV (b := m) (As := [.int v4]) (rest := []) X E mv_L_377 (c_X12_transferState o2.2.1 m v4) rfl (ta1 tm_) rfl (by decide) tm_ rfl rfl (Nat.le_of_ble_eq_true rfl) (Nat.le_of_ble_eq_true rfl) (Nat.le_of_ble_eq_true rfl) (dk okd_law_55 3 rfl) (st' := fun o5 => [.int o5.1]) (fun _ => rfl) (fun o5 => ?_)
  refine s_run X ok_law_55 12 2 (pc' := 3665) (vs' := [some (.ref b), some (.ref x), some (.ref m), some (.ref o), some (.int i), some (.int o2.1), some (.int o5.1), none]) (st' := [.ref m]) rfl ?_
  refine s_callV (b := m) (As := []) (rest := []) X E mv_L_214 (c_X12_thrown o5.2 m) rfl (ta1 tm_) rfl (by decide) tm_ rfl rfl (Nat.le_of_ble_eq_true rfl) (Nat.le_of_ble_eq_true rfl) (Nat.le_of_ble_eq_true rfl) (dk okd_law_55 4 rfl) (st' := fun v6 => [.int v6]) (fun _ => rfl) (fun v6 => ?_)
  refine s_run X ok_law_55 14 1 (pc' := 3670) (vs' := [some (.ref b), some (.ref x), some (.ref m), some (.ref o), some (.int i), some (.int o2.1), some (.int o5.1), none]) (st' := [.int o2.1, .int v6]) rfl ?_
  refine s_icmp_eq (tgt := 3675) X (dk okd_law_55 5 rfl) (by decide) ?_ ?_
  · refine s_run X ok_law_55 16 1 (pc' := 3677) (vs' := [some (.ref b), some (.ref x), some (.ref m), some (.ref o), some (.int i), some (.int o2.1), some (.int o5.1), none]) (st' := [.int o2.1]) rfl ?_
    refine s_jn (κ := Option (Unit)) (fun k7 => Jd (Cn (c + o2.2.2)) 8 Q o5.2 3692 [some (.ref b), some (.ref x), some (.ref m), some (.ref o), some (.int i), none, none, none] [] k7) ?_ (fun k7 h8 => ?_)
    · refine s_run X ok_law_55 23 1 (pc' := 4006) (vs' := [some (.ref b), some (.ref x), some (.ref m), some (.ref o), some (.int i), none, none, none]) (st' := []) rfl ?_
      exact s_less [true, true, true, true, true, false, false, false] rfl (hk o5.2 ((c + o2.2.2)) hb3)
    · refine s_if_ne (tgt := 3692) X (dk okd_law_55 7 rfl) (by decide) ?_ ?_
      · exact s_less [true, true, true, true, true, false, false, false] rfl (h8)
      · refine s_run X ok_law_55 17 2 (pc' := 3682) (vs' := [some (.ref b), some (.ref x), some (.ref m), some (.ref o), some (.int i), some (.int o2.1), some (.int o5.1), none]) (st' := [.int 0, .ref o]) rfl ?_
        refine s_lald X to_ (dk okd_law_55 8 rfl) (fun v9 => ?_)
        refine s_run X ok_law_55 19 3 (pc' := 3687) (vs' := [some (.ref b), some (.ref x), some (.ref m), some (.ref o), some (.int i), some (.int o2.1), some (.int o5.1), none]) (st' := [.int (lg_cmp v9 (Int32.toInt64 o5.1))]) rfl ?_
        refine s_lif_eq (tgt := 3692) X (dk okd_law_55 9 rfl) (by decide) ?_ ?_
        · exact s_less [true, true, true, true, true, false, false, false] rfl (h8)
        · refine s_run X ok_law_55 22 1 (pc' := 3691) (vs' := [some (.ref b), some (.ref x), some (.ref m), some (.ref o), some (.int i), some (.int o2.1), some (.int o5.1), none]) (st' := [.int 0]) rfl ?_
          exact s_none
  · refine s_run X ok_law_55 15 1 (pc' := 3674) (vs' := [some (.ref b), some (.ref x), some (.ref m), some (.ref o), some (.int i), some (.int o2.1), some (.int o5.1), none]) (st' := [.int 0]) rfl ?_
    exact s_none
