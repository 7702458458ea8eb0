theorem mh_L_378 : MH RL 378 yL_transferWait cL_transferWait 4 [(0, 9, 12, 22)] 3 := ⟨TT_7 (i := 149) rfl rfl, TT_7 (i := 150) rfl rfl, TT_1 (i := 0) rfl rfl, TT_7 (i := 151) rfl rfl, ⟨by decide, by decide, by decide +kernel⟩⟩
theorem mh_L_381 : MH RL 381 yL_generation cL_generation 4 [(0, 9, 12, 22)] 3 := ⟨TT_7 (i := 158) rfl rfl, TT_7 (i := 159) rfl rfl, TT_1 (i := 0) rfl rfl, TT_7 (i := 160) rfl rfl, ⟨by decide, by decide, by decide +kernel⟩⟩
theorem mh_L_384 : MH RL 384 yL_worth cL_worth 4 [(0, 9, 12, 22)] 3 := ⟨TT_7 (i := 165) rfl rfl, TT_7 (i := 166) rfl rfl, TT_1 (i := 0) rfl rfl, TT_7 (i := 167) rfl rfl, ⟨by decide, by decide, by decide +kernel⟩⟩
theorem mh_L_395 : MH RL 395 yL_formatInvoice cL_formatInvoice 5 [(0, 10, 13, 22), (0, 10, 17, 13)] 4 := ⟨TT_7 (i := 172) rfl rfl, TT_7 (i := 173) rfl rfl, TT_1 (i := 0) rfl rfl, TT_7 (i := 174) rfl rfl, ⟨by decide, by decide, by decide +kernel⟩⟩
theorem mv_L_380 : MV RL 380 yX12_transferWait cX12_transferWait 2 (some .int) 1 := ⟨TT_9 (i := 226) rfl rfl, TT_9 (i := 227) rfl rfl, TT_9 (i := 228) rfl rfl, TT_1 (i := 13) rfl rfl, TT_9 (i := 229) rfl rfl, ⟨by decide, by decide, by decide +kernel⟩⟩
theorem mv_L_383 : MV RL 383 yX12_generation cX12_generation 2 (some .int) 1 := ⟨TT_9 (i := 230) rfl rfl, TT_9 (i := 231) rfl rfl, TT_9 (i := 232) rfl rfl, TT_1 (i := 13) rfl rfl, TT_9 (i := 233) rfl rfl, ⟨by decide, by decide, by decide +kernel⟩⟩
theorem mv_L_386 : MV RL 386 yX12_worth cX12_worth 2 (some .int) 1 := ⟨TT_9 (i := 234) rfl rfl, TT_9 (i := 235) rfl rfl, TT_9 (i := 236) rfl rfl, TT_1 (i := 13) rfl rfl, TT_9 (i := 237) rfl rfl, ⟨by decide, by decide, by decide +kernel⟩⟩
theorem mv_L_387 : MV RL 387 yX11_saveSnapshot cX11_saveSnapshot 2 (some .boolean) 1 := ⟨TT_4 (i := 85) rfl rfl, TT_4 (i := 86) rfl rfl, TT_4 (i := 87) rfl rfl, TT_1 (i := 1) rfl rfl, TT_4 (i := 88) rfl rfl, ⟨by decide, by decide, by decide +kernel⟩⟩
theorem mv_L_390 : MV RL 390 yX12_saveSnapshot cX12_saveSnapshot 2 (some .boolean) 1 := ⟨TT_8 (i := 56) rfl rfl, TT_8 (i := 57) rfl rfl, TT_8 (i := 58) rfl rfl, TT_1 (i := 13) rfl rfl, TT_8 (i := 59) rfl rfl, ⟨by decide, by decide, by decide +kernel⟩⟩
theorem mv_L_391 : MV RL 391 yX11_restoreSnapshot cX11_restoreSnapshot 2 (some .boolean) 1 := ⟨TT_4 (i := 121) rfl rfl, TT_4 (i := 122) rfl rfl, TT_4 (i := 123) rfl rfl, TT_1 (i := 1) rfl rfl, TT_4 (i := 124) rfl rfl, ⟨by decide, by decide, by decide +kernel⟩⟩
theorem mv_L_394 : MV RL 394 yX12_restoreSnapshot cX12_restoreSnapshot 2 (some .boolean) 1 := ⟨TT_8 (i := 67) rfl rfl, TT_8 (i := 68) rfl rfl, TT_8 (i := 69) rfl rfl, TT_1 (i := 13) rfl rfl, TT_8 (i := 70) rfl rfl, ⟨by decide, by decide, by decide +kernel⟩⟩
theorem mv_L_397 : MV RL 397 yX12_formatInvoice cX12_formatInvoice 4 (some .int) 2 := ⟨TT_9 (i := 238) rfl rfl, TT_9 (i := 239) rfl rfl, TT_10 (i := 0) rfl rfl, TT_1 (i := 13) rfl rfl, TT_10 (i := 1) rfl rfl, ⟨by decide, by decide, by decide +kernel⟩⟩
theorem mv_L_398 : MV RL 398 yX11_formattedByte cX11_formattedByte 2 (some .int) 1 := ⟨TT_4 (i := 125) rfl rfl, TT_4 (i := 126) rfl rfl, TT_4 (i := 127) rfl rfl, TT_1 (i := 1) rfl rfl, TT_4 (i := 128) rfl rfl, ⟨by decide, by decide, by decide +kernel⟩⟩
theorem mv_L_401 : MV RL 401 yX12_formattedByte cX12_formattedByte 2 (some .int) 1 := ⟨TT_10 (i := 27) rfl rfl, TT_10 (i := 28) rfl rfl, TT_10 (i := 29) rfl rfl, TT_1 (i := 13) rfl rfl, TT_10 (i := 30) rfl rfl, ⟨by decide, by decide, by decide +kernel⟩⟩
def tab_law_56 : List En := [(3695, 8, 1, 0), (3696, 8, 0, 0), (3697, 5, 4, 0), (3699, 0, 0, 1), (3700, 17, 0, 0), (3702, 8, 3, 0), (3706, 11, 5, 0), (3708, 8, 2, 0), (3709, 8, 0, 0), (3710, 5, 4, 0), (3712, 0, 0, 1), (3713, 17, 0, 0), (3718, 11, 6, 0), (3720, 8, 2, 0), (3724, 5, 5, 0), (3729, 0, 0, 0), (3731, 5, 5, 0), (3736, 8, 3, 0), (3737, 0, 0, 0), (3739, 5, 6, 0), (3741, 31, 0, 0), (3742, 40, 0, 0), (3746, 0, 0, 0), (3748, 41, 4006, 0)]
theorem ok_law_56 : tab_law_56.all (okE code) = true := by decide +kernel
def ed_law_56 : List (Nat × Instr × Nat) := [(3701, .iaload, 1), (3703, .invokestatic 378, 3), (3714, .iaload, 1), (3715, .invokevirtual 380, 3), (3721, .invokevirtual 214, 3), (3726, .if_icmp .eq 5, 3), (3730, .ireturn, 1), (3733, .ifCond .ne 15, 3), (3738, .laload, 1), (3743, .ifCond .eq 5, 3), (3747, .ireturn, 1)]
theorem okd_law_56 : ed_law_56.all (okD code) = true := by decide +kernel
def f_law_56 (Ls : Nat) (xs : Nat → Int32) (S : St) (x m o : Nat) (i : Int32) (c : Nat) (kont : St → Nat → Option Unit) : Option Unit := sx Ls xs (i + 1) fun (v1 : Int32) => cl (f_L_transferWait S x v1 o) fun (o2 : Int32 × St × Nat) => bud (c + o2.2.2) <| sx Ls xs (i + 1) fun (v4 : Int32) => cl (f_X12_transferWait o2.2.1 m v4) fun (o5 : Int32 × St) => cl (f_X12_thrown o5.2 m) fun (v6 : Int32) => if v6 = o2.1 then (jn (κ := Option (Unit)) (kont o5.2 ((c + o2.2.2))) fun k7 => if o2.1 = 0 then (ldJ o5.2 o 0 fun (v9 : Int64) => if v9 = (Int32.toInt64 o5.1) then (k7) else (none)) else (k7)) else (none)
set_option maxHeartbeats 4000000 in
set_option maxRecDepth 100000 in
theorem c_law_56 {Cn : Nat → CT} {b Ls : Nat} {xs : Nat → Int32} {Q : Unit → State → Prop} {x m o : Nat} {i : Int32} (hf : Fam Cn b Ls xs) (tx0 : tT (Cn 0) x 10) (tm0 : tT (Cn 0) m 11) (to0 : tT (Cn 0) o 14) (S : St) (c : Nat) (hc : c ≤ 512) (kont : St → Nat → Option Unit) (hk : ∀ (S : St) (c : Nat), c ≤ 512 → Jd (Cn c) 8 Q S 4006 [some (.ref b), some (.ref x), some (.ref m), some (.ref o), some (.int i), none, none, none] [] (kont S c)) : Jd (Cn c) 8 Q S 3695 [some (.ref b), some (.ref x), some (.ref m), some (.ref o), some (.int i), none, none, none] [] (f_law_56 Ls xs S x m o i c kont) := by
  have X := hf.X hc
  have E := hf.E c
  have tx_ := hf.T c tx0
  have tm_ := hf.T c tm0
  have to_ := hf.T c to0
  unfold f_law_56
  refine s_run X ok_law_56 0 5 (pc' := 3701) (vs' := [some (.ref b), some (.ref x), some (.ref m), some (.ref o), some (.int i), none, none, none]) (st' := [.int (i + 1), .ref b, .ref x]) rfl ?_
  refine s_sld hf (dk okd_law_56 0 rfl) (fun v1 => ?_)
  refine s_run X ok_law_56 5 1 (pc' := 3703) (vs' := [some (.ref b), some (.ref x), some (.ref m), some (.ref o), some (.int i), none, none, none]) (st' := [.ref o, .int v1, .ref x]) rfl ?_
  refine s_callH (c0 := c) (As := [.ref x, .int v1, .ref o]) (rest := []) hf mh_L_378 (c_L_transferWait S x v1 o) (ta2 tx_ to_) rfl rfl (Nat.le_of_ble_eq_true rfl) (Nat.le_of_ble_eq_true rfl) (Nat.le_of_ble_eq_true rfl) (dk okd_law_56 1 rfl) (st' := fun o2 => [.int o2.1]) (fun _ => rfl) (fun o2 hb3 => ?_)
  have X := hf.X hb3
  have E := hf.E (c + o2.2.2)
  have tx_ := hf.T (c + o2.2.2) tx_
  have tm_ := hf.T (c + o2.2.2) tm_
  have to_ := hf.T (c + o2.2.2) to_
  refine s_run X ok_law_56 6 6 (pc' := 3714) (vs' := [some (.ref b), some (.ref x), some (.ref m), some (.ref o), some (.int i), some (.int o2.1), none, none]) (st' := [.int (i + 1), .ref b, .ref m]) rfl ?_
  refine s_sld hf (dk okd_law_56 2 rfl) (fun v4 => ?_)
  refine s_callV (b := m) (As := [.int v4]) (rest := []) X E mv_L_380 (c_X12_transferWait o2.2.1 m v4) rfl (ta1 tm_) rfl (by decide) tm_ rfl rfl (Nat.le_of_ble_eq_true rfl) (Nat.le_of_ble_eq_true rfl) (Nat.le_of_ble_eq_true rfl) (dk okd_law_56 3 rfl) (st' := fun o5 => [.int o5.1]) (fun _ => rfl) (fun o5 => ?_)
  refine s_run X ok_law_56 12 2 (pc' := 3721) (vs' := [some (.ref b), some (.ref x), some (.ref m), some (.ref o), some (.int i), some (.int o2.1), some (.int o5.1), none]) (st' := [.ref m]) rfl ?_
  refine s_callV (b := m) (As := []) (rest := []) X E mv_L_214 (c_X12_thrown o5.2 m) rfl (ta1 tm_) rfl (by decide) tm_ rfl rfl (Nat.le_of_ble_eq_true rfl) (Nat.le_of_ble_eq_true rfl) (Nat.le_of_ble_eq_true rfl) (dk okd_law_56 4 rfl) (st' := fun v6 => [.int v6]) (fun _ => rfl) (fun v6 => ?_)
  refine s_run X ok_law_56 14 1 (pc' := 3726) (vs' := [some (.ref b), some (.ref x), some (.ref m), some (.ref o), some (.int i), some (.int o2.1), some (.int o5.1), none]) (st' := [.int o2.1, .int v6]) rfl ?_
  refine s_icmp_eq (tgt := 3731) X (dk okd_law_56 5 rfl) (by decide) ?_ ?_
  · refine s_run X ok_law_56 16 1 (pc' := 3733) (vs' := [some (.ref b), some (.ref x), some (.ref m), some (.ref o), some (.int i), some (.int o2.1), some (.int o5.1), none]) (st' := [.int o2.1]) rfl ?_
    refine s_jn (κ := Option (Unit)) (fun k7 => Jd (Cn (c + o2.2.2)) 8 Q o5.2 3748 [some (.ref b), some (.ref x), some (.ref m), some (.ref o), some (.int i), none, none, none] [] k7) ?_ (fun k7 h8 => ?_)
    · refine s_run X ok_law_56 23 1 (pc' := 4006) (vs' := [some (.ref b), some (.ref x), some (.ref m), some (.ref o), some (.int i), none, none, none]) (st' := []) rfl ?_
      exact s_less [true, true, true, true, true, false, false, false] rfl (hk o5.2 ((c + o2.2.2)) hb3)
    · refine s_if_ne (tgt := 3748) X (dk okd_law_56 7 rfl) (by decide) ?_ ?_
      · exact s_less [true, true, true, true, true, false, false, false] rfl (h8)
      · refine s_run X ok_law_56 17 2 (pc' := 3738) (vs' := [some (.ref b), some (.ref x), some (.ref m), some (.ref o), some (.int i), some (.int o2.1), some (.int o5.1), none]) (st' := [.int 0, .ref o]) rfl ?_
        refine s_lald X to_ (dk okd_law_56 8 rfl) (fun v9 => ?_)
        refine s_run X ok_law_56 19 3 (pc' := 3743) (vs' := [some (.ref b), some (.ref x), some (.ref m), some (.ref o), some (.int i), some (.int o2.1), some (.int o5.1), none]) (st' := [.int (lg_cmp v9 (Int32.toInt64 o5.1))]) rfl ?_
        refine s_lif_eq (tgt := 3748) X (dk okd_law_56 9 rfl) (by decide) ?_ ?_
        · exact s_less [true, true, true, true, true, false, false, false] rfl (h8)
        · refine s_run X ok_law_56 22 1 (pc' := 3747) (vs' := [some (.ref b), some (.ref x), some (.ref m), some (.ref o), some (.int i), some (.int o2.1), some (.int o5.1), none]) (st' := [.int 0]) rfl ?_
          exact s_none
  · refine s_run X ok_law_56 15 1 (pc' := 3730) (vs' := [some (.ref b), some (.ref x), some (.ref m), some (.ref o), some (.int i), some (.int o2.1), some (.int o5.1), none]) (st' := [.int 0]) rfl ?_
    exact s_none
def tab_law_57 : List En := [(3751, 8, 1, 0), (3752, 8, 0, 0), (3753, 5, 4, 0), (3755, 0, 0, 1), (3756, 17, 0, 0), (3758, 8, 3, 0), (3762, 11, 5, 0), (3764, 8, 2, 0), (3765, 8, 0, 0), (3766, 5, 4, 0), (3768, 0, 0, 1), (3769, 17, 0, 0), (3774, 11, 6, 0), (3776, 8, 2, 0), (3780, 5, 5, 0), (3785, 0, 0, 0), (3787, 5, 5, 0), (3792, 8, 3, 0), (3793, 0, 0, 0), (3795, 5, 6, 0), (3797, 31, 0, 0), (3798, 40, 0, 0), (3802, 0, 0, 0), (3804, 41, 4006, 0)]
theorem ok_law_57 : tab_law_57.all (okE code) = true := by decide +kernel
def ed_law_57 : List (Nat × Instr × Nat) := [(3757, .iaload, 1), (3759, .invokestatic 381, 3), (3770, .iaload, 1), (3771, .invokevirtual 383, 3), (3777, .invokevirtual 214, 3), (3782, .if_icmp .eq 5, 3), (3786, .ireturn, 1), (3789, .ifCond .ne 15, 3), (3794, .laload, 1), (3799, .ifCond .eq 5, 3), (3803, .ireturn, 1)]
theorem okd_law_57 : ed_law_57.all (okD code) = true := by decide +kernel
def f_law_57 (Ls : Nat) (xs : Nat → Int32) (S : St) (x m o : Nat) (i : Int32) (c : Nat) (kont : St → Nat → Option Unit) : Option Unit := sx Ls xs (i + 1) fun (v1 : Int32) => cl (f_L_generation S x v1 o) fun (o2 : Int32 × St × Nat) => bud (c + o2.2.2) <| sx Ls xs (i + 1) fun (v4 : Int32) => cl (f_X12_generation o2.2.1 m v4) fun (o5 : Int32 × St) => cl (f_X12_thrown o5.2 m) fun (v6 : Int32) => if v6 = o2.1 then (jn (κ := Option (Unit)) (kont o5.2 ((c + o2.2.2))) fun k7 => if o2.1 = 0 then (ldJ o5.2 o 0 fun (v9 : Int64) => if v9 = (Int32.toInt64 o5.1) then (k7) else (none)) else (k7)) else (none)
set_option maxHeartbeats 4000000 in
set_option maxRecDepth 100000 in
theorem c_law_57 {Cn : Nat → CT} {b Ls : Nat} {xs : Nat → Int32} {Q : Unit → State → Prop} {x m o : Nat} {i : Int32} (hf : Fam Cn b Ls xs) (tx0 : tT (Cn 0) x 10) (tm0 : tT (Cn 0) m 11) (to0 : tT (Cn 0) o 14) (S : St) (c : Nat) (hc : c ≤ 512) (kont : St → Nat → Option Unit) (hk : ∀ (S : St) (c : Nat), c ≤ 512 → Jd (Cn c) 8 Q S 4006 [some (.ref b), some (.ref x), some (.ref m), some (.ref o), some (.int i), none, none, none] [] (kont S c)) : Jd (Cn c) 8 Q S 3751 [some (.ref b), some (.ref x), some (.ref m), some (.ref o), some (.int i), none, none, none] [] (f_law_57 Ls xs S x m o i c kont) := by
  have X := hf.X hc
  have E := hf.E c
  have tx_ := hf.T c tx0
  have tm_ := hf.T c tm0
  have to_ := hf.T c to0
  unfold f_law_57
  refine s_run X ok_law_57 0 5 (pc' := 3757) (vs' := [some (.ref b), some (.ref x), some (.ref m), some (.ref o), some (.int i), none, none, none]) (st' := [.int (i + 1), .ref b, .ref x]) rfl ?_
  refine s_sld hf (dk okd_law_57 0 rfl) (fun v1 => ?_)
  refine s_run X ok_law_57 5 1 (pc' := 3759) (vs' := [some (.ref b), some (.ref x), some (.ref m), some (.ref o), some (.int i), none, none, none]) (st' := [.ref o, .int v1, .ref x]) rfl ?_
  refine s_callH (c0 := c) (As := [.ref x, .int v1, .ref o]) (rest := []) hf mh_L_381 (c_L_generation S x v1 o) (ta2 tx_ to_) rfl rfl (Nat.le_of_ble_eq_true rfl) (Nat.le_of_ble_eq_true rfl) (Nat.le_of_ble_eq_true rfl) (dk okd_law_57 1 rfl) (st' := fun o2 => [.int o2.1]) (fun _ => rfl) (fun o2 hb3 => ?_)
  have X := hf.X hb3
  have E := hf.E (c + o2.2.2)
  have tx_ := hf.T (c + o2.2.2) tx_
  have tm_ := hf.T (c + o2.2.2) tm_
  have to_ := hf.T (c + o2.2.2) to_
  refine s_run X ok_law_57 6 6 (pc' := 3770) (vs' := [some (.ref b), some (.ref x), some (.ref m), some (.ref o), some (.int i), some (.int o2.1), none, none]) (st' := [.int (i + 1), .ref b, .ref m]) rfl ?_
  refine s_sld hf (dk okd_law_57 2 rfl) (fun v4 => ?_)
  refine s_callV (b := m) (As := [.int v4]) (rest := []) X E mv_L_383 (c_X12_generation o2.2.1 m v4) rfl (ta1 tm_) rfl (by decide) tm_ rfl rfl (Nat.le_of_ble_eq_true rfl) (Nat.le_of_ble_eq_true rfl) (Nat.le_of_ble_eq_true rfl) (dk okd_law_57 3 rfl) (st' := fun o5 => [.int o5.1]) (fun _ => rfl) (fun o5 => ?_)
  refine s_run X ok_law_57 12 2 (pc' := 3777) (vs' := [some (.ref b), some (.ref x), some (.ref m), some (.ref o), some (.int i), some (.int o2.1), some (.int o5.1), none]) (st' := [.ref m]) rfl ?_
  refine s_callV (b := m) (As := []) (rest := []) X E mv_L_214 (c_X12_thrown o5.2 m) rfl (ta1 tm_) rfl (by decide) tm_ rfl rfl (Nat.le_of_ble_eq_true rfl) (Nat.le_of_ble_eq_true rfl) (Nat.le_of_ble_eq_true rfl) (dk okd_law_57 4 rfl) (st' := fun v6 => [.int v6]) (fun _ => rfl) (fun v6 => ?_)
  refine s_run X ok_law_57 14 1 (pc' := 3782) (vs' := [some (.ref b), some (.ref x), some (.ref m), some (.ref o), some (.int i), some (.int o2.1), some (.int o5.1), none]) (st' := [.int o2.1, .int v6]) rfl ?_
  refine s_icmp_eq (tgt := 3787) X (dk okd_law_57 5 rfl) (by decide) ?_ ?_
  · refine s_run X ok_law_57 16 1 (pc' := 3789) (vs' := [some (.ref b), some (.ref x), some (.ref m), some (.ref o), some (.int i), some (.int o2.1), some (.int o5.1), none]) (st' := [.int o2.1]) rfl ?_
    refine s_jn (κ := Option (Unit)) (fun k7 => Jd (Cn (c + o2.2.2)) 8 Q o5.2 3804 [some (.ref b), some (.ref x), some (.ref m), some (.ref o), some (.int i), none, none, none] [] k7) ?_ (fun k7 h8 => ?_)
    · refine s_run X ok_law_57 23 1 (pc' := 4006) (vs' := [some (.ref b), some (.ref x), some (.ref m), some (.ref o), some (.int i), none, none, none]) (st' := []) rfl ?_
      exact s_less [true, true, true, true, true, false, false, false] rfl (hk o5.2 ((c + o2.2.2)) hb3)
    · refine s_if_ne (tgt := 3804) X (dk okd_law_57 7 rfl) (by decide) ?_ ?_
      · exact s_less [true, true, true, true, true, false, false, false] rfl (h8)
      · refine s_run X ok_law_57 17 2 (pc' := 3794) (vs' := [some (.ref b), some (.ref x), some (.ref m), some (.ref o), some (.int i), some (.int o2.1), some (.int o5.1), none]) (st' := [.int 0, .ref o]) rfl ?_
        refine s_lald X to_ (dk okd_law_57 8 rfl) (fun v9 => ?_)
        refine s_run X ok_law_57 19 3 (pc' := 3799) (vs' := [some (.ref b), some (.ref x), some (.ref m), some (.ref o), some (.int i), some (.int o2.1), some (.int o5.1), none]) (st' := [.int (lg_cmp v9 (Int32.toInt64 o5.1))]) rfl ?_
        refine s_lif_eq (tgt := 3804) X (dk okd_law_57 9 rfl) (by decide) ?_ ?_
        · exact s_less [true, true, true, true, true, false, false, false] rfl (h8)
        · refine s_run X ok_law_57 22 1 (pc' := 3803) (vs' := [some (.ref b), some (.ref x), some (.ref m), some (.ref o), some (.int i), some (.int o2.1), some (.int o5.1), none]) (st' := [.int 0]) rfl ?_
          exact s_none
  · refine s_run X ok_law_57 15 1 (pc' := 3786) (vs' := [some (.ref b), some (.ref x), some (.ref m), some (.ref o), some (.int i), some (.int o2.1), some (.int o5.1), none]) (st' := [.int 0]) rfl ?_
    exact s_none
def tab_law_58 : List En := [(3807, 8, 1, 0), (3808, 8, 0, 0), (3809, 5, 4, 0), (3811, 0, 0, 1), (3812, 17, 0, 0), (3814, 8, 3, 0), (3818, 11, 5, 0), (3820, 8, 2, 0), (3821, 8, 0, 0), (3822, 5, 4, 0), (3824, 0, 0, 1), (3825, 17, 0, 0), (3830, 11, 6, 0), (3832, 8, 2, 0), (3836, 5, 5, 0), (3841, 0, 0, 0), (3843, 5, 5, 0), (3848, 8, 3, 0), (3849, 0, 0, 0), (3851, 5, 6, 0), (3853, 31, 0, 0), (3854, 40, 0, 0), (3858, 0, 0, 0), (3860, 41, 4006, 0)]
theorem ok_law_58 : tab_law_58.all (okE code) = true := by decide +kernel
def ed_law_58 : List (Nat × Instr × Nat) := [(3813, .iaload, 1), (3815, .invokestatic 384, 3), (3826, .iaload, 1), (3827, .invokevirtual 386, 3), (3833, .invokevirtual 214, 3), (3838, .if_icmp .eq 5, 3), (3842, .ireturn, 1), (3845, .ifCond .ne 15, 3), (3850, .laload, 1), (3855, .ifCond .eq 5, 3), (3859, .ireturn, 1)]
theorem okd_law_58 : ed_law_58.all (okD code) = true := by decide +kernel
def f_law_58 (Ls : Nat) (xs : Nat → Int32) (S : St) (x m o : Nat) (i : Int32) (c : Nat) (kont : St → Nat → Option Unit) : Option Unit := sx Ls xs (i + 1) fun (v1 : Int32) => cl (f_L_worth S x v1 o) fun (o2 : Int32 × St × Nat) => bud (c + o2.2.2) <| sx Ls xs (i + 1) fun (v4 : Int32) => cl (f_X12_worth o2.2.1 m v4) fun (o5 : Int32 × St) => cl (f_X12_thrown o5.2 m) fun (v6 : Int32) => if v6 = o2.1 then (jn (κ := Option (Unit)) (kont o5.2 ((c + o2.2.2))) fun k7 => if o2.1 = 0 then (ldJ o5.2 o 0 fun (v9 : Int64) => if v9 = (Int32.toInt64 o5.1) then (k7) else (none)) else (k7)) else (none)
set_option maxHeartbeats 4000000 in
set_option maxRecDepth 100000 in
theorem c_law_58 {Cn : Nat → CT} {b Ls : Nat} {xs : Nat → Int32} {Q : Unit → State → Prop} {x m o : Nat} {i : Int32} (hf : Fam Cn b Ls xs) (tx0 : tT (Cn 0) x 10) (tm0 : tT (Cn 0) m 11) (to0 : tT (Cn 0) o 14) (S : St) (c : Nat) (hc : c ≤ 512) (kont : St → Nat → Option Unit) (hk : ∀ (S : St) (c : Nat), c ≤ 512 → Jd (Cn c) 8 Q S 4006 [some (.ref b), some (.ref x), some (.ref m), some (.ref o), some (.int i), none, none, none] [] (kont S c)) : Jd (Cn c) 8 Q S 3807 [some (.ref b), some (.ref x), some (.ref m), some (.ref o), some (.int i), none, none, none] [] (f_law_58 Ls xs S x m o i c kont) := by
  have X := hf.X hc
  have E := hf.E c
  have tx_ := hf.T c tx0
  have tm_ := hf.T c tm0
  have to_ := hf.T c to0
  unfold f_law_58
  refine s_run X ok_law_58 0 5 (pc' := 3813) (vs' := [some (.ref b), some (.ref x), some (.ref m), some (.ref o), some (.int i), none, none, none]) (st' := [.int (i + 1), .ref b, .ref x]) rfl ?_
  refine s_sld hf (dk okd_law_58 0 rfl) (fun v1 => ?_)
  refine s_run X ok_law_58 5 1 (pc' := 3815) (vs' := [some (.ref b), some (.ref x), some (.ref m), some (.ref o), some (.int i), none, none, none]) (st' := [.ref o, .int v1, .ref x]) rfl ?_
  refine s_callH (c0 := c) (As := [.ref x, .int v1, .ref o]) (rest := []) hf mh_L_384 (c_L_worth S x v1 o) (ta2 tx_ to_) rfl rfl (Nat.le_of_ble_eq_true rfl) (Nat.le_of_ble_eq_true rfl) (Nat.le_of_ble_eq_true rfl) (dk okd_law_58 1 rfl) (st' := fun o2 => [.int o2.1]) (fun _ => rfl) (fun o2 hb3 => ?_)
  have X := hf.X hb3
  have E := hf.E (c + o2.2.2)
  have tx_ := hf.T (c + o2.2.2) tx_
  have tm_ := hf.T (c + o2.2.2) tm_
  have to_ := hf.T (c + o2.2.2) to_
  refine s_run X ok_law_58 6 6 (pc' := 3826) (vs' := [some (.ref b), some (.ref x), some (.ref m), some (.ref o), some (.int i), some (.int o2.1), none, none]) (st' := [.int (i + 1), .ref b, .ref m]) rfl ?_
  refine s_sld hf (dk okd_law_58 2 rfl) (fun v4 => ?_)
  refine s_callV (b := m) (As := [.int v4]) (rest := []) X E mv_L_386 (c_X12_worth o2.2.1 m v4) rfl (ta1 tm_) rfl (by decide) tm_ rfl rfl (Nat.le_of_ble_eq_true rfl) (Nat.le_of_ble_eq_true rfl) (Nat.le_of_ble_eq_true rfl) (dk okd_law_58 3 rfl) (st' := fun o5 => [.int o5.1]) (fun _ => rfl) (fun o5 => ?_)
  refine s_run X ok_law_58 12 2 (pc' := 3833) (vs' := [some (.ref b), some (.ref x), some (.ref m), some (.ref o), some (.int i), some (.int o2.1), some (.int o5.1), none]) (st' := [.ref m]) rfl ?_
  refine s_callV (b := m) (As := []) (rest := []) X E mv_L_214 (c_X12_thrown o5.2 m) rfl (ta1 tm_) rfl (by decide) tm_ rfl rfl (Nat.le_of_ble_eq_true rfl) (Nat.le_of_ble_eq_true rfl) (Nat.le_of_ble_eq_true rfl) (dk okd_law_58 4 rfl) (st' := fun v6 => [.int v6]) (fun _ => rfl) (fun v6 => ?_)
  refine s_run X ok_law_58 14 1 (pc' := 3838) (vs' := [some (.ref b), some (.ref x), some (.ref m), some (.ref o), some (.int i), some (.int o2.1), some (.int o5.1), none]) (st' := [.int o2.1, .int v6]) rfl ?_
  refine s_icmp_eq (tgt := 3843) X (dk okd_law_58 5 rfl) (by decide) ?_ ?_
  · refine s_run X ok_law_58 16 1 (pc' := 3845) (vs' := [some (.ref b), some (.ref x), some (.ref m), some (.ref o), some (.int i), some (.int o2.1), some (.int o5.1), none]) (st' := [.int o2.1]) rfl ?_
    refine s_jn (κ := Option (Unit)) (fun k7 => Jd (Cn (c + o2.2.2)) 8 Q o5.2 3860 [some (.ref b), some (.ref x), some (.ref m), some (.ref o), some (.int i), none, none, none] [] k7) ?_ (fun k7 h8 => ?_)
    · refine s_run X ok_law_58 23 1 (pc' := 4006) (vs' := [some (.ref b), some (.ref x), some (.ref m), some (.ref o), some (.int i), none, none, none]) (st' := []) rfl ?_
      exact s_less [true, true, true, true, true, false, false, false] rfl (hk o5.2 ((c + o2.2.2)) hb3)
    · refine s_if_ne (tgt := 3860) X (dk okd_law_58 7 rfl) (by decide) ?_ ?_
      · exact s_less [true, true, true, true, true, false, false, false] rfl (h8)
      · refine s_run X ok_law_58 17 2 (pc' := 3850) (vs' := [some (.ref b), some (.ref x), some (.ref m), some (.ref o), some (.int i), some (.int o2.1), some (.int o5.1), none]) (st' := [.int 0, .ref o]) rfl ?_
        refine s_lald X to_ (dk okd_law_58 8 rfl) (fun v9 => ?_)
        refine s_run X ok_law_58 19 3 (pc' := 3855) (vs' := [some (.ref b), some (.ref x), some (.ref m), some (.ref o), some (.int i), some (.int o2.1), some (.int o5.1), none]) (st' := [.int (lg_cmp v9 (Int32.toInt64 o5.1))]) rfl ?_
        refine s_lif_eq (tgt := 3860) X (dk okd_law_58 9 rfl) (by decide) ?_ ?_
        · exact s_less [true, true, true, true, true, false, false, false] rfl (h8)
        · refine s_run X ok_law_58 22 1 (pc' := 3859) (vs' := [some (.ref b), some (.ref x), some (.ref m), some (.ref o), some (.int i), some (.int o2.1), some (.int o5.1), none]) (st' := [.int 0]) rfl ?_
          exact s_none
  · refine s_run X ok_law_58 15 1 (pc' := 3842) (vs' := [some (.ref b), some (.ref x), some (.ref m), some (.ref o), some (.int i), some (.int o2.1), some (.int o5.1), none]) (st' := [.int 0]) rfl ?_
    exact s_none
def tab_law_59 : List En := [(3863, 8, 1, 0), (3864, 8, 0, 0), (3865, 5, 4, 0), (3867, 0, 0, 1), (3868, 17, 0, 0), (3873, 8, 2, 0), (3874, 8, 0, 0), (3875, 5, 4, 0), (3877, 0, 0, 1), (3878, 17, 0, 0), (3886, 0, 0, 0)]
theorem ok_law_59 : tab_law_59.all (okE code) = true := by decide +kernel
def ed_law_59 : List (Nat × Instr × Nat) := [(3869, .iaload, 1), (3870, .invokevirtual 387, 3), (3879, .iaload, 1), (3880, .invokevirtual 390, 3), (3883, .if_icmp .eq 123, 3), (3887, .ireturn, 1)]
theorem okd_law_59 : ed_law_59.all (okD code) = true := by decide +kernel
def f_law_59 (Ls : Nat) (xs : Nat → Int32) (S : St) (x m o : Nat) (i : Int32) (c : Nat) (kont : St → Nat → Option Unit) : Option Unit := sx Ls xs (i + 1) fun (v1 : Int32) => cl (f_X11_saveSnapshot S x v1) fun (o2 : Int32 × St) => sx Ls xs (i + 1) fun (v3 : Int32) => cl (f_X12_saveSnapshot o2.2 m v3) fun (o4 : Int32 × St) => if o2.1 = o4.1 then (kont o4.2 (c)) else (none)
set_option maxHeartbeats 4000000 in
set_option maxRecDepth 100000 in
theorem c_law_59 {Cn : Nat → CT} {b Ls : Nat} {xs : Nat → Int32} {Q : Unit → State → Prop} {x m o : Nat} {i : Int32} (hf : Fam Cn b Ls xs) (tx0 : tT (Cn 0) x 10) (tm0 : tT (Cn 0) m 11) (to0 : tT (Cn 0) o 14) (S : St) (c : Nat) (hc : c ≤ 512) (kont : St → Nat → Option Unit) (hk : ∀ (S : St) (c : Nat), c ≤ 512 → Jd (Cn c) 8 Q S 4006 [some (.ref b), some (.ref x), some (.ref m), some (.ref o), some (.int i), none, none, none] [] (kont S c)) : Jd (Cn c) 8 Q S 3863 [some (.ref b), some (.ref x), some (.ref m), some (.ref o), some (.int i), none, none, none] [] (f_law_59 Ls xs S x m o i c kont) := by
  have X := hf.X hc
  have E := hf.E c
  have tx_ := hf.T c tx0
  have tm_ := hf.T c tm0
  have to_ := hf.T c to0
  unfold f_law_59
  refine s_run X ok_law_59 0 5 (pc' := 3869) (vs' := [some (.ref b), some (.ref x), some (.ref m), some (.ref o), some (.int i), none, none, none]) (st' := [.int (i + 1), .ref b, .ref x]) rfl ?_
  refine s_sld hf (dk okd_law_59 0 rfl) (fun v1 => ?_)
  refine s_callV (b := x) (As := [.int v1]) (rest := []) X E mv_L_387 (c_X11_saveSnapshot S x v1) rfl (ta1 tx_) rfl (by decide) tx_ rfl rfl (Nat.le_of_ble_eq_true rfl) (Nat.le_of_ble_eq_true rfl) (Nat.le_of_ble_eq_true rfl) (dk okd_law_59 1 rfl) (st' := fun o2 => [.int o2.1]) (fun _ => rfl) (fun o2 => ?_)
  refine s_run X ok_law_59 5 5 (pc' := 3879) (vs' := [some (.ref b), some (.ref x), some (.ref m), some (.ref o), some (.int i), none, none, none]) (st' := [.int (i + 1), .ref b, .ref m, .int o2.1]) rfl ?_
  refine s_sld hf (dk okd_law_59 2 rfl) (fun v3 => ?_)
  refine s_callV (b := m) (As := [.int v3]) (rest := [.int o2.1]) X E mv_L_390 (c_X12_saveSnapshot o2.2 m v3) rfl (ta1 tm_) rfl (by decide) tm_ rfl rfl (Nat.le_of_ble_eq_true rfl) (Nat.le_of_ble_eq_true rfl) (Nat.le_of_ble_eq_true rfl) (dk okd_law_59 3 rfl) (st' := fun o4 => [.int o4.1, .int o2.1]) (fun _ => rfl) (fun o4 => ?_)
  refine s_icmp_eq (tgt := 4006) X (dk okd_law_59 4 rfl) (by decide) ?_ ?_
  · exact s_less [true, true, true, true, true, false, false, false] rfl (hk o4.2 (c) hc)
  · refine s_run X ok_law_59 10 1 (pc' := 3887) (vs' := [some (.ref b), some (.ref x), some (.ref m), some (.ref o), some (.int i), none, none, none]) (st' := [.int 0]) rfl ?_
    exact s_none
def tab_law_60 : List En := [(3888, 8, 1, 0), (3889, 8, 0, 0), (3890, 5, 4, 0), (3892, 0, 0, 1), (3893, 17, 0, 0), (3898, 8, 2, 0), (3899, 8, 0, 0), (3900, 5, 4, 0), (3902, 0, 0, 1), (3903, 17, 0, 0), (3911, 0, 0, 0)]
theorem ok_law_60 : tab_law_60.all (okE code) = true := by decide +kernel
def ed_law_60 : List (Nat × Instr × Nat) := [(3894, .iaload, 1), (3895, .invokevirtual 391, 3), (3904, .iaload, 1), (3905, .invokevirtual 394, 3), (3908, .if_icmp .eq 98, 3), (3912, .ireturn, 1)]
theorem okd_law_60 : ed_law_60.all (okD code) = true := by decide +kernel
def f_law_60 (Ls : Nat) (xs : Nat → Int32) (S : St) (x m o : Nat) (i : Int32) (c : Nat) (kont : St → Nat → Option Unit) : Option Unit := sx Ls xs (i + 1) fun (v1 : Int32) => cl (f_X11_restoreSnapshot S x v1) fun (o2 : Int32 × St) => sx Ls xs (i + 1) fun (v3 : Int32) => cl (f_X12_restoreSnapshot o2.2 m v3) fun (o4 : Int32 × St) => if o2.1 = o4.1 then (kont o4.2 (c)) else (none)
set_option maxHeartbeats 4000000 in
set_option maxRecDepth 100000 in
theorem c_law_60 {Cn : Nat → CT} {b Ls : Nat} {xs : Nat → Int32} {Q : Unit → State → Prop} {x m o : Nat} {i : Int32} (hf : Fam Cn b Ls xs) (tx0 : tT (Cn 0) x 10) (tm0 : tT (Cn 0) m 11) (to0 : tT (Cn 0) o 14) (S : St) (c : Nat) (hc : c ≤ 512) (kont : St → Nat → Option Unit) (hk : ∀ (S : St) (c : Nat), c ≤ 512 → Jd (Cn c) 8 Q S 4006 [some (.ref b), some (.ref x), some (.ref m), some (.ref o), some (.int i), none, none, none] [] (kont S c)) : Jd (Cn c) 8 Q S 3888 [some (.ref b), some (.ref x), some (.ref m), some (.ref o), some (.int i), none, none, none] [] (f_law_60 Ls xs S x m o i c kont) := by
  have X := hf.X hc
  have E := hf.E c
  have tx_ := hf.T c tx0
  have tm_ := hf.T c tm0
  have to_ := hf.T c to0
  unfold f_law_60
  refine s_run X ok_law_60 0 5 (pc' := 3894) (vs' := [some (.ref b), some (.ref x), some (.ref m), some (.ref o), some (.int i), none, none, none]) (st' := [.int (i + 1), .ref b, .ref x]) rfl ?_
  refine s_sld hf (dk okd_law_60 0 rfl) (fun v1 => ?_)
  refine s_callV (b := x) (As := [.int v1]) (rest := []) X E mv_L_391 (c_X11_restoreSnapshot S x v1) rfl (ta1 tx_) rfl (by decide) tx_ rfl rfl (Nat.le_of_ble_eq_true rfl) (Nat.le_of_ble_eq_true rfl) (Nat.le_of_ble_eq_true rfl) (dk okd_law_60 1 rfl) (st' := fun o2 => [.int o2.1]) (fun _ => rfl) (fun o2 => ?_)
  refine s_run X ok_law_60 5 5 (pc' := 3904) (vs' := [some (.ref b), some (.ref x), some (.ref m), some (.ref o), some (.int i), none, none, none]) (st' := [.int (i + 1), .ref b, .ref m, .int o2.1]) rfl ?_
  refine s_sld hf (dk okd_law_60 2 rfl) (fun v3 => ?_)
  refine s_callV (b := m) (As := [.int v3]) (rest := [.int o2.1]) X E mv_L_394 (c_X12_restoreSnapshot o2.2 m v3) rfl (ta1 tm_) rfl (by decide) tm_ rfl rfl (Nat.le_of_ble_eq_true rfl) (Nat.le_of_ble_eq_true rfl) (Nat.le_of_ble_eq_true rfl) (dk okd_law_60 3 rfl) (st' := fun o4 => [.int o4.1, .int o2.1]) (fun _ => rfl) (fun o4 => ?_)
  refine s_icmp_eq (tgt := 4006) X (dk okd_law_60 4 rfl) (by decide) ?_ ?_
  · exact s_less [true, true, true, true, true, false, false, false] rfl (hk o4.2 (c) hc)
  · refine s_run X ok_law_60 10 1 (pc' := 3912) (vs' := [some (.ref b), some (.ref x), some (.ref m), some (.ref o), some (.int i), none, none, none]) (st' := [.int 0]) rfl ?_
    exact s_none
def tab_law_61 : List En := [(3913, 8, 1, 0), (3914, 8, 0, 0), (3915, 5, 4, 0), (3917, 0, 0, 1), (3918, 17, 0, 0), (3920, 8, 0, 0), (3921, 5, 4, 0), (3923, 0, 0, 2), (3924, 17, 0, 0), (3926, 8, 3, 0), (3930, 11, 5, 0), (3932, 8, 2, 0), (3933, 8, 0, 0), (3934, 5, 4, 0), (3936, 0, 0, 1), (3937, 17, 0, 0), (3939, 8, 0, 0), (3940, 5, 4, 0), (3942, 0, 0, 2), (3943, 17, 0, 0), (3948, 11, 6, 0), (3950, 8, 2, 0), (3954, 5, 5, 0), (3959, 0, 0, 0), (3961, 5, 5, 0), (3966, 8, 3, 0), (3967, 0, 0, 0), (3969, 5, 6, 0), (3971, 31, 0, 0), (3972, 40, 0, 0), (3976, 0, 0, 0), (3978, 41, 4006, 0)]
theorem ok_law_61 : tab_law_61.all (okE code) = true := by decide +kernel
def ed_law_61 : List (Nat × Instr × Nat) := [(3919, .iaload, 1), (3925, .iaload, 1), (3927, .invokestatic 395, 3), (3938, .iaload, 1), (3944, .iaload, 1), (3945, .invokevirtual 397, 3), (3951, .invokevirtual 214, 3), (3956, .if_icmp .eq 5, 3), (3960, .ireturn, 1), (3963, .ifCond .ne 15, 3), (3968, .laload, 1), (3973, .ifCond .eq 5, 3), (3977, .ireturn, 1)]
theorem okd_law_61 : ed_law_61.all (okD code) = true := by decide +kernel
def f_law_61 (Ls : Nat) (xs : Nat → Int32) (S : St) (x m o : Nat) (i : Int32) (c : Nat) (kont : St → Nat → Option Unit) : Option Unit := sx Ls xs (i + 1) fun (v1 : Int32) => sx Ls xs (i + 2) fun (v2 : Int32) => cl (f_L_formatInvoice S x v1 v2 o) fun (o3 : Int32 × St × Nat) => bud (c + o3.2.2) <| sx Ls xs (i + 1) fun (v5 : Int32) => sx Ls xs (i + 2) fun (v6 : Int32) => cl (f_X12_formatInvoice o3.2.1 m v5 v6) fun (o7 : Int32 × St) => cl (f_X12_thrown o7.2 m) fun (v8 : Int32) => if v8 = o3.1 then (jn (κ := Option (Unit)) (kont o7.2 ((c + o3.2.2))) fun k9 => if o3.1 = 0 then (ldJ o7.2 o 0 fun (v11 : Int64) => if v11 = (Int32.toInt64 o7.1) then (k9) else (none)) else (k9)) else (none)
set_option maxHeartbeats 4000000 in
set_option maxRecDepth 100000 in
theorem c_law_61 {Cn : Nat → CT} {b Ls : Nat} {xs : Nat → Int32} {Q : Unit → State → Prop} {x m o : Nat} {i : Int32} (hf : Fam Cn b Ls xs) (tx0 : tT (Cn 0) x 10) (tm0 : tT (Cn 0) m 11) (to0 : tT (Cn 0) o 14) (S : St) (c : Nat) (hc : c ≤ 512) (kont : St → Nat → Option Unit) (hk : ∀ (S : St) (c : Nat), c ≤ 512 → Jd (Cn c) 8 Q S 4006 [some (.ref b), some (.ref x), some (.ref m), some (.ref o), some (.int i), none, none, none] [] (kont S c)) : Jd (Cn c) 8 Q S 3913 [some (.ref b), some (.ref x), some (.ref m), some (.ref o), some (.int i), none, none, none] [] (f_law_61 Ls xs S x m o i c kont) := by
  have X := hf.X hc
  have E := hf.E c
  have tx_ := hf.T c tx0
  have tm_ := hf.T c tm0
  have to_ := hf.T c to0
  unfold f_law_61
  refine s_run X ok_law_61 0 5 (pc' := 3919) (vs' := [some (.ref b), some (.ref x), some (.ref m), some (.ref o), some (.int i), none, none, none]) (st' := [.int (i + 1), .ref b, .ref x]) rfl ?_
  refine s_sld hf (dk okd_law_61 0 rfl) (fun v1 => ?_)
  refine s_run X ok_law_61 5 4 (pc' := 3925) (vs' := [some (.ref b), some (.ref x), some (.ref m), some (.ref o), some (.int i), none, none, none]) (st' := [.int (i + 2), .ref b, .int v1, .ref x]) rfl ?_
  refine s_sld hf (dk okd_law_61 1 rfl) (fun v2 => ?_)
  refine s_run X ok_law_61 9 1 (pc' := 3927) (vs' := [some (.ref b), some (.ref x), some (.ref m), some (.ref o), some (.int i), none, none, none]) (st' := [.ref o, .int v2, .int v1, .ref x]) rfl ?_
  refine s_callH (c0 := c) (As := [.ref x, .int v1, .int v2, .ref o]) (rest := []) hf mh_L_395 (c_L_formatInvoice S x v1 v2 o) (ta2 tx_ to_) rfl rfl (Nat.le_of_ble_eq_true rfl) (Nat.le_of_ble_eq_true rfl) (Nat.le_of_ble_eq_true rfl) (dk okd_law_61 2 rfl) (st' := fun o3 => [.int o3.1]) (fun _ => rfl) (fun o3 hb4 => ?_)
  have X := hf.X hb4
  have E := hf.E (c + o3.2.2)
  have tx_ := hf.T (c + o3.2.2) tx_
  have tm_ := hf.T (c + o3.2.2) tm_
  have to_ := hf.T (c + o3.2.2) to_
  refine s_run X ok_law_61 10 6 (pc' := 3938) (vs' := [some (.ref b), some (.ref x), some (.ref m), some (.ref o), some (.int i), some (.int o3.1), none, none]) (st' := [.int (i + 1), .ref b, .ref m]) rfl ?_
  refine s_sld hf (dk okd_law_61 3 rfl) (fun v5 => ?_)
  refine s_run X ok_law_61 16 4 (pc' := 3944) (vs' := [some (.ref b), some (.ref x), some (.ref m), some (.ref o), some (.int i), some (.int o3.1), none, none]) (st' := [.int (i + 2), .ref b, .int v5, .ref m]) rfl ?_
  refine s_sld hf (dk okd_law_61 4 rfl) (fun v6 => ?_)
  refine s_callV (b := m) (As := [.int v5, .int v6]) (rest := []) X E mv_L_397 (c_X12_formatInvoice o3.2.1 m v5 v6) rfl (ta1 tm_) rfl (by decide) tm_ rfl rfl (Nat.le_of_ble_eq_true rfl) (Nat.le_of_ble_eq_true rfl) (Nat.le_of_ble_eq_true rfl) (dk okd_law_61 5 rfl) (st' := fun o7 => [.int o7.1]) (fun _ => rfl) (fun o7 => ?_)
  refine s_run X ok_law_61 20 2 (pc' := 3951) (vs' := [some (.ref b), some (.ref x), some (.ref m), some (.ref o), some (.int i), some (.int o3.1), some (.int o7.1), none]) (st' := [.ref m]) rfl ?_
  refine s_callV (b := m) (As := []) (rest := []) X E mv_L_214 (c_X12_thrown o7.2 m) rfl (ta1 tm_) rfl (by decide) tm_ rfl rfl (Nat.le_of_ble_eq_true rfl) (Nat.le_of_ble_eq_true rfl) (Nat.le_of_ble_eq_true rfl) (dk okd_law_61 6 rfl) (st' := fun v8 => [.int v8]) (fun _ => rfl) (fun v8 => ?_)
  refine s_run X ok_law_61 22 1 (pc' := 3956) (vs' := [some (.ref b), some (.ref x), some (.ref m), some (.ref o), some (.int i), some (.int o3.1), some (.int o7.1), none]) (st' := [.int o3.1, .int v8]) rfl ?_
  refine s_icmp_eq (tgt := 3961) X (dk okd_law_61 7 rfl) (by decide) ?_ ?_
  · refine s_run X ok_law_61 24 1 (pc' := 3963) (vs' := [some (.ref b), some (.ref x), some (.ref m), some (.ref o), some (.int i), some (.int o3.1), some (.int o7.1), none]) (st' := [.int o3.1]) rfl ?_
    refine s_jn (κ := Option (Unit)) (fun k9 => Jd (Cn (c + o3.2.2)) 8 Q o7.2 3978 [some (.ref b), some (.ref x), some (.ref m), some (.ref o), some (.int i), none, none, none] [] k9) ?_ (fun k9 h10 => ?_)
    · refine s_run X ok_law_61 31 1 (pc' := 4006) (vs' := [some (.ref b), some (.ref x), some (.ref m), some (.ref o), some (.int i), none, none, none]) (st' := []) rfl ?_
      exact s_less [true, true, true, true, true, false, false, false] rfl (hk o7.2 ((c + o3.2.2)) hb4)
    · refine s_if_ne (tgt := 3978) X (dk okd_law_61 9 rfl) (by decide) ?_ ?_
      · exact s_less [true, true, true, true, true, false, false, false] rfl (h10)
      · refine s_run X ok_law_61 25 2 (pc' := 3968) (vs' := [some (.ref b), some (.ref x), some (.ref m), some (.ref o), some (.int i), some (.int o3.1), some (.int o7.1), none]) (st' := [.int 0, .ref o]) rfl ?_
        refine s_lald X to_ (dk okd_law_61 10 rfl) (fun v11 => ?_)
        refine s_run X ok_law_61 27 3 (pc' := 3973) (vs' := [some (.ref b), some (.ref x), some (.ref m), some (.ref o), some (.int i), some (.int o3.1), some (.int o7.1), none]) (st' := [.int (lg_cmp v11 (Int32.toInt64 o7.1))]) rfl ?_
        refine s_lif_eq (tgt := 3978) X (dk okd_law_61 11 rfl) (by decide) ?_ ?_
        · exact s_less [true, true, true, true, true, false, false, false] rfl (h10)
        · refine s_run X ok_law_61 30 1 (pc' := 3977) (vs' := [some (.ref b), some (.ref x), some (.ref m), some (.ref o), some (.int i), some (.int o3.1), some (.int o7.1), none]) (st' := [.int 0]) rfl ?_
          exact s_none
  · refine s_run X ok_law_61 23 1 (pc' := 3960) (vs' := [some (.ref b), some (.ref x), some (.ref m), some (.ref o), some (.int i), some (.int o3.1), some (.int o7.1), none]) (st' := [.int 0]) rfl ?_
    exact s_none
def tab_law_62 : List En := [(3981, 8, 1, 0), (3982, 8, 0, 0), (3983, 5, 4, 0), (3985, 0, 0, 1), (3986, 17, 0, 0), (3991, 8, 2, 0), (3992, 8, 0, 0), (3993, 5, 4, 0), (3995, 0, 0, 1), (3996, 17, 0, 0), (4004, 0, 0, 0)]
theorem ok_law_62 : tab_law_62.all (okE code) = true := by decide +kernel
def ed_law_62 : List (Nat × Instr × Nat) := [(3987, .iaload, 1), (3988, .invokevirtual 398, 3), (3997, .iaload, 1), (3998, .invokevirtual 401, 3), (4001, .if_icmp .eq 5, 3), (4005, .ireturn, 1)]
theorem okd_law_62 : ed_law_62.all (okD code) = true := by decide +kernel
def f_law_62 (Ls : Nat) (xs : Nat → Int32) (S : St) (x m o : Nat) (i : Int32) (c : Nat) (kont : St → Nat → Option Unit) : Option Unit := sx Ls xs (i + 1) fun (v1 : Int32) => cl (f_X11_formattedByte S x v1) fun (v2 : Int32) => sx Ls xs (i + 1) fun (v3 : Int32) => cl (f_X12_formattedByte S m v3) fun (o4 : Int32 × St) => if v2 = o4.1 then (kont o4.2 (c)) else (none)
set_option maxHeartbeats 4000000 in
set_option maxRecDepth 100000 in
theorem c_law_62 {Cn : Nat → CT} {b Ls : Nat} {xs : Nat → Int32} {Q : Unit → State → Prop} {x m o : Nat} {i : Int32} (hf : Fam Cn b Ls xs) (tx0 : tT (Cn 0) x 10) (tm0 : tT (Cn 0) m 11) (to0 : tT (Cn 0) o 14) (S : St) (c : Nat) (hc : c ≤ 512) (kont : St → Nat → Option Unit) (hk : ∀ (S : St) (c : Nat), c ≤ 512 → Jd (Cn c) 8 Q S 4006 [some (.ref b), some (.ref x), some (.ref m), some (.ref o), some (.int i), none, none, none] [] (kont S c)) : Jd (Cn c) 8 Q S 3981 [some (.ref b), some (.ref x), some (.ref m), some (.ref o), some (.int i), none, none, none] [] (f_law_62 Ls xs S x m o i c kont) := by
  have X := hf.X hc
  have E := hf.E c
  have tx_ := hf.T c tx0
  have tm_ := hf.T c tm0
  have to_ := hf.T c to0
  unfold f_law_62
  refine s_run X ok_law_62 0 5 (pc' := 3987) (vs' := [some (.ref b), some (.ref x), some (.ref m), some (.ref o), some (.int i), none, none, none]) (st' := [.int (i + 1), .ref b, .ref x]) rfl ?_
  refine s_sld hf (dk okd_law_62 0 rfl) (fun v1 => ?_)
  refine s_callV (b := x) (As := [.int v1]) (rest := []) X E mv_L_398 (c_X11_formattedByte S x v1) rfl (ta1 tx_) rfl (by decide) tx_ rfl rfl (Nat.le_of_ble_eq_true rfl) (Nat.le_of_ble_eq_true rfl) (Nat.le_of_ble_eq_true rfl) (dk okd_law_62 1 rfl) (st' := fun v2 => [.int v2]) (fun _ => rfl) (fun v2 => ?_)
  refine s_run X ok_law_62 5 5 (pc' := 3997) (vs' := [some (.ref b), some (.ref x), some (.ref m), some (.ref o), some (.int i), none, none, none]) (st' := [.int (i + 1), .ref b, .ref m, .int v2]) rfl ?_
  refine s_sld hf (dk okd_law_62 2 rfl) (fun v3 => ?_)
  refine s_callV (b := m) (As := [.int v3]) (rest := [.int v2]) X E mv_L_401 (c_X12_formattedByte S m v3) rfl (ta1 tm_) rfl (by decide) tm_ rfl rfl (Nat.le_of_ble_eq_true rfl) (Nat.le_of_ble_eq_true rfl) (Nat.le_of_ble_eq_true rfl) (dk okd_law_62 3 rfl) (st' := fun o4 => [.int o4.1, .int v2]) (fun _ => rfl) (fun o4 => ?_)
  refine s_icmp_eq (tgt := 4006) X (dk okd_law_62 4 rfl) (by decide) ?_ ?_
  · exact s_less [true, true, true, true, true, false, false, false] rfl (hk o4.2 (c) hc)
  · refine s_run X ok_law_62 10 1 (pc' := 4005) (vs' := [some (.ref b), some (.ref x), some (.ref m), some (.ref o), some (.int i), none, none, none]) (st' := [.int 0]) rfl ?_
    exact s_none
