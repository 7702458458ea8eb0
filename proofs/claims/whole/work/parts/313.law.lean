theorem mh_L_245 : MH RL 245 yL_cede cL_cede 9 [(0, 18, 21, 22), (0, 18, 25, 13)] 8 := ⟨TT_5 (i := 230) rfl rfl, TT_5 (i := 231) rfl rfl, TT_1 (i := 0) rfl rfl, TT_5 (i := 232) rfl rfl, ⟨by decide, by decide, by decide +kernel⟩⟩
theorem mh_L_249 : MH RL 249 yL_outletOwner cL_outletOwner 4 [(0, 9, 12, 22)] 3 := ⟨TT_6 (i := 4) rfl rfl, TT_6 (i := 5) rfl rfl, TT_1 (i := 0) rfl rfl, TT_6 (i := 6) rfl rfl, ⟨by decide, by decide, by decide +kernel⟩⟩
theorem mh_L_252 : MH RL 252 yL_outletCell cL_outletCell 4 [(0, 9, 12, 22)] 3 := ⟨TT_6 (i := 17) rfl rfl, TT_6 (i := 18) rfl rfl, TT_1 (i := 0) rfl rfl, TT_6 (i := 19) rfl rfl, ⟨by decide, by decide, by decide +kernel⟩⟩
theorem mh_L_255 : MH RL 255 yL_openOutlet cL_openOutlet 6 [(0, 12, 15, 22), (0, 12, 19, 13)] 5 := ⟨TT_6 (i := 27) rfl rfl, TT_6 (i := 28) rfl rfl, TT_1 (i := 0) rfl rfl, TT_6 (i := 29) rfl rfl, ⟨by decide, by decide, by decide +kernel⟩⟩
theorem mh_L_258 : MH RL 258 yL_bestSite cL_bestSite 4 [(0, 9, 12, 22)] 3 := ⟨TT_6 (i := 36) rfl rfl, TT_6 (i := 37) rfl rfl, TT_1 (i := 0) rfl rfl, TT_6 (i := 38) rfl rfl, ⟨by decide, by decide, by decide +kernel⟩⟩
theorem mh_L_261 : MH RL 261 yL_coverage cL_coverage 5 [(0, 10, 13, 22), (0, 10, 17, 13)] 4 := ⟨TT_6 (i := 48) rfl rfl, TT_6 (i := 49) rfl rfl, TT_1 (i := 0) rfl rfl, TT_6 (i := 50) rfl rfl, ⟨by decide, by decide, by decide +kernel⟩⟩
theorem mh_L_264 : MH RL 264 yL_rivalCells cL_rivalCells 5 [(0, 10, 13, 22), (0, 10, 17, 13)] 4 := ⟨TT_6 (i := 59) rfl rfl, TT_6 (i := 60) rfl rfl, TT_1 (i := 0) rfl rfl, TT_6 (i := 61) rfl rfl, ⟨by decide, by decide, by decide +kernel⟩⟩
theorem mh_L_267 : MH RL 267 yL_halvingLine cL_halvingLine 4 [(0, 9, 12, 22)] 3 := ⟨TT_6 (i := 70) rfl rfl, TT_6 (i := 71) rfl rfl, TT_1 (i := 0) rfl rfl, TT_6 (i := 72) rfl rfl, ⟨by decide, by decide, by decide +kernel⟩⟩
theorem mv_L_248 : MV RL 248 yX12_cede cX12_cede 10 (some .int) 6 := ⟨TT_8 (i := 145) rfl rfl, TT_8 (i := 146) rfl rfl, TT_8 (i := 147) rfl rfl, TT_1 (i := 13) rfl rfl, TT_8 (i := 148) rfl rfl, ⟨by decide, by decide, by decide +kernel⟩⟩
theorem mv_L_251 : MV RL 251 yX12_outletOwner cX12_outletOwner 2 (some .int) 1 := ⟨TT_8 (i := 184) rfl rfl, TT_8 (i := 185) rfl rfl, TT_8 (i := 186) rfl rfl, TT_1 (i := 13) rfl rfl, TT_8 (i := 187) rfl rfl, ⟨by decide, by decide, by decide +kernel⟩⟩
theorem mv_L_254 : MV RL 254 yX12_outletCell cX12_outletCell 2 (some .int) 1 := ⟨TT_8 (i := 192) rfl rfl, TT_8 (i := 193) rfl rfl, TT_8 (i := 194) rfl rfl, TT_1 (i := 13) rfl rfl, TT_8 (i := 195) rfl rfl, ⟨by decide, by decide, by decide +kernel⟩⟩
theorem mv_L_257 : MV RL 257 yX12_openOutlet cX12_openOutlet 4 (some .int) 3 := ⟨TT_8 (i := 197) rfl rfl, TT_8 (i := 198) rfl rfl, TT_8 (i := 199) rfl rfl, TT_1 (i := 13) rfl rfl, TT_8 (i := 200) rfl rfl, ⟨by decide, by decide, by decide +kernel⟩⟩
theorem mv_L_260 : MV RL 260 yX12_bestSite cX12_bestSite 4 (some .int) 1 := ⟨TT_8 (i := 206) rfl rfl, TT_8 (i := 207) rfl rfl, TT_8 (i := 208) rfl rfl, TT_1 (i := 13) rfl rfl, TT_8 (i := 209) rfl rfl, ⟨by decide, by decide, by decide +kernel⟩⟩
theorem mv_L_263 : MV RL 263 yX12_coverage cX12_coverage 5 (some .int) 2 := ⟨TT_8 (i := 214) rfl rfl, TT_8 (i := 215) rfl rfl, TT_8 (i := 216) rfl rfl, TT_1 (i := 13) rfl rfl, TT_8 (i := 217) rfl rfl, ⟨by decide, by decide, by decide +kernel⟩⟩
theorem mv_L_266 : MV RL 266 yX12_rivalCells cX12_rivalCells 7 (some .int) 2 := ⟨TT_8 (i := 219) rfl rfl, TT_8 (i := 220) rfl rfl, TT_8 (i := 221) rfl rfl, TT_1 (i := 13) rfl rfl, TT_8 (i := 222) rfl rfl, ⟨by decide, by decide, by decide +kernel⟩⟩
theorem mv_L_269 : MV RL 269 yX12_halvingLine cX12_halvingLine 8 (some .int) 1 := ⟨TT_8 (i := 223) rfl rfl, TT_8 (i := 224) rfl rfl, TT_8 (i := 225) rfl rfl, TT_1 (i := 13) rfl rfl, TT_8 (i := 226) rfl rfl, ⟨by decide, by decide, by decide +kernel⟩⟩
def tab_law_16 : List En := [(956, 8, 1, 0), (957, 8, 0, 0), (958, 5, 4, 0), (960, 0, 0, 1), (961, 17, 0, 0), (963, 8, 0, 0), (964, 5, 4, 0), (966, 0, 0, 2), (967, 17, 0, 0), (969, 8, 0, 0), (970, 5, 4, 0), (972, 0, 0, 3), (973, 17, 0, 0), (975, 8, 0, 0), (976, 5, 4, 0), (978, 0, 0, 4), (979, 17, 0, 0), (981, 8, 0, 0), (982, 5, 4, 0), (984, 0, 0, 5), (985, 17, 0, 0), (987, 8, 0, 0), (988, 5, 4, 0), (990, 1, 0, 6), (992, 17, 0, 0), (994, 8, 3, 0), (998, 11, 5, 0), (1000, 8, 2, 0), (1001, 8, 0, 0), (1002, 5, 4, 0), (1004, 0, 0, 1), (1005, 17, 0, 0), (1007, 8, 0, 0), (1008, 5, 4, 0), (1010, 0, 0, 2), (1011, 17, 0, 0), (1013, 8, 0, 0), (1014, 5, 4, 0), (1016, 0, 0, 3), (1017, 17, 0, 0), (1019, 8, 0, 0), (1020, 5, 4, 0), (1022, 0, 0, 4), (1023, 17, 0, 0), (1025, 8, 0, 0), (1026, 5, 4, 0), (1028, 0, 0, 5), (1029, 17, 0, 0), (1031, 8, 0, 0), (1032, 5, 4, 0), (1034, 1, 0, 6), (1036, 17, 0, 0), (1041, 11, 6, 0), (1043, 8, 2, 0), (1047, 5, 5, 0), (1052, 0, 0, 0), (1054, 5, 5, 0), (1059, 8, 3, 0), (1060, 0, 0, 0), (1062, 5, 6, 0), (1064, 31, 0, 0), (1065, 40, 0, 0), (1069, 0, 0, 0), (1071, 41, 4006, 0)]
theorem ok_law_16 : tab_law_16.all (okE code) = true := by decide +kernel
def ed_law_16 : List (Nat × Instr × Nat) := [(962, .iaload, 1), (968, .iaload, 1), (974, .iaload, 1), (980, .iaload, 1), (986, .iaload, 1), (993, .iaload, 1), (995, .invokestatic 245, 3), (1006, .iaload, 1), (1012, .iaload, 1), (1018, .iaload, 1), (1024, .iaload, 1), (1030, .iaload, 1), (1037, .iaload, 1), (1038, .invokevirtual 248, 3), (1044, .invokevirtual 214, 3), (1049, .if_icmp .eq 5, 3), (1053, .ireturn, 1), (1056, .ifCond .ne 15, 3), (1061, .laload, 1), (1066, .ifCond .eq 5, 3), (1070, .ireturn, 1)]
theorem okd_law_16 : ed_law_16.all (okD code) = true := by decide +kernel
def f_law_16 (Ls : Nat) (xs : Nat → Int32) (S : St) (x m o : Nat) (i : Int32) (c : Nat) (kont : St → Nat → Option Unit) : Option Unit := sx Ls xs (i + 1) fun (v1 : Int32) => sx Ls xs (i + 2) fun (v2 : Int32) => sx Ls xs (i + 3) fun (v3 : Int32) => sx Ls xs (i + 4) fun (v4 : Int32) => sx Ls xs (i + 5) fun (v5 : Int32) => sx Ls xs (i + 6) fun (v6 : Int32) => cl (f_L_cede S x v1 v2 v3 v4 v5 v6 o) fun (o7 : Int32 × St × Nat) => bud (c + o7.2.2) <| sx Ls xs (i + 1) fun (v9 : Int32) => sx Ls xs (i + 2) fun (v10 : Int32) => sx Ls xs (i + 3) fun (v11 : Int32) => sx Ls xs (i + 4) fun (v12 : Int32) => sx Ls xs (i + 5) fun (v13 : Int32) => sx Ls xs (i + 6) fun (v14 : Int32) => cl (f_X12_cede o7.2.1 m v9 v10 v11 v12 v13 v14) fun (o15 : Int32 × St) => cl (f_X12_thrown o15.2 m) fun (v16 : Int32) => if v16 = o7.1 then (jn (κ := Option (Unit)) (kont o15.2 ((c + o7.2.2))) fun k17 => if o7.1 = 0 then (ldJ o15.2 o 0 fun (v19 : Int64) => if v19 = (Int32.toInt64 o15.1) then (k17) else (none)) else (k17)) else (none)
set_option maxHeartbeats 4000000 in
set_option maxRecDepth 100000 in
theorem c_law_16 {Cn : Nat → CT} {b Ls : Nat} {xs : Nat → Int32} {Q : Unit → State → Prop} {x m o : Nat} {i : Int32} (hf : Fam Cn b Ls xs) (tx0 : tT (Cn 0) x 10) (tm0 : tT (Cn 0) m 11) (to0 : tT (Cn 0) o 14) (S : St) (c : Nat) (hc : c ≤ 512) (kont : St → Nat → Option Unit) (hk : ∀ (S : St) (c : Nat), c ≤ 512 → Jd (Cn c) 8 Q S 4006 [some (.ref b), some (.ref x), some (.ref m), some (.ref o), some (.int i), none, none, none] [] (kont S c)) : Jd (Cn c) 8 Q S 956 [some (.ref b), some (.ref x), some (.ref m), some (.ref o), some (.int i), none, none, none] [] (f_law_16 Ls xs S x m o i c kont) := by
  have X := hf.X hc
  have E := hf.E c
  have tx_ := hf.T c tx0
  have tm_ := hf.T c tm0
  have to_ := hf.T c to0
  unfold f_law_16
  refine s_run X ok_law_16 0 5 (pc' := 962) (vs' := [some (.ref b), some (.ref x), some (.ref m), some (.ref o), some (.int i), none, none, none]) (st' := [.int (i + 1), .ref b, .ref x]) rfl ?_
  refine s_sld hf (dk okd_law_16 0 rfl) (fun v1 => ?_)
  refine s_run X ok_law_16 5 4 (pc' := 968) (vs' := [some (.ref b), some (.ref x), some (.ref m), some (.ref o), some (.int i), none, none, none]) (st' := [.int (i + 2), .ref b, .int v1, .ref x]) rfl ?_
  refine s_sld hf (dk okd_law_16 1 rfl) (fun v2 => ?_)
  refine s_run X ok_law_16 9 4 (pc' := 974) (vs' := [some (.ref b), some (.ref x), some (.ref m), some (.ref o), some (.int i), none, none, none]) (st' := [.int (i + 3), .ref b, .int v2, .int v1, .ref x]) rfl ?_
  refine s_sld hf (dk okd_law_16 2 rfl) (fun v3 => ?_)
  refine s_run X ok_law_16 13 4 (pc' := 980) (vs' := [some (.ref b), some (.ref x), some (.ref m), some (.ref o), some (.int i), none, none, none]) (st' := [.int (i + 4), .ref b, .int v3, .int v2, .int v1, .ref x]) rfl ?_
  refine s_sld hf (dk okd_law_16 3 rfl) (fun v4 => ?_)
  refine s_run X ok_law_16 17 4 (pc' := 986) (vs' := [some (.ref b), some (.ref x), some (.ref m), some (.ref o), some (.int i), none, none, none]) (st' := [.int (i + 5), .ref b, .int v4, .int v3, .int v2, .int v1, .ref x]) rfl ?_
  refine s_sld hf (dk okd_law_16 4 rfl) (fun v5 => ?_)
  refine s_run X ok_law_16 21 4 (pc' := 993) (vs' := [some (.ref b), some (.ref x), some (.ref m), some (.ref o), some (.int i), none, none, none]) (st' := [.int (i + 6), .ref b, .int v5, .int v4, .int v3, .int v2, .int v1, .ref x]) rfl ?_
  refine s_sld hf (dk okd_law_16 5 rfl) (fun v6 => ?_)
  refine s_run X ok_law_16 25 1 (pc' := 995) (vs' := [some (.ref b), some (.ref x), some (.ref m), some (.ref o), some (.int i), none, none, none]) (st' := [.ref o, .int v6, .int v5, .int v4, .int v3, .int v2, .int v1, .ref x]) rfl ?_
  refine s_callH (c0 := c) (As := [.ref x, .int v1, .int v2, .int v3, .int v4, .int v5, .int v6, .ref o]) (rest := []) hf mh_L_245 (c_L_cede S x v1 v2 v3 v4 v5 v6 o) (ta2 tx_ to_) rfl rfl (Nat.le_of_ble_eq_true rfl) (Nat.le_of_ble_eq_true rfl) (Nat.le_of_ble_eq_true rfl) (dk okd_law_16 6 rfl) (st' := fun o7 => [.int o7.1]) (fun _ => rfl) (fun o7 hb8 => ?_)
  have X := hf.X hb8
  have E := hf.E (c + o7.2.2)
  have tx_ := hf.T (c + o7.2.2) tx_
  have tm_ := hf.T (c + o7.2.2) tm_
  have to_ := hf.T (c + o7.2.2) to_
  refine s_run X ok_law_16 26 6 (pc' := 1006) (vs' := [some (.ref b), some (.ref x), some (.ref m), some (.ref o), some (.int i), some (.int o7.1), none, none]) (st' := [.int (i + 1), .ref b, .ref m]) rfl ?_
  refine s_sld hf (dk okd_law_16 7 rfl) (fun v9 => ?_)
  refine s_run X ok_law_16 32 4 (pc' := 1012) (vs' := [some (.ref b), some (.ref x), some (.ref m), some (.ref o), some (.int i), some (.int o7.1), none, none]) (st' := [.int (i + 2), .ref b, .int v9, .ref m]) rfl ?_
  refine s_sld hf (dk okd_law_16 8 rfl) (fun v10 => ?_)
  refine s_run X ok_law_16 36 4 (pc' := 1018) (vs' := [some (.ref b), some (.ref x), some (.ref m), some (.ref o), some (.int i), some (.int o7.1), none, none]) (st' := [.int (i + 3), .ref b, .int v10, .int v9, .ref m]) rfl ?_
  refine s_sld hf (dk okd_law_16 9 rfl) (fun v11 => ?_)
  refine s_run X ok_law_16 40 4 (pc' := 1024) (vs' := [some (.ref b), some (.ref x), some (.ref m), some (.ref o), some (.int i), some (.int o7.1), none, none]) (st' := [.int (i + 4), .ref b, .int v11, .int v10, .int v9, .ref m]) rfl ?_
  refine s_sld hf (dk okd_law_16 10 rfl) (fun v12 => ?_)
  refine s_run X ok_law_16 44 4 (pc' := 1030) (vs' := [some (.ref b), some (.ref x), some (.ref m), some (.ref o), some (.int i), some (.int o7.1), none, none]) (st' := [.int (i + 5), .ref b, .int v12, .int v11, .int v10, .int v9, .ref m]) rfl ?_
  refine s_sld hf (dk okd_law_16 11 rfl) (fun v13 => ?_)
  refine s_run X ok_law_16 48 4 (pc' := 1037) (vs' := [some (.ref b), some (.ref x), some (.ref m), some (.ref o), some (.int i), some (.int o7.1), none, none]) (st' := [.int (i + 6), .ref b, .int v13, .int v12, .int v11, .int v10, .int v9, .ref m]) rfl ?_
  refine s_sld hf (dk okd_law_16 12 rfl) (fun v14 => ?_)
  refine s_callV (b := m) (As := [.int v9, .int v10, .int v11, .int v12, .int v13, .int v14]) (rest := []) X E mv_L_248 (c_X12_cede o7.2.1 m v9 v10 v11 v12 v13 v14) rfl (ta1 tm_) rfl (by decide) tm_ rfl rfl (Nat.le_of_ble_eq_true rfl) (Nat.le_of_ble_eq_true rfl) (Nat.le_of_ble_eq_true rfl) (dk okd_law_16 13 rfl) (st' := fun o15 => [.int o15.1]) (fun _ => rfl) (fun o15 => ?_)
  refine s_run X ok_law_16 52 2 (pc' := 1044) (vs' := [some (.ref b), some (.ref x), some (.ref m), some (.ref o), some (.int i), some (.int o7.1), some (.int o15.1), none]) (st' := [.ref m]) rfl ?_
  refine s_callV (b := m) (As := []) (rest := []) X E mv_L_214 (c_X12_thrown o15.2 m) rfl (ta1 tm_) rfl (by decide) tm_ rfl rfl (Nat.le_of_ble_eq_true rfl) (Nat.le_of_ble_eq_true rfl) (Nat.le_of_ble_eq_true rfl) (dk okd_law_16 14 rfl) (st' := fun v16 => [.int v16]) (fun _ => rfl) (fun v16 => ?_)
  refine s_run X ok_law_16 54 1 (pc' := 1049) (vs' := [some (.ref b), some (.ref x), some (.ref m), some (.ref o), some (.int i), some (.int o7.1), some (.int o15.1), none]) (st' := [.int o7.1, .int v16]) rfl ?_
  refine s_icmp_eq (tgt := 1054) X (dk okd_law_16 15 rfl) (by decide) ?_ ?_
  · refine s_run X ok_law_16 56 1 (pc' := 1056) (vs' := [some (.ref b), some (.ref x), some (.ref m), some (.ref o), some (.int i), some (.int o7.1), some (.int o15.1), none]) (st' := [.int o7.1]) rfl ?_
    refine s_jn (κ := Option (Unit)) (fun k17 => Jd (Cn (c + o7.2.2)) 8 Q o15.2 1071 [some (.ref b), some (.ref x), some (.ref m), some (.ref o), some (.int i), none, none, none] [] k17) ?_ (fun k17 h18 => ?_)
    · refine s_run X ok_law_16 63 1 (pc' := 4006) (vs' := [some (.ref b), some (.ref x), some (.ref m), some (.ref o), some (.int i), none, none, none]) (st' := []) rfl ?_
      exact s_less [true, true, true, true, true, false, false, false] rfl (hk o15.2 ((c + o7.2.2)) hb8)
    · refine s_if_ne (tgt := 1071) X (dk okd_law_16 17 rfl) (by decide) ?_ ?_
      · exact s_less [true, true, true, true, true, false, false, false] rfl (h18)
      · refine s_run X ok_law_16 57 2 (pc' := 1061) (vs' := [some (.ref b), some (.ref x), some (.ref m), some (.ref o), some (.int i), some (.int o7.1), some (.int o15.1), none]) (st' := [.int 0, .ref o]) rfl ?_
        refine s_lald X to_ (dk okd_law_16 18 rfl) (fun v19 => ?_)
        refine s_run X ok_law_16 59 3 (pc' := 1066) (vs' := [some (.ref b), some (.ref x), some (.ref m), some (.ref o), some (.int i), some (.int o7.1), some (.int o15.1), none]) (st' := [.int (lg_cmp v19 (Int32.toInt64 o15.1))]) rfl ?_
        refine s_lif_eq (tgt := 1071) X (dk okd_law_16 19 rfl) (by decide) ?_ ?_
        · exact s_less [true, true, true, true, true, false, false, false] rfl (h18)
        · refine s_run X ok_law_16 62 1 (pc' := 1070) (vs' := [some (.ref b), some (.ref x), some (.ref m), some (.ref o), some (.int i), some (.int o7.1), some (.int o15.1), none]) (st' := [.int 0]) rfl ?_
          exact s_none
  · refine s_run X ok_law_16 55 1 (pc' := 1053) (vs' := [some (.ref b), some (.ref x), some (.ref m), some (.ref o), some (.int i), some (.int o7.1), some (.int o15.1), none]) (st' := [.int 0]) rfl ?_
    exact s_none
def tab_law_17 : List En := [(1074, 8, 1, 0), (1075, 8, 0, 0), (1076, 5, 4, 0), (1078, 0, 0, 1), (1079, 17, 0, 0), (1081, 8, 3, 0), (1085, 11, 5, 0), (1087, 8, 2, 0), (1088, 8, 0, 0), (1089, 5, 4, 0), (1091, 0, 0, 1), (1092, 17, 0, 0), (1097, 11, 6, 0), (1099, 8, 2, 0), (1103, 5, 5, 0), (1108, 0, 0, 0), (1110, 5, 5, 0), (1115, 8, 3, 0), (1116, 0, 0, 0), (1118, 5, 6, 0), (1120, 31, 0, 0), (1121, 40, 0, 0), (1125, 0, 0, 0), (1127, 41, 4006, 0)]
theorem ok_law_17 : tab_law_17.all (okE code) = true := by decide +kernel
def ed_law_17 : List (Nat × Instr × Nat) := [(1080, .iaload, 1), (1082, .invokestatic 249, 3), (1093, .iaload, 1), (1094, .invokevirtual 251, 3), (1100, .invokevirtual 214, 3), (1105, .if_icmp .eq 5, 3), (1109, .ireturn, 1), (1112, .ifCond .ne 15, 3), (1117, .laload, 1), (1122, .ifCond .eq 5, 3), (1126, .ireturn, 1)]
theorem okd_law_17 : ed_law_17.all (okD code) = true := by decide +kernel
def f_law_17 (Ls : Nat) (xs : Nat → Int32) (S : St) (x m o : Nat) (i : Int32) (c : Nat) (kont : St → Nat → Option Unit) : Option Unit := sx Ls xs (i + 1) fun (v1 : Int32) => cl (f_L_outletOwner S x v1 o) fun (o2 : Int32 × St × Nat) => bud (c + o2.2.2) <| sx Ls xs (i + 1) fun (v4 : Int32) => cl (f_X12_outletOwner o2.2.1 m v4) fun (o5 : Int32 × St) => cl (f_X12_thrown o5.2 m) fun (v6 : Int32) => if v6 = o2.1 then (jn (κ := Option (Unit)) (kont o5.2 ((c + o2.2.2))) fun k7 => if o2.1 = 0 then (ldJ o5.2 o 0 fun (v9 : Int64) => if v9 = (Int32.toInt64 o5.1) then (k7) else (none)) else (k7)) else (none)
set_option maxHeartbeats 4000000 in
set_option maxRecDepth 100000 in
theorem c_law_17 {Cn : Nat → CT} {b Ls : Nat} {xs : Nat → Int32} {Q : Unit → State → Prop} {x m o : Nat} {i : Int32} (hf : Fam Cn b Ls xs) (tx0 : tT (Cn 0) x 10) (tm0 : tT (Cn 0) m 11) (to0 : tT (Cn 0) o 14) (S : St) (c : Nat) (hc : c ≤ 512) (kont : St → Nat → Option Unit) (hk : ∀ (S : St) (c : Nat), c ≤ 512 → Jd (Cn c) 8 Q S 4006 [some (.ref b), some (.ref x), some (.ref m), some (.ref o), some (.int i), none, none, none] [] (kont S c)) : Jd (Cn c) 8 Q S 1074 [some (.ref b), some (.ref x), some (.ref m), some (.ref o), some (.int i), none, none, none] [] (f_law_17 Ls xs S x m o i c kont) := by
  have X := hf.X hc
  have E := hf.E c
  have tx_ := hf.T c tx0
  have tm_ := hf.T c tm0
  have to_ := hf.T c to0
  unfold f_law_17
  refine s_run X ok_law_17 0 5 (pc' := 1080) (vs' := [some (.ref b), some (.ref x), some (.ref m), some (.ref o), some (.int i), none, none, none]) (st' := [.int (i + 1), .ref b, .ref x]) rfl ?_
  refine s_sld hf (dk okd_law_17 0 rfl) (fun v1 => ?_)
  refine s_run X ok_law_17 5 1 (pc' := 1082) (vs' := [some (.ref b), some (.ref x), some (.ref m), some (.ref o), some (.int i), none, none, none]) (st' := [.ref o, .int v1, .ref x]) rfl ?_
  refine s_callH (c0 := c) (As := [.ref x, .int v1, .ref o]) (rest := []) hf mh_L_249 (c_L_outletOwner S x v1 o) (ta2 tx_ to_) rfl rfl (Nat.le_of_ble_eq_true rfl) (Nat.le_of_ble_eq_true rfl) (Nat.le_of_ble_eq_true rfl) (dk okd_law_17 1 rfl) (st' := fun o2 => [.int o2.1]) (fun _ => rfl) (fun o2 hb3 => ?_)
  have X := hf.X hb3
  have E := hf.E (c + o2.2.2)
  have tx_ := hf.T (c + o2.2.2) tx_
  have tm_ := hf.T (c + o2.2.2) tm_
  have to_ := hf.T (c + o2.2.2) to_
  refine s_run X ok_law_17 6 6 (pc' := 1093) (vs' := [some (.ref b), some (.ref x), some (.ref m), some (.ref o), some (.int i), some (.int o2.1), none, none]) (st' := [.int (i + 1), .ref b, .ref m]) rfl ?_
  refine s_sld hf (dk okd_law_17 2 rfl) (fun v4 => ?_)
  refine s_callV (b := m) (As := [.int v4]) (rest := []) X E mv_L_251 (c_X12_outletOwner o2.2.1 m v4) rfl (ta1 tm_) rfl (by decide) tm_ rfl rfl (Nat.le_of_ble_eq_true rfl) (Nat.le_of_ble_eq_true rfl) (Nat.le_of_ble_eq_true rfl) (dk okd_law_17 3 rfl) (st' := fun o5 => [.int o5.1]) (fun _ => rfl) (fun o5 => ?_)
  refine s_run X ok_law_17 12 2 (pc' := 1100) (vs' := [some (.ref b), some (.ref x), some (.ref m), some (.ref o), some (.int i), some (.int o2.1), some (.int o5.1), none]) (st' := [.ref m]) rfl ?_
  refine s_callV (b := m) (As := []) (rest := []) X E mv_L_214 (c_X12_thrown o5.2 m) rfl (ta1 tm_) rfl (by decide) tm_ rfl rfl (Nat.le_of_ble_eq_true rfl) (Nat.le_of_ble_eq_true rfl) (Nat.le_of_ble_eq_true rfl) (dk okd_law_17 4 rfl) (st' := fun v6 => [.int v6]) (fun _ => rfl) (fun v6 => ?_)
  refine s_run X ok_law_17 14 1 (pc' := 1105) (vs' := [some (.ref b), some (.ref x), some (.ref m), some (.ref o), some (.int i), some (.int o2.1), some (.int o5.1), none]) (st' := [.int o2.1, .int v6]) rfl ?_
  refine s_icmp_eq (tgt := 1110) X (dk okd_law_17 5 rfl) (by decide) ?_ ?_
  · refine s_run X ok_law_17 16 1 (pc' := 1112) (vs' := [some (.ref b), some (.ref x), some (.ref m), some (.ref o), some (.int i), some (.int o2.1), some (.int o5.1), none]) (st' := [.int o2.1]) rfl ?_
    refine s_jn (κ := Option (Unit)) (fun k7 => Jd (Cn (c + o2.2.2)) 8 Q o5.2 1127 [some (.ref b), some (.ref x), some (.ref m), some (.ref o), some (.int i), none, none, none] [] k7) ?_ (fun k7 h8 => ?_)
    · refine s_run X ok_law_17 23 1 (pc' := 4006) (vs' := [some (.ref b), some (.ref x), some (.ref m), some (.ref o), some (.int i), none, none, none]) (st' := []) rfl ?_
      exact s_less [true, true, true, true, true, false, false, false] rfl (hk o5.2 ((c + o2.2.2)) hb3)
    · refine s_if_ne (tgt := 1127) X (dk okd_law_17 7 rfl) (by decide) ?_ ?_
      · exact s_less [true, true, true, true, true, false, false, false] rfl (h8)
      · refine s_run X ok_law_17 17 2 (pc' := 1117) (vs' := [some (.ref b), some (.ref x), some (.ref m), some (.ref o), some (.int i), some (.int o2.1), some (.int o5.1), none]) (st' := [.int 0, .ref o]) rfl ?_
        refine s_lald X to_ (dk okd_law_17 8 rfl) (fun v9 => ?_)
        refine s_run X ok_law_17 19 3 (pc' := 1122) (vs' := [some (.ref b), some (.ref x), some (.ref m), some (.ref o), some (.int i), some (.int o2.1), some (.int o5.1), none]) (st' := [.int (lg_cmp v9 (Int32.toInt64 o5.1))]) rfl ?_
        refine s_lif_eq (tgt := 1127) X (dk okd_law_17 9 rfl) (by decide) ?_ ?_
        · exact s_less [true, true, true, true, true, false, false, false] rfl (h8)
        · refine s_run X ok_law_17 22 1 (pc' := 1126) (vs' := [some (.ref b), some (.ref x), some (.ref m), some (.ref o), some (.int i), some (.int o2.1), some (.int o5.1), none]) (st' := [.int 0]) rfl ?_
          exact s_none
  · refine s_run X ok_law_17 15 1 (pc' := 1109) (vs' := [some (.ref b), some (.ref x), some (.ref m), some (.ref o), some (.int i), some (.int o2.1), some (.int o5.1), none]) (st' := [.int 0]) rfl ?_
    exact s_none
def tab_law_18 : List En := [(1130, 8, 1, 0), (1131, 8, 0, 0), (1132, 5, 4, 0), (1134, 0, 0, 1), (1135, 17, 0, 0), (1137, 8, 3, 0), (1141, 11, 5, 0), (1143, 8, 2, 0), (1144, 8, 0, 0), (1145, 5, 4, 0), (1147, 0, 0, 1), (1148, 17, 0, 0), (1153, 11, 6, 0), (1155, 8, 2, 0), (1159, 5, 5, 0), (1164, 0, 0, 0), (1166, 5, 5, 0), (1171, 8, 3, 0), (1172, 0, 0, 0), (1174, 5, 6, 0), (1176, 31, 0, 0), (1177, 40, 0, 0), (1181, 0, 0, 0), (1183, 41, 4006, 0)]
theorem ok_law_18 : tab_law_18.all (okE code) = true := by decide +kernel
def ed_law_18 : List (Nat × Instr × Nat) := [(1136, .iaload, 1), (1138, .invokestatic 252, 3), (1149, .iaload, 1), (1150, .invokevirtual 254, 3), (1156, .invokevirtual 214, 3), (1161, .if_icmp .eq 5, 3), (1165, .ireturn, 1), (1168, .ifCond .ne 15, 3), (1173, .laload, 1), (1178, .ifCond .eq 5, 3), (1182, .ireturn, 1)]
theorem okd_law_18 : ed_law_18.all (okD code) = true := by decide +kernel
def f_law_18 (Ls : Nat) (xs : Nat → Int32) (S : St) (x m o : Nat) (i : Int32) (c : Nat) (kont : St → Nat → Option Unit) : Option Unit := sx Ls xs (i + 1) fun (v1 : Int32) => cl (f_L_outletCell S x v1 o) fun (o2 : Int32 × St × Nat) => bud (c + o2.2.2) <| sx Ls xs (i + 1) fun (v4 : Int32) => cl (f_X12_outletCell o2.2.1 m v4) fun (o5 : Int32 × St) => cl (f_X12_thrown o5.2 m) fun (v6 : Int32) => if v6 = o2.1 then (jn (κ := Option (Unit)) (kont o5.2 ((c + o2.2.2))) fun k7 => if o2.1 = 0 then (ldJ o5.2 o 0 fun (v9 : Int64) => if v9 = (Int32.toInt64 o5.1) then (k7) else (none)) else (k7)) else (none)
set_option maxHeartbeats 4000000 in
set_option maxRecDepth 100000 in
theorem c_law_18 {Cn : Nat → CT} {b Ls : Nat} {xs : Nat → Int32} {Q : Unit → State → Prop} {x m o : Nat} {i : Int32} (hf : Fam Cn b Ls xs) (tx0 : tT (Cn 0) x 10) (tm0 : tT (Cn 0) m 11) (to0 : tT (Cn 0) o 14) (S : St) (c : Nat) (hc : c ≤ 512) (kont : St → Nat → Option Unit) (hk : ∀ (S : St) (c : Nat), c ≤ 512 → Jd (Cn c) 8 Q S 4006 [some (.ref b), some (.ref x), some (.ref m), some (.ref o), some (.int i), none, none, none] [] (kont S c)) : Jd (Cn c) 8 Q S 1130 [some (.ref b), some (.ref x), some (.ref m), some (.ref o), some (.int i), none, none, none] [] (f_law_18 Ls xs S x m o i c kont) := by
  have X := hf.X hc
  have E := hf.E c
  have tx_ := hf.T c tx0
  have tm_ := hf.T c tm0
  have to_ := hf.T c to0
  unfold f_law_18
  refine s_run X ok_law_18 0 5 (pc' := 1136) (vs' := [some (.ref b), some (.ref x), some (.ref m), some (.ref o), some (.int i), none, none, none]) (st' := [.int (i + 1), .ref b, .ref x]) rfl ?_
  refine s_sld hf (dk okd_law_18 0 rfl) (fun v1 => ?_)
  refine s_run X ok_law_18 5 1 (pc' := 1138) (vs' := [some (.ref b), some (.ref x), some (.ref m), some (.ref o), some (.int i), none, none, none]) (st' := [.ref o, .int v1, .ref x]) rfl ?_
  refine s_callH (c0 := c) (As := [.ref x, .int v1, .ref o]) (rest := []) hf mh_L_252 (c_L_outletCell S x v1 o) (ta2 tx_ to_) rfl rfl (Nat.le_of_ble_eq_true rfl) (Nat.le_of_ble_eq_true rfl) (Nat.le_of_ble_eq_true rfl) (dk okd_law_18 1 rfl) (st' := fun o2 => [.int o2.1]) (fun _ => rfl) (fun o2 hb3 => ?_)
  have X := hf.X hb3
  have E := hf.E (c + o2.2.2)
  have tx_ := hf.T (c + o2.2.2) tx_
  have tm_ := hf.T (c + o2.2.2) tm_
  have to_ := hf.T (c + o2.2.2) to_
  refine s_run X ok_law_18 6 6 (pc' := 1149) (vs' := [some (.ref b), some (.ref x), some (.ref m), some (.ref o), some (.int i), some (.int o2.1), none, none]) (st' := [.int (i + 1), .ref b, .ref m]) rfl ?_
  refine s_sld hf (dk okd_law_18 2 rfl) (fun v4 => ?_)
  refine s_callV (b := m) (As := [.int v4]) (rest := []) X E mv_L_254 (c_X12_outletCell o2.2.1 m v4) rfl (ta1 tm_) rfl (by decide) tm_ rfl rfl (Nat.le_of_ble_eq_true rfl) (Nat.le_of_ble_eq_true rfl) (Nat.le_of_ble_eq_true rfl) (dk okd_law_18 3 rfl) (st' := fun o5 => [.int o5.1]) (fun _ => rfl) (fun o5 => ?_)
  refine s_run X ok_law_18 12 2 (pc' := 1156) (vs' := [some (.ref b), some (.ref x), some (.ref m), some (.ref o), some (.int i), some (.int o2.1), some (.int o5.1), none]) (st' := [.ref m]) rfl ?_
  refine s_callV (b := m) (As := []) (rest := []) X E mv_L_214 (c_X12_thrown o5.2 m) rfl (ta1 tm_) rfl (by decide) tm_ rfl rfl (Nat.le_of_ble_eq_true rfl) (Nat.le_of_ble_eq_true rfl) (Nat.le_of_ble_eq_true rfl) (dk okd_law_18 4 rfl) (st' := fun v6 => [.int v6]) (fun _ => rfl) (fun v6 => ?_)
  refine s_run X ok_law_18 14 1 (pc' := 1161) (vs' := [some (.ref b), some (.ref x), some (.ref m), some (.ref o), some (.int i), some (.int o2.1), some (.int o5.1), none]) (st' := [.int o2.1, .int v6]) rfl ?_
  refine s_icmp_eq (tgt := 1166) X (dk okd_law_18 5 rfl) (by decide) ?_ ?_
  · refine s_run X ok_law_18 16 1 (pc' := 1168) (vs' := [some (.ref b), some (.ref x), some (.ref m), some (.ref o), some (.int i), some (.int o2.1), some (.int o5.1), none]) (st' := [.int o2.1]) rfl ?_
    refine s_jn (κ := Option (Unit)) (fun k7 => Jd (Cn (c + o2.2.2)) 8 Q o5.2 1183 [some (.ref b), some (.ref x), some (.ref m), some (.ref o), some (.int i), none, none, none] [] k7) ?_ (fun k7 h8 => ?_)
    · refine s_run X ok_law_18 23 1 (pc' := 4006) (vs' := [some (.ref b), some (.ref x), some (.ref m), some (.ref o), some (.int i), none, none, none]) (st' := []) rfl ?_
      exact s_less [true, true, true, true, true, false, false, false] rfl (hk o5.2 ((c + o2.2.2)) hb3)
    · refine s_if_ne (tgt := 1183) X (dk okd_law_18 7 rfl) (by decide) ?_ ?_
      · exact s_less [true, true, true, true, true, false, false, false] rfl (h8)
      · refine s_run X ok_law_18 17 2 (pc' := 1173) (vs' := [some (.ref b), some (.ref x), some (.ref m), some (.ref o), some (.int i), some (.int o2.1), some (.int o5.1), none]) (st' := [.int 0, .ref o]) rfl ?_
        refine s_lald X to_ (dk okd_law_18 8 rfl) (fun v9 => ?_)
        refine s_run X ok_law_18 19 3 (pc' := 1178) (vs' := [some (.ref b), some (.ref x), some (.ref m), some (.ref o), some (.int i), some (.int o2.1), some (.int o5.1), none]) (st' := [.int (lg_cmp v9 (Int32.toInt64 o5.1))]) rfl ?_
        refine s_lif_eq (tgt := 1183) X (dk okd_law_18 9 rfl) (by decide) ?_ ?_
        · exact s_less [true, true, true, true, true, false, false, false] rfl (h8)
        · refine s_run X ok_law_18 22 1 (pc' := 1182) (vs' := [some (.ref b), some (.ref x), some (.ref m), some (.ref o), some (.int i), some (.int o2.1), some (.int o5.1), none]) (st' := [.int 0]) rfl ?_
          exact s_none
  · refine s_run X ok_law_18 15 1 (pc' := 1165) (vs' := [some (.ref b), some (.ref x), some (.ref m), some (.ref o), some (.int i), some (.int o2.1), some (.int o5.1), none]) (st' := [.int 0]) rfl ?_
    exact s_none
def tab_law_19 : List En := [(1186, 8, 1, 0), (1187, 8, 0, 0), (1188, 5, 4, 0), (1190, 0, 0, 1), (1191, 17, 0, 0), (1193, 8, 0, 0), (1194, 5, 4, 0), (1196, 0, 0, 2), (1197, 17, 0, 0), (1199, 8, 0, 0), (1200, 5, 4, 0), (1202, 0, 0, 3), (1203, 17, 0, 0), (1205, 8, 3, 0), (1209, 11, 5, 0), (1211, 8, 2, 0), (1212, 8, 0, 0), (1213, 5, 4, 0), (1215, 0, 0, 1), (1216, 17, 0, 0), (1218, 8, 0, 0), (1219, 5, 4, 0), (1221, 0, 0, 2), (1222, 17, 0, 0), (1224, 8, 0, 0), (1225, 5, 4, 0), (1227, 0, 0, 3), (1228, 17, 0, 0), (1233, 11, 6, 0), (1235, 8, 2, 0), (1239, 5, 5, 0), (1244, 0, 0, 0), (1246, 5, 5, 0), (1251, 8, 3, 0), (1252, 0, 0, 0), (1254, 5, 6, 0), (1256, 31, 0, 0), (1257, 40, 0, 0), (1261, 0, 0, 0), (1263, 41, 4006, 0)]
theorem ok_law_19 : tab_law_19.all (okE code) = true := by decide +kernel
def ed_law_19 : List (Nat × Instr × Nat) := [(1192, .iaload, 1), (1198, .iaload, 1), (1204, .iaload, 1), (1206, .invokestatic 255, 3), (1217, .iaload, 1), (1223, .iaload, 1), (1229, .iaload, 1), (1230, .invokevirtual 257, 3), (1236, .invokevirtual 214, 3), (1241, .if_icmp .eq 5, 3), (1245, .ireturn, 1), (1248, .ifCond .ne 15, 3), (1253, .laload, 1), (1258, .ifCond .eq 5, 3), (1262, .ireturn, 1)]
theorem okd_law_19 : ed_law_19.all (okD code) = true := by decide +kernel
def f_law_19 (Ls : Nat) (xs : Nat → Int32) (S : St) (x m o : Nat) (i : Int32) (c : Nat) (kont : St → Nat → Option Unit) : Option Unit := sx Ls xs (i + 1) fun (v1 : Int32) => sx Ls xs (i + 2) fun (v2 : Int32) => sx Ls xs (i + 3) fun (v3 : Int32) => cl (f_L_openOutlet S x v1 v2 v3 o) fun (o4 : Int32 × St × Nat) => bud (c + o4.2.2) <| sx Ls xs (i + 1) fun (v6 : Int32) => sx Ls xs (i + 2) fun (v7 : Int32) => sx Ls xs (i + 3) fun (v8 : Int32) => cl (f_X12_openOutlet o4.2.1 m v6 v7 v8) fun (o9 : Int32 × St) => cl (f_X12_thrown o9.2 m) fun (v10 : Int32) => if v10 = o4.1 then (jn (κ := Option (Unit)) (kont o9.2 ((c + o4.2.2))) fun k11 => if o4.1 = 0 then (ldJ o9.2 o 0 fun (v13 : Int64) => if v13 = (Int32.toInt64 o9.1) then (k11) else (none)) else (k11)) else (none)
set_option maxHeartbeats 4000000 in
set_option maxRecDepth 100000 in
theorem c_law_19 {Cn : Nat → CT} {b Ls : Nat} {xs : Nat → Int32} {Q : Unit → State → Prop} {x m o : Nat} {i : Int32} (hf : Fam Cn b Ls xs) (tx0 : tT (Cn 0) x 10) (tm0 : tT (Cn 0) m 11) (to0 : tT (Cn 0) o 14) (S : St) (c : Nat) (hc : c ≤ 512) (kont : St → Nat → Option Unit) (hk : ∀ (S : St) (c : Nat), c ≤ 512 → Jd (Cn c) 8 Q S 4006 [some (.ref b), some (.ref x), some (.ref m), some (.ref o), some (.int i), none, none, none] [] (kont S c)) : Jd (Cn c) 8 Q S 1186 [some (.ref b), some (.ref x), some (.ref m), some (.ref o), some (.int i), none, none, none] [] (f_law_19 Ls xs S x m o i c kont) := by
  have X := hf.X hc
  have E := hf.E c
  have tx_ := hf.T c tx0
  have tm_ := hf.T c tm0
  have to_ := hf.T c to0
  unfold f_law_19
  refine s_run X ok_law_19 0 5 (pc' := 1192) (vs' := [some (.ref b), some (.ref x), some (.ref m), some (.ref o), some (.int i), none, none, none]) (st' := [.int (i + 1), .ref b, .ref x]) rfl ?_
  refine s_sld hf (dk okd_law_19 0 rfl) (fun v1 => ?_)
  refine s_run X ok_law_19 5 4 (pc' := 1198) (vs' := [some (.ref b), some (.ref x), some (.ref m), some (.ref o), some (.int i), none, none, none]) (st' := [.int (i + 2), .ref b, .int v1, .ref x]) rfl ?_
  refine s_sld hf (dk okd_law_19 1 rfl) (fun v2 => ?_)
  refine s_run X ok_law_19 9 4 (pc' := 1204) (vs' := [some (.ref b), some (.ref x), some (.ref m), some (.ref o), some (.int i), none, none, none]) (st' := [.int (i + 3), .ref b, .int v2, .int v1, .ref x]) rfl ?_
  refine s_sld hf (dk okd_law_19 2 rfl) (fun v3 => ?_)
  refine s_run X ok_law_19 13 1 (pc' := 1206) (vs' := [some (.ref b), some (.ref x), some (.ref m), some (.ref o), some (.int i), none, none, none]) (st' := [.ref o, .int v3, .int v2, .int v1, .ref x]) rfl ?_
  refine s_callH (c0 := c) (As := [.ref x, .int v1, .int v2, .int v3, .ref o]) (rest := []) hf mh_L_255 (c_L_openOutlet S x v1 v2 v3 o) (ta2 tx_ to_) rfl rfl (Nat.le_of_ble_eq_true rfl) (Nat.le_of_ble_eq_true rfl) (Nat.le_of_ble_eq_true rfl) (dk okd_law_19 3 rfl) (st' := fun o4 => [.int o4.1]) (fun _ => rfl) (fun o4 hb5 => ?_)
  have X := hf.X hb5
  have E := hf.E (c + o4.2.2)
  have tx_ := hf.T (c + o4.2.2) tx_
  have tm_ := hf.T (c + o4.2.2) tm_
  have to_ := hf.T (c + o4.2.2) to_
  refine s_run X ok_law_19 14 6 (pc' := 1217) (vs' := [some (.ref b), some (.ref x), some (.ref m), some (.ref o), some (.int i), some (.int o4.1), none, none]) (st' := [.int (i + 1), .ref b, .ref m]) rfl ?_
  refine s_sld hf (dk okd_law_19 4 rfl) (fun v6 => ?_)
  refine s_run X ok_law_19 20 4 (pc' := 1223) (vs' := [some (.ref b), some (.ref x), some (.ref m), some (.ref o), some (.int i), some (.int o4.1), none, none]) (st' := [.int (i + 2), .ref b, .int v6, .ref m]) rfl ?_
  refine s_sld hf (dk okd_law_19 5 rfl) (fun v7 => ?_)
  refine s_run X ok_law_19 24 4 (pc' := 1229) (vs' := [some (.ref b), some (.ref x), some (.ref m), some (.ref o), some (.int i), some (.int o4.1), none, none]) (st' := [.int (i + 3), .ref b, .int v7, .int v6, .ref m]) rfl ?_
  refine s_sld hf (dk okd_law_19 6 rfl) (fun v8 => ?_)
  refine s_callV (b := m) (As := [.int v6, .int v7, .int v8]) (rest := []) X E mv_L_257 (c_X12_openOutlet o4.2.1 m v6 v7 v8) rfl (ta1 tm_) rfl (by decide) tm_ rfl rfl (Nat.le_of_ble_eq_true rfl) (Nat.le_of_ble_eq_true rfl) (Nat.le_of_ble_eq_true rfl) (dk okd_law_19 7 rfl) (st' := fun o9 => [.int o9.1]) (fun _ => rfl) (fun o9 => ?_)
  refine s_run X ok_law_19 28 2 (pc' := 1236) (vs' := [some (.ref b), some (.ref x), some (.ref m), some (.ref o), some (.int i), some (.int o4.1), some (.int o9.1), none]) (st' := [.ref m]) rfl ?_
  refine s_callV (b := m) (As := []) (rest := []) X E mv_L_214 (c_X12_thrown o9.2 m) rfl (ta1 tm_) rfl (by decide) tm_ rfl rfl (Nat.le_of_ble_eq_true rfl) (Nat.le_of_ble_eq_true rfl) (Nat.le_of_ble_eq_true rfl) (dk okd_law_19 8 rfl) (st' := fun v10 => [.int v10]) (fun _ => rfl) (fun v10 => ?_)
  refine s_run X ok_law_19 30 1 (pc' := 1241) (vs' := [some (.ref b), some (.ref x), some (.ref m), some (.ref o), some (.int i), some (.int o4.1), some (.int o9.1), none]) (st' := [.int o4.1, .int v10]) rfl ?_
  refine s_icmp_eq (tgt := 1246) X (dk okd_law_19 9 rfl) (by decide) ?_ ?_
  · refine s_run X ok_law_19 32 1 (pc' := 1248) (vs' := [some (.ref b), some (.ref x), some (.ref m), some (.ref o), some (.int i), some (.int o4.1), some (.int o9.1), none]) (st' := [.int o4.1]) rfl ?_
    refine s_jn (κ := Option (Unit)) (fun k11 => Jd (Cn (c + o4.2.2)) 8 Q o9.2 1263 [some (.ref b), some (.ref x), some (.ref m), some (.ref o), some (.int i), none, none, none] [] k11) ?_ (fun k11 h12 => ?_)
    · refine s_run X ok_law_19 39 1 (pc' := 4006) (vs' := [some (.ref b), some (.ref x), some (.ref m), some (.ref o), some (.int i), none, none, none]) (st' := []) rfl ?_
      exact s_less [true, true, true, true, true, false, false, false] rfl (hk o9.2 ((c + o4.2.2)) hb5)
    · refine s_if_ne (tgt := 1263) X (dk okd_law_19 11 rfl) (by decide) ?_ ?_
      · exact s_less [true, true, true, true, true, false, false, false] rfl (h12)
      · refine s_run X ok_law_19 33 2 (pc' := 1253) (vs' := [some (.ref b), some (.ref x), some (.ref m), some (.ref o), some (.int i), some (.int o4.1), some (.int o9.1), none]) (st' := [.int 0, .ref o]) rfl ?_
        refine s_lald X to_ (dk okd_law_19 12 rfl) (fun v13 => ?_)
        refine s_run X ok_law_19 35 3 (pc' := 1258) (vs' := [some (.ref b), some (.ref x), some (.ref m), some (.ref o), some (.int i), some (.int o4.1), some (.int o9.1), none]) (st' := [.int (lg_cmp v13 (Int32.toInt64 o9.1))]) rfl ?_
        refine s_lif_eq (tgt := 1263) X (dk okd_law_19 13 rfl) (by decide) ?_ ?_
        · exact s_less [true, true, true, true, true, false, false, false] rfl (h12)
        · refine s_run X ok_law_19 38 1 (pc' := 1262) (vs' := [some (.ref b), some (.ref x), some (.ref m), some (.ref o), some (.int i), some (.int o4.1), some (.int o9.1), none]) (st' := [.int 0]) rfl ?_
          exact s_none
  · refine s_run X ok_law_19 31 1 (pc' := 1245) (vs' := [some (.ref b), some (.ref x), some (.ref m), some (.ref o), some (.int i), some (.int o4.1), some (.int o9.1), none]) (st' := [.int 0]) rfl ?_
    exact s_none
def tab_law_20 : List En := [(1266, 8, 1, 0), (1267, 8, 0, 0), (1268, 5, 4, 0), (1270, 0, 0, 1), (1271, 17, 0, 0), (1273, 8, 3, 0), (1277, 11, 5, 0), (1279, 8, 2, 0), (1280, 8, 0, 0), (1281, 5, 4, 0), (1283, 0, 0, 1), (1284, 17, 0, 0), (1289, 11, 6, 0), (1291, 8, 2, 0), (1295, 5, 5, 0), (1300, 0, 0, 0), (1302, 5, 5, 0), (1307, 8, 3, 0), (1308, 0, 0, 0), (1310, 5, 6, 0), (1312, 31, 0, 0), (1313, 40, 0, 0), (1317, 0, 0, 0), (1319, 41, 4006, 0)]
theorem ok_law_20 : tab_law_20.all (okE code) = true := by decide +kernel
def ed_law_20 : List (Nat × Instr × Nat) := [(1272, .iaload, 1), (1274, .invokestatic 258, 3), (1285, .iaload, 1), (1286, .invokevirtual 260, 3), (1292, .invokevirtual 214, 3), (1297, .if_icmp .eq 5, 3), (1301, .ireturn, 1), (1304, .ifCond .ne 15, 3), (1309, .laload, 1), (1314, .ifCond .eq 5, 3), (1318, .ireturn, 1)]
theorem okd_law_20 : ed_law_20.all (okD code) = true := by decide +kernel
def f_law_20 (Ls : Nat) (xs : Nat → Int32) (S : St) (x m o : Nat) (i : Int32) (c : Nat) (kont : St → Nat → Option Unit) : Option Unit := sx Ls xs (i + 1) fun (v1 : Int32) => cl (f_L_bestSite S x v1 o) fun (o2 : Int32 × St × Nat) => bud (c + o2.2.2) <| sx Ls xs (i + 1) fun (v4 : Int32) => cl (f_X12_bestSite o2.2.1 m v4) fun (o5 : Int32 × St) => cl (f_X12_thrown o5.2 m) fun (v6 : Int32) => if v6 = o2.1 then (jn (κ := Option (Unit)) (kont o5.2 ((c + o2.2.2))) fun k7 => if o2.1 = 0 then (ldJ o5.2 o 0 fun (v9 : Int64) => if v9 = (Int32.toInt64 o5.1) then (k7) else (none)) else (k7)) else (none)
set_option maxHeartbeats 4000000 in
set_option maxRecDepth 100000 in
theorem c_law_20 {Cn : Nat → CT} {b Ls : Nat} {xs : Nat → Int32} {Q : Unit → State → Prop} {x m o : Nat} {i : Int32} (hf : Fam Cn b Ls xs) (tx0 : tT (Cn 0) x 10) (tm0 : tT (Cn 0) m 11) (to0 : tT (Cn 0) o 14) (S : St) (c : Nat) (hc : c ≤ 512) (kont : St → Nat → Option Unit) (hk : ∀ (S : St) (c : Nat), c ≤ 512 → Jd (Cn c) 8 Q S 4006 [some (.ref b), some (.ref x), some (.ref m), some (.ref o), some (.int i), none, none, none] [] (kont S c)) : Jd (Cn c) 8 Q S 1266 [some (.ref b), some (.ref x), some (.ref m), some (.ref o), some (.int i), none, none, none] [] (f_law_20 Ls xs S x m o i c kont) := by
  have X := hf.X hc
  have E := hf.E c
  have tx_ := hf.T c tx0
  have tm_ := hf.T c tm0
  have to_ := hf.T c to0
  unfold f_law_20
  refine s_run X ok_law_20 0 5 (pc' := 1272) (vs' := [some (.ref b), some (.ref x), some (.ref m), some (.ref o), some (.int i), none, none, none]) (st' := [.int (i + 1), .ref b, .ref x]) rfl ?_
  refine s_sld hf (dk okd_law_20 0 rfl) (fun v1 => ?_)
  refine s_run X ok_law_20 5 1 (pc' := 1274) (vs' := [some (.ref b), some (.ref x), some (.ref m), some (.ref o), some (.int i), none, none, none]) (st' := [.ref o, .int v1, .ref x]) rfl ?_
  refine s_callH (c0 := c) (As := [.ref x, .int v1, .ref o]) (rest := []) hf mh_L_258 (c_L_bestSite S x v1 o) (ta2 tx_ to_) rfl rfl (Nat.le_of_ble_eq_true rfl) (Nat.le_of_ble_eq_true rfl) (Nat.le_of_ble_eq_true rfl) (dk okd_law_20 1 rfl) (st' := fun o2 => [.int o2.1]) (fun _ => rfl) (fun o2 hb3 => ?_)
  have X := hf.X hb3
  have E := hf.E (c + o2.2.2)
  have tx_ := hf.T (c + o2.2.2) tx_
  have tm_ := hf.T (c + o2.2.2) tm_
  have to_ := hf.T (c + o2.2.2) to_
  refine s_run X ok_law_20 6 6 (pc' := 1285) (vs' := [some (.ref b), some (.ref x), some (.ref m), some (.ref o), some (.int i), some (.int o2.1), none, none]) (st' := [.int (i + 1), .ref b, .ref m]) rfl ?_
  refine s_sld hf (dk okd_law_20 2 rfl) (fun v4 => ?_)
  refine s_callV (b := m) (As := [.int v4]) (rest := []) X E mv_L_260 (c_X12_bestSite o2.2.1 m v4) rfl (ta1 tm_) rfl (by decide) tm_ rfl rfl (Nat.le_of_ble_eq_true rfl) (Nat.le_of_ble_eq_true rfl) (Nat.le_of_ble_eq_true rfl) (dk okd_law_20 3 rfl) (st' := fun o5 => [.int o5.1]) (fun _ => rfl) (fun o5 => ?_)
  refine s_run X ok_law_20 12 2 (pc' := 1292) (vs' := [some (.ref b), some (.ref x), some (.ref m), some (.ref o), some (.int i), some (.int o2.1), some (.int o5.1), none]) (st' := [.ref m]) rfl ?_
  refine s_callV (b := m) (As := []) (rest := []) X E mv_L_214 (c_X12_thrown o5.2 m) rfl (ta1 tm_) rfl (by decide) tm_ rfl rfl (Nat.le_of_ble_eq_true rfl) (Nat.le_of_ble_eq_true rfl) (Nat.le_of_ble_eq_true rfl) (dk okd_law_20 4 rfl) (st' := fun v6 => [.int v6]) (fun _ => rfl) (fun v6 => ?_)
  refine s_run X ok_law_20 14 1 (pc' := 1297) (vs' := [some (.ref b), some (.ref x), some (.ref m), some (.ref o), some (.int i), some (.int o2.1), some (.int o5.1), none]) (st' := [.int o2.1, .int v6]) rfl ?_
  refine s_icmp_eq (tgt := 1302) X (dk okd_law_20 5 rfl) (by decide) ?_ ?_
  · refine s_run X ok_law_20 16 1 (pc' := 1304) (vs' := [some (.ref b), some (.ref x), some (.ref m), some (.ref o), some (.int i), some (.int o2.1), some (.int o5.1), none]) (st' := [.int o2.1]) rfl ?_
    refine s_jn (κ := Option (Unit)) (fun k7 => Jd (Cn (c + o2.2.2)) 8 Q o5.2 1319 [some (.ref b), some (.ref x), some (.ref m), some (.ref o), some (.int i), none, none, none] [] k7) ?_ (fun k7 h8 => ?_)
    · refine s_run X ok_law_20 23 1 (pc' := 4006) (vs' := [some (.ref b), some (.ref x), some (.ref m), some (.ref o), some (.int i), none, none, none]) (st' := []) rfl ?_
      exact s_less [true, true, true, true, true, false, false, false] rfl (hk o5.2 ((c + o2.2.2)) hb3)
    · refine s_if_ne (tgt := 1319) X (dk okd_law_20 7 rfl) (by decide) ?_ ?_
      · exact s_less [true, true, true, true, true, false, false, false] rfl (h8)
      · refine s_run X ok_law_20 17 2 (pc' := 1309) (vs' := [some (.ref b), some (.ref x), some (.ref m), some (.ref o), some (.int i), some (.int o2.1), some (.int o5.1), none]) (st' := [.int 0, .ref o]) rfl ?_
        refine s_lald X to_ (dk okd_law_20 8 rfl) (fun v9 => ?_)
        refine s_run X ok_law_20 19 3 (pc' := 1314) (vs' := [some (.ref b), some (.ref x), some (.ref m), some (.ref o), some (.int i), some (.int o2.1), some (.int o5.1), none]) (st' := [.int (lg_cmp v9 (Int32.toInt64 o5.1))]) rfl ?_
        refine s_lif_eq (tgt := 1319) X (dk okd_law_20 9 rfl) (by decide) ?_ ?_
        · exact s_less [true, true, true, true, true, false, false, false] rfl (h8)
        · refine s_run X ok_law_20 22 1 (pc' := 1318) (vs' := [some (.ref b), some (.ref x), some (.ref m), some (.ref o), some (.int i), some (.int o2.1), some (.int o5.1), none]) (st' := [.int 0]) rfl ?_
          exact s_none
  · refine s_run X ok_law_20 15 1 (pc' := 1301) (vs' := [some (.ref b), some (.ref x), some (.ref m), some (.ref o), some (.int i), some (.int o2.1), some (.int o5.1), none]) (st' := [.int 0]) rfl ?_
    exact s_none
def tab_law_21 : List En := [(1322, 8, 1, 0), (1323, 8, 0, 0), (1324, 5, 4, 0), (1326, 0, 0, 1), (1327, 17, 0, 0), (1329, 8, 0, 0), (1330, 5, 4, 0), (1332, 0, 0, 2), (1333, 17, 0, 0), (1335, 8, 3, 0), (1339, 11, 5, 0), (1341, 8, 2, 0), (1342, 8, 0, 0), (1343, 5, 4, 0), (1345, 0, 0, 1), (1346, 17, 0, 0), (1348, 8, 0, 0), (1349, 5, 4, 0), (1351, 0, 0, 2), (1352, 17, 0, 0), (1357, 11, 6, 0), (1359, 8, 2, 0), (1363, 5, 5, 0), (1368, 0, 0, 0), (1370, 5, 5, 0), (1375, 8, 3, 0), (1376, 0, 0, 0), (1378, 5, 6, 0), (1380, 31, 0, 0), (1381, 40, 0, 0), (1385, 0, 0, 0), (1387, 41, 4006, 0)]
theorem ok_law_21 : tab_law_21.all (okE code) = true := by decide +kernel
def ed_law_21 : List (Nat × Instr × Nat) := [(1328, .iaload, 1), (1334, .iaload, 1), (1336, .invokestatic 261, 3), (1347, .iaload, 1), (1353, .iaload, 1), (1354, .invokevirtual 263, 3), (1360, .invokevirtual 214, 3), (1365, .if_icmp .eq 5, 3), (1369, .ireturn, 1), (1372, .ifCond .ne 15, 3), (1377, .laload, 1), (1382, .ifCond .eq 5, 3), (1386, .ireturn, 1)]
theorem okd_law_21 : ed_law_21.all (okD code) = true := by decide +kernel
def f_law_21 (Ls : Nat) (xs : Nat → Int32) (S : St) (x m o : Nat) (i : Int32) (c : Nat) (kont : St → Nat → Option Unit) : Option Unit := sx Ls xs (i + 1) fun (v1 : Int32) => sx Ls xs (i + 2) fun (v2 : Int32) => cl (f_L_coverage S x v1 v2 o) fun (o3 : Int32 × St × Nat) => bud (c + o3.2.2) <| sx Ls xs (i + 1) fun (v5 : Int32) => sx Ls xs (i + 2) fun (v6 : Int32) => cl (f_X12_coverage o3.2.1 m v5 v6) fun (o7 : Int32 × St) => cl (f_X12_thrown o7.2 m) fun (v8 : Int32) => if v8 = o3.1 then (jn (κ := Option (Unit)) (kont o7.2 ((c + o3.2.2))) fun k9 => if o3.1 = 0 then (ldJ o7.2 o 0 fun (v11 : Int64) => if v11 = (Int32.toInt64 o7.1) then (k9) else (none)) else (k9)) else (none)
set_option maxHeartbeats 4000000 in
set_option maxRecDepth 100000 in
theorem c_law_21 {Cn : Nat → CT} {b Ls : Nat} {xs : Nat → Int32} {Q : Unit → State → Prop} {x m o : Nat} {i : Int32} (hf : Fam Cn b Ls xs) (tx0 : tT (Cn 0) x 10) (tm0 : tT (Cn 0) m 11) (to0 : tT (Cn 0) o 14) (S : St) (c : Nat) (hc : c ≤ 512) (kont : St → Nat → Option Unit) (hk : ∀ (S : St) (c : Nat), c ≤ 512 → Jd (Cn c) 8 Q S 4006 [some (.ref b), some (.ref x), some (.ref m), some (.ref o), some (.int i), none, none, none] [] (kont S c)) : Jd (Cn c) 8 Q S 1322 [some (.ref b), some (.ref x), some (.ref m), some (.ref o), some (.int i), none, none, none] [] (f_law_21 Ls xs S x m o i c kont) := by
  have X := hf.X hc
  have E := hf.E c
  have tx_ := hf.T c tx0
  have tm_ := hf.T c tm0
  have to_ := hf.T c to0
  unfold f_law_21
  refine s_run X ok_law_21 0 5 (pc' := 1328) (vs' := [some (.ref b), some (.ref x), some (.ref m), some (.ref o), some (.int i), none, none, none]) (st' := [.int (i + 1), .ref b, .ref x]) rfl ?_
  refine s_sld hf (dk okd_law_21 0 rfl) (fun v1 => ?_)
  refine s_run X ok_law_21 5 4 (pc' := 1334) (vs' := [some (.ref b), some (.ref x), some (.ref m), some (.ref o), some (.int i), none, none, none]) (st' := [.int (i + 2), .ref b, .int v1, .ref x]) rfl ?_
  refine s_sld hf (dk okd_law_21 1 rfl) (fun v2 => ?_)
  refine s_run X ok_law_21 9 1 (pc' := 1336) (vs' := [some (.ref b), some (.ref x), some (.ref m), some (.ref o), some (.int i), none, none, none]) (st' := [.ref o, .int v2, .int v1, .ref x]) rfl ?_
  refine s_callH (c0 := c) (As := [.ref x, .int v1, .int v2, .ref o]) (rest := []) hf mh_L_261 (c_L_coverage S x v1 v2 o) (ta2 tx_ to_) rfl rfl (Nat.le_of_ble_eq_true rfl) (Nat.le_of_ble_eq_true rfl) (Nat.le_of_ble_eq_true rfl) (dk okd_law_21 2 rfl) (st' := fun o3 => [.int o3.1]) (fun _ => rfl) (fun o3 hb4 => ?_)
  have X := hf.X hb4
  have E := hf.E (c + o3.2.2)
  have tx_ := hf.T (c + o3.2.2) tx_
  have tm_ := hf.T (c + o3.2.2) tm_
  have to_ := hf.T (c + o3.2.2) to_
  refine s_run X ok_law_21 10 6 (pc' := 1347) (vs' := [some (.ref b), some (.ref x), some (.ref m), some (.ref o), some (.int i), some (.int o3.1), none, none]) (st' := [.int (i + 1), .ref b, .ref m]) rfl ?_
  refine s_sld hf (dk okd_law_21 3 rfl) (fun v5 => ?_)
  refine s_run X ok_law_21 16 4 (pc' := 1353) (vs' := [some (.ref b), some (.ref x), some (.ref m), some (.ref o), some (.int i), some (.int o3.1), none, none]) (st' := [.int (i + 2), .ref b, .int v5, .ref m]) rfl ?_
  refine s_sld hf (dk okd_law_21 4 rfl) (fun v6 => ?_)
  refine s_callV (b := m) (As := [.int v5, .int v6]) (rest := []) X E mv_L_263 (c_X12_coverage o3.2.1 m v5 v6) rfl (ta1 tm_) rfl (by decide) tm_ rfl rfl (Nat.le_of_ble_eq_true rfl) (Nat.le_of_ble_eq_true rfl) (Nat.le_of_ble_eq_true rfl) (dk okd_law_21 5 rfl) (st' := fun o7 => [.int o7.1]) (fun _ => rfl) (fun o7 => ?_)
  refine s_run X ok_law_21 20 2 (pc' := 1360) (vs' := [some (.ref b), some (.ref x), some (.ref m), some (.ref o), some (.int i), some (.int o3.1), some (.int o7.1), none]) (st' := [.ref m]) rfl ?_
  refine s_callV (b := m) (As := []) (rest := []) X E mv_L_214 (c_X12_thrown o7.2 m) rfl (ta1 tm_) rfl (by decide) tm_ rfl rfl (Nat.le_of_ble_eq_true rfl) (Nat.le_of_ble_eq_true rfl) (Nat.le_of_ble_eq_true rfl) (dk okd_law_21 6 rfl) (st' := fun v8 => [.int v8]) (fun _ => rfl) (fun v8 => ?_)
  refine s_run X ok_law_21 22 1 (pc' := 1365) (vs' := [some (.ref b), some (.ref x), some (.ref m), some (.ref o), some (.int i), some (.int o3.1), some (.int o7.1), none]) (st' := [.int o3.1, .int v8]) rfl ?_
  refine s_icmp_eq (tgt := 1370) X (dk okd_law_21 7 rfl) (by decide) ?_ ?_
  · refine s_run X ok_law_21 24 1 (pc' := 1372) (vs' := [some (.ref b), some (.ref x), some (.ref m), some (.ref o), some (.int i), some (.int o3.1), some (.int o7.1), none]) (st' := [.int o3.1]) rfl ?_
    refine s_jn (κ := Option (Unit)) (fun k9 => Jd (Cn (c + o3.2.2)) 8 Q o7.2 1387 [some (.ref b), some (.ref x), some (.ref m), some (.ref o), some (.int i), none, none, none] [] k9) ?_ (fun k9 h10 => ?_)
    · refine s_run X ok_law_21 31 1 (pc' := 4006) (vs' := [some (.ref b), some (.ref x), some (.ref m), some (.ref o), some (.int i), none, none, none]) (st' := []) rfl ?_
      exact s_less [true, true, true, true, true, false, false, false] rfl (hk o7.2 ((c + o3.2.2)) hb4)
    · refine s_if_ne (tgt := 1387) X (dk okd_law_21 9 rfl) (by decide) ?_ ?_
      · exact s_less [true, true, true, true, true, false, false, false] rfl (h10)
      · refine s_run X ok_law_21 25 2 (pc' := 1377) (vs' := [some (.ref b), some (.ref x), some (.ref m), some (.ref o), some (.int i), some (.int o3.1), some (.int o7.1), none]) (st' := [.int 0, .ref o]) rfl ?_
        refine s_lald X to_ (dk okd_law_21 10 rfl) (fun v11 => ?_)
        refine s_run X ok_law_21 27 3 (pc' := 1382) (vs' := [some (.ref b), some (.ref x), some (.ref m), some (.ref o), some (.int i), some (.int o3.1), some (.int o7.1), none]) (st' := [.int (lg_cmp v11 (Int32.toInt64 o7.1))]) rfl ?_
        refine s_lif_eq (tgt := 1387) X (dk okd_law_21 11 rfl) (by decide) ?_ ?_
        · exact s_less [true, true, true, true, true, false, false, false] rfl (h10)
        · refine s_run X ok_law_21 30 1 (pc' := 1386) (vs' := [some (.ref b), some (.ref x), some (.ref m), some (.ref o), some (.int i), some (.int o3.1), some (.int o7.1), none]) (st' := [.int 0]) rfl ?_
          exact s_none
  · refine s_run X ok_law_21 23 1 (pc' := 1369) (vs' := [some (.ref b), some (.ref x), some (.ref m), some (.ref o), some (.int i), some (.int o3.1), some (.int o7.1), none]) (st' := [.int 0]) rfl ?_
    exact s_none
def tab_law_22 : List En := [(1390, 8, 1, 0), (1391, 8, 0, 0), (1392, 5, 4, 0), (1394, 0, 0, 1), (1395, 17, 0, 0), (1397, 8, 0, 0), (1398, 5, 4, 0), (1400, 0, 0, 2), (1401, 17, 0, 0), (1403, 8, 3, 0), (1407, 11, 5, 0), (1409, 8, 2, 0), (1410, 8, 0, 0), (1411, 5, 4, 0), (1413, 0, 0, 1), (1414, 17, 0, 0), (1416, 8, 0, 0), (1417, 5, 4, 0), (1419, 0, 0, 2), (1420, 17, 0, 0), (1425, 11, 6, 0), (1427, 8, 2, 0), (1431, 5, 5, 0), (1436, 0, 0, 0), (1438, 5, 5, 0), (1443, 8, 3, 0), (1444, 0, 0, 0), (1446, 5, 6, 0), (1448, 31, 0, 0), (1449, 40, 0, 0), (1453, 0, 0, 0), (1455, 41, 4006, 0)]
theorem ok_law_22 : tab_law_22.all (okE code) = true := by decide +kernel
def ed_law_22 : List (Nat × Instr × Nat) := [(1396, .iaload, 1), (1402, .iaload, 1), (1404, .invokestatic 264, 3), (1415, .iaload, 1), (1421, .iaload, 1), (1422, .invokevirtual 266, 3), (1428, .invokevirtual 214, 3), (1433, .if_icmp .eq 5, 3), (1437, .ireturn, 1), (1440, .ifCond .ne 15, 3), (1445, .laload, 1), (1450, .ifCond .eq 5, 3), (1454, .ireturn, 1)]
theorem okd_law_22 : ed_law_22.all (okD code) = true := by decide +kernel
def f_law_22 (Ls : Nat) (xs : Nat → Int32) (S : St) (x m o : Nat) (i : Int32) (c : Nat) (kont : St → Nat → Option Unit) : Option Unit := sx Ls xs (i + 1) fun (v1 : Int32) => sx Ls xs (i + 2) fun (v2 : Int32) => cl (f_L_rivalCells S x v1 v2 o) fun (o3 : Int32 × St × Nat) => bud (c + o3.2.2) <| sx Ls xs (i + 1) fun (v5 : Int32) => sx Ls xs (i + 2) fun (v6 : Int32) => cl (f_X12_rivalCells o3.2.1 m v5 v6) fun (o7 : Int32 × St) => cl (f_X12_thrown o7.2 m) fun (v8 : Int32) => if v8 = o3.1 then (jn (κ := Option (Unit)) (kont o7.2 ((c + o3.2.2))) fun k9 => if o3.1 = 0 then (ldJ o7.2 o 0 fun (v11 : Int64) => if v11 = (Int32.toInt64 o7.1) then (k9) else (none)) else (k9)) else (none)
set_option maxHeartbeats 4000000 in
set_option maxRecDepth 100000 in
theorem c_law_22 {Cn : Nat → CT} {b Ls : Nat} {xs : Nat → Int32} {Q : Unit → State → Prop} {x m o : Nat} {i : Int32} (hf : Fam Cn b Ls xs) (tx0 : tT (Cn 0) x 10) (tm0 : tT (Cn 0) m 11) (to0 : tT (Cn 0) o 14) (S : St) (c : Nat) (hc : c ≤ 512) (kont : St → Nat → Option Unit) (hk : ∀ (S : St) (c : Nat), c ≤ 512 → Jd (Cn c) 8 Q S 4006 [some (.ref b), some (.ref x), some (.ref m), some (.ref o), some (.int i), none, none, none] [] (kont S c)) : Jd (Cn c) 8 Q S 1390 [some (.ref b), some (.ref x), some (.ref m), some (.ref o), some (.int i), none, none, none] [] (f_law_22 Ls xs S x m o i c kont) := by
  have X := hf.X hc
  have E := hf.E c
  have tx_ := hf.T c tx0
  have tm_ := hf.T c tm0
  have to_ := hf.T c to0
  unfold f_law_22
  refine s_run X ok_law_22 0 5 (pc' := 1396) (vs' := [some (.ref b), some (.ref x), some (.ref m), some (.ref o), some (.int i), none, none, none]) (st' := [.int (i + 1), .ref b, .ref x]) rfl ?_
  refine s_sld hf (dk okd_law_22 0 rfl) (fun v1 => ?_)
  refine s_run X ok_law_22 5 4 (pc' := 1402) (vs' := [some (.ref b), some (.ref x), some (.ref m), some (.ref o), some (.int i), none, none, none]) (st' := [.int (i + 2), .ref b, .int v1, .ref x]) rfl ?_
  refine s_sld hf (dk okd_law_22 1 rfl) (fun v2 => ?_)
  refine s_run X ok_law_22 9 1 (pc' := 1404) (vs' := [some (.ref b), some (.ref x), some (.ref m), some (.ref o), some (.int i), none, none, none]) (st' := [.ref o, .int v2, .int v1, .ref x]) rfl ?_
  refine s_callH (c0 := c) (As := [.ref x, .int v1, .int v2, .ref o]) (rest := []) hf mh_L_264 (c_L_rivalCells S x v1 v2 o) (ta2 tx_ to_) rfl rfl (Nat.le_of_ble_eq_true rfl) (Nat.le_of_ble_eq_true rfl) (Nat.le_of_ble_eq_true rfl) (dk okd_law_22 2 rfl) (st' := fun o3 => [.int o3.1]) (fun _ => rfl) (fun o3 hb4 => ?_)
  have X := hf.X hb4
  have E := hf.E (c + o3.2.2)
  have tx_ := hf.T (c + o3.2.2) tx_
  have tm_ := hf.T (c + o3.2.2) tm_
  have to_ := hf.T (c + o3.2.2) to_
  refine s_run X ok_law_22 10 6 (pc' := 1415) (vs' := [some (.ref b), some (.ref x), some (.ref m), some (.ref o), some (.int i), some (.int o3.1), none, none]) (st' := [.int (i + 1), .ref b, .ref m]) rfl ?_
  refine s_sld hf (dk okd_law_22 3 rfl) (fun v5 => ?_)
  refine s_run X ok_law_22 16 4 (pc' := 1421) (vs' := [some (.ref b), some (.ref x), some (.ref m), some (.ref o), some (.int i), some (.int o3.1), none, none]) (st' := [.int (i + 2), .ref b, .int v5, .ref m]) rfl ?_
  refine s_sld hf (dk okd_law_22 4 rfl) (fun v6 => ?_)
  refine s_callV (b := m) (As := [.int v5, .int v6]) (rest := []) X E mv_L_266 (c_X12_rivalCells o3.2.1 m v5 v6) rfl (ta1 tm_) rfl (by decide) tm_ rfl rfl (Nat.le_of_ble_eq_true rfl) (Nat.le_of_ble_eq_true rfl) (Nat.le_of_ble_eq_true rfl) (dk okd_law_22 5 rfl) (st' := fun o7 => [.int o7.1]) (fun _ => rfl) (fun o7 => ?_)
  refine s_run X ok_law_22 20 2 (pc' := 1428) (vs' := [some (.ref b), some (.ref x), some (.ref m), some (.ref o), some (.int i), some (.int o3.1), some (.int o7.1), none]) (st' := [.ref m]) rfl ?_
  refine s_callV (b := m) (As := []) (rest := []) X E mv_L_214 (c_X12_thrown o7.2 m) rfl (ta1 tm_) rfl (by decide) tm_ rfl rfl (Nat.le_of_ble_eq_true rfl) (Nat.le_of_ble_eq_true rfl) (Nat.le_of_ble_eq_true rfl) (dk okd_law_22 6 rfl) (st' := fun v8 => [.int v8]) (fun _ => rfl) (fun v8 => ?_)
  refine s_run X ok_law_22 22 1 (pc' := 1433) (vs' := [some (.ref b), some (.ref x), some (.ref m), some (.ref o), some (.int i), some (.int o3.1), some (.int o7.1), none]) (st' := [.int o3.1, .int v8]) rfl ?_
  refine s_icmp_eq (tgt := 1438) X (dk okd_law_22 7 rfl) (by decide) ?_ ?_
  · refine s_run X ok_law_22 24 1 (pc' := 1440) (vs' := [some (.ref b), some (.ref x), some (.ref m), some (.ref o), some (.int i), some (.int o3.1), some (.int o7.1), none]) (st' := [.int o3.1]) rfl ?_
    refine s_jn (κ := Option (Unit)) (fun k9 => Jd (Cn (c + o3.2.2)) 8 Q o7.2 1455 [some (.ref b), some (.ref x), some (.ref m), some (.ref o), some (.int i), none, none, none] [] k9) ?_ (fun k9 h10 => ?_)
    · refine s_run X ok_law_22 31 1 (pc' := 4006) (vs' := [some (.ref b), some (.ref x), some (.ref m), some (.ref o), some (.int i), none, none, none]) (st' := []) rfl ?_
      exact s_less [true, true, true, true, true, false, false, false] rfl (hk o7.2 ((c + o3.2.2)) hb4)
    · refine s_if_ne (tgt := 1455) X (dk okd_law_22 9 rfl) (by decide) ?_ ?_
      · exact s_less [true, true, true, true, true, false, false, false] rfl (h10)
      · refine s_run X ok_law_22 25 2 (pc' := 1445) (vs' := [some (.ref b), some (.ref x), some (.ref m), some (.ref o), some (.int i), some (.int o3.1), some (.int o7.1), none]) (st' := [.int 0, .ref o]) rfl ?_
        refine s_lald X to_ (dk okd_law_22 10 rfl) (fun v11 => ?_)
        refine s_run X ok_law_22 27 3 (pc' := 1450) (vs' := [some (.ref b), some (.ref x), some (.ref m), some (.ref o), some (.int i), some (.int o3.1), some (.int o7.1), none]) (st' := [.int (lg_cmp v11 (Int32.toInt64 o7.1))]) rfl ?_
        refine s_lif_eq (tgt := 1455) X (dk okd_law_22 11 rfl) (by decide) ?_ ?_
        · exact s_less [true, true, true, true, true, false, false, false] rfl (h10)
        · refine s_run X ok_law_22 30 1 (pc' := 1454) (vs' := [some (.ref b), some (.ref x), some (.ref m), some (.ref o), some (.int i), some (.int o3.1), some (.int o7.1), none]) (st' := [.int 0]) rfl ?_
          exact s_none
  · refine s_run X ok_law_22 23 1 (pc' := 1437) (vs' := [some (.ref b), some (.ref x), some (.ref m), some (.ref o), some (.int i), some (.int o3.1), some (.int o7.1), none]) (st' := [.int 0]) rfl ?_
    exact s_none
def tab_law_23 : List En := [(1458, 8, 1, 0), (1459, 8, 0, 0), (1460, 5, 4, 0), (1462, 0, 0, 1), (1463, 17, 0, 0), (1465, 8, 3, 0), (1469, 11, 5, 0), (1471, 8, 2, 0), (1472, 8, 0, 0), (1473, 5, 4, 0), (1475, 0, 0, 1), (1476, 17, 0, 0), (1481, 11, 6, 0), (1483, 8, 2, 0), (1487, 5, 5, 0), (1492, 0, 0, 0), (1494, 5, 5, 0), (1499, 8, 3, 0), (1500, 0, 0, 0), (1502, 5, 6, 0), (1504, 31, 0, 0), (1505, 40, 0, 0), (1509, 0, 0, 0), (1511, 41, 4006, 0)]
theorem ok_law_23 : tab_law_23.all (okE code) = true := by decide +kernel
def ed_law_23 : List (Nat × Instr × Nat) := [(1464, .iaload, 1), (1466, .invokestatic 267, 3), (1477, .iaload, 1), (1478, .invokevirtual 269, 3), (1484, .invokevirtual 214, 3), (1489, .if_icmp .eq 5, 3), (1493, .ireturn, 1), (1496, .ifCond .ne 15, 3), (1501, .laload, 1), (1506, .ifCond .eq 5, 3), (1510, .ireturn, 1)]
theorem okd_law_23 : ed_law_23.all (okD code) = true := by decide +kernel
def f_law_23 (Ls : Nat) (xs : Nat → Int32) (S : St) (x m o : Nat) (i : Int32) (c : Nat) (kont : St → Nat → Option Unit) : Option Unit := sx Ls xs (i + 1) fun (v1 : Int32) => cl (f_L_halvingLine S x v1 o) fun (o2 : Int32 × St × Nat) => bud (c + o2.2.2) <| sx Ls xs (i + 1) fun (v4 : Int32) => cl (f_X12_halvingLine o2.2.1 m v4) fun (o5 : Int32 × St) => cl (f_X12_thrown o5.2 m) fun (v6 : Int32) => if v6 = o2.1 then (jn (κ := Option (Unit)) (kont o5.2 ((c + o2.2.2))) fun k7 => if o2.1 = 0 then (ldJ o5.2 o 0 fun (v9 : Int64) => if v9 = (Int32.toInt64 o5.1) then (k7) else (none)) else (k7)) else (none)
set_option maxHeartbeats 4000000 in
set_option maxRecDepth 100000 in
theorem c_law_23 {Cn : Nat → CT} {b Ls : Nat} {xs : Nat → Int32} {Q : Unit → State → Prop} {x m o : Nat} {i : Int32} (hf : Fam Cn b Ls xs) (tx0 : tT (Cn 0) x 10) (tm0 : tT (Cn 0) m 11) (to0 : tT (Cn 0) o 14) (S : St) (c : Nat) (hc : c ≤ 512) (kont : St → Nat → Option Unit) (hk : ∀ (S : St) (c : Nat), c ≤ 512 → Jd (Cn c) 8 Q S 4006 [some (.ref b), some (.ref x), some (.ref m), some (.ref o), some (.int i), none, none, none] [] (kont S c)) : Jd (Cn c) 8 Q S 1458 [some (.ref b), some (.ref x), some (.ref m), some (.ref o), some (.int i), none, none, none] [] (f_law_23 Ls xs S x m o i c kont) := by
  have X := hf.X hc
  have E := hf.E c
  have tx_ := hf.T c tx0
  have tm_ := hf.T c tm0
  have to_ := hf.T c to0
  unfold f_law_23
  refine s_run X ok_law_23 0 5 (pc' := 1464) (vs' := [some (.ref b), some (.ref x), some (.ref m), some (.ref o), some (.int i), none, none, none]) (st' := [.int (i + 1), .ref b, .ref x]) rfl ?_
  refine s_sld hf (dk okd_law_23 0 rfl) (fun v1 => ?_)
  refine s_run X ok_law_23 5 1 (pc' := 1466) (vs' := [some (.ref b), some (.ref x), some (.ref m), some (.ref o), some (.int i), none, none, none]) (st' := [.ref o, .int v1, .ref x]) rfl ?_
  refine s_callH (c0 := c) (As := [.ref x, .int v1, .ref o]) (rest := []) hf mh_L_267 (c_L_halvingLine S x v1 o) (ta2 tx_ to_) rfl rfl (Nat.le_of_ble_eq_true rfl) (Nat.le_of_ble_eq_true rfl) (Nat.le_of_ble_eq_true rfl) (dk okd_law_23 1 rfl) (st' := fun o2 => [.int o2.1]) (fun _ => rfl) (fun o2 hb3 => ?_)
  have X := hf.X hb3
  have E := hf.E (c + o2.2.2)
  have tx_ := hf.T (c + o2.2.2) tx_
  have tm_ := hf.T (c + o2.2.2) tm_
  have to_ := hf.T (c + o2.2.2) to_
  refine s_run X ok_law_23 6 6 (pc' := 1477) (vs' := [some (.ref b), some (.ref x), some (.ref m), some (.ref o), some (.int i), some (.int o2.1), none, none]) (st' := [.int (i + 1), .ref b, .ref m]) rfl ?_
  refine s_sld hf (dk okd_law_23 2 rfl) (fun v4 => ?_)
  refine s_callV (b := m) (As := [.int v4]) (rest := []) X E mv_L_269 (c_X12_halvingLine o2.2.1 m v4) rfl (ta1 tm_) rfl (by decide) tm_ rfl rfl (Nat.le_of_ble_eq_true rfl) (Nat.le_of_ble_eq_true rfl) (Nat.le_of_ble_eq_true rfl) (dk okd_law_23 3 rfl) (st' := fun o5 => [.int o5.1]) (fun _ => rfl) (fun o5 => ?_)
  refine s_run X ok_law_23 12 2 (pc' := 1484) (vs' := [some (.ref b), some (.ref x), some (.ref m), some (.ref o), some (.int i), some (.int o2.1), some (.int o5.1), none]) (st' := [.ref m]) rfl ?_
  refine s_callV (b := m) (As := []) (rest := []) X E mv_L_214 (c_X12_thrown o5.2 m) rfl (ta1 tm_) rfl (by decide) tm_ rfl rfl (Nat.le_of_ble_eq_true rfl) (Nat.le_of_ble_eq_true rfl) (Nat.le_of_ble_eq_true rfl) (dk okd_law_23 4 rfl) (st' := fun v6 => [.int v6]) (fun _ => rfl) (fun v6 => ?_)
  refine s_run X ok_law_23 14 1 (pc' := 1489) (vs' := [some (.ref b), some (.ref x), some (.ref m), some (.ref o), some (.int i), some (.int o2.1), some (.int o5.1), none]) (st' := [.int o2.1, .int v6]) rfl ?_
  refine s_icmp_eq (tgt := 1494) X (dk okd_law_23 5 rfl) (by decide) ?_ ?_
  · refine s_run X ok_law_23 16 1 (pc' := 1496) (vs' := [some (.ref b), some (.ref x), some (.ref m), some (.ref o), some (.int i), some (.int o2.1), some (.int o5.1), none]) (st' := [.int o2.1]) rfl ?_
    refine s_jn (κ := Option (Unit)) (fun k7 => Jd (Cn (c + o2.2.2)) 8 Q o5.2 1511 [some (.ref b), some (.ref x), some (.ref m), some (.ref o), some (.int i), none, none, none] [] k7) ?_ (fun k7 h8 => ?_)
    · refine s_run X ok_law_23 23 1 (pc' := 4006) (vs' := [some (.ref b), some (.ref x), some (.ref m), some (.ref o), some (.int i), none, none, none]) (st' := []) rfl ?_
      exact s_less [true, true, true, true, true, false, false, false] rfl (hk o5.2 ((c + o2.2.2)) hb3)
    · refine s_if_ne (tgt := 1511) X (dk okd_law_23 7 rfl) (by decide) ?_ ?_
      · exact s_less [true, true, true, true, true, false, false, false] rfl (h8)
      · refine s_run X ok_law_23 17 2 (pc' := 1501) (vs' := [some (.ref b), some (.ref x), some (.ref m), some (.ref o), some (.int i), some (.int o2.1), some (.int o5.1), none]) (st' := [.int 0, .ref o]) rfl ?_
        refine s_lald X to_ (dk okd_law_23 8 rfl) (fun v9 => ?_)
        refine s_run X ok_law_23 19 3 (pc' := 1506) (vs' := [some (.ref b), some (.ref x), some (.ref m), some (.ref o), some (.int i), some (.int o2.1), some (.int o5.1), none]) (st' := [.int (lg_cmp v9 (Int32.toInt64 o5.1))]) rfl ?_
        refine s_lif_eq (tgt := 1511) X (dk okd_law_23 9 rfl) (by decide) ?_ ?_
        · exact s_less [true, true, true, true, true, false, false, false] rfl (h8)
        · refine s_run X ok_law_23 22 1 (pc' := 1510) (vs' := [some (.ref b), some (.ref x), some (.ref m), some (.ref o), some (.int i), some (.int o2.1), some (.int o5.1), none]) (st' := [.int 0]) rfl ?_
          exact s_none
  · refine s_run X ok_law_23 15 1 (pc' := 1493) (vs' := [some (.ref b), some (.ref x), some (.ref m), some (.ref o), some (.int i), some (.int o2.1), some (.int o5.1), none]) (st' := [.int 0]) rfl ?_
    exact s_none
