theorem mh_L_302 : MH RL 302 yL_creditDue cL_creditDue 5 [(0, 9, 12, 22)] 4 := ⟨TT_6 (i := 187) rfl rfl, TT_6 (i := 188) rfl rfl, TT_1 (i := 0) rfl rfl, TT_6 (i := 189) rfl rfl, ⟨by decide, by decide, by decide +kernel⟩⟩
theorem mh_L_305 : MH RL 305 yL_closeMonth cL_closeMonth 3 [(0, 8, 11, 79)] 2 := ⟨TT_6 (i := 195) rfl rfl, TT_6 (i := 196) rfl rfl, TT_1 (i := 0) rfl rfl, TT_6 (i := 197) rfl rfl, ⟨by decide, by decide, by decide +kernel⟩⟩
theorem mh_L_309 : MH RL 309 yL_invoice cL_invoice 6 [(0, 11, 14, 22), (0, 11, 18, 13)] 5 := ⟨TT_6 (i := 203) rfl rfl, TT_6 (i := 204) rfl rfl, TT_1 (i := 0) rfl rfl, TT_6 (i := 205) rfl rfl, ⟨by decide, by decide, by decide +kernel⟩⟩
theorem mh_L_312 : MH RL 312 yL_predictDue cL_predictDue 5 [(0, 9, 12, 22), (0, 9, 16, 13)] 4 := ⟨TT_6 (i := 214) rfl rfl, TT_6 (i := 215) rfl rfl, TT_1 (i := 0) rfl rfl, TT_6 (i := 216) rfl rfl, ⟨by decide, by decide, by decide +kernel⟩⟩
theorem mh_L_315 : MH RL 315 yL_balance cL_balance 4 [(0, 8, 11, 22)] 3 := ⟨TT_6 (i := 223) rfl rfl, TT_6 (i := 224) rfl rfl, TT_1 (i := 0) rfl rfl, TT_6 (i := 225) rfl rfl, ⟨by decide, by decide, by decide +kernel⟩⟩
theorem mh_L_323 : MH RL 323 yL_pay cL_pay 6 [(0, 10, 13, 22), (0, 10, 17, 13)] 4 := ⟨TT_6 (i := 230) rfl rfl, TT_6 (i := 231) rfl rfl, TT_1 (i := 0) rfl rfl, TT_6 (i := 232) rfl rfl, ⟨by decide, by decide, by decide +kernel⟩⟩
theorem mv_L_298 : MV RL 298 yX11_ranked cX11_ranked 2 (some .int) 1 := ⟨TT_4 (i := 35) rfl rfl, TT_4 (i := 36) rfl rfl, TT_4 (i := 37) rfl rfl, TT_1 (i := 1) rfl rfl, TT_4 (i := 38) rfl rfl, ⟨by decide, by decide, by decide +kernel⟩⟩
theorem mv_L_301 : MV RL 301 yX12_ranked cX12_ranked 7 (some .int) 1 := ⟨TT_9 (i := 75) rfl rfl, TT_9 (i := 76) rfl rfl, TT_9 (i := 77) rfl rfl, TT_1 (i := 13) rfl rfl, TT_9 (i := 78) rfl rfl, ⟨by decide, by decide, by decide +kernel⟩⟩
theorem mv_L_304 : MV RL 304 yX12_creditDue cX12_creditDue 3 (some .long) 2 := ⟨TT_9 (i := 83) rfl rfl, TT_9 (i := 84) rfl rfl, TT_9 (i := 85) rfl rfl, TT_1 (i := 13) rfl rfl, TT_9 (i := 86) rfl rfl, ⟨by decide, by decide, by decide +kernel⟩⟩
theorem mv_L_308 : MV RL 308 yX12_closeMonth cX12_closeMonth 8 (some .int) 0 := ⟨TT_9 (i := 91) rfl rfl, TT_9 (i := 92) rfl rfl, TT_9 (i := 93) rfl rfl, TT_1 (i := 13) rfl rfl, TT_9 (i := 94) rfl rfl, ⟨by decide, by decide, by decide +kernel⟩⟩
theorem mv_L_311 : MV RL 311 yX12_invoice cX12_invoice 4 (some .long) 3 := ⟨TT_9 (i := 117) rfl rfl, TT_9 (i := 118) rfl rfl, TT_9 (i := 119) rfl rfl, TT_1 (i := 13) rfl rfl, TT_9 (i := 120) rfl rfl, ⟨by decide, by decide, by decide +kernel⟩⟩
theorem mv_L_314 : MV RL 314 yX12_predictDue cX12_predictDue 3 (some .long) 2 := ⟨TT_9 (i := 122) rfl rfl, TT_9 (i := 123) rfl rfl, TT_9 (i := 124) rfl rfl, TT_1 (i := 13) rfl rfl, TT_9 (i := 125) rfl rfl, ⟨by decide, by decide, by decide +kernel⟩⟩
theorem mv_L_317 : MV RL 317 yX12_balance cX12_balance 2 (some .long) 1 := ⟨TT_9 (i := 127) rfl rfl, TT_9 (i := 128) rfl rfl, TT_9 (i := 129) rfl rfl, TT_1 (i := 13) rfl rfl, TT_9 (i := 130) rfl rfl, ⟨by decide, by decide, by decide +kernel⟩⟩
theorem mv_L_318 : MV RL 318 yX11_totalOwed cX11_totalOwed 1 (some .long) 0 := ⟨TT_4 (i := 58) rfl rfl, TT_4 (i := 59) rfl rfl, TT_4 (i := 60) rfl rfl, TT_1 (i := 1) rfl rfl, TT_4 (i := 61) rfl rfl, ⟨by decide, by decide, by decide +kernel⟩⟩
theorem mv_L_322 : MV RL 322 yX12_totalOwed cX12_totalOwed 4 (some .long) 0 := ⟨TT_9 (i := 131) rfl rfl, TT_9 (i := 132) rfl rfl, TT_9 (i := 133) rfl rfl, TT_1 (i := 13) rfl rfl, TT_9 (i := 134) rfl rfl, ⟨by decide, by decide, by decide +kernel⟩⟩
theorem mv_L_325 : MV RL 325 yX12_pay cX12_pay 4 (some .long) 2 := ⟨TT_9 (i := 135) rfl rfl, TT_9 (i := 136) rfl rfl, TT_9 (i := 137) rfl rfl, TT_1 (i := 13) rfl rfl, TT_9 (i := 138) rfl rfl, ⟨by decide, by decide, by decide +kernel⟩⟩
def tab_law_32 : List En := [(2137, 8, 1, 0), (2138, 8, 0, 0), (2139, 5, 4, 0), (2141, 0, 0, 1), (2142, 17, 0, 0), (2147, 8, 2, 0), (2148, 8, 0, 0), (2149, 5, 4, 0), (2151, 0, 0, 1), (2152, 17, 0, 0), (2160, 0, 0, 0)]
theorem ok_law_32 : tab_law_32.all (okE code) = true := by decide +kernel
def ed_law_32 : List (Nat × Instr × Nat) := [(2143, .iaload, 1), (2144, .invokevirtual 298, 3), (2153, .iaload, 1), (2154, .invokevirtual 301, 3), (2157, .if_icmp .eq 1849, 3), (2161, .ireturn, 1)]
theorem okd_law_32 : ed_law_32.all (okD code) = true := by decide +kernel
def f_law_32 (Ls : Nat) (xs : Nat → Int32) (S : St) (x m o : Nat) (i : Int32) (c : Nat) (kont : St → Nat → Option Unit) : Option Unit := sx Ls xs (i + 1) fun (v1 : Int32) => cl (f_X11_ranked S x v1) fun (v2 : Int32) => sx Ls xs (i + 1) fun (v3 : Int32) => cl (f_X12_ranked S m v3) fun (o4 : Int32 × St) => if v2 = o4.1 then (kont o4.2 (c)) else (none)
set_option maxHeartbeats 4000000 in
set_option maxRecDepth 100000 in
theorem c_law_32 {Cn : Nat → CT} {b Ls : Nat} {xs : Nat → Int32} {Q : Unit → State → Prop} {x m o : Nat} {i : Int32} (hf : Fam Cn b Ls xs) (tx0 : tT (Cn 0) x 10) (tm0 : tT (Cn 0) m 11) (to0 : tT (Cn 0) o 14) (S : St) (c : Nat) (hc : c ≤ 512) (kont : St → Nat → Option Unit) (hk : ∀ (S : St) (c : Nat), c ≤ 512 → Jd (Cn c) 8 Q S 4006 [some (.ref b), some (.ref x), some (.ref m), some (.ref o), some (.int i), none, none, none] [] (kont S c)) : Jd (Cn c) 8 Q S 2137 [some (.ref b), some (.ref x), some (.ref m), some (.ref o), some (.int i), none, none, none] [] (f_law_32 Ls xs S x m o i c kont) := by
  have X := hf.X hc
  have E := hf.E c
  have tx_ := hf.T c tx0
  have tm_ := hf.T c tm0
  have to_ := hf.T c to0
  unfold f_law_32
  refine s_run X ok_law_32 0 5 (pc' := 2143) (vs' := [some (.ref b), some (.ref x), some (.ref m), some (.ref o), some (.int i), none, none, none]) (st' := [.int (i + 1), .ref b, .ref x]) rfl ?_
  refine s_sld hf (dk okd_law_32 0 rfl) (fun v1 => ?_)
  refine s_callV (b := x) (As := [.int v1]) (rest := []) X E mv_L_298 (c_X11_ranked S x v1) rfl (ta1 tx_) rfl (by decide) tx_ rfl rfl (Nat.le_of_ble_eq_true rfl) (Nat.le_of_ble_eq_true rfl) (Nat.le_of_ble_eq_true rfl) (dk okd_law_32 1 rfl) (st' := fun v2 => [.int v2]) (fun _ => rfl) (fun v2 => ?_)
  refine s_run X ok_law_32 5 5 (pc' := 2153) (vs' := [some (.ref b), some (.ref x), some (.ref m), some (.ref o), some (.int i), none, none, none]) (st' := [.int (i + 1), .ref b, .ref m, .int v2]) rfl ?_
  refine s_sld hf (dk okd_law_32 2 rfl) (fun v3 => ?_)
  refine s_callV (b := m) (As := [.int v3]) (rest := [.int v2]) X E mv_L_301 (c_X12_ranked S m v3) rfl (ta1 tm_) rfl (by decide) tm_ rfl rfl (Nat.le_of_ble_eq_true rfl) (Nat.le_of_ble_eq_true rfl) (Nat.le_of_ble_eq_true rfl) (dk okd_law_32 3 rfl) (st' := fun o4 => [.int o4.1, .int v2]) (fun _ => rfl) (fun o4 => ?_)
  refine s_icmp_eq (tgt := 4006) X (dk okd_law_32 4 rfl) (by decide) ?_ ?_
  · exact s_less [true, true, true, true, true, false, false, false] rfl (hk o4.2 (c) hc)
  · refine s_run X ok_law_32 10 1 (pc' := 2161) (vs' := [some (.ref b), some (.ref x), some (.ref m), some (.ref o), some (.int i), none, none, none]) (st' := [.int 0]) rfl ?_
    exact s_none
def tab_law_33 : List En := [(2162, 8, 1, 0), (2163, 8, 0, 0), (2164, 5, 4, 0), (2166, 0, 0, 1), (2167, 17, 0, 0), (2169, 8, 0, 0), (2170, 5, 4, 0), (2172, 0, 0, 2), (2173, 17, 0, 0), (2175, 8, 3, 0), (2179, 11, 5, 0), (2181, 8, 2, 0), (2182, 8, 0, 0), (2183, 5, 4, 0), (2185, 0, 0, 1), (2186, 17, 0, 0), (2188, 8, 0, 0), (2189, 5, 4, 0), (2191, 0, 0, 2), (2192, 17, 0, 0), (2197, 13, 6, 0), (2199, 8, 2, 0), (2203, 5, 5, 0), (2208, 0, 0, 0), (2210, 5, 5, 0), (2215, 8, 3, 0), (2216, 0, 0, 0), (2218, 7, 6, 0), (2220, 40, 0, 0), (2224, 0, 0, 0), (2226, 41, 4006, 0)]
theorem ok_law_33 : tab_law_33.all (okE code) = true := by decide +kernel
def ed_law_33 : List (Nat × Instr × Nat) := [(2168, .iaload, 1), (2174, .iaload, 1), (2176, .invokestatic 302, 3), (2187, .iaload, 1), (2193, .iaload, 1), (2194, .invokevirtual 304, 3), (2200, .invokevirtual 214, 3), (2205, .if_icmp .eq 5, 3), (2209, .ireturn, 1), (2212, .ifCond .ne 14, 3), (2217, .laload, 1), (2221, .ifCond .eq 5, 3), (2225, .ireturn, 1)]
theorem okd_law_33 : ed_law_33.all (okD code) = true := by decide +kernel
def f_law_33 (Ls : Nat) (xs : Nat → Int32) (S : St) (x m o : Nat) (i : Int32) (c : Nat) (kont : St → Nat → Option Unit) : Option Unit := sx Ls xs (i + 1) fun (v1 : Int32) => sx Ls xs (i + 2) fun (v2 : Int32) => cl (f_L_creditDue S x v1 v2 o) fun (o3 : Int32 × St × Nat) => bud (c + o3.2.2) <| sx Ls xs (i + 1) fun (v5 : Int32) => sx Ls xs (i + 2) fun (v6 : Int32) => cl (f_X12_creditDue o3.2.1 m v5 v6) fun (o7 : Int64 × St) => cl (f_X12_thrown o7.2 m) fun (v8 : Int32) => if v8 = o3.1 then (jn (κ := Option (Unit)) (kont o7.2 ((c + o3.2.2))) fun k9 => if o3.1 = 0 then (ldJ o7.2 o 0 fun (v11 : Int64) => if v11 = o7.1 then (k9) else (none)) else (k9)) else (none)
set_option maxHeartbeats 4000000 in
set_option maxRecDepth 100000 in
theorem c_law_33 {Cn : Nat → CT} {b Ls : Nat} {xs : Nat → Int32} {Q : Unit → State → Prop} {x m o : Nat} {i : Int32} (hf : Fam Cn b Ls xs) (tx0 : tT (Cn 0) x 10) (tm0 : tT (Cn 0) m 11) (to0 : tT (Cn 0) o 14) (S : St) (c : Nat) (hc : c ≤ 512) (kont : St → Nat → Option Unit) (hk : ∀ (S : St) (c : Nat), c ≤ 512 → Jd (Cn c) 8 Q S 4006 [some (.ref b), some (.ref x), some (.ref m), some (.ref o), some (.int i), none, none, none] [] (kont S c)) : Jd (Cn c) 8 Q S 2162 [some (.ref b), some (.ref x), some (.ref m), some (.ref o), some (.int i), none, none, none] [] (f_law_33 Ls xs S x m o i c kont) := by
  have X := hf.X hc
  have E := hf.E c
  have tx_ := hf.T c tx0
  have tm_ := hf.T c tm0
  have to_ := hf.T c to0
  unfold f_law_33
  refine s_run X ok_law_33 0 5 (pc' := 2168) (vs' := [some (.ref b), some (.ref x), some (.ref m), some (.ref o), some (.int i), none, none, none]) (st' := [.int (i + 1), .ref b, .ref x]) rfl ?_
  refine s_sld hf (dk okd_law_33 0 rfl) (fun v1 => ?_)
  refine s_run X ok_law_33 5 4 (pc' := 2174) (vs' := [some (.ref b), some (.ref x), some (.ref m), some (.ref o), some (.int i), none, none, none]) (st' := [.int (i + 2), .ref b, .int v1, .ref x]) rfl ?_
  refine s_sld hf (dk okd_law_33 1 rfl) (fun v2 => ?_)
  refine s_run X ok_law_33 9 1 (pc' := 2176) (vs' := [some (.ref b), some (.ref x), some (.ref m), some (.ref o), some (.int i), none, none, none]) (st' := [.ref o, .int v2, .int v1, .ref x]) rfl ?_
  refine s_callH (c0 := c) (As := [.ref x, .int v1, .int v2, .ref o]) (rest := []) hf mh_L_302 (c_L_creditDue S x v1 v2 o) (ta2 tx_ to_) rfl rfl (Nat.le_of_ble_eq_true rfl) (Nat.le_of_ble_eq_true rfl) (Nat.le_of_ble_eq_true rfl) (dk okd_law_33 2 rfl) (st' := fun o3 => [.int o3.1]) (fun _ => rfl) (fun o3 hb4 => ?_)
  have X := hf.X hb4
  have E := hf.E (c + o3.2.2)
  have tx_ := hf.T (c + o3.2.2) tx_
  have tm_ := hf.T (c + o3.2.2) tm_
  have to_ := hf.T (c + o3.2.2) to_
  refine s_run X ok_law_33 10 6 (pc' := 2187) (vs' := [some (.ref b), some (.ref x), some (.ref m), some (.ref o), some (.int i), some (.int o3.1), none, none]) (st' := [.int (i + 1), .ref b, .ref m]) rfl ?_
  refine s_sld hf (dk okd_law_33 3 rfl) (fun v5 => ?_)
  refine s_run X ok_law_33 16 4 (pc' := 2193) (vs' := [some (.ref b), some (.ref x), some (.ref m), some (.ref o), some (.int i), some (.int o3.1), none, none]) (st' := [.int (i + 2), .ref b, .int v5, .ref m]) rfl ?_
  refine s_sld hf (dk okd_law_33 4 rfl) (fun v6 => ?_)
  refine s_callV (b := m) (As := [.int v5, .int v6]) (rest := []) X E mv_L_304 (c_X12_creditDue o3.2.1 m v5 v6) rfl (ta1 tm_) rfl (by decide) tm_ rfl rfl (Nat.le_of_ble_eq_true rfl) (Nat.le_of_ble_eq_true rfl) (Nat.le_of_ble_eq_true rfl) (dk okd_law_33 5 rfl) (st' := fun o7 => [.long o7.1]) (fun _ => rfl) (fun o7 => ?_)
  refine s_run X ok_law_33 20 2 (pc' := 2200) (vs' := [some (.ref b), some (.ref x), some (.ref m), some (.ref o), some (.int i), some (.int o3.1), some (.long o7.1), none]) (st' := [.ref m]) rfl ?_
  refine s_callV (b := m) (As := []) (rest := []) X E mv_L_214 (c_X12_thrown o7.2 m) rfl (ta1 tm_) rfl (by decide) tm_ rfl rfl (Nat.le_of_ble_eq_true rfl) (Nat.le_of_ble_eq_true rfl) (Nat.le_of_ble_eq_true rfl) (dk okd_law_33 6 rfl) (st' := fun v8 => [.int v8]) (fun _ => rfl) (fun v8 => ?_)
  refine s_run X ok_law_33 22 1 (pc' := 2205) (vs' := [some (.ref b), some (.ref x), some (.ref m), some (.ref o), some (.int i), some (.int o3.1), some (.long o7.1), none]) (st' := [.int o3.1, .int v8]) rfl ?_
  refine s_icmp_eq (tgt := 2210) X (dk okd_law_33 7 rfl) (by decide) ?_ ?_
  · refine s_run X ok_law_33 24 1 (pc' := 2212) (vs' := [some (.ref b), some (.ref x), some (.ref m), some (.ref o), some (.int i), some (.int o3.1), some (.long o7.1), none]) (st' := [.int o3.1]) rfl ?_
    refine s_jn (κ := Option (Unit)) (fun k9 => Jd (Cn (c + o3.2.2)) 8 Q o7.2 2226 [some (.ref b), some (.ref x), some (.ref m), some (.ref o), some (.int i), none, none, none] [] k9) ?_ (fun k9 h10 => ?_)
    · refine s_run X ok_law_33 30 1 (pc' := 4006) (vs' := [some (.ref b), some (.ref x), some (.ref m), some (.ref o), some (.int i), none, none, none]) (st' := []) rfl ?_
      exact s_less [true, true, true, true, true, false, false, false] rfl (hk o7.2 ((c + o3.2.2)) hb4)
    · refine s_if_ne (tgt := 2226) X (dk okd_law_33 9 rfl) (by decide) ?_ ?_
      · exact s_less [true, true, true, true, true, false, false, false] rfl (h10)
      · refine s_run X ok_law_33 25 2 (pc' := 2217) (vs' := [some (.ref b), some (.ref x), some (.ref m), some (.ref o), some (.int i), some (.int o3.1), some (.long o7.1), none]) (st' := [.int 0, .ref o]) rfl ?_
        refine s_lald X to_ (dk okd_law_33 10 rfl) (fun v11 => ?_)
        refine s_run X ok_law_33 27 2 (pc' := 2221) (vs' := [some (.ref b), some (.ref x), some (.ref m), some (.ref o), some (.int i), some (.int o3.1), some (.long o7.1), none]) (st' := [.int (lg_cmp v11 o7.1)]) rfl ?_
        refine s_lif_eq (tgt := 2226) X (dk okd_law_33 11 rfl) (by decide) ?_ ?_
        · exact s_less [true, true, true, true, true, false, false, false] rfl (h10)
        · refine s_run X ok_law_33 29 1 (pc' := 2225) (vs' := [some (.ref b), some (.ref x), some (.ref m), some (.ref o), some (.int i), some (.int o3.1), some (.long o7.1), none]) (st' := [.int 0]) rfl ?_
          exact s_none
  · refine s_run X ok_law_33 23 1 (pc' := 2209) (vs' := [some (.ref b), some (.ref x), some (.ref m), some (.ref o), some (.int i), some (.int o3.1), some (.long o7.1), none]) (st' := [.int 0]) rfl ?_
    exact s_none
def tab_law_34 : List En := [(2229, 8, 1, 0), (2230, 8, 3, 0), (2234, 11, 5, 0), (2236, 8, 2, 0), (2240, 11, 6, 0), (2242, 8, 2, 0), (2246, 5, 5, 0), (2251, 0, 0, 0), (2253, 5, 5, 0), (2258, 8, 3, 0), (2259, 0, 0, 0), (2261, 5, 6, 0), (2263, 31, 0, 0), (2264, 40, 0, 0), (2268, 0, 0, 0), (2270, 41, 4006, 0)]
theorem ok_law_34 : tab_law_34.all (okE code) = true := by decide +kernel
def ed_law_34 : List (Nat × Instr × Nat) := [(2231, .invokestatic 305, 3), (2237, .invokevirtual 308, 3), (2243, .invokevirtual 214, 3), (2248, .if_icmp .eq 5, 3), (2252, .ireturn, 1), (2255, .ifCond .ne 15, 3), (2260, .laload, 1), (2265, .ifCond .eq 5, 3), (2269, .ireturn, 1)]
theorem okd_law_34 : ed_law_34.all (okD code) = true := by decide +kernel
def f_law_34 (Ls : Nat) (xs : Nat → Int32) (S : St) (x m o : Nat) (i : Int32) (c : Nat) (kont : St → Nat → Option Unit) : Option Unit := cl (f_L_closeMonth S x o) fun (o1 : Int32 × St × Nat) => bud (c + o1.2.2) <| cl (f_X12_closeMonth o1.2.1 m) fun (o3 : Int32 × St) => cl (f_X12_thrown o3.2 m) fun (v4 : Int32) => if v4 = o1.1 then (jn (κ := Option (Unit)) (kont o3.2 ((c + o1.2.2))) fun k5 => if o1.1 = 0 then (ldJ o3.2 o 0 fun (v7 : Int64) => if v7 = (Int32.toInt64 o3.1) then (k5) else (none)) else (k5)) else (none)
set_option maxHeartbeats 4000000 in
set_option maxRecDepth 100000 in
theorem c_law_34 {Cn : Nat → CT} {b Ls : Nat} {xs : Nat → Int32} {Q : Unit → State → Prop} {x m o : Nat} {i : Int32} (hf : Fam Cn b Ls xs) (tx0 : tT (Cn 0) x 10) (tm0 : tT (Cn 0) m 11) (to0 : tT (Cn 0) o 14) (S : St) (c : Nat) (hc : c ≤ 512) (kont : St → Nat → Option Unit) (hk : ∀ (S : St) (c : Nat), c ≤ 512 → Jd (Cn c) 8 Q S 4006 [some (.ref b), some (.ref x), some (.ref m), some (.ref o), some (.int i), none, none, none] [] (kont S c)) : Jd (Cn c) 8 Q S 2229 [some (.ref b), some (.ref x), some (.ref m), some (.ref o), some (.int i), none, none, none] [] (f_law_34 Ls xs S x m o i c kont) := by
  have X := hf.X hc
  have E := hf.E c
  have tx_ := hf.T c tx0
  have tm_ := hf.T c tm0
  have to_ := hf.T c to0
  unfold f_law_34
  refine s_run X ok_law_34 0 2 (pc' := 2231) (vs' := [some (.ref b), some (.ref x), some (.ref m), some (.ref o), some (.int i), none, none, none]) (st' := [.ref o, .ref x]) rfl ?_
  refine s_callH (c0 := c) (As := [.ref x, .ref o]) (rest := []) hf mh_L_305 (c_L_closeMonth S x o) (ta2 tx_ to_) rfl rfl (Nat.le_of_ble_eq_true rfl) (Nat.le_of_ble_eq_true rfl) (Nat.le_of_ble_eq_true rfl) (dk okd_law_34 0 rfl) (st' := fun o1 => [.int o1.1]) (fun _ => rfl) (fun o1 hb2 => ?_)
  have X := hf.X hb2
  have E := hf.E (c + o1.2.2)
  have tx_ := hf.T (c + o1.2.2) tx_
  have tm_ := hf.T (c + o1.2.2) tm_
  have to_ := hf.T (c + o1.2.2) to_
  refine s_run X ok_law_34 2 2 (pc' := 2237) (vs' := [some (.ref b), some (.ref x), some (.ref m), some (.ref o), some (.int i), some (.int o1.1), none, none]) (st' := [.ref m]) rfl ?_
  refine s_callV (b := m) (As := []) (rest := []) X E mv_L_308 (c_X12_closeMonth o1.2.1 m) rfl (ta1 tm_) rfl (by decide) tm_ rfl rfl (Nat.le_of_ble_eq_true rfl) (Nat.le_of_ble_eq_true rfl) (Nat.le_of_ble_eq_true rfl) (dk okd_law_34 1 rfl) (st' := fun o3 => [.int o3.1]) (fun _ => rfl) (fun o3 => ?_)
  refine s_run X ok_law_34 4 2 (pc' := 2243) (vs' := [some (.ref b), some (.ref x), some (.ref m), some (.ref o), some (.int i), some (.int o1.1), some (.int o3.1), none]) (st' := [.ref m]) rfl ?_
  refine s_callV (b := m) (As := []) (rest := []) X E mv_L_214 (c_X12_thrown o3.2 m) rfl (ta1 tm_) rfl (by decide) tm_ rfl rfl (Nat.le_of_ble_eq_true rfl) (Nat.le_of_ble_eq_true rfl) (Nat.le_of_ble_eq_true rfl) (dk okd_law_34 2 rfl) (st' := fun v4 => [.int v4]) (fun _ => rfl) (fun v4 => ?_)
  refine s_run X ok_law_34 6 1 (pc' := 2248) (vs' := [some (.ref b), some (.ref x), some (.ref m), some (.ref o), some (.int i), some (.int o1.1), some (.int o3.1), none]) (st' := [.int o1.1, .int v4]) rfl ?_
  refine s_icmp_eq (tgt := 2253) X (dk okd_law_34 3 rfl) (by decide) ?_ ?_
  · refine s_run X ok_law_34 8 1 (pc' := 2255) (vs' := [some (.ref b), some (.ref x), some (.ref m), some (.ref o), some (.int i), some (.int o1.1), some (.int o3.1), none]) (st' := [.int o1.1]) rfl ?_
    refine s_jn (κ := Option (Unit)) (fun k5 => Jd (Cn (c + o1.2.2)) 8 Q o3.2 2270 [some (.ref b), some (.ref x), some (.ref m), some (.ref o), some (.int i), none, none, none] [] k5) ?_ (fun k5 h6 => ?_)
    · refine s_run X ok_law_34 15 1 (pc' := 4006) (vs' := [some (.ref b), some (.ref x), some (.ref m), some (.ref o), some (.int i), none, none, none]) (st' := []) rfl ?_
      exact s_less [true, true, true, true, true, false, false, false] rfl (hk o3.2 ((c + o1.2.2)) hb2)
    · refine s_if_ne (tgt := 2270) X (dk okd_law_34 5 rfl) (by decide) ?_ ?_
      · exact s_less [true, true, true, true, true, false, false, false] rfl (h6)
      · refine s_run X ok_law_34 9 2 (pc' := 2260) (vs' := [some (.ref b), some (.ref x), some (.ref m), some (.ref o), some (.int i), some (.int o1.1), some (.int o3.1), none]) (st' := [.int 0, .ref o]) rfl ?_
        refine s_lald X to_ (dk okd_law_34 6 rfl) (fun v7 => ?_)
        refine s_run X ok_law_34 11 3 (pc' := 2265) (vs' := [some (.ref b), some (.ref x), some (.ref m), some (.ref o), some (.int i), some (.int o1.1), some (.int o3.1), none]) (st' := [.int (lg_cmp v7 (Int32.toInt64 o3.1))]) rfl ?_
        refine s_lif_eq (tgt := 2270) X (dk okd_law_34 7 rfl) (by decide) ?_ ?_
        · exact s_less [true, true, true, true, true, false, false, false] rfl (h6)
        · refine s_run X ok_law_34 14 1 (pc' := 2269) (vs' := [some (.ref b), some (.ref x), some (.ref m), some (.ref o), some (.int i), some (.int o1.1), some (.int o3.1), none]) (st' := [.int 0]) rfl ?_
          exact s_none
  · refine s_run X ok_law_34 7 1 (pc' := 2252) (vs' := [some (.ref b), some (.ref x), some (.ref m), some (.ref o), some (.int i), some (.int o1.1), some (.int o3.1), none]) (st' := [.int 0]) rfl ?_
    exact s_none
def tab_law_35 : List En := [(2273, 8, 1, 0), (2274, 8, 0, 0), (2275, 5, 4, 0), (2277, 0, 0, 1), (2278, 17, 0, 0), (2280, 8, 0, 0), (2281, 5, 4, 0), (2283, 0, 0, 2), (2284, 17, 0, 0), (2286, 8, 0, 0), (2287, 5, 4, 0), (2289, 0, 0, 3), (2290, 17, 0, 0), (2292, 8, 3, 0), (2296, 11, 5, 0), (2298, 8, 2, 0), (2299, 8, 0, 0), (2300, 5, 4, 0), (2302, 0, 0, 1), (2303, 17, 0, 0), (2305, 8, 0, 0), (2306, 5, 4, 0), (2308, 0, 0, 2), (2309, 17, 0, 0), (2311, 8, 0, 0), (2312, 5, 4, 0), (2314, 0, 0, 3), (2315, 17, 0, 0), (2320, 13, 6, 0), (2322, 8, 2, 0), (2326, 5, 5, 0), (2331, 0, 0, 0), (2333, 5, 5, 0), (2338, 8, 3, 0), (2339, 0, 0, 0), (2341, 7, 6, 0), (2343, 40, 0, 0), (2347, 0, 0, 0), (2349, 41, 4006, 0)]
theorem ok_law_35 : tab_law_35.all (okE code) = true := by decide +kernel
def ed_law_35 : List (Nat × Instr × Nat) := [(2279, .iaload, 1), (2285, .iaload, 1), (2291, .iaload, 1), (2293, .invokestatic 309, 3), (2304, .iaload, 1), (2310, .iaload, 1), (2316, .iaload, 1), (2317, .invokevirtual 311, 3), (2323, .invokevirtual 214, 3), (2328, .if_icmp .eq 5, 3), (2332, .ireturn, 1), (2335, .ifCond .ne 14, 3), (2340, .laload, 1), (2344, .ifCond .eq 5, 3), (2348, .ireturn, 1)]
theorem okd_law_35 : ed_law_35.all (okD code) = true := by decide +kernel
def f_law_35 (Ls : Nat) (xs : Nat → Int32) (S : St) (x m o : Nat) (i : Int32) (c : Nat) (kont : St → Nat → Option Unit) : Option Unit := sx Ls xs (i + 1) fun (v1 : Int32) => sx Ls xs (i + 2) fun (v2 : Int32) => sx Ls xs (i + 3) fun (v3 : Int32) => cl (f_L_invoice S x v1 v2 v3 o) fun (o4 : Int32 × St × Nat) => bud (c + o4.2.2) <| sx Ls xs (i + 1) fun (v6 : Int32) => sx Ls xs (i + 2) fun (v7 : Int32) => sx Ls xs (i + 3) fun (v8 : Int32) => cl (f_X12_invoice o4.2.1 m v6 v7 v8) fun (o9 : Int64 × St) => cl (f_X12_thrown o9.2 m) fun (v10 : Int32) => if v10 = o4.1 then (jn (κ := Option (Unit)) (kont o9.2 ((c + o4.2.2))) fun k11 => if o4.1 = 0 then (ldJ o9.2 o 0 fun (v13 : Int64) => if v13 = o9.1 then (k11) else (none)) else (k11)) else (none)
set_option maxHeartbeats 4000000 in
set_option maxRecDepth 100000 in
theorem c_law_35 {Cn : Nat → CT} {b Ls : Nat} {xs : Nat → Int32} {Q : Unit → State → Prop} {x m o : Nat} {i : Int32} (hf : Fam Cn b Ls xs) (tx0 : tT (Cn 0) x 10) (tm0 : tT (Cn 0) m 11) (to0 : tT (Cn 0) o 14) (S : St) (c : Nat) (hc : c ≤ 512) (kont : St → Nat → Option Unit) (hk : ∀ (S : St) (c : Nat), c ≤ 512 → Jd (Cn c) 8 Q S 4006 [some (.ref b), some (.ref x), some (.ref m), some (.ref o), some (.int i), none, none, none] [] (kont S c)) : Jd (Cn c) 8 Q S 2273 [some (.ref b), some (.ref x), some (.ref m), some (.ref o), some (.int i), none, none, none] [] (f_law_35 Ls xs S x m o i c kont) := by
  have X := hf.X hc
  have E := hf.E c
  have tx_ := hf.T c tx0
  have tm_ := hf.T c tm0
  have to_ := hf.T c to0
  unfold f_law_35
  refine s_run X ok_law_35 0 5 (pc' := 2279) (vs' := [some (.ref b), some (.ref x), some (.ref m), some (.ref o), some (.int i), none, none, none]) (st' := [.int (i + 1), .ref b, .ref x]) rfl ?_
  refine s_sld hf (dk okd_law_35 0 rfl) (fun v1 => ?_)
  refine s_run X ok_law_35 5 4 (pc' := 2285) (vs' := [some (.ref b), some (.ref x), some (.ref m), some (.ref o), some (.int i), none, none, none]) (st' := [.int (i + 2), .ref b, .int v1, .ref x]) rfl ?_
  refine s_sld hf (dk okd_law_35 1 rfl) (fun v2 => ?_)
  refine s_run X ok_law_35 9 4 (pc' := 2291) (vs' := [some (.ref b), some (.ref x), some (.ref m), some (.ref o), some (.int i), none, none, none]) (st' := [.int (i + 3), .ref b, .int v2, .int v1, .ref x]) rfl ?_
  refine s_sld hf (dk okd_law_35 2 rfl) (fun v3 => ?_)
  refine s_run X ok_law_35 13 1 (pc' := 2293) (vs' := [some (.ref b), some (.ref x), some (.ref m), some (.ref o), some (.int i), none, none, none]) (st' := [.ref o, .int v3, .int v2, .int v1, .ref x]) rfl ?_
  refine s_callH (c0 := c) (As := [.ref x, .int v1, .int v2, .int v3, .ref o]) (rest := []) hf mh_L_309 (c_L_invoice S x v1 v2 v3 o) (ta2 tx_ to_) rfl rfl (Nat.le_of_ble_eq_true rfl) (Nat.le_of_ble_eq_true rfl) (Nat.le_of_ble_eq_true rfl) (dk okd_law_35 3 rfl) (st' := fun o4 => [.int o4.1]) (fun _ => rfl) (fun o4 hb5 => ?_)
  have X := hf.X hb5
  have E := hf.E (c + o4.2.2)
  have tx_ := hf.T (c + o4.2.2) tx_
  have tm_ := hf.T (c + o4.2.2) tm_
  have to_ := hf.T (c + o4.2.2) to_
  refine s_run X ok_law_35 14 6 (pc' := 2304) (vs' := [some (.ref b), some (.ref x), some (.ref m), some (.ref o), some (.int i), some (.int o4.1), none, none]) (st' := [.int (i + 1), .ref b, .ref m]) rfl ?_
  refine s_sld hf (dk okd_law_35 4 rfl) (fun v6 => ?_)
  refine s_run X ok_law_35 20 4 (pc' := 2310) (vs' := [some (.ref b), some (.ref x), some (.ref m), some (.ref o), some (.int i), some (.int o4.1), none, none]) (st' := [.int (i + 2), .ref b, .int v6, .ref m]) rfl ?_
  refine s_sld hf (dk okd_law_35 5 rfl) (fun v7 => ?_)
  refine s_run X ok_law_35 24 4 (pc' := 2316) (vs' := [some (.ref b), some (.ref x), some (.ref m), some (.ref o), some (.int i), some (.int o4.1), none, none]) (st' := [.int (i + 3), .ref b, .int v7, .int v6, .ref m]) rfl ?_
  refine s_sld hf (dk okd_law_35 6 rfl) (fun v8 => ?_)
  refine s_callV (b := m) (As := [.int v6, .int v7, .int v8]) (rest := []) X E mv_L_311 (c_X12_invoice o4.2.1 m v6 v7 v8) rfl (ta1 tm_) rfl (by decide) tm_ rfl rfl (Nat.le_of_ble_eq_true rfl) (Nat.le_of_ble_eq_true rfl) (Nat.le_of_ble_eq_true rfl) (dk okd_law_35 7 rfl) (st' := fun o9 => [.long o9.1]) (fun _ => rfl) (fun o9 => ?_)
  refine s_run X ok_law_35 28 2 (pc' := 2323) (vs' := [some (.ref b), some (.ref x), some (.ref m), some (.ref o), some (.int i), some (.int o4.1), some (.long o9.1), none]) (st' := [.ref m]) rfl ?_
  refine s_callV (b := m) (As := []) (rest := []) X E mv_L_214 (c_X12_thrown o9.2 m) rfl (ta1 tm_) rfl (by decide) tm_ rfl rfl (Nat.le_of_ble_eq_true rfl) (Nat.le_of_ble_eq_true rfl) (Nat.le_of_ble_eq_true rfl) (dk okd_law_35 8 rfl) (st' := fun v10 => [.int v10]) (fun _ => rfl) (fun v10 => ?_)
  refine s_run X ok_law_35 30 1 (pc' := 2328) (vs' := [some (.ref b), some (.ref x), some (.ref m), some (.ref o), some (.int i), some (.int o4.1), some (.long o9.1), none]) (st' := [.int o4.1, .int v10]) rfl ?_
  refine s_icmp_eq (tgt := 2333) X (dk okd_law_35 9 rfl) (by decide) ?_ ?_
  · refine s_run X ok_law_35 32 1 (pc' := 2335) (vs' := [some (.ref b), some (.ref x), some (.ref m), some (.ref o), some (.int i), some (.int o4.1), some (.long o9.1), none]) (st' := [.int o4.1]) rfl ?_
    refine s_jn (κ := Option (Unit)) (fun k11 => Jd (Cn (c + o4.2.2)) 8 Q o9.2 2349 [some (.ref b), some (.ref x), some (.ref m), some (.ref o), some (.int i), none, none, none] [] k11) ?_ (fun k11 h12 => ?_)
    · refine s_run X ok_law_35 38 1 (pc' := 4006) (vs' := [some (.ref b), some (.ref x), some (.ref m), some (.ref o), some (.int i), none, none, none]) (st' := []) rfl ?_
      exact s_less [true, true, true, true, true, false, false, false] rfl (hk o9.2 ((c + o4.2.2)) hb5)
    · refine s_if_ne (tgt := 2349) X (dk okd_law_35 11 rfl) (by decide) ?_ ?_
      · exact s_less [true, true, true, true, true, false, false, false] rfl (h12)
      · refine s_run X ok_law_35 33 2 (pc' := 2340) (vs' := [some (.ref b), some (.ref x), some (.ref m), some (.ref o), some (.int i), some (.int o4.1), some (.long o9.1), none]) (st' := [.int 0, .ref o]) rfl ?_
        refine s_lald X to_ (dk okd_law_35 12 rfl) (fun v13 => ?_)
        refine s_run X ok_law_35 35 2 (pc' := 2344) (vs' := [some (.ref b), some (.ref x), some (.ref m), some (.ref o), some (.int i), some (.int o4.1), some (.long o9.1), none]) (st' := [.int (lg_cmp v13 o9.1)]) rfl ?_
        refine s_lif_eq (tgt := 2349) X (dk okd_law_35 13 rfl) (by decide) ?_ ?_
        · exact s_less [true, true, true, true, true, false, false, false] rfl (h12)
        · refine s_run X ok_law_35 37 1 (pc' := 2348) (vs' := [some (.ref b), some (.ref x), some (.ref m), some (.ref o), some (.int i), some (.int o4.1), some (.long o9.1), none]) (st' := [.int 0]) rfl ?_
          exact s_none
  · refine s_run X ok_law_35 31 1 (pc' := 2332) (vs' := [some (.ref b), some (.ref x), some (.ref m), some (.ref o), some (.int i), some (.int o4.1), some (.long o9.1), none]) (st' := [.int 0]) rfl ?_
    exact s_none
def tab_law_36 : List En := [(2352, 8, 1, 0), (2353, 8, 0, 0), (2354, 5, 4, 0), (2356, 0, 0, 1), (2357, 17, 0, 0), (2359, 8, 0, 0), (2360, 5, 4, 0), (2362, 0, 0, 2), (2363, 17, 0, 0), (2365, 8, 3, 0), (2369, 11, 5, 0), (2371, 8, 2, 0), (2372, 8, 0, 0), (2373, 5, 4, 0), (2375, 0, 0, 1), (2376, 17, 0, 0), (2378, 8, 0, 0), (2379, 5, 4, 0), (2381, 0, 0, 2), (2382, 17, 0, 0), (2387, 13, 6, 0), (2389, 8, 2, 0), (2393, 5, 5, 0), (2398, 0, 0, 0), (2400, 5, 5, 0), (2405, 8, 3, 0), (2406, 0, 0, 0), (2408, 7, 6, 0), (2410, 40, 0, 0), (2414, 0, 0, 0), (2416, 41, 4006, 0)]
theorem ok_law_36 : tab_law_36.all (okE code) = true := by decide +kernel
def ed_law_36 : List (Nat × Instr × Nat) := [(2358, .iaload, 1), (2364, .iaload, 1), (2366, .invokestatic 312, 3), (2377, .iaload, 1), (2383, .iaload, 1), (2384, .invokevirtual 314, 3), (2390, .invokevirtual 214, 3), (2395, .if_icmp .eq 5, 3), (2399, .ireturn, 1), (2402, .ifCond .ne 14, 3), (2407, .laload, 1), (2411, .ifCond .eq 5, 3), (2415, .ireturn, 1)]
theorem okd_law_36 : ed_law_36.all (okD code) = true := by decide +kernel
def f_law_36 (Ls : Nat) (xs : Nat → Int32) (S : St) (x m o : Nat) (i : Int32) (c : Nat) (kont : St → Nat → Option Unit) : Option Unit := sx Ls xs (i + 1) fun (v1 : Int32) => sx Ls xs (i + 2) fun (v2 : Int32) => cl (f_L_predictDue S x v1 v2 o) fun (o3 : Int32 × St × Nat) => bud (c + o3.2.2) <| sx Ls xs (i + 1) fun (v5 : Int32) => sx Ls xs (i + 2) fun (v6 : Int32) => cl (f_X12_predictDue o3.2.1 m v5 v6) fun (o7 : Int64 × St) => cl (f_X12_thrown o7.2 m) fun (v8 : Int32) => if v8 = o3.1 then (jn (κ := Option (Unit)) (kont o7.2 ((c + o3.2.2))) fun k9 => if o3.1 = 0 then (ldJ o7.2 o 0 fun (v11 : Int64) => if v11 = o7.1 then (k9) else (none)) else (k9)) else (none)
set_option maxHeartbeats 4000000 in
set_option maxRecDepth 100000 in
theorem c_law_36 {Cn : Nat → CT} {b Ls : Nat} {xs : Nat → Int32} {Q : Unit → State → Prop} {x m o : Nat} {i : Int32} (hf : Fam Cn b Ls xs) (tx0 : tT (Cn 0) x 10) (tm0 : tT (Cn 0) m 11) (to0 : tT (Cn 0) o 14) (S : St) (c : Nat) (hc : c ≤ 512) (kont : St → Nat → Option Unit) (hk : ∀ (S : St) (c : Nat), c ≤ 512 → Jd (Cn c) 8 Q S 4006 [some (.ref b), some (.ref x), some (.ref m), some (.ref o), some (.int i), none, none, none] [] (kont S c)) : Jd (Cn c) 8 Q S 2352 [some (.ref b), some (.ref x), some (.ref m), some (.ref o), some (.int i), none, none, none] [] (f_law_36 Ls xs S x m o i c kont) := by
  have X := hf.X hc
  have E := hf.E c
  have tx_ := hf.T c tx0
  have tm_ := hf.T c tm0
  have to_ := hf.T c to0
  unfold f_law_36
  refine s_run X ok_law_36 0 5 (pc' := 2358) (vs' := [some (.ref b), some (.ref x), some (.ref m), some (.ref o), some (.int i), none, none, none]) (st' := [.int (i + 1), .ref b, .ref x]) rfl ?_
  refine s_sld hf (dk okd_law_36 0 rfl) (fun v1 => ?_)
  refine s_run X ok_law_36 5 4 (pc' := 2364) (vs' := [some (.ref b), some (.ref x), some (.ref m), some (.ref o), some (.int i), none, none, none]) (st' := [.int (i + 2), .ref b, .int v1, .ref x]) rfl ?_
  refine s_sld hf (dk okd_law_36 1 rfl) (fun v2 => ?_)
  refine s_run X ok_law_36 9 1 (pc' := 2366) (vs' := [some (.ref b), some (.ref x), some (.ref m), some (.ref o), some (.int i), none, none, none]) (st' := [.ref o, .int v2, .int v1, .ref x]) rfl ?_
  refine s_callH (c0 := c) (As := [.ref x, .int v1, .int v2, .ref o]) (rest := []) hf mh_L_312 (c_L_predictDue S x v1 v2 o) (ta2 tx_ to_) rfl rfl (Nat.le_of_ble_eq_true rfl) (Nat.le_of_ble_eq_true rfl) (Nat.le_of_ble_eq_true rfl) (dk okd_law_36 2 rfl) (st' := fun o3 => [.int o3.1]) (fun _ => rfl) (fun o3 hb4 => ?_)
  have X := hf.X hb4
  have E := hf.E (c + o3.2.2)
  have tx_ := hf.T (c + o3.2.2) tx_
  have tm_ := hf.T (c + o3.2.2) tm_
  have to_ := hf.T (c + o3.2.2) to_
  refine s_run X ok_law_36 10 6 (pc' := 2377) (vs' := [some (.ref b), some (.ref x), some (.ref m), some (.ref o), some (.int i), some (.int o3.1), none, none]) (st' := [.int (i + 1), .ref b, .ref m]) rfl ?_
  refine s_sld hf (dk okd_law_36 3 rfl) (fun v5 => ?_)
  refine s_run X ok_law_36 16 4 (pc' := 2383) (vs' := [some (.ref b), some (.ref x), some (.ref m), some (.ref o), some (.int i), some (.int o3.1), none, none]) (st' := [.int (i + 2), .ref b, .int v5, .ref m]) rfl ?_
  refine s_sld hf (dk okd_law_36 4 rfl) (fun v6 => ?_)
  refine s_callV (b := m) (As := [.int v5, .int v6]) (rest := []) X E mv_L_314 (c_X12_predictDue o3.2.1 m v5 v6) rfl (ta1 tm_) rfl (by decide) tm_ rfl rfl (Nat.le_of_ble_eq_true rfl) (Nat.le_of_ble_eq_true rfl) (Nat.le_of_ble_eq_true rfl) (dk okd_law_36 5 rfl) (st' := fun o7 => [.long o7.1]) (fun _ => rfl) (fun o7 => ?_)
  refine s_run X ok_law_36 20 2 (pc' := 2390) (vs' := [some (.ref b), some (.ref x), some (.ref m), some (.ref o), some (.int i), some (.int o3.1), some (.long o7.1), none]) (st' := [.ref m]) rfl ?_
  refine s_callV (b := m) (As := []) (rest := []) X E mv_L_214 (c_X12_thrown o7.2 m) rfl (ta1 tm_) rfl (by decide) tm_ rfl rfl (Nat.le_of_ble_eq_true rfl) (Nat.le_of_ble_eq_true rfl) (Nat.le_of_ble_eq_true rfl) (dk okd_law_36 6 rfl) (st' := fun v8 => [.int v8]) (fun _ => rfl) (fun v8 => ?_)
  refine s_run X ok_law_36 22 1 (pc' := 2395) (vs' := [some (.ref b), some (.ref x), some (.ref m), some (.ref o), some (.int i), some (.int o3.1), some (.long o7.1), none]) (st' := [.int o3.1, .int v8]) rfl ?_
  refine s_icmp_eq (tgt := 2400) X (dk okd_law_36 7 rfl) (by decide) ?_ ?_
  · refine s_run X ok_law_36 24 1 (pc' := 2402) (vs' := [some (.ref b), some (.ref x), some (.ref m), some (.ref o), some (.int i), some (.int o3.1), some (.long o7.1), none]) (st' := [.int o3.1]) rfl ?_
    refine s_jn (κ := Option (Unit)) (fun k9 => Jd (Cn (c + o3.2.2)) 8 Q o7.2 2416 [some (.ref b), some (.ref x), some (.ref m), some (.ref o), some (.int i), none, none, none] [] k9) ?_ (fun k9 h10 => ?_)
    · refine s_run X ok_law_36 30 1 (pc' := 4006) (vs' := [some (.ref b), some (.ref x), some (.ref m), some (.ref o), some (.int i), none, none, none]) (st' := []) rfl ?_
      exact s_less [true, true, true, true, true, false, false, false] rfl (hk o7.2 ((c + o3.2.2)) hb4)
    · refine s_if_ne (tgt := 2416) X (dk okd_law_36 9 rfl) (by decide) ?_ ?_
      · exact s_less [true, true, true, true, true, false, false, false] rfl (h10)
      · refine s_run X ok_law_36 25 2 (pc' := 2407) (vs' := [some (.ref b), some (.ref x), some (.ref m), some (.ref o), some (.int i), some (.int o3.1), some (.long o7.1), none]) (st' := [.int 0, .ref o]) rfl ?_
        refine s_lald X to_ (dk okd_law_36 10 rfl) (fun v11 => ?_)
        refine s_run X ok_law_36 27 2 (pc' := 2411) (vs' := [some (.ref b), some (.ref x), some (.ref m), some (.ref o), some (.int i), some (.int o3.1), some (.long o7.1), none]) (st' := [.int (lg_cmp v11 o7.1)]) rfl ?_
        refine s_lif_eq (tgt := 2416) X (dk okd_law_36 11 rfl) (by decide) ?_ ?_
        · exact s_less [true, true, true, true, true, false, false, false] rfl (h10)
        · refine s_run X ok_law_36 29 1 (pc' := 2415) (vs' := [some (.ref b), some (.ref x), some (.ref m), some (.ref o), some (.int i), some (.int o3.1), some (.long o7.1), none]) (st' := [.int 0]) rfl ?_
          exact s_none
  · refine s_run X ok_law_36 23 1 (pc' := 2399) (vs' := [some (.ref b), some (.ref x), some (.ref m), some (.ref o), some (.int i), some (.int o3.1), some (.long o7.1), none]) (st' := [.int 0]) rfl ?_
    exact s_none
def tab_law_37 : List En := [(2419, 8, 1, 0), (2420, 8, 0, 0), (2421, 5, 4, 0), (2423, 0, 0, 1), (2424, 17, 0, 0), (2426, 8, 3, 0), (2430, 11, 5, 0), (2432, 8, 2, 0), (2433, 8, 0, 0), (2434, 5, 4, 0), (2436, 0, 0, 1), (2437, 17, 0, 0), (2442, 13, 6, 0), (2444, 8, 2, 0), (2448, 5, 5, 0), (2453, 0, 0, 0), (2455, 5, 5, 0), (2460, 8, 3, 0), (2461, 0, 0, 0), (2463, 7, 6, 0), (2465, 40, 0, 0), (2469, 0, 0, 0), (2471, 41, 4006, 0)]
theorem ok_law_37 : tab_law_37.all (okE code) = true := by decide +kernel
def ed_law_37 : List (Nat × Instr × Nat) := [(2425, .iaload, 1), (2427, .invokestatic 315, 3), (2438, .iaload, 1), (2439, .invokevirtual 317, 3), (2445, .invokevirtual 214, 3), (2450, .if_icmp .eq 5, 3), (2454, .ireturn, 1), (2457, .ifCond .ne 14, 3), (2462, .laload, 1), (2466, .ifCond .eq 5, 3), (2470, .ireturn, 1)]
theorem okd_law_37 : ed_law_37.all (okD code) = true := by decide +kernel
def f_law_37 (Ls : Nat) (xs : Nat → Int32) (S : St) (x m o : Nat) (i : Int32) (c : Nat) (kont : St → Nat → Option Unit) : Option Unit := sx Ls xs (i + 1) fun (v1 : Int32) => cl (f_L_balance S x v1 o) fun (o2 : Int32 × St × Nat) => bud (c + o2.2.2) <| sx Ls xs (i + 1) fun (v4 : Int32) => cl (f_X12_balance o2.2.1 m v4) fun (o5 : Int64 × St) => cl (f_X12_thrown o5.2 m) fun (v6 : Int32) => if v6 = o2.1 then (jn (κ := Option (Unit)) (kont o5.2 ((c + o2.2.2))) fun k7 => if o2.1 = 0 then (ldJ o5.2 o 0 fun (v9 : Int64) => if v9 = o5.1 then (k7) else (none)) else (k7)) else (none)
set_option maxHeartbeats 4000000 in
set_option maxRecDepth 100000 in
theorem c_law_37 {Cn : Nat → CT} {b Ls : Nat} {xs : Nat → Int32} {Q : Unit → State → Prop} {x m o : Nat} {i : Int32} (hf : Fam Cn b Ls xs) (tx0 : tT (Cn 0) x 10) (tm0 : tT (Cn 0) m 11) (to0 : tT (Cn 0) o 14) (S : St) (c : Nat) (hc : c ≤ 512) (kont : St → Nat → Option Unit) (hk : ∀ (S : St) (c : Nat), c ≤ 512 → Jd (Cn c) 8 Q S 4006 [some (.ref b), some (.ref x), some (.ref m), some (.ref o), some (.int i), none, none, none] [] (kont S c)) : Jd (Cn c) 8 Q S 2419 [some (.ref b), some (.ref x), some (.ref m), some (.ref o), some (.int i), none, none, none] [] (f_law_37 Ls xs S x m o i c kont) := by
  have X := hf.X hc
  have E := hf.E c
  have tx_ := hf.T c tx0
  have tm_ := hf.T c tm0
  have to_ := hf.T c to0
  unfold f_law_37
  refine s_run X ok_law_37 0 5 (pc' := 2425) (vs' := [some (.ref b), some (.ref x), some (.ref m), some (.ref o), some (.int i), none, none, none]) (st' := [.int (i + 1), .ref b, .ref x]) rfl ?_
  refine s_sld hf (dk okd_law_37 0 rfl) (fun v1 => ?_)
  refine s_run X ok_law_37 5 1 (pc' := 2427) (vs' := [some (.ref b), some (.ref x), some (.ref m), some (.ref o), some (.int i), none, none, none]) (st' := [.ref o, .int v1, .ref x]) rfl ?_
  refine s_callH (c0 := c) (As := [.ref x, .int v1, .ref o]) (rest := []) hf mh_L_315 (c_L_balance S x v1 o) (ta2 tx_ to_) rfl rfl (Nat.le_of_ble_eq_true rfl) (Nat.le_of_ble_eq_true rfl) (Nat.le_of_ble_eq_true rfl) (dk okd_law_37 1 rfl) (st' := fun o2 => [.int o2.1]) (fun _ => rfl) (fun o2 hb3 => ?_)
  have X := hf.X hb3
  have E := hf.E (c + o2.2.2)
  have tx_ := hf.T (c + o2.2.2) tx_
  have tm_ := hf.T (c + o2.2.2) tm_
  have to_ := hf.T (c + o2.2.2) to_
  refine s_run X ok_law_37 6 6 (pc' := 2438) (vs' := [some (.ref b), some (.ref x), some (.ref m), some (.ref o), some (.int i), some (.int o2.1), none, none]) (st' := [.int (i + 1), .ref b, .ref m]) rfl ?_
  refine s_sld hf (dk okd_law_37 2 rfl) (fun v4 => ?_)
  refine s_callV (b := m) (As := [.int v4]) (rest := []) X E mv_L_317 (c_X12_balance o2.2.1 m v4) rfl (ta1 tm_) rfl (by decide) tm_ rfl rfl (Nat.le_of_ble_eq_true rfl) (Nat.le_of_ble_eq_true rfl) (Nat.le_of_ble_eq_true rfl) (dk okd_law_37 3 rfl) (st' := fun o5 => [.long o5.1]) (fun _ => rfl) (fun o5 => ?_)
  refine s_run X ok_law_37 12 2 (pc' := 2445) (vs' := [some (.ref b), some (.ref x), some (.ref m), some (.ref o), some (.int i), some (.int o2.1), some (.long o5.1), none]) (st' := [.ref m]) rfl ?_
  refine s_callV (b := m) (As := []) (rest := []) X E mv_L_214 (c_X12_thrown o5.2 m) rfl (ta1 tm_) rfl (by decide) tm_ rfl rfl (Nat.le_of_ble_eq_true rfl) (Nat.le_of_ble_eq_true rfl) (Nat.le_of_ble_eq_true rfl) (dk okd_law_37 4 rfl) (st' := fun v6 => [.int v6]) (fun _ => rfl) (fun v6 => ?_)
  refine s_run X ok_law_37 14 1 (pc' := 2450) (vs' := [some (.ref b), some (.ref x), some (.ref m), some (.ref o), some (.int i), some (.int o2.1), some (.long o5.1), none]) (st' := [.int o2.1, .int v6]) rfl ?_
  refine s_icmp_eq (tgt := 2455) X (dk okd_law_37 5 rfl) (by decide) ?_ ?_
  · refine s_run X ok_law_37 16 1 (pc' := 2457) (vs' := [some (.ref b), some (.ref x), some (.ref m), some (.ref o), some (.int i), some (.int o2.1), some (.long o5.1), none]) (st' := [.int o2.1]) rfl ?_
    refine s_jn (κ := Option (Unit)) (fun k7 => Jd (Cn (c + o2.2.2)) 8 Q o5.2 2471 [some (.ref b), some (.ref x), some (.ref m), some (.ref o), some (.int i), none, none, none] [] k7) ?_ (fun k7 h8 => ?_)
    · refine s_run X ok_law_37 22 1 (pc' := 4006) (vs' := [some (.ref b), some (.ref x), some (.ref m), some (.ref o), some (.int i), none, none, none]) (st' := []) rfl ?_
      exact s_less [true, true, true, true, true, false, false, false] rfl (hk o5.2 ((c + o2.2.2)) hb3)
    · refine s_if_ne (tgt := 2471) X (dk okd_law_37 7 rfl) (by decide) ?_ ?_
      · exact s_less [true, true, true, true, true, false, false, false] rfl (h8)
      · refine s_run X ok_law_37 17 2 (pc' := 2462) (vs' := [some (.ref b), some (.ref x), some (.ref m), some (.ref o), some (.int i), some (.int o2.1), some (.long o5.1), none]) (st' := [.int 0, .ref o]) rfl ?_
        refine s_lald X to_ (dk okd_law_37 8 rfl) (fun v9 => ?_)
        refine s_run X ok_law_37 19 2 (pc' := 2466) (vs' := [some (.ref b), some (.ref x), some (.ref m), some (.ref o), some (.int i), some (.int o2.1), some (.long o5.1), none]) (st' := [.int (lg_cmp v9 o5.1)]) rfl ?_
        refine s_lif_eq (tgt := 2471) X (dk okd_law_37 9 rfl) (by decide) ?_ ?_
        · exact s_less [true, true, true, true, true, false, false, false] rfl (h8)
        · refine s_run X ok_law_37 21 1 (pc' := 2470) (vs' := [some (.ref b), some (.ref x), some (.ref m), some (.ref o), some (.int i), some (.int o2.1), some (.long o5.1), none]) (st' := [.int 0]) rfl ?_
          exact s_none
  · refine s_run X ok_law_37 15 1 (pc' := 2454) (vs' := [some (.ref b), some (.ref x), some (.ref m), some (.ref o), some (.int i), some (.int o2.1), some (.long o5.1), none]) (st' := [.int 0]) rfl ?_
    exact s_none
def tab_law_38 : List En := [(2474, 8, 1, 0), (2478, 8, 2, 0), (2482, 40, 0, 0), (2486, 0, 0, 0)]
theorem ok_law_38 : tab_law_38.all (okE code) = true := by decide +kernel
def ed_law_38 : List (Nat × Instr × Nat) := [(2475, .invokevirtual 318, 3), (2479, .invokevirtual 322, 3), (2483, .ifCond .eq 1523, 3), (2487, .ireturn, 1)]
theorem okd_law_38 : ed_law_38.all (okD code) = true := by decide +kernel
def f_law_38 (Ls : Nat) (xs : Nat → Int32) (S : St) (x m o : Nat) (i : Int32) (c : Nat) (kont : St → Nat → Option Unit) : Option Unit := cl (f_X11_totalOwed S x) fun (v1 : Int64) => cl (f_X12_totalOwed S m) fun (o2 : Int64 × St) => if v1 = o2.1 then (kont o2.2 (c)) else (none)
set_option maxHeartbeats 4000000 in
set_option maxRecDepth 100000 in
theorem c_law_38 {Cn : Nat → CT} {b Ls : Nat} {xs : Nat → Int32} {Q : Unit → State → Prop} {x m o : Nat} {i : Int32} (hf : Fam Cn b Ls xs) (tx0 : tT (Cn 0) x 10) (tm0 : tT (Cn 0) m 11) (to0 : tT (Cn 0) o 14) (S : St) (c : Nat) (hc : c ≤ 512) (kont : St → Nat → Option Unit) (hk : ∀ (S : St) (c : Nat), c ≤ 512 → Jd (Cn c) 8 Q S 4006 [some (.ref b), some (.ref x), some (.ref m), some (.ref o), some (.int i), none, none, none] [] (kont S c)) : Jd (Cn c) 8 Q S 2474 [some (.ref b), some (.ref x), some (.ref m), some (.ref o), some (.int i), none, none, none] [] (f_law_38 Ls xs S x m o i c kont) := by
  have X := hf.X hc
  have E := hf.E c
  have tx_ := hf.T c tx0
  have tm_ := hf.T c tm0
  have to_ := hf.T c to0
  unfold f_law_38
  refine s_run X ok_law_38 0 1 (pc' := 2475) (vs' := [some (.ref b), some (.ref x), some (.ref m), some (.ref o), some (.int i), none, none, none]) (st' := [.ref x]) rfl ?_
  refine s_callV (b := x) (As := []) (rest := []) X E mv_L_318 (c_X11_totalOwed S x) rfl (ta1 tx_) rfl (by decide) tx_ rfl rfl (Nat.le_of_ble_eq_true rfl) (Nat.le_of_ble_eq_true rfl) (Nat.le_of_ble_eq_true rfl) (dk okd_law_38 0 rfl) (st' := fun v1 => [.long v1]) (fun _ => rfl) (fun v1 => ?_)
  refine s_run X ok_law_38 1 1 (pc' := 2479) (vs' := [some (.ref b), some (.ref x), some (.ref m), some (.ref o), some (.int i), none, none, none]) (st' := [.ref m, .long v1]) rfl ?_
  refine s_callV (b := m) (As := []) (rest := [.long v1]) X E mv_L_322 (c_X12_totalOwed S m) rfl (ta1 tm_) rfl (by decide) tm_ rfl rfl (Nat.le_of_ble_eq_true rfl) (Nat.le_of_ble_eq_true rfl) (Nat.le_of_ble_eq_true rfl) (dk okd_law_38 1 rfl) (st' := fun o2 => [.long o2.1, .long v1]) (fun _ => rfl) (fun o2 => ?_)
  refine s_run X ok_law_38 2 1 (pc' := 2483) (vs' := [some (.ref b), some (.ref x), some (.ref m), some (.ref o), some (.int i), none, none, none]) (st' := [.int (lg_cmp v1 o2.1)]) rfl ?_
  refine s_lif_eq (tgt := 4006) X (dk okd_law_38 2 rfl) (by decide) ?_ ?_
  · exact s_less [true, true, true, true, true, false, false, false] rfl (hk o2.2 (c) hc)
  · refine s_run X ok_law_38 3 1 (pc' := 2487) (vs' := [some (.ref b), some (.ref x), some (.ref m), some (.ref o), some (.int i), none, none, none]) (st' := [.int 0]) rfl ?_
    exact s_none
def tab_law_39 : List En := [(2488, 8, 1, 0), (2489, 8, 0, 0), (2490, 5, 4, 0), (2492, 0, 0, 1), (2493, 17, 0, 0), (2495, 8, 0, 0), (2496, 5, 4, 0), (2498, 0, 0, 2), (2499, 17, 0, 0), (2501, 31, 0, 0), (2502, 1, 0, 32), (2504, 34, 0, 0), (2505, 8, 0, 0), (2506, 5, 4, 0), (2508, 0, 0, 3), (2509, 17, 0, 0), (2511, 31, 0, 0), (2515, 26, 0, 0), (2516, 27, 0, 0), (2517, 8, 3, 0), (2521, 11, 5, 0), (2523, 8, 2, 0), (2524, 8, 0, 0), (2525, 5, 4, 0), (2527, 0, 0, 1), (2528, 17, 0, 0), (2530, 8, 0, 0), (2531, 5, 4, 0), (2533, 0, 0, 2), (2534, 17, 0, 0), (2536, 31, 0, 0), (2537, 1, 0, 32), (2539, 34, 0, 0), (2540, 8, 0, 0), (2541, 5, 4, 0), (2543, 0, 0, 3), (2544, 17, 0, 0), (2546, 31, 0, 0), (2550, 26, 0, 0), (2551, 27, 0, 0), (2555, 13, 6, 0), (2557, 8, 2, 0), (2561, 5, 5, 0), (2566, 0, 0, 0), (2568, 5, 5, 0), (2573, 8, 3, 0), (2574, 0, 0, 0), (2576, 7, 6, 0), (2578, 40, 0, 0), (2582, 0, 0, 0), (2584, 41, 4006, 0)]
theorem ok_law_39 : tab_law_39.all (okE code) = true := by decide +kernel
def ed_law_39 : List (Nat × Instr × Nat) := [(2494, .iaload, 1), (2500, .iaload, 1), (2510, .iaload, 1), (2512, .ldc2_w 270, 3), (2518, .invokestatic 323, 3), (2529, .iaload, 1), (2535, .iaload, 1), (2545, .iaload, 1), (2547, .ldc2_w 270, 3), (2552, .invokevirtual 325, 3), (2558, .invokevirtual 214, 3), (2563, .if_icmp .eq 5, 3), (2567, .ireturn, 1), (2570, .ifCond .ne 14, 3), (2575, .laload, 1), (2579, .ifCond .eq 5, 3), (2583, .ireturn, 1)]
theorem okd_law_39 : ed_law_39.all (okD code) = true := by decide +kernel
def f_law_39 (Ls : Nat) (xs : Nat → Int32) (S : St) (x m o : Nat) (i : Int32) (c : Nat) (kont : St → Nat → Option Unit) : Option Unit := sx Ls xs (i + 1) fun (v1 : Int32) => sx Ls xs (i + 2) fun (v2 : Int32) => sx Ls xs (i + 3) fun (v3 : Int32) => cl (f_L_pay S x v1 (((Int32.toInt64 v2) <<< ((Int32.toInt64 32) &&& 63)) ||| ((Int32.toInt64 v3) &&& 4294967295)) o) fun (o4 : Int32 × St × Nat) => bud (c + o4.2.2) <| sx Ls xs (i + 1) fun (v6 : Int32) => sx Ls xs (i + 2) fun (v7 : Int32) => sx Ls xs (i + 3) fun (v8 : Int32) => cl (f_X12_pay o4.2.1 m v6 (((Int32.toInt64 v7) <<< ((Int32.toInt64 32) &&& 63)) ||| ((Int32.toInt64 v8) &&& 4294967295))) fun (o9 : Int64 × St) => cl (f_X12_thrown o9.2 m) fun (v10 : Int32) => if v10 = o4.1 then (jn (κ := Option (Unit)) (kont o9.2 ((c + o4.2.2))) fun k11 => if o4.1 = 0 then (ldJ o9.2 o 0 fun (v13 : Int64) => if v13 = o9.1 then (k11) else (none)) else (k11)) else (none)
set_option maxHeartbeats 4000000 in
set_option maxRecDepth 100000 in
theorem c_law_39 {Cn : Nat → CT} {b Ls : Nat} {xs : Nat → Int32} {Q : Unit → State → Prop} {x m o : Nat} {i : Int32} (hf : Fam Cn b Ls xs) (tx0 : tT (Cn 0) x 10) (tm0 : tT (Cn 0) m 11) (to0 : tT (Cn 0) o 14) (S : St) (c : Nat) (hc : c ≤ 512) (kont : St → Nat → Option Unit) (hk : ∀ (S : St) (c : Nat), c ≤ 512 → Jd (Cn c) 8 Q S 4006 [some (.ref b), some (.ref x), some (.ref m), some (.ref o), some (.int i), none, none, none] [] (kont S c)) : Jd (Cn c) 8 Q S 2488 [some (.ref b), some (.ref x), some (.ref m), some (.ref o), some (.int i), none, none, none] [] (f_law_39 Ls xs S x m o i c kont) := by
  have X := hf.X hc
  have E := hf.E c
  have tx_ := hf.T c tx0
  have tm_ := hf.T c tm0
  have to_ := hf.T c to0
  unfold f_law_39
  refine s_run X ok_law_39 0 5 (pc' := 2494) (vs' := [some (.ref b), some (.ref x), some (.ref m), some (.ref o), some (.int i), none, none, none]) (st' := [.int (i + 1), .ref b, .ref x]) rfl ?_
  refine s_sld hf (dk okd_law_39 0 rfl) (fun v1 => ?_)
  refine s_run X ok_law_39 5 4 (pc' := 2500) (vs' := [some (.ref b), some (.ref x), some (.ref m), some (.ref o), some (.int i), none, none, none]) (st' := [.int (i + 2), .ref b, .int v1, .ref x]) rfl ?_
  refine s_sld hf (dk okd_law_39 1 rfl) (fun v2 => ?_)
  refine s_run X ok_law_39 9 7 (pc' := 2510) (vs' := [some (.ref b), some (.ref x), some (.ref m), some (.ref o), some (.int i), none, none, none]) (st' := [.int (i + 3), .ref b, .long ((Int32.toInt64 v2) <<< ((Int32.toInt64 32) &&& 63)), .int v1, .ref x]) rfl ?_
  refine s_sld hf (dk okd_law_39 2 rfl) (fun v3 => ?_)
  refine s_run X ok_law_39 16 1 (pc' := 2512) (vs' := [some (.ref b), some (.ref x), some (.ref m), some (.ref o), some (.int i), none, none, none]) (st' := [.long (Int32.toInt64 v3), .long ((Int32.toInt64 v2) <<< ((Int32.toInt64 32) &&& 63)), .int v1, .ref x]) rfl ?_
  refine s_ldc2 X cl_L_270 (dk okd_law_39 3 rfl) ?_
  refine s_run X ok_law_39 17 3 (pc' := 2518) (vs' := [some (.ref b), some (.ref x), some (.ref m), some (.ref o), some (.int i), none, none, none]) (st' := [.ref o, .long (((Int32.toInt64 v2) <<< ((Int32.toInt64 32) &&& 63)) ||| ((Int32.toInt64 v3) &&& 4294967295)), .int v1, .ref x]) rfl ?_
  refine s_callH (c0 := c) (As := [.ref x, .int v1, .long (((Int32.toInt64 v2) <<< ((Int32.toInt64 32) &&& 63)) ||| ((Int32.toInt64 v3) &&& 4294967295)), .ref o]) (rest := []) hf mh_L_323 (c_L_pay S x v1 (((Int32.toInt64 v2) <<< ((Int32.toInt64 32) &&& 63)) ||| ((Int32.toInt64 v3) &&& 4294967295)) o) (ta2 tx_ to_) rfl rfl (Nat.le_of_ble_eq_true rfl) (Nat.le_of_ble_eq_true rfl) (Nat.le_of_ble_eq_true rfl) (dk okd_law_39 4 rfl) (st' := fun o4 => [.int o4.1]) (fun _ => rfl) (fun o4 hb5 => ?_)
  have X := hf.X hb5
  have E := hf.E (c + o4.2.2)
  have tx_ := hf.T (c + o4.2.2) tx_
  have tm_ := hf.T (c + o4.2.2) tm_
  have to_ := hf.T (c + o4.2.2) to_
  refine s_run X ok_law_39 20 6 (pc' := 2529) (vs' := [some (.ref b), some (.ref x), some (.ref m), some (.ref o), some (.int i), some (.int o4.1), none, none]) (st' := [.int (i + 1), .ref b, .ref m]) rfl ?_
  refine s_sld hf (dk okd_law_39 5 rfl) (fun v6 => ?_)
  refine s_run X ok_law_39 26 4 (pc' := 2535) (vs' := [some (.ref b), some (.ref x), some (.ref m), some (.ref o), some (.int i), some (.int o4.1), none, none]) (st' := [.int (i + 2), .ref b, .int v6, .ref m]) rfl ?_
  refine s_sld hf (dk okd_law_39 6 rfl) (fun v7 => ?_)
  refine s_run X ok_law_39 30 7 (pc' := 2545) (vs' := [some (.ref b), some (.ref x), some (.ref m), some (.ref o), some (.int i), some (.int o4.1), none, none]) (st' := [.int (i + 3), .ref b, .long ((Int32.toInt64 v7) <<< ((Int32.toInt64 32) &&& 63)), .int v6, .ref m]) rfl ?_
  refine s_sld hf (dk okd_law_39 7 rfl) (fun v8 => ?_)
  refine s_run X ok_law_39 37 1 (pc' := 2547) (vs' := [some (.ref b), some (.ref x), some (.ref m), some (.ref o), some (.int i), some (.int o4.1), none, none]) (st' := [.long (Int32.toInt64 v8), .long ((Int32.toInt64 v7) <<< ((Int32.toInt64 32) &&& 63)), .int v6, .ref m]) rfl ?_
  refine s_ldc2 X cl_L_270 (dk okd_law_39 8 rfl) ?_
  refine s_run X ok_law_39 38 2 (pc' := 2552) (vs' := [some (.ref b), some (.ref x), some (.ref m), some (.ref o), some (.int i), some (.int o4.1), none, none]) (st' := [.long (((Int32.toInt64 v7) <<< ((Int32.toInt64 32) &&& 63)) ||| ((Int32.toInt64 v8) &&& 4294967295)), .int v6, .ref m]) rfl ?_
  refine s_callV (b := m) (As := [.int v6, .long (((Int32.toInt64 v7) <<< ((Int32.toInt64 32) &&& 63)) ||| ((Int32.toInt64 v8) &&& 4294967295))]) (rest := []) X E mv_L_325 (c_X12_pay o4.2.1 m v6 (((Int32.toInt64 v7) <<< ((Int32.toInt64 32) &&& 63)) ||| ((Int32.toInt64 v8) &&& 4294967295))) rfl (ta1 tm_) rfl (by decide) tm_ rfl rfl (Nat.le_of_ble_eq_true rfl) (Nat.le_of_ble_eq_true rfl) (Nat.le_of_ble_eq_true rfl) (dk okd_law_39 9 rfl) (st' := fun o9 => [.long o9.1]) (fun _ => rfl) (fun o9 => ?_)
  refine s_run X ok_law_39 40 2 (pc' := 2558) (vs' := [some (.ref b), some (.ref x), some (.ref m), some (.ref o), some (.int i), some (.int o4.1), some (.long o9.1), none]) (st' := [.ref m]) rfl ?_
  refine s_callV (b := m) (As := []) (rest := []) X E mv_L_214 (c_X12_thrown o9.2 m) rfl (ta1 tm_) rfl (by decide) tm_ rfl rfl (Nat.le_of_ble_eq_true rfl) (Nat.le_of_ble_eq_true rfl) (Nat.le_of_ble_eq_true rfl) (dk okd_law_39 10 rfl) (st' := fun v10 => [.int v10]) (fun _ => rfl) (fun v10 => ?_)
  refine s_run X ok_law_39 42 1 (pc' := 2563) (vs' := [some (.ref b), some (.ref x), some (.ref m), some (.ref o), some (.int i), some (.int o4.1), some (.long o9.1), none]) (st' := [.int o4.1, .int v10]) rfl ?_
  refine s_icmp_eq (tgt := 2568) X (dk okd_law_39 11 rfl) (by decide) ?_ ?_
  · refine s_run X ok_law_39 44 1 (pc' := 2570) (vs' := [some (.ref b), some (.ref x), some (.ref m), some (.ref o), some (.int i), some (.int o4.1), some (.long o9.1), none]) (st' := [.int o4.1]) rfl ?_
    refine s_jn (κ := Option (Unit)) (fun k11 => Jd (Cn (c + o4.2.2)) 8 Q o9.2 2584 [some (.ref b), some (.ref x), some (.ref m), some (.ref o), some (.int i), none, none, none] [] k11) ?_ (fun k11 h12 => ?_)
    · refine s_run X ok_law_39 50 1 (pc' := 4006) (vs' := [some (.ref b), some (.ref x), some (.ref m), some (.ref o), some (.int i), none, none, none]) (st' := []) rfl ?_
      exact s_less [true, true, true, true, true, false, false, false] rfl (hk o9.2 ((c + o4.2.2)) hb5)
    · refine s_if_ne (tgt := 2584) X (dk okd_law_39 13 rfl) (by decide) ?_ ?_
      · exact s_less [true, true, true, true, true, false, false, false] rfl (h12)
      · refine s_run X ok_law_39 45 2 (pc' := 2575) (vs' := [some (.ref b), some (.ref x), some (.ref m), some (.ref o), some (.int i), some (.int o4.1), some (.long o9.1), none]) (st' := [.int 0, .ref o]) rfl ?_
        refine s_lald X to_ (dk okd_law_39 14 rfl) (fun v13 => ?_)
        refine s_run X ok_law_39 47 2 (pc' := 2579) (vs' := [some (.ref b), some (.ref x), some (.ref m), some (.ref o), some (.int i), some (.int o4.1), some (.long o9.1), none]) (st' := [.int (lg_cmp v13 o9.1)]) rfl ?_
        refine s_lif_eq (tgt := 2584) X (dk okd_law_39 15 rfl) (by decide) ?_ ?_
        · exact s_less [true, true, true, true, true, false, false, false] rfl (h12)
        · refine s_run X ok_law_39 49 1 (pc' := 2583) (vs' := [some (.ref b), some (.ref x), some (.ref m), some (.ref o), some (.int i), some (.int o4.1), some (.long o9.1), none]) (st' := [.int 0]) rfl ?_
          exact s_none
  · refine s_run X ok_law_39 43 1 (pc' := 2567) (vs' := [some (.ref b), some (.ref x), some (.ref m), some (.ref o), some (.int i), some (.int o4.1), some (.long o9.1), none]) (st' := [.int 0]) rfl ?_
    exact s_none
