theorem mh_L_225 : MH RL 225 yL_owner cL_owner 5 [(0, 10, 13, 13)] 4 := ⟨TT_5 (i := 133) rfl rfl, TT_5 (i := 134) rfl rfl, TT_1 (i := 0) rfl rfl, TT_5 (i := 135) rfl rfl, ⟨by decide, by decide, by decide +kernel⟩⟩
theorem mh_L_229 : MH RL 229 yL_area cL_area 4 [(0, 9, 12, 22)] 3 := ⟨TT_5 (i := 142) rfl rfl, TT_5 (i := 143) rfl rfl, TT_1 (i := 0) rfl rfl, TT_5 (i := 144) rfl rfl, ⟨by decide, by decide, by decide +kernel⟩⟩
theorem mh_L_232 : MH RL 232 yL_perimeter cL_perimeter 4 [(0, 9, 12, 22)] 3 := ⟨TT_5 (i := 175) rfl rfl, TT_5 (i := 176) rfl rfl, TT_1 (i := 0) rfl rfl, TT_5 (i := 177) rfl rfl, ⟨by decide, by decide, by decide +kernel⟩⟩
theorem mh_L_235 : MH RL 235 yL_border cL_border 5 [(0, 10, 13, 22)] 4 := ⟨TT_5 (i := 190) rfl rfl, TT_5 (i := 191) rfl rfl, TT_1 (i := 0) rfl rfl, TT_5 (i := 192) rfl rfl, ⟨by decide, by decide, by decide +kernel⟩⟩
theorem mh_L_238 : MH RL 238 yL_isConnected cL_isConnected 4 [(0, 16, 19, 22)] 3 := ⟨TT_5 (i := 201) rfl rfl, TT_5 (i := 202) rfl rfl, TT_1 (i := 0) rfl rfl, TT_5 (i := 203) rfl rfl, ⟨by decide, by decide, by decide +kernel⟩⟩
theorem mh_L_241 : MH RL 241 yL_distance cL_distance 6 [(0, 12, 15, 22), (0, 12, 19, 13)] 5 := ⟨TT_5 (i := 217) rfl rfl, TT_5 (i := 218) rfl rfl, TT_1 (i := 0) rfl rfl, TT_5 (i := 219) rfl rfl, ⟨by decide, by decide, by decide +kernel⟩⟩
theorem mv_L_217 : MV RL 217 yX11_count cX11_count 2 (some .int) 1 := ⟨TT_4 (i := 27) rfl rfl, TT_4 (i := 28) rfl rfl, TT_4 (i := 29) rfl rfl, TT_1 (i := 1) rfl rfl, TT_4 (i := 30) rfl rfl, ⟨by decide, by decide, by decide +kernel⟩⟩
theorem mv_L_220 : MV RL 220 yX12_count cX12_count 2 (some .int) 1 := ⟨TT_8 (i := 71) rfl rfl, TT_8 (i := 72) rfl rfl, TT_8 (i := 73) rfl rfl, TT_1 (i := 13) rfl rfl, TT_8 (i := 74) rfl rfl, ⟨by decide, by decide, by decide +kernel⟩⟩
theorem mv_L_221 : MV RL 221 yX11_month cX11_month 1 (some .int) 0 := ⟨TT_4 (i := 31) rfl rfl, TT_4 (i := 32) rfl rfl, TT_4 (i := 33) rfl rfl, TT_1 (i := 1) rfl rfl, TT_4 (i := 34) rfl rfl, ⟨by decide, by decide, by decide +kernel⟩⟩
theorem mv_L_224 : MV RL 224 yX12_month cX12_month 1 (some .int) 0 := ⟨TT_8 (i := 75) rfl rfl, TT_8 (i := 76) rfl rfl, TT_8 (i := 77) rfl rfl, TT_1 (i := 13) rfl rfl, TT_8 (i := 78) rfl rfl, ⟨by decide, by decide, by decide +kernel⟩⟩
theorem mv_L_228 : MV RL 228 yX12_owner cX12_owner 3 (some .int) 2 := ⟨TT_8 (i := 79) rfl rfl, TT_8 (i := 80) rfl rfl, TT_8 (i := 81) rfl rfl, TT_1 (i := 13) rfl rfl, TT_8 (i := 82) rfl rfl, ⟨by decide, by decide, by decide +kernel⟩⟩
theorem mv_L_231 : MV RL 231 yX12_area cX12_area 2 (some .int) 1 := ⟨TT_8 (i := 95) rfl rfl, TT_8 (i := 96) rfl rfl, TT_8 (i := 97) rfl rfl, TT_1 (i := 13) rfl rfl, TT_8 (i := 98) rfl rfl, ⟨by decide, by decide, by decide +kernel⟩⟩
theorem mv_L_234 : MV RL 234 yX12_perimeter cX12_perimeter 4 (some .int) 1 := ⟨TT_8 (i := 107) rfl rfl, TT_8 (i := 108) rfl rfl, TT_8 (i := 109) rfl rfl, TT_1 (i := 13) rfl rfl, TT_8 (i := 110) rfl rfl, ⟨by decide, by decide, by decide +kernel⟩⟩
theorem mv_L_237 : MV RL 237 yX12_border cX12_border 5 (some .int) 2 := ⟨TT_8 (i := 119) rfl rfl, TT_8 (i := 120) rfl rfl, TT_8 (i := 121) rfl rfl, TT_1 (i := 13) rfl rfl, TT_8 (i := 122) rfl rfl, ⟨by decide, by decide, by decide +kernel⟩⟩
theorem mv_L_240 : MV RL 240 yX12_isConnected cX12_isConnected 2 (some .boolean) 1 := ⟨TT_8 (i := 123) rfl rfl, TT_8 (i := 124) rfl rfl, TT_8 (i := 125) rfl rfl, TT_1 (i := 13) rfl rfl, TT_8 (i := 126) rfl rfl, ⟨by decide, by decide, by decide +kernel⟩⟩
theorem mv_L_244 : MV RL 244 yX12_distance cX12_distance 6 (some .int) 3 := ⟨TT_8 (i := 135) rfl rfl, TT_8 (i := 136) rfl rfl, TT_8 (i := 137) rfl rfl, TT_1 (i := 13) rfl rfl, TT_8 (i := 138) rfl rfl, ⟨by decide, by decide, by decide +kernel⟩⟩
def tab_law_8 : List En := [(527, 8, 1, 0), (528, 8, 0, 0), (529, 5, 4, 0), (531, 0, 0, 1), (532, 17, 0, 0), (537, 8, 2, 0), (538, 8, 0, 0), (539, 5, 4, 0), (541, 0, 0, 1), (542, 17, 0, 0), (550, 0, 0, 0)]
theorem ok_law_8 : tab_law_8.all (okE code) = true := by decide +kernel
def ed_law_8 : List (Nat × Instr × Nat) := [(533, .iaload, 1), (534, .invokevirtual 217, 3), (543, .iaload, 1), (544, .invokevirtual 220, 3), (547, .if_icmp .eq 3459, 3), (551, .ireturn, 1)]
theorem okd_law_8 : ed_law_8.all (okD code) = true := by decide +kernel
def f_law_8 (Ls : Nat) (xs : Nat → Int32) (S : St) (x m o : Nat) (i : Int32) (c : Nat) (kont : St → Nat → Option Unit) : Option Unit := sx Ls xs (i + 1) fun (v1 : Int32) => cl (f_X11_count S x v1) fun (v2 : Int32) => sx Ls xs (i + 1) fun (v3 : Int32) => cl (f_X12_count S m v3) fun (o4 : Int32 × St) => if v2 = o4.1 then (kont o4.2 (c)) else (none)
set_option maxHeartbeats 4000000 in
set_option maxRecDepth 100000 in
theorem c_law_8 {Cn : Nat → CT} {b Ls : Nat} {xs : Nat → Int32} {Q : Unit → State → Prop} {x m o : Nat} {i : Int32} (hf : Fam Cn b Ls xs) (tx0 : tT (Cn 0) x 10) (tm0 : tT (Cn 0) m 11) (to0 : tT (Cn 0) o 14) (S : St) (c : Nat) (hc : c ≤ 512) (kont : St → Nat → Option Unit) (hk : ∀ (S : St) (c : Nat), c ≤ 512 → Jd (Cn c) 8 Q S 4006 [some (.ref b), some (.ref x), some (.ref m), some (.ref o), some (.int i), none, none, none] [] (kont S c)) : Jd (Cn c) 8 Q S 527 [some (.ref b), some (.ref x), some (.ref m), some (.ref o), some (.int i), none, none, none] [] (f_law_8 Ls xs S x m o i c kont) := by
  have X := hf.X hc
  have E := hf.E c
  have tx_ := hf.T c tx0
  have tm_ := hf.T c tm0
  have to_ := hf.T c to0
  unfold f_law_8
  refine s_run X ok_law_8 0 5 (pc' := 533) (vs' := [some (.ref b), some (.ref x), some (.ref m), some (.ref o), some (.int i), none, none, none]) (st' := [.int (i + 1), .ref b, .ref x]) rfl ?_
  refine s_sld hf (dk okd_law_8 0 rfl) (fun v1 => ?_)
  refine s_callV (b := x) (As := [.int v1]) (rest := []) X E mv_L_217 (c_X11_count S x v1) rfl (ta1 tx_) rfl (by decide) tx_ rfl rfl (Nat.le_of_ble_eq_true rfl) (Nat.le_of_ble_eq_true rfl) (Nat.le_of_ble_eq_true rfl) (dk okd_law_8 1 rfl) (st' := fun v2 => [.int v2]) (fun _ => rfl) (fun v2 => ?_)
  refine s_run X ok_law_8 5 5 (pc' := 543) (vs' := [some (.ref b), some (.ref x), some (.ref m), some (.ref o), some (.int i), none, none, none]) (st' := [.int (i + 1), .ref b, .ref m, .int v2]) rfl ?_
  refine s_sld hf (dk okd_law_8 2 rfl) (fun v3 => ?_)
  refine s_callV (b := m) (As := [.int v3]) (rest := [.int v2]) X E mv_L_220 (c_X12_count S m v3) rfl (ta1 tm_) rfl (by decide) tm_ rfl rfl (Nat.le_of_ble_eq_true rfl) (Nat.le_of_ble_eq_true rfl) (Nat.le_of_ble_eq_true rfl) (dk okd_law_8 3 rfl) (st' := fun o4 => [.int o4.1, .int v2]) (fun _ => rfl) (fun o4 => ?_)
  refine s_icmp_eq (tgt := 4006) X (dk okd_law_8 4 rfl) (by decide) ?_ ?_
  · exact s_less [true, true, true, true, true, false, false, false] rfl (hk o4.2 (c) hc)
  · refine s_run X ok_law_8 10 1 (pc' := 551) (vs' := [some (.ref b), some (.ref x), some (.ref m), some (.ref o), some (.int i), none, none, none]) (st' := [.int 0]) rfl ?_
    exact s_none
def tab_law_9 : List En := [(552, 8, 1, 0), (556, 8, 2, 0), (563, 0, 0, 0)]
theorem ok_law_9 : tab_law_9.all (okE code) = true := by decide +kernel
def ed_law_9 : List (Nat × Instr × Nat) := [(553, .invokevirtual 221, 3), (557, .invokevirtual 224, 3), (560, .if_icmp .eq 3446, 3), (564, .ireturn, 1)]
theorem okd_law_9 : ed_law_9.all (okD code) = true := by decide +kernel
def f_law_9 (Ls : Nat) (xs : Nat → Int32) (S : St) (x m o : Nat) (i : Int32) (c : Nat) (kont : St → Nat → Option Unit) : Option Unit := cl (f_X11_month S x) fun (v1 : Int32) => cl (f_X12_month S m) fun (o2 : Int32 × St) => if v1 = o2.1 then (kont o2.2 (c)) else (none)
set_option maxHeartbeats 4000000 in
set_option maxRecDepth 100000 in
theorem c_law_9 {Cn : Nat → CT} {b Ls : Nat} {xs : Nat → Int32} {Q : Unit → State → Prop} {x m o : Nat} {i : Int32} (hf : Fam Cn b Ls xs) (tx0 : tT (Cn 0) x 10) (tm0 : tT (Cn 0) m 11) (to0 : tT (Cn 0) o 14) (S : St) (c : Nat) (hc : c ≤ 512) (kont : St → Nat → Option Unit) (hk : ∀ (S : St) (c : Nat), c ≤ 512 → Jd (Cn c) 8 Q S 4006 [some (.ref b), some (.ref x), some (.ref m), some (.ref o), some (.int i), none, none, none] [] (kont S c)) : Jd (Cn c) 8 Q S 552 [some (.ref b), some (.ref x), some (.ref m), some (.ref o), some (.int i), none, none, none] [] (f_law_9 Ls xs S x m o i c kont) := by
  have X := hf.X hc
  have E := hf.E c
  have tx_ := hf.T c tx0
  have tm_ := hf.T c tm0
  have to_ := hf.T c to0
  unfold f_law_9
  refine s_run X ok_law_9 0 1 (pc' := 553) (vs' := [some (.ref b), some (.ref x), some (.ref m), some (.ref o), some (.int i), none, none, none]) (st' := [.ref x]) rfl ?_
  refine s_callV (b := x) (As := []) (rest := []) X E mv_L_221 (c_X11_month S x) rfl (ta1 tx_) rfl (by decide) tx_ rfl rfl (Nat.le_of_ble_eq_true rfl) (Nat.le_of_ble_eq_true rfl) (Nat.le_of_ble_eq_true rfl) (dk okd_law_9 0 rfl) (st' := fun v1 => [.int v1]) (fun _ => rfl) (fun v1 => ?_)
  refine s_run X ok_law_9 1 1 (pc' := 557) (vs' := [some (.ref b), some (.ref x), some (.ref m), some (.ref o), some (.int i), none, none, none]) (st' := [.ref m, .int v1]) rfl ?_
  refine s_callV (b := m) (As := []) (rest := [.int v1]) X E mv_L_224 (c_X12_month S m) rfl (ta1 tm_) rfl (by decide) tm_ rfl rfl (Nat.le_of_ble_eq_true rfl) (Nat.le_of_ble_eq_true rfl) (Nat.le_of_ble_eq_true rfl) (dk okd_law_9 1 rfl) (st' := fun o2 => [.int o2.1, .int v1]) (fun _ => rfl) (fun o2 => ?_)
  refine s_icmp_eq (tgt := 4006) X (dk okd_law_9 2 rfl) (by decide) ?_ ?_
  · exact s_less [true, true, true, true, true, false, false, false] rfl (hk o2.2 (c) hc)
  · refine s_run X ok_law_9 2 1 (pc' := 564) (vs' := [some (.ref b), some (.ref x), some (.ref m), some (.ref o), some (.int i), none, none, none]) (st' := [.int 0]) rfl ?_
    exact s_none
def tab_law_10 : List En := [(565, 8, 1, 0), (566, 8, 0, 0), (567, 5, 4, 0), (569, 0, 0, 1), (570, 17, 0, 0), (572, 8, 0, 0), (573, 5, 4, 0), (575, 0, 0, 2), (576, 17, 0, 0), (578, 8, 3, 0), (582, 11, 5, 0), (584, 8, 2, 0), (585, 8, 0, 0), (586, 5, 4, 0), (588, 0, 0, 1), (589, 17, 0, 0), (591, 8, 0, 0), (592, 5, 4, 0), (594, 0, 0, 2), (595, 17, 0, 0), (600, 11, 6, 0), (602, 8, 2, 0), (606, 5, 5, 0), (611, 0, 0, 0), (613, 5, 5, 0), (618, 8, 3, 0), (619, 0, 0, 0), (621, 5, 6, 0), (623, 31, 0, 0), (624, 40, 0, 0), (628, 0, 0, 0), (630, 41, 4006, 0)]
theorem ok_law_10 : tab_law_10.all (okE code) = true := by decide +kernel
def ed_law_10 : List (Nat × Instr × Nat) := [(571, .iaload, 1), (577, .iaload, 1), (579, .invokestatic 225, 3), (590, .iaload, 1), (596, .iaload, 1), (597, .invokevirtual 228, 3), (603, .invokevirtual 214, 3), (608, .if_icmp .eq 5, 3), (612, .ireturn, 1), (615, .ifCond .ne 15, 3), (620, .laload, 1), (625, .ifCond .eq 5, 3), (629, .ireturn, 1)]
theorem okd_law_10 : ed_law_10.all (okD code) = true := by decide +kernel
def f_law_10 (Ls : Nat) (xs : Nat → Int32) (S : St) (x m o : Nat) (i : Int32) (c : Nat) (kont : St → Nat → Option Unit) : Option Unit := sx Ls xs (i + 1) fun (v1 : Int32) => sx Ls xs (i + 2) fun (v2 : Int32) => cl (f_L_owner S x v1 v2 o) fun (o3 : Int32 × St × Nat) => bud (c + o3.2.2) <| sx Ls xs (i + 1) fun (v5 : Int32) => sx Ls xs (i + 2) fun (v6 : Int32) => cl (f_X12_owner o3.2.1 m v5 v6) fun (o7 : Int32 × St) => cl (f_X12_thrown o7.2 m) fun (v8 : Int32) => if v8 = o3.1 then (jn (κ := Option (Unit)) (kont o7.2 ((c + o3.2.2))) fun k9 => if o3.1 = 0 then (ldJ o7.2 o 0 fun (v11 : Int64) => if v11 = (Int32.toInt64 o7.1) then (k9) else (none)) else (k9)) else (none)
set_option maxHeartbeats 4000000 in
set_option maxRecDepth 100000 in
theorem c_law_10 {Cn : Nat → CT} {b Ls : Nat} {xs : Nat → Int32} {Q : Unit → State → Prop} {x m o : Nat} {i : Int32} (hf : Fam Cn b Ls xs) (tx0 : tT (Cn 0) x 10) (tm0 : tT (Cn 0) m 11) (to0 : tT (Cn 0) o 14) (S : St) (c : Nat) (hc : c ≤ 512) (kont : St → Nat → Option Unit) (hk : ∀ (S : St) (c : Nat), c ≤ 512 → Jd (Cn c) 8 Q S 4006 [some (.ref b), some (.ref x), some (.ref m), some (.ref o), some (.int i), none, none, none] [] (kont S c)) : Jd (Cn c) 8 Q S 565 [some (.ref b), some (.ref x), some (.ref m), some (.ref o), some (.int i), none, none, none] [] (f_law_10 Ls xs S x m o i c kont) := by
  have X := hf.X hc
  have E := hf.E c
  have tx_ := hf.T c tx0
  have tm_ := hf.T c tm0
  have to_ := hf.T c to0
  unfold f_law_10
  refine s_run X ok_law_10 0 5 (pc' := 571) (vs' := [some (.ref b), some (.ref x), some (.ref m), some (.ref o), some (.int i), none, none, none]) (st' := [.int (i + 1), .ref b, .ref x]) rfl ?_
  refine s_sld hf (dk okd_law_10 0 rfl) (fun v1 => ?_)
  refine s_run X ok_law_10 5 4 (pc' := 577) (vs' := [some (.ref b), some (.ref x), some (.ref m), some (.ref o), some (.int i), none, none, none]) (st' := [.int (i + 2), .ref b, .int v1, .ref x]) rfl ?_
  refine s_sld hf (dk okd_law_10 1 rfl) (fun v2 => ?_)
  refine s_run X ok_law_10 9 1 (pc' := 579) (vs' := [some (.ref b), some (.ref x), some (.ref m), some (.ref o), some (.int i), none, none, none]) (st' := [.ref o, .int v2, .int v1, .ref x]) rfl ?_
  refine s_callH (c0 := c) (As := [.ref x, .int v1, .int v2, .ref o]) (rest := []) hf mh_L_225 (c_L_owner S x v1 v2 o) (ta2 tx_ to_) rfl rfl (Nat.le_of_ble_eq_true rfl) (Nat.le_of_ble_eq_true rfl) (Nat.le_of_ble_eq_true rfl) (dk okd_law_10 2 rfl) (st' := fun o3 => [.int o3.1]) (fun _ => rfl) (fun o3 hb4 => ?_)
  have X := hf.X hb4
  have E := hf.E (c + o3.2.2)
  have tx_ := hf.T (c + o3.2.2) tx_
  have tm_ := hf.T (c + o3.2.2) tm_
  have to_ := hf.T (c + o3.2.2) to_
  refine s_run X ok_law_10 10 6 (pc' := 590) (vs' := [some (.ref b), some (.ref x), some (.ref m), some (.ref o), some (.int i), some (.int o3.1), none, none]) (st' := [.int (i + 1), .ref b, .ref m]) rfl ?_
  refine s_sld hf (dk okd_law_10 3 rfl) (fun v5 => ?_)
  refine s_run X ok_law_10 16 4 (pc' := 596) (vs' := [some (.ref b), some (.ref x), some (.ref m), some (.ref o), some (.int i), some (.int o3.1), none, none]) (st' := [.int (i + 2), .ref b, .int v5, .ref m]) rfl ?_
  refine s_sld hf (dk okd_law_10 4 rfl) (fun v6 => ?_)
  refine s_callV (b := m) (As := [.int v5, .int v6]) (rest := []) X E mv_L_228 (c_X12_owner o3.2.1 m v5 v6) rfl (ta1 tm_) rfl (by decide) tm_ rfl rfl (Nat.le_of_ble_eq_true rfl) (Nat.le_of_ble_eq_true rfl) (Nat.le_of_ble_eq_true rfl) (dk okd_law_10 5 rfl) (st' := fun o7 => [.int o7.1]) (fun _ => rfl) (fun o7 => ?_)
  refine s_run X ok_law_10 20 2 (pc' := 603) (vs' := [some (.ref b), some (.ref x), some (.ref m), some (.ref o), some (.int i), some (.int o3.1), some (.int o7.1), none]) (st' := [.ref m]) rfl ?_
  refine s_callV (b := m) (As := []) (rest := []) X E mv_L_214 (c_X12_thrown o7.2 m) rfl (ta1 tm_) rfl (by decide) tm_ rfl rfl (Nat.le_of_ble_eq_true rfl) (Nat.le_of_ble_eq_true rfl) (Nat.le_of_ble_eq_true rfl) (dk okd_law_10 6 rfl) (st' := fun v8 => [.int v8]) (fun _ => rfl) (fun v8 => ?_)
  refine s_run X ok_law_10 22 1 (pc' := 608) (vs' := [some (.ref b), some (.ref x), some (.ref m), some (.ref o), some (.int i), some (.int o3.1), some (.int o7.1), none]) (st' := [.int o3.1, .int v8]) rfl ?_
  refine s_icmp_eq (tgt := 613) X (dk okd_law_10 7 rfl) (by decide) ?_ ?_
  · refine s_run X ok_law_10 24 1 (pc' := 615) (vs' := [some (.ref b), some (.ref x), some (.ref m), some (.ref o), some (.int i), some (.int o3.1), some (.int o7.1), none]) (st' := [.int o3.1]) rfl ?_
    refine s_jn (κ := Option (Unit)) (fun k9 => Jd (Cn (c + o3.2.2)) 8 Q o7.2 630 [some (.ref b), some (.ref x), some (.ref m), some (.ref o), some (.int i), none, none, none] [] k9) ?_ (fun k9 h10 => ?_)
    · refine s_run X ok_law_10 31 1 (pc' := 4006) (vs' := [some (.ref b), some (.ref x), some (.ref m), some (.ref o), some (.int i), none, none, none]) (st' := []) rfl ?_
      exact s_less [true, true, true, true, true, false, false, false] rfl (hk o7.2 ((c + o3.2.2)) hb4)
    · refine s_if_ne (tgt := 630) X (dk okd_law_10 9 rfl) (by decide) ?_ ?_
      · exact s_less [true, true, true, true, true, false, false, false] rfl (h10)
      · refine s_run X ok_law_10 25 2 (pc' := 620) (vs' := [some (.ref b), some (.ref x), some (.ref m), some (.ref o), some (.int i), some (.int o3.1), some (.int o7.1), none]) (st' := [.int 0, .ref o]) rfl ?_
        refine s_lald X to_ (dk okd_law_10 10 rfl) (fun v11 => ?_)
        refine s_run X ok_law_10 27 3 (pc' := 625) (vs' := [some (.ref b), some (.ref x), some (.ref m), some (.ref o), some (.int i), some (.int o3.1), some (.int o7.1), none]) (st' := [.int (lg_cmp v11 (Int32.toInt64 o7.1))]) rfl ?_
        refine s_lif_eq (tgt := 630) X (dk okd_law_10 11 rfl) (by decide) ?_ ?_
        · exact s_less [true, true, true, true, true, false, false, false] rfl (h10)
        · refine s_run X ok_law_10 30 1 (pc' := 629) (vs' := [some (.ref b), some (.ref x), some (.ref m), some (.ref o), some (.int i), some (.int o3.1), some (.int o7.1), none]) (st' := [.int 0]) rfl ?_
          exact s_none
  · refine s_run X ok_law_10 23 1 (pc' := 612) (vs' := [some (.ref b), some (.ref x), some (.ref m), some (.ref o), some (.int i), some (.int o3.1), some (.int o7.1), none]) (st' := [.int 0]) rfl ?_
    exact s_none
def tab_law_11 : List En := [(633, 8, 1, 0), (634, 8, 0, 0), (635, 5, 4, 0), (637, 0, 0, 1), (638, 17, 0, 0), (640, 8, 3, 0), (644, 11, 5, 0), (646, 8, 2, 0), (647, 8, 0, 0), (648, 5, 4, 0), (650, 0, 0, 1), (651, 17, 0, 0), (656, 11, 6, 0), (658, 8, 2, 0), (662, 5, 5, 0), (667, 0, 0, 0), (669, 5, 5, 0), (674, 8, 3, 0), (675, 0, 0, 0), (677, 5, 6, 0), (679, 31, 0, 0), (680, 40, 0, 0), (684, 0, 0, 0), (686, 41, 4006, 0)]
theorem ok_law_11 : tab_law_11.all (okE code) = true := by decide +kernel
def ed_law_11 : List (Nat × Instr × Nat) := [(639, .iaload, 1), (641, .invokestatic 229, 3), (652, .iaload, 1), (653, .invokevirtual 231, 3), (659, .invokevirtual 214, 3), (664, .if_icmp .eq 5, 3), (668, .ireturn, 1), (671, .ifCond .ne 15, 3), (676, .laload, 1), (681, .ifCond .eq 5, 3), (685, .ireturn, 1)]
theorem okd_law_11 : ed_law_11.all (okD code) = true := by decide +kernel
def f_law_11 (Ls : Nat) (xs : Nat → Int32) (S : St) (x m o : Nat) (i : Int32) (c : Nat) (kont : St → Nat → Option Unit) : Option Unit := sx Ls xs (i + 1) fun (v1 : Int32) => cl (f_L_area S x v1 o) fun (o2 : Int32 × St × Nat) => bud (c + o2.2.2) <| sx Ls xs (i + 1) fun (v4 : Int32) => cl (f_X12_area o2.2.1 m v4) fun (o5 : Int32 × St) => cl (f_X12_thrown o5.2 m) fun (v6 : Int32) => if v6 = o2.1 then (jn (κ := Option (Unit)) (kont o5.2 ((c + o2.2.2))) fun k7 => if o2.1 = 0 then (ldJ o5.2 o 0 fun (v9 : Int64) => if v9 = (Int32.toInt64 o5.1) then (k7) else (none)) else (k7)) else (none)
set_option maxHeartbeats 4000000 in
set_option maxRecDepth 100000 in
theorem c_law_11 {Cn : Nat → CT} {b Ls : Nat} {xs : Nat → Int32} {Q : Unit → State → Prop} {x m o : Nat} {i : Int32} (hf : Fam Cn b Ls xs) (tx0 : tT (Cn 0) x 10) (tm0 : tT (Cn 0) m 11) (to0 : tT (Cn 0) o 14) (S : St) (c : Nat) (hc : c ≤ 512) (kont : St → Nat → Option Unit) (hk : ∀ (S : St) (c : Nat), c ≤ 512 → Jd (Cn c) 8 Q S 4006 [some (.ref b), some (.ref x), some (.ref m), some (.ref o), some (.int i), none, none, none] [] (kont S c)) : Jd (Cn c) 8 Q S 633 [some (.ref b), some (.ref x), some (.ref m), some (.ref o), some (.int i), none, none, none] [] (f_law_11 Ls xs S x m o i c kont) := by
  have X := hf.X hc
  have E := hf.E c
  have tx_ := hf.T c tx0
  have tm_ := hf.T c tm0
  have to_ := hf.T c to0
  unfold f_law_11
  refine s_run X ok_law_11 0 5 (pc' := 639) (vs' := [some (.ref b), some (.ref x), some (.ref m), some (.ref o), some (.int i), none, none, none]) (st' := [.int (i + 1), .ref b, .ref x]) rfl ?_
  refine s_sld hf (dk okd_law_11 0 rfl) (fun v1 => ?_)
  refine s_run X ok_law_11 5 1 (pc' := 641) (vs' := [some (.ref b), some (.ref x), some (.ref m), some (.ref o), some (.int i), none, none, none]) (st' := [.ref o, .int v1, .ref x]) rfl ?_
  refine s_callH (c0 := c) (As := [.ref x, .int v1, .ref o]) (rest := []) hf mh_L_229 (c_L_area S x v1 o) (ta2 tx_ to_) rfl rfl (Nat.le_of_ble_eq_true rfl) (Nat.le_of_ble_eq_true rfl) (Nat.le_of_ble_eq_true rfl) (dk okd_law_11 1 rfl) (st' := fun o2 => [.int o2.1]) (fun _ => rfl) (fun o2 hb3 => ?_)
  have X := hf.X hb3
  have E := hf.E (c + o2.2.2)
  have tx_ := hf.T (c + o2.2.2) tx_
  have tm_ := hf.T (c + o2.2.2) tm_
  have to_ := hf.T (c + o2.2.2) to_
  refine s_run X ok_law_11 6 6 (pc' := 652) (vs' := [some (.ref b), some (.ref x), some (.ref m), some (.ref o), some (.int i), some (.int o2.1), none, none]) (st' := [.int (i + 1), .ref b, .ref m]) rfl ?_
  refine s_sld hf (dk okd_law_11 2 rfl) (fun v4 => ?_)
  refine s_callV (b := m) (As := [.int v4]) (rest := []) X E mv_L_231 (c_X12_area o2.2.1 m v4) rfl (ta1 tm_) rfl (by decide) tm_ rfl rfl (Nat.le_of_ble_eq_true rfl) (Nat.le_of_ble_eq_true rfl) (Nat.le_of_ble_eq_true rfl) (dk okd_law_11 3 rfl) (st' := fun o5 => [.int o5.1]) (fun _ => rfl) (fun o5 => ?_)
  refine s_run X ok_law_11 12 2 (pc' := 659) (vs' := [some (.ref b), some (.ref x), some (.ref m), some (.ref o), some (.int i), some (.int o2.1), some (.int o5.1), none]) (st' := [.ref m]) rfl ?_
  refine s_callV (b := m) (As := []) (rest := []) X E mv_L_214 (c_X12_thrown o5.2 m) rfl (ta1 tm_) rfl (by decide) tm_ rfl rfl (Nat.le_of_ble_eq_true rfl) (Nat.le_of_ble_eq_true rfl) (Nat.le_of_ble_eq_true rfl) (dk okd_law_11 4 rfl) (st' := fun v6 => [.int v6]) (fun _ => rfl) (fun v6 => ?_)
  refine s_run X ok_law_11 14 1 (pc' := 664) (vs' := [some (.ref b), some (.ref x), some (.ref m), some (.ref o), some (.int i), some (.int o2.1), some (.int o5.1), none]) (st' := [.int o2.1, .int v6]) rfl ?_
  refine s_icmp_eq (tgt := 669) X (dk okd_law_11 5 rfl) (by decide) ?_ ?_
  · refine s_run X ok_law_11 16 1 (pc' := 671) (vs' := [some (.ref b), some (.ref x), some (.ref m), some (.ref o), some (.int i), some (.int o2.1), some (.int o5.1), none]) (st' := [.int o2.1]) rfl ?_
    refine s_jn (κ := Option (Unit)) (fun k7 => Jd (Cn (c + o2.2.2)) 8 Q o5.2 686 [some (.ref b), some (.ref x), some (.ref m), some (.ref o), some (.int i), none, none, none] [] k7) ?_ (fun k7 h8 => ?_)
    · refine s_run X ok_law_11 23 1 (pc' := 4006) (vs' := [some (.ref b), some (.ref x), some (.ref m), some (.ref o), some (.int i), none, none, none]) (st' := []) rfl ?_
      exact s_less [true, true, true, true, true, false, false, false] rfl (hk o5.2 ((c + o2.2.2)) hb3)
    · refine s_if_ne (tgt := 686) X (dk okd_law_11 7 rfl) (by decide) ?_ ?_
      · exact s_less [true, true, true, true, true, false, false, false] rfl (h8)
      · refine s_run X ok_law_11 17 2 (pc' := 676) (vs' := [some (.ref b), some (.ref x), some (.ref m), some (.ref o), some (.int i), some (.int o2.1), some (.int o5.1), none]) (st' := [.int 0, .ref o]) rfl ?_
        refine s_lald X to_ (dk okd_law_11 8 rfl) (fun v9 => ?_)
        refine s_run X ok_law_11 19 3 (pc' := 681) (vs' := [some (.ref b), some (.ref x), some (.ref m), some (.ref o), some (.int i), some (.int o2.1), some (.int o5.1), none]) (st' := [.int (lg_cmp v9 (Int32.toInt64 o5.1))]) rfl ?_
        refine s_lif_eq (tgt := 686) X (dk okd_law_11 9 rfl) (by decide) ?_ ?_
        · exact s_less [true, true, true, true, true, false, false, false] rfl (h8)
        · refine s_run X ok_law_11 22 1 (pc' := 685) (vs' := [some (.ref b), some (.ref x), some (.ref m), some (.ref o), some (.int i), some (.int o2.1), some (.int o5.1), none]) (st' := [.int 0]) rfl ?_
          exact s_none
  · refine s_run X ok_law_11 15 1 (pc' := 668) (vs' := [some (.ref b), some (.ref x), some (.ref m), some (.ref o), some (.int i), some (.int o2.1), some (.int o5.1), none]) (st' := [.int 0]) rfl ?_
    exact s_none
def tab_law_12 : List En := [(689, 8, 1, 0), (690, 8, 0, 0), (691, 5, 4, 0), (693, 0, 0, 1), (694, 17, 0, 0), (696, 8, 3, 0), (700, 11, 5, 0), (702, 8, 2, 0), (703, 8, 0, 0), (704, 5, 4, 0), (706, 0, 0, 1), (707, 17, 0, 0), (712, 11, 6, 0), (714, 8, 2, 0), (718, 5, 5, 0), (723, 0, 0, 0), (725, 5, 5, 0), (730, 8, 3, 0), (731, 0, 0, 0), (733, 5, 6, 0), (735, 31, 0, 0), (736, 40, 0, 0), (740, 0, 0, 0), (742, 41, 4006, 0)]
theorem ok_law_12 : tab_law_12.all (okE code) = true := by decide +kernel
def ed_law_12 : List (Nat × Instr × Nat) := [(695, .iaload, 1), (697, .invokestatic 232, 3), (708, .iaload, 1), (709, .invokevirtual 234, 3), (715, .invokevirtual 214, 3), (720, .if_icmp .eq 5, 3), (724, .ireturn, 1), (727, .ifCond .ne 15, 3), (732, .laload, 1), (737, .ifCond .eq 5, 3), (741, .ireturn, 1)]
theorem okd_law_12 : ed_law_12.all (okD code) = true := by decide +kernel
def f_law_12 (Ls : Nat) (xs : Nat → Int32) (S : St) (x m o : Nat) (i : Int32) (c : Nat) (kont : St → Nat → Option Unit) : Option Unit := sx Ls xs (i + 1) fun (v1 : Int32) => cl (f_L_perimeter S x v1 o) fun (o2 : Int32 × St × Nat) => bud (c + o2.2.2) <| sx Ls xs (i + 1) fun (v4 : Int32) => cl (f_X12_perimeter o2.2.1 m v4) fun (o5 : Int32 × St) => cl (f_X12_thrown o5.2 m) fun (v6 : Int32) => if v6 = o2.1 then (jn (κ := Option (Unit)) (kont o5.2 ((c + o2.2.2))) fun k7 => if o2.1 = 0 then (ldJ o5.2 o 0 fun (v9 : Int64) => if v9 = (Int32.toInt64 o5.1) then (k7) else (none)) else (k7)) else (none)
set_option maxHeartbeats 4000000 in
set_option maxRecDepth 100000 in
theorem c_law_12 {Cn : Nat → CT} {b Ls : Nat} {xs : Nat → Int32} {Q : Unit → State → Prop} {x m o : Nat} {i : Int32} (hf : Fam Cn b Ls xs) (tx0 : tT (Cn 0) x 10) (tm0 : tT (Cn 0) m 11) (to0 : tT (Cn 0) o 14) (S : St) (c : Nat) (hc : c ≤ 512) (kont : St → Nat → Option Unit) (hk : ∀ (S : St) (c : Nat), c ≤ 512 → Jd (Cn c) 8 Q S 4006 [some (.ref b), some (.ref x), some (.ref m), some (.ref o), some (.int i), none, none, none] [] (kont S c)) : Jd (Cn c) 8 Q S 689 [some (.ref b), some (.ref x), some (.ref m), some (.ref o), some (.int i), none, none, none] [] (f_law_12 Ls xs S x m o i c kont) := by
  have X := hf.X hc
  have E := hf.E c
  have tx_ := hf.T c tx0
  have tm_ := hf.T c tm0
  have to_ := hf.T c to0
  unfold f_law_12
  refine s_run X ok_law_12 0 5 (pc' := 695) (vs' := [some (.ref b), some (.ref x), some (.ref m), some (.ref o), some (.int i), none, none, none]) (st' := [.int (i + 1), .ref b, .ref x]) rfl ?_
  refine s_sld hf (dk okd_law_12 0 rfl) (fun v1 => ?_)
  refine s_run X ok_law_12 5 1 (pc' := 697) (vs' := [some (.ref b), some (.ref x), some (.ref m), some (.ref o), some (.int i), none, none, none]) (st' := [.ref o, .int v1, .ref x]) rfl ?_
  refine s_callH (c0 := c) (As := [.ref x, .int v1, .ref o]) (rest := []) hf mh_L_232 (c_L_perimeter S x v1 o) (ta2 tx_ to_) rfl rfl (Nat.le_of_ble_eq_true rfl) (Nat.le_of_ble_eq_true rfl) (Nat.le_of_ble_eq_true rfl) (dk okd_law_12 1 rfl) (st' := fun o2 => [.int o2.1]) (fun _ => rfl) (fun o2 hb3 => ?_)
  have X := hf.X hb3
  have E := hf.E (c + o2.2.2)
  have tx_ := hf.T (c + o2.2.2) tx_
  have tm_ := hf.T (c + o2.2.2) tm_
  have to_ := hf.T (c + o2.2.2) to_
  refine s_run X ok_law_12 6 6 (pc' := 708) (vs' := [some (.ref b), some (.ref x), some (.ref m), some (.ref o), some (.int i), some (.int o2.1), none, none]) (st' := [.int (i + 1), .ref b, .ref m]) rfl ?_
  refine s_sld hf (dk okd_law_12 2 rfl) (fun v4 => ?_)
  refine s_callV (b := m) (As := [.int v4]) (rest := []) X E mv_L_234 (c_X12_perimeter o2.2.1 m v4) rfl (ta1 tm_) rfl (by decide) tm_ rfl rfl (Nat.le_of_ble_eq_true rfl) (Nat.le_of_ble_eq_true rfl) (Nat.le_of_ble_eq_true rfl) (dk okd_law_12 3 rfl) (st' := fun o5 => [.int o5.1]) (fun _ => rfl) (fun o5 => ?_)
  refine s_run X ok_law_12 12 2 (pc' := 715) (vs' := [some (.ref b), some (.ref x), some (.ref m), some (.ref o), some (.int i), some (.int o2.1), some (.int o5.1), none]) (st' := [.ref m]) rfl ?_
  refine s_callV (b := m) (As := []) (rest := []) X E mv_L_214 (c_X12_thrown o5.2 m) rfl (ta1 tm_) rfl (by decide) tm_ rfl rfl (Nat.le_of_ble_eq_true rfl) (Nat.le_of_ble_eq_true rfl) (Nat.le_of_ble_eq_true rfl) (dk okd_law_12 4 rfl) (st' := fun v6 => [.int v6]) (fun _ => rfl) (fun v6 => ?_)
  refine s_run X ok_law_12 14 1 (pc' := 720) (vs' := [some (.ref b), some (.ref x), some (.ref m), some (.ref o), some (.int i), some (.int o2.1), some (.int o5.1), none]) (st' := [.int o2.1, .int v6]) rfl ?_
  refine s_icmp_eq (tgt := 725) X (dk okd_law_12 5 rfl) (by decide) ?_ ?_
  · refine s_run X ok_law_12 16 1 (pc' := 727) (vs' := [some (.ref b), some (.ref x), some (.ref m), some (.ref o), some (.int i), some (.int o2.1), some (.int o5.1), none]) (st' := [.int o2.1]) rfl ?_
    refine s_jn (κ := Option (Unit)) (fun k7 => Jd (Cn (c + o2.2.2)) 8 Q o5.2 742 [some (.ref b), some (.ref x), some (.ref m), some (.ref o), some (.int i), none, none, none] [] k7) ?_ (fun k7 h8 => ?_)
    · refine s_run X ok_law_12 23 1 (pc' := 4006) (vs' := [some (.ref b), some (.ref x), some (.ref m), some (.ref o), some (.int i), none, none, none]) (st' := []) rfl ?_
      exact s_less [true, true, true, true, true, false, false, false] rfl (hk o5.2 ((c + o2.2.2)) hb3)
    · refine s_if_ne (tgt := 742) X (dk okd_law_12 7 rfl) (by decide) ?_ ?_
      · exact s_less [true, true, true, true, true, false, false, false] rfl (h8)
      · refine s_run X ok_law_12 17 2 (pc' := 732) (vs' := [some (.ref b), some (.ref x), some (.ref m), some (.ref o), some (.int i), some (.int o2.1), some (.int o5.1), none]) (st' := [.int 0, .ref o]) rfl ?_
        refine s_lald X to_ (dk okd_law_12 8 rfl) (fun v9 => ?_)
        refine s_run X ok_law_12 19 3 (pc' := 737) (vs' := [some (.ref b), some (.ref x), some (.ref m), some (.ref o), some (.int i), some (.int o2.1), some (.int o5.1), none]) (st' := [.int (lg_cmp v9 (Int32.toInt64 o5.1))]) rfl ?_
        refine s_lif_eq (tgt := 742) X (dk okd_law_12 9 rfl) (by decide) ?_ ?_
        · exact s_less [true, true, true, true, true, false, false, false] rfl (h8)
        · refine s_run X ok_law_12 22 1 (pc' := 741) (vs' := [some (.ref b), some (.ref x), some (.ref m), some (.ref o), some (.int i), some (.int o2.1), some (.int o5.1), none]) (st' := [.int 0]) rfl ?_
          exact s_none
  · refine s_run X ok_law_12 15 1 (pc' := 724) (vs' := [some (.ref b), some (.ref x), some (.ref m), some (.ref o), some (.int i), some (.int o2.1), some (.int o5.1), none]) (st' := [.int 0]) rfl ?_
    exact s_none
def tab_law_13 : List En := [(745, 8, 1, 0), (746, 8, 0, 0), (747, 5, 4, 0), (749, 0, 0, 1), (750, 17, 0, 0), (752, 8, 0, 0), (753, 5, 4, 0), (755, 0, 0, 2), (756, 17, 0, 0), (758, 8, 3, 0), (762, 11, 5, 0), (764, 8, 2, 0), (765, 8, 0, 0), (766, 5, 4, 0), (768, 0, 0, 1), (769, 17, 0, 0), (771, 8, 0, 0), (772, 5, 4, 0), (774, 0, 0, 2), (775, 17, 0, 0), (780, 11, 6, 0), (782, 8, 2, 0), (786, 5, 5, 0), (791, 0, 0, 0), (793, 5, 5, 0), (798, 8, 3, 0), (799, 0, 0, 0), (801, 5, 6, 0), (803, 31, 0, 0), (804, 40, 0, 0), (808, 0, 0, 0), (810, 41, 4006, 0)]
theorem ok_law_13 : tab_law_13.all (okE code) = true := by decide +kernel
def ed_law_13 : List (Nat × Instr × Nat) := [(751, .iaload, 1), (757, .iaload, 1), (759, .invokestatic 235, 3), (770, .iaload, 1), (776, .iaload, 1), (777, .invokevirtual 237, 3), (783, .invokevirtual 214, 3), (788, .if_icmp .eq 5, 3), (792, .ireturn, 1), (795, .ifCond .ne 15, 3), (800, .laload, 1), (805, .ifCond .eq 5, 3), (809, .ireturn, 1)]
theorem okd_law_13 : ed_law_13.all (okD code) = true := by decide +kernel
def f_law_13 (Ls : Nat) (xs : Nat → Int32) (S : St) (x m o : Nat) (i : Int32) (c : Nat) (kont : St → Nat → Option Unit) : Option Unit := sx Ls xs (i + 1) fun (v1 : Int32) => sx Ls xs (i + 2) fun (v2 : Int32) => cl (f_L_border S x v1 v2 o) fun (o3 : Int32 × St × Nat) => bud (c + o3.2.2) <| sx Ls xs (i + 1) fun (v5 : Int32) => sx Ls xs (i + 2) fun (v6 : Int32) => cl (f_X12_border o3.2.1 m v5 v6) fun (o7 : Int32 × St) => cl (f_X12_thrown o7.2 m) fun (v8 : Int32) => if v8 = o3.1 then (jn (κ := Option (Unit)) (kont o7.2 ((c + o3.2.2))) fun k9 => if o3.1 = 0 then (ldJ o7.2 o 0 fun (v11 : Int64) => if v11 = (Int32.toInt64 o7.1) then (k9) else (none)) else (k9)) else (none)
set_option maxHeartbeats 4000000 in
set_option maxRecDepth 100000 in
theorem c_law_13 {Cn : Nat → CT} {b Ls : Nat} {xs : Nat → Int32} {Q : Unit → State → Prop} {x m o : Nat} {i : Int32} (hf : Fam Cn b Ls xs) (tx0 : tT (Cn 0) x 10) (tm0 : tT (Cn 0) m 11) (to0 : tT (Cn 0) o 14) (S : St) (c : Nat) (hc : c ≤ 512) (kont : St → Nat → Option Unit) (hk : ∀ (S : St) (c : Nat), c ≤ 512 → Jd (Cn c) 8 Q S 4006 [some (.ref b), some (.ref x), some (.ref m), some (.ref o), some (.int i), none, none, none] [] (kont S c)) : Jd (Cn c) 8 Q S 745 [some (.ref b), some (.ref x), some (.ref m), some (.ref o), some (.int i), none, none, none] [] (f_law_13 Ls xs S x m o i c kont) := by
  have X := hf.X hc
  have E := hf.E c
  have tx_ := hf.T c tx0
  have tm_ := hf.T c tm0
  have to_ := hf.T c to0
  unfold f_law_13
  refine s_run X ok_law_13 0 5 (pc' := 751) (vs' := [some (.ref b), some (.ref x), some (.ref m), some (.ref o), some (.int i), none, none, none]) (st' := [.int (i + 1), .ref b, .ref x]) rfl ?_
  refine s_sld hf (dk okd_law_13 0 rfl) (fun v1 => ?_)
  refine s_run X ok_law_13 5 4 (pc' := 757) (vs' := [some (.ref b), some (.ref x), some (.ref m), some (.ref o), some (.int i), none, none, none]) (st' := [.int (i + 2), .ref b, .int v1, .ref x]) rfl ?_
  refine s_sld hf (dk okd_law_13 1 rfl) (fun v2 => ?_)
  refine s_run X ok_law_13 9 1 (pc' := 759) (vs' := [some (.ref b), some (.ref x), some (.ref m), some (.ref o), some (.int i), none, none, none]) (st' := [.ref o, .int v2, .int v1, .ref x]) rfl ?_
  refine s_callH (c0 := c) (As := [.ref x, .int v1, .int v2, .ref o]) (rest := []) hf mh_L_235 (c_L_border S x v1 v2 o) (ta2 tx_ to_) rfl rfl (Nat.le_of_ble_eq_true rfl) (Nat.le_of_ble_eq_true rfl) (Nat.le_of_ble_eq_true rfl) (dk okd_law_13 2 rfl) (st' := fun o3 => [.int o3.1]) (fun _ => rfl) (fun o3 hb4 => ?_)
  have X := hf.X hb4
  have E := hf.E (c + o3.2.2)
  have tx_ := hf.T (c + o3.2.2) tx_
  have tm_ := hf.T (c + o3.2.2) tm_
  have to_ := hf.T (c + o3.2.2) to_
  refine s_run X ok_law_13 10 6 (pc' := 770) (vs' := [some (.ref b), some (.ref x), some (.ref m), some (.ref o), some (.int i), some (.int o3.1), none, none]) (st' := [.int (i + 1), .ref b, .ref m]) rfl ?_
  refine s_sld hf (dk okd_law_13 3 rfl) (fun v5 => ?_)
  refine s_run X ok_law_13 16 4 (pc' := 776) (vs' := [some (.ref b), some (.ref x), some (.ref m), some (.ref o), some (.int i), some (.int o3.1), none, none]) (st' := [.int (i + 2), .ref b, .int v5, .ref m]) rfl ?_
  refine s_sld hf (dk okd_law_13 4 rfl) (fun v6 => ?_)
  refine s_callV (b := m) (As := [.int v5, .int v6]) (rest := []) X E mv_L_237 (c_X12_border o3.2.1 m v5 v6) rfl (ta1 tm_) rfl (by decide) tm_ rfl rfl (Nat.le_of_ble_eq_true rfl) (Nat.le_of_ble_eq_true rfl) (Nat.le_of_ble_eq_true rfl) (dk okd_law_13 5 rfl) (st' := fun o7 => [.int o7.1]) (fun _ => rfl) (fun o7 => ?_)
  refine s_run X ok_law_13 20 2 (pc' := 783) (vs' := [some (.ref b), some (.ref x), some (.ref m), some (.ref o), some (.int i), some (.int o3.1), some (.int o7.1), none]) (st' := [.ref m]) rfl ?_
  refine s_callV (b := m) (As := []) (rest := []) X E mv_L_214 (c_X12_thrown o7.2 m) rfl (ta1 tm_) rfl (by decide) tm_ rfl rfl (Nat.le_of_ble_eq_true rfl) (Nat.le_of_ble_eq_true rfl) (Nat.le_of_ble_eq_true rfl) (dk okd_law_13 6 rfl) (st' := fun v8 => [.int v8]) (fun _ => rfl) (fun v8 => ?_)
  refine s_run X ok_law_13 22 1 (pc' := 788) (vs' := [some (.ref b), some (.ref x), some (.ref m), some (.ref o), some (.int i), some (.int o3.1), some (.int o7.1), none]) (st' := [.int o3.1, .int v8]) rfl ?_
  refine s_icmp_eq (tgt := 793) X (dk okd_law_13 7 rfl) (by decide) ?_ ?_
  · refine s_run X ok_law_13 24 1 (pc' := 795) (vs' := [some (.ref b), some (.ref x), some (.ref m), some (.ref o), some (.int i), some (.int o3.1), some (.int o7.1), none]) (st' := [.int o3.1]) rfl ?_
    refine s_jn (κ := Option (Unit)) (fun k9 => Jd (Cn (c + o3.2.2)) 8 Q o7.2 810 [some (.ref b), some (.ref x), some (.ref m), some (.ref o), some (.int i), none, none, none] [] k9) ?_ (fun k9 h10 => ?_)
    · refine s_run X ok_law_13 31 1 (pc' := 4006) (vs' := [some (.ref b), some (.ref x), some (.ref m), some (.ref o), some (.int i), none, none, none]) (st' := []) rfl ?_
      exact s_less [true, true, true, true, true, false, false, false] rfl (hk o7.2 ((c + o3.2.2)) hb4)
    · refine s_if_ne (tgt := 810) X (dk okd_law_13 9 rfl) (by decide) ?_ ?_
      · exact s_less [true, true, true, true, true, false, false, false] rfl (h10)
      · refine s_run X ok_law_13 25 2 (pc' := 800) (vs' := [some (.ref b), some (.ref x), some (.ref m), some (.ref o), some (.int i), some (.int o3.1), some (.int o7.1), none]) (st' := [.int 0, .ref o]) rfl ?_
        refine s_lald X to_ (dk okd_law_13 10 rfl) (fun v11 => ?_)
        refine s_run X ok_law_13 27 3 (pc' := 805) (vs' := [some (.ref b), some (.ref x), some (.ref m), some (.ref o), some (.int i), some (.int o3.1), some (.int o7.1), none]) (st' := [.int (lg_cmp v11 (Int32.toInt64 o7.1))]) rfl ?_
        refine s_lif_eq (tgt := 810) X (dk okd_law_13 11 rfl) (by decide) ?_ ?_
        · exact s_less [true, true, true, true, true, false, false, false] rfl (h10)
        · refine s_run X ok_law_13 30 1 (pc' := 809) (vs' := [some (.ref b), some (.ref x), some (.ref m), some (.ref o), some (.int i), some (.int o3.1), some (.int o7.1), none]) (st' := [.int 0]) rfl ?_
          exact s_none
  · refine s_run X ok_law_13 23 1 (pc' := 792) (vs' := [some (.ref b), some (.ref x), some (.ref m), some (.ref o), some (.int i), some (.int o3.1), some (.int o7.1), none]) (st' := [.int 0]) rfl ?_
    exact s_none
def tab_law_14 : List En := [(813, 8, 1, 0), (814, 8, 0, 0), (815, 5, 4, 0), (817, 0, 0, 1), (818, 17, 0, 0), (820, 8, 3, 0), (824, 11, 5, 0), (826, 8, 2, 0), (827, 8, 0, 0), (828, 5, 4, 0), (830, 0, 0, 1), (831, 17, 0, 0), (836, 11, 6, 0), (838, 8, 2, 0), (842, 5, 5, 0), (847, 0, 0, 0), (849, 5, 5, 0), (854, 8, 3, 0), (855, 0, 0, 0), (857, 5, 6, 0), (862, 3, 1, 0), (863, 41, 867, 0), (866, 3, 0, 0), (867, 40, 0, 0), (871, 0, 0, 0), (873, 41, 4006, 0)]
theorem ok_law_14 : tab_law_14.all (okE code) = true := by decide +kernel
def ed_law_14 : List (Nat × Instr × Nat) := [(819, .iaload, 1), (821, .invokestatic 238, 3), (832, .iaload, 1), (833, .invokevirtual 240, 3), (839, .invokevirtual 214, 3), (844, .if_icmp .eq 5, 3), (848, .ireturn, 1), (851, .ifCond .ne 22, 3), (856, .laload, 1), (859, .ifCond .eq 7, 3), (868, .ifCond .eq 5, 3), (872, .ireturn, 1)]
theorem okd_law_14 : ed_law_14.all (okD code) = true := by decide +kernel
def f_law_14 (Ls : Nat) (xs : Nat → Int32) (S : St) (x m o : Nat) (i : Int32) (c : Nat) (kont : St → Nat → Option Unit) : Option Unit := sx Ls xs (i + 1) fun (v1 : Int32) => cl (f_L_isConnected S x v1 o) fun (o2 : Int32 × St × Nat) => bud (c + o2.2.2) <| sx Ls xs (i + 1) fun (v4 : Int32) => cl (f_X12_isConnected o2.2.1 m v4) fun (o5 : Int32 × St) => cl (f_X12_thrown o5.2 m) fun (v6 : Int32) => if v6 = o2.1 then (jn (κ := Option (Unit)) (kont o5.2 ((c + o2.2.2))) fun k7 => if o2.1 = 0 then (ldJ o5.2 o 0 fun (v9 : Int64) => jn (κ := Int64 → Option (Unit)) (fun x10 => if v9 = x10 then (k7) else (none)) fun k11 => if o5.1 = 0 then (k11 0) else (k11 1)) else (k7)) else (none)
set_option maxHeartbeats 4000000 in
set_option maxRecDepth 100000 in
theorem c_law_14 {Cn : Nat → CT} {b Ls : Nat} {xs : Nat → Int32} {Q : Unit → State → Prop} {x m o : Nat} {i : Int32} (hf : Fam Cn b Ls xs) (tx0 : tT (Cn 0) x 10) (tm0 : tT (Cn 0) m 11) (to0 : tT (Cn 0) o 14) (S : St) (c : Nat) (hc : c ≤ 512) (kont : St → Nat → Option Unit) (hk : ∀ (S : St) (c : Nat), c ≤ 512 → Jd (Cn c) 8 Q S 4006 [some (.ref b), some (.ref x), some (.ref m), some (.ref o), some (.int i), none, none, none] [] (kont S c)) : Jd (Cn c) 8 Q S 813 [some (.ref b), some (.ref x), some (.ref m), some (.ref o), some (.int i), none, none, none] [] (f_law_14 Ls xs S x m o i c kont) := by
  have X := hf.X hc
  have E := hf.E c
  have tx_ := hf.T c tx0
  have tm_ := hf.T c tm0
  have to_ := hf.T c to0
  unfold f_law_14
  refine s_run X ok_law_14 0 5 (pc' := 819) (vs' := [some (.ref b), some (.ref x), some (.ref m), some (.ref o), some (.int i), none, none, none]) (st' := [.int (i + 1), .ref b, .ref x]) rfl ?_
  refine s_sld hf (dk okd_law_14 0 rfl) (fun v1 => ?_)
  refine s_run X ok_law_14 5 1 (pc' := 821) (vs' := [some (.ref b), some (.ref x), some (.ref m), some (.ref o), some (.int i), none, none, none]) (st' := [.ref o, .int v1, .ref x]) rfl ?_
  refine s_callH (c0 := c) (As := [.ref x, .int v1, .ref o]) (rest := []) hf mh_L_238 (c_L_isConnected S x v1 o) (ta2 tx_ to_) rfl rfl (Nat.le_of_ble_eq_true rfl) (Nat.le_of_ble_eq_true rfl) (Nat.le_of_ble_eq_true rfl) (dk okd_law_14 1 rfl) (st' := fun o2 => [.int o2.1]) (fun _ => rfl) (fun o2 hb3 => ?_)
  have X := hf.X hb3
  have E := hf.E (c + o2.2.2)
  have tx_ := hf.T (c + o2.2.2) tx_
  have tm_ := hf.T (c + o2.2.2) tm_
  have to_ := hf.T (c + o2.2.2) to_
  refine s_run X ok_law_14 6 6 (pc' := 832) (vs' := [some (.ref b), some (.ref x), some (.ref m), some (.ref o), some (.int i), some (.int o2.1), none, none]) (st' := [.int (i + 1), .ref b, .ref m]) rfl ?_
  refine s_sld hf (dk okd_law_14 2 rfl) (fun v4 => ?_)
  refine s_callV (b := m) (As := [.int v4]) (rest := []) X E mv_L_240 (c_X12_isConnected o2.2.1 m v4) rfl (ta1 tm_) rfl (by decide) tm_ rfl rfl (Nat.le_of_ble_eq_true rfl) (Nat.le_of_ble_eq_true rfl) (Nat.le_of_ble_eq_true rfl) (dk okd_law_14 3 rfl) (st' := fun o5 => [.int o5.1]) (fun _ => rfl) (fun o5 => ?_)
  refine s_run X ok_law_14 12 2 (pc' := 839) (vs' := [some (.ref b), some (.ref x), some (.ref m), some (.ref o), some (.int i), some (.int o2.1), some (.int o5.1), none]) (st' := [.ref m]) rfl ?_
  refine s_callV (b := m) (As := []) (rest := []) X E mv_L_214 (c_X12_thrown o5.2 m) rfl (ta1 tm_) rfl (by decide) tm_ rfl rfl (Nat.le_of_ble_eq_true rfl) (Nat.le_of_ble_eq_true rfl) (Nat.le_of_ble_eq_true rfl) (dk okd_law_14 4 rfl) (st' := fun v6 => [.int v6]) (fun _ => rfl) (fun v6 => ?_)
  refine s_run X ok_law_14 14 1 (pc' := 844) (vs' := [some (.ref b), some (.ref x), some (.ref m), some (.ref o), some (.int i), some (.int o2.1), some (.int o5.1), none]) (st' := [.int o2.1, .int v6]) rfl ?_
  refine s_icmp_eq (tgt := 849) X (dk okd_law_14 5 rfl) (by decide) ?_ ?_
  · refine s_run X ok_law_14 16 1 (pc' := 851) (vs' := [some (.ref b), some (.ref x), some (.ref m), some (.ref o), some (.int i), some (.int o2.1), some (.int o5.1), none]) (st' := [.int o2.1]) rfl ?_
    refine s_jn (κ := Option (Unit)) (fun k7 => Jd (Cn (c + o2.2.2)) 8 Q o5.2 873 [some (.ref b), some (.ref x), some (.ref m), some (.ref o), some (.int i), none, none, none] [] k7) ?_ (fun k7 h8 => ?_)
    · refine s_run X ok_law_14 25 1 (pc' := 4006) (vs' := [some (.ref b), some (.ref x), some (.ref m), some (.ref o), some (.int i), none, none, none]) (st' := []) rfl ?_
      exact s_less [true, true, true, true, true, false, false, false] rfl (hk o5.2 ((c + o2.2.2)) hb3)
    · refine s_if_ne (tgt := 873) X (dk okd_law_14 7 rfl) (by decide) ?_ ?_
      · exact s_less [true, true, true, true, true, false, false, false] rfl (h8)
      · refine s_run X ok_law_14 17 2 (pc' := 856) (vs' := [some (.ref b), some (.ref x), some (.ref m), some (.ref o), some (.int i), some (.int o2.1), some (.int o5.1), none]) (st' := [.int 0, .ref o]) rfl ?_
        refine s_lald X to_ (dk okd_law_14 8 rfl) (fun v9 => ?_)
        refine s_run X ok_law_14 19 1 (pc' := 859) (vs' := [some (.ref b), some (.ref x), some (.ref m), some (.ref o), some (.int i), some (.int o2.1), some (.int o5.1), none]) (st' := [.int o5.1, .long v9]) rfl ?_
        refine s_jn (κ := Int64 → Option (Unit)) (fun k11 => ∀ (x10 : Int64), Jd (Cn (c + o2.2.2)) 8 Q o5.2 867 [some (.ref b), some (.ref x), some (.ref m), some (.ref o), some (.int i), none, none, none] [.long x10, .long v9] (k11 x10)) (fun x10 => ?_) (fun k11 h12 => ?_)
        · refine s_run X ok_law_14 23 1 (pc' := 868) (vs' := [some (.ref b), some (.ref x), some (.ref m), some (.ref o), some (.int i), none, none, none]) (st' := [.int (lg_cmp v9 x10)]) rfl ?_
          refine s_lif_eq (tgt := 873) X (dk okd_law_14 10 rfl) (by decide) ?_ ?_
          · exact h8
          · refine s_run X ok_law_14 24 1 (pc' := 872) (vs' := [some (.ref b), some (.ref x), some (.ref m), some (.ref o), some (.int i), none, none, none]) (st' := [.int 0]) rfl ?_
            exact s_none
        · refine s_if_eq (tgt := 866) X (dk okd_law_14 9 rfl) (by decide) ?_ ?_
          · refine s_run X ok_law_14 22 1 (pc' := 867) (vs' := [some (.ref b), some (.ref x), some (.ref m), some (.ref o), some (.int i), some (.int o2.1), some (.int o5.1), none]) (st' := [.long 0, .long v9]) rfl ?_
            exact s_less [true, true, true, true, true, false, false, false] rfl (h12 0)
          · refine s_run X ok_law_14 20 2 (pc' := 867) (vs' := [some (.ref b), some (.ref x), some (.ref m), some (.ref o), some (.int i), some (.int o2.1), some (.int o5.1), none]) (st' := [.long 1, .long v9]) rfl ?_
            exact s_less [true, true, true, true, true, false, false, false] rfl (h12 1)
  · refine s_run X ok_law_14 15 1 (pc' := 848) (vs' := [some (.ref b), some (.ref x), some (.ref m), some (.ref o), some (.int i), some (.int o2.1), some (.int o5.1), none]) (st' := [.int 0]) rfl ?_
    exact s_none
def tab_law_15 : List En := [(876, 8, 1, 0), (877, 8, 0, 0), (878, 5, 4, 0), (880, 0, 0, 1), (881, 17, 0, 0), (883, 8, 0, 0), (884, 5, 4, 0), (886, 0, 0, 2), (887, 17, 0, 0), (889, 8, 0, 0), (890, 5, 4, 0), (892, 0, 0, 3), (893, 17, 0, 0), (895, 8, 3, 0), (899, 11, 5, 0), (901, 8, 2, 0), (902, 8, 0, 0), (903, 5, 4, 0), (905, 0, 0, 1), (906, 17, 0, 0), (908, 8, 0, 0), (909, 5, 4, 0), (911, 0, 0, 2), (912, 17, 0, 0), (914, 8, 0, 0), (915, 5, 4, 0), (917, 0, 0, 3), (918, 17, 0, 0), (923, 11, 6, 0), (925, 8, 2, 0), (929, 5, 5, 0), (934, 0, 0, 0), (936, 5, 5, 0), (941, 8, 3, 0), (942, 0, 0, 0), (944, 5, 6, 0), (946, 31, 0, 0), (947, 40, 0, 0), (951, 0, 0, 0), (953, 41, 4006, 0)]
theorem ok_law_15 : tab_law_15.all (okE code) = true := by decide +kernel
def ed_law_15 : List (Nat × Instr × Nat) := [(882, .iaload, 1), (888, .iaload, 1), (894, .iaload, 1), (896, .invokestatic 241, 3), (907, .iaload, 1), (913, .iaload, 1), (919, .iaload, 1), (920, .invokevirtual 244, 3), (926, .invokevirtual 214, 3), (931, .if_icmp .eq 5, 3), (935, .ireturn, 1), (938, .ifCond .ne 15, 3), (943, .laload, 1), (948, .ifCond .eq 5, 3), (952, .ireturn, 1)]
theorem okd_law_15 : ed_law_15.all (okD code) = true := by decide +kernel
def f_law_15 (Ls : Nat) (xs : Nat → Int32) (S : St) (x m o : Nat) (i : Int32) (c : Nat) (kont : St → Nat → Option Unit) : Option Unit := sx Ls xs (i + 1) fun (v1 : Int32) => sx Ls xs (i + 2) fun (v2 : Int32) => sx Ls xs (i + 3) fun (v3 : Int32) => cl (f_L_distance S x v1 v2 v3 o) fun (o4 : Int32 × St × Nat) => bud (c + o4.2.2) <| sx Ls xs (i + 1) fun (v6 : Int32) => sx Ls xs (i + 2) fun (v7 : Int32) => sx Ls xs (i + 3) fun (v8 : Int32) => cl (f_X12_distance o4.2.1 m v6 v7 v8) fun (o9 : Int32 × St) => cl (f_X12_thrown o9.2 m) fun (v10 : Int32) => if v10 = o4.1 then (jn (κ := Option (Unit)) (kont o9.2 ((c + o4.2.2))) fun k11 => if o4.1 = 0 then (ldJ o9.2 o 0 fun (v13 : Int64) => if v13 = (Int32.toInt64 o9.1) then (k11) else (none)) else (k11)) else (none)
set_option maxHeartbeats 4000000 in
set_option maxRecDepth 100000 in
theorem c_law_15 {Cn : Nat → CT} {b Ls : Nat} {xs : Nat → Int32} {Q : Unit → State → Prop} {x m o : Nat} {i : Int32} (hf : Fam Cn b Ls xs) (tx0 : tT (Cn 0) x 10) (tm0 : tT (Cn 0) m 11) (to0 : tT (Cn 0) o 14) (S : St) (c : Nat) (hc : c ≤ 512) (kont : St → Nat → Option Unit) (hk : ∀ (S : St) (c : Nat), c ≤ 512 → Jd (Cn c) 8 Q S 4006 [some (.ref b), some (.ref x), some (.ref m), some (.ref o), some (.int i), none, none, none] [] (kont S c)) : Jd (Cn c) 8 Q S 876 [some (.ref b), some (.ref x), some (.ref m), some (.ref o), some (.int i), none, none, none] [] (f_law_15 Ls xs S x m o i c kont) := by
  have X := hf.X hc
  have E := hf.E c
  have tx_ := hf.T c tx0
  have tm_ := hf.T c tm0
  have to_ := hf.T c to0
  unfold f_law_15
  refine s_run X ok_law_15 0 5 (pc' := 882) (vs' := [some (.ref b), some (.ref x), some (.ref m), some (.ref o), some (.int i), none, none, none]) (st' := [.int (i + 1), .ref b, .ref x]) rfl ?_
  refine s_sld hf (dk okd_law_15 0 rfl) (fun v1 => ?_)
  refine s_run X ok_law_15 5 4 (pc' := 888) (vs' := [some (.ref b), some (.ref x), some (.ref m), some (.ref o), some (.int i), none, none, none]) (st' := [.int (i + 2), .ref b, .int v1, .ref x]) rfl ?_
  refine s_sld hf (dk okd_law_15 1 rfl) (fun v2 => ?_)
  refine s_run X ok_law_15 9 4 (pc' := 894) (vs' := [some (.ref b), some (.ref x), some (.ref m), some (.ref o), some (.int i), none, none, none]) (st' := [.int (i + 3), .ref b, .int v2, .int v1, .ref x]) rfl ?_
  refine s_sld hf (dk okd_law_15 2 rfl) (fun v3 => ?_)
  refine s_run X ok_law_15 13 1 (pc' := 896) (vs' := [some (.ref b), some (.ref x), some (.ref m), some (.ref o), some (.int i), none, none, none]) (st' := [.ref o, .int v3, .int v2, .int v1, .ref x]) rfl ?_
  refine s_callH (c0 := c) (As := [.ref x, .int v1, .int v2, .int v3, .ref o]) (rest := []) hf mh_L_241 (c_L_distance S x v1 v2 v3 o) (ta2 tx_ to_) rfl rfl (Nat.le_of_ble_eq_true rfl) (Nat.le_of_ble_eq_true rfl) (Nat.le_of_ble_eq_true rfl) (dk okd_law_15 3 rfl) (st' := fun o4 => [.int o4.1]) (fun _ => rfl) (fun o4 hb5 => ?_)
  have X := hf.X hb5
  have E := hf.E (c + o4.2.2)
  have tx_ := hf.T (c + o4.2.2) tx_
  have tm_ := hf.T (c + o4.2.2) tm_
  have to_ := hf.T (c + o4.2.2) to_
  refine s_run X ok_law_15 14 6 (pc' := 907) (vs' := [some (.ref b), some (.ref x), some (.ref m), some (.ref o), some (.int i), some (.int o4.1), none, none]) (st' := [.int (i + 1), .ref b, .ref m]) rfl ?_
  refine s_sld hf (dk okd_law_15 4 rfl) (fun v6 => ?_)
  refine s_run X ok_law_15 20 4 (pc' := 913) (vs' := [some (.ref b), some (.ref x), some (.ref m), some (.ref o), some (.int i), some (.int o4.1), none, none]) (st' := [.int (i + 2), .ref b, .int v6, .ref m]) rfl ?_
  refine s_sld hf (dk okd_law_15 5 rfl) (fun v7 => ?_)
  refine s_run X ok_law_15 24 4 (pc' := 919) (vs' := [some (.ref b), some (.ref x), some (.ref m), some (.ref o), some (.int i), some (.int o4.1), none, none]) (st' := [.int (i + 3), .ref b, .int v7, .int v6, .ref m]) rfl ?_
  refine s_sld hf (dk okd_law_15 6 rfl) (fun v8 => ?_)
  refine s_callV (b := m) (As := [.int v6, .int v7, .int v8]) (rest := []) X E mv_L_244 (c_X12_distance o4.2.1 m v6 v7 v8) rfl (ta1 tm_) rfl (by decide) tm_ rfl rfl (Nat.le_of_ble_eq_true rfl) (Nat.le_of_ble_eq_true rfl) (Nat.le_of_ble_eq_true rfl) (dk okd_law_15 7 rfl) (st' := fun o9 => [.int o9.1]) (fun _ => rfl) (fun o9 => ?_)
  refine s_run X ok_law_15 28 2 (pc' := 926) (vs' := [some (.ref b), some (.ref x), some (.ref m), some (.ref o), some (.int i), some (.int o4.1), some (.int o9.1), none]) (st' := [.ref m]) rfl ?_
  refine s_callV (b := m) (As := []) (rest := []) X E mv_L_214 (c_X12_thrown o9.2 m) rfl (ta1 tm_) rfl (by decide) tm_ rfl rfl (Nat.le_of_ble_eq_true rfl) (Nat.le_of_ble_eq_true rfl) (Nat.le_of_ble_eq_true rfl) (dk okd_law_15 8 rfl) (st' := fun v10 => [.int v10]) (fun _ => rfl) (fun v10 => ?_)
  refine s_run X ok_law_15 30 1 (pc' := 931) (vs' := [some (.ref b), some (.ref x), some (.ref m), some (.ref o), some (.int i), some (.int o4.1), some (.int o9.1), none]) (st' := [.int o4.1, .int v10]) rfl ?_
  refine s_icmp_eq (tgt := 936) X (dk okd_law_15 9 rfl) (by decide) ?_ ?_
  · refine s_run X ok_law_15 32 1 (pc' := 938) (vs' := [some (.ref b), some (.ref x), some (.ref m), some (.ref o), some (.int i), some (.int o4.1), some (.int o9.1), none]) (st' := [.int o4.1]) rfl ?_
    refine s_jn (κ := Option (Unit)) (fun k11 => Jd (Cn (c + o4.2.2)) 8 Q o9.2 953 [some (.ref b), some (.ref x), some (.ref m), some (.ref o), some (.int i), none, none, none] [] k11) ?_ (fun k11 h12 => ?_)
    · refine s_run X ok_law_15 39 1 (pc' := 4006) (vs' := [some (.ref b), some (.ref x), some (.ref m), some (.ref o), some (.int i), none, none, none]) (st' := []) rfl ?_
      exact s_less [true, true, true, true, true, false, false, false] rfl (hk o9.2 ((c + o4.2.2)) hb5)
    · refine s_if_ne (tgt := 953) X (dk okd_law_15 11 rfl) (by decide) ?_ ?_
      · exact s_less [true, true, true, true, true, false, false, false] rfl (h12)
      · refine s_run X ok_law_15 33 2 (pc' := 943) (vs' := [some (.ref b), some (.ref x), some (.ref m), some (.ref o), some (.int i), some (.int o4.1), some (.int o9.1), none]) (st' := [.int 0, .ref o]) rfl ?_
        refine s_lald X to_ (dk okd_law_15 12 rfl) (fun v13 => ?_)
        refine s_run X ok_law_15 35 3 (pc' := 948) (vs' := [some (.ref b), some (.ref x), some (.ref m), some (.ref o), some (.int i), some (.int o4.1), some (.int o9.1), none]) (st' := [.int (lg_cmp v13 (Int32.toInt64 o9.1))]) rfl ?_
        refine s_lif_eq (tgt := 953) X (dk okd_law_15 13 rfl) (by decide) ?_ ?_
        · exact s_less [true, true, true, true, true, false, false, false] rfl (h12)
        · refine s_run X ok_law_15 38 1 (pc' := 952) (vs' := [some (.ref b), some (.ref x), some (.ref m), some (.ref o), some (.int i), some (.int o4.1), some (.int o9.1), none]) (st' := [.int 0]) rfl ?_
          exact s_none
  · refine s_run X ok_law_15 31 1 (pc' := 935) (vs' := [some (.ref b), some (.ref x), some (.ref m), some (.ref o), some (.int i), some (.int o4.1), some (.int o9.1), none]) (st' := [.int 0]) rfl ?_
    exact s_none
