theorem mh_L_208 : MH RL 208 yL_runJournal cL_runJournal 4 [(0, 9, 12, 13)] 3 := ⟨TT_4 (i := 129) rfl rfl, TT_4 (i := 130) rfl rfl, TT_1 (i := 0) rfl rfl, TT_4 (i := 131) rfl rfl, ⟨by decide, by decide, by decide +kernel⟩⟩
theorem mv_L_179 : MV RL 179 yX11_appendInput cX11_appendInput 6 (some .int) 5 := ⟨TT_2 (i := 218) rfl rfl, TT_2 (i := 219) rfl rfl, TT_2 (i := 220) rfl rfl, TT_1 (i := 1) rfl rfl, TT_2 (i := 221) rfl rfl, ⟨by decide, by decide, by decide +kernel⟩⟩
theorem mv_L_183 : MV RL 183 yX12_appendInput cX12_appendInput 6 (some .int) 5 := ⟨TT_10 (i := 31) rfl rfl, TT_10 (i := 32) rfl rfl, TT_10 (i := 33) rfl rfl, TT_1 (i := 13) rfl rfl, TT_10 (i := 34) rfl rfl, ⟨by decide, by decide, by decide +kernel⟩⟩
theorem mv_L_184 : MV RL 184 yX11_truncateInput cX11_truncateInput 2 (some .int) 1 := ⟨TT_2 (i := 226) rfl rfl, TT_2 (i := 227) rfl rfl, TT_2 (i := 228) rfl rfl, TT_1 (i := 1) rfl rfl, TT_2 (i := 229) rfl rfl, ⟨by decide, by decide, by decide +kernel⟩⟩
theorem mv_L_187 : MV RL 187 yX12_truncateInput cX12_truncateInput 2 (some .int) 1 := ⟨TT_10 (i := 39) rfl rfl, TT_10 (i := 40) rfl rfl, TT_10 (i := 41) rfl rfl, TT_1 (i := 13) rfl rfl, TT_10 (i := 42) rfl rfl, ⟨by decide, by decide, by decide +kernel⟩⟩
theorem mv_L_188 : MV RL 188 yX11_load cX11_load 4 (some .int) 0 := ⟨TT_2 (i := 230) rfl rfl, TT_2 (i := 231) rfl rfl, TT_2 (i := 232) rfl rfl, TT_1 (i := 1) rfl rfl, TT_2 (i := 233) rfl rfl, ⟨by decide, by decide, by decide +kernel⟩⟩
theorem mv_L_191 : MV RL 191 yX12_load cX12_load 2 (some .int) 0 := ⟨TT_10 (i := 51) rfl rfl, TT_10 (i := 52) rfl rfl, TT_10 (i := 53) rfl rfl, TT_1 (i := 13) rfl rfl, TT_10 (i := 54) rfl rfl, ⟨by decide, by decide, by decide +kernel⟩⟩
theorem mv_L_192 : MV RL 192 yX11_errorCode cX11_errorCode 1 (some .int) 0 := ⟨TT_3 (i := 206) rfl rfl, TT_3 (i := 207) rfl rfl, TT_3 (i := 208) rfl rfl, TT_1 (i := 1) rfl rfl, TT_3 (i := 209) rfl rfl, ⟨by decide, by decide, by decide +kernel⟩⟩
theorem mv_L_195 : MV RL 195 yX12_errorCode cX12_errorCode 1 (some .int) 0 := ⟨TT_10 (i := 43) rfl rfl, TT_10 (i := 44) rfl rfl, TT_10 (i := 45) rfl rfl, TT_1 (i := 13) rfl rfl, TT_10 (i := 46) rfl rfl, ⟨by decide, by decide, by decide +kernel⟩⟩
theorem mv_L_196 : MV RL 196 yX11_errorPosition cX11_errorPosition 1 (some .int) 0 := ⟨TT_3 (i := 210) rfl rfl, TT_3 (i := 211) rfl rfl, TT_3 (i := 212) rfl rfl, TT_1 (i := 1) rfl rfl, TT_3 (i := 213) rfl rfl, ⟨by decide, by decide, by decide +kernel⟩⟩
theorem mv_L_199 : MV RL 199 yX12_errorPosition cX12_errorPosition 1 (some .int) 0 := ⟨TT_10 (i := 47) rfl rfl, TT_10 (i := 48) rfl rfl, TT_10 (i := 49) rfl rfl, TT_1 (i := 13) rfl rfl, TT_10 (i := 50) rfl rfl, ⟨by decide, by decide, by decide +kernel⟩⟩
theorem mv_L_200 : MV RL 200 yX11_find cX11_find 2 (some .int) 0 := ⟨TT_3 (i := 214) rfl rfl, TT_3 (i := 215) rfl rfl, TT_3 (i := 216) rfl rfl, TT_1 (i := 1) rfl rfl, TT_3 (i := 217) rfl rfl, ⟨by decide, by decide, by decide +kernel⟩⟩
theorem mv_L_203 : MV RL 203 yX12_find cX12_find 5 (some .int) 0 := ⟨TT_10 (i := 195) rfl rfl, TT_10 (i := 196) rfl rfl, TT_10 (i := 197) rfl rfl, TT_1 (i := 13) rfl rfl, TT_10 (i := 198) rfl rfl, ⟨by decide, by decide, by decide +kernel⟩⟩
theorem mv_L_204 : MV RL 204 yX11_loadJournal cX11_loadJournal 2 (some .int) 0 := ⟨TT_3 (i := 219) rfl rfl, TT_3 (i := 220) rfl rfl, TT_3 (i := 221) rfl rfl, TT_1 (i := 1) rfl rfl, TT_3 (i := 222) rfl rfl, ⟨by decide, by decide, by decide +kernel⟩⟩
theorem mv_L_207 : MV RL 207 yX12_loadJournal cX12_loadJournal 3 (some .int) 0 := ⟨TT_10 (i := 141) rfl rfl, TT_10 (i := 142) rfl rfl, TT_10 (i := 143) rfl rfl, TT_1 (i := 13) rfl rfl, TT_10 (i := 144) rfl rfl, ⟨by decide, by decide, by decide +kernel⟩⟩
theorem mv_L_213 : MV RL 213 yX12_runJournal cX12_runJournal 4 (some .int) 1 := ⟨TT_10 (i := 171) rfl rfl, TT_10 (i := 172) rfl rfl, TT_10 (i := 173) rfl rfl, TT_1 (i := 13) rfl rfl, TT_10 (i := 174) rfl rfl, ⟨by decide, by decide, by decide +kernel⟩⟩
theorem mv_L_214 : MV RL 214 yX12_thrown cX12_thrown 1 (some .int) 0 := ⟨TT_8 (i := 52) rfl rfl, TT_8 (i := 53) rfl rfl, TT_8 (i := 54) rfl rfl, TT_1 (i := 13) rfl rfl, TT_8 (i := 55) rfl rfl, ⟨by decide, by decide, by decide +kernel⟩⟩
def tab_law_0 : List En := [(308, 8, 1, 0), (309, 8, 0, 0), (310, 5, 4, 0), (312, 0, 0, 1), (313, 17, 0, 0), (315, 8, 0, 0), (316, 5, 4, 0), (318, 0, 0, 2), (319, 17, 0, 0), (321, 8, 0, 0), (322, 5, 4, 0), (324, 0, 0, 3), (325, 17, 0, 0), (327, 8, 0, 0), (328, 5, 4, 0), (330, 0, 0, 4), (331, 17, 0, 0), (333, 8, 0, 0), (334, 5, 4, 0), (336, 0, 0, 5), (337, 17, 0, 0), (342, 8, 2, 0), (343, 8, 0, 0), (344, 5, 4, 0), (346, 0, 0, 1), (347, 17, 0, 0), (349, 8, 0, 0), (350, 5, 4, 0), (352, 0, 0, 2), (353, 17, 0, 0), (355, 8, 0, 0), (356, 5, 4, 0), (358, 0, 0, 3), (359, 17, 0, 0), (361, 8, 0, 0), (362, 5, 4, 0), (364, 0, 0, 4), (365, 17, 0, 0), (367, 8, 0, 0), (368, 5, 4, 0), (370, 0, 0, 5), (371, 17, 0, 0), (379, 0, 0, 0)]
theorem ok_law_0 : tab_law_0.all (okE code) = true := by decide +kernel
def ed_law_0 : List (Nat × Instr × Nat) := [(314, .iaload, 1), (320, .iaload, 1), (326, .iaload, 1), (332, .iaload, 1), (338, .iaload, 1), (339, .invokevirtual 179, 3), (348, .iaload, 1), (354, .iaload, 1), (360, .iaload, 1), (366, .iaload, 1), (372, .iaload, 1), (373, .invokevirtual 183, 3), (376, .if_icmp .eq 3630, 3), (380, .ireturn, 1)]
theorem okd_law_0 : ed_law_0.all (okD code) = true := by decide +kernel
def f_law_0 (Ls : Nat) (xs : Nat → Int32) (S : St) (x m o : Nat) (i : Int32) (c : Nat) (kont : St → Nat → Option Unit) : Option Unit := sx Ls xs (i + 1) fun (v1 : Int32) => sx Ls xs (i + 2) fun (v2 : Int32) => sx Ls xs (i + 3) fun (v3 : Int32) => sx Ls xs (i + 4) fun (v4 : Int32) => sx Ls xs (i + 5) fun (v5 : Int32) => cl (f_X11_appendInput S x v1 v2 v3 v4 v5) fun (o6 : Int32 × St) => sx Ls xs (i + 1) fun (v7 : Int32) => sx Ls xs (i + 2) fun (v8 : Int32) => sx Ls xs (i + 3) fun (v9 : Int32) => sx Ls xs (i + 4) fun (v10 : Int32) => sx Ls xs (i + 5) fun (v11 : Int32) => cl (f_X12_appendInput o6.2 m v7 v8 v9 v10 v11) fun (o12 : Int32 × St) => if o6.1 = o12.1 then (kont o12.2 (c)) else (none)
set_option maxHeartbeats 4000000 in
set_option maxRecDepth 100000 in
theorem c_law_0 {Cn : Nat → CT} {b Ls : Nat} {xs : Nat → Int32} {Q : Unit → State → Prop} {x m o : Nat} {i : Int32} (hf : Fam Cn b Ls xs) (tx0 : tT (Cn 0) x 10) (tm0 : tT (Cn 0) m 11) (to0 : tT (Cn 0) o 14) (S : St) (c : Nat) (hc : c ≤ 512) (kont : St → Nat → Option Unit) (hk : ∀ (S : St) (c : Nat), c ≤ 512 → Jd (Cn c) 8 Q S 4006 [some (.ref b), some (.ref x), some (.ref m), some (.ref o), some (.int i), none, none, none] [] (kont S c)) : Jd (Cn c) 8 Q S 308 [some (.ref b), some (.ref x), some (.ref m), some (.ref o), some (.int i), none, none, none] [] (f_law_0 Ls xs S x m o i c kont) := by
  have X := hf.X hc
  have E := hf.E c
  have tx_ := hf.T c tx0
  have tm_ := hf.T c tm0
  have to_ := hf.T c to0
  unfold f_law_0
  refine s_run X ok_law_0 0 5 (pc' := 314) (vs' := [some (.ref b), some (.ref x), some (.ref m), some (.ref o), some (.int i), none, none, none]) (st' := [.int (i + 1), .ref b, .ref x]) rfl ?_
  refine s_sld hf (dk okd_law_0 0 rfl) (fun v1 => ?_)
  refine s_run X ok_law_0 5 4 (pc' := 320) (vs' := [some (.ref b), some (.ref x), some (.ref m), some (.ref o), some (.int i), none, none, none]) (st' := [.int (i + 2), .ref b, .int v1, .ref x]) rfl ?_
  refine s_sld hf (dk okd_law_0 1 rfl) (fun v2 => ?_)
  refine s_run X ok_law_0 9 4 (pc' := 326) (vs' := [some (.ref b), some (.ref x), some (.ref m), some (.ref o), some (.int i), none, none, none]) (st' := [.int (i + 3), .ref b, .int v2, .int v1, .ref x]) rfl ?_
  refine s_sld hf (dk okd_law_0 2 rfl) (fun v3 => ?_)
  refine s_run X ok_law_0 13 4 (pc' := 332) (vs' := [some (.ref b), some (.ref x), some (.ref m), some (.ref o), some (.int i), none, none, none]) (st' := [.int (i + 4), .ref b, .int v3, .int v2, .int v1, .ref x]) rfl ?_
  refine s_sld hf (dk okd_law_0 3 rfl) (fun v4 => ?_)
  refine s_run X ok_law_0 17 4 (pc' := 338) (vs' := [some (.ref b), some (.ref x), some (.ref m), some (.ref o), some (.int i), none, none, none]) (st' := [.int (i + 5), .ref b, .int v4, .int v3, .int v2, .int v1, .ref x]) rfl ?_
  refine s_sld hf (dk okd_law_0 4 rfl) (fun v5 => ?_)
  refine s_callV (b := x) (As := [.int v1, .int v2, .int v3, .int v4, .int v5]) (rest := []) X E mv_L_179 (c_X11_appendInput S x v1 v2 v3 v4 v5) rfl (ta1 tx_) rfl (by decide) tx_ rfl rfl (Nat.le_of_ble_eq_true rfl) (Nat.le_of_ble_eq_true rfl) (Nat.le_of_ble_eq_true rfl) (dk okd_law_0 5 rfl) (st' := fun o6 => [.int o6.1]) (fun _ => rfl) (fun o6 => ?_)
  refine s_run X ok_law_0 21 5 (pc' := 348) (vs' := [some (.ref b), some (.ref x), some (.ref m), some (.ref o), some (.int i), none, none, none]) (st' := [.int (i + 1), .ref b, .ref m, .int o6.1]) rfl ?_
  refine s_sld hf (dk okd_law_0 6 rfl) (fun v7 => ?_)
  refine s_run X ok_law_0 26 4 (pc' := 354) (vs' := [some (.ref b), some (.ref x), some (.ref m), some (.ref o), some (.int i), none, none, none]) (st' := [.int (i + 2), .ref b, .int v7, .ref m, .int o6.1]) rfl ?_
  refine s_sld hf (dk okd_law_0 7 rfl) (fun v8 => ?_)
  refine s_run X ok_law_0 30 4 (pc' := 360) (vs' := [some (.ref b), some (.ref x), some (.ref m), some (.ref o), some (.int i), none, none, none]) (st' := [.int (i + 3), .ref b, .int v8, .int v7, .ref m, .int o6.1]) rfl ?_
  refine s_sld hf (dk okd_law_0 8 rfl) (fun v9 => ?_)
  refine s_run X ok_law_0 34 4 (pc' := 366) (vs' := [some (.ref b), some (.ref x), some (.ref m), some (.ref o), some (.int i), none, none, none]) (st' := [.int (i + 4), .ref b, .int v9, .int v8, .int v7, .ref m, .int o6.1]) rfl ?_
  refine s_sld hf (dk okd_law_0 9 rfl) (fun v10 => ?_)
  refine s_run X ok_law_0 38 4 (pc' := 372) (vs' := [some (.ref b), some (.ref x), some (.ref m), some (.ref o), some (.int i), none, none, none]) (st' := [.int (i + 5), .ref b, .int v10, .int v9, .int v8, .int v7, .ref m, .int o6.1]) rfl ?_
  refine s_sld hf (dk okd_law_0 10 rfl) (fun v11 => ?_)
  refine s_callV (b := m) (As := [.int v7, .int v8, .int v9, .int v10, .int v11]) (rest := [.int o6.1]) X E mv_L_183 (c_X12_appendInput o6.2 m v7 v8 v9 v10 v11) rfl (ta1 tm_) rfl (by decide) tm_ rfl rfl (Nat.le_of_ble_eq_true rfl) (Nat.le_of_ble_eq_true rfl) (Nat.le_of_ble_eq_true rfl) (dk okd_law_0 11 rfl) (st' := fun o12 => [.int o12.1, .int o6.1]) (fun _ => rfl) (fun o12 => ?_)
  refine s_icmp_eq (tgt := 4006) X (dk okd_law_0 12 rfl) (by decide) ?_ ?_
  · exact s_less [true, true, true, true, true, false, false, false] rfl (hk o12.2 (c) hc)
  · refine s_run X ok_law_0 42 1 (pc' := 380) (vs' := [some (.ref b), some (.ref x), some (.ref m), some (.ref o), some (.int i), none, none, none]) (st' := [.int 0]) rfl ?_
    exact s_none
def tab_law_1 : List En := [(381, 8, 1, 0), (382, 8, 0, 0), (383, 5, 4, 0), (385, 0, 0, 1), (386, 17, 0, 0), (391, 8, 2, 0), (392, 8, 0, 0), (393, 5, 4, 0), (395, 0, 0, 1), (396, 17, 0, 0), (404, 0, 0, 0)]
theorem ok_law_1 : tab_law_1.all (okE code) = true := by decide +kernel
def ed_law_1 : List (Nat × Instr × Nat) := [(387, .iaload, 1), (388, .invokevirtual 184, 3), (397, .iaload, 1), (398, .invokevirtual 187, 3), (401, .if_icmp .eq 3605, 3), (405, .ireturn, 1)]
theorem okd_law_1 : ed_law_1.all (okD code) = true := by decide +kernel
def f_law_1 (Ls : Nat) (xs : Nat → Int32) (S : St) (x m o : Nat) (i : Int32) (c : Nat) (kont : St → Nat → Option Unit) : Option Unit := sx Ls xs (i + 1) fun (v1 : Int32) => cl (f_X11_truncateInput S x v1) fun (o2 : Int32 × St) => sx Ls xs (i + 1) fun (v3 : Int32) => cl (f_X12_truncateInput o2.2 m v3) fun (o4 : Int32 × St) => if o2.1 = o4.1 then (kont o4.2 (c)) else (none)
set_option maxHeartbeats 4000000 in
set_option maxRecDepth 100000 in
theorem c_law_1 {Cn : Nat → CT} {b Ls : Nat} {xs : Nat → Int32} {Q : Unit → State → Prop} {x m o : Nat} {i : Int32} (hf : Fam Cn b Ls xs) (tx0 : tT (Cn 0) x 10) (tm0 : tT (Cn 0) m 11) (to0 : tT (Cn 0) o 14) (S : St) (c : Nat) (hc : c ≤ 512) (kont : St → Nat → Option Unit) (hk : ∀ (S : St) (c : Nat), c ≤ 512 → Jd (Cn c) 8 Q S 4006 [some (.ref b), some (.ref x), some (.ref m), some (.ref o), some (.int i), none, none, none] [] (kont S c)) : Jd (Cn c) 8 Q S 381 [some (.ref b), some (.ref x), some (.ref m), some (.ref o), some (.int i), none, none, none] [] (f_law_1 Ls xs S x m o i c kont) := by
  have X := hf.X hc
  have E := hf.E c
  have tx_ := hf.T c tx0
  have tm_ := hf.T c tm0
  have to_ := hf.T c to0
  unfold f_law_1
  refine s_run X ok_law_1 0 5 (pc' := 387) (vs' := [some (.ref b), some (.ref x), some (.ref m), some (.ref o), some (.int i), none, none, none]) (st' := [.int (i + 1), .ref b, .ref x]) rfl ?_
  refine s_sld hf (dk okd_law_1 0 rfl) (fun v1 => ?_)
  refine s_callV (b := x) (As := [.int v1]) (rest := []) X E mv_L_184 (c_X11_truncateInput S x v1) rfl (ta1 tx_) rfl (by decide) tx_ rfl rfl (Nat.le_of_ble_eq_true rfl) (Nat.le_of_ble_eq_true rfl) (Nat.le_of_ble_eq_true rfl) (dk okd_law_1 1 rfl) (st' := fun o2 => [.int o2.1]) (fun _ => rfl) (fun o2 => ?_)
  refine s_run X ok_law_1 5 5 (pc' := 397) (vs' := [some (.ref b), some (.ref x), some (.ref m), some (.ref o), some (.int i), none, none, none]) (st' := [.int (i + 1), .ref b, .ref m, .int o2.1]) rfl ?_
  refine s_sld hf (dk okd_law_1 2 rfl) (fun v3 => ?_)
  refine s_callV (b := m) (As := [.int v3]) (rest := [.int o2.1]) X E mv_L_187 (c_X12_truncateInput o2.2 m v3) rfl (ta1 tm_) rfl (by decide) tm_ rfl rfl (Nat.le_of_ble_eq_true rfl) (Nat.le_of_ble_eq_true rfl) (Nat.le_of_ble_eq_true rfl) (dk okd_law_1 3 rfl) (st' := fun o4 => [.int o4.1, .int o2.1]) (fun _ => rfl) (fun o4 => ?_)
  refine s_icmp_eq (tgt := 4006) X (dk okd_law_1 4 rfl) (by decide) ?_ ?_
  · exact s_less [true, true, true, true, true, false, false, false] rfl (hk o4.2 (c) hc)
  · refine s_run X ok_law_1 10 1 (pc' := 405) (vs' := [some (.ref b), some (.ref x), some (.ref m), some (.ref o), some (.int i), none, none, none]) (st' := [.int 0]) rfl ?_
    exact s_none
def tab_law_2 : List En := [(406, 8, 1, 0), (410, 8, 2, 0), (417, 0, 0, 0)]
theorem ok_law_2 : tab_law_2.all (okE code) = true := by decide +kernel
def ed_law_2 : List (Nat × Instr × Nat) := [(407, .invokevirtual 188, 3), (411, .invokevirtual 191, 3), (414, .if_icmp .eq 3592, 3), (418, .ireturn, 1)]
theorem okd_law_2 : ed_law_2.all (okD code) = true := by decide +kernel
def f_law_2 (Ls : Nat) (xs : Nat → Int32) (S : St) (x m o : Nat) (i : Int32) (c : Nat) (kont : St → Nat → Option Unit) : Option Unit := cl (f_X11_load S x) fun (o1 : Int32 × St) => cl (f_X12_load o1.2 m) fun (o2 : Int32 × St) => if o1.1 = o2.1 then (kont o2.2 (c)) else (none)
set_option maxHeartbeats 4000000 in
set_option maxRecDepth 100000 in
theorem c_law_2 {Cn : Nat → CT} {b Ls : Nat} {xs : Nat → Int32} {Q : Unit → State → Prop} {x m o : Nat} {i : Int32} (hf : Fam Cn b Ls xs) (tx0 : tT (Cn 0) x 10) (tm0 : tT (Cn 0) m 11) (to0 : tT (Cn 0) o 14) (S : St) (c : Nat) (hc : c ≤ 512) (kont : St → Nat → Option Unit) (hk : ∀ (S : St) (c : Nat), c ≤ 512 → Jd (Cn c) 8 Q S 4006 [some (.ref b), some (.ref x), some (.ref m), some (.ref o), some (.int i), none, none, none] [] (kont S c)) : Jd (Cn c) 8 Q S 406 [some (.ref b), some (.ref x), some (.ref m), some (.ref o), some (.int i), none, none, none] [] (f_law_2 Ls xs S x m o i c kont) := by
  have X := hf.X hc
  have E := hf.E c
  have tx_ := hf.T c tx0
  have tm_ := hf.T c tm0
  have to_ := hf.T c to0
  unfold f_law_2
  refine s_run X ok_law_2 0 1 (pc' := 407) (vs' := [some (.ref b), some (.ref x), some (.ref m), some (.ref o), some (.int i), none, none, none]) (st' := [.ref x]) rfl ?_
  refine s_callV (b := x) (As := []) (rest := []) X E mv_L_188 (c_X11_load S x) rfl (ta1 tx_) rfl (by decide) tx_ rfl rfl (Nat.le_of_ble_eq_true rfl) (Nat.le_of_ble_eq_true rfl) (Nat.le_of_ble_eq_true rfl) (dk okd_law_2 0 rfl) (st' := fun o1 => [.int o1.1]) (fun _ => rfl) (fun o1 => ?_)
  refine s_run X ok_law_2 1 1 (pc' := 411) (vs' := [some (.ref b), some (.ref x), some (.ref m), some (.ref o), some (.int i), none, none, none]) (st' := [.ref m, .int o1.1]) rfl ?_
  refine s_callV (b := m) (As := []) (rest := [.int o1.1]) X E mv_L_191 (c_X12_load o1.2 m) rfl (ta1 tm_) rfl (by decide) tm_ rfl rfl (Nat.le_of_ble_eq_true rfl) (Nat.le_of_ble_eq_true rfl) (Nat.le_of_ble_eq_true rfl) (dk okd_law_2 1 rfl) (st' := fun o2 => [.int o2.1, .int o1.1]) (fun _ => rfl) (fun o2 => ?_)
  refine s_icmp_eq (tgt := 4006) X (dk okd_law_2 2 rfl) (by decide) ?_ ?_
  · exact s_less [true, true, true, true, true, false, false, false] rfl (hk o2.2 (c) hc)
  · refine s_run X ok_law_2 2 1 (pc' := 418) (vs' := [some (.ref b), some (.ref x), some (.ref m), some (.ref o), some (.int i), none, none, none]) (st' := [.int 0]) rfl ?_
    exact s_none
def tab_law_3 : List En := [(419, 8, 1, 0), (423, 8, 2, 0), (430, 0, 0, 0)]
theorem ok_law_3 : tab_law_3.all (okE code) = true := by decide +kernel
def ed_law_3 : List (Nat × Instr × Nat) := [(420, .invokevirtual 192, 3), (424, .invokevirtual 195, 3), (427, .if_icmp .eq 3579, 3), (431, .ireturn, 1)]
theorem okd_law_3 : ed_law_3.all (okD code) = true := by decide +kernel
def f_law_3 (Ls : Nat) (xs : Nat → Int32) (S : St) (x m o : Nat) (i : Int32) (c : Nat) (kont : St → Nat → Option Unit) : Option Unit := cl (f_X11_errorCode S x) fun (v1 : Int32) => cl (f_X12_errorCode S m) fun (o2 : Int32 × St) => if v1 = o2.1 then (kont o2.2 (c)) else (none)
set_option maxHeartbeats 4000000 in
set_option maxRecDepth 100000 in
theorem c_law_3 {Cn : Nat → CT} {b Ls : Nat} {xs : Nat → Int32} {Q : Unit → State → Prop} {x m o : Nat} {i : Int32} (hf : Fam Cn b Ls xs) (tx0 : tT (Cn 0) x 10) (tm0 : tT (Cn 0) m 11) (to0 : tT (Cn 0) o 14) (S : St) (c : Nat) (hc : c ≤ 512) (kont : St → Nat → Option Unit) (hk : ∀ (S : St) (c : Nat), c ≤ 512 → Jd (Cn c) 8 Q S 4006 [some (.ref b), some (.ref x), some (.ref m), some (.ref o), some (.int i), none, none, none] [] (kont S c)) : Jd (Cn c) 8 Q S 419 [some (.ref b), some (.ref x), some (.ref m), some (.ref o), some (.int i), none, none, none] [] (f_law_3 Ls xs S x m o i c kont) := by
  have X := hf.X hc
  have E := hf.E c
  have tx_ := hf.T c tx0
  have tm_ := hf.T c tm0
  have to_ := hf.T c to0
  unfold f_law_3
  refine s_run X ok_law_3 0 1 (pc' := 420) (vs' := [some (.ref b), some (.ref x), some (.ref m), some (.ref o), some (.int i), none, none, none]) (st' := [.ref x]) rfl ?_
  refine s_callV (b := x) (As := []) (rest := []) X E mv_L_192 (c_X11_errorCode S x) rfl (ta1 tx_) rfl (by decide) tx_ rfl rfl (Nat.le_of_ble_eq_true rfl) (Nat.le_of_ble_eq_true rfl) (Nat.le_of_ble_eq_true rfl) (dk okd_law_3 0 rfl) (st' := fun v1 => [.int v1]) (fun _ => rfl) (fun v1 => ?_)
  refine s_run X ok_law_3 1 1 (pc' := 424) (vs' := [some (.ref b), some (.ref x), some (.ref m), some (.ref o), some (.int i), none, none, none]) (st' := [.ref m, .int v1]) rfl ?_
  refine s_callV (b := m) (As := []) (rest := [.int v1]) X E mv_L_195 (c_X12_errorCode S m) rfl (ta1 tm_) rfl (by decide) tm_ rfl rfl (Nat.le_of_ble_eq_true rfl) (Nat.le_of_ble_eq_true rfl) (Nat.le_of_ble_eq_true rfl) (dk okd_law_3 1 rfl) (st' := fun o2 => [.int o2.1, .int v1]) (fun _ => rfl) (fun o2 => ?_)
  refine s_icmp_eq (tgt := 4006) X (dk okd_law_3 2 rfl) (by decide) ?_ ?_
  · exact s_less [true, true, true, true, true, false, false, false] rfl (hk o2.2 (c) hc)
  · refine s_run X ok_law_3 2 1 (pc' := 431) (vs' := [some (.ref b), some (.ref x), some (.ref m), some (.ref o), some (.int i), none, none, none]) (st' := [.int 0]) rfl ?_
    exact s_none
def tab_law_4 : List En := [(432, 8, 1, 0), (436, 8, 2, 0), (443, 0, 0, 0)]
theorem ok_law_4 : tab_law_4.all (okE code) = true := by decide +kernel
def ed_law_4 : List (Nat × Instr × Nat) := [(433, .invokevirtual 196, 3), (437, .invokevirtual 199, 3), (440, .if_icmp .eq 3566, 3), (444, .ireturn, 1)]
theorem okd_law_4 : ed_law_4.all (okD code) = true := by decide +kernel
def f_law_4 (Ls : Nat) (xs : Nat → Int32) (S : St) (x m o : Nat) (i : Int32) (c : Nat) (kont : St → Nat → Option Unit) : Option Unit := cl (f_X11_errorPosition S x) fun (v1 : Int32) => cl (f_X12_errorPosition S m) fun (o2 : Int32 × St) => if v1 = o2.1 then (kont o2.2 (c)) else (none)
set_option maxHeartbeats 4000000 in
set_option maxRecDepth 100000 in
theorem c_law_4 {Cn : Nat → CT} {b Ls : Nat} {xs : Nat → Int32} {Q : Unit → State → Prop} {x m o : Nat} {i : Int32} (hf : Fam Cn b Ls xs) (tx0 : tT (Cn 0) x 10) (tm0 : tT (Cn 0) m 11) (to0 : tT (Cn 0) o 14) (S : St) (c : Nat) (hc : c ≤ 512) (kont : St → Nat → Option Unit) (hk : ∀ (S : St) (c : Nat), c ≤ 512 → Jd (Cn c) 8 Q S 4006 [some (.ref b), some (.ref x), some (.ref m), some (.ref o), some (.int i), none, none, none] [] (kont S c)) : Jd (Cn c) 8 Q S 432 [some (.ref b), some (.ref x), some (.ref m), some (.ref o), some (.int i), none, none, none] [] (f_law_4 Ls xs S x m o i c kont) := by
  have X := hf.X hc
  have E := hf.E c
  have tx_ := hf.T c tx0
  have tm_ := hf.T c tm0
  have to_ := hf.T c to0
  unfold f_law_4
  refine s_run X ok_law_4 0 1 (pc' := 433) (vs' := [some (.ref b), some (.ref x), some (.ref m), some (.ref o), some (.int i), none, none, none]) (st' := [.ref x]) rfl ?_
  refine s_callV (b := x) (As := []) (rest := []) X E mv_L_196 (c_X11_errorPosition S x) rfl (ta1 tx_) rfl (by decide) tx_ rfl rfl (Nat.le_of_ble_eq_true rfl) (Nat.le_of_ble_eq_true rfl) (Nat.le_of_ble_eq_true rfl) (dk okd_law_4 0 rfl) (st' := fun v1 => [.int v1]) (fun _ => rfl) (fun v1 => ?_)
  refine s_run X ok_law_4 1 1 (pc' := 437) (vs' := [some (.ref b), some (.ref x), some (.ref m), some (.ref o), some (.int i), none, none, none]) (st' := [.ref m, .int v1]) rfl ?_
  refine s_callV (b := m) (As := []) (rest := [.int v1]) X E mv_L_199 (c_X12_errorPosition S m) rfl (ta1 tm_) rfl (by decide) tm_ rfl rfl (Nat.le_of_ble_eq_true rfl) (Nat.le_of_ble_eq_true rfl) (Nat.le_of_ble_eq_true rfl) (dk okd_law_4 1 rfl) (st' := fun o2 => [.int o2.1, .int v1]) (fun _ => rfl) (fun o2 => ?_)
  refine s_icmp_eq (tgt := 4006) X (dk okd_law_4 2 rfl) (by decide) ?_ ?_
  · exact s_less [true, true, true, true, true, false, false, false] rfl (hk o2.2 (c) hc)
  · refine s_run X ok_law_4 2 1 (pc' := 444) (vs' := [some (.ref b), some (.ref x), some (.ref m), some (.ref o), some (.int i), none, none, none]) (st' := [.int 0]) rfl ?_
    exact s_none
def tab_law_5 : List En := [(445, 8, 1, 0), (449, 8, 2, 0), (456, 0, 0, 0)]
theorem ok_law_5 : tab_law_5.all (okE code) = true := by decide +kernel
def ed_law_5 : List (Nat × Instr × Nat) := [(446, .invokevirtual 200, 3), (450, .invokevirtual 203, 3), (453, .if_icmp .eq 3553, 3), (457, .ireturn, 1)]
theorem okd_law_5 : ed_law_5.all (okD code) = true := by decide +kernel
def f_law_5 (Ls : Nat) (xs : Nat → Int32) (S : St) (x m o : Nat) (i : Int32) (c : Nat) (kont : St → Nat → Option Unit) : Option Unit := cl (f_X11_find S x) fun (o1 : Int32 × St) => cl (f_X12_find o1.2 m) fun (o2 : Int32 × St) => if o1.1 = o2.1 then (kont o2.2 (c)) else (none)
set_option maxHeartbeats 4000000 in
set_option maxRecDepth 100000 in
theorem c_law_5 {Cn : Nat → CT} {b Ls : Nat} {xs : Nat → Int32} {Q : Unit → State → Prop} {x m o : Nat} {i : Int32} (hf : Fam Cn b Ls xs) (tx0 : tT (Cn 0) x 10) (tm0 : tT (Cn 0) m 11) (to0 : tT (Cn 0) o 14) (S : St) (c : Nat) (hc : c ≤ 512) (kont : St → Nat → Option Unit) (hk : ∀ (S : St) (c : Nat), c ≤ 512 → Jd (Cn c) 8 Q S 4006 [some (.ref b), some (.ref x), some (.ref m), some (.ref o), some (.int i), none, none, none] [] (kont S c)) : Jd (Cn c) 8 Q S 445 [some (.ref b), some (.ref x), some (.ref m), some (.ref o), some (.int i), none, none, none] [] (f_law_5 Ls xs S x m o i c kont) := by
  have X := hf.X hc
  have E := hf.E c
  have tx_ := hf.T c tx0
  have tm_ := hf.T c tm0
  have to_ := hf.T c to0
  unfold f_law_5
  refine s_run X ok_law_5 0 1 (pc' := 446) (vs' := [some (.ref b), some (.ref x), some (.ref m), some (.ref o), some (.int i), none, none, none]) (st' := [.ref x]) rfl ?_
  refine s_callV (b := x) (As := []) (rest := []) X E mv_L_200 (c_X11_find S x) rfl (ta1 tx_) rfl (by decide) tx_ rfl rfl (Nat.le_of_ble_eq_true rfl) (Nat.le_of_ble_eq_true rfl) (Nat.le_of_ble_eq_true rfl) (dk okd_law_5 0 rfl) (st' := fun o1 => [.int o1.1]) (fun _ => rfl) (fun o1 => ?_)
  refine s_run X ok_law_5 1 1 (pc' := 450) (vs' := [some (.ref b), some (.ref x), some (.ref m), some (.ref o), some (.int i), none, none, none]) (st' := [.ref m, .int o1.1]) rfl ?_
  refine s_callV (b := m) (As := []) (rest := [.int o1.1]) X E mv_L_203 (c_X12_find o1.2 m) rfl (ta1 tm_) rfl (by decide) tm_ rfl rfl (Nat.le_of_ble_eq_true rfl) (Nat.le_of_ble_eq_true rfl) (Nat.le_of_ble_eq_true rfl) (dk okd_law_5 1 rfl) (st' := fun o2 => [.int o2.1, .int o1.1]) (fun _ => rfl) (fun o2 => ?_)
  refine s_icmp_eq (tgt := 4006) X (dk okd_law_5 2 rfl) (by decide) ?_ ?_
  · exact s_less [true, true, true, true, true, false, false, false] rfl (hk o2.2 (c) hc)
  · refine s_run X ok_law_5 2 1 (pc' := 457) (vs' := [some (.ref b), some (.ref x), some (.ref m), some (.ref o), some (.int i), none, none, none]) (st' := [.int 0]) rfl ?_
    exact s_none
def tab_law_6 : List En := [(458, 8, 1, 0), (462, 8, 2, 0), (469, 0, 0, 0)]
theorem ok_law_6 : tab_law_6.all (okE code) = true := by decide +kernel
def ed_law_6 : List (Nat × Instr × Nat) := [(459, .invokevirtual 204, 3), (463, .invokevirtual 207, 3), (466, .if_icmp .eq 3540, 3), (470, .ireturn, 1)]
theorem okd_law_6 : ed_law_6.all (okD code) = true := by decide +kernel
def f_law_6 (Ls : Nat) (xs : Nat → Int32) (S : St) (x m o : Nat) (i : Int32) (c : Nat) (kont : St → Nat → Option Unit) : Option Unit := cl (f_X11_loadJournal S x) fun (o1 : Int32 × St) => cl (f_X12_loadJournal o1.2 m) fun (o2 : Int32 × St) => if o1.1 = o2.1 then (kont o2.2 (c)) else (none)
set_option maxHeartbeats 4000000 in
set_option maxRecDepth 100000 in
theorem c_law_6 {Cn : Nat → CT} {b Ls : Nat} {xs : Nat → Int32} {Q : Unit → State → Prop} {x m o : Nat} {i : Int32} (hf : Fam Cn b Ls xs) (tx0 : tT (Cn 0) x 10) (tm0 : tT (Cn 0) m 11) (to0 : tT (Cn 0) o 14) (S : St) (c : Nat) (hc : c ≤ 512) (kont : St → Nat → Option Unit) (hk : ∀ (S : St) (c : Nat), c ≤ 512 → Jd (Cn c) 8 Q S 4006 [some (.ref b), some (.ref x), some (.ref m), some (.ref o), some (.int i), none, none, none] [] (kont S c)) : Jd (Cn c) 8 Q S 458 [some (.ref b), some (.ref x), some (.ref m), some (.ref o), some (.int i), none, none, none] [] (f_law_6 Ls xs S x m o i c kont) := by
  have X := hf.X hc
  have E := hf.E c
  have tx_ := hf.T c tx0
  have tm_ := hf.T c tm0
  have to_ := hf.T c to0
  unfold f_law_6
  refine s_run X ok_law_6 0 1 (pc' := 459) (vs' := [some (.ref b), some (.ref x), some (.ref m), some (.ref o), some (.int i), none, none, none]) (st' := [.ref x]) rfl ?_
  refine s_callV (b := x) (As := []) (rest := []) X E mv_L_204 (c_X11_loadJournal S x) rfl (ta1 tx_) rfl (by decide) tx_ rfl rfl (Nat.le_of_ble_eq_true rfl) (Nat.le_of_ble_eq_true rfl) (Nat.le_of_ble_eq_true rfl) (dk okd_law_6 0 rfl) (st' := fun o1 => [.int o1.1]) (fun _ => rfl) (fun o1 => ?_)
  refine s_run X ok_law_6 1 1 (pc' := 463) (vs' := [some (.ref b), some (.ref x), some (.ref m), some (.ref o), some (.int i), none, none, none]) (st' := [.ref m, .int o1.1]) rfl ?_
  refine s_callV (b := m) (As := []) (rest := [.int o1.1]) X E mv_L_207 (c_X12_loadJournal o1.2 m) rfl (ta1 tm_) rfl (by decide) tm_ rfl rfl (Nat.le_of_ble_eq_true rfl) (Nat.le_of_ble_eq_true rfl) (Nat.le_of_ble_eq_true rfl) (dk okd_law_6 1 rfl) (st' := fun o2 => [.int o2.1, .int o1.1]) (fun _ => rfl) (fun o2 => ?_)
  refine s_icmp_eq (tgt := 4006) X (dk okd_law_6 2 rfl) (by decide) ?_ ?_
  · exact s_less [true, true, true, true, true, false, false, false] rfl (hk o2.2 (c) hc)
  · refine s_run X ok_law_6 2 1 (pc' := 470) (vs' := [some (.ref b), some (.ref x), some (.ref m), some (.ref o), some (.int i), none, none, none]) (st' := [.int 0]) rfl ?_
    exact s_none
def tab_law_7 : List En := [(471, 8, 1, 0), (472, 8, 0, 0), (473, 5, 4, 0), (475, 0, 0, 1), (476, 17, 0, 0), (478, 8, 3, 0), (482, 11, 5, 0), (484, 8, 2, 0), (485, 8, 0, 0), (486, 5, 4, 0), (488, 0, 0, 1), (489, 17, 0, 0), (494, 11, 6, 0), (496, 8, 2, 0), (500, 5, 5, 0), (505, 0, 0, 0), (507, 5, 5, 0), (512, 8, 3, 0), (513, 0, 0, 0), (515, 5, 6, 0), (517, 31, 0, 0), (518, 40, 0, 0), (522, 0, 0, 0), (524, 41, 4006, 0)]
theorem ok_law_7 : tab_law_7.all (okE code) = true := by decide +kernel
def ed_law_7 : List (Nat × Instr × Nat) := [(477, .iaload, 1), (479, .invokestatic 208, 3), (490, .iaload, 1), (491, .invokevirtual 213, 3), (497, .invokevirtual 214, 3), (502, .if_icmp .eq 5, 3), (506, .ireturn, 1), (509, .ifCond .ne 15, 3), (514, .laload, 1), (519, .ifCond .eq 5, 3), (523, .ireturn, 1)]
theorem okd_law_7 : ed_law_7.all (okD code) = true := by decide +kernel
def f_law_7 (Ls : Nat) (xs : Nat → Int32) (S : St) (x m o : Nat) (i : Int32) (c : Nat) (kont : St → Nat → Option Unit) : Option Unit := sx Ls xs (i + 1) fun (v1 : Int32) => cl (f_L_runJournal S x v1 o) fun (o2 : Int32 × St × Nat) => bud (c + o2.2.2) <| sx Ls xs (i + 1) fun (v4 : Int32) => cl (f_X12_runJournal o2.2.1 m v4) fun (o5 : Int32 × St) => cl (f_X12_thrown o5.2 m) fun (v6 : Int32) => if v6 = o2.1 then (jn (κ := Option (Unit)) (kont o5.2 ((c + o2.2.2))) fun k7 => if o2.1 = 0 then (ldJ o5.2 o 0 fun (v9 : Int64) => if v9 = (Int32.toInt64 o5.1) then (k7) else (none)) else (k7)) else (none)
set_option maxHeartbeats 4000000 in
set_option maxRecDepth 100000 in
theorem c_law_7 {Cn : Nat → CT} {b Ls : Nat} {xs : Nat → Int32} {Q : Unit → State → Prop} {x m o : Nat} {i : Int32} (hf : Fam Cn b Ls xs) (tx0 : tT (Cn 0) x 10) (tm0 : tT (Cn 0) m 11) (to0 : tT (Cn 0) o 14) (S : St) (c : Nat) (hc : c ≤ 512) (kont : St → Nat → Option Unit) (hk : ∀ (S : St) (c : Nat), c ≤ 512 → Jd (Cn c) 8 Q S 4006 [some (.ref b), some (.ref x), some (.ref m), some (.ref o), some (.int i), none, none, none] [] (kont S c)) : Jd (Cn c) 8 Q S 471 [some (.ref b), some (.ref x), some (.ref m), some (.ref o), some (.int i), none, none, none] [] (f_law_7 Ls xs S x m o i c kont) := by
  have X := hf.X hc
  have E := hf.E c
  have tx_ := hf.T c tx0
  have tm_ := hf.T c tm0
  have to_ := hf.T c to0
  unfold f_law_7
  refine s_run X ok_law_7 0 5 (pc' := 477) (vs' := [some (.ref b), some (.ref x), some (.ref m), some (.ref o), some (.int i), none, none, none]) (st' := [.int (i + 1), .ref b, .ref x]) rfl ?_
  refine s_sld hf (dk okd_law_7 0 rfl) (fun v1 => ?_)
  refine s_run X ok_law_7 5 1 (pc' := 479) (vs' := [some (.ref b), some (.ref x), some (.ref m), some (.ref o), some (.int i), none, none, none]) (st' := [.ref o, .int v1, .ref x]) rfl ?_
  refine s_callH (c0 := c) (As := [.ref x, .int v1, .ref o]) (rest := []) hf mh_L_208 (c_L_runJournal S x v1 o) (ta2 tx_ to_) rfl rfl (Nat.le_of_ble_eq_true rfl) (Nat.le_of_ble_eq_true rfl) (Nat.le_of_ble_eq_true rfl) (dk okd_law_7 1 rfl) (st' := fun o2 => [.int o2.1]) (fun _ => rfl) (fun o2 hb3 => ?_)
  have X := hf.X hb3
  have E := hf.E (c + o2.2.2)
  have tx_ := hf.T (c + o2.2.2) tx_
  have tm_ := hf.T (c + o2.2.2) tm_
  have to_ := hf.T (c + o2.2.2) to_
  refine s_run X ok_law_7 6 6 (pc' := 490) (vs' := [some (.ref b), some (.ref x), some (.ref m), some (.ref o), some (.int i), some (.int o2.1), none, none]) (st' := [.int (i + 1), .ref b, .ref m]) rfl ?_
  refine s_sld hf (dk okd_law_7 2 rfl) (fun v4 => ?_)
  refine s_callV (b := m) (As := [.int v4]) (rest := []) X E mv_L_213 (c_X12_runJournal o2.2.1 m v4) rfl (ta1 tm_) rfl (by decide) tm_ rfl rfl (Nat.le_of_ble_eq_true rfl) (Nat.le_of_ble_eq_true rfl) (Nat.le_of_ble_eq_true rfl) (dk okd_law_7 3 rfl) (st' := fun o5 => [.int o5.1]) (fun _ => rfl) (fun o5 => ?_)
  refine s_run X ok_law_7 12 2 (pc' := 497) (vs' := [some (.ref b), some (.ref x), some (.ref m), some (.ref o), some (.int i), some (.int o2.1), some (.int o5.1), none]) (st' := [.ref m]) rfl ?_
  refine s_callV (b := m) (As := []) (rest := []) X E mv_L_214 (c_X12_thrown o5.2 m) rfl (ta1 tm_) rfl (by decide) tm_ rfl rfl (Nat.le_of_ble_eq_true rfl) (Nat.le_of_ble_eq_true rfl) (Nat.le_of_ble_eq_true rfl) (dk okd_law_7 4 rfl) (st' := fun v6 => [.int v6]) (fun _ => rfl) (fun v6 => ?_)
  refine s_run X ok_law_7 14 1 (pc' := 502) (vs' := [some (.ref b), some (.ref x), some (.ref m), some (.ref o), some (.int i), some (.int o2.1), some (.int o5.1), none]) (st' := [.int o2.1, .int v6]) rfl ?_
  refine s_icmp_eq (tgt := 507) X (dk okd_law_7 5 rfl) (by decide) ?_ ?_
  · refine s_run X ok_law_7 16 1 (pc' := 509) (vs' := [some (.ref b), some (.ref x), some (.ref m), some (.ref o), some (.int i), some (.int o2.1), some (.int o5.1), none]) (st' := [.int o2.1]) rfl ?_
    refine s_jn (κ := Option (Unit)) (fun k7 => Jd (Cn (c + o2.2.2)) 8 Q o5.2 524 [some (.ref b), some (.ref x), some (.ref m), some (.ref o), some (.int i), none, none, none] [] k7) ?_ (fun k7 h8 => ?_)
    · refine s_run X ok_law_7 23 1 (pc' := 4006) (vs' := [some (.ref b), some (.ref x), some (.ref m), some (.ref o), some (.int i), none, none, none]) (st' := []) rfl ?_
      exact s_less [true, true, true, true, true, false, false, false] rfl (hk o5.2 ((c + o2.2.2)) hb3)
    · refine s_if_ne (tgt := 524) X (dk okd_law_7 7 rfl) (by decide) ?_ ?_
      · exact s_less [true, true, true, true, true, false, false, false] rfl (h8)
      · refine s_run X ok_law_7 17 2 (pc' := 514) (vs' := [some (.ref b), some (.ref x), some (.ref m), some (.ref o), some (.int i), some (.int o2.1), some (.int o5.1), none]) (st' := [.int 0, .ref o]) rfl ?_
        refine s_lald X to_ (dk okd_law_7 8 rfl) (fun v9 => ?_)
        refine s_run X ok_law_7 19 3 (pc' := 519) (vs' := [some (.ref b), some (.ref x), some (.ref m), some (.ref o), some (.int i), some (.int o2.1), some (.int o5.1), none]) (st' := [.int (lg_cmp v9 (Int32.toInt64 o5.1))]) rfl ?_
        refine s_lif_eq (tgt := 524) X (dk okd_law_7 9 rfl) (by decide) ?_ ?_
        · exact s_less [true, true, true, true, true, false, false, false] rfl (h8)
        · refine s_run X ok_law_7 22 1 (pc' := 523) (vs' := [some (.ref b), some (.ref x), some (.ref m), some (.ref o), some (.int i), some (.int o2.1), some (.int o5.1), none]) (st' := [.int 0]) rfl ?_
          exact s_none
  · refine s_run X ok_law_7 15 1 (pc' := 506) (vs' := [some (.ref b), some (.ref x), some (.ref m), some (.ref o), some (.int i), some (.int o2.1), some (.int o5.1), none]) (st' := [.int 0]) rfl ?_
    exact s_none
