theorem mh_L_208 : MH RL 208 yL_runJournal cL_runJournal 4 [(0, 9, 12, 13)] 3 := ⟨TT_4 (i := 129) rfl rfl, TT_4 (i := 130) rfl rfl, TT_1 (i := 0) rfl rfl, TT_4 (i := 131) rfl rfl, ⟨by decide, by decide, by decide +kernel⟩⟩
theorem mh_L_225 : MH RL 225 yL_owner cL_owner 5 [(0, 10, 13, 13)] 4 := ⟨TT_5 (i := 133) rfl rfl, TT_5 (i := 134) rfl rfl, TT_1 (i := 0) rfl rfl, TT_5 (i := 135) rfl rfl, ⟨by decide, by decide, by decide +kernel⟩⟩
theorem mh_L_229 : MH RL 229 yL_area cL_area 4 [(0, 9, 12, 22)] 3 := ⟨TT_5 (i := 142) rfl rfl, TT_5 (i := 143) rfl rfl, TT_1 (i := 0) rfl rfl, TT_5 (i := 144) rfl rfl, ⟨by decide, by decide, by decide +kernel⟩⟩
theorem mh_L_232 : MH RL 232 yL_perimeter cL_perimeter 4 [(0, 9, 12, 22)] 3 := ⟨TT_5 (i := 175) rfl rfl, TT_5 (i := 176) rfl rfl, TT_1 (i := 0) rfl rfl, TT_5 (i := 177) rfl rfl, ⟨by decide, by decide, by decide +kernel⟩⟩
theorem mh_L_235 : MH RL 235 yL_border cL_border 5 [(0, 10, 13, 22)] 4 := ⟨TT_5 (i := 190) rfl rfl, TT_5 (i := 191) rfl rfl, TT_1 (i := 0) rfl rfl, TT_5 (i := 192) rfl rfl, ⟨by decide, by decide, by decide +kernel⟩⟩
theorem mh_L_238 : MH RL 238 yL_isConnected cL_isConnected 4 [(0, 16, 19, 22)] 3 := ⟨TT_5 (i := 201) rfl rfl, TT_5 (i := 202) rfl rfl, TT_1 (i := 0) rfl rfl, TT_5 (i := 203) rfl rfl, ⟨by decide, by decide, by decide +kernel⟩⟩
theorem mh_L_241 : MH RL 241 yL_distance cL_distance 6 [(0, 12, 15, 22), (0, 12, 19, 13)] 5 := ⟨TT_5 (i := 217) rfl rfl, TT_5 (i := 218) rfl rfl, TT_1 (i := 0) rfl rfl, TT_5 (i := 219) rfl rfl, ⟨by decide, by decide, by decide +kernel⟩⟩
theorem mh_L_245 : MH RL 245 yL_cede cL_cede 9 [(0, 18, 21, 22), (0, 18, 25, 13)] 8 := ⟨TT_5 (i := 230) rfl rfl, TT_5 (i := 231) rfl rfl, TT_1 (i := 0) rfl rfl, TT_5 (i := 232) rfl rfl, ⟨by decide, by decide, by decide +kernel⟩⟩
theorem mh_L_249 : MH RL 249 yL_outletOwner cL_outletOwner 4 [(0, 9, 12, 22)] 3 := ⟨TT_6 (i := 4) rfl rfl, TT_6 (i := 5) rfl rfl, TT_1 (i := 0) rfl rfl, TT_6 (i := 6) rfl rfl, ⟨by decide, by decide, by decide +kernel⟩⟩
theorem mh_L_252 : MH RL 252 yL_outletCell cL_outletCell 4 [(0, 9, 12, 22)] 3 := ⟨TT_6 (i := 17) rfl rfl, TT_6 (i := 18) rfl rfl, TT_1 (i := 0) rfl rfl, TT_6 (i := 19) rfl rfl, ⟨by decide, by decide, by decide +kernel⟩⟩
theorem mh_L_255 : MH RL 255 yL_openOutlet cL_openOutlet 6 [(0, 12, 15, 22), (0, 12, 19, 13)] 5 := ⟨TT_6 (i := 27) rfl rfl, TT_6 (i := 28) rfl rfl, TT_1 (i := 0) rfl rfl, TT_6 (i := 29) rfl rfl, ⟨by decide, by decide, by decide +kernel⟩⟩
theorem mh_L_258 : MH RL 258 yL_bestSite cL_bestSite 4 [(0, 9, 12, 22)] 3 := ⟨TT_6 (i := 36) rfl rfl, TT_6 (i := 37) rfl rfl, TT_1 (i := 0) rfl rfl, TT_6 (i := 38) rfl rfl, ⟨by decide, by decide, by decide +kernel⟩⟩
theorem mv_L_179 : MV RL 179 yX11_appendInput cX11_appendInput 6 (some .int) 5 := ⟨TT_2 (i := 218) rfl rfl, TT_2 (i := 219) rfl rfl, TT_2 (i := 220) rfl rfl, TT_1 (i := 1) rfl rfl, TT_2 (i := 221) rfl rfl, ⟨by decide, by decide, by decide +kernel⟩⟩
theorem mv_L_183 : MV RL 183 yX12_appendInput cX12_appendInput 6 (some .int) 5 := ⟨TT_10 (i := 31) rfl rfl, TT_10 (i := 32) rfl rfl, TT_10 (i := 33) rfl rfl, TT_1 (i := 13) rfl rfl, TT_10 (i := 34) rfl rfl, ⟨by decide, by decide, by decide +kernel⟩⟩
theorem mv_L_184 : MV RL 184 yX11_truncateInput cX11_truncateInput 2 (some .int) 1 := ⟨TT_2 (i := 226) rfl rfl, TT_2 (i := 227) rfl rfl, TT_2 (i := 228) rfl rfl, TT_1 (i := 1) rfl rfl, TT_2 (i := 229) rfl rfl, ⟨by decide, by decide, by decide +kernel⟩⟩
theorem mv_L_187 : MV RL 187 yX12_truncateInput cX12_truncateInput 2 (some .int) 1 := ⟨TT_10 (i := 39) rfl rfl, TT_10 (i := 40) rfl rfl, TT_10 (i := 41) rfl rfl, TT_1 (i := 13) rfl rfl, TT_10 (i := 42) rfl rfl, ⟨by decide, by decide, by decide +kernel⟩⟩
theorem mv_L_188 : MV RL 188 yX11_load cX11_load 4 (some .int) 0 := ⟨TT_2 (i := 230) rfl rfl, TT_2 (i := 231) rfl rfl, TT_2 (i := 232) rfl rfl, TT_1 (i := 1) rfl rfl, TT_2 (i := 233) rfl rfl, ⟨by decide, by decide, by decide +kernel⟩⟩
theorem mv_L_191 : MV RL 191 yX12_load cX12_load 2 (some .int) 0 := ⟨TT_10 (i := 51) rfl rfl, TT_10 (i := 52) rfl rfl, TT_10 (i := 53) rfl rfl, TT_1 (i := 13) rfl rfl, TT_10 (i := 54) rfl rfl, ⟨by decide, by decide, by decide +kernel⟩⟩
theorem mv_L_192 : MV RL 192 yX11_errorCode cX11_errorCode 1 (some .int) 0 := ⟨TT_3 (i := 206) rfl rfl, TT_3 (i := 207) rfl rfl, TT_3 (i := 208) rfl rfl, TT_1 (i := 1) rfl rfl, TT_3 (i := 209) rfl rfl, ⟨by decide, by decide, by decide +kernel⟩⟩
theorem mv_L_195 : MV RL 195 yX12_errorCode cX12_errorCode 1 (some .int) 0 := ⟨TT_10 (i := 43) rfl rfl, TT_10 (i := 44) rfl rfl, TT_10 (i := 45) rfl rfl, TT_1 (i := 13) rfl rfl, TT_10 (i := 46) rfl rfl, ⟨by decide, by decide, by decide +kernel⟩⟩
theorem mv_L_196 : MV RL 196 yX11_errorPosition cX11_errorPosition 1 (some .int) 0 := ⟨TT_3 (i := 210) rfl rfl, TT_3 (i := 211) rfl rfl, TT_3 (i := 212) rfl rfl, TT_1 (i := 1) rfl rfl, TT_3 (i := 213) rfl rfl, ⟨by decide, by decide, by decide +kernel⟩⟩
theorem mv_L_199 : MV RL 199 yX12_errorPosition cX12_errorPosition 1 (some .int) 0 := ⟨TT_10 (i := 47) rfl rfl, TT_10 (i := 48) rfl rfl, TT_10 (i := 49) rfl rfl, TT_1 (i := 13) rfl rfl, TT_10 (i := 50) rfl rfl, ⟨by decide, by decide, by decide +kernel⟩⟩
theorem mv_L_200 : MV RL 200 yX11_find cX11_find 2 (some .int) 0 := ⟨TT_3 (i := 214) rfl rfl, TT_3 (i := 215) rfl rfl, TT_3 (i := 216) rfl rfl, TT_1 (i := 1) rfl rfl, TT_3 (i := 217) rfl rfl, ⟨by decide, by decide, by decide +kernel⟩⟩
theorem mv_L_203 : MV RL 203 yX12_find cX12_find 5 (some .int) 0 := ⟨TT_10 (i := 195) rfl rfl, TT_10 (i := 196) rfl rfl, TT_10 (i := 197) rfl rfl, TT_1 (i := 13) rfl rfl, TT_10 (i := 198) rfl rfl, ⟨by decide, by decide, by decide +kernel⟩⟩
theorem mv_L_204 : MV RL 204 yX11_loadJournal cX11_loadJournal 2 (some .int) 0 := ⟨TT_3 (i := 219) rfl rfl, TT_3 (i := 220) rfl rfl, TT_3 (i := 221) rfl rfl, TT_1 (i := 1) rfl rfl, TT_3 (i := 222) rfl rfl, ⟨by decide, by decide, by decide +kernel⟩⟩
theorem mv_L_207 : MV RL 207 yX12_loadJournal cX12_loadJournal 3 (some .int) 0 := ⟨TT_10 (i := 141) rfl rfl, TT_10 (i := 142) rfl rfl, TT_10 (i := 143) rfl rfl, TT_1 (i := 13) rfl rfl, TT_10 (i := 144) rfl rfl, ⟨by decide, by decide, by decide +kernel⟩⟩
theorem mv_L_213 : MV RL 213 yX12_runJournal cX12_runJournal 4 (some .int) 1 := ⟨TT_10 (i := 171) rfl rfl, TT_10 (i := 172) rfl rfl, TT_10 (i := 173) rfl rfl, TT_1 (i := 13) rfl rfl, TT_10 (i := 174) rfl rfl, ⟨by decide, by decide, by decide +kernel⟩⟩
theorem mv_L_214 : MV RL 214 yX12_thrown cX12_thrown 1 (some .int) 0 := ⟨TT_8 (i := 52) rfl rfl, TT_8 (i := 53) rfl rfl, TT_8 (i := 54) rfl rfl, TT_1 (i := 13) rfl rfl, TT_8 (i := 55) rfl rfl, ⟨by decide, by decide, by decide +kernel⟩⟩
theorem mv_L_217 : MV RL 217 yX11_count cX11_count 2 (some .int) 1 := ⟨TT_4 (i := 27) rfl rfl, TT_4 (i := 28) rfl rfl, TT_4 (i := 29) rfl rfl, TT_1 (i := 1) rfl rfl, TT_4 (i := 30) rfl rfl, ⟨by decide, by decide, by decide +kernel⟩⟩
theorem mv_L_220 : MV RL 220 yX12_count cX12_count 2 (some .int) 1 := ⟨TT_8 (i := 71) rfl rfl, TT_8 (i := 72) rfl rfl, TT_8 (i := 73) rfl rfl, TT_1 (i := 13) rfl rfl, TT_8 (i := 74) rfl rfl, ⟨by decide, by decide, by decide +kernel⟩⟩
theorem mv_L_221 : MV RL 221 yX11_month cX11_month 1 (some .int) 0 := ⟨TT_4 (i := 31) rfl rfl, TT_4 (i := 32) rfl rfl, TT_4 (i := 33) rfl rfl, TT_1 (i := 1) rfl rfl, TT_4 (i := 34) rfl rfl, ⟨by decide, by decide, by decide +kernel⟩⟩
theorem mv_L_224 : MV RL 224 yX12_month cX12_month 1 (some .int) 0 := ⟨TT_8 (i := 75) rfl rfl, TT_8 (i := 76) rfl rfl, TT_8 (i := 77) rfl rfl, TT_1 (i := 13) rfl rfl, TT_8 (i := 78) rfl rfl, ⟨by decide, by decide, by decide +kernel⟩⟩
theorem mv_L_228 : MV RL 228 yX12_owner cX12_owner 3 (some .int) 2 := ⟨TT_8 (i := 79) rfl rfl, TT_8 (i := 80) rfl rfl, TT_8 (i := 81) rfl rfl, TT_1 (i := 13) rfl rfl, TT_8 (i := 82) rfl rfl, ⟨by decide, by decide, by decide +kernel⟩⟩
theorem mv_L_231 : MV RL 231 yX12_area cX12_area 2 (some .int) 1 := ⟨TT_8 (i := 95) rfl rfl, TT_8 (i := 96) rfl rfl, TT_8 (i := 97) rfl rfl, TT_1 (i := 13) rfl rfl, TT_8 (i := 98) rfl rfl, ⟨by decide, by decide, by decide +kernel⟩⟩
theorem mv_L_234 : MV RL 234 yX12_perimeter cX12_perimeter 4 (some .int) 1 := ⟨TT_8 (i := 107) rfl rfl, TT_8 (i := 108) rfl rfl, TT_8 (i := 109) rfl rfl, TT_1 (i := 13) rfl rfl, TT_8 (i := 110) rfl rfl, ⟨by decide, by decide, by decide +kernel⟩⟩
theorem mv_L_237 : MV RL 237 yX12_border cX12_border 5 (some .int) 2 := ⟨TT_8 (i := 119) rfl rfl, TT_8 (i := 120) rfl rfl, TT_8 (i := 121) rfl rfl, TT_1 (i := 13) rfl rfl, TT_8 (i := 122) rfl rfl, ⟨by decide, by decide, by decide +kernel⟩⟩
theorem mv_L_240 : MV RL 240 yX12_isConnected cX12_isConnected 2 (some .boolean) 1 := ⟨TT_8 (i := 123) rfl rfl, TT_8 (i := 124) rfl rfl, TT_8 (i := 125) rfl rfl, TT_1 (i := 13) rfl rfl, TT_8 (i := 126) rfl rfl, ⟨by decide, by decide, by decide +kernel⟩⟩
theorem mv_L_244 : MV RL 244 yX12_distance cX12_distance 6 (some .int) 3 := ⟨TT_8 (i := 135) rfl rfl, TT_8 (i := 136) rfl rfl, TT_8 (i := 137) rfl rfl, TT_1 (i := 13) rfl rfl, TT_8 (i := 138) rfl rfl, ⟨by decide, by decide, by decide +kernel⟩⟩
theorem mv_L_248 : MV RL 248 yX12_cede cX12_cede 10 (some .int) 6 := ⟨TT_8 (i := 145) rfl rfl, TT_8 (i := 146) rfl rfl, TT_8 (i := 147) rfl rfl, TT_1 (i := 13) rfl rfl, TT_8 (i := 148) rfl rfl, ⟨by decide, by decide, by decide +kernel⟩⟩
theorem mv_L_251 : MV RL 251 yX12_outletOwner cX12_outletOwner 2 (some .int) 1 := ⟨TT_8 (i := 184) rfl rfl, TT_8 (i := 185) rfl rfl, TT_8 (i := 186) rfl rfl, TT_1 (i := 13) rfl rfl, TT_8 (i := 187) rfl rfl, ⟨by decide, by decide, by decide +kernel⟩⟩
theorem mv_L_254 : MV RL 254 yX12_outletCell cX12_outletCell 2 (some .int) 1 := ⟨TT_8 (i := 192) rfl rfl, TT_8 (i := 193) rfl rfl, TT_8 (i := 194) rfl rfl, TT_1 (i := 13) rfl rfl, TT_8 (i := 195) rfl rfl, ⟨by decide, by decide, by decide +kernel⟩⟩
theorem mv_L_257 : MV RL 257 yX12_openOutlet cX12_openOutlet 4 (some .int) 3 := ⟨TT_8 (i := 197) rfl rfl, TT_8 (i := 198) rfl rfl, TT_8 (i := 199) rfl rfl, TT_1 (i := 13) rfl rfl, TT_8 (i := 200) rfl rfl, ⟨by decide, by decide, by decide +kernel⟩⟩
theorem mv_L_260 : MV RL 260 yX12_bestSite cX12_bestSite 4 (some .int) 1 := ⟨TT_8 (i := 206) rfl rfl, TT_8 (i := 207) rfl rfl, TT_8 (i := 208) rfl rfl, TT_1 (i := 13) rfl rfl, TT_8 (i := 209) rfl rfl, ⟨by decide, by decide, by decide +kernel⟩⟩
def tab_law_0 : List En := [(308, 8, 1, 0), (309, 8, 0, 0), (310, 5, 4, 0), (312, 0, 0, 1), (313, 17, 0, 0), (315, 8, 0, 0), (316, 5, 4, 0), (318, 0, 0, 2), (319, 17, 0, 0), (321, 8, 0, 0), (322, 5, 4, 0), (324, 0, 0, 3), (325, 17, 0, 0), (327, 8, 0, 0), (328, 5, 4, 0), (330, 0, 0, 4), (331, 17, 0, 0), (333, 8, 0, 0), (334, 5, 4, 0), (336, 0, 0, 5), (337, 17, 0, 0), (342, 8, 2, 0), (343, 8, 0, 0), (344, 5, 4, 0), (346, 0, 0, 1), (347, 17, 0, 0), (349, 8, 0, 0), (350, 5, 4, 0), (352, 0, 0, 2), (353, 17, 0, 0), (355, 8, 0, 0), (356, 5, 4, 0), (358, 0, 0, 3), (359, 17, 0, 0), (361, 8, 0, 0), (362, 5, 4, 0), (364, 0, 0, 4), (365, 17, 0, 0), (367, 8, 0, 0), (368, 5, 4, 0), (370, 0, 0, 5), (371, 17, 0, 0), (379, 0, 0, 0)]
theorem ok_law_0 : tab_law_0.all (okE code) = true := by decide +kernel
def ed_law_0 : List (Nat × Instr × Nat) := [(314, .iaload, 1), (320, .iaload, 1), (326, .iaload, 1), (332, .iaload, 1), (338, .iaload, 1), (339, .invokevirtual 179, 3), (348, .iaload, 1), (354, .iaload, 1), (360, .iaload, 1), (366, .iaload, 1), (372, .iaload, 1), (373, .invokevirtual 183, 3), (376, .if_icmp .eq 3630, 3), (380, .ireturn, 1)]
theorem okd_law_0 : ed_law_0.all (okD code) = true := by decide +kernel
def f_law_0 (Ls : Nat) (xs : Nat → Int32) (S : St) (x m o : Nat) (i : Int32) (c : Nat) (kont : St → Nat → Option Unit) : Option Unit := sx Ls xs (i + 1) fun (v1 : Int32) => sx Ls xs (i + 2) fun (v2 : Int32) => sx Ls xs (i + 3) fun (v3 : Int32) => sx Ls xs (i + 4) fun (v4 : Int32) => sx Ls xs (i + 5) fun (v5 : Int32) => cl (f_X11_appendInput S x v1 v2 v3 v4 v5) fun (o6 : Int32 × St) => sx Ls xs (i + 1) fun (v7 : Int32) => sx Ls xs (i + 2) fun (v8 : Int32) => sx Ls xs (i + 3) fun (v9 : Int32) => sx Ls xs (i + 4) fun (v10 : Int32) => sx Ls xs (i + 5) fun (v11 : Int32) => cl (f_X12_appendInput o6.2 m v7 v8 v9 v10 v11) fun (o12 : Int32 × St) => if o6.1 = o12.1 then (kont o12.2 (c)) else (none)
set_option maxHeartbeats 4000000 in
set_option maxRecDepth 100000 in
theorem c_law_0 {Cn : Nat → CT} {b Ls : Nat} {xs : Nat → Int32} {Q : Unit → State → Prop} {x m o : Nat} {i : Int32} (hf : Fam Cn b Ls xs) (tx0 : tT (Cn 0) x 10) (tm0 : tT (Cn 0) m 11) (to0 : tT (Cn 0) o 14) (S : St) (c : Nat) (hc : c ≤ 512) (kont : St → Nat → Option Unit) (hk : ∀ (S : St) (c : Nat), c ≤ 512 → Jd (Cn c) 8 Q S 4006 [some (.ref b), some (.ref x), some (.ref m), some (.ref o), some (.int i), none, none, none] [] (kont S c)) : Jd (Cn c) 8 Q S 308 [some (.ref b), some (.ref x), some (.ref m), some (.ref o), some (.int i), none, none, none] [] (f_law_0 Ls xs S x m o i c kont) := by
  have X := hf.X hc
  have E := hf.E c
  have tx_ := hf.T c tx0
  have tm_ := hf.T c tm0
  have to_ := hf.T c to0
  unfold f_law_0
  refine s_run X ok_law_0 0 5 (pc' := 314) (vs' := [some (.ref b), some (.ref x), some (.ref m), some (.ref o), some (.int i), none, none, none]) (st' := [.int (i + 1), .ref b, .ref x]) rfl ?_
  refine s_sld hf (dk okd_law_0 0 rfl) (fun v1 => ?_)
  refine s_run X ok_law_0 5 4 (pc' := 320) (vs' := [some (.ref b), some (.ref x), some (.ref m), some (.ref o), some (.int i), none, none, none]) (st' := [.int (i + 2), .ref b, .int v1, .ref x]) rfl ?_
  refine s_sld hf (dk okd_law_0 1 rfl) (fun v2 => ?_)
  refine s_run X ok_law_0 9 4 (pc' := 326) (vs' := [some (.ref b), some (.ref x), some (.ref m), some (.ref o), some (.int i), none, none, none]) (st' := [.int (i + 3), .ref b, .int v2, .int v1, .ref x]) rfl ?_
  refine s_sld hf (dk okd_law_0 2 rfl) (fun v3 => ?_)
  refine s_run X ok_law_0 13 4 (pc' := 332) (vs' := [some (.ref b), some (.ref x), some (.ref m), some (.ref o), some (.int i), none, none, none]) (st' := [.int (i + 4), .ref b, .int v3, .int v2, .int v1, .ref x]) rfl ?_
  refine s_sld hf (dk okd_law_0 3 rfl) (fun v4 => ?_)
  refine s_run X ok_law_0 17 4 (pc' := 338) (vs' := [some (.ref b), some (.ref x), some (.ref m), some (.ref o), some (.int i), none, none, none]) (st' := [.int (i + 5), .ref b, .int v4, .int v3, .int v2, .int v1, .ref x]) rfl ?_
  refine s_sld hf (dk okd_law_0 4 rfl) (fun v5 => ?_)
  refine s_callV (b := x) (As := [.int v1, .int v2, .int v3, .int v4, .int v5]) (rest := []) X E mv_L_179 (c_X11_appendInput S x v1 v2 v3 v4 v5) rfl (ta1 tx_) rfl (by decide) tx_ rfl rfl (Nat.le_of_ble_eq_true rfl) (Nat.le_of_ble_eq_true rfl) (Nat.le_of_ble_eq_true rfl) (dk okd_law_0 5 rfl) (st' := fun o6 => [.int o6.1]) (fun _ => rfl) (fun o6 => ?_)
  refine s_run X ok_law_0 21 5 (pc' := 348) (vs' := [some (.ref b), some (.ref x), some (.ref m), some (.ref o), some (.int i), none, none, none]) (st' := [.int (i + 1), .ref b, .ref m, .int o6.1]) rfl ?_
  refine s_sld hf (dk okd_law_0 6 rfl) (fun v7 => ?_)
  refine s_run X ok_law_0 26 4 (pc' := 354) (vs' := [some (.ref b), some (.ref x), some (.ref m), some (.ref o), some (.int i), none, none, none]) (st' := [.int (i + 2), .ref b, .int v7, .ref m, .int o6.1]) rfl ?_
  refine s_sld hf (dk okd_law_0 7 rfl) (fun v8 => ?_)
  refine s_run X ok_law_0 30 4 (pc' := 360) (vs' := [some (.ref b), some (.ref x), some (.ref m), some (.ref o), some (.int i), none, none, none]) (st' := [.int (i + 3), .ref b, .int v8, .int v7, .ref m, .int o6.1]) rfl ?_
  refine s_sld hf (dk okd_law_0 8 rfl) (fun v9 => ?_)
  refine s_run X ok_law_0 34 4 (pc' := 366) (vs' := [some (.ref b), some (.ref x), some (.ref m), some (.ref o), some (.int i), none, none, none]) (st' := [.int (i + 4), .ref b, .int v9, .int v8, .int v7, .ref m, .int o6.1]) rfl ?_
  refine s_sld hf (dk okd_law_0 9 rfl) (fun v10 => ?_)
  refine s_run X ok_law_0 38 4 (pc' := 372) (vs' := [some (.ref b), some (.ref x), some (.ref m), some (.ref o), some (.int i), none, none, none]) (st' := [.int (i + 5), .ref b, .int v10, .int v9, .int v8, .int v7, .ref m, .int o6.1]) rfl ?_
  refine s_sld hf (dk okd_law_0 10 rfl) (fun v11 => ?_)
  refine s_callV (b := m) (As := [.int v7, .int v8, .int v9, .int v10, .int v11]) (rest := [.int o6.1]) X E mv_L_183 (c_X12_appendInput o6.2 m v7 v8 v9 v10 v11) rfl (ta1 tm_) rfl (by decide) tm_ rfl rfl (Nat.le_of_ble_eq_true rfl) (Nat.le_of_ble_eq_true rfl) (Nat.le_of_ble_eq_true rfl) (dk okd_law_0 11 rfl) (st' := fun o12 => [.int o12.1, .int o6.1]) (fun _ => rfl) (fun o12 => ?_)
  refine s_icmp_eq (tgt := 4006) X (dk okd_law_0 12 rfl) (by decide) ?_ ?_
  · exact s_less [true, true, true, true, true, false, false, false] rfl (hk o12.2 (c) hc)
  · refine s_run X ok_law_0 42 1 (pc' := 380) (vs' := [some (.ref b), some (.ref x), some (.ref m), some (.ref o), some (.int i), none, none, none]) (st' := [.int 0]) rfl ?_
    exact s_none
def tab_law_1 : List En := [(381, 8, 1, 0), (382, 8, 0, 0), (383, 5, 4, 0), (385, 0, 0, 1), (386, 17, 0, 0), (391, 8, 2, 0), (392, 8, 0, 0), (393, 5, 4, 0), (395, 0, 0, 1), (396, 17, 0, 0), (404, 0, 0, 0)]
theorem ok_law_1 : tab_law_1.all (okE code) = true := by decide +kernel
def ed_law_1 : List (Nat × Instr × Nat) := [(387, .iaload, 1), (388, .invokevirtual 184, 3), (397, .iaload, 1), (398, .invokevirtual 187, 3), (401, .if_icmp .eq 3605, 3), (405, .ireturn, 1)]
theorem okd_law_1 : ed_law_1.all (okD code) = true := by decide +kernel
def f_law_1 (Ls : Nat) (xs : Nat → Int32) (S : St) (x m o : Nat) (i : Int32) (c : Nat) (kont : St → Nat → Option Unit) : Option Unit := sx Ls xs (i + 1) fun (v1 : Int32) => cl (f_X11_truncateInput S x v1) fun (o2 : Int32 × St) => sx Ls xs (i + 1) fun (v3 : Int32) => cl (f_X12_truncateInput o2.2 m v3) fun (o4 : Int32 × St) => if o2.1 = o4.1 then (kont o4.2 (c)) else (none)
set_option maxHeartbeats 4000000 in
set_option maxRecDepth 100000 in
theorem c_law_1 {Cn : Nat → CT} {b Ls : Nat} {xs : Nat → Int32} {Q : Unit → State → Prop} {x m o : Nat} {i : Int32} (hf : Fam Cn b Ls xs) (tx0 : tT (Cn 0) x 10) (tm0 : tT (Cn 0) m 11) (to0 : tT (Cn 0) o 14) (S : St) (c : Nat) (hc : c ≤ 512) (kont : St → Nat → Option Unit) (hk : ∀ (S : St) (c : Nat), c ≤ 512 → Jd (Cn c) 8 Q S 4006 [some (.ref b), some (.ref x), some (.ref m), some (.ref o), some (.int i), none, none, none] [] (kont S c)) : Jd (Cn c) 8 Q S 381 [some (.ref b), some (.ref x), some (.ref m), some (.ref o), some (.int i), none, none, none] [] (f_law_1 Ls xs S x m o i c kont) := by
  have X := hf.X hc
  have E := hf.E c
  have tx_ := hf.T c tx0
  have tm_ := hf.T c tm0
  have to_ := hf.T c to0
  unfold f_law_1
  refine s_run X ok_law_1 0 5 (pc' := 387) (vs' := [some (.ref b), some (.ref x), some (.ref m), some (.ref o), some (.int i), none, none, none]) (st' := [.int (i + 1), .ref b, .ref x]) rfl ?_
  refine s_sld hf (dk okd_law_1 0 rfl) (fun v1 => ?_)
  refine s_callV (b := x) (As := [.int v1]) (rest := []) X E mv_L_184 (c_X11_truncateInput S x v1) rfl (ta1 tx_) rfl (by decide) tx_ rfl rfl (Nat.le_of_ble_eq_true rfl) (Nat.le_of_ble_eq_true rfl) (Nat.le_of_ble_eq_true rfl) (dk okd_law_1 1 rfl) (st' := fun o2 => [.int o2.1]) (fun _ => rfl) (fun o2 => ?_)
  refine s_run X ok_law_1 5 5 (pc' := 397) (vs' := [some (.ref b), some (.ref x), some (.ref m), some (.ref o), some (.int i), none, none, none]) (st' := [.int (i + 1), .ref b, .ref m, .int o2.1]) rfl ?_
  refine s_sld hf (dk okd_law_1 2 rfl) (fun v3 => ?_)
  refine s_callV (b := m) (As := [.int v3]) (rest := [.int o2.1]) X E mv_L_187 (c_X12_truncateInput o2.2 m v3) rfl (ta1 tm_) rfl (by decide) tm_ rfl rfl (Nat.le_of_ble_eq_true rfl) (Nat.le_of_ble_eq_true rfl) (Nat.le_of_ble_eq_true rfl) (dk okd_law_1 3 rfl) (st' := fun o4 => [.int o4.1, .int o2.1]) (fun _ => rfl) (fun o4 => ?_)
  refine s_icmp_eq (tgt := 4006) X (dk okd_law_1 4 rfl) (by decide) ?_ ?_
  · exact s_less [true, true, true, true, true, false, false, false] rfl (hk o4.2 (c) hc)
  · refine s_run X ok_law_1 10 1 (pc' := 405) (vs' := [some (.ref b), some (.ref x), some (.ref m), some (.ref o), some (.int i), none, none, none]) (st' := [.int 0]) rfl ?_
    exact s_none
def tab_law_2 : List En := [(406, 8, 1, 0), (410, 8, 2, 0), (417, 0, 0, 0)]
theorem ok_law_2 : tab_law_2.all (okE code) = true := by decide +kernel
def ed_law_2 : List (Nat × Instr × Nat) := [(407, .invokevirtual 188, 3), (411, .invokevirtual 191, 3), (414, .if_icmp .eq 3592, 3), (418, .ireturn, 1)]
theorem okd_law_2 : ed_law_2.all (okD code) = true := by decide +kernel
def f_law_2 (Ls : Nat) (xs : Nat → Int32) (S : St) (x m o : Nat) (i : Int32) (c : Nat) (kont : St → Nat → Option Unit) : Option Unit := cl (f_X11_load S x) fun (o1 : Int32 × St) => cl (f_X12_load o1.2 m) fun (o2 : Int32 × St) => if o1.1 = o2.1 then (kont o2.2 (c)) else (none)
set_option maxHeartbeats 4000000 in
set_option maxRecDepth 100000 in
theorem c_law_2 {Cn : Nat → CT} {b Ls : Nat} {xs : Nat → Int32} {Q : Unit → State → Prop} {x m o : Nat} {i : Int32} (hf : Fam Cn b Ls xs) (tx0 : tT (Cn 0) x 10) (tm0 : tT (Cn 0) m 11) (to0 : tT (Cn 0) o 14) (S : St) (c : Nat) (hc : c ≤ 512) (kont : St → Nat → Option Unit) (hk : ∀ (S : St) (c : Nat), c ≤ 512 → Jd (Cn c) 8 Q S 4006 [some (.ref b), some (.ref x), some (.ref m), some (.ref o), some (.int i), none, none, none] [] (kont S c)) : Jd (Cn c) 8 Q S 406 [some (.ref b), some (.ref x), some (.ref m), some (.ref o), some (.int i), none, none, none] [] (f_law_2 Ls xs S x m o i c kont) := by
  have X := hf.X hc
  have E := hf.E c
  have tx_ := hf.T c tx0
  have tm_ := hf.T c tm0
  have to_ := hf.T c to0
  unfold f_law_2
  refine s_run X ok_law_2 0 1 (pc' := 407) (vs' := [some (.ref b), some (.ref x), some (.ref m), some (.ref o), some (.int i), none, none, none]) (st' := [.ref x]) rfl ?_
  refine s_callV (b := x) (As := []) (rest := []) X E mv_L_188 (c_X11_load S x) rfl (ta1 tx_) rfl (by decide) tx_ rfl rfl (Nat.le_of_ble_eq_true rfl) (Nat.le_of_ble_eq_true rfl) (Nat.le_of_ble_eq_true rfl) (dk okd_law_2 0 rfl) (st' := fun o1 => [.int o1.1]) (fun _ => rfl) (fun o1 => ?_)
  refine s_run X ok_law_2 1 1 (pc' := 411) (vs' := [some (.ref b), some (.ref x), some (.ref m), some (.ref o), some (.int i), none, none, none]) (st' := [.ref m, .int o1.1]) rfl ?_
  refine s_callV (b := m) (As := []) (rest := [.int o1.1]) X E mv_L_191 (c_X12_load o1.2 m) rfl (ta1 tm_) rfl (by decide) tm_ rfl rfl (Nat.le_of_ble_eq_true rfl) (Nat.le_of_ble_eq_true rfl) (Nat.le_of_ble_eq_true rfl) (dk okd_law_2 1 rfl) (st' := fun o2 => [.int o2.1, .int o1.1]) (fun _ => rfl) (fun o2 => ?_)
  refine s_icmp_eq (tgt := 4006) X (dk okd_law_2 2 rfl) (by decide) ?_ ?_
  · exact s_less [true, true, true, true, true, false, false, false] rfl (hk o2.2 (c) hc)
  · refine s_run X ok_law_2 2 1 (pc' := 418) (vs' := [some (.ref b), some (.ref x), some (.ref m), some (.ref o), some (.int i), none, none, none]) (st' := [.int 0]) rfl ?_
    exact s_none
def tab_law_3 : List En := [(419, 8, 1, 0), (423, 8, 2, 0), (430, 0, 0, 0)]
theorem ok_law_3 : tab_law_3.all (okE code) = true := by decide +kernel
def ed_law_3 : List (Nat × Instr × Nat) := [(420, .invokevirtual 192, 3), (424, .invokevirtual 195, 3), (427, .if_icmp .eq 3579, 3), (431, .ireturn, 1)]
theorem okd_law_3 : ed_law_3.all (okD code) = true := by decide +kernel
def f_law_3 (Ls : Nat) (xs : Nat → Int32) (S : St) (x m o : Nat) (i : Int32) (c : Nat) (kont : St → Nat → Option Unit) : Option Unit := cl (f_X11_errorCode S x) fun (v1 : Int32) => cl (f_X12_errorCode S m) fun (o2 : Int32 × St) => if v1 = o2.1 then (kont o2.2 (c)) else (none)
set_option maxHeartbeats 4000000 in
set_option maxRecDepth 100000 in
theorem c_law_3 {Cn : Nat → CT} {b Ls : Nat} {xs : Nat → Int32} {Q : Unit → State → Prop} {x m o : Nat} {i : Int32} (hf : Fam Cn b Ls xs) (tx0 : tT (Cn 0) x 10) (tm0 : tT (Cn 0) m 11) (to0 : tT (Cn 0) o 14) (S : St) (c : Nat) (hc : c ≤ 512) (kont : St → Nat → Option Unit) (hk : ∀ (S : St) (c : Nat), c ≤ 512 → Jd (Cn c) 8 Q S 4006 [some (.ref b), some (.ref x), some (.ref m), some (.ref o), some (.int i), none, none, none] [] (kont S c)) : Jd (Cn c) 8 Q S 419 [some (.ref b), some (.ref x), some (.ref m), some (.ref o), some (.int i), none, none, none] [] (f_law_3 Ls xs S x m o i c kont) := by
  have X := hf.X hc
  have E := hf.E c
  have tx_ := hf.T c tx0
  have tm_ := hf.T c tm0
  have to_ := hf.T c to0
  unfold f_law_3
  refine s_run X ok_law_3 0 1 (pc' := 420) (vs' := [some (.ref b), some (.ref x), some (.ref m), some (.ref o), some (.int i), none, none, none]) (st' := [.ref x]) rfl ?_
  refine s_callV (b := x) (As := []) (rest := []) X E mv_L_192 (c_X11_errorCode S x) rfl (ta1 tx_) rfl (by decide) tx_ rfl rfl (Nat.le_of_ble_eq_true rfl) (Nat.le_of_ble_eq_true rfl) (Nat.le_of_ble_eq_true rfl) (dk okd_law_3 0 rfl) (st' := fun v1 => [.int v1]) (fun _ => rfl) (fun v1 => ?_)
  refine s_run X ok_law_3 1 1 (pc' := 424) (vs' := [some (.ref b), some (.ref x), some (.ref m), some (.ref o), some (.int i), none, none, none]) (st' := [.ref m, .int v1]) rfl ?_
  refine s_callV (b := m) (As := []) (rest := [.int v1]) X E mv_L_195 (c_X12_errorCode S m) rfl (ta1 tm_) rfl (by decide) tm_ rfl rfl (Nat.le_of_ble_eq_true rfl) (Nat.le_of_ble_eq_true rfl) (Nat.le_of_ble_eq_true rfl) (dk okd_law_3 1 rfl) (st' := fun o2 => [.int o2.1, .int v1]) (fun _ => rfl) (fun o2 => ?_)
  refine s_icmp_eq (tgt := 4006) X (dk okd_law_3 2 rfl) (by decide) ?_ ?_
  · exact s_less [true, true, true, true, true, false, false, false] rfl (hk o2.2 (c) hc)
  · refine s_run X ok_law_3 2 1 (pc' := 431) (vs' := [some (.ref b), some (.ref x), some (.ref m), some (.ref o), some (.int i), none, none, none]) (st' := [.int 0]) rfl ?_
    exact s_none
def tab_law_4 : List En := [(432, 8, 1, 0), (436, 8, 2, 0), (443, 0, 0, 0)]
theorem ok_law_4 : tab_law_4.all (okE code) = true := by decide +kernel
def ed_law_4 : List (Nat × Instr × Nat) := [(433, .invokevirtual 196, 3), (437, .invokevirtual 199, 3), (440, .if_icmp .eq 3566, 3), (444, .ireturn, 1)]
theorem okd_law_4 : ed_law_4.all (okD code) = true := by decide +kernel
def f_law_4 (Ls : Nat) (xs : Nat → Int32) (S : St) (x m o : Nat) (i : Int32) (c : Nat) (kont : St → Nat → Option Unit) : Option Unit := cl (f_X11_errorPosition S x) fun (v1 : Int32) => cl (f_X12_errorPosition S m) fun (o2 : Int32 × St) => if v1 = o2.1 then (kont o2.2 (c)) else (none)
set_option maxHeartbeats 4000000 in
set_option maxRecDepth 100000 in
theorem c_law_4 {Cn : Nat → CT} {b Ls : Nat} {xs : Nat → Int32} {Q : Unit → State → Prop} {x m o : Nat} {i : Int32} (hf : Fam Cn b Ls xs) (tx0 : tT (Cn 0) x 10) (tm0 : tT (Cn 0) m 11) (to0 : tT (Cn 0) o 14) (S : St) (c : Nat) (hc : c ≤ 512) (kont : St → Nat → Option Unit) (hk : ∀ (S : St) (c : Nat), c ≤ 512 → Jd (Cn c) 8 Q S 4006 [some (.ref b), some (.ref x), some (.ref m), some (.ref o), some (.int i), none, none, none] [] (kont S c)) : Jd (Cn c) 8 Q S 432 [some (.ref b), some (.ref x), some (.ref m), some (.ref o), some (.int i), none, none, none] [] (f_law_4 Ls xs S x m o i c kont) := by
  have X := hf.X hc
  have E := hf.E c
  have tx_ := hf.T c tx0
  have tm_ := hf.T c tm0
  have to_ := hf.T c to0
  unfold f_law_4
  refine s_run X ok_law_4 0 1 (pc' := 433) (vs' := [some (.ref b), some (.ref x), some (.ref m), some (.ref o), some (.int i), none, none, none]) (st' := [.ref x]) rfl ?_
  refine s_callV (b := x) (As := []) (rest := []) X E mv_L_196 (c_X11_errorPosition S x) rfl (ta1 tx_) rfl (by decide) tx_ rfl rfl (Nat.le_of_ble_eq_true rfl) (Nat.le_of_ble_eq_true rfl) (Nat.le_of_ble_eq_true rfl) (dk okd_law_4 0 rfl) (st' := fun v1 => [.int v1]) (fun _ => rfl) (fun v1 => ?_)
  refine s_run X ok_law_4 1 1 (pc' := 437) (vs' := [some (.ref b), some (.ref x), some (.ref m), some (.ref o), some (.int i), none, none, none]) (st' := [.ref m, .int v1]) rfl ?_
  refine s_callV (b := m) (As := []) (rest := [.int v1]) X E mv_L_199 (c_X12_errorPosition S m) rfl (ta1 tm_) rfl (by decide) tm_ rfl rfl (Nat.le_of_ble_eq_true rfl) (Nat.le_of_ble_eq_true rfl) (Nat.le_of_ble_eq_true rfl) (dk okd_law_4 1 rfl) (st' := fun o2 => [.int o2.1, .int v1]) (fun _ => rfl) (fun o2 => ?_)
  refine s_icmp_eq (tgt := 4006) X (dk okd_law_4 2 rfl) (by decide) ?_ ?_
  · exact s_less [true, true, true, true, true, false, false, false] rfl (hk o2.2 (c) hc)
  · refine s_run X ok_law_4 2 1 (pc' := 444) (vs' := [some (.ref b), some (.ref x), some (.ref m), some (.ref o), some (.int i), none, none, none]) (st' := [.int 0]) rfl ?_
    exact s_none
def tab_law_5 : List En := [(445, 8, 1, 0), (449, 8, 2, 0), (456, 0, 0, 0)]
theorem ok_law_5 : tab_law_5.all (okE code) = true := by decide +kernel
def ed_law_5 : List (Nat × Instr × Nat) := [(446, .invokevirtual 200, 3), (450, .invokevirtual 203, 3), (453, .if_icmp .eq 3553, 3), (457, .ireturn, 1)]
theorem okd_law_5 : ed_law_5.all (okD code) = true := by decide +kernel
def f_law_5 (Ls : Nat) (xs : Nat → Int32) (S : St) (x m o : Nat) (i : Int32) (c : Nat) (kont : St → Nat → Option Unit) : Option Unit := cl (f_X11_find S x) fun (o1 : Int32 × St) => cl (f_X12_find o1.2 m) fun (o2 : Int32 × St) => if o1.1 = o2.1 then (kont o2.2 (c)) else (none)
set_option maxHeartbeats 4000000 in
set_option maxRecDepth 100000 in
theorem c_law_5 {Cn : Nat → CT} {b Ls : Nat} {xs : Nat → Int32} {Q : Unit → State → Prop} {x m o : Nat} {i : Int32} (hf : Fam Cn b Ls xs) (tx0 : tT (Cn 0) x 10) (tm0 : tT (Cn 0) m 11) (to0 : tT (Cn 0) o 14) (S : St) (c : Nat) (hc : c ≤ 512) (kont : St → Nat → Option Unit) (hk : ∀ (S : St) (c : Nat), c ≤ 512 → Jd (Cn c) 8 Q S 4006 [some (.ref b), some (.ref x), some (.ref m), some (.ref o), some (.int i), none, none, none] [] (kont S c)) : Jd (Cn c) 8 Q S 445 [some (.ref b), some (.ref x), some (.ref m), some (.ref o), some (.int i), none, none, none] [] (f_law_5 Ls xs S x m o i c kont) := by
  have X := hf.X hc
  have E := hf.E c
  have tx_ := hf.T c tx0
  have tm_ := hf.T c tm0
  have to_ := hf.T c to0
  unfold f_law_5
  refine s_run X ok_law_5 0 1 (pc' := 446) (vs' := [some (.ref b), some (.ref x), some (.ref m), some (.ref o), some (.int i), none, none, none]) (st' := [.ref x]) rfl ?_
  refine s_callV (b := x) (As := []) (rest := []) X E mv_L_200 (c_X11_find S x) rfl (ta1 tx_) rfl (by decide) tx_ rfl rfl (Nat.le_of_ble_eq_true rfl) (Nat.le_of_ble_eq_true rfl) (Nat.le_of_ble_eq_true rfl) (dk okd_law_5 0 rfl) (st' := fun o1 => [.int o1.1]) (fun _ => rfl) (fun o1 => ?_)
  refine s_run X ok_law_5 1 1 (pc' := 450) (vs' := [some (.ref b), some (.ref x), some (.ref m), some (.ref o), some (.int i), none, none, none]) (st' := [.ref m, .int o1.1]) rfl ?_
  refine s_callV (b := m) (As := []) (rest := [.int o1.1]) X E mv_L_203 (c_X12_find o1.2 m) rfl (ta1 tm_) rfl (by decide) tm_ rfl rfl (Nat.le_of_ble_eq_true rfl) (Nat.le_of_ble_eq_true rfl) (Nat.le_of_ble_eq_true rfl) (dk okd_law_5 1 rfl) (st' := fun o2 => [.int o2.1, .int o1.1]) (fun _ => rfl) (fun o2 => ?_)
  refine s_icmp_eq (tgt := 4006) X (dk okd_law_5 2 rfl) (by decide) ?_ ?_
  · exact s_less [true, true, true, true, true, false, false, false] rfl (hk o2.2 (c) hc)
  · refine s_run X ok_law_5 2 1 (pc' := 457) (vs' := [some (.ref b), some (.ref x), some (.ref m), some (.ref o), some (.int i), none, none, none]) (st' := [.int 0]) rfl ?_
    exact s_none
def tab_law_6 : List En := [(458, 8, 1, 0), (462, 8, 2, 0), (469, 0, 0, 0)]
theorem ok_law_6 : tab_law_6.all (okE code) = true := by decide +kernel
def ed_law_6 : List (Nat × Instr × Nat) := [(459, .invokevirtual 204, 3), (463, .invokevirtual 207, 3), (466, .if_icmp .eq 3540, 3), (470, .ireturn, 1)]
theorem okd_law_6 : ed_law_6.all (okD code) = true := by decide +kernel
def f_law_6 (Ls : Nat) (xs : Nat → Int32) (S : St) (x m o : Nat) (i : Int32) (c : Nat) (kont : St → Nat → Option Unit) : Option Unit := cl (f_X11_loadJournal S x) fun (o1 : Int32 × St) => cl (f_X12_loadJournal o1.2 m) fun (o2 : Int32 × St) => if o1.1 = o2.1 then (kont o2.2 (c)) else (none)
set_option maxHeartbeats 4000000 in
set_option maxRecDepth 100000 in
theorem c_law_6 {Cn : Nat → CT} {b Ls : Nat} {xs : Nat → Int32} {Q : Unit → State → Prop} {x m o : Nat} {i : Int32} (hf : Fam Cn b Ls xs) (tx0 : tT (Cn 0) x 10) (tm0 : tT (Cn 0) m 11) (to0 : tT (Cn 0) o 14) (S : St) (c : Nat) (hc : c ≤ 512) (kont : St → Nat → Option Unit) (hk : ∀ (S : St) (c : Nat), c ≤ 512 → Jd (Cn c) 8 Q S 4006 [some (.ref b), some (.ref x), some (.ref m), some (.ref o), some (.int i), none, none, none] [] (kont S c)) : Jd (Cn c) 8 Q S 458 [some (.ref b), some (.ref x), some (.ref m), some (.ref o), some (.int i), none, none, none] [] (f_law_6 Ls xs S x m o i c kont) := by
  have X := hf.X hc
  have E := hf.E c
  have tx_ := hf.T c tx0
  have tm_ := hf.T c tm0
  have to_ := hf.T c to0
  unfold f_law_6
  refine s_run X ok_law_6 0 1 (pc' := 459) (vs' := [some (.ref b), some (.ref x), some (.ref m), some (.ref o), some (.int i), none, none, none]) (st' := [.ref x]) rfl ?_
  refine s_callV (b := x) (As := []) (rest := []) X E mv_L_204 (c_X11_loadJournal S x) rfl (ta1 tx_) rfl (by decide) tx_ rfl rfl (Nat.le_of_ble_eq_true rfl) (Nat.le_of_ble_eq_true rfl) (Nat.le_of_ble_eq_true rfl) (dk okd_law_6 0 rfl) (st' := fun o1 => [.int o1.1]) (fun _ => rfl) (fun o1 => ?_)
  refine s_run X ok_law_6 1 1 (pc' := 463) (vs' := [some (.ref b), some (.ref x), some (.ref m), some (.ref o), some (.int i), none, none, none]) (st' := [.ref m, .int o1.1]) rfl ?_
  refine s_callV (b := m) (As := []) (rest := [.int o1.1]) X E mv_L_207 (c_X12_loadJournal o1.2 m) rfl (ta1 tm_) rfl (by decide) tm_ rfl rfl (Nat.le_of_ble_eq_true rfl) (Nat.le_of_ble_eq_true rfl) (Nat.le_of_ble_eq_true rfl) (dk okd_law_6 1 rfl) (st' := fun o2 => [.int o2.1, .int o1.1]) (fun _ => rfl) (fun o2 => ?_)
  refine s_icmp_eq (tgt := 4006) X (dk okd_law_6 2 rfl) (by decide) ?_ ?_
  · exact s_less [true, true, true, true, true, false, false, false] rfl (hk o2.2 (c) hc)
  · refine s_run X ok_law_6 2 1 (pc' := 470) (vs' := [some (.ref b), some (.ref x), some (.ref m), some (.ref o), some (.int i), none, none, none]) (st' := [.int 0]) rfl ?_
    exact s_none
def tab_law_7 : List En := [(471, 8, 1, 0), (472, 8, 0, 0), (473, 5, 4, 0), (475, 0, 0, 1), (476, 17, 0, 0), (478, 8, 3, 0), (482, 11, 5, 0), (484, 8, 2, 0), (485, 8, 0, 0), (486, 5, 4, 0), (488, 0, 0, 1), (489, 17, 0, 0), (494, 11, 6, 0), (496, 8, 2, 0), (500, 5, 5, 0), (505, 0, 0, 0), (507, 5, 5, 0), (512, 8, 3, 0), (513, 0, 0, 0), (515, 5, 6, 0), (517, 31, 0, 0), (518, 40, 0, 0), (522, 0, 0, 0), (524, 41, 4006, 0)]
theorem ok_law_7 : tab_law_7.all (okE code) = true := by decide +kernel
def ed_law_7 : List (Nat × Instr × Nat) := [(477, .iaload, 1), (479, .invokestatic 208, 3), (490, .iaload, 1), (491, .invokevirtual 213, 3), (497, .invokevirtual 214, 3), (502, .if_icmp .eq 5, 3), (506, .ireturn, 1), (509, .ifCond .ne 15, 3), (514, .laload, 1), (519, .ifCond .eq 5, 3), (523, .ireturn, 1)]
theorem okd_law_7 : ed_law_7.all (okD code) = true := by decide +kernel
def f_law_7 (Ls : Nat) (xs : Nat → Int32) (S : St) (x m o : Nat) (i : Int32) (c : Nat) (kont : St → Nat → Option Unit) : Option Unit := sx Ls xs (i + 1) fun (v1 : Int32) => cl (f_L_runJournal S x v1 o) fun (o2 : Int32 × St × Nat) => bud (c + o2.2.2) <| sx Ls xs (i + 1) fun (v4 : Int32) => cl (f_X12_runJournal o2.2.1 m v4) fun (o5 : Int32 × St) => cl (f_X12_thrown o5.2 m) fun (v6 : Int32) => if v6 = o2.1 then (jn (κ := Option (Unit)) (kont o5.2 ((c + o2.2.2))) fun k7 => if o2.1 = 0 then (ldJ o5.2 o 0 fun (v9 : Int64) => if v9 = (Int32.toInt64 o5.1) then (k7) else (none)) else (k7)) else (none)
set_option maxHeartbeats 4000000 in
set_option maxRecDepth 100000 in
theorem c_law_7 {Cn : Nat → CT} {b Ls : Nat} {xs : Nat → Int32} {Q : Unit → State → Prop} {x m o : Nat} {i : Int32} (hf : Fam Cn b Ls xs) (tx0 : tT (Cn 0) x 10) (tm0 : tT (Cn 0) m 11) (to0 : tT (Cn 0) o 14) (S : St) (c : Nat) (hc : c ≤ 512) (kont : St → Nat → Option Unit) (hk : ∀ (S : St) (c : Nat), c ≤ 512 → Jd (Cn c) 8 Q S 4006 [some (.ref b), some (.ref x), some (.ref m), some (.ref o), some (.int i), none, none, none] [] (kont S c)) : Jd (Cn c) 8 Q S 471 [some (.ref b), some (.ref x), some (.ref m), some (.ref o), some (.int i), none, none, none] [] (f_law_7 Ls xs S x m o i c kont) := by
  have X := hf.X hc
  have E := hf.E c
  have tx_ := hf.T c tx0
  have tm_ := hf.T c tm0
  have to_ := hf.T c to0
  unfold f_law_7
  refine s_run X ok_law_7 0 5 (pc' := 477) (vs' := [some (.ref b), some (.ref x), some (.ref m), some (.ref o), some (.int i), none, none, none]) (st' := [.int (i + 1), .ref b, .ref x]) rfl ?_
  refine s_sld hf (dk okd_law_7 0 rfl) (fun v1 => ?_)
  refine s_run X ok_law_7 5 1 (pc' := 479) (vs' := [some (.ref b), some (.ref x), some (.ref m), some (.ref o), some (.int i), none, none, none]) (st' := [.ref o, .int v1, .ref x]) rfl ?_
  refine s_callH (c0 := c) (As := [.ref x, .int v1, .ref o]) (rest := []) hf mh_L_208 (c_L_runJournal S x v1 o) (ta2 tx_ to_) rfl rfl (Nat.le_of_ble_eq_true rfl) (Nat.le_of_ble_eq_true rfl) (Nat.le_of_ble_eq_true rfl) (dk okd_law_7 1 rfl) (st' := fun o2 => [.int o2.1]) (fun _ => rfl) (fun o2 hb3 => ?_)
  have X := hf.X hb3
  have E := hf.E (c + o2.2.2)
  have tx_ := hf.T (c + o2.2.2) tx_
  have tm_ := hf.T (c + o2.2.2) tm_
  have to_ := hf.T (c + o2.2.2) to_
  refine s_run X ok_law_7 6 6 (pc' := 490) (vs' := [some (.ref b), some (.ref x), some (.ref m), some (.ref o), some (.int i), some (.int o2.1), none, none]) (st' := [.int (i + 1), .ref b, .ref m]) rfl ?_
  refine s_sld hf (dk okd_law_7 2 rfl) (fun v4 => ?_)
  refine s_callV (b := m) (As := [.int v4]) (rest := []) X E mv_L_213 (c_X12_runJournal o2.2.1 m v4) rfl (ta1 tm_) rfl (by decide) tm_ rfl rfl (Nat.le_of_ble_eq_true rfl) (Nat.le_of_ble_eq_true rfl) (Nat.le_of_ble_eq_true rfl) (dk okd_law_7 3 rfl) (st' := fun o5 => [.int o5.1]) (fun _ => rfl) (fun o5 => ?_)
  refine s_run X ok_law_7 12 2 (pc' := 497) (vs' := [some (.ref b), some (.ref x), some (.ref m), some (.ref o), some (.int i), some (.int o2.1), some (.int o5.1), none]) (st' := [.ref m]) rfl ?_
  refine s_callV (b := m) (As := []) (rest := []) X E mv_L_214 (c_X12_thrown o5.2 m) rfl (ta1 tm_) rfl (by decide) tm_ rfl rfl (Nat.le_of_ble_eq_true rfl) (Nat.le_of_ble_eq_true rfl) (Nat.le_of_ble_eq_true rfl) (dk okd_law_7 4 rfl) (st' := fun v6 => [.int v6]) (fun _ => rfl) (fun v6 => ?_)
  refine s_run X ok_law_7 14 1 (pc' := 502) (vs' := [some (.ref b), some (.ref x), some (.ref m), some (.ref o), some (.int i), some (.int o2.1), some (.int o5.1), none]) (st' := [.int o2.1, .int v6]) rfl ?_
  refine s_icmp_eq (tgt := 507) X (dk okd_law_7 5 rfl) (by decide) ?_ ?_
  · refine s_run X ok_law_7 16 1 (pc' := 509) (vs' := [some (.ref b), some (.ref x), some (.ref m), some (.ref o), some (.int i), some (.int o2.1), some (.int o5.1), none]) (st' := [.int o2.1]) rfl ?_
    refine s_jn (κ := Option (Unit)) (fun k7 => Jd (Cn (c + o2.2.2)) 8 Q o5.2 524 [some (.ref b), some (.ref x), some (.ref m), some (.ref o), some (.int i), none, none, none] [] k7) ?_ (fun k7 h8 => ?_)
    · refine s_run X ok_law_7 23 1 (pc' := 4006) (vs' := [some (.ref b), some (.ref x), some (.ref m), some (.ref o), some (.int i), none, none, none]) (st' := []) rfl ?_
      exact s_less [true, true, true, true, true, false, false, false] rfl (hk o5.2 ((c + o2.2.2)) hb3)
    · refine s_if_ne (tgt := 524) X (dk okd_law_7 7 rfl) (by decide) ?_ ?_
      · exact s_less [true, true, true, true, true, false, false, false] rfl (h8)
      · refine s_run X ok_law_7 17 2 (pc' := 514) (vs' := [some (.ref b), some (.ref x), some (.ref m), some (.ref o), some (.int i), some (.int o2.1), some (.int o5.1), none]) (st' := [.int 0, .ref o]) rfl ?_
        refine s_lald X to_ (dk okd_law_7 8 rfl) (fun v9 => ?_)
        refine s_run X ok_law_7 19 3 (pc' := 519) (vs' := [some (.ref b), some (.ref x), some (.ref m), some (.ref o), some (.int i), some (.int o2.1), some (.int o5.1), none]) (st' := [.int (lg_cmp v9 (Int32.toInt64 o5.1))]) rfl ?_
        refine s_lif_eq (tgt := 524) X (dk okd_law_7 9 rfl) (by decide) ?_ ?_
        · exact s_less [true, true, true, true, true, false, false, false] rfl (h8)
        · refine s_run X ok_law_7 22 1 (pc' := 523) (vs' := [some (.ref b), some (.ref x), some (.ref m), some (.ref o), some (.int i), some (.int o2.1), some (.int o5.1), none]) (st' := [.int 0]) rfl ?_
          exact s_none
  · refine s_run X ok_law_7 15 1 (pc' := 506) (vs' := [some (.ref b), some (.ref x), some (.ref m), some (.ref o), some (.int i), some (.int o2.1), some (.int o5.1), none]) (st' := [.int 0]) rfl ?_
    exact s_none
def tab_law_8 : List En := [(527, 8, 1, 0), (528, 8, 0, 0), (529, 5, 4, 0), (531, 0, 0, 1), (532, 17, 0, 0), (537, 8, 2, 0), (538, 8, 0, 0), (539, 5, 4, 0), (541, 0, 0, 1), (542, 17, 0, 0), (550, 0, 0, 0)]
theorem ok_law_8 : tab_law_8.all (okE code) = true := by decide +kernel
def ed_law_8 : List (Nat × Instr × Nat) := [(533, .iaload, 1), (534, .invokevirtual 217, 3), (543, .iaload, 1), (544, .invokevirtual 220, 3), (547, .if_icmp .eq 3459, 3), (551, .ireturn, 1)]
theorem okd_law_8 : ed_law_8.all (okD code) = true := by decide +kernel
def f_law_8 (Ls : Nat) (xs : Nat → Int32) (S : St) (x m o : Nat) (i : Int32) (c : Nat) (kont : St → Nat → Option Unit) : Option Unit := sx Ls xs (i + 1) fun (v1 : Int32) => cl (f_X11_count S x v1) fun (v2 : Int32) => sx Ls xs (i + 1) fun (v3 : Int32) => cl (f_X12_count S m v3) fun (o4 : Int32 × St) => if v2 = o4.1 then (kont o4.2 (c)) else (none)
set_option maxHeartbeats 4000000 in
set_option maxRecDepth 100000 in
theorem c_law_8 {Cn : Nat → CT} {b Ls : Nat} {xs : Nat → Int32} {Q : Unit → State → Prop} {x m o : Nat} {i : Int32} (hf : Fam Cn b Ls xs) (tx0 : tT (Cn 0) x 10) (tm0 : tT (Cn 0) m 11) (to0 : tT (Cn 0) o 14) (S : St) (c : Nat) (hc : c ≤ 512) (kont : St → Nat → Option Unit) (hk : ∀ (S : St) (c : Nat), c ≤ 512 → Jd (Cn c) 8 Q S 4006 [some (.ref b), some (.ref x), some (.ref m), some (.ref o), some (.int i), none, none, none] [] (kont S c)) : Jd (Cn c) 8 Q S 527 [some (.ref b), some (.ref x), some (.ref m), some (.ref o), some (.int i), none, none, none] [] (f_law_8 Ls xs S x m o i c kont) := by
  have X := hf.X hc
  have E := hf.E c
  have tx_ := hf.T c tx0
  have tm_ := hf.T c tm0
  have to_ := hf.T c to0
  unfold f_law_8
  refine s_run X ok_law_8 0 5 (pc' := 533) (vs' := [some (.ref b), some (.ref x), some (.ref m), some (.ref o), some (.int i), none, none, none]) (st' := [.int (i + 1), .ref b, .ref x]) rfl ?_
  refine s_sld hf (dk okd_law_8 0 rfl) (fun v1 => ?_)
  refine s_callV (b := x) (As := [.int v1]) (rest := []) X E mv_L_217 (c_X11_count S x v1) rfl (ta1 tx_) rfl (by decide) tx_ rfl rfl (Nat.le_of_ble_eq_true rfl) (Nat.le_of_ble_eq_true rfl) (Nat.le_of_ble_eq_true rfl) (dk okd_law_8 1 rfl) (st' := fun v2 => [.int v2]) (fun _ => rfl) (fun v2 => ?_)
  refine s_run X ok_law_8 5 5 (pc' := 543) (vs' := [some (.ref b), some (.ref x), some (.ref m), some (.ref o), some (.int i), none, none, none]) (st' := [.int (i + 1), .ref b, .ref m, .int v2]) rfl ?_
  refine s_sld hf (dk okd_law_8 2 rfl) (fun v3 => ?_)
  refine s_callV (b := m) (As := [.int v3]) (rest := [.int v2]) X E mv_L_220 (c_X12_count S m v3) rfl (ta1 tm_) rfl (by decide) tm_ rfl rfl (Nat.le_of_ble_eq_true rfl) (Nat.le_of_ble_eq_true rfl) (Nat.le_of_ble_eq_true rfl) (dk okd_law_8 3 rfl) (st' := fun o4 => [.int o4.1, .int v2]) (fun _ => rfl) (fun o4 => ?_)
  refine s_icmp_eq (tgt := 4006) X (dk okd_law_8 4 rfl) (by decide) ?_ ?_
  · exact s_less [true, true, true, true, true, false, false, false] rfl (hk o4.2 (c) hc)
  · refine s_run X ok_law_8 10 1 (pc' := 551) (vs' := [some (.ref b), some (.ref x), some (.ref m), some (.ref o), some (.int i), none, none, none]) (st' := [.int 0]) rfl ?_
    exact s_none
def tab_law_9 : List En := [(552, 8, 1, 0), (556, 8, 2, 0), (563, 0, 0, 0)]
theorem ok_law_9 : tab_law_9.all (okE code) = true := by decide +kernel
def ed_law_9 : List (Nat × Instr × Nat) := [(553, .invokevirtual 221, 3), (557, .invokevirtual 224, 3), (560, .if_icmp .eq 3446, 3), (564, .ireturn, 1)]
theorem okd_law_9 : ed_law_9.all (okD code) = true := by decide +kernel
def f_law_9 (Ls : Nat) (xs : Nat → Int32) (S : St) (x m o : Nat) (i : Int32) (c : Nat) (kont : St → Nat → Option Unit) : Option Unit := cl (f_X11_month S x) fun (v1 : Int32) => cl (f_X12_month S m) fun (o2 : Int32 × St) => if v1 = o2.1 then (kont o2.2 (c)) else (none)
set_option maxHeartbeats 4000000 in
set_option maxRecDepth 100000 in
theorem c_law_9 {Cn : Nat → CT} {b Ls : Nat} {xs : Nat → Int32} {Q : Unit → State → Prop} {x m o : Nat} {i : Int32} (hf : Fam Cn b Ls xs) (tx0 : tT (Cn 0) x 10) (tm0 : tT (Cn 0) m 11) (to0 : tT (Cn 0) o 14) (S : St) (c : Nat) (hc : c ≤ 512) (kont : St → Nat → Option Unit) (hk : ∀ (S : St) (c : Nat), c ≤ 512 → Jd (Cn c) 8 Q S 4006 [some (.ref b), some (.ref x), some (.ref m), some (.ref o), some (.int i), none, none, none] [] (kont S c)) : Jd (Cn c) 8 Q S 552 [some (.ref b), some (.ref x), some (.ref m), some (.ref o), some (.int i), none, none, none] [] (f_law_9 Ls xs S x m o i c kont) := by
  have X := hf.X hc
  have E := hf.E c
  have tx_ := hf.T c tx0
  have tm_ := hf.T c tm0
  have to_ := hf.T c to0
  unfold f_law_9
  refine s_run X ok_law_9 0 1 (pc' := 553) (vs' := [some (.ref b), some (.ref x), some (.ref m), some (.ref o), some (.int i), none, none, none]) (st' := [.ref x]) rfl ?_
  refine s_callV (b := x) (As := []) (rest := []) X E mv_L_221 (c_X11_month S x) rfl (ta1 tx_) rfl (by decide) tx_ rfl rfl (Nat.le_of_ble_eq_true rfl) (Nat.le_of_ble_eq_true rfl) (Nat.le_of_ble_eq_true rfl) (dk okd_law_9 0 rfl) (st' := fun v1 => [.int v1]) (fun _ => rfl) (fun v1 => ?_)
  refine s_run X ok_law_9 1 1 (pc' := 557) (vs' := [some (.ref b), some (.ref x), some (.ref m), some (.ref o), some (.int i), none, none, none]) (st' := [.ref m, .int v1]) rfl ?_
  refine s_callV (b := m) (As := []) (rest := [.int v1]) X E mv_L_224 (c_X12_month S m) rfl (ta1 tm_) rfl (by decide) tm_ rfl rfl (Nat.le_of_ble_eq_true rfl) (Nat.le_of_ble_eq_true rfl) (Nat.le_of_ble_eq_true rfl) (dk okd_law_9 1 rfl) (st' := fun o2 => [.int o2.1, .int v1]) (fun _ => rfl) (fun o2 => ?_)
  refine s_icmp_eq (tgt := 4006) X (dk okd_law_9 2 rfl) (by decide) ?_ ?_
  · exact s_less [true, true, true, true, true, false, false, false] rfl (hk o2.2 (c) hc)
  · refine s_run X ok_law_9 2 1 (pc' := 564) (vs' := [some (.ref b), some (.ref x), some (.ref m), some (.ref o), some (.int i), none, none, none]) (st' := [.int 0]) rfl ?_
    exact s_none
def tab_law_10 : List En := [(565, 8, 1, 0), (566, 8, 0, 0), (567, 5, 4, 0), (569, 0, 0, 1), (570, 17, 0, 0), (572, 8, 0, 0), (573, 5, 4, 0), (575, 0, 0, 2), (576, 17, 0, 0), (578, 8, 3, 0), (582, 11, 5, 0), (584, 8, 2, 0), (585, 8, 0, 0), (586, 5, 4, 0), (588, 0, 0, 1), (589, 17, 0, 0), (591, 8, 0, 0), (592, 5, 4, 0), (594, 0, 0, 2), (595, 17, 0, 0), (600, 11, 6, 0), (602, 8, 2, 0), (606, 5, 5, 0), (611, 0, 0, 0), (613, 5, 5, 0), (618, 8, 3, 0), (619, 0, 0, 0), (621, 5, 6, 0), (623, 31, 0, 0), (624, 40, 0, 0), (628, 0, 0, 0), (630, 41, 4006, 0)]
theorem ok_law_10 : tab_law_10.all (okE code) = true := by decide +kernel
def ed_law_10 : List (Nat × Instr × Nat) := [(571, .iaload, 1), (577, .iaload, 1), (579, .invokestatic 225, 3), (590, .iaload, 1), (596, .iaload, 1), (597, .invokevirtual 228, 3), (603, .invokevirtual 214, 3), (608, .if_icmp .eq 5, 3), (612, .ireturn, 1), (615, .ifCond .ne 15, 3), (620, .laload, 1), (625, .ifCond .eq 5, 3), (629, .ireturn, 1)]
theorem okd_law_10 : ed_law_10.all (okD code) = true := by decide +kernel
def f_law_10 (Ls : Nat) (xs : Nat → Int32) (S : St) (x m o : Nat) (i : Int32) (c : Nat) (kont : St → Nat → Option Unit) : Option Unit := sx Ls xs (i + 1) fun (v1 : Int32) => sx Ls xs (i + 2) fun (v2 : Int32) => cl (f_L_owner S x v1 v2 o) fun (o3 : Int32 × St × Nat) => bud (c + o3.2.2) <| sx Ls xs (i + 1) fun (v5 : Int32) => sx Ls xs (i + 2) fun (v6 : Int32) => cl (f_X12_owner o3.2.1 m v5 v6) fun (o7 : Int32 × St) => cl (f_X12_thrown o7.2 m) fun (v8 : Int32) => if v8 = o3.1 then (jn (κ := Option (Unit)) (kont o7.2 ((c + o3.2.2))) fun k9 => if o3.1 = 0 then (ldJ o7.2 o 0 fun (v11 : Int64) => if v11 = (Int32.toInt64 o7.1) then (k9) else (none)) else (k9)) else (none)
set_option maxHeartbeats 4000000 in
set_option maxRecDepth 100000 in
theorem c_law_10 {Cn : Nat → CT} {b Ls : Nat} {xs : Nat → Int32} {Q : Unit → State → Prop} {x m o : Nat} {i : Int32} (hf : Fam Cn b Ls xs) (tx0 : tT (Cn 0) x 10) (tm0 : tT (Cn 0) m 11) (to0 : tT (Cn 0) o 14) (S : St) (c : Nat) (hc : c ≤ 512) (kont : St → Nat → Option Unit) (hk : ∀ (S : St) (c : Nat), c ≤ 512 → Jd (Cn c) 8 Q S 4006 [some (.ref b), some (.ref x), some (.ref m), some (.ref o), some (.int i), none, none, none] [] (kont S c)) : Jd (Cn c) 8 Q S 565 [some (.ref b), some (.ref x), some (.ref m), some (.ref o), some (.int i), none, none, none] [] (f_law_10 Ls xs S x m o i c kont) := by
  have X := hf.X hc
  have E := hf.E c
  have tx_ := hf.T c tx0
  have tm_ := hf.T c tm0
  have to_ := hf.T c to0
  unfold f_law_10
  refine s_run X ok_law_10 0 5 (pc' := 571) (vs' := [some (.ref b), some (.ref x), some (.ref m), some (.ref o), some (.int i), none, none, none]) (st' := [.int (i + 1), .ref b, .ref x]) rfl ?_
  refine s_sld hf (dk okd_law_10 0 rfl) (fun v1 => ?_)
  refine s_run X ok_law_10 5 4 (pc' := 577) (vs' := [some (.ref b), some (.ref x), some (.ref m), some (.ref o), some (.int i), none, none, none]) (st' := [.int (i + 2), .ref b, .int v1, .ref x]) rfl ?_
  refine s_sld hf (dk okd_law_10 1 rfl) (fun v2 => ?_)
  refine s_run X ok_law_10 9 1 (pc' := 579) (vs' := [some (.ref b), some (.ref x), some (.ref m), some (.ref o), some (.int i), none, none, none]) (st' := [.ref o, .int v2, .int v1, .ref x]) rfl ?_
  refine s_callH (c0 := c) (As := [.ref x, .int v1, .int v2, .ref o]) (rest := []) hf mh_L_225 (c_L_owner S x v1 v2 o) (ta2 tx_ to_) rfl rfl (Nat.le_of_ble_eq_true rfl) (Nat.le_of_ble_eq_true rfl) (Nat.le_of_ble_eq_true rfl) (dk okd_law_10 2 rfl) (st' := fun o3 => [.int o3.1]) (fun _ => rfl) (fun o3 hb4 => ?_)
  have X := hf.X hb4
  have E := hf.E (c + o3.2.2)
  have tx_ := hf.T (c + o3.2.2) tx_
  have tm_ := hf.T (c + o3.2.2) tm_
  have to_ := hf.T (c + o3.2.2) to_
  refine s_run X ok_law_10 10 6 (pc' := 590) (vs' := [some (.ref b), some (.ref x), some (.ref m), some (.ref o), some (.int i), some (.int o3.1), none, none]) (st' := [.int (i + 1), .ref b, .ref m]) rfl ?_
  refine s_sld hf (dk okd_law_10 3 rfl) (fun v5 => ?_)
  refine s_run X ok_law_10 16 4 (pc' := 596) (vs' := [some (.ref b), some (.ref x), some (.ref m), some (.ref o), some (.int i), some (.int o3.1), none, none]) (st' := [.int (i + 2), .ref b, .int v5, .ref m]) rfl ?_
  refine s_sld hf (dk okd_law_10 4 rfl) (fun v6 => ?_)
  refine s_callV (b := m) (As := [.int v5, .int v6]) (rest := []) X E mv_L_228 (c_X12_owner o3.2.1 m v5 v6) rfl (ta1 tm_) rfl (by decide) tm_ rfl rfl (Nat.le_of_ble_eq_true rfl) (Nat.le_of_ble_eq_true rfl) (Nat.le_of_ble_eq_true rfl) (dk okd_law_10 5 rfl) (st' := fun o7 => [.int o7.1]) (fun _ => rfl) (fun o7 => ?_)
  refine s_run X ok_law_10 20 2 (pc' := 603) (vs' := [some (.ref b), some (.ref x), some (.ref m), some (.ref o), some (.int i), some (.int o3.1), some (.int o7.1), none]) (st' := [.ref m]) rfl ?_
  refine s_callV (b := m) (As := []) (rest := []) X E mv_L_214 (c_X12_thrown o7.2 m) rfl (ta1 tm_) rfl (by decide) tm_ rfl rfl (Nat.le_of_ble_eq_true rfl) (Nat.le_of_ble_eq_true rfl) (Nat.le_of_ble_eq_true rfl) (dk okd_law_10 6 rfl) (st' := fun v8 => [.int v8]) (fun _ => rfl) (fun v8 => ?_)
  refine s_run X ok_law_10 22 1 (pc' := 608) (vs' := [some (.ref b), some (.ref x), some (.ref m), some (.ref o), some (.int i), some (.int o3.1), some (.int o7.1), none]) (st' := [.int o3.1, .int v8]) rfl ?_
  refine s_icmp_eq (tgt := 613) X (dk okd_law_10 7 rfl) (by decide) ?_ ?_
  · refine s_run X ok_law_10 24 1 (pc' := 615) (vs' := [some (.ref b), some (.ref x), some (.ref m), some (.ref o), some (.int i), some (.int o3.1), some (.int o7.1), none]) (st' := [.int o3.1]) rfl ?_
    refine s_jn (κ := Option (Unit)) (fun k9 => Jd (Cn (c + o3.2.2)) 8 Q o7.2 630 [some (.ref b), some (.ref x), some (.ref m), some (.ref o), some (.int i), none, none, none] [] k9) ?_ (fun k9 h10 => ?_)
    · refine s_run X ok_law_10 31 1 (pc' := 4006) (vs' := [some (.ref b), some (.ref x), some (.ref m), some (.ref o), some (.int i), none, none, none]) (st' := []) rfl ?_
      exact s_less [true, true, true, true, true, false, false, false] rfl (hk o7.2 ((c + o3.2.2)) hb4)
    · refine s_if_ne (tgt := 630) X (dk okd_law_10 9 rfl) (by decide) ?_ ?_
      · exact s_less [true, true, true, true, true, false, false, false] rfl (h10)
      · refine s_run X ok_law_10 25 2 (pc' := 620) (vs' := [some (.ref b), some (.ref x), some (.ref m), some (.ref o), some (.int i), some (.int o3.1), some (.int o7.1), none]) (st' := [.int 0, .ref o]) rfl ?_
        refine s_lald X to_ (dk okd_law_10 10 rfl) (fun v11 => ?_)
        refine s_run X ok_law_10 27 3 (pc' := 625) (vs' := [some (.ref b), some (.ref x), some (.ref m), some (.ref o), some (.int i), some (.int o3.1), some (.int o7.1), none]) (st' := [.int (lg_cmp v11 (Int32.toInt64 o7.1))]) rfl ?_
        refine s_lif_eq (tgt := 630) X (dk okd_law_10 11 rfl) (by decide) ?_ ?_
        · exact s_less [true, true, true, true, true, false, false, false] rfl (h10)
        · refine s_run X ok_law_10 30 1 (pc' := 629) (vs' := [some (.ref b), some (.ref x), some (.ref m), some (.ref o), some (.int i), some (.int o3.1), some (.int o7.1), none]) (st' := [.int 0]) rfl ?_
          exact s_none
  · refine s_run X ok_law_10 23 1 (pc' := 612) (vs' := [some (.ref b), some (.ref x), some (.ref m), some (.ref o), some (.int i), some (.int o3.1), some (.int o7.1), none]) (st' := [.int 0]) rfl ?_
    exact s_none
def tab_law_11 : List En := [(633, 8, 1, 0), (634, 8, 0, 0), (635, 5, 4, 0), (637, 0, 0, 1), (638, 17, 0, 0), (640, 8, 3, 0), (644, 11, 5, 0), (646, 8, 2, 0), (647, 8, 0, 0), (648, 5, 4, 0), (650, 0, 0, 1), (651, 17, 0, 0), (656, 11, 6, 0), (658, 8, 2, 0), (662, 5, 5, 0), (667, 0, 0, 0), (669, 5, 5, 0), (674, 8, 3, 0), (675, 0, 0, 0), (677, 5, 6, 0), (679, 31, 0, 0), (680, 40, 0, 0), (684, 0, 0, 0), (686, 41, 4006, 0)]
theorem ok_law_11 : tab_law_11.all (okE code) = true := by decide +kernel
def ed_law_11 : List (Nat × Instr × Nat) := [(639, .iaload, 1), (641, .invokestatic 229, 3), (652, .iaload, 1), (653, .invokevirtual 231, 3), (659, .invokevirtual 214, 3), (664, .if_icmp .eq 5, 3), (668, .ireturn, 1), (671, .ifCond .ne 15, 3), (676, .laload, 1), (681, .ifCond .eq 5, 3), (685, .ireturn, 1)]
theorem okd_law_11 : ed_law_11.all (okD code) = true := by decide +kernel
def f_law_11 (Ls : Nat) (xs : Nat → Int32) (S : St) (x m o : Nat) (i : Int32) (c : Nat) (kont : St → Nat → Option Unit) : Option Unit := sx Ls xs (i + 1) fun (v1 : Int32) => cl (f_L_area S x v1 o) fun (o2 : Int32 × St × Nat) => bud (c + o2.2.2) <| sx Ls xs (i + 1) fun (v4 : Int32) => cl (f_X12_area o2.2.1 m v4) fun (o5 : Int32 × St) => cl (f_X12_thrown o5.2 m) fun (v6 : Int32) => if v6 = o2.1 then (jn (κ := Option (Unit)) (kont o5.2 ((c + o2.2.2))) fun k7 => if o2.1 = 0 then (ldJ o5.2 o 0 fun (v9 : Int64) => if v9 = (Int32.toInt64 o5.1) then (k7) else (none)) else (k7)) else (none)
set_option maxHeartbeats 4000000 in
set_option maxRecDepth 100000 in
theorem c_law_11 {Cn : Nat → CT} {b Ls : Nat} {xs : Nat → Int32} {Q : Unit → State → Prop} {x m o : Nat} {i : Int32} (hf : Fam Cn b Ls xs) (tx0 : tT (Cn 0) x 10) (tm0 : tT (Cn 0) m 11) (to0 : tT (Cn 0) o 14) (S : St) (c : Nat) (hc : c ≤ 512) (kont : St → Nat → Option Unit) (hk : ∀ (S : St) (c : Nat), c ≤ 512 → Jd (Cn c) 8 Q S 4006 [some (.ref b), some (.ref x), some (.ref m), some (.ref o), some (.int i), none, none, none] [] (kont S c)) : Jd (Cn c) 8 Q S 633 [some (.ref b), some (.ref x), some (.ref m), some (.ref o), some (.int i), none, none, none] [] (f_law_11 Ls xs S x m o i c kont) := by
  have X := hf.X hc
  have E := hf.E c
  have tx_ := hf.T c tx0
  have tm_ := hf.T c tm0
  have to_ := hf.T c to0
  unfold f_law_11
  refine s_run X ok_law_11 0 5 (pc' := 639) (vs' := [some (.ref b), some (.ref x), some (.ref m), some (.ref o), some (.int i), none, none, none]) (st' := [.int (i + 1), .ref b, .ref x]) rfl ?_
  refine s_sld hf (dk okd_law_11 0 rfl) (fun v1 => ?_)
  refine s_run X ok_law_11 5 1 (pc' := 641) (vs' := [some (.ref b), some (.ref x), some (.ref m), some (.ref o), some (.int i), none, none, none]) (st' := [.ref o, .int v1, .ref x]) rfl ?_
  refine s_callH (c0 := c) (As := [.ref x, .int v1, .ref o]) (rest := []) hf mh_L_229 (c_L_area S x v1 o) (ta2 tx_ to_) rfl rfl (Nat.le_of_ble_eq_true rfl) (Nat.le_of_ble_eq_true rfl) (Nat.le_of_ble_eq_true rfl) (dk okd_law_11 1 rfl) (st' := fun o2 => [.int o2.1]) (fun _ => rfl) (fun o2 hb3 => ?_)
  have X := hf.X hb3
  have E := hf.E (c + o2.2.2)
  have tx_ := hf.T (c + o2.2.2) tx_
  have tm_ := hf.T (c + o2.2.2) tm_
  have to_ := hf.T (c + o2.2.2) to_
  refine s_run X ok_law_11 6 6 (pc' := 652) (vs' := [some (.ref b), some (.ref x), some (.ref m), some (.ref o), some (.int i), some (.int o2.1), none, none]) (st' := [.int (i + 1), .ref b, .ref m]) rfl ?_
  refine s_sld hf (dk okd_law_11 2 rfl) (fun v4 => ?_)
  refine s_callV (b := m) (As := [.int v4]) (rest := []) X E mv_L_231 (c_X12_area o2.2.1 m v4) rfl (ta1 tm_) rfl (by decide) tm_ rfl rfl (Nat.le_of_ble_eq_true rfl) (Nat.le_of_ble_eq_true rfl) (Nat.le_of_ble_eq_true rfl) (dk okd_law_11 3 rfl) (st' := fun o5 => [.int o5.1]) (fun _ => rfl) (fun o5 => ?_)
  refine s_run X ok_law_11 12 2 (pc' := 659) (vs' := [some (.ref b), some (.ref x), some (.ref m), some (.ref o), some (.int i), some (.int o2.1), some (.int o5.1), none]) (st' := [.ref m]) rfl ?_
  refine s_callV (b := m) (As := []) (rest := []) X E mv_L_214 (c_X12_thrown o5.2 m) rfl (ta1 tm_) rfl (by decide) tm_ rfl rfl (Nat.le_of_ble_eq_true rfl) (Nat.le_of_ble_eq_true rfl) (Nat.le_of_ble_eq_true rfl) (dk okd_law_11 4 rfl) (st' := fun v6 => [.int v6]) (fun _ => rfl) (fun v6 => ?_)
  refine s_run X ok_law_11 14 1 (pc' := 664) (vs' := [some (.ref b), some (.ref x), some (.ref m), some (.ref o), some (.int i), some (.int o2.1), some (.int o5.1), none]) (st' := [.int o2.1, .int v6]) rfl ?_
  refine s_icmp_eq (tgt := 669) X (dk okd_law_11 5 rfl) (by decide) ?_ ?_
  · refine s_run X ok_law_11 16 1 (pc' := 671) (vs' := [some (.ref b), some (.ref x), some (.ref m), some (.ref o), some (.int i), some (.int o2.1), some (.int o5.1), none]) (st' := [.int o2.1]) rfl ?_
    refine s_jn (κ := Option (Unit)) (fun k7 => Jd (Cn (c + o2.2.2)) 8 Q o5.2 686 [some (.ref b), some (.ref x), some (.ref m), some (.ref o), some (.int i), none, none, none] [] k7) ?_ (fun k7 h8 => ?_)
    · refine s_run X ok_law_11 23 1 (pc' := 4006) (vs' := [some (.ref b), some (.ref x), some (.ref m), some (.ref o), some (.int i), none, none, none]) (st' := []) rfl ?_
      exact s_less [true, true, true, true, true, false, false, false] rfl (hk o5.2 ((c + o2.2.2)) hb3)
    · refine s_if_ne (tgt := 686) X (dk okd_law_11 7 rfl) (by decide) ?_ ?_
      · exact s_less [true, true, true, true, true, false, false, false] rfl (h8)
      · refine s_run X ok_law_11 17 2 (pc' := 676) (vs' := [some (.ref b), some (.ref x), some (.ref m), some (.ref o), some (.int i), some (.int o2.1), some (.int o5.1), none]) (st' := [.int 0, .ref o]) rfl ?_
        refine s_lald X to_ (dk okd_law_11 8 rfl) (fun v9 => ?_)
        refine s_run X ok_law_11 19 3 (pc' := 681) (vs' := [some (.ref b), some (.ref x), some (.ref m), some (.ref o), some (.int i), some (.int o2.1), some (.int o5.1), none]) (st' := [.int (lg_cmp v9 (Int32.toInt64 o5.1))]) rfl ?_
        refine s_lif_eq (tgt := 686) X (dk okd_law_11 9 rfl) (by decide) ?_ ?_
        · exact s_less [true, true, true, true, true, false, false, false] rfl (h8)
        · refine s_run X ok_law_11 22 1 (pc' := 685) (vs' := [some (.ref b), some (.ref x), some (.ref m), some (.ref o), some (.int i), some (.int o2.1), some (.int o5.1), none]) (st' := [.int 0]) rfl ?_
          exact s_none
  · refine s_run X ok_law_11 15 1 (pc' := 668) (vs' := [some (.ref b), some (.ref x), some (.ref m), some (.ref o), some (.int i), some (.int o2.1), some (.int o5.1), none]) (st' := [.int 0]) rfl ?_
    exact s_none
def tab_law_12 : List En := [(689, 8, 1, 0), (690, 8, 0, 0), (691, 5, 4, 0), (693, 0, 0, 1), (694, 17, 0, 0), (696, 8, 3, 0), (700, 11, 5, 0), (702, 8, 2, 0), (703, 8, 0, 0), (704, 5, 4, 0), (706, 0, 0, 1), (707, 17, 0, 0), (712, 11, 6, 0), (714, 8, 2, 0), (718, 5, 5, 0), (723, 0, 0, 0), (725, 5, 5, 0), (730, 8, 3, 0), (731, 0, 0, 0), (733, 5, 6, 0), (735, 31, 0, 0), (736, 40, 0, 0), (740, 0, 0, 0), (742, 41, 4006, 0)]
theorem ok_law_12 : tab_law_12.all (okE code) = true := by decide +kernel
def ed_law_12 : List (Nat × Instr × Nat) := [(695, .iaload, 1), (697, .invokestatic 232, 3), (708, .iaload, 1), (709, .invokevirtual 234, 3), (715, .invokevirtual 214, 3), (720, .if_icmp .eq 5, 3), (724, .ireturn, 1), (727, .ifCond .ne 15, 3), (732, .laload, 1), (737, .ifCond .eq 5, 3), (741, .ireturn, 1)]
theorem okd_law_12 : ed_law_12.all (okD code) = true := by decide +kernel
def f_law_12 (Ls : Nat) (xs : Nat → Int32) (S : St) (x m o : Nat) (i : Int32) (c : Nat) (kont : St → Nat → Option Unit) : Option Unit := sx Ls xs (i + 1) fun (v1 : Int32) => cl (f_L_perimeter S x v1 o) fun (o2 : Int32 × St × Nat) => bud (c + o2.2.2) <| sx Ls xs (i + 1) fun (v4 : Int32) => cl (f_X12_perimeter o2.2.1 m v4) fun (o5 : Int32 × St) => cl (f_X12_thrown o5.2 m) fun (v6 : Int32) => if v6 = o2.1 then (jn (κ := Option (Unit)) (kont o5.2 ((c + o2.2.2))) fun k7 => if o2.1 = 0 then (ldJ o5.2 o 0 fun (v9 : Int64) => if v9 = (Int32.toInt64 o5.1) then (k7) else (none)) else (k7)) else (none)
set_option maxHeartbeats 4000000 in
set_option maxRecDepth 100000 in
theorem c_law_12 {Cn : Nat → CT} {b Ls : Nat} {xs : Nat → Int32} {Q : Unit → State → Prop} {x m o : Nat} {i : Int32} (hf : Fam Cn b Ls xs) (tx0 : tT (Cn 0) x 10) (tm0 : tT (Cn 0) m 11) (to0 : tT (Cn 0) o 14) (S : St) (c : Nat) (hc : c ≤ 512) (kont : St → Nat → Option Unit) (hk : ∀ (S : St) (c : Nat), c ≤ 512 → Jd (Cn c) 8 Q S 4006 [some (.ref b), some (.ref x), some (.ref m), some (.ref o), some (.int i), none, none, none] [] (kont S c)) : Jd (Cn c) 8 Q S 689 [some (.ref b), some (.ref x), some (.ref m), some (.ref o), some (.int i), none, none, none] [] (f_law_12 Ls xs S x m o i c kont) := by
  have X := hf.X hc
  have E := hf.E c
  have tx_ := hf.T c tx0
  have tm_ := hf.T c tm0
  have to_ := hf.T c to0
  unfold f_law_12
  refine s_run X ok_law_12 0 5 (pc' := 695) (vs' := [some (.ref b), some (.ref x), some (.ref m), some (.ref o), some (.int i), none, none, none]) (st' := [.int (i + 1), .ref b, .ref x]) rfl ?_
  refine s_sld hf (dk okd_law_12 0 rfl) (fun v1 => ?_)
  refine s_run X ok_law_12 5 1 (pc' := 697) (vs' := [some (.ref b), some (.ref x), some (.ref m), some (.ref o), some (.int i), none, none, none]) (st' := [.ref o, .int v1, .ref x]) rfl ?_
  refine s_callH (c0 := c) (As := [.ref x, .int v1, .ref o]) (rest := []) hf mh_L_232 (c_L_perimeter S x v1 o) (ta2 tx_ to_) rfl rfl (Nat.le_of_ble_eq_true rfl) (Nat.le_of_ble_eq_true rfl) (Nat.le_of_ble_eq_true rfl) (dk okd_law_12 1 rfl) (st' := fun o2 => [.int o2.1]) (fun _ => rfl) (fun o2 hb3 => ?_)
  have X := hf.X hb3
  have E := hf.E (c + o2.2.2)
  have tx_ := hf.T (c + o2.2.2) tx_
  have tm_ := hf.T (c + o2.2.2) tm_
  have to_ := hf.T (c + o2.2.2) to_
  refine s_run X ok_law_12 6 6 (pc' := 708) (vs' := [some (.ref b), some (.ref x), some (.ref m), some (.ref o), some (.int i), some (.int o2.1), none, none]) (st' := [.int (i + 1), .ref b, .ref m]) rfl ?_
  refine s_sld hf (dk okd_law_12 2 rfl) (fun v4 => ?_)
  refine s_callV (b := m) (As := [.int v4]) (rest := []) X E mv_L_234 (c_X12_perimeter o2.2.1 m v4) rfl (ta1 tm_) rfl (by decide) tm_ rfl rfl (Nat.le_of_ble_eq_true rfl) (Nat.le_of_ble_eq_true rfl) (Nat.le_of_ble_eq_true rfl) (dk okd_law_12 3 rfl) (st' := fun o5 => [.int o5.1]) (fun _ => rfl) (fun o5 => ?_)
  refine s_run X ok_law_12 12 2 (pc' := 715) (vs' := [some (.ref b), some (.ref x), some (.ref m), some (.ref o), some (.int i), some (.int o2.1), some (.int o5.1), none]) (st' := [.ref m]) rfl ?_
  refine s_callV (b := m) (As := []) (rest := []) X E mv_L_214 (c_X12_thrown o5.2 m) rfl (ta1 tm_) rfl (by decide) tm_ rfl rfl (Nat.le_of_ble_eq_true rfl) (Nat.le_of_ble_eq_true rfl) (Nat.le_of_ble_eq_true rfl) (dk okd_law_12 4 rfl) (st' := fun v6 => [.int v6]) (fun _ => rfl) (fun v6 => ?_)
  refine s_run X ok_law_12 14 1 (pc' := 720) (vs' := [some (.ref b), some (.ref x), some (.ref m), some (.ref o), some (.int i), some (.int o2.1), some (.int o5.1), none]) (st' := [.int o2.1, .int v6]) rfl ?_
  refine s_icmp_eq (tgt := 725) X (dk okd_law_12 5 rfl) (by decide) ?_ ?_
  · refine s_run X ok_law_12 16 1 (pc' := 727) (vs' := [some (.ref b), some (.ref x), some (.ref m), some (.ref o), some (.int i), some (.int o2.1), some (.int o5.1), none]) (st' := [.int o2.1]) rfl ?_
    refine s_jn (κ := Option (Unit)) (fun k7 => Jd (Cn (c + o2.2.2)) 8 Q o5.2 742 [some (.ref b), some (.ref x), some (.ref m), some (.ref o), some (.int i), none, none, none] [] k7) ?_ (fun k7 h8 => ?_)
    · refine s_run X ok_law_12 23 1 (pc' := 4006) (vs' := [some (.ref b), some (.ref x), some (.ref m), some (.ref o), some (.int i), none, none, none]) (st' := []) rfl ?_
      exact s_less [true, true, true, true, true, false, false, false] rfl (hk o5.2 ((c + o2.2.2)) hb3)
    · refine s_if_ne (tgt := 742) X (dk okd_law_12 7 rfl) (by decide) ?_ ?_
      · exact s_less [true, true, true, true, true, false, false, false] rfl (h8)
      · refine s_run X ok_law_12 17 2 (pc' := 732) (vs' := [some (.ref b), some (.ref x), some (.ref m), some (.ref o), some (.int i), some (.int o2.1), some (.int o5.1), none]) (st' := [.int 0, .ref o]) rfl ?_
        refine s_lald X to_ (dk okd_law_12 8 rfl) (fun v9 => ?_)
        refine s_run X ok_law_12 19 3 (pc' := 737) (vs' := [some (.ref b), some (.ref x), some (.ref m), some (.ref o), some (.int i), some (.int o2.1), some (.int o5.1), none]) (st' := [.int (lg_cmp v9 (Int32.toInt64 o5.1))]) rfl ?_
        refine s_lif_eq (tgt := 742) X (dk okd_law_12 9 rfl) (by decide) ?_ ?_
        · exact s_less [true, true, true, true, true, false, false, false] rfl (h8)
        · refine s_run X ok_law_12 22 1 (pc' := 741) (vs' := [some (.ref b), some (.ref x), some (.ref m), some (.ref o), some (.int i), some (.int o2.1), some (.int o5.1), none]) (st' := [.int 0]) rfl ?_
          exact s_none
  · refine s_run X ok_law_12 15 1 (pc' := 724) (vs' := [some (.ref b), some (.ref x), some (.ref m), some (.ref o), some (.int i), some (.int o2.1), some (.int o5.1), none]) (st' := [.int 0]) rfl ?_
    exact s_none
def tab_law_13 : List En := [(745, 8, 1, 0), (746, 8, 0, 0), (747, 5, 4, 0), (749, 0, 0, 1), (750, 17, 0, 0), (752, 8, 0, 0), (753, 5, 4, 0), (755, 0, 0, 2), (756, 17, 0, 0), (758, 8, 3, 0), (762, 11, 5, 0), (764, 8, 2, 0), (765, 8, 0, 0), (766, 5, 4, 0), (768, 0, 0, 1), (769, 17, 0, 0), (771, 8, 0, 0), (772, 5, 4, 0), (774, 0, 0, 2), (775, 17, 0, 0), (780, 11, 6, 0), (782, 8, 2, 0), (786, 5, 5, 0), (791, 0, 0, 0), (793, 5, 5, 0), (798, 8, 3, 0), (799, 0, 0, 0), (801, 5, 6, 0), (803, 31, 0, 0), (804, 40, 0, 0), (808, 0, 0, 0), (810, 41, 4006, 0)]
theorem ok_law_13 : tab_law_13.all (okE code) = true := by decide +kernel
def ed_law_13 : List (Nat × Instr × Nat) := [(751, .iaload, 1), (757, .iaload, 1), (759, .invokestatic 235, 3), (770, .iaload, 1), (776, .iaload, 1), (777, .invokevirtual 237, 3), (783, .invokevirtual 214, 3), (788, .if_icmp .eq 5, 3), (792, .ireturn, 1), (795, .ifCond .ne 15, 3), (800, .laload, 1), (805, .ifCond .eq 5, 3), (809, .ireturn, 1)]
theorem okd_law_13 : ed_law_13.all (okD code) = true := by decide +kernel
def f_law_13 (Ls : Nat) (xs : Nat → Int32) (S : St) (x m o : Nat) (i : Int32) (c : Nat) (kont : St → Nat → Option Unit) : Option Unit := sx Ls xs (i + 1) fun (v1 : Int32) => sx Ls xs (i + 2) fun (v2 : Int32) => cl (f_L_border S x v1 v2 o) fun (o3 : Int32 × St × Nat) => bud (c + o3.2.2) <| sx Ls xs (i + 1) fun (v5 : Int32) => sx Ls xs (i + 2) fun (v6 : Int32) => cl (f_X12_border o3.2.1 m v5 v6) fun (o7 : Int32 × St) => cl (f_X12_thrown o7.2 m) fun (v8 : Int32) => if v8 = o3.1 then (jn (κ := Option (Unit)) (kont o7.2 ((c + o3.2.2))) fun k9 => if o3.1 = 0 then (ldJ o7.2 o 0 fun (v11 : Int64) => if v11 = (Int32.toInt64 o7.1) then (k9) else (none)) else (k9)) else (none)
set_option maxHeartbeats 4000000 in
set_option maxRecDepth 100000 in
theorem c_law_13 {Cn : Nat → CT} {b Ls : Nat} {xs : Nat → Int32} {Q : Unit → State → Prop} {x m o : Nat} {i : Int32} (hf : Fam Cn b Ls xs) (tx0 : tT (Cn 0) x 10) (tm0 : tT (Cn 0) m 11) (to0 : tT (Cn 0) o 14) (S : St) (c : Nat) (hc : c ≤ 512) (kont : St → Nat → Option Unit) (hk : ∀ (S : St) (c : Nat), c ≤ 512 → Jd (Cn c) 8 Q S 4006 [some (.ref b), some (.ref x), some (.ref m), some (.ref o), some (.int i), none, none, none] [] (kont S c)) : Jd (Cn c) 8 Q S 745 [some (.ref b), some (.ref x), some (.ref m), some (.ref o), some (.int i), none, none, none] [] (f_law_13 Ls xs S x m o i c kont) := by
  have X := hf.X hc
  have E := hf.E c
  have tx_ := hf.T c tx0
  have tm_ := hf.T c tm0
  have to_ := hf.T c to0
  unfold f_law_13
  refine s_run X ok_law_13 0 5 (pc' := 751) (vs' := [some (.ref b), some (.ref x), some (.ref m), some (.ref o), some (.int i), none, none, none]) (st' := [.int (i + 1), .ref b, .ref x]) rfl ?_
  refine s_sld hf (dk okd_law_13 0 rfl) (fun v1 => ?_)
  refine s_run X ok_law_13 5 4 (pc' := 757) (vs' := [some (.ref b), some (.ref x), some (.ref m), some (.ref o), some (.int i), none, none, none]) (st' := [.int (i + 2), .ref b, .int v1, .ref x]) rfl ?_
  refine s_sld hf (dk okd_law_13 1 rfl) (fun v2 => ?_)
  refine s_run X ok_law_13 9 1 (pc' := 759) (vs' := [some (.ref b), some (.ref x), some (.ref m), some (.ref o), some (.int i), none, none, none]) (st' := [.ref o, .int v2, .int v1, .ref x]) rfl ?_
  refine s_callH (c0 := c) (As := [.ref x, .int v1, .int v2, .ref o]) (rest := []) hf mh_L_235 (c_L_border S x v1 v2 o) (ta2 tx_ to_) rfl rfl (Nat.le_of_ble_eq_true rfl) (Nat.le_of_ble_eq_true rfl) (Nat.le_of_ble_eq_true rfl) (dk okd_law_13 2 rfl) (st' := fun o3 => [.int o3.1]) (fun _ => rfl) (fun o3 hb4 => ?_)
  have X := hf.X hb4
  have E := hf.E (c + o3.2.2)
  have tx_ := hf.T (c + o3.2.2) tx_
  have tm_ := hf.T (c + o3.2.2) tm_
  have to_ := hf.T (c + o3.2.2) to_
  refine s_run X ok_law_13 10 6 (pc' := 770) (vs' := [some (.ref b), some (.ref x), some (.ref m), some (.ref o), some (.int i), some (.int o3.1), none, none]) (st' := [.int (i + 1), .ref b, .ref m]) rfl ?_
  refine s_sld hf (dk okd_law_13 3 rfl) (fun v5 => ?_)
  refine s_run X ok_law_13 16 4 (pc' := 776) (vs' := [some (.ref b), some (.ref x), some (.ref m), some (.ref o), some (.int i), some (.int o3.1), none, none]) (st' := [.int (i + 2), .ref b, .int v5, .ref m]) rfl ?_
  refine s_sld hf (dk okd_law_13 4 rfl) (fun v6 => ?_)
  refine s_callV (b := m) (As := [.int v5, .int v6]) (rest := []) X E mv_L_237 (c_X12_border o3.2.1 m v5 v6) rfl (ta1 tm_) rfl (by decide) tm_ rfl rfl (Nat.le_of_ble_eq_true rfl) (Nat.le_of_ble_eq_true rfl) (Nat.le_of_ble_eq_true rfl) (dk okd_law_13 5 rfl) (st' := fun o7 => [.int o7.1]) (fun _ => rfl) (fun o7 => ?_)
  refine s_run X ok_law_13 20 2 (pc' := 783) (vs' := [some (.ref b), some (.ref x), some (.ref m), some (.ref o), some (.int i), some (.int o3.1), some (.int o7.1), none]) (st' := [.ref m]) rfl ?_
  refine s_callV (b := m) (As := []) (rest := []) X E mv_L_214 (c_X12_thrown o7.2 m) rfl (ta1 tm_) rfl (by decide) tm_ rfl rfl (Nat.le_of_ble_eq_true rfl) (Nat.le_of_ble_eq_true rfl) (Nat.le_of_ble_eq_true rfl) (dk okd_law_13 6 rfl) (st' := fun v8 => [.int v8]) (fun _ => rfl) (fun v8 => ?_)
  refine s_run X ok_law_13 22 1 (pc' := 788) (vs' := [some (.ref b), some (.ref x), some (.ref m), some (.ref o), some (.int i), some (.int o3.1), some (.int o7.1), none]) (st' := [.int o3.1, .int v8]) rfl ?_
  refine s_icmp_eq (tgt := 793) X (dk okd_law_13 7 rfl) (by decide) ?_ ?_
  · refine s_run X ok_law_13 24 1 (pc' := 795) (vs' := [some (.ref b), some (.ref x), some (.ref m), some (.ref o), some (.int i), some (.int o3.1), some (.int o7.1), none]) (st' := [.int o3.1]) rfl ?_
    refine s_jn (κ := Option (Unit)) (fun k9 => Jd (Cn (c + o3.2.2)) 8 Q o7.2 810 [some (.ref b), some (.ref x), some (.ref m), some (.ref o), some (.int i), none, none, none] [] k9) ?_ (fun k9 h10 => ?_)
    · refine s_run X ok_law_13 31 1 (pc' := 4006) (vs' := [some (.ref b), some (.ref x), some (.ref m), some (.ref o), some (.int i), none, none, none]) (st' := []) rfl ?_
      exact s_less [true, true, true, true, true, false, false, false] rfl (hk o7.2 ((c + o3.2.2)) hb4)
    · refine s_if_ne (tgt := 810) X (dk okd_law_13 9 rfl) (by decide) ?_ ?_
      · exact s_less [true, true, true, true, true, false, false, false] rfl (h10)
      · refine s_run X ok_law_13 25 2 (pc' := 800) (vs' := [some (.ref b), some (.ref x), some (.ref m), some (.ref o), some (.int i), some (.int o3.1), some (.int o7.1), none]) (st' := [.int 0, .ref o]) rfl ?_
        refine s_lald X to_ (dk okd_law_13 10 rfl) (fun v11 => ?_)
        refine s_run X ok_law_13 27 3 (pc' := 805) (vs' := [some (.ref b), some (.ref x), some (.ref m), some (.ref o), some (.int i), some (.int o3.1), some (.int o7.1), none]) (st' := [.int (lg_cmp v11 (Int32.toInt64 o7.1))]) rfl ?_
        refine s_lif_eq (tgt := 810) X (dk okd_law_13 11 rfl) (by decide) ?_ ?_
        · exact s_less [true, true, true, true, true, false, false, false] rfl (h10)
        · refine s_run X ok_law_13 30 1 (pc' := 809) (vs' := [some (.ref b), some (.ref x), some (.ref m), some (.ref o), some (.int i), some (.int o3.1), some (.int o7.1), none]) (st' := [.int 0]) rfl ?_
          exact s_none
  · refine s_run X ok_law_13 23 1 (pc' := 792) (vs' := [some (.ref b), some (.ref x), some (.ref m), some (.ref o), some (.int i), some (.int o3.1), some (.int o7.1), none]) (st' := [.int 0]) rfl ?_
    exact s_none
def tab_law_14 : List En := [(813, 8, 1, 0), (814, 8, 0, 0), (815, 5, 4, 0), (817, 0, 0, 1), (818, 17, 0, 0), (820, 8, 3, 0), (824, 11, 5, 0), (826, 8, 2, 0), (827, 8, 0, 0), (828, 5, 4, 0), (830, 0, 0, 1), (831, 17, 0, 0), (836, 11, 6, 0), (838, 8, 2, 0), (842, 5, 5, 0), (847, 0, 0, 0), (849, 5, 5, 0), (854, 8, 3, 0), (855, 0, 0, 0), (857, 5, 6, 0), (862, 3, 1, 0), (863, 41, 867, 0), (866, 3, 0, 0), (867, 40, 0, 0), (871, 0, 0, 0), (873, 41, 4006, 0)]
theorem ok_law_14 : tab_law_14.all (okE code) = true := by decide +kernel
def ed_law_14 : List (Nat × Instr × Nat) := [(819, .iaload, 1), (821, .invokestatic 238, 3), (832, .iaload, 1), (833, .invokevirtual 240, 3), (839, .invokevirtual 214, 3), (844, .if_icmp .eq 5, 3), (848, .ireturn, 1), (851, .ifCond .ne 22, 3), (856, .laload, 1), (859, .ifCond .eq 7, 3), (868, .ifCond .eq 5, 3), (872, .ireturn, 1)]
theorem okd_law_14 : ed_law_14.all (okD code) = true := by decide +kernel
def f_law_14 (Ls : Nat) (xs : Nat → Int32) (S : St) (x m o : Nat) (i : Int32) (c : Nat) (kont : St → Nat → Option Unit) : Option Unit := sx Ls xs (i + 1) fun (v1 : Int32) => cl (f_L_isConnected S x v1 o) fun (o2 : Int32 × St × Nat) => bud (c + o2.2.2) <| sx Ls xs (i + 1) fun (v4 : Int32) => cl (f_X12_isConnected o2.2.1 m v4) fun (o5 : Int32 × St) => cl (f_X12_thrown o5.2 m) fun (v6 : Int32) => if v6 = o2.1 then (jn (κ := Option (Unit)) (kont o5.2 ((c + o2.2.2))) fun k7 => if o2.1 = 0 then (ldJ o5.2 o 0 fun (v9 : Int64) => jn (κ := Int64 → Option (Unit)) (fun x10 => if v9 = x10 then (k7) else (none)) fun k11 => if o5.1 = 0 then (k11 0) else (k11 1)) else (k7)) else (none)
set_option maxHeartbeats 4000000 in
set_option maxRecDepth 100000 in
theorem c_law_14 {Cn : Nat → CT} {b Ls : Nat} {xs : Nat → Int32} {Q : Unit → State → Prop} {x m o : Nat} {i : Int32} (hf : Fam Cn b Ls xs) (tx0 : tT (Cn 0) x 10) (tm0 : tT (Cn 0) m 11) (to0 : tT (Cn 0) o 14) (S : St) (c : Nat) (hc : c ≤ 512) (kont : St → Nat → Option Unit) (hk : ∀ (S : St) (c : Nat), c ≤ 512 → Jd (Cn c) 8 Q S 4006 [some (.ref b), some (.ref x), some (.ref m), some (.ref o), some (.int i), none, none, none] [] (kont S c)) : Jd (Cn c) 8 Q S 813 [some (.ref b), some (.ref x), some (.ref m), some (.ref o), some (.int i), none, none, none] [] (f_law_14 Ls xs S x m o i c kont) := by
  have X := hf.X hc
  have E := hf.E c
  have tx_ := hf.T c tx0
  have tm_ := hf.T c tm0
  have to_ := hf.T c to0
  unfold f_law_14
  refine s_run X ok_law_14 0 5 (pc' := 819) (vs' := [some (.ref b), some (.ref x), some (.ref m), some (.ref o), some (.int i), none, none, none]) (st' := [.int (i + 1), .ref b, .ref x]) rfl ?_
  refine s_sld hf (dk okd_law_14 0 rfl) (fun v1 => ?_)
  refine s_run X ok_law_14 5 1 (pc' := 821) (vs' := [some (.ref b), some (.ref x), some (.ref m), some (.ref o), some (.int i), none, none, none]) (st' := [.ref o, .int v1, .ref x]) rfl ?_
  refine s_callH (c0 := c) (As := [.ref x, .int v1, .ref o]) (rest := []) hf mh_L_238 (c_L_isConnected S x v1 o) (ta2 tx_ to_) rfl rfl (Nat.le_of_ble_eq_true rfl) (Nat.le_of_ble_eq_true rfl) (Nat.le_of_ble_eq_true rfl) (dk okd_law_14 1 rfl) (st' := fun o2 => [.int o2.1]) (fun _ => rfl) (fun o2 hb3 => ?_)
  have X := hf.X hb3
  have E := hf.E (c + o2.2.2)
  have tx_ := hf.T (c + o2.2.2) tx_
  have tm_ := hf.T (c + o2.2.2) tm_
  have to_ := hf.T (c + o2.2.2) to_
  refine s_run X ok_law_14 6 6 (pc' := 832) (vs' := [some (.ref b), some (.ref x), some (.ref m), some (.ref o), some (.int i), some (.int o2.1), none, none]) (st' := [.int (i + 1), .ref b, .ref m]) rfl ?_
  refine s_sld hf (dk okd_law_14 2 rfl) (fun v4 => ?_)
  refine s_callV (b := m) (As := [.int v4]) (rest := []) X E mv_L_240 (c_X12_isConnected o2.2.1 m v4) rfl (ta1 tm_) rfl (by decide) tm_ rfl rfl (Nat.le_of_ble_eq_true rfl) (Nat.le_of_ble_eq_true rfl) (Nat.le_of_ble_eq_true rfl) (dk okd_law_14 3 rfl) (st' := fun o5 => [.int o5.1]) (fun _ => rfl) (fun o5 => ?_)
  refine s_run X ok_law_14 12 2 (pc' := 839) (vs' := [some (.ref b), some (.ref x), some (.ref m), some (.ref o), some (.int i), some (.int o2.1), some (.int o5.1), none]) (st' := [.ref m]) rfl ?_
  refine s_callV (b := m) (As := []) (rest := []) X E mv_L_214 (c_X12_thrown o5.2 m) rfl (ta1 tm_) rfl (by decide) tm_ rfl rfl (Nat.le_of_ble_eq_true rfl) (Nat.le_of_ble_eq_true rfl) (Nat.le_of_ble_eq_true rfl) (dk okd_law_14 4 rfl) (st' := fun v6 => [.int v6]) (fun _ => rfl) (fun v6 => ?_)
  refine s_run X ok_law_14 14 1 (pc' := 844) (vs' := [some (.ref b), some (.ref x), some (.ref m), some (.ref o), some (.int i), some (.int o2.1), some (.int o5.1), none]) (st' := [.int o2.1, .int v6]) rfl ?_
  refine s_icmp_eq (tgt := 849) X (dk okd_law_14 5 rfl) (by decide) ?_ ?_
  · refine s_run X ok_law_14 16 1 (pc' := 851) (vs' := [some (.ref b), some (.ref x), some (.ref m), some (.ref o), some (.int i), some (.int o2.1), some (.int o5.1), none]) (st' := [.int o2.1]) rfl ?_
    refine s_jn (κ := Option (Unit)) (fun k7 => Jd (Cn (c + o2.2.2)) 8 Q o5.2 873 [some (.ref b), some (.ref x), some (.ref m), some (.ref o), some (.int i), none, none, none] [] k7) ?_ (fun k7 h8 => ?_)
    · refine s_run X ok_law_14 25 1 (pc' := 4006) (vs' := [some (.ref b), some (.ref x), some (.ref m), some (.ref o), some (.int i), none, none, none]) (st' := []) rfl ?_
      exact s_less [true, true, true, true, true, false, false, false] rfl (hk o5.2 ((c + o2.2.2)) hb3)
    · refine s_if_ne (tgt := 873) X (dk okd_law_14 7 rfl) (by decide) ?_ ?_
      · exact s_less [true, true, true, true, true, false, false, false] rfl (h8)
      · refine s_run X ok_law_14 17 2 (pc' := 856) (vs' := [some (.ref b), some (.ref x), some (.ref m), some (.ref o), some (.int i), some (.int o2.1), some (.int o5.1), none]) (st' := [.int 0, .ref o]) rfl ?_
        refine s_lald X to_ (dk okd_law_14 8 rfl) (fun v9 => ?_)
        refine s_run X ok_law_14 19 1 (pc' := 859) (vs' := [some (.ref b), some (.ref x), some (.ref m), some (.ref o), some (.int i), some (.int o2.1), some (.int o5.1), none]) (st' := [.int o5.1, .long v9]) rfl ?_
        refine s_jn (κ := Int64 → Option (Unit)) (fun k11 => ∀ (x10 : Int64), Jd (Cn (c + o2.2.2)) 8 Q o5.2 867 [some (.ref b), some (.ref x), some (.ref m), some (.ref o), some (.int i), none, none, none] [.long x10, .long v9] (k11 x10)) (fun x10 => ?_) (fun k11 h12 => ?_)
        · refine s_run X ok_law_14 23 1 (pc' := 868) (vs' := [some (.ref b), some (.ref x), some (.ref m), some (.ref o), some (.int i), none, none, none]) (st' := [.int (lg_cmp v9 x10)]) rfl ?_
          refine s_lif_eq (tgt := 873) X (dk okd_law_14 10 rfl) (by decide) ?_ ?_
          · exact h8
          · refine s_run X ok_law_14 24 1 (pc' := 872) (vs' := [some (.ref b), some (.ref x), some (.ref m), some (.ref o), some (.int i), none, none, none]) (st' := [.int 0]) rfl ?_
            exact s_none
        · refine s_if_eq (tgt := 866) X (dk okd_law_14 9 rfl) (by decide) ?_ ?_
          · refine s_run X ok_law_14 22 1 (pc' := 867) (vs' := [some (.ref b), some (.ref x), some (.ref m), some (.ref o), some (.int i), some (.int o2.1), some (.int o5.1), none]) (st' := [.long 0, .long v9]) rfl ?_
            exact s_less [true, true, true, true, true, false, false, false] rfl (h12 0)
          · refine s_run X ok_law_14 20 2 (pc' := 867) (vs' := [some (.ref b), some (.ref x), some (.ref m), some (.ref o), some (.int i), some (.int o2.1), some (.int o5.1), none]) (st' := [.long 1, .long v9]) rfl ?_
            exact s_less [true, true, true, true, true, false, false, false] rfl (h12 1)
  · refine s_run X ok_law_14 15 1 (pc' := 848) (vs' := [some (.ref b), some (.ref x), some (.ref m), some (.ref o), some (.int i), some (.int o2.1), some (.int o5.1), none]) (st' := [.int 0]) rfl ?_
    exact s_none
def tab_law_15 : List En := [(876, 8, 1, 0), (877, 8, 0, 0), (878, 5, 4, 0), (880, 0, 0, 1), (881, 17, 0, 0), (883, 8, 0, 0), (884, 5, 4, 0), (886, 0, 0, 2), (887, 17, 0, 0), (889, 8, 0, 0), (890, 5, 4, 0), (892, 0, 0, 3), (893, 17, 0, 0), (895, 8, 3, 0), (899, 11, 5, 0), (901, 8, 2, 0), (902, 8, 0, 0), (903, 5, 4, 0), (905, 0, 0, 1), (906, 17, 0, 0), (908, 8, 0, 0), (909, 5, 4, 0), (911, 0, 0, 2), (912, 17, 0, 0), (914, 8, 0, 0), (915, 5, 4, 0), (917, 0, 0, 3), (918, 17, 0, 0), (923, 11, 6, 0), (925, 8, 2, 0), (929, 5, 5, 0), (934, 0, 0, 0), (936, 5, 5, 0), (941, 8, 3, 0), (942, 0, 0, 0), (944, 5, 6, 0), (946, 31, 0, 0), (947, 40, 0, 0), (951, 0, 0, 0), (953, 41, 4006, 0)]
theorem ok_law_15 : tab_law_15.all (okE code) = true := by decide +kernel
def ed_law_15 : List (Nat × Instr × Nat) := [(882, .iaload, 1), (888, .iaload, 1), (894, .iaload, 1), (896, .invokestatic 241, 3), (907, .iaload, 1), (913, .iaload, 1), (919, .iaload, 1), (920, .invokevirtual 244, 3), (926, .invokevirtual 214, 3), (931, .if_icmp .eq 5, 3), (935, .ireturn, 1), (938, .ifCond .ne 15, 3), (943, .laload, 1), (948, .ifCond .eq 5, 3), (952, .ireturn, 1)]
theorem okd_law_15 : ed_law_15.all (okD code) = true := by decide +kernel
def f_law_15 (Ls : Nat) (xs : Nat → Int32) (S : St) (x m o : Nat) (i : Int32) (c : Nat) (kont : St → Nat → Option Unit) : Option Unit := sx Ls xs (i + 1) fun (v1 : Int32) => sx Ls xs (i + 2) fun (v2 : Int32) => sx Ls xs (i + 3) fun (v3 : Int32) => cl (f_L_distance S x v1 v2 v3 o) fun (o4 : Int32 × St × Nat) => bud (c + o4.2.2) <| sx Ls xs (i + 1) fun (v6 : Int32) => sx Ls xs (i + 2) fun (v7 : Int32) => sx Ls xs (i + 3) fun (v8 : Int32) => cl (f_X12_distance o4.2.1 m v6 v7 v8) fun (o9 : Int32 × St) => cl (f_X12_thrown o9.2 m) fun (v10 : Int32) => if v10 = o4.1 then (jn (κ := Option (Unit)) (kont o9.2 ((c + o4.2.2))) fun k11 => if o4.1 = 0 then (ldJ o9.2 o 0 fun (v13 : Int64) => if v13 = (Int32.toInt64 o9.1) then (k11) else (none)) else (k11)) else (none)
set_option maxHeartbeats 4000000 in
set_option maxRecDepth 100000 in
theorem c_law_15 {Cn : Nat → CT} {b Ls : Nat} {xs : Nat → Int32} {Q : Unit → State → Prop} {x m o : Nat} {i : Int32} (hf : Fam Cn b Ls xs) (tx0 : tT (Cn 0) x 10) (tm0 : tT (Cn 0) m 11) (to0 : tT (Cn 0) o 14) (S : St) (c : Nat) (hc : c ≤ 512) (kont : St → Nat → Option Unit) (hk : ∀ (S : St) (c : Nat), c ≤ 512 → Jd (Cn c) 8 Q S 4006 [some (.ref b), some (.ref x), some (.ref m), some (.ref o), some (.int i), none, none, none] [] (kont S c)) : Jd (Cn c) 8 Q S 876 [some (.ref b), some (.ref x), some (.ref m), some (.ref o), some (.int i), none, none, none] [] (f_law_15 Ls xs S x m o i c kont) := by
  have X := hf.X hc
  have E := hf.E c
  have tx_ := hf.T c tx0
  have tm_ := hf.T c tm0
  have to_ := hf.T c to0
  unfold f_law_15
  refine s_run X ok_law_15 0 5 (pc' := 882) (vs' := [some (.ref b), some (.ref x), some (.ref m), some (.ref o), some (.int i), none, none, none]) (st' := [.int (i + 1), .ref b, .ref x]) rfl ?_
  refine s_sld hf (dk okd_law_15 0 rfl) (fun v1 => ?_)
  refine s_run X ok_law_15 5 4 (pc' := 888) (vs' := [some (.ref b), some (.ref x), some (.ref m), some (.ref o), some (.int i), none, none, none]) (st' := [.int (i + 2), .ref b, .int v1, .ref x]) rfl ?_
  refine s_sld hf (dk okd_law_15 1 rfl) (fun v2 => ?_)
  refine s_run X ok_law_15 9 4 (pc' := 894) (vs' := [some (.ref b), some (.ref x), some (.ref m), some (.ref o), some (.int i), none, none, none]) (st' := [.int (i + 3), .ref b, .int v2, .int v1, .ref x]) rfl ?_
  refine s_sld hf (dk okd_law_15 2 rfl) (fun v3 => ?_)
  refine s_run X ok_law_15 13 1 (pc' := 896) (vs' := [some (.ref b), some (.ref x), some (.ref m), some (.ref o), some (.int i), none, none, none]) (st' := [.ref o, .int v3, .int v2, .int v1, .ref x]) rfl ?_
  refine s_callH (c0 := c) (As := [.ref x, .int v1, .int v2, .int v3, .ref o]) (rest := []) hf mh_L_241 (c_L_distance S x v1 v2 v3 o) (ta2 tx_ to_) rfl rfl (Nat.le_of_ble_eq_true rfl) (Nat.le_of_ble_eq_true rfl) (Nat.le_of_ble_eq_true rfl) (dk okd_law_15 3 rfl) (st' := fun o4 => [.int o4.1]) (fun _ => rfl) (fun o4 hb5 => ?_)
  have X := hf.X hb5
  have E := hf.E (c + o4.2.2)
  have tx_ := hf.T (c + o4.2.2) tx_
  have tm_ := hf.T (c + o4.2.2) tm_
  have to_ := hf.T (c + o4.2.2) to_
  refine s_run X ok_law_15 14 6 (pc' := 907) (vs' := [some (.ref b), some (.ref x), some (.ref m), some (.ref o), some (.int i), some (.int o4.1), none, none]) (st' := [.int (i + 1), .ref b, .ref m]) rfl ?_
  refine s_sld hf (dk okd_law_15 4 rfl) (fun v6 => ?_)
  refine s_run X ok_law_15 20 4 (pc' := 913) (vs' := [some (.ref b), some (.ref x), some (.ref m), some (.ref o), some (.int i), some (.int o4.1), none, none]) (st' := [.int (i + 2), .ref b, .int v6, .ref m]) rfl ?_
  refine s_sld hf (dk okd_law_15 5 rfl) (fun v7 => ?_)
  refine s_run X ok_law_15 24 4 (pc' := 919) (vs' := [some (.ref b), some (.ref x), some (.ref m), some (.ref o), some (.int i), some (.int o4.1), none, none]) (st' := [.int (i + 3), .ref b, .int v7, .int v6, .ref m]) rfl ?_
  refine s_sld hf (dk okd_law_15 6 rfl) (fun v8 => ?_)
  refine s_callV (b := m) (As := [.int v6, .int v7, .int v8]) (rest := []) X E mv_L_244 (c_X12_distance o4.2.1 m v6 v7 v8) rfl (ta1 tm_) rfl (by decide) tm_ rfl rfl (Nat.le_of_ble_eq_true rfl) (Nat.le_of_ble_eq_true rfl) (Nat.le_of_ble_eq_true rfl) (dk okd_law_15 7 rfl) (st' := fun o9 => [.int o9.1]) (fun _ => rfl) (fun o9 => ?_)
  refine s_run X ok_law_15 28 2 (pc' := 926) (vs' := [some (.ref b), some (.ref x), some (.ref m), some (.ref o), some (.int i), some (.int o4.1), some (.int o9.1), none]) (st' := [.ref m]) rfl ?_
  refine s_callV (b := m) (As := []) (rest := []) X E mv_L_214 (c_X12_thrown o9.2 m) rfl (ta1 tm_) rfl (by decide) tm_ rfl rfl (Nat.le_of_ble_eq_true rfl) (Nat.le_of_ble_eq_true rfl) (Nat.le_of_ble_eq_true rfl) (dk okd_law_15 8 rfl) (st' := fun v10 => [.int v10]) (fun _ => rfl) (fun v10 => ?_)
  refine s_run X ok_law_15 30 1 (pc' := 931) (vs' := [some (.ref b), some (.ref x), some (.ref m), some (.ref o), some (.int i), some (.int o4.1), some (.int o9.1), none]) (st' := [.int o4.1, .int v10]) rfl ?_
  refine s_icmp_eq (tgt := 936) X (dk okd_law_15 9 rfl) (by decide) ?_ ?_
  · refine s_run X ok_law_15 32 1 (pc' := 938) (vs' := [some (.ref b), some (.ref x), some (.ref m), some (.ref o), some (.int i), some (.int o4.1), some (.int o9.1), none]) (st' := [.int o4.1]) rfl ?_
    refine s_jn (κ := Option (Unit)) (fun k11 => Jd (Cn (c + o4.2.2)) 8 Q o9.2 953 [some (.ref b), some (.ref x), some (.ref m), some (.ref o), some (.int i), none, none, none] [] k11) ?_ (fun k11 h12 => ?_)
    · refine s_run X ok_law_15 39 1 (pc' := 4006) (vs' := [some (.ref b), some (.ref x), some (.ref m), some (.ref o), some (.int i), none, none, none]) (st' := []) rfl ?_
      exact s_less [true, true, true, true, true, false, false, false] rfl (hk o9.2 ((c + o4.2.2)) hb5)
    · refine s_if_ne (tgt := 953) X (dk okd_law_15 11 rfl) (by decide) ?_ ?_
      · exact s_less [true, true, true, true, true, false, false, false] rfl (h12)
      · refine s_run X ok_law_15 33 2 (pc' := 943) (vs' := [some (.ref b), some (.ref x), some (.ref m), some (.ref o), some (.int i), some (.int o4.1), some (.int o9.1), none]) (st' := [.int 0, .ref o]) rfl ?_
        refine s_lald X to_ (dk okd_law_15 12 rfl) (fun v13 => ?_)
        refine s_run X ok_law_15 35 3 (pc' := 948) (vs' := [some (.ref b), some (.ref x), some (.ref m), some (.ref o), some (.int i), some (.int o4.1), some (.int o9.1), none]) (st' := [.int (lg_cmp v13 (Int32.toInt64 o9.1))]) rfl ?_
        refine s_lif_eq (tgt := 953) X (dk okd_law_15 13 rfl) (by decide) ?_ ?_
        · exact s_less [true, true, true, true, true, false, false, false] rfl (h12)
        · refine s_run X ok_law_15 38 1 (pc' := 952) (vs' := [some (.ref b), some (.ref x), some (.ref m), some (.ref o), some (.int i), some (.int o4.1), some (.int o9.1), none]) (st' := [.int 0]) rfl ?_
          exact s_none
  · refine s_run X ok_law_15 31 1 (pc' := 935) (vs' := [some (.ref b), some (.ref x), some (.ref m), some (.ref o), some (.int i), some (.int o4.1), some (.int o9.1), none]) (st' := [.int 0]) rfl ?_
    exact s_none
def tab_law_16 : List En := [(956, 8, 1, 0), (957, 8, 0, 0), (958, 5, 4, 0), (960, 0, 0, 1), (961, 17, 0, 0), (963, 8, 0, 0), (964, 5, 4, 0), (966, 0, 0, 2), (967, 17, 0, 0), (969, 8, 0, 0), (970, 5, 4, 0), (972, 0, 0, 3), (973, 17, 0, 0), (975, 8, 0, 0), (976, 5, 4, 0), (978, 0, 0, 4), (979, 17, 0, 0), (981, 8, 0, 0), (982, 5, 4, 0), (984, 0, 0, 5), (985, 17, 0, 0), (987, 8, 0, 0), (988, 5, 4, 0), (990, 1, 0, 6), (992, 17, 0, 0), (994, 8, 3, 0), (998, 11, 5, 0), (1000, 8, 2, 0), (1001, 8, 0, 0), (1002, 5, 4, 0), (1004, 0, 0, 1), (1005, 17, 0, 0), (1007, 8, 0, 0), (1008, 5, 4, 0), (1010, 0, 0, 2), (1011, 17, 0, 0), (1013, 8, 0, 0), (1014, 5, 4, 0), (1016, 0, 0, 3), (1017, 17, 0, 0), (1019, 8, 0, 0), (1020, 5, 4, 0), (1022, 0, 0, 4), (1023, 17, 0, 0), (1025, 8, 0, 0), (1026, 5, 4, 0), (1028, 0, 0, 5), (1029, 17, 0, 0), (1031, 8, 0, 0), (1032, 5, 4, 0), (1034, 1, 0, 6), (1036, 17, 0, 0), (1041, 11, 6, 0), (1043, 8, 2, 0), (1047, 5, 5, 0), (1052, 0, 0, 0), (1054, 5, 5, 0), (1059, 8, 3, 0), (1060, 0, 0, 0), (1062, 5, 6, 0), (1064, 31, 0, 0), (1065, 40, 0, 0), (1069, 0, 0, 0), (1071, 41, 4006, 0)]
theorem ok_law_16 : tab_law_16.all (okE code) = true := by decide +kernel
def ed_law_16 : List (Nat × Instr × Nat) := [(962, .iaload, 1), (968, .iaload, 1), (974, .iaload, 1), (980, .iaload, 1), (986, .iaload, 1), (993, .iaload, 1), (995, .invokestatic 245, 3), (1006, .iaload, 1), (1012, .iaload, 1), (1018, .iaload, 1), (1024, .iaload, 1), (1030, .iaload, 1), (1037, .iaload, 1), (1038, .invokevirtual 248, 3), (1044, .invokevirtual 214, 3), (1049, .if_icmp .eq 5, 3), (1053, .ireturn, 1), (1056, .ifCond .ne 15, 3), (1061, .laload, 1), (1066, .ifCond .eq 5, 3), (1070, .ireturn, 1)]
theorem okd_law_16 : ed_law_16.all (okD code) = true := by decide +kernel
def f_law_16 (Ls : Nat) (xs : Nat → Int32) (S : St) (x m o : Nat) (i : Int32) (c : Nat) (kont : St → Nat → Option Unit) : Option Unit := sx Ls xs (i + 1) fun (v1 : Int32) => sx Ls xs (i + 2) fun (v2 : Int32) => sx Ls xs (i + 3) fun (v3 : Int32) => sx Ls xs (i + 4) fun (v4 : Int32) => sx Ls xs (i + 5) fun (v5 : Int32) => sx Ls xs (i + 6) fun (v6 : Int32) => cl (f_L_cede S x v1 v2 v3 v4 v5 v6 o) fun (o7 : Int32 × St × Nat) => bud (c + o7.2.2) <| sx Ls xs (i + 1) fun (v9 : Int32) => sx Ls xs (i + 2) fun (v10 : Int32) => sx Ls xs (i + 3) fun (v11 : Int32) => sx Ls xs (i + 4) fun (v12 : Int32) => sx Ls xs (i + 5) fun (v13 : Int32) => sx Ls xs (i + 6) fun (v14 : Int32) => cl (f_X12_cede o7.2.1 m v9 v10 v11 v12 v13 v14) fun (o15 : Int32 × St) => cl (f_X12_thrown o15.2 m) fun (v16 : Int32) => if v16 = o7.1 then (jn (κ := Option (Unit)) (kont o15.2 ((c + o7.2.2))) fun k17 => if o7.1 = 0 then (ldJ o15.2 o 0 fun (v19 : Int64) => if v19 = (Int32.toInt64 o15.1) then (k17) else (none)) else (k17)) else (none)
set_option maxHeartbeats 4000000 in
set_option maxRecDepth 100000 in
theorem c_law_16 {Cn : Nat → CT} {b Ls : Nat} {xs : Nat → Int32} {Q : Unit → State → Prop} {x m o : Nat} {i : Int32} (hf : Fam Cn b Ls xs) (tx0 : tT (Cn 0) x 10) (tm0 : tT (Cn 0) m 11) (to0 : tT (Cn 0) o 14) (S : St) (c : Nat) (hc : c ≤ 512) (kont : St → Nat → Option Unit) (hk : ∀ (S : St) (c : Nat), c ≤ 512 → Jd (Cn c) 8 Q S 4006 [some (.ref b), some (.ref x), some (.ref m), some (.ref o), some (.int i), none, none, none] [] (kont S c)) : Jd (Cn c) 8 Q S 956 [some (.ref b), some (.ref x), some (.ref m), some (.ref o), some (.int i), none, none, none] [] (f_law_16 Ls xs S x m o i c kont) := by
  have X := hf.X hc
  have E := hf.E c
  have tx_ := hf.T c tx0
  have tm_ := hf.T c tm0
  have to_ := hf.T c to0
  unfold f_law_16
  refine s_run X ok_law_16 0 5 (pc' := 962) (vs' := [some (.ref b), some (.ref x), some (.ref m), some (.ref o), some (.int i), none, none, none]) (st' := [.int (i + 1), .ref b, .ref x]) rfl ?_
  refine s_sld hf (dk okd_law_16 0 rfl) (fun v1 => ?_)
  refine s_run X ok_law_16 5 4 (pc' := 968) (vs' := [some (.ref b), some (.ref x), some (.ref m), some (.ref o), some (.int i), none, none, none]) (st' := [.int (i + 2), .ref b, .int v1, .ref x]) rfl ?_
  refine s_sld hf (dk okd_law_16 1 rfl) (fun v2 => ?_)
  refine s_run X ok_law_16 9 4 (pc' := 974) (vs' := [some (.ref b), some (.ref x), some (.ref m), some (.ref o), some (.int i), none, none, none]) (st' := [.int (i + 3), .ref b, .int v2, .int v1, .ref x]) rfl ?_
  refine s_sld hf (dk okd_law_16 2 rfl) (fun v3 => ?_)
  refine s_run X ok_law_16 13 4 (pc' := 980) (vs' := [some (.ref b), some (.ref x), some (.ref m), some (.ref o), some (.int i), none, none, none]) (st' := [.int (i + 4), .ref b, .int v3, .int v2, .int v1, .ref x]) rfl ?_
  refine s_sld hf (dk okd_law_16 3 rfl) (fun v4 => ?_)
  refine s_run X ok_law_16 17 4 (pc' := 986) (vs' := [some (.ref b), some (.ref x), some (.ref m), some (.ref o), some (.int i), none, none, none]) (st' := [.int (i + 5), .ref b, .int v4, .int v3, .int v2, .int v1, .ref x]) rfl ?_
  refine s_sld hf (dk okd_law_16 4 rfl) (fun v5 => ?_)
  refine s_run X ok_law_16 21 4 (pc' := 993) (vs' := [some (.ref b), some (.ref x), some (.ref m), some (.ref o), some (.int i), none, none, none]) (st' := [.int (i + 6), .ref b, .int v5, .int v4, .int v3, .int v2, .int v1, .ref x]) rfl ?_
  refine s_sld hf (dk okd_law_16 5 rfl) (fun v6 => ?_)
  refine s_run X ok_law_16 25 1 (pc' := 995) (vs' := [some (.ref b), some (.ref x), some (.ref m), some (.ref o), some (.int i), none, none, none]) (st' := [.ref o, .int v6, .int v5, .int v4, .int v3, .int v2, .int v1, .ref x]) rfl ?_
  refine s_callH (c0 := c) (As := [.ref x, .int v1, .int v2, .int v3, .int v4, .int v5, .int v6, .ref o]) (rest := []) hf mh_L_245 (c_L_cede S x v1 v2 v3 v4 v5 v6 o) (ta2 tx_ to_) rfl rfl (Nat.le_of_ble_eq_true rfl) (Nat.le_of_ble_eq_true rfl) (Nat.le_of_ble_eq_true rfl) (dk okd_law_16 6 rfl) (st' := fun o7 => [.int o7.1]) (fun _ => rfl) (fun o7 hb8 => ?_)
  have X := hf.X hb8
  have E := hf.E (c + o7.2.2)
  have tx_ := hf.T (c + o7.2.2) tx_
  have tm_ := hf.T (c + o7.2.2) tm_
  have to_ := hf.T (c + o7.2.2) to_
  refine s_run X ok_law_16 26 6 (pc' := 1006) (vs' := [some (.ref b), some (.ref x), some (.ref m), some (.ref o), some (.int i), some (.int o7.1), none, none]) (st' := [.int (i + 1), .ref b, .ref m]) rfl ?_
  refine s_sld hf (dk okd_law_16 7 rfl) (fun v9 => ?_)
  refine s_run X ok_law_16 32 4 (pc' := 1012) (vs' := [some (.ref b), some (.ref x), some (.ref m), some (.ref o), some (.int i), some (.int o7.1), none, none]) (st' := [.int (i + 2), .ref b, .int v9, .ref m]) rfl ?_
  refine s_sld hf (dk okd_law_16 8 rfl) (fun v10 => ?_)
  refine s_run X ok_law_16 36 4 (pc' := 1018) (vs' := [some (.ref b), some (.ref x), some (.ref m), some (.ref o), some (.int i), some (.int o7.1), none, none]) (st' := [.int (i + 3), .ref b, .int v10, .int v9, .ref m]) rfl ?_
  refine s_sld hf (dk okd_law_16 9 rfl) (fun v11 => ?_)
  refine s_run X ok_law_16 40 4 (pc' := 1024) (vs' := [some (.ref b), some (.ref x), some (.ref m), some (.ref o), some (.int i), some (.int o7.1), none, none]) (st' := [.int (i + 4), .ref b, .int v11, .int v10, .int v9, .ref m]) rfl ?_
  refine s_sld hf (dk okd_law_16 10 rfl) (fun v12 => ?_)
  refine s_run X ok_law_16 44 4 (pc' := 1030) (vs' := [some (.ref b), some (.ref x), some (.ref m), some (.ref o), some (.int i), some (.int o7.1), none, none]) (st' := [.int (i + 5), .ref b, .int v12, .int v11, .int v10, .int v9, .ref m]) rfl ?_
  refine s_sld hf (dk okd_law_16 11 rfl) (fun v13 => ?_)
  refine s_run X ok_law_16 48 4 (pc' := 1037) (vs' := [some (.ref b), some (.ref x), some (.ref m), some (.ref o), some (.int i), some (.int o7.1), none, none]) (st' := [.int (i + 6), .ref b, .int v13, .int v12, .int v11, .int v10, .int v9, .ref m]) rfl ?_
  refine s_sld hf (dk okd_law_16 12 rfl) (fun v14 => ?_)
  refine s_callV (b := m) (As := [.int v9, .int v10, .int v11, .int v12, .int v13, .int v14]) (rest := []) X E mv_L_248 (c_X12_cede o7.2.1 m v9 v10 v11 v12 v13 v14) rfl (ta1 tm_) rfl (by decide) tm_ rfl rfl (Nat.le_of_ble_eq_true rfl) (Nat.le_of_ble_eq_true rfl) (Nat.le_of_ble_eq_true rfl) (dk okd_law_16 13 rfl) (st' := fun o15 => [.int o15.1]) (fun _ => rfl) (fun o15 => ?_)
  refine s_run X ok_law_16 52 2 (pc' := 1044) (vs' := [some (.ref b), some (.ref x), some (.ref m), some (.ref o), some (.int i), some (.int o7.1), some (.int o15.1), none]) (st' := [.ref m]) rfl ?_
  refine s_callV (b := m) (As := []) (rest := []) X E mv_L_214 (c_X12_thrown o15.2 m) rfl (ta1 tm_) rfl (by decide) tm_ rfl rfl (Nat.le_of_ble_eq_true rfl) (Nat.le_of_ble_eq_true rfl) (Nat.le_of_ble_eq_true rfl) (dk okd_law_16 14 rfl) (st' := fun v16 => [.int v16]) (fun _ => rfl) (fun v16 => ?_)
  refine s_run X ok_law_16 54 1 (pc' := 1049) (vs' := [some (.ref b), some (.ref x), some (.ref m), some (.ref o), some (.int i), some (.int o7.1), some (.int o15.1), none]) (st' := [.int o7.1, .int v16]) rfl ?_
  refine s_icmp_eq (tgt := 1054) X (dk okd_law_16 15 rfl) (by decide) ?_ ?_
  · refine s_run X ok_law_16 56 1 (pc' := 1056) (vs' := [some (.ref b), some (.ref x), some (.ref m), some (.ref o), some (.int i), some (.int o7.1), some (.int o15.1), none]) (st' := [.int o7.1]) rfl ?_
    refine s_jn (κ := Option (Unit)) (fun k17 => Jd (Cn (c + o7.2.2)) 8 Q o15.2 1071 [some (.ref b), some (.ref x), some (.ref m), some (.ref o), some (.int i), none, none, none] [] k17) ?_ (fun k17 h18 => ?_)
    · refine s_run X ok_law_16 63 1 (pc' := 4006) (vs' := [some (.ref b), some (.ref x), some (.ref m), some (.ref o), some (.int i), none, none, none]) (st' := []) rfl ?_
      exact s_less [true, true, true, true, true, false, false, false] rfl (hk o15.2 ((c + o7.2.2)) hb8)
    · refine s_if_ne (tgt := 1071) X (dk okd_law_16 17 rfl) (by decide) ?_ ?_
      · exact s_less [true, true, true, true, true, false, false, false] rfl (h18)
      · refine s_run X ok_law_16 57 2 (pc' := 1061) (vs' := [some (.ref b), some (.ref x), some (.ref m), some (.ref o), some (.int i), some (.int o7.1), some (.int o15.1), none]) (st' := [.int 0, .ref o]) rfl ?_
        refine s_lald X to_ (dk okd_law_16 18 rfl) (fun v19 => ?_)
        refine s_run X ok_law_16 59 3 (pc' := 1066) (vs' := [some (.ref b), some (.ref x), some (.ref m), some (.ref o), some (.int i), some (.int o7.1), some (.int o15.1), none]) (st' := [.int (lg_cmp v19 (Int32.toInt64 o15.1))]) rfl ?_
        refine s_lif_eq (tgt := 1071) X (dk okd_law_16 19 rfl) (by decide) ?_ ?_
        · exact s_less [true, true, true, true, true, false, false, false] rfl (h18)
        · refine s_run X ok_law_16 62 1 (pc' := 1070) (vs' := [some (.ref b), some (.ref x), some (.ref m), some (.ref o), some (.int i), some (.int o7.1), some (.int o15.1), none]) (st' := [.int 0]) rfl ?_
          exact s_none
  · refine s_run X ok_law_16 55 1 (pc' := 1053) (vs' := [some (.ref b), some (.ref x), some (.ref m), some (.ref o), some (.int i), some (.int o7.1), some (.int o15.1), none]) (st' := [.int 0]) rfl ?_
    exact s_none
def tab_law_17 : List En := [(1074, 8, 1, 0), (1075, 8, 0, 0), (1076, 5, 4, 0), (1078, 0, 0, 1), (1079, 17, 0, 0), (1081, 8, 3, 0), (1085, 11, 5, 0), (1087, 8, 2, 0), (1088, 8, 0, 0), (1089, 5, 4, 0), (1091, 0, 0, 1), (1092, 17, 0, 0), (1097, 11, 6, 0), (1099, 8, 2, 0), (1103, 5, 5, 0), (1108, 0, 0, 0), (1110, 5, 5, 0), (1115, 8, 3, 0), (1116, 0, 0, 0), (1118, 5, 6, 0), (1120, 31, 0, 0), (1121, 40, 0, 0), (1125, 0, 0, 0), (1127, 41, 4006, 0)]
theorem ok_law_17 : tab_law_17.all (okE code) = true := by decide +kernel
def ed_law_17 : List (Nat × Instr × Nat) := [(1080, .iaload, 1), (1082, .invokestatic 249, 3), (1093, .iaload, 1), (1094, .invokevirtual 251, 3), (1100, .invokevirtual 214, 3), (1105, .if_icmp .eq 5, 3), (1109, .ireturn, 1), (1112, .ifCond .ne 15, 3), (1117, .laload, 1), (1122, .ifCond .eq 5, 3), (1126, .ireturn, 1)]
theorem okd_law_17 : ed_law_17.all (okD code) = true := by decide +kernel
def f_law_17 (Ls : Nat) (xs : Nat → Int32) (S : St) (x m o : Nat) (i : Int32) (c : Nat) (kont : St → Nat → Option Unit) : Option Unit := sx Ls xs (i + 1) fun (v1 : Int32) => cl (f_L_outletOwner S x v1 o) fun (o2 : Int32 × St × Nat) => bud (c + o2.2.2) <| sx Ls xs (i + 1) fun (v4 : Int32) => cl (f_X12_outletOwner o2.2.1 m v4) fun (o5 : Int32 × St) => cl (f_X12_thrown o5.2 m) fun (v6 : Int32) => if v6 = o2.1 then (jn (κ := Option (Unit)) (kont o5.2 ((c + o2.2.2))) fun k7 => if o2.1 = 0 then (ldJ o5.2 o 0 fun (v9 : Int64) => if v9 = (Int32.toInt64 o5.1) then (k7) else (none)) else (k7)) else (none)
set_option maxHeartbeats 4000000 in
set_option maxRecDepth 100000 in
theorem c_law_17 {Cn : Nat → CT} {b Ls : Nat} {xs : Nat → Int32} {Q : Unit → State → Prop} {x m o : Nat} {i : Int32} (hf : Fam Cn b Ls xs) (tx0 : tT (Cn 0) x 10) (tm0 : tT (Cn 0) m 11) (to0 : tT (Cn 0) o 14) (S : St) (c : Nat) (hc : c ≤ 512) (kont : St → Nat → Option Unit) (hk : ∀ (S : St) (c : Nat), c ≤ 512 → Jd (Cn c) 8 Q S 4006 [some (.ref b), some (.ref x), some (.ref m), some (.ref o), some (.int i), none, none, none] [] (kont S c)) : Jd (Cn c) 8 Q S 1074 [some (.ref b), some (.ref x), some (.ref m), some (.ref o), some (.int i), none, none, none] [] (f_law_17 Ls xs S x m o i c kont) := by
  have X := hf.X hc
  have E := hf.E c
  have tx_ := hf.T c tx0
  have tm_ := hf.T c tm0
  have to_ := hf.T c to0
  unfold f_law_17
  refine s_run X ok_law_17 0 5 (pc' := 1080) (vs' := [some (.ref b), some (.ref x), some (.ref m), some (.ref o), some (.int i), none, none, none]) (st' := [.int (i + 1), .ref b, .ref x]) rfl ?_
  refine s_sld hf (dk okd_law_17 0 rfl) (fun v1 => ?_)
  refine s_run X ok_law_17 5 1 (pc' := 1082) (vs' := [some (.ref b), some (.ref x), some (.ref m), some (.ref o), some (.int i), none, none, none]) (st' := [.ref o, .int v1, .ref x]) rfl ?_
  refine s_callH (c0 := c) (As := [.ref x, .int v1, .ref o]) (rest := []) hf mh_L_249 (c_L_outletOwner S x v1 o) (ta2 tx_ to_) rfl rfl (Nat.le_of_ble_eq_true rfl) (Nat.le_of_ble_eq_true rfl) (Nat.le_of_ble_eq_true rfl) (dk okd_law_17 1 rfl) (st' := fun o2 => [.int o2.1]) (fun _ => rfl) (fun o2 hb3 => ?_)
  have X := hf.X hb3
  have E := hf.E (c + o2.2.2)
  have tx_ := hf.T (c + o2.2.2) tx_
  have tm_ := hf.T (c + o2.2.2) tm_
  have to_ := hf.T (c + o2.2.2) to_
  refine s_run X ok_law_17 6 6 (pc' := 1093) (vs' := [some (.ref b), some (.ref x), some (.ref m), some (.ref o), some (.int i), some (.int o2.1), none, none]) (st' := [.int (i + 1), .ref b, .ref m]) rfl ?_
  refine s_sld hf (dk okd_law_17 2 rfl) (fun v4 => ?_)
  refine s_callV (b := m) (As := [.int v4]) (rest := []) X E mv_L_251 (c_X12_outletOwner o2.2.1 m v4) rfl (ta1 tm_) rfl (by decide) tm_ rfl rfl (Nat.le_of_ble_eq_true rfl) (Nat.le_of_ble_eq_true rfl) (Nat.le_of_ble_eq_true rfl) (dk okd_law_17 3 rfl) (st' := fun o5 => [.int o5.1]) (fun _ => rfl) (fun o5 => ?_)
  refine s_run X ok_law_17 12 2 (pc' := 1100) (vs' := [some (.ref b), some (.ref x), some (.ref m), some (.ref o), some (.int i), some (.int o2.1), some (.int o5.1), none]) (st' := [.ref m]) rfl ?_
  refine s_callV (b := m) (As := []) (rest := []) X E mv_L_214 (c_X12_thrown o5.2 m) rfl (ta1 tm_) rfl (by decide) tm_ rfl rfl (Nat.le_of_ble_eq_true rfl) (Nat.le_of_ble_eq_true rfl) (Nat.le_of_ble_eq_true rfl) (dk okd_law_17 4 rfl) (st' := fun v6 => [.int v6]) (fun _ => rfl) (fun v6 => ?_)
  refine s_run X ok_law_17 14 1 (pc' := 1105) (vs' := [some (.ref b), some (.ref x), some (.ref m), some (.ref o), some (.int i), some (.int o2.1), some (.int o5.1), none]) (st' := [.int o2.1, .int v6]) rfl ?_
  refine s_icmp_eq (tgt := 1110) X (dk okd_law_17 5 rfl) (by decide) ?_ ?_
  · refine s_run X ok_law_17 16 1 (pc' := 1112) (vs' := [some (.ref b), some (.ref x), some (.ref m), some (.ref o), some (.int i), some (.int o2.1), some (.int o5.1), none]) (st' := [.int o2.1]) rfl ?_
    refine s_jn (κ := Option (Unit)) (fun k7 => Jd (Cn (c + o2.2.2)) 8 Q o5.2 1127 [some (.ref b), some (.ref x), some (.ref m), some (.ref o), some (.int i), none, none, none] [] k7) ?_ (fun k7 h8 => ?_)
    · refine s_run X ok_law_17 23 1 (pc' := 4006) (vs' := [some (.ref b), some (.ref x), some (.ref m), some (.ref o), some (.int i), none, none, none]) (st' := []) rfl ?_
      exact s_less [true, true, true, true, true, false, false, false] rfl (hk o5.2 ((c + o2.2.2)) hb3)
    · refine s_if_ne (tgt := 1127) X (dk okd_law_17 7 rfl) (by decide) ?_ ?_
      · exact s_less [true, true, true, true, true, false, false, false] rfl (h8)
      · refine s_run X ok_law_17 17 2 (pc' := 1117) (vs' := [some (.ref b), some (.ref x), some (.ref m), some (.ref o), some (.int i), some (.int o2.1), some (.int o5.1), none]) (st' := [.int 0, .ref o]) rfl ?_
        refine s_lald X to_ (dk okd_law_17 8 rfl) (fun v9 => ?_)
        refine s_run X ok_law_17 19 3 (pc' := 1122) (vs' := [some (.ref b), some (.ref x), some (.ref m), some (.ref o), some (.int i), some (.int o2.1), some (.int o5.1), none]) (st' := [.int (lg_cmp v9 (Int32.toInt64 o5.1))]) rfl ?_
        refine s_lif_eq (tgt := 1127) X (dk okd_law_17 9 rfl) (by decide) ?_ ?_
        · exact s_less [true, true, true, true, true, false, false, false] rfl (h8)
        · refine s_run X ok_law_17 22 1 (pc' := 1126) (vs' := [some (.ref b), some (.ref x), some (.ref m), some (.ref o), some (.int i), some (.int o2.1), some (.int o5.1), none]) (st' := [.int 0]) rfl ?_
          exact s_none
  · refine s_run X ok_law_17 15 1 (pc' := 1109) (vs' := [some (.ref b), some (.ref x), some (.ref m), some (.ref o), some (.int i), some (.int o2.1), some (.int o5.1), none]) (st' := [.int 0]) rfl ?_
    exact s_none
def tab_law_18 : List En := [(1130, 8, 1, 0), (1131, 8, 0, 0), (1132, 5, 4, 0), (1134, 0, 0, 1), (1135, 17, 0, 0), (1137, 8, 3, 0), (1141, 11, 5, 0), (1143, 8, 2, 0), (1144, 8, 0, 0), (1145, 5, 4, 0), (1147, 0, 0, 1), (1148, 17, 0, 0), (1153, 11, 6, 0), (1155, 8, 2, 0), (1159, 5, 5, 0), (1164, 0, 0, 0), (1166, 5, 5, 0), (1171, 8, 3, 0), (1172, 0, 0, 0), (1174, 5, 6, 0), (1176, 31, 0, 0), (1177, 40, 0, 0), (1181, 0, 0, 0), (1183, 41, 4006, 0)]
theorem ok_law_18 : tab_law_18.all (okE code) = true := by decide +kernel
def ed_law_18 : List (Nat × Instr × Nat) := [(1136, .iaload, 1), (1138, .invokestatic 252, 3), (1149, .iaload, 1), (1150, .invokevirtual 254, 3), (1156, .invokevirtual 214, 3), (1161, .if_icmp .eq 5, 3), (1165, .ireturn, 1), (1168, .ifCond .ne 15, 3), (1173, .laload, 1), (1178, .ifCond .eq 5, 3), (1182, .ireturn, 1)]
theorem okd_law_18 : ed_law_18.all (okD code) = true := by decide +kernel
def f_law_18 (Ls : Nat) (xs : Nat → Int32) (S : St) (x m o : Nat) (i : Int32) (c : Nat) (kont : St → Nat → Option Unit) : Option Unit := sx Ls xs (i + 1) fun (v1 : Int32) => cl (f_L_outletCell S x v1 o) fun (o2 : Int32 × St × Nat) => bud (c + o2.2.2) <| sx Ls xs (i + 1) fun (v4 : Int32) => cl (f_X12_outletCell o2.2.1 m v4) fun (o5 : Int32 × St) => cl (f_X12_thrown o5.2 m) fun (v6 : Int32) => if v6 = o2.1 then (jn (κ := Option (Unit)) (kont o5.2 ((c + o2.2.2))) fun k7 => if o2.1 = 0 then (ldJ o5.2 o 0 fun (v9 : Int64) => if v9 = (Int32.toInt64 o5.1) then (k7) else (none)) else (k7)) else (none)
set_option maxHeartbeats 4000000 in
set_option maxRecDepth 100000 in
theorem c_law_18 {Cn : Nat → CT} {b Ls : Nat} {xs : Nat → Int32} {Q : Unit → State → Prop} {x m o : Nat} {i : Int32} (hf : Fam Cn b Ls xs) (tx0 : tT (Cn 0) x 10) (tm0 : tT (Cn 0) m 11) (to0 : tT (Cn 0) o 14) (S : St) (c : Nat) (hc : c ≤ 512) (kont : St → Nat → Option Unit) (hk : ∀ (S : St) (c : Nat), c ≤ 512 → Jd (Cn c) 8 Q S 4006 [some (.ref b), some (.ref x), some (.ref m), some (.ref o), some (.int i), none, none, none] [] (kont S c)) : Jd (Cn c) 8 Q S 1130 [some (.ref b), some (.ref x), some (.ref m), some (.ref o), some (.int i), none, none, none] [] (f_law_18 Ls xs S x m o i c kont) := by
  have X := hf.X hc
  have E := hf.E c
  have tx_ := hf.T c tx0
  have tm_ := hf.T c tm0
  have to_ := hf.T c to0
  unfold f_law_18
  refine s_run X ok_law_18 0 5 (pc' := 1136) (vs' := [some (.ref b), some (.ref x), some (.ref m), some (.ref o), some (.int i), none, none, none]) (st' := [.int (i + 1), .ref b, .ref x]) rfl ?_
  refine s_sld hf (dk okd_law_18 0 rfl) (fun v1 => ?_)
  refine s_run X ok_law_18 5 1 (pc' := 1138) (vs' := [some (.ref b), some (.ref x), some (.ref m), some (.ref o), some (.int i), none, none, none]) (st' := [.ref o, .int v1, .ref x]) rfl ?_
  refine s_callH (c0 := c) (As := [.ref x, .int v1, .ref o]) (rest := []) hf mh_L_252 (c_L_outletCell S x v1 o) (ta2 tx_ to_) rfl rfl (Nat.le_of_ble_eq_true rfl) (Nat.le_of_ble_eq_true rfl) (Nat.le_of_ble_eq_true rfl) (dk okd_law_18 1 rfl) (st' := fun o2 => [.int o2.1]) (fun _ => rfl) (fun o2 hb3 => ?_)
  have X := hf.X hb3
  have E := hf.E (c + o2.2.2)
  have tx_ := hf.T (c + o2.2.2) tx_
  have tm_ := hf.T (c + o2.2.2) tm_
  have to_ := hf.T (c + o2.2.2) to_
  refine s_run X ok_law_18 6 6 (pc' := 1149) (vs' := [some (.ref b), some (.ref x), some (.ref m), some (.ref o), some (.int i), some (.int o2.1), none, none]) (st' := [.int (i + 1), .ref b, .ref m]) rfl ?_
  refine s_sld hf (dk okd_law_18 2 rfl) (fun v4 => ?_)
  refine s_callV (b := m) (As := [.int v4]) (rest := []) X E mv_L_254 (c_X12_outletCell o2.2.1 m v4) rfl (ta1 tm_) rfl (by decide) tm_ rfl rfl (Nat.le_of_ble_eq_true rfl) (Nat.le_of_ble_eq_true rfl) (Nat.le_of_ble_eq_true rfl) (dk okd_law_18 3 rfl) (st' := fun o5 => [.int o5.1]) (fun _ => rfl) (fun o5 => ?_)
  refine s_run X ok_law_18 12 2 (pc' := 1156) (vs' := [some (.ref b), some (.ref x), some (.ref m), some (.ref o), some (.int i), some (.int o2.1), some (.int o5.1), none]) (st' := [.ref m]) rfl ?_
  refine s_callV (b := m) (As := []) (rest := []) X E mv_L_214 (c_X12_thrown o5.2 m) rfl (ta1 tm_) rfl (by decide) tm_ rfl rfl (Nat.le_of_ble_eq_true rfl) (Nat.le_of_ble_eq_true rfl) (Nat.le_of_ble_eq_true rfl) (dk okd_law_18 4 rfl) (st' := fun v6 => [.int v6]) (fun _ => rfl) (fun v6 => ?_)
  refine s_run X ok_law_18 14 1 (pc' := 1161) (vs' := [some (.ref b), some (.ref x), some (.ref m), some (.ref o), some (.int i), some (.int o2.1), some (.int o5.1), none]) (st' := [.int o2.1, .int v6]) rfl ?_
  refine s_icmp_eq (tgt := 1166) X (dk okd_law_18 5 rfl) (by decide) ?_ ?_
  · refine s_run X ok_law_18 16 1 (pc' := 1168) (vs' := [some (.ref b), some (.ref x), some (.ref m), some (.ref o), some (.int i), some (.int o2.1), some (.int o5.1), none]) (st' := [.int o2.1]) rfl ?_
    refine s_jn (κ := Option (Unit)) (fun k7 => Jd (Cn (c + o2.2.2)) 8 Q o5.2 1183 [some (.ref b), some (.ref x), some (.ref m), some (.ref o), some (.int i), none, none, none] [] k7) ?_ (fun k7 h8 => ?_)
    · refine s_run X ok_law_18 23 1 (pc' := 4006) (vs' := [some (.ref b), some (.ref x), some (.ref m), some (.ref o), some (.int i), none, none, none]) (st' := []) rfl ?_
      exact s_less [true, true, true, true, true, false, false, false] rfl (hk o5.2 ((c + o2.2.2)) hb3)
    · refine s_if_ne (tgt := 1183) X (dk okd_law_18 7 rfl) (by decide) ?_ ?_
      · exact s_less [true, true, true, true, true, false, false, false] rfl (h8)
      · refine s_run X ok_law_18 17 2 (pc' := 1173) (vs' := [some (.ref b), some (.ref x), some (.ref m), some (.ref o), some (.int i), some (.int o2.1), some (.int o5.1), none]) (st' := [.int 0, .ref o]) rfl ?_
        refine s_lald X to_ (dk okd_law_18 8 rfl) (fun v9 => ?_)
        refine s_run X ok_law_18 19 3 (pc' := 1178) (vs' := [some (.ref b), some (.ref x), some (.ref m), some (.ref o), some (.int i), some (.int o2.1), some (.int o5.1), none]) (st' := [.int (lg_cmp v9 (Int32.toInt64 o5.1))]) rfl ?_
        refine s_lif_eq (tgt := 1183) X (dk okd_law_18 9 rfl) (by decide) ?_ ?_
        · exact s_less [true, true, true, true, true, false, false, false] rfl (h8)
        · refine s_run X ok_law_18 22 1 (pc' := 1182) (vs' := [some (.ref b), some (.ref x), some (.ref m), some (.ref o), some (.int i), some (.int o2.1), some (.int o5.1), none]) (st' := [.int 0]) rfl ?_
          exact s_none
  · refine s_run X ok_law_18 15 1 (pc' := 1165) (vs' := [some (.ref b), some (.ref x), some (.ref m), some (.ref o), some (.int i), some (.int o2.1), some (.int o5.1), none]) (st' := [.int 0]) rfl ?_
    exact s_none
def tab_law_19 : List En := [(1186, 8, 1, 0), (1187, 8, 0, 0), (1188, 5, 4, 0), (1190, 0, 0, 1), (1191, 17, 0, 0), (1193, 8, 0, 0), (1194, 5, 4, 0), (1196, 0, 0, 2), (1197, 17, 0, 0), (1199, 8, 0, 0), (1200, 5, 4, 0), (1202, 0, 0, 3), (1203, 17, 0, 0), (1205, 8, 3, 0), (1209, 11, 5, 0), (1211, 8, 2, 0), (1212, 8, 0, 0), (1213, 5, 4, 0), (1215, 0, 0, 1), (1216, 17, 0, 0), (1218, 8, 0, 0), (1219, 5, 4, 0), (1221, 0, 0, 2), (1222, 17, 0, 0), (1224, 8, 0, 0), (1225, 5, 4, 0), (1227, 0, 0, 3), (1228, 17, 0, 0), (1233, 11, 6, 0), (1235, 8, 2, 0), (1239, 5, 5, 0), (1244, 0, 0, 0), (1246, 5, 5, 0), (1251, 8, 3, 0), (1252, 0, 0, 0), (1254, 5, 6, 0), (1256, 31, 0, 0), (1257, 40, 0, 0), (1261, 0, 0, 0), (1263, 41, 4006, 0)]
theorem ok_law_19 : tab_law_19.all (okE code) = true := by decide +kernel
def ed_law_19 : List (Nat × Instr × Nat) := [(1192, .iaload, 1), (1198, .iaload, 1), (1204, .iaload, 1), (1206, .invokestatic 255, 3), (1217, .iaload, 1), (1223, .iaload, 1), (1229, .iaload, 1), (1230, .invokevirtual 257, 3), (1236, .invokevirtual 214, 3), (1241, .if_icmp .eq 5, 3), (1245, .ireturn, 1), (1248, .ifCond .ne 15, 3), (1253, .laload, 1), (1258, .ifCond .eq 5, 3), (1262, .ireturn, 1)]
theorem okd_law_19 : ed_law_19.all (okD code) = true := by decide +kernel
def f_law_19 (Ls : Nat) (xs : Nat → Int32) (S : St) (x m o : Nat) (i : Int32) (c : Nat) (kont : St → Nat → Option Unit) : Option Unit := sx Ls xs (i + 1) fun (v1 : Int32) => sx Ls xs (i + 2) fun (v2 : Int32) => sx Ls xs (i + 3) fun (v3 : Int32) => cl (f_L_openOutlet S x v1 v2 v3 o) fun (o4 : Int32 × St × Nat) => bud (c + o4.2.2) <| sx Ls xs (i + 1) fun (v6 : Int32) => sx Ls xs (i + 2) fun (v7 : Int32) => sx Ls xs (i + 3) fun (v8 : Int32) => cl (f_X12_openOutlet o4.2.1 m v6 v7 v8) fun (o9 : Int32 × St) => cl (f_X12_thrown o9.2 m) fun (v10 : Int32) => if v10 = o4.1 then (jn (κ := Option (Unit)) (kont o9.2 ((c + o4.2.2))) fun k11 => if o4.1 = 0 then (ldJ o9.2 o 0 fun (v13 : Int64) => if v13 = (Int32.toInt64 o9.1) then (k11) else (none)) else (k11)) else (none)
set_option maxHeartbeats 4000000 in
set_option maxRecDepth 100000 in
theorem c_law_19 {Cn : Nat → CT} {b Ls : Nat} {xs : Nat → Int32} {Q : Unit → State → Prop} {x m o : Nat} {i : Int32} (hf : Fam Cn b Ls xs) (tx0 : tT (Cn 0) x 10) (tm0 : tT (Cn 0) m 11) (to0 : tT (Cn 0) o 14) (S : St) (c : Nat) (hc : c ≤ 512) (kont : St → Nat → Option Unit) (hk : ∀ (S : St) (c : Nat), c ≤ 512 → Jd (Cn c) 8 Q S 4006 [some (.ref b), some (.ref x), some (.ref m), some (.ref o), some (.int i), none, none, none] [] (kont S c)) : Jd (Cn c) 8 Q S 1186 [some (.ref b), some (.ref x), some (.ref m), some (.ref o), some (.int i), none, none, none] [] (f_law_19 Ls xs S x m o i c kont) := by
  have X := hf.X hc
  have E := hf.E c
  have tx_ := hf.T c tx0
  have tm_ := hf.T c tm0
  have to_ := hf.T c to0
  unfold f_law_19
  refine s_run X ok_law_19 0 5 (pc' := 1192) (vs' := [some (.ref b), some (.ref x), some (.ref m), some (.ref o), some (.int i), none, none, none]) (st' := [.int (i + 1), .ref b, .ref x]) rfl ?_
  refine s_sld hf (dk okd_law_19 0 rfl) (fun v1 => ?_)
  refine s_run X ok_law_19 5 4 (pc' := 1198) (vs' := [some (.ref b), some (.ref x), some (.ref m), some (.ref o), some (.int i), none, none, none]) (st' := [.int (i + 2), .ref b, .int v1, .ref x]) rfl ?_
  refine s_sld hf (dk okd_law_19 1 rfl) (fun v2 => ?_)
  refine s_run X ok_law_19 9 4 (pc' := 1204) (vs' := [some (.ref b), some (.ref x), some (.ref m), some (.ref o), some (.int i), none, none, none]) (st' := [.int (i + 3), .ref b, .int v2, .int v1, .ref x]) rfl ?_
  refine s_sld hf (dk okd_law_19 2 rfl) (fun v3 => ?_)
  refine s_run X ok_law_19 13 1 (pc' := 1206) (vs' := [some (.ref b), some (.ref x), some (.ref m), some (.ref o), some (.int i), none, none, none]) (st' := [.ref o, .int v3, .int v2, .int v1, .ref x]) rfl ?_
  refine s_callH (c0 := c) (As := [.ref x, .int v1, .int v2, .int v3, .ref o]) (rest := []) hf mh_L_255 (c_L_openOutlet S x v1 v2 v3 o) (ta2 tx_ to_) rfl rfl (Nat.le_of_ble_eq_true rfl) (Nat.le_of_ble_eq_true rfl) (Nat.le_of_ble_eq_true rfl) (dk okd_law_19 3 rfl) (st' := fun o4 => [.int o4.1]) (fun _ => rfl) (fun o4 hb5 => ?_)
  have X := hf.X hb5
  have E := hf.E (c + o4.2.2)
  have tx_ := hf.T (c + o4.2.2) tx_
  have tm_ := hf.T (c + o4.2.2) tm_
  have to_ := hf.T (c + o4.2.2) to_
  refine s_run X ok_law_19 14 6 (pc' := 1217) (vs' := [some (.ref b), some (.ref x), some (.ref m), some (.ref o), some (.int i), some (.int o4.1), none, none]) (st' := [.int (i + 1), .ref b, .ref m]) rfl ?_
  refine s_sld hf (dk okd_law_19 4 rfl) (fun v6 => ?_)
  refine s_run X ok_law_19 20 4 (pc' := 1223) (vs' := [some (.ref b), some (.ref x), some (.ref m), some (.ref o), some (.int i), some (.int o4.1), none, none]) (st' := [.int (i + 2), .ref b, .int v6, .ref m]) rfl ?_
  refine s_sld hf (dk okd_law_19 5 rfl) (fun v7 => ?_)
  refine s_run X ok_law_19 24 4 (pc' := 1229) (vs' := [some (.ref b), some (.ref x), some (.ref m), some (.ref o), some (.int i), some (.int o4.1), none, none]) (st' := [.int (i + 3), .ref b, .int v7, .int v6, .ref m]) rfl ?_
  refine s_sld hf (dk okd_law_19 6 rfl) (fun v8 => ?_)
  refine s_callV (b := m) (As := [.int v6, .int v7, .int v8]) (rest := []) X E mv_L_257 (c_X12_openOutlet o4.2.1 m v6 v7 v8) rfl (ta1 tm_) rfl (by decide) tm_ rfl rfl (Nat.le_of_ble_eq_true rfl) (Nat.le_of_ble_eq_true rfl) (Nat.le_of_ble_eq_true rfl) (dk okd_law_19 7 rfl) (st' := fun o9 => [.int o9.1]) (fun _ => rfl) (fun o9 => ?_)
  refine s_run X ok_law_19 28 2 (pc' := 1236) (vs' := [some (.ref b), some (.ref x), some (.ref m), some (.ref o), some (.int i), some (.int o4.1), some (.int o9.1), none]) (st' := [.ref m]) rfl ?_
  refine s_callV (b := m) (As := []) (rest := []) X E mv_L_214 (c_X12_thrown o9.2 m) rfl (ta1 tm_) rfl (by decide) tm_ rfl rfl (Nat.le_of_ble_eq_true rfl) (Nat.le_of_ble_eq_true rfl) (Nat.le_of_ble_eq_true rfl) (dk okd_law_19 8 rfl) (st' := fun v10 => [.int v10]) (fun _ => rfl) (fun v10 => ?_)
  refine s_run X ok_law_19 30 1 (pc' := 1241) (vs' := [some (.ref b), some (.ref x), some (.ref m), some (.ref o), some (.int i), some (.int o4.1), some (.int o9.1), none]) (st' := [.int o4.1, .int v10]) rfl ?_
  refine s_icmp_eq (tgt := 1246) X (dk okd_law_19 9 rfl) (by decide) ?_ ?_
  · refine s_run X ok_law_19 32 1 (pc' := 1248) (vs' := [some (.ref b), some (.ref x), some (.ref m), some (.ref o), some (.int i), some (.int o4.1), some (.int o9.1), none]) (st' := [.int o4.1]) rfl ?_
    refine s_jn (κ := Option (Unit)) (fun k11 => Jd (Cn (c + o4.2.2)) 8 Q o9.2 1263 [some (.ref b), some (.ref x), some (.ref m), some (.ref o), some (.int i), none, none, none] [] k11) ?_ (fun k11 h12 => ?_)
    · refine s_run X ok_law_19 39 1 (pc' := 4006) (vs' := [some (.ref b), some (.ref x), some (.ref m), some (.ref o), some (.int i), none, none, none]) (st' := []) rfl ?_
      exact s_less [true, true, true, true, true, false, false, false] rfl (hk o9.2 ((c + o4.2.2)) hb5)
    · refine s_if_ne (tgt := 1263) X (dk okd_law_19 11 rfl) (by decide) ?_ ?_
      · exact s_less [true, true, true, true, true, false, false, false] rfl (h12)
      · refine s_run X ok_law_19 33 2 (pc' := 1253) (vs' := [some (.ref b), some (.ref x), some (.ref m), some (.ref o), some (.int i), some (.int o4.1), some (.int o9.1), none]) (st' := [.int 0, .ref o]) rfl ?_
        refine s_lald X to_ (dk okd_law_19 12 rfl) (fun v13 => ?_)
        refine s_run X ok_law_19 35 3 (pc' := 1258) (vs' := [some (.ref b), some (.ref x), some (.ref m), some (.ref o), some (.int i), some (.int o4.1), some (.int o9.1), none]) (st' := [.int (lg_cmp v13 (Int32.toInt64 o9.1))]) rfl ?_
        refine s_lif_eq (tgt := 1263) X (dk okd_law_19 13 rfl) (by decide) ?_ ?_
        · exact s_less [true, true, true, true, true, false, false, false] rfl (h12)
        · refine s_run X ok_law_19 38 1 (pc' := 1262) (vs' := [some (.ref b), some (.ref x), some (.ref m), some (.ref o), some (.int i), some (.int o4.1), some (.int o9.1), none]) (st' := [.int 0]) rfl ?_
          exact s_none
  · refine s_run X ok_law_19 31 1 (pc' := 1245) (vs' := [some (.ref b), some (.ref x), some (.ref m), some (.ref o), some (.int i), some (.int o4.1), some (.int o9.1), none]) (st' := [.int 0]) rfl ?_
    exact s_none
def tab_law_20 : List En := [(1266, 8, 1, 0), (1267, 8, 0, 0), (1268, 5, 4, 0), (1270, 0, 0, 1), (1271, 17, 0, 0), (1273, 8, 3, 0), (1277, 11, 5, 0), (1279, 8, 2, 0), (1280, 8, 0, 0), (1281, 5, 4, 0), (1283, 0, 0, 1), (1284, 17, 0, 0), (1289, 11, 6, 0), (1291, 8, 2, 0), (1295, 5, 5, 0), (1300, 0, 0, 0), (1302, 5, 5, 0), (1307, 8, 3, 0), (1308, 0, 0, 0), (1310, 5, 6, 0), (1312, 31, 0, 0), (1313, 40, 0, 0), (1317, 0, 0, 0), (1319, 41, 4006, 0)]
theorem ok_law_20 : tab_law_20.all (okE code) = true := by decide +kernel
def ed_law_20 : List (Nat × Instr × Nat) := [(1272, .iaload, 1), (1274, .invokestatic 258, 3), (1285, .iaload, 1), (1286, .invokevirtual 260, 3), (1292, .invokevirtual 214, 3), (1297, .if_icmp .eq 5, 3), (1301, .ireturn, 1), (1304, .ifCond .ne 15, 3), (1309, .laload, 1), (1314, .ifCond .eq 5, 3), (1318, .ireturn, 1)]
theorem okd_law_20 : ed_law_20.all (okD code) = true := by decide +kernel
def f_law_20 (Ls : Nat) (xs : Nat → Int32) (S : St) (x m o : Nat) (i : Int32) (c : Nat) (kont : St → Nat → Option Unit) : Option Unit := sx Ls xs (i + 1) fun (v1 : Int32) => cl (f_L_bestSite S x v1 o) fun (o2 : Int32 × St × Nat) => bud (c + o2.2.2) <| sx Ls xs (i + 1) fun (v4 : Int32) => cl (f_X12_bestSite o2.2.1 m v4) fun (o5 : Int32 × St) => cl (f_X12_thrown o5.2 m) fun (v6 : Int32) => if v6 = o2.1 then (jn (κ := Option (Unit)) (kont o5.2 ((c + o2.2.2))) fun k7 => if o2.1 = 0 then (ldJ o5.2 o 0 fun (v9 : Int64) => if v9 = (Int32.toInt64 o5.1) then (k7) else (none)) else (k7)) else (none)
set_option maxHeartbeats 4000000 in
set_option maxRecDepth 100000 in
theorem c_law_20 {Cn : Nat → CT} {b Ls : Nat} {xs : Nat → Int32} {Q : Unit → State → Prop} {x m o : Nat} {i : Int32} (hf : Fam Cn b Ls xs) (tx0 : tT (Cn 0) x 10) (tm0 : tT (Cn 0) m 11) (to0 : tT (Cn 0) o 14) (S : St) (c : Nat) (hc : c ≤ 512) (kont : St → Nat → Option Unit) (hk : ∀ (S : St) (c : Nat), c ≤ 512 → Jd (Cn c) 8 Q S 4006 [some (.ref b), some (.ref x), some (.ref m), some (.ref o), some (.int i), none, none, none] [] (kont S c)) : Jd (Cn c) 8 Q S 1266 [some (.ref b), some (.ref x), some (.ref m), some (.ref o), some (.int i), none, none, none] [] (f_law_20 Ls xs S x m o i c kont) := by
  have X := hf.X hc
  have E := hf.E c
  have tx_ := hf.T c tx0
  have tm_ := hf.T c tm0
  have to_ := hf.T c to0
  unfold f_law_20
  refine s_run X ok_law_20 0 5 (pc' := 1272) (vs' := [some (.ref b), some (.ref x), some (.ref m), some (.ref o), some (.int i), none, none, none]) (st' := [.int (i + 1), .ref b, .ref x]) rfl ?_
  refine s_sld hf (dk okd_law_20 0 rfl) (fun v1 => ?_)
  refine s_run X ok_law_20 5 1 (pc' := 1274) (vs' := [some (.ref b), some (.ref x), some (.ref m), some (.ref o), some (.int i), none, none, none]) (st' := [.ref o, .int v1, .ref x]) rfl ?_
  refine s_callH (c0 := c) (As := [.ref x, .int v1, .ref o]) (rest := []) hf mh_L_258 (c_L_bestSite S x v1 o) (ta2 tx_ to_) rfl rfl (Nat.le_of_ble_eq_true rfl) (Nat.le_of_ble_eq_true rfl) (Nat.le_of_ble_eq_true rfl) (dk okd_law_20 1 rfl) (st' := fun o2 => [.int o2.1]) (fun _ => rfl) (fun o2 hb3 => ?_)
  have X := hf.X hb3
  have E := hf.E (c + o2.2.2)
  have tx_ := hf.T (c + o2.2.2) tx_
  have tm_ := hf.T (c + o2.2.2) tm_
  have to_ := hf.T (c + o2.2.2) to_
  refine s_run X ok_law_20 6 6 (pc' := 1285) (vs' := [some (.ref b), some (.ref x), some (.ref m), some (.ref o), some (.int i), some (.int o2.1), none, none]) (st' := [.int (i + 1), .ref b, .ref m]) rfl ?_
  refine s_sld hf (dk okd_law_20 2 rfl) (fun v4 => ?_)
  refine s_callV (b := m) (As := [.int v4]) (rest := []) X E mv_L_260 (c_X12_bestSite o2.2.1 m v4) rfl (ta1 tm_) rfl (by decide) tm_ rfl rfl (Nat.le_of_ble_eq_true rfl) (Nat.le_of_ble_eq_true rfl) (Nat.le_of_ble_eq_true rfl) (dk okd_law_20 3 rfl) (st' := fun o5 => [.int o5.1]) (fun _ => rfl) (fun o5 => ?_)
  refine s_run X ok_law_20 12 2 (pc' := 1292) (vs' := [some (.ref b), some (.ref x), some (.ref m), some (.ref o), some (.int i), some (.int o2.1), some (.int o5.1), none]) (st' := [.ref m]) rfl ?_
  refine s_callV (b := m) (As := []) (rest := []) X E mv_L_214 (c_X12_thrown o5.2 m) rfl (ta1 tm_) rfl (by decide) tm_ rfl rfl (Nat.le_of_ble_eq_true rfl) (Nat.le_of_ble_eq_true rfl) (Nat.le_of_ble_eq_true rfl) (dk okd_law_20 4 rfl) (st' := fun v6 => [.int v6]) (fun _ => rfl) (fun v6 => ?_)
  refine s_run X ok_law_20 14 1 (pc' := 1297) (vs' := [some (.ref b), some (.ref x), some (.ref m), some (.ref o), some (.int i), some (.int o2.1), some (.int o5.1), none]) (st' := [.int o2.1, .int v6]) rfl ?_
  refine s_icmp_eq (tgt := 1302) X (dk okd_law_20 5 rfl) (by decide) ?_ ?_
  · refine s_run X ok_law_20 16 1 (pc' := 1304) (vs' := [some (.ref b), some (.ref x), some (.ref m), some (.ref o), some (.int i), some (.int o2.1), some (.int o5.1), none]) (st' := [.int o2.1]) rfl ?_
    refine s_jn (κ := Option (Unit)) (fun k7 => Jd (Cn (c + o2.2.2)) 8 Q o5.2 1319 [some (.ref b), some (.ref x), some (.ref m), some (.ref o), some (.int i), none, none, none] [] k7) ?_ (fun k7 h8 => ?_)
    · refine s_run X ok_law_20 23 1 (pc' := 4006) (vs' := [some (.ref b), some (.ref x), some (.ref m), some (.ref o), some (.int i), none, none, none]) (st' := []) rfl ?_
      exact s_less [true, true, true, true, true, false, false, false] rfl (hk o5.2 ((c + o2.2.2)) hb3)
    · refine s_if_ne (tgt := 1319) X (dk okd_law_20 7 rfl) (by decide) ?_ ?_
      · exact s_less [true, true, true, true, true, false, false, false] rfl (h8)
      · refine s_run X ok_law_20 17 2 (pc' := 1309) (vs' := [some (.ref b), some (.ref x), some (.ref m), some (.ref o), some (.int i), some (.int o2.1), some (.int o5.1), none]) (st' := [.int 0, .ref o]) rfl ?_
        refine s_lald X to_ (dk okd_law_20 8 rfl) (fun v9 => ?_)
        refine s_run X ok_law_20 19 3 (pc' := 1314) (vs' := [some (.ref b), some (.ref x), some (.ref m), some (.ref o), some (.int i), some (.int o2.1), some (.int o5.1), none]) (st' := [.int (lg_cmp v9 (Int32.toInt64 o5.1))]) rfl ?_
        refine s_lif_eq (tgt := 1319) X (dk okd_law_20 9 rfl) (by decide) ?_ ?_
        · exact s_less [true, true, true, true, true, false, false, false] rfl (h8)
        · refine s_run X ok_law_20 22 1 (pc' := 1318) (vs' := [some (.ref b), some (.ref x), some (.ref m), some (.ref o), some (.int i), some (.int o2.1), some (.int o5.1), none]) (st' := [.int 0]) rfl ?_
          exact s_none
  · refine s_run X ok_law_20 15 1 (pc' := 1301) (vs' := [some (.ref b), some (.ref x), some (.ref m), some (.ref o), some (.int i), some (.int o2.1), some (.int o5.1), none]) (st' := [.int 0]) rfl ?_
    exact s_none
