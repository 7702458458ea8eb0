theorem cl_X12_144 : Cond.constantLong RX12 144 100 ∈ TT := TT_8 (i := 196) rfl rfl
theorem cl_X12_146 : Cond.constantLong RX12 146 16 ∈ TT := TT_8 (i := 201) rfl rfl
theorem cl_X12_155 : Cond.constantLong RX12 155 58 ∈ TT := TT_8 (i := 218) rfl rfl
theorem cl_X12_160 : Cond.constantLong RX12 160 5000 ∈ TT := TT_9 (i := 11) rfl rfl
theorem cl_X12_162 : Cond.constantLong RX12 162 10000 ∈ TT := TT_9 (i := 12) rfl rfl
theorem cl_X12_174 : Cond.constantLong RX12 174 1000000000 ∈ TT := TT_8 (i := 239) rfl rfl
theorem cl_X12_197 : Cond.constantLong RX12 197 60 ∈ TT := TT_9 (i := 53) rfl rfl
theorem cl_X12_199 : Cond.constantLong RX12 199 10000000 ∈ TT := TT_9 (i := 48) rfl rfl
theorem cl_X12_205 : Cond.constantLong RX12 205 (-3) ∈ TT := TT_9 (i := 58) rfl rfl
theorem cl_X12_220 : Cond.constantLong RX12 220 2 ∈ TT := TT_9 (i := 107) rfl rfl
theorem cl_X12_222 : Cond.constantLong RX12 222 4 ∈ TT := TT_9 (i := 116) rfl rfl
theorem cl_X12_240 : Cond.constantLong RX12 240 6 ∈ TT := TT_9 (i := 121) rfl rfl
theorem fl_X12_23 : FL RX12 23 11 5 2 := ⟨RX12, TX12, 22, rfl, by decide, uw_X12, TT_7 (i := 230) rfl rfl, rfl, rfl, by decide⟩
theorem ms_X12_124 : MS RX12 124 yX12_isArea cX12_isArea 4 (some .boolean) 4 := ⟨TT_8 (i := 149) rfl rfl, TT_8 (i := 150) rfl rfl, TT_1 (i := 13) rfl rfl, TT_8 (i := 151) rfl rfl, ⟨by decide, by decide, by decide +kernel⟩⟩
theorem ms_X12_131 : MS RX12 131 yX12_isWithin cX12_isWithin 5 (some .boolean) 5 := ⟨TT_8 (i := 161) rfl rfl, TT_8 (i := 162) rfl rfl, TT_1 (i := 13) rfl rfl, TT_8 (i := 163) rfl rfl, ⟨by decide, by decide, by decide +kernel⟩⟩
theorem ms_X12_164 : MS RX12 164 yX12_half cX12_half 2 (some .long) 1 := ⟨TT_9 (i := 8) rfl rfl, TT_9 (i := 9) rfl rfl, TT_1 (i := 13) rfl rfl, TT_9 (i := 10) rfl rfl, ⟨by decide, by decide, by decide +kernel⟩⟩
theorem ms_X12_187 : MS RX12 187 yX12_rated cX12_rated 4 (some .long) 2 := ⟨TT_9 (i := 41) rfl rfl, TT_9 (i := 42) rfl rfl, TT_1 (i := 13) rfl rfl, TT_9 (i := 43) rfl rfl, ⟨by decide, by decide, by decide +kernel⟩⟩
theorem mv_X12_128 : MV RX12 128 yX12_isActive cX12_isActive 2 (some .boolean) 1 := ⟨TT_8 (i := 153) rfl rfl, TT_8 (i := 155) rfl rfl, TT_s (i := 40) (by decide +kernel) (by decide +kernel), TT_1 (i := 13) rfl rfl, TT_8 (i := 156) rfl rfl, ⟨by decide, by decide, by decide +kernel⟩⟩
theorem mv_X12_135 : MV RX12 135 yX12_hasOutlet cX12_hasOutlet 3 (some .boolean) 1 := ⟨TT_8 (i := 164) rfl rfl, TT_8 (i := 166) rfl rfl, TT_s (i := 42) (by decide +kernel) (by decide +kernel), TT_1 (i := 13) rfl rfl, TT_8 (i := 167) rfl rfl, ⟨by decide, by decide, by decide +kernel⟩⟩
theorem mv_X12_138 : MV RX12 138 yX12_give cX12_give 3 none 1 := ⟨TT_8 (i := 180) rfl rfl, TT_8 (i := 182) rfl rfl, TT_s (i := 46) (by decide +kernel) (by decide +kernel), TT_1 (i := 13) rfl rfl, TT_8 (i := 183) rfl rfl, ⟨by decide, by decide, by decide +kernel⟩⟩
theorem mv_X12_141 : MV RX12 141 yX12_isOutlet cX12_isOutlet 2 (some .boolean) 1 := ⟨TT_8 (i := 188) rfl rfl, TT_8 (i := 190) rfl rfl, TT_s (i := 47) (by decide +kernel) (by decide +kernel), TT_1 (i := 13) rfl rfl, TT_8 (i := 191) rfl rfl, ⟨by decide, by decide, by decide +kernel⟩⟩
theorem mv_X12_148 : MV RX12 148 yX12_putOutlet cX12_putOutlet 6 none 4 := ⟨TT_8 (i := 202) rfl rfl, TT_8 (i := 204) rfl rfl, TT_s (i := 48) (by decide +kernel) (by decide +kernel), TT_1 (i := 13) rfl rfl, TT_8 (i := 205) rfl rfl, ⟨by decide, by decide, by decide +kernel⟩⟩
theorem mv_X12_152 : MV RX12 152 yX12_nearestOutlet cX12_nearestOutlet 6 (some .int) 2 := ⟨TT_8 (i := 210) rfl rfl, TT_8 (i := 212) rfl rfl, TT_s (i := 49) (by decide +kernel) (by decide +kernel), TT_1 (i := 13) rfl rfl, TT_8 (i := 213) rfl rfl, ⟨by decide, by decide, by decide +kernel⟩⟩
theorem mv_X12_157 : MV RX12 157 yX12_cellsBefore cX12_cellsBefore 5 (some .int) 2 := ⟨TT_8 (i := 227) rfl rfl, TT_8 (i := 229) rfl rfl, TT_s (i := 50) (by decide +kernel) (by decide +kernel), TT_1 (i := 13) rfl rfl, TT_8 (i := 230) rfl rfl, ⟨by decide, by decide, by decide +kernel⟩⟩
theorem mv_X12_168 : MV RX12 168 yX12_ofPlan cX12_ofPlan 3 (some .long) 2 := ⟨TT_9 (i := 4) rfl rfl, TT_9 (i := 6) rfl rfl, TT_s (i := 53) (by decide +kernel) (by decide +kernel), TT_1 (i := 13) rfl rfl, TT_9 (i := 7) rfl rfl, ⟨by decide, by decide, by decide +kernel⟩⟩
theorem mv_X12_171 : MV RX12 171 yX12_isPlan cX12_isPlan 2 (some .boolean) 1 := ⟨TT_8 (i := 235) rfl rfl, TT_8 (i := 237) rfl rfl, TT_s (i := 51) (by decide +kernel) (by decide +kernel), TT_1 (i := 13) rfl rfl, TT_8 (i := 238) rfl rfl, ⟨by decide, by decide, by decide +kernel⟩⟩
theorem mv_X12_176 : MV RX12 176 yX12_royaltyOf cX12_royaltyOf 14 (some .long) 2 := ⟨TT_9 (i := 0) rfl rfl, TT_9 (i := 2) rfl rfl, TT_s (i := 52) (by decide +kernel) (by decide +kernel), TT_1 (i := 13) rfl rfl, TT_9 (i := 3) rfl rfl, ⟨by decide, by decide, by decide +kernel⟩⟩
theorem mv_X12_180 : MV RX12 180 yX12_planNow cX12_planNow 2 (some .int) 1 := ⟨TT_9 (i := 17) rfl rfl, TT_9 (i := 19) rfl rfl, TT_s (i := 54) (by decide +kernel) (by decide +kernel), TT_1 (i := 13) rfl rfl, TT_9 (i := 20) rfl rfl, ⟨by decide, by decide, by decide +kernel⟩⟩
theorem mv_X12_183 : MV RX12 183 yX12_set cX12_set 5 none 3 := ⟨TT_9 (i := 25) rfl rfl, TT_9 (i := 27) rfl rfl, TT_s (i := 55) (by decide +kernel) (by decide +kernel), TT_1 (i := 13) rfl rfl, TT_9 (i := 28) rfl rfl, ⟨by decide, by decide, by decide +kernel⟩⟩
theorem mv_X12_191 : MV RX12 191 yX12_salesNow cX12_salesNow 6 (some .long) 2 := ⟨TT_9 (i := 33) rfl rfl, TT_9 (i := 35) rfl rfl, TT_s (i := 56) (by decide +kernel) (by decide +kernel), TT_1 (i := 13) rfl rfl, TT_9 (i := 36) rfl rfl, ⟨by decide, by decide, by decide +kernel⟩⟩
theorem mv_X12_194 : MV RX12 194 yX12_feesBy cX12_feesBy 4 (some .long) 2 := ⟨TT_9 (i := 37) rfl rfl, TT_9 (i := 39) rfl rfl, TT_s (i := 57) (by decide +kernel) (by decide +kernel), TT_1 (i := 13) rfl rfl, TT_9 (i := 40) rfl rfl, ⟨by decide, by decide, by decide +kernel⟩⟩
theorem mv_X12_201 : MV RX12 201 yX12_isOver cX12_isOver 1 (some .boolean) 0 := ⟨TT_9 (i := 49) rfl rfl, TT_9 (i := 51) rfl rfl, TT_s (i := 58) (by decide +kernel) (by decide +kernel), TT_1 (i := 13) rfl rfl, TT_9 (i := 52) rfl rfl, ⟨by decide, by decide, by decide +kernel⟩⟩
theorem mv_X12_207 : MV RX12 207 yX12_isClosed cX12_isClosed 2 (some .boolean) 1 := ⟨TT_9 (i := 67) rfl rfl, TT_9 (i := 69) rfl rfl, TT_s (i := 59) (by decide +kernel) (by decide +kernel), TT_1 (i := 13) rfl rfl, TT_9 (i := 70) rfl rfl, ⟨by decide, by decide, by decide +kernel⟩⟩
theorem mv_X12_210 : MV RX12 210 yX12_recorded cX12_recorded 3 (some .long) 2 := ⟨TT_9 (i := 71) rfl rfl, TT_9 (i := 73) rfl rfl, TT_s (i := 60) (by decide +kernel) (by decide +kernel), TT_1 (i := 13) rfl rfl, TT_9 (i := 74) rfl rfl, ⟨by decide, by decide, by decide +kernel⟩⟩
theorem mv_X12_213 : MV RX12 213 yX12_recordedInAll cX12_recordedInAll 5 (some .long) 1 := ⟨TT_9 (i := 79) rfl rfl, TT_9 (i := 81) rfl rfl, TT_s (i := 61) (by decide +kernel) (by decide +kernel), TT_1 (i := 13) rfl rfl, TT_9 (i := 82) rfl rfl, ⟨by decide, by decide, by decide +kernel⟩⟩
theorem mv_X12_217 : MV RX12 217 yX12_credit cX12_credit 5 (some .long) 2 := ⟨TT_9 (i := 87) rfl rfl, TT_9 (i := 89) rfl rfl, TT_s (i := 62) (by decide +kernel) (by decide +kernel), TT_1 (i := 13) rfl rfl, TT_9 (i := 90) rfl rfl, ⟨by decide, by decide, by decide +kernel⟩⟩
theorem mv_X12_224 : MV RX12 224 yX12_add cX12_add 5 none 3 := ⟨TT_9 (i := 103) rfl rfl, TT_9 (i := 105) rfl rfl, TT_s (i := 65) (by decide +kernel) (by decide +kernel), TT_1 (i := 13) rfl rfl, TT_9 (i := 106) rfl rfl, ⟨by decide, by decide, by decide +kernel⟩⟩
theorem mv_X12_227 : MV RX12 227 yX12_calculate cX12_calculate 5 none 2 := ⟨TT_9 (i := 95) rfl rfl, TT_9 (i := 97) rfl rfl, TT_s (i := 63) (by decide +kernel) (by decide +kernel), TT_1 (i := 13) rfl rfl, TT_9 (i := 98) rfl rfl, ⟨by decide, by decide, by decide +kernel⟩⟩
theorem mv_X12_231 : MV RX12 231 yX12_invoiceRow cX12_invoiceRow 3 (some .int) 2 := ⟨TT_9 (i := 99) rfl rfl, TT_9 (i := 101) rfl rfl, TT_s (i := 64) (by decide +kernel) (by decide +kernel), TT_1 (i := 13) rfl rfl, TT_9 (i := 102) rfl rfl, ⟨by decide, by decide, by decide +kernel⟩⟩
theorem mv_X12_234 : MV RX12 234 yX12_isDelayOver cX12_isDelayOver 2 (some .boolean) 1 := ⟨TT_9 (i := 108) rfl rfl, TT_9 (i := 110) rfl rfl, TT_s (i := 66) (by decide +kernel) (by decide +kernel), TT_1 (i := 13) rfl rfl, TT_9 (i := 111) rfl rfl, ⟨by decide, by decide, by decide +kernel⟩⟩
theorem mv_X12_237 : MV RX12 237 yX12_doTransfer cX12_doTransfer 2 none 1 := ⟨TT_9 (i := 112) rfl rfl, TT_9 (i := 114) rfl rfl, TT_s (i := 67) (by decide +kernel) (by decide +kernel), TT_1 (i := 13) rfl rfl, TT_9 (i := 115) rfl rfl, ⟨by decide, by decide, by decide +kernel⟩⟩
def tab_X12_cede : List En := [(0, 8, 0, 0), (1, 0, 0, 0), (5, 8, 0, 0), (6, 8, 0, 0), (7, 4, 1, 0), (14, 8, 0, 0), (15, 4, 2, 0), (22, 0, 0, 1), (23, 41, 27, 0), (26, 0, 0, 0), (27, 0, 0, 1), (34, 8, 0, 0), (35, 4, 1, 0), (36, 4, 2, 0), (40, 4, 3, 0), (41, 5, 4, 0), (43, 5, 5, 0), (45, 5, 6, 0), (53, 0, 0, 1), (54, 41, 58, 0), (57, 0, 0, 0), (58, 0, 0, 2), (65, 0, 0, 0), (67, 8, 0, 0), (68, 4, 1, 0), (75, 8, 0, 0), (76, 4, 2, 0), (83, 1, 0, (-2)), (86, 0, 0, 0), (87, 11, 7, 0), (89, 0, 0, 0), (90, 11, 8, 0), (92, 0, 0, 0), (93, 11, 9, 0), (95, 5, 9, 0), (97, 2, 0, 900), (103, 8, 0, 0), (107, 5, 9, 0), (109, 8, 0, 0), (113, 2, 0, 250), (116, 5, 9, 0), (118, 17, 0, 0), (120, 4, 1, 0), (121, 31, 0, 0), (122, 40, 0, 0), (126, 5, 9, 0), (128, 4, 3, 0), (129, 5, 4, 0), (131, 5, 5, 0), (133, 5, 6, 0), (141, 0, 0, 1), (142, 41, 146, 0), (145, 0, 0, 0), (147, 5, 7, 0), (149, 8, 0, 0), (153, 5, 9, 0), (159, 0, 0, 1), (160, 41, 164, 0), (163, 0, 0, 0), (164, 17, 0, 0), (165, 11, 7, 0), (167, 5, 8, 0), (169, 8, 0, 0), (173, 5, 9, 0), (179, 8, 0, 0), (180, 5, 9, 0), (188, 0, 0, 1), (189, 41, 193, 0), (192, 0, 0, 0), (193, 21, 0, 0), (194, 11, 8, 0), (196, 16, 9, 1), (199, 41, 95, 0), (202, 5, 7, 0), (207, 0, 0, 0), (209, 5, 8, 0), (214, 1, 0, (-2)), (217, 8, 0, 0), (218, 4, 2, 0), (222, 8, 0, 0), (223, 4, 1, 0), (230, 8, 0, 0), (231, 4, 2, 0), (238, 5, 7, 0), (241, 8, 0, 0), (242, 4, 1, 0), (246, 1, 0, (-2))]
theorem ok_X12_cede : tab_X12_cede.all (okE cX12_cede) = true := by decide +kernel
def ed_X12_cede : List (Nat × Instr × Nat) := [(2, .putfield 50, 3), (8, .invokevirtual 85, 3), (11, .ifCond .eq 11, 3), (16, .invokevirtual 85, 3), (19, .ifCond .ne 7, 3), (28, .invokevirtual 81, 3), (31, .ifCond .ne 34, 3), (37, .if_icmp .eq 16, 3), (47, .invokestatic 124, 3), (50, .ifCond .ne 7, 3), (59, .invokevirtual 81, 3), (62, .ifCond .eq 5, 3), (66, .ireturn, 1), (69, .invokevirtual 128, 3), (72, .ifCond .eq 11, 3), (77, .invokevirtual 128, 3), (80, .ifCond .ne 6, 3), (85, .ireturn, 1), (100, .if_icmp .ge 102, 3), (104, .getfield 20, 3), (110, .getfield 9, 3), (119, .laload, 1), (123, .ifCond .ne 22, 3), (135, .invokestatic 131, 3), (138, .ifCond .eq 7, 3), (146, .bastore, 1), (150, .getfield 20, 3), (155, .baload, 1), (156, .ifCond .eq 7, 3), (170, .getfield 20, 3), (175, .baload, 1), (176, .ifCond .eq 16, 3), (182, .invokevirtual 135, 3), (185, .ifCond .eq 7, 3), (204, .ifCond .ne 5, 3), (208, .ireturn, 1), (211, .ifCond .eq 6, 3), (216, .ireturn, 1), (219, .invokevirtual 138, 3), (224, .invokevirtual 104, 3), (227, .ifCond .eq 14, 3), (232, .invokevirtual 104, 3), (235, .ifCond .eq 6, 3), (240, .ireturn, 1), (243, .invokevirtual 138, 3), (248, .ireturn, 1)]
theorem okd_X12_cede : ed_X12_cede.all (okD cX12_cede) = true := by decide +kernel
def f_X12_cede (S : St) (p0 : Nat) (p1 : Int32) (p2 : Int32) (p3 : Int32) (p4 : Int32) (p5 : Int32) (p6 : Int32) : Option (Int32 × St) := lt (uI S p0 2 0) fun (S1 : St) => cl (f_X12_isFranchisee S1 p0 p1) fun (v2 : Int32) => jn (κ := Int32 → Option (Int32 × St)) (fun x3 => cl (f_X12_throwsIf S1 p0 x3 1) fun (o6 : Int32 × St) => if o6.1 = 0 then (jn (κ := Int32 → Option (Int32 × St)) (fun x7 => cl (f_X12_throwsIf o6.2 p0 x7 2) fun (o10 : Int32 × St) => if o10.1 = 0 then (cl (f_X12_isActive o10.2 p0 p1) fun (v11 : Int32) => jn (κ := Option (Int32 × St)) (some ((-2), o10.2)) fun k12 => if v11 = 0 then (k12) else (cl (f_X12_isActive o10.2 p0 p2) fun (v14 : Int32) => if v14 = 0 then (k12) else (jn (κ := Int32 → Int32 → St → Option (Int32 × St)) (fun x15 x16 S17 => if x15 = 0 then (some (0, S17)) else (if x16 = 0 then (cl (f_X12_give S17 p0 p2) fun (S20 : St) => cl (f_X12_connected S20 p0 p1) fun (o21 : Int32 × St) => jn (κ := St → Option (Int32 × St)) (fun S22 => cl (f_X12_give S22 p0 p1) fun (S25 : St) => some ((-2), S25)) fun k23 => if o21.1 = 0 then (k23 o21.2) else (cl (f_X12_connected o21.2 p0 p2) fun (o26 : Int32 × St) => if o26.1 = 0 then (k23 o26.2) else (some (x15, o26.2)))) else (some ((-2), S17)))) fun k18 => lp (κ := Int32 → Int32 → Int32 → St → Option (Int32 × St)) (fun _ _ _ _ => none) (fun k31 x27 x28 x29 S30 => if 900 ≤ x29 then (k18 x27 x28 S30) else (lt (gR S30 p0 4) fun (a33 : Nat) => lt (gR S30 p0 0) fun (a35 : Nat) => ldJ S30 a35 (250 + x29) fun (v37 : Int64) => jn (κ := Int32 → Option (Int32 × St)) (fun x38 => stI S30 a33 x29 (vp_nar .boolean x38) fun (S41 : St) => lt (gR S41 p0 4) fun (a42 : Nat) => ldI S41 a42 x29 fun (v44 : Int32) => jn (κ := Int32 → Option (Int32 × St)) (fun x45 => lt (x27 + x45) fun (v48 : Int32) => lt (gR S41 p0 4) fun (a49 : Nat) => ldI S41 a49 x29 fun (v51 : Int32) => jn (κ := Int32 → Option (Int32 × St)) (fun x52 => lt (x28 ||| x52) fun (v55 : Int32) => k31 v48 v55 (x29 + 1) S41) fun k53 => jn (κ := Option (Int32 × St)) (k53 0) fun k56 => if v51 = 0 then (k56) else (cl (f_X12_hasOutlet S41 p0 x29) fun (v58 : Int32) => if v58 = 0 then (k56) else (k53 1))) fun k46 => if v44 = 0 then (k46 0) else (k46 1)) fun k39 => jn (κ := Option (Int32 × St)) (k39 0) fun k59 => if v37 = (Int32.toInt64 p1) then (cl (f_X12_isWithin S30 x29 p3 p4 p5 p6) fun (v61 : Int32) => if v61 = 0 then (k59) else (k39 1)) else (k59))) FU 0 0 0 o10.2))) else (some (0, o10.2))) fun k8 => jn (κ := Option (Int32 × St)) (k8 1) fun k62 => if p1 = p2 then (k62) else (cl (f_X12_isArea o6.2 p3 p4 p5 p6) fun (v64 : Int32) => if v64 = 0 then (k62) else (k8 0))) else (some (0, o6.2))) fun k4 => jn (κ := Option (Int32 × St)) (k4 1) fun k65 => if v2 = 0 then (k65) else (cl (f_X12_isFranchisee S1 p0 p2) fun (v67 : Int32) => if v67 = 0 then (k65) else (k4 0))
set_option maxHeartbeats 4000000 in
set_option maxRecDepth 100000 in
theorem c_X12_cede (S : St) (p0 : Nat) (p1 : Int32) (p2 : Int32) (p3 : Int32) (p4 : Int32) (p5 : Int32) (p6 : Int32) : Ct yX12_cede cX12_cede 10 (some .int) 4 95 (fun _ => [.ref p0, .int p1, .int p2, .int p3, .int p4, .int p5, .int p6]) [(p0, 11)] S (f_X12_cede S p0 p1 p2 p3 p4 p5 p6) oIS sS := by
  refine Ct_of RX12 rfl (by decide) (fun _ => Nat.le_of_ble_eq_true rfl) 3 (vs := fun _ => [some (.ref p0), some (.int p1), some (.int p2), some (.int p3), some (.int p4), some (.int p5), some (.int p6), none, none, none]) (fun _ => rfl) (fun C X E hr ht => ?_)
  have t0_ : tT C p0 11 := ht (p0, 11) (by simp)
  show Jd C 10 (QJ C oIS sS) S 0 [some (.ref p0), some (.int p1), some (.int p2), some (.int p3), some (.int p4), some (.int p5), some (.int p6), none, none, none] [] (f_X12_cede S p0 p1 p2 p3 p4 p5 p6)
  unfold f_X12_cede
  refine s_run X ok_X12_cede 0 2 (pc' := 2) (vs' := [some (.ref p0), some (.int p1), some (.int p2), some (.int p3), some (.int p4), some (.int p5), some (.int p6), none, none, none]) (st' := [.int 0, .ref p0]) rfl ?_
  refine s_putI X fp_X12_50 t0_ (dk okd_X12_cede 0 rfl) (fun S1 => ?_)
  refine s_run X ok_X12_cede 2 3 (pc' := 8) (vs' := [some (.ref p0), some (.int p1), some (.int p2), some (.int p3), some (.int p4), some (.int p5), some (.int p6), none, none, none]) (st' := [.int p1, .ref p0, .ref p0]) rfl ?_
  refine s_callV (b := p0) (As := [.int p1]) (rest := [.ref p0]) X E mv_X12_85 (c_X12_isFranchisee S1 p0 p1) rfl (ta1 t0_) rfl (by decide) t0_ rfl rfl (Nat.le_of_ble_eq_true rfl) (Nat.le_of_ble_eq_true rfl) (Nat.le_of_ble_eq_true rfl) (dk okd_X12_cede 1 rfl) (st' := fun v2 => [.int v2, .ref p0]) (fun _ => rfl) (fun v2 => ?_)
  refine s_jn (κ := Int32 → Option (Int32 × St)) (fun k4 => ∀ (x3 : Int32), Jd C 10 (QJ C oIS sS) S1 27 [some (.ref p0), some (.int p1), some (.int p2), some (.int p3), some (.int p4), some (.int p5), some (.int p6), none, none, none] [.int x3, .ref p0] (k4 x3)) (fun x3 => ?_) (fun k4 h5 => ?_)
  · refine s_run X ok_X12_cede 10 1 (pc' := 28) (vs' := [some (.ref p0), some (.int p1), some (.int p2), some (.int p3), some (.int p4), some (.int p5), some (.int p6), none, none, none]) (st' := [.int 1, .int x3, .ref p0]) rfl ?_
    refine s_callV (b := p0) (As := [.int x3, .int 1]) (rest := []) X E mv_X12_81 (c_X12_throwsIf S1 p0 x3 1) rfl (ta1 t0_) rfl (by decide) t0_ rfl rfl (Nat.le_of_ble_eq_true rfl) (Nat.le_of_ble_eq_true rfl) (Nat.le_of_ble_eq_true rfl) (dk okd_X12_cede 5 rfl) (st' := fun o6 => [.int o6.1]) (fun _ => rfl) (fun o6 => ?_)
    refine s_if_ne (tgt := 65) X (dk okd_X12_cede 6 rfl) (by decide) ?_ ?_
    · refine s_run X ok_X12_cede 22 1 (pc' := 66) (vs' := [some (.ref p0), some (.int p1), some (.int p2), some (.int p3), some (.int p4), some (.int p5), some (.int p6), none, none, none]) (st' := [.int 0]) rfl ?_
      exact s_iret X hr (dk okd_X12_cede 12 rfl) rfl rfl
    · refine s_run X ok_X12_cede 11 3 (pc' := 37) (vs' := [some (.ref p0), some (.int p1), some (.int p2), some (.int p3), some (.int p4), some (.int p5), some (.int p6), none, none, none]) (st' := [.int p2, .int p1, .ref p0]) rfl ?_
      refine s_jn (κ := Int32 → Option (Int32 × St)) (fun k8 => ∀ (x7 : Int32), Jd C 10 (QJ C oIS sS) o6.2 58 [some (.ref p0), some (.int p1), some (.int p2), some (.int p3), some (.int p4), some (.int p5), some (.int p6), none, none, none] [.int x7, .ref p0] (k8 x7)) (fun x7 => ?_) (fun k8 h9 => ?_)
      · refine s_run X ok_X12_cede 21 1 (pc' := 59) (vs' := [some (.ref p0), some (.int p1), some (.int p2), some (.int p3), some (.int p4), some (.int p5), some (.int p6), none, none, none]) (st' := [.int 2, .int x7, .ref p0]) rfl ?_
        refine s_callV (b := p0) (As := [.int x7, .int 2]) (rest := []) X E mv_X12_81 (c_X12_throwsIf o6.2 p0 x7 2) rfl (ta1 t0_) rfl (by decide) t0_ rfl rfl (Nat.le_of_ble_eq_true rfl) (Nat.le_of_ble_eq_true rfl) (Nat.le_of_ble_eq_true rfl) (dk okd_X12_cede 10 rfl) (st' := fun o10 => [.int o10.1]) (fun _ => rfl) (fun o10 => ?_)
        refine s_if_eq (tgt := 67) X (dk okd_X12_cede 11 rfl) (by decide) ?_ ?_
        · refine s_run X ok_X12_cede 23 2 (pc' := 69) (vs' := [some (.ref p0), some (.int p1), some (.int p2), some (.int p3), some (.int p4), some (.int p5), some (.int p6), none, none, none]) (st' := [.int p1, .ref p0]) rfl ?_
          refine s_callV (b := p0) (As := [.int p1]) (rest := []) X E mv_X12_128 (c_X12_isActive o10.2 p0 p1) rfl (ta1 t0_) rfl (by decide) t0_ rfl rfl (Nat.le_of_ble_eq_true rfl) (Nat.le_of_ble_eq_true rfl) (Nat.le_of_ble_eq_true rfl) (dk okd_X12_cede 13 rfl) (st' := fun v11 => [.int v11]) (fun _ => rfl) (fun v11 => ?_)
          refine s_jn (κ := Option (Int32 × St)) (fun k12 => Jd C 10 (QJ C oIS sS) o10.2 83 [none, none, none, none, none, none, none, none, none, none] [] k12) ?_ (fun k12 h13 => ?_)
          · refine s_run X ok_X12_cede 27 1 (pc' := 85) (vs' := [none, none, none, none, none, none, none, none, none, none]) (st' := [.int (-2)]) rfl ?_
            exact s_iret X hr (dk okd_X12_cede 17 rfl) rfl rfl
          · refine s_if_eq (tgt := 83) X (dk okd_X12_cede 14 rfl) (by decide) ?_ ?_
            · exact s_less [false, false, false, false, false, false, false, false, false, false] rfl (h13)
            · refine s_run X ok_X12_cede 25 2 (pc' := 77) (vs' := [some (.ref p0), some (.int p1), some (.int p2), some (.int p3), some (.int p4), some (.int p5), some (.int p6), none, none, none]) (st' := [.int p2, .ref p0]) rfl ?_
              refine s_callV (b := p0) (As := [.int p2]) (rest := []) X E mv_X12_128 (c_X12_isActive o10.2 p0 p2) rfl (ta1 t0_) rfl (by decide) t0_ rfl rfl (Nat.le_of_ble_eq_true rfl) (Nat.le_of_ble_eq_true rfl) (Nat.le_of_ble_eq_true rfl) (dk okd_X12_cede 15 rfl) (st' := fun v14 => [.int v14]) (fun _ => rfl) (fun v14 => ?_)
              refine s_if_ne (tgt := 86) X (dk okd_X12_cede 16 rfl) (by decide) ?_ ?_
              · refine s_run X ok_X12_cede 28 6 (pc' := 95) (vs' := [some (.ref p0), some (.int p1), some (.int p2), some (.int p3), some (.int p4), some (.int p5), some (.int p6), some (.int 0), some (.int 0), some (.int 0)]) (st' := []) rfl ?_
                refine s_jn (κ := Int32 → Int32 → St → Option (Int32 × St)) (fun k18 => ∀ (x15 : Int32) (x16 : Int32) (S17 : St), Jd C 10 (QJ C oIS sS) S17 202 [some (.ref p0), some (.int p1), some (.int p2), none, none, none, none, some (.int x15), some (.int x16), none] [] (k18 x15 x16 S17)) (fun x15 x16 S17 => ?_) (fun k18 h19 => ?_)
                · refine s_run X ok_X12_cede 73 1 (pc' := 204) (vs' := [some (.ref p0), some (.int p1), some (.int p2), none, none, none, none, some (.int x15), some (.int x16), none]) (st' := [.int x15]) rfl ?_
                  refine s_if_ne (tgt := 209) X (dk okd_X12_cede 34 rfl) (by decide) ?_ ?_
                  · refine s_run X ok_X12_cede 75 1 (pc' := 211) (vs' := [some (.ref p0), some (.int p1), some (.int p2), none, none, none, none, some (.int x15), some (.int x16), none]) (st' := [.int x16]) rfl ?_
                    refine s_if_eq (tgt := 217) X (dk okd_X12_cede 36 rfl) (by decide) ?_ ?_
                    · refine s_run X ok_X12_cede 77 2 (pc' := 219) (vs' := [some (.ref p0), some (.int p1), some (.int p2), none, none, none, none, some (.int x15), some (.int x16), none]) (st' := [.int p2, .ref p0]) rfl ?_
                      refine s_callV (b := p0) (As := [.int p2]) (rest := []) X E mv_X12_138 (c_X12_give S17 p0 p2) rfl (ta1 t0_) rfl (by decide) t0_ rfl rfl (Nat.le_of_ble_eq_true rfl) (Nat.le_of_ble_eq_true rfl) (Nat.le_of_ble_eq_true rfl) (dk okd_X12_cede 38 rfl) (st' := fun S20 => []) (fun _ => rfl) (fun S20 => ?_)
                      refine s_run X ok_X12_cede 79 2 (pc' := 224) (vs' := [some (.ref p0), some (.int p1), some (.int p2), none, none, none, none, some (.int x15), some (.int x16), none]) (st' := [.int p1, .ref p0]) rfl ?_
                      refine s_callV (b := p0) (As := [.int p1]) (rest := []) X E mv_X12_104 (c_X12_connected S20 p0 p1) rfl (ta1 t0_) rfl (by decide) t0_ rfl rfl (Nat.le_of_ble_eq_true rfl) (Nat.le_of_ble_eq_true rfl) (Nat.le_of_ble_eq_true rfl) (dk okd_X12_cede 39 rfl) (st' := fun o21 => [.int o21.1]) (fun _ => rfl) (fun o21 => ?_)
                      refine s_jn (κ := St → Option (Int32 × St)) (fun k23 => ∀ (S22 : St), Jd C 10 (QJ C oIS sS) S22 241 [some (.ref p0), some (.int p1), none, none, none, none, none, none, none, none] [] (k23 S22)) (fun S22 => ?_) (fun k23 h24 => ?_)
                      · refine s_run X ok_X12_cede 84 2 (pc' := 243) (vs' := [some (.ref p0), some (.int p1), none, none, none, none, none, none, none, none]) (st' := [.int p1, .ref p0]) rfl ?_
                        refine s_callV (b := p0) (As := [.int p1]) (rest := []) X E mv_X12_138 (c_X12_give S22 p0 p1) rfl (ta1 t0_) rfl (by decide) t0_ rfl rfl (Nat.le_of_ble_eq_true rfl) (Nat.le_of_ble_eq_true rfl) (Nat.le_of_ble_eq_true rfl) (dk okd_X12_cede 44 rfl) (st' := fun S25 => []) (fun _ => rfl) (fun S25 => ?_)
                        refine s_run X ok_X12_cede 86 1 (pc' := 248) (vs' := [some (.ref p0), some (.int p1), none, none, none, none, none, none, none, none]) (st' := [.int (-2)]) rfl ?_
                        exact s_iret X hr (dk okd_X12_cede 45 rfl) rfl rfl
                      · refine s_if_eq (tgt := 241) X (dk okd_X12_cede 40 rfl) (by decide) ?_ ?_
                        · exact s_less [true, true, false, false, false, false, false, false, false, false] rfl (h24 o21.2)
                        · refine s_run X ok_X12_cede 81 2 (pc' := 232) (vs' := [some (.ref p0), some (.int p1), some (.int p2), none, none, none, none, some (.int x15), some (.int x16), none]) (st' := [.int p2, .ref p0]) rfl ?_
                          refine s_callV (b := p0) (As := [.int p2]) (rest := []) X E mv_X12_104 (c_X12_connected o21.2 p0 p2) rfl (ta1 t0_) rfl (by decide) t0_ rfl rfl (Nat.le_of_ble_eq_true rfl) (Nat.le_of_ble_eq_true rfl) (Nat.le_of_ble_eq_true rfl) (dk okd_X12_cede 41 rfl) (st' := fun o26 => [.int o26.1]) (fun _ => rfl) (fun o26 => ?_)
                          refine s_if_eq (tgt := 241) X (dk okd_X12_cede 42 rfl) (by decide) ?_ ?_
                          · exact s_less [true, true, false, false, false, false, false, false, false, false] rfl (h24 o26.2)
                          · refine s_run X ok_X12_cede 83 1 (pc' := 240) (vs' := [some (.ref p0), some (.int p1), some (.int p2), none, none, none, none, some (.int x15), some (.int x16), none]) (st' := [.int x15]) rfl ?_
                            exact s_iret X hr (dk okd_X12_cede 43 rfl) rfl rfl
                    · refine s_run X ok_X12_cede 76 1 (pc' := 216) (vs' := [some (.ref p0), some (.int p1), some (.int p2), none, none, none, none, some (.int x15), some (.int x16), none]) (st' := [.int (-2)]) rfl ?_
                      exact s_iret X hr (dk okd_X12_cede 37 rfl) rfl rfl
                  · refine s_run X ok_X12_cede 74 1 (pc' := 208) (vs' := [some (.ref p0), some (.int p1), some (.int p2), none, none, none, none, some (.int x15), some (.int x16), none]) (st' := [.int 0]) rfl ?_
                    exact s_iret X hr (dk okd_X12_cede 35 rfl) rfl rfl
                · refine s_lp (κ := Int32 → Int32 → Int32 → St → Option (Int32 × St)) (fun k31 => ∀ (x27 : Int32) (x28 : Int32) (x29 : Int32) (S30 : St), Jd C 10 (QJ C oIS sS) S30 95 [some (.ref p0), some (.int p1), some (.int p2), some (.int p3), some (.int p4), some (.int p5), some (.int p6), some (.int x27), some (.int x28), some (.int x29)] [] (k31 x27 x28 x29 S30)) (fun _ _ _ _ => s_none) (fun k31 h32 x27 x28 x29 S30 => ?_) FU 0 0 0 o10.2
                  refine s_run X ok_X12_cede 34 2 (pc' := 100) (vs' := [some (.ref p0), some (.int p1), some (.int p2), some (.int p3), some (.int p4), some (.int p5), some (.int p6), some (.int x27), some (.int x28), some (.int x29)]) (st' := [.int 900, .int x29]) rfl ?_
                  refine s_icmp_ge (tgt := 202) X (dk okd_X12_cede 18 rfl) (by decide) ?_ ?_
                  · exact s_less [true, true, true, false, false, false, false, true, true, false] rfl (h19 x27 x28 S30)
                  · refine s_run X ok_X12_cede 36 1 (pc' := 104) (vs' := [some (.ref p0), some (.int p1), some (.int p2), some (.int p3), some (.int p4), some (.int p5), some (.int p6), some (.int x27), some (.int x28), some (.int x29)]) (st' := [.ref p0]) rfl ?_
                    refine s_getR X fl_X12_20 t0_ (dk okd_X12_cede 19 rfl) (fun a33 (t34 : tT C a33 15) => ?_)
                    refine s_run X ok_X12_cede 37 2 (pc' := 110) (vs' := [some (.ref p0), some (.int p1), some (.int p2), some (.int p3), some (.int p4), some (.int p5), some (.int p6), some (.int x27), some (.int x28), some (.int x29)]) (st' := [.ref p0, .int x29, .ref a33]) rfl ?_
                    refine s_getR X fl_X12_9 t0_ (dk okd_X12_cede 20 rfl) (fun a35 (t36 : tT C a35 14) => ?_)
                    refine s_run X ok_X12_cede 39 3 (pc' := 119) (vs' := [some (.ref p0), some (.int p1), some (.int p2), some (.int p3), some (.int p4), some (.int p5), some (.int p6), some (.int x27), some (.int x28), some (.int x29)]) (st' := [.int (250 + x29), .ref a35, .int x29, .ref a33]) rfl ?_
                    refine s_lald X t36 (dk okd_X12_cede 21 rfl) (fun v37 => ?_)
                    refine s_run X ok_X12_cede 42 3 (pc' := 123) (vs' := [some (.ref p0), some (.int p1), some (.int p2), some (.int p3), some (.int p4), some (.int p5), some (.int p6), some (.int x27), some (.int x28), some (.int x29)]) (st' := [.int (lg_cmp v37 (Int32.toInt64 p1)), .int x29, .ref a33]) rfl ?_
                    refine s_jn (κ := Int32 → Option (Int32 × St)) (fun k39 => ∀ (x38 : Int32), Jd C 10 (QJ C oIS sS) S30 146 [some (.ref p0), some (.int p1), some (.int p2), some (.int p3), some (.int p4), some (.int p5), some (.int p6), some (.int x27), some (.int x28), some (.int x29)] [.int x38, .int x29, .ref a33] (k39 x38)) (fun x38 => ?_) (fun k39 h40 => ?_)
                    · refine s_zast X t34 (dk okd_X12_cede 25 rfl) (fun S41 => ?_)
                      refine s_run X ok_X12_cede 53 2 (pc' := 150) (vs' := [some (.ref p0), some (.int p1), some (.int p2), some (.int p3), some (.int p4), some (.int p5), some (.int p6), some (.int x27), some (.int x28), some (.int x29)]) (st' := [.ref p0, .int x27]) rfl ?_
                      refine s_getR X fl_X12_20 t0_ (dk okd_X12_cede 26 rfl) (fun a42 (t43 : tT C a42 15) => ?_)
                      refine s_run X ok_X12_cede 55 1 (pc' := 155) (vs' := [some (.ref p0), some (.int p1), some (.int p2), some (.int p3), some (.int p4), some (.int p5), some (.int p6), some (.int x27), some (.int x28), some (.int x29)]) (st' := [.int x29, .ref a42, .int x27]) rfl ?_
                      refine s_zald X t43 (dk okd_X12_cede 27 rfl) (fun v44 => ?_)
                      refine s_jn (κ := Int32 → Option (Int32 × St)) (fun k46 => ∀ (x45 : Int32), Jd C 10 (QJ C oIS sS) S41 164 [some (.ref p0), some (.int p1), some (.int p2), some (.int p3), some (.int p4), some (.int p5), some (.int p6), none, some (.int x28), some (.int x29)] [.int x45, .int x27] (k46 x45)) (fun x45 => ?_) (fun k46 h47 => ?_)
                      · refine s_run X ok_X12_cede 59 1 (pc' := 165) (vs' := [some (.ref p0), some (.int p1), some (.int p2), some (.int p3), some (.int p4), some (.int p5), some (.int p6), none, some (.int x28), some (.int x29)]) (st' := [.int (x27 + x45)]) rfl ?_
                        refine s_nmI (fun v48 => ?_)
                        refine s_run X ok_X12_cede 60 3 (pc' := 170) (vs' := [some (.ref p0), some (.int p1), some (.int p2), some (.int p3), some (.int p4), some (.int p5), some (.int p6), some (.int v48), some (.int x28), some (.int x29)]) (st' := [.ref p0, .int x28]) rfl ?_
                        refine s_getR X fl_X12_20 t0_ (dk okd_X12_cede 29 rfl) (fun a49 (t50 : tT C a49 15) => ?_)
                        refine s_run X ok_X12_cede 63 1 (pc' := 175) (vs' := [some (.ref p0), some (.int p1), some (.int p2), some (.int p3), some (.int p4), some (.int p5), some (.int p6), some (.int v48), some (.int x28), some (.int x29)]) (st' := [.int x29, .ref a49, .int x28]) rfl ?_
                        refine s_zald X t50 (dk okd_X12_cede 30 rfl) (fun v51 => ?_)
                        refine s_jn (κ := Int32 → Option (Int32 × St)) (fun k53 => ∀ (x52 : Int32), Jd C 10 (QJ C oIS sS) S41 193 [some (.ref p0), some (.int p1), some (.int p2), some (.int p3), some (.int p4), some (.int p5), some (.int p6), some (.int v48), none, some (.int x29)] [.int x52, .int x28] (k53 x52)) (fun x52 => ?_) (fun k53 h54 => ?_)
                        · refine s_run X ok_X12_cede 69 1 (pc' := 194) (vs' := [some (.ref p0), some (.int p1), some (.int p2), some (.int p3), some (.int p4), some (.int p5), some (.int p6), some (.int v48), none, some (.int x29)]) (st' := [.int (x28 ||| x52)]) rfl ?_
                          refine s_nmI (fun v55 => ?_)
                          refine s_run X ok_X12_cede 70 3 (pc' := 95) (vs' := [some (.ref p0), some (.int p1), some (.int p2), some (.int p3), some (.int p4), some (.int p5), some (.int p6), some (.int v48), some (.int v55), some (.int (x29 + 1))]) (st' := []) rfl ?_
                          exact h32 v48 v55 (x29 + 1) S41
                        · refine s_jn (κ := Option (Int32 × St)) (fun k56 => Jd C 10 (QJ C oIS sS) S41 192 [some (.ref p0), some (.int p1), some (.int p2), some (.int p3), some (.int p4), some (.int p5), some (.int p6), some (.int v48), none, some (.int x29)] [.int x28] k56) ?_ (fun k56 h57 => ?_)
                          · refine s_run X ok_X12_cede 68 1 (pc' := 193) (vs' := [some (.ref p0), some (.int p1), some (.int p2), some (.int p3), some (.int p4), some (.int p5), some (.int p6), some (.int v48), none, some (.int x29)]) (st' := [.int 0, .int x28]) rfl ?_
                            exact h54 0
                          · refine s_if_eq (tgt := 192) X (dk okd_X12_cede 31 rfl) (by decide) ?_ ?_
                            · exact s_less [true, true, true, true, true, true, true, true, false, true] rfl (h57)
                            · refine s_run X ok_X12_cede 64 2 (pc' := 182) (vs' := [some (.ref p0), some (.int p1), some (.int p2), some (.int p3), some (.int p4), some (.int p5), some (.int p6), some (.int v48), some (.int x28), some (.int x29)]) (st' := [.int x29, .ref p0, .int x28]) rfl ?_
                              refine s_callV (b := p0) (As := [.int x29]) (rest := [.int x28]) X E mv_X12_135 (c_X12_hasOutlet S41 p0 x29) rfl (ta1 t0_) rfl (by decide) t0_ rfl rfl (Nat.le_of_ble_eq_true rfl) (Nat.le_of_ble_eq_true rfl) (Nat.le_of_ble_eq_true rfl) (dk okd_X12_cede 32 rfl) (st' := fun v58 => [.int v58, .int x28]) (fun _ => rfl) (fun v58 => ?_)
                              refine s_if_eq (tgt := 192) X (dk okd_X12_cede 33 rfl) (by decide) ?_ ?_
                              · exact s_less [true, true, true, true, true, true, true, true, false, true] rfl (h57)
                              · refine s_run X ok_X12_cede 66 2 (pc' := 193) (vs' := [some (.ref p0), some (.int p1), some (.int p2), some (.int p3), some (.int p4), some (.int p5), some (.int p6), some (.int v48), some (.int x28), some (.int x29)]) (st' := [.int 1, .int x28]) rfl ?_
                                exact s_less [true, true, true, true, true, true, true, true, false, true] rfl (h54 1)
                      · refine s_if_eq (tgt := 163) X (dk okd_X12_cede 28 rfl) (by decide) ?_ ?_
                        · refine s_run X ok_X12_cede 58 1 (pc' := 164) (vs' := [some (.ref p0), some (.int p1), some (.int p2), some (.int p3), some (.int p4), some (.int p5), some (.int p6), some (.int x27), some (.int x28), some (.int x29)]) (st' := [.int 0, .int x27]) rfl ?_
                          exact s_less [true, true, true, true, true, true, true, false, true, true] rfl (h47 0)
                        · refine s_run X ok_X12_cede 56 2 (pc' := 164) (vs' := [some (.ref p0), some (.int p1), some (.int p2), some (.int p3), some (.int p4), some (.int p5), some (.int p6), some (.int x27), some (.int x28), some (.int x29)]) (st' := [.int 1, .int x27]) rfl ?_
                          exact s_less [true, true, true, true, true, true, true, false, true, true] rfl (h47 1)
                    · refine s_jn (κ := Option (Int32 × St)) (fun k59 => Jd C 10 (QJ C oIS sS) S30 145 [some (.ref p0), some (.int p1), some (.int p2), some (.int p3), some (.int p4), some (.int p5), some (.int p6), some (.int x27), some (.int x28), some (.int x29)] [.int x29, .ref a33] k59) ?_ (fun k59 h60 => ?_)
                      · refine s_run X ok_X12_cede 52 1 (pc' := 146) (vs' := [some (.ref p0), some (.int p1), some (.int p2), some (.int p3), some (.int p4), some (.int p5), some (.int p6), some (.int x27), some (.int x28), some (.int x29)]) (st' := [.int 0, .int x29, .ref a33]) rfl ?_
                        exact h40 0
                      · refine s_lif_ne (tgt := 145) X (dk okd_X12_cede 22 rfl) (by decide) ?_ ?_
                        · exact h60
                        · refine s_run X ok_X12_cede 45 5 (pc' := 135) (vs' := [some (.ref p0), some (.int p1), some (.int p2), some (.int p3), some (.int p4), some (.int p5), some (.int p6), some (.int x27), some (.int x28), some (.int x29)]) (st' := [.int p6, .int p5, .int p4, .int p3, .int x29, .int x29, .ref a33]) rfl ?_
                          refine s_callS (As := [.int x29, .int p3, .int p4, .int p5, .int p6]) (rest := [.int x29, .ref a33]) X E ms_X12_131 (c_X12_isWithin S30 x29 p3 p4 p5 p6) rfl (ta0) rfl rfl (Nat.le_of_ble_eq_true rfl) (Nat.le_of_ble_eq_true rfl) (Nat.le_of_ble_eq_true rfl) (dk okd_X12_cede 23 rfl) (st' := fun v61 => [.int v61, .int x29, .ref a33]) (fun _ => rfl) (fun v61 => ?_)
                          refine s_if_eq (tgt := 145) X (dk okd_X12_cede 24 rfl) (by decide) ?_ ?_
                          · exact h60
                          · refine s_run X ok_X12_cede 50 2 (pc' := 146) (vs' := [some (.ref p0), some (.int p1), some (.int p2), some (.int p3), some (.int p4), some (.int p5), some (.int p6), some (.int x27), some (.int x28), some (.int x29)]) (st' := [.int 1, .int x29, .ref a33]) rfl ?_
                            exact h40 1
              · exact s_less [false, false, false, false, false, false, false, false, false, false] rfl (h13)
        · refine s_run X ok_X12_cede 22 1 (pc' := 66) (vs' := [some (.ref p0), some (.int p1), some (.int p2), some (.int p3), some (.int p4), some (.int p5), some (.int p6), none, none, none]) (st' := [.int 0]) rfl ?_
          exact s_iret X hr (dk okd_X12_cede 12 rfl) rfl rfl
      · refine s_jn (κ := Option (Int32 × St)) (fun k62 => Jd C 10 (QJ C oIS sS) o6.2 53 [some (.ref p0), some (.int p1), some (.int p2), some (.int p3), some (.int p4), some (.int p5), some (.int p6), none, none, none] [.ref p0] k62) ?_ (fun k62 h63 => ?_)
        · refine s_run X ok_X12_cede 18 2 (pc' := 58) (vs' := [some (.ref p0), some (.int p1), some (.int p2), some (.int p3), some (.int p4), some (.int p5), some (.int p6), none, none, none]) (st' := [.int 1, .ref p0]) rfl ?_
          exact h9 1
        · refine s_icmp_eq (tgt := 53) X (dk okd_X12_cede 7 rfl) (by decide) ?_ ?_
          · exact h63
          · refine s_run X ok_X12_cede 14 4 (pc' := 47) (vs' := [some (.ref p0), some (.int p1), some (.int p2), some (.int p3), some (.int p4), some (.int p5), some (.int p6), none, none, none]) (st' := [.int p6, .int p5, .int p4, .int p3, .ref p0]) rfl ?_
            refine s_callS (As := [.int p3, .int p4, .int p5, .int p6]) (rest := [.ref p0]) X E ms_X12_124 (c_X12_isArea o6.2 p3 p4 p5 p6) rfl (ta0) rfl rfl (Nat.le_of_ble_eq_true rfl) (Nat.le_of_ble_eq_true rfl) (Nat.le_of_ble_eq_true rfl) (dk okd_X12_cede 8 rfl) (st' := fun v64 => [.int v64, .ref p0]) (fun _ => rfl) (fun v64 => ?_)
            refine s_if_ne (tgt := 57) X (dk okd_X12_cede 9 rfl) (by decide) ?_ ?_
            · refine s_run X ok_X12_cede 20 1 (pc' := 58) (vs' := [some (.ref p0), some (.int p1), some (.int p2), some (.int p3), some (.int p4), some (.int p5), some (.int p6), none, none, none]) (st' := [.int 0, .ref p0]) rfl ?_
              exact h9 0
            · exact h63
  · refine s_jn (κ := Option (Int32 × St)) (fun k65 => Jd C 10 (QJ C oIS sS) S1 22 [some (.ref p0), some (.int p1), some (.int p2), some (.int p3), some (.int p4), some (.int p5), some (.int p6), none, none, none] [.ref p0] k65) ?_ (fun k65 h66 => ?_)
    · refine s_run X ok_X12_cede 7 2 (pc' := 27) (vs' := [some (.ref p0), some (.int p1), some (.int p2), some (.int p3), some (.int p4), some (.int p5), some (.int p6), none, none, none]) (st' := [.int 1, .ref p0]) rfl ?_
      exact h5 1
    · refine s_if_eq (tgt := 22) X (dk okd_X12_cede 2 rfl) (by decide) ?_ ?_
      · exact h66
      · refine s_run X ok_X12_cede 5 2 (pc' := 16) (vs' := [some (.ref p0), some (.int p1), some (.int p2), some (.int p3), some (.int p4), some (.int p5), some (.int p6), none, none, none]) (st' := [.int p2, .ref p0, .ref p0]) rfl ?_
        refine s_callV (b := p0) (As := [.int p2]) (rest := [.ref p0]) X E mv_X12_85 (c_X12_isFranchisee S1 p0 p2) rfl (ta1 t0_) rfl (by decide) t0_ rfl rfl (Nat.le_of_ble_eq_true rfl) (Nat.le_of_ble_eq_true rfl) (Nat.le_of_ble_eq_true rfl) (dk okd_X12_cede 3 rfl) (st' := fun v67 => [.int v67, .ref p0]) (fun _ => rfl) (fun v67 => ?_)
        refine s_if_ne (tgt := 26) X (dk okd_X12_cede 4 rfl) (by decide) ?_ ?_
        · refine s_run X ok_X12_cede 9 1 (pc' := 27) (vs' := [some (.ref p0), some (.int p1), some (.int p2), some (.int p3), some (.int p4), some (.int p5), some (.int p6), none, none, none]) (st' := [.int 0, .ref p0]) rfl ?_
          exact h5 0
        · exact h66
def tab_X12_outletOwner : List En := [(0, 8, 0, 0), (1, 0, 0, 0), (5, 8, 0, 0), (6, 8, 0, 0), (7, 4, 1, 0), (14, 0, 0, 1), (15, 41, 19, 0), (18, 0, 0, 0), (19, 0, 0, 1), (26, 0, 0, 0), (27, 41, 37, 0), (30, 8, 0, 0), (31, 4, 1, 0), (32, 0, 0, 0), (36, 32, 0, 0)]
theorem ok_X12_outletOwner : tab_X12_outletOwner.all (okE cX12_outletOwner) = true := by decide +kernel
def ed_X12_outletOwner : List (Nat × Instr × Nat) := [(2, .putfield 50, 3), (8, .invokevirtual 141, 3), (11, .ifCond .ne 7, 3), (20, .invokevirtual 81, 3), (23, .ifCond .eq 7, 3), (33, .invokevirtual 113, 3), (37, .ireturn, 1)]
theorem okd_X12_outletOwner : ed_X12_outletOwner.all (okD cX12_outletOwner) = true := by decide +kernel
def f_X12_outletOwner (S : St) (p0 : Nat) (p1 : Int32) : Option (Int32 × St) := lt (uI S p0 2 0) fun (S1 : St) => cl (f_X12_isOutlet S1 p0 p1) fun (v2 : Int32) => jn (κ := Int32 → Option (Int32 × St)) (fun x3 => cl (f_X12_throwsIf S1 p0 x3 1) fun (o6 : Int32 × St) => if o6.1 = 0 then (cl (f_X12_ofOutlet o6.2 p0 p1 0) fun (v7 : Int64) => some ((Int64.toInt32 v7), o6.2)) else (some (0, o6.2))) fun k4 => if v2 = 0 then (k4 1) else (k4 0)
set_option maxHeartbeats 4000000 in
set_option maxRecDepth 100000 in
theorem c_X12_outletOwner (S : St) (p0 : Nat) (p1 : Int32) : Ct yX12_outletOwner cX12_outletOwner 2 (some .int) 2 46 (fun _ => [.ref p0, .int p1]) [(p0, 11)] S (f_X12_outletOwner S p0 p1) oIS sS := by
  refine Ct_of RX12 rfl (by decide) (fun _ => Nat.le_of_ble_eq_true rfl) 0 (vs := fun _ => [some (.ref p0), some (.int p1)]) (fun _ => rfl) (fun C X E hr ht => ?_)
  have t0_ : tT C p0 11 := ht (p0, 11) (by simp)
  show Jd C 2 (QJ C oIS sS) S 0 [some (.ref p0), some (.int p1)] [] (f_X12_outletOwner S p0 p1)
  unfold f_X12_outletOwner
  refine s_run X ok_X12_outletOwner 0 2 (pc' := 2) (vs' := [some (.ref p0), some (.int p1)]) (st' := [.int 0, .ref p0]) rfl ?_
  refine s_putI X fp_X12_50 t0_ (dk okd_X12_outletOwner 0 rfl) (fun S1 => ?_)
  refine s_run X ok_X12_outletOwner 2 3 (pc' := 8) (vs' := [some (.ref p0), some (.int p1)]) (st' := [.int p1, .ref p0, .ref p0]) rfl ?_
  refine s_callV (b := p0) (As := [.int p1]) (rest := [.ref p0]) X E mv_X12_141 (c_X12_isOutlet S1 p0 p1) rfl (ta1 t0_) rfl (by decide) t0_ rfl rfl (Nat.le_of_ble_eq_true rfl) (Nat.le_of_ble_eq_true rfl) (Nat.le_of_ble_eq_true rfl) (dk okd_X12_outletOwner 1 rfl) (st' := fun v2 => [.int v2, .ref p0]) (fun _ => rfl) (fun v2 => ?_)
  refine s_jn (κ := Int32 → Option (Int32 × St)) (fun k4 => ∀ (x3 : Int32), Jd C 2 (QJ C oIS sS) S1 19 [some (.ref p0), some (.int p1)] [.int x3, .ref p0] (k4 x3)) (fun x3 => ?_) (fun k4 h5 => ?_)
  · refine s_run X ok_X12_outletOwner 8 1 (pc' := 20) (vs' := [some (.ref p0), some (.int p1)]) (st' := [.int 1, .int x3, .ref p0]) rfl ?_
    refine s_callV (b := p0) (As := [.int x3, .int 1]) (rest := []) X E mv_X12_81 (c_X12_throwsIf S1 p0 x3 1) rfl (ta1 t0_) rfl (by decide) t0_ rfl rfl (Nat.le_of_ble_eq_true rfl) (Nat.le_of_ble_eq_true rfl) (Nat.le_of_ble_eq_true rfl) (dk okd_X12_outletOwner 3 rfl) (st' := fun o6 => [.int o6.1]) (fun _ => rfl) (fun o6 => ?_)
    refine s_if_eq (tgt := 30) X (dk okd_X12_outletOwner 4 rfl) (by decide) ?_ ?_
    · refine s_run X ok_X12_outletOwner 11 3 (pc' := 33) (vs' := [some (.ref p0), some (.int p1)]) (st' := [.int 0, .int p1, .ref p0]) rfl ?_
      refine s_callV (b := p0) (As := [.int p1, .int 0]) (rest := []) X E mv_X12_113 (c_X12_ofOutlet o6.2 p0 p1 0) rfl (ta1 t0_) rfl (by decide) t0_ rfl rfl (Nat.le_of_ble_eq_true rfl) (Nat.le_of_ble_eq_true rfl) (Nat.le_of_ble_eq_true rfl) (dk okd_X12_outletOwner 5 rfl) (st' := fun v7 => [.long v7]) (fun _ => rfl) (fun v7 => ?_)
      refine s_run X ok_X12_outletOwner 14 1 (pc' := 37) (vs' := [some (.ref p0), some (.int p1)]) (st' := [.int (Int64.toInt32 v7)]) rfl ?_
      exact s_iret X hr (dk okd_X12_outletOwner 6 rfl) rfl rfl
    · refine s_run X ok_X12_outletOwner 9 2 (pc' := 37) (vs' := [some (.ref p0), some (.int p1)]) (st' := [.int 0]) rfl ?_
      exact s_iret X hr (dk okd_X12_outletOwner 6 rfl) rfl rfl
  · refine s_if_ne (tgt := 18) X (dk okd_X12_outletOwner 2 rfl) (by decide) ?_ ?_
    · refine s_run X ok_X12_outletOwner 7 1 (pc' := 19) (vs' := [some (.ref p0), some (.int p1)]) (st' := [.int 0, .ref p0]) rfl ?_
      exact h5 0
    · refine s_run X ok_X12_outletOwner 5 2 (pc' := 19) (vs' := [some (.ref p0), some (.int p1)]) (st' := [.int 1, .ref p0]) rfl ?_
      exact h5 1
def tab_X12_outletCell : List En := [(0, 8, 0, 0), (1, 0, 0, 0), (5, 8, 0, 0), (6, 8, 0, 0), (7, 4, 1, 0), (14, 0, 0, 1), (15, 41, 19, 0), (18, 0, 0, 0), (19, 0, 0, 1), (26, 0, 0, 0), (27, 41, 48, 0), (33, 8, 0, 0), (34, 4, 1, 0), (35, 0, 0, 2), (39, 25, 0, 0), (40, 8, 0, 0), (41, 4, 1, 0), (42, 0, 0, 1), (46, 23, 0, 0), (47, 32, 0, 0)]
theorem ok_X12_outletCell : tab_X12_outletCell.all (okE cX12_outletCell) = true := by decide +kernel
def ed_X12_outletCell : List (Nat × Instr × Nat) := [(2, .putfield 50, 3), (8, .invokevirtual 141, 3), (11, .ifCond .ne 7, 3), (20, .invokevirtual 81, 3), (23, .ifCond .eq 7, 3), (30, .ldc2_w 144, 3), (36, .invokevirtual 113, 3), (43, .invokevirtual 113, 3), (48, .ireturn, 1)]
theorem okd_X12_outletCell : ed_X12_outletCell.all (okD cX12_outletCell) = true := by decide +kernel
def f_X12_outletCell (S : St) (p0 : Nat) (p1 : Int32) : Option (Int32 × St) := lt (uI S p0 2 0) fun (S1 : St) => cl (f_X12_isOutlet S1 p0 p1) fun (v2 : Int32) => jn (κ := Int32 → Option (Int32 × St)) (fun x3 => cl (f_X12_throwsIf S1 p0 x3 1) fun (o6 : Int32 × St) => if o6.1 = 0 then (cl (f_X12_ofOutlet o6.2 p0 p1 2) fun (v7 : Int64) => cl (f_X12_ofOutlet o6.2 p0 p1 1) fun (v8 : Int64) => some ((Int64.toInt32 ((100 * v7) + v8)), o6.2)) else (some (0, o6.2))) fun k4 => if v2 = 0 then (k4 1) else (k4 0)
set_option maxHeartbeats 4000000 in
set_option maxRecDepth 100000 in
theorem c_X12_outletCell (S : St) (p0 : Nat) (p1 : Int32) : Ct yX12_outletCell cX12_outletCell 2 (some .int) 2 46 (fun _ => [.ref p0, .int p1]) [(p0, 11)] S (f_X12_outletCell S p0 p1) oIS sS := by
  refine Ct_of RX12 rfl (by decide) (fun _ => Nat.le_of_ble_eq_true rfl) 0 (vs := fun _ => [some (.ref p0), some (.int p1)]) (fun _ => rfl) (fun C X E hr ht => ?_)
  have t0_ : tT C p0 11 := ht (p0, 11) (by simp)
  show Jd C 2 (QJ C oIS sS) S 0 [some (.ref p0), some (.int p1)] [] (f_X12_outletCell S p0 p1)
  unfold f_X12_outletCell
  refine s_run X ok_X12_outletCell 0 2 (pc' := 2) (vs' := [some (.ref p0), some (.int p1)]) (st' := [.int 0, .ref p0]) rfl ?_
  refine s_putI X fp_X12_50 t0_ (dk okd_X12_outletCell 0 rfl) (fun S1 => ?_)
  refine s_run X ok_X12_outletCell 2 3 (pc' := 8) (vs' := [some (.ref p0), some (.int p1)]) (st' := [.int p1, .ref p0, .ref p0]) rfl ?_
  refine s_callV (b := p0) (As := [.int p1]) (rest := [.ref p0]) X E mv_X12_141 (c_X12_isOutlet S1 p0 p1) rfl (ta1 t0_) rfl (by decide) t0_ rfl rfl (Nat.le_of_ble_eq_true rfl) (Nat.le_of_ble_eq_true rfl) (Nat.le_of_ble_eq_true rfl) (dk okd_X12_outletCell 1 rfl) (st' := fun v2 => [.int v2, .ref p0]) (fun _ => rfl) (fun v2 => ?_)
  refine s_jn (κ := Int32 → Option (Int32 × St)) (fun k4 => ∀ (x3 : Int32), Jd C 2 (QJ C oIS sS) S1 19 [some (.ref p0), some (.int p1)] [.int x3, .ref p0] (k4 x3)) (fun x3 => ?_) (fun k4 h5 => ?_)
  · refine s_run X ok_X12_outletCell 8 1 (pc' := 20) (vs' := [some (.ref p0), some (.int p1)]) (st' := [.int 1, .int x3, .ref p0]) rfl ?_
    refine s_callV (b := p0) (As := [.int x3, .int 1]) (rest := []) X E mv_X12_81 (c_X12_throwsIf S1 p0 x3 1) rfl (ta1 t0_) rfl (by decide) t0_ rfl rfl (Nat.le_of_ble_eq_true rfl) (Nat.le_of_ble_eq_true rfl) (Nat.le_of_ble_eq_true rfl) (dk okd_X12_outletCell 3 rfl) (st' := fun o6 => [.int o6.1]) (fun _ => rfl) (fun o6 => ?_)
    refine s_if_eq (tgt := 30) X (dk okd_X12_outletCell 4 rfl) (by decide) ?_ ?_
    · refine s_ldc2 X cl_X12_144 (dk okd_X12_outletCell 5 rfl) ?_
      refine s_run X ok_X12_outletCell 11 3 (pc' := 36) (vs' := [some (.ref p0), some (.int p1)]) (st' := [.int 2, .int p1, .ref p0, .long 100]) rfl ?_
      refine s_callV (b := p0) (As := [.int p1, .int 2]) (rest := [.long 100]) X E mv_X12_113 (c_X12_ofOutlet o6.2 p0 p1 2) rfl (ta1 t0_) rfl (by decide) t0_ rfl rfl (Nat.le_of_ble_eq_true rfl) (Nat.le_of_ble_eq_true rfl) (Nat.le_of_ble_eq_true rfl) (dk okd_X12_outletCell 6 rfl) (st' := fun v7 => [.long v7, .long 100]) (fun _ => rfl) (fun v7 => ?_)
      refine s_run X ok_X12_outletCell 14 4 (pc' := 43) (vs' := [some (.ref p0), some (.int p1)]) (st' := [.int 1, .int p1, .ref p0, .long (100 * v7)]) rfl ?_
      refine s_callV (b := p0) (As := [.int p1, .int 1]) (rest := [.long (100 * v7)]) X E mv_X12_113 (c_X12_ofOutlet o6.2 p0 p1 1) rfl (ta1 t0_) rfl (by decide) t0_ rfl rfl (Nat.le_of_ble_eq_true rfl) (Nat.le_of_ble_eq_true rfl) (Nat.le_of_ble_eq_true rfl) (dk okd_X12_outletCell 7 rfl) (st' := fun v8 => [.long v8, .long (100 * v7)]) (fun _ => rfl) (fun v8 => ?_)
      refine s_run X ok_X12_outletCell 18 2 (pc' := 48) (vs' := [some (.ref p0), some (.int p1)]) (st' := [.int (Int64.toInt32 ((100 * v7) + v8))]) rfl ?_
      exact s_iret X hr (dk okd_X12_outletCell 8 rfl) rfl rfl
    · refine s_run X ok_X12_outletCell 9 2 (pc' := 48) (vs' := [some (.ref p0), some (.int p1)]) (st' := [.int 0]) rfl ?_
      exact s_iret X hr (dk okd_X12_outletCell 8 rfl) rfl rfl
  · refine s_if_ne (tgt := 18) X (dk okd_X12_outletCell 2 rfl) (by decide) ?_ ?_
    · refine s_run X ok_X12_outletCell 7 1 (pc' := 19) (vs' := [some (.ref p0), some (.int p1)]) (st' := [.int 0, .ref p0]) rfl ?_
      exact h5 0
    · refine s_run X ok_X12_outletCell 5 2 (pc' := 19) (vs' := [some (.ref p0), some (.int p1)]) (st' := [.int 1, .ref p0]) rfl ?_
      exact h5 1
def tab_X12_putOutlet : List En := [(0, 2, 0, 5054), (3, 4, 1, 0), (4, 19, 0, 0), (5, 2, 0, 186), (8, 17, 0, 0), (9, 0, 0, 4), (10, 8, 0, 0), (14, 2, 0, 5054), (17, 4, 1, 0), (18, 19, 0, 0), (19, 0, 0, 3), (20, 17, 0, 0), (22, 32, 0, 0), (23, 19, 0, 0), (24, 17, 0, 0), (25, 11, 5, 0), (27, 8, 0, 0), (31, 5, 5, 0), (33, 0, 0, 0), (34, 17, 0, 0), (35, 4, 2, 0), (36, 31, 0, 0), (38, 8, 0, 0), (42, 5, 5, 0), (44, 0, 0, 1), (45, 17, 0, 0), (46, 4, 3, 0), (47, 31, 0, 0), (49, 8, 0, 0), (53, 5, 5, 0), (55, 0, 0, 2), (56, 17, 0, 0), (57, 5, 4, 0), (59, 31, 0, 0), (61, 8, 0, 0), (65, 5, 5, 0), (67, 0, 0, 3), (68, 17, 0, 0), (69, 3, 0, 0), (71, 8, 0, 0), (75, 2, 0, 5054), (78, 4, 1, 0), (79, 19, 0, 0), (80, 0, 0, 3), (81, 17, 0, 0), (82, 37, 0, 0), (84, 3, 1, 0), (85, 23, 0, 0)]
theorem ok_X12_putOutlet : tab_X12_putOutlet.all (okE cX12_putOutlet) = true := by decide +kernel
def ed_X12_putOutlet : List (Nat × Instr × Nat) := [(11, .getfield 9, 3), (21, .laload, 1), (28, .getfield 9, 3), (37, .lastore, 1), (39, .getfield 9, 3), (48, .lastore, 1), (50, .getfield 9, 3), (60, .lastore, 1), (62, .getfield 9, 3), (70, .lastore, 1), (72, .getfield 9, 3), (83, .laload, 1), (86, .lastore, 1), (87, .return_, 1)]
theorem okd_X12_putOutlet : ed_X12_putOutlet.all (okD cX12_putOutlet) = true := by decide +kernel
def f_X12_putOutlet (S : St) (p0 : Nat) (p1 : Int32) (p2 : Int32) (p3 : Int32) (p4 : Int32) : Option (St) := lt (gR S p0 0) fun (a1 : Nat) => ldJ S a1 ((5054 * p1) + 3) fun (v3 : Int64) => lt (((5054 * p1) + 186) + (4 * (Int64.toInt32 v3))) fun (v4 : Int32) => lt (gR S p0 0) fun (a5 : Nat) => stJ S a5 (v4 + 0) (Int32.toInt64 p2) fun (S7 : St) => lt (gR S7 p0 0) fun (a8 : Nat) => stJ S7 a8 (v4 + 1) (Int32.toInt64 p3) fun (S10 : St) => lt (gR S10 p0 0) fun (a11 : Nat) => stJ S10 a11 (v4 + 2) (Int32.toInt64 p4) fun (S13 : St) => lt (gR S13 p0 0) fun (a14 : Nat) => stJ S13 a14 (v4 + 3) 0 fun (S16 : St) => lt (gR S16 p0 0) fun (a17 : Nat) => ldJ S16 a17 ((5054 * p1) + 3) fun (v19 : Int64) => stJ S16 a17 ((5054 * p1) + 3) (v19 + 1) fun (S20 : St) => some S20
set_option maxHeartbeats 4000000 in
set_option maxRecDepth 100000 in
theorem c_X12_putOutlet (S : St) (p0 : Nat) (p1 : Int32) (p2 : Int32) (p3 : Int32) (p4 : Int32) : Ct yX12_putOutlet cX12_putOutlet 6 none 0 0 (fun _ => [.ref p0, .int p1, .int p2, .int p3, .int p4]) [(p0, 11)] S (f_X12_putOutlet S p0 p1 p2 p3 p4) oV sV := by
  refine Ct_of RX12 rfl (by decide) (fun _ => Nat.le_of_ble_eq_true rfl) 1 (vs := fun _ => [some (.ref p0), some (.int p1), some (.int p2), some (.int p3), some (.int p4), none]) (fun _ => rfl) (fun C X E hr ht => ?_)
  have t0_ : tT C p0 11 := ht (p0, 11) (by simp)
  show Jd C 6 (QJ C oV sV) S 0 [some (.ref p0), some (.int p1), some (.int p2), some (.int p3), some (.int p4), none] [] (f_X12_putOutlet S p0 p1 p2 p3 p4)
  unfold f_X12_putOutlet
  refine s_run X ok_X12_putOutlet 0 7 (pc' := 11) (vs' := [some (.ref p0), some (.int p1), some (.int p2), some (.int p3), some (.int p4), none]) (st' := [.ref p0, .int 4, .int ((5054 * p1) + 186)]) rfl ?_
  refine s_getR X fl_X12_9 t0_ (dk okd_X12_putOutlet 0 rfl) (fun a1 (t2 : tT C a1 14) => ?_)
  refine s_run X ok_X12_putOutlet 7 5 (pc' := 21) (vs' := [some (.ref p0), some (.int p1), some (.int p2), some (.int p3), some (.int p4), none]) (st' := [.int ((5054 * p1) + 3), .ref a1, .int 4, .int ((5054 * p1) + 186)]) rfl ?_
  refine s_lald X t2 (dk okd_X12_putOutlet 1 rfl) (fun v3 => ?_)
  refine s_run X ok_X12_putOutlet 12 3 (pc' := 25) (vs' := [some (.ref p0), some (.int p1), some (.int p2), some (.int p3), some (.int p4), none]) (st' := [.int (((5054 * p1) + 186) + (4 * (Int64.toInt32 v3)))]) rfl ?_
  refine s_nmI (fun v4 => ?_)
  refine s_run X ok_X12_putOutlet 15 2 (pc' := 28) (vs' := [some (.ref p0), some (.int p1), some (.int p2), some (.int p3), some (.int p4), some (.int v4)]) (st' := [.ref p0]) rfl ?_
  refine s_getR X fl_X12_9 t0_ (dk okd_X12_putOutlet 2 rfl) (fun a5 (t6 : tT C a5 14) => ?_)
  refine s_run X ok_X12_putOutlet 17 5 (pc' := 37) (vs' := [some (.ref p0), some (.int p1), some (.int p2), some (.int p3), some (.int p4), some (.int v4)]) (st' := [.long (Int32.toInt64 p2), .int (v4 + 0), .ref a5]) rfl ?_
  refine s_last X t6 (dk okd_X12_putOutlet 3 rfl) (fun S7 => ?_)
  refine s_run X ok_X12_putOutlet 22 1 (pc' := 39) (vs' := [some (.ref p0), some (.int p1), some (.int p2), some (.int p3), some (.int p4), some (.int v4)]) (st' := [.ref p0]) rfl ?_
  refine s_getR X fl_X12_9 t0_ (dk okd_X12_putOutlet 4 rfl) (fun a8 (t9 : tT C a8 14) => ?_)
  refine s_run X ok_X12_putOutlet 23 5 (pc' := 48) (vs' := [some (.ref p0), some (.int p1), some (.int p2), some (.int p3), some (.int p4), some (.int v4)]) (st' := [.long (Int32.toInt64 p3), .int (v4 + 1), .ref a8]) rfl ?_
  refine s_last X t9 (dk okd_X12_putOutlet 5 rfl) (fun S10 => ?_)
  refine s_run X ok_X12_putOutlet 28 1 (pc' := 50) (vs' := [some (.ref p0), some (.int p1), some (.int p2), some (.int p3), some (.int p4), some (.int v4)]) (st' := [.ref p0]) rfl ?_
  refine s_getR X fl_X12_9 t0_ (dk okd_X12_putOutlet 6 rfl) (fun a11 (t12 : tT C a11 14) => ?_)
  refine s_run X ok_X12_putOutlet 29 5 (pc' := 60) (vs' := [some (.ref p0), some (.int p1), some (.int p2), some (.int p3), some (.int p4), some (.int v4)]) (st' := [.long (Int32.toInt64 p4), .int (v4 + 2), .ref a11]) rfl ?_
  refine s_last X t12 (dk okd_X12_putOutlet 7 rfl) (fun S13 => ?_)
  refine s_run X ok_X12_putOutlet 34 1 (pc' := 62) (vs' := [some (.ref p0), some (.int p1), some (.int p2), some (.int p3), some (.int p4), some (.int v4)]) (st' := [.ref p0]) rfl ?_
  refine s_getR X fl_X12_9 t0_ (dk okd_X12_putOutlet 8 rfl) (fun a14 (t15 : tT C a14 14) => ?_)
  refine s_run X ok_X12_putOutlet 35 4 (pc' := 70) (vs' := [some (.ref p0), some (.int p1), some (.int p2), some (.int p3), some (.int p4), some (.int v4)]) (st' := [.long 0, .int (v4 + 3), .ref a14]) rfl ?_
  refine s_last X t15 (dk okd_X12_putOutlet 9 rfl) (fun S16 => ?_)
  refine s_run X ok_X12_putOutlet 39 1 (pc' := 72) (vs' := [some (.ref p0), some (.int p1), some (.int p2), some (.int p3), some (.int p4), some (.int v4)]) (st' := [.ref p0]) rfl ?_
  refine s_getR X fl_X12_9 t0_ (dk okd_X12_putOutlet 10 rfl) (fun a17 (t18 : tT C a17 14) => ?_)
  refine s_run X ok_X12_putOutlet 40 6 (pc' := 83) (vs' := [some (.ref p0), some (.int p1), some (.int p2), some (.int p3), some (.int p4), some (.int v4)]) (st' := [.int ((5054 * p1) + 3), .ref a17, .int ((5054 * p1) + 3), .ref a17]) rfl ?_
  refine s_lald X t18 (dk okd_X12_putOutlet 11 rfl) (fun v19 => ?_)
  refine s_run X ok_X12_putOutlet 46 2 (pc' := 86) (vs' := [some (.ref p0), some (.int p1), some (.int p2), some (.int p3), some (.int p4), some (.int v4)]) (st' := [.long (v19 + 1), .int ((5054 * p1) + 3), .ref a17]) rfl ?_
  refine s_last X t18 (dk okd_X12_putOutlet 12 rfl) (fun S20 => ?_)
  exact s_vret X hr (dk okd_X12_putOutlet 13 rfl) rfl rfl
def tab_X12_openOutlet : List En := [(0, 8, 0, 0), (1, 0, 0, 0), (5, 8, 0, 0), (6, 8, 0, 0), (7, 4, 1, 0), (14, 0, 0, 1), (15, 41, 19, 0), (18, 0, 0, 0), (19, 0, 0, 1), (26, 8, 0, 0), (27, 4, 2, 0), (28, 4, 3, 0), (35, 0, 0, 1), (36, 41, 40, 0), (39, 0, 0, 0), (40, 0, 0, 2), (47, 0, 0, 0), (49, 8, 0, 0), (50, 4, 1, 0), (57, 8, 0, 0), (58, 4, 2, 0), (59, 4, 3, 0), (63, 4, 1, 0), (67, 8, 0, 0), (68, 1, 0, 30), (70, 4, 3, 0), (71, 19, 0, 0), (72, 4, 2, 0), (73, 17, 0, 0), (80, 1, 0, (-2)), (83, 8, 0, 0), (87, 0, 0, 3), (92, 40, 0, 0), (96, 1, 0, (-3)), (99, 8, 0, 0), (100, 0, 0, 0), (101, 4, 1, 0), (102, 4, 2, 0), (103, 4, 3, 0), (107, 8, 0, 0), (111, 0, 0, 3), (113, 32, 0, 0), (114, 0, 0, 1), (115, 18, 0, 0)]
theorem ok_X12_openOutlet : tab_X12_openOutlet.all (okE cX12_openOutlet) = true := by decide +kernel
def ed_X12_openOutlet : List (Nat × Instr × Nat) := [(2, .putfield 50, 3), (8, .invokevirtual 85, 3), (11, .ifCond .ne 7, 3), (20, .invokevirtual 81, 3), (23, .ifCond .ne 24, 3), (29, .invokestatic 67, 3), (32, .ifCond .ne 7, 3), (41, .invokevirtual 81, 3), (44, .ifCond .eq 5, 3), (48, .ireturn, 1), (51, .invokevirtual 128, 3), (54, .ifCond .eq 26, 3), (60, .invokevirtual 71, 3), (64, .if_icmp .ne 16, 3), (74, .invokevirtual 135, 3), (77, .ifCond .eq 6, 3), (82, .ireturn, 1), (84, .getfield 9, 3), (88, .laload, 1), (89, .ldc2_w 146, 3), (93, .ifCond .ne 6, 3), (98, .ireturn, 1), (104, .invokevirtual 148, 3), (108, .getfield 9, 3), (112, .laload, 1), (116, .ireturn, 1)]
theorem okd_X12_openOutlet : ed_X12_openOutlet.all (okD cX12_openOutlet) = true := by decide +kernel
def f_X12_openOutlet (S : St) (p0 : Nat) (p1 : Int32) (p2 : Int32) (p3 : Int32) : Option (Int32 × St) := lt (uI S p0 2 0) fun (S1 : St) => cl (f_X12_isFranchisee S1 p0 p1) fun (v2 : Int32) => jn (κ := Int32 → Option (Int32 × St)) (fun x3 => cl (f_X12_throwsIf S1 p0 x3 1) fun (o6 : Int32 × St) => if o6.1 = 0 then (cl (f_X12_isCell o6.2 p2 p3) fun (v7 : Int32) => jn (κ := Int32 → Option (Int32 × St)) (fun x8 => cl (f_X12_throwsIf o6.2 p0 x8 2) fun (o11 : Int32 × St) => if o11.1 = 0 then (cl (f_X12_isActive o11.2 p0 p1) fun (v12 : Int32) => jn (κ := Option (Int32 × St)) (some ((-2), o11.2)) fun k13 => if v12 = 0 then (k13) else (cl (f_X12_ownerOf o11.2 p0 p2 p3) fun (v15 : Int32) => if v15 = p1 then (cl (f_X12_hasOutlet o11.2 p0 ((30 * p3) + p2)) fun (v16 : Int32) => if v16 = 0 then (lt (gR o11.2 p0 0) fun (a17 : Nat) => ldJ o11.2 a17 3 fun (v19 : Int64) => if v19 = 16 then (some ((-3), o11.2)) else (cl (f_X12_putOutlet o11.2 p0 0 p1 p2 p3) fun (S20 : St) => lt (gR S20 p0 0) fun (a21 : Nat) => ldJ S20 a21 3 fun (v23 : Int64) => some (((Int64.toInt32 v23) - 1), S20))) else (k13)) else (k13))) else (some (0, o11.2))) fun k9 => if v7 = 0 then (k9 1) else (k9 0)) else (some (0, o6.2))) fun k4 => if v2 = 0 then (k4 1) else (k4 0)
set_option maxHeartbeats 4000000 in
set_option maxRecDepth 100000 in
theorem c_X12_openOutlet (S : St) (p0 : Nat) (p1 : Int32) (p2 : Int32) (p3 : Int32) : Ct yX12_openOutlet cX12_openOutlet 4 (some .int) 3 65 (fun _ => [.ref p0, .int p1, .int p2, .int p3]) [(p0, 11)] S (f_X12_openOutlet S p0 p1 p2 p3) oIS sS := by
  refine Ct_of RX12 rfl (by decide) (fun _ => Nat.le_of_ble_eq_true rfl) 0 (vs := fun _ => [some (.ref p0), some (.int p1), some (.int p2), some (.int p3)]) (fun _ => rfl) (fun C X E hr ht => ?_)
  have t0_ : tT C p0 11 := ht (p0, 11) (by simp)
  show Jd C 4 (QJ C oIS sS) S 0 [some (.ref p0), some (.int p1), some (.int p2), some (.int p3)] [] (f_X12_openOutlet S p0 p1 p2 p3)
  unfold f_X12_openOutlet
  refine s_run X ok_X12_openOutlet 0 2 (pc' := 2) (vs' := [some (.ref p0), some (.int p1), some (.int p2), some (.int p3)]) (st' := [.int 0, .ref p0]) rfl ?_
  refine s_putI X fp_X12_50 t0_ (dk okd_X12_openOutlet 0 rfl) (fun S1 => ?_)
  refine s_run X ok_X12_openOutlet 2 3 (pc' := 8) (vs' := [some (.ref p0), some (.int p1), some (.int p2), some (.int p3)]) (st' := [.int p1, .ref p0, .ref p0]) rfl ?_
  refine s_callV (b := p0) (As := [.int p1]) (rest := [.ref p0]) X E mv_X12_85 (c_X12_isFranchisee S1 p0 p1) rfl (ta1 t0_) rfl (by decide) t0_ rfl rfl (Nat.le_of_ble_eq_true rfl) (Nat.le_of_ble_eq_true rfl) (Nat.le_of_ble_eq_true rfl) (dk okd_X12_openOutlet 1 rfl) (st' := fun v2 => [.int v2, .ref p0]) (fun _ => rfl) (fun v2 => ?_)
  refine s_jn (κ := Int32 → Option (Int32 × St)) (fun k4 => ∀ (x3 : Int32), Jd C 4 (QJ C oIS sS) S1 19 [some (.ref p0), some (.int p1), some (.int p2), some (.int p3)] [.int x3, .ref p0] (k4 x3)) (fun x3 => ?_) (fun k4 h5 => ?_)
  · refine s_run X ok_X12_openOutlet 8 1 (pc' := 20) (vs' := [some (.ref p0), some (.int p1), some (.int p2), some (.int p3)]) (st' := [.int 1, .int x3, .ref p0]) rfl ?_
    refine s_callV (b := p0) (As := [.int x3, .int 1]) (rest := []) X E mv_X12_81 (c_X12_throwsIf S1 p0 x3 1) rfl (ta1 t0_) rfl (by decide) t0_ rfl rfl (Nat.le_of_ble_eq_true rfl) (Nat.le_of_ble_eq_true rfl) (Nat.le_of_ble_eq_true rfl) (dk okd_X12_openOutlet 3 rfl) (st' := fun o6 => [.int o6.1]) (fun _ => rfl) (fun o6 => ?_)
    refine s_if_ne (tgt := 47) X (dk okd_X12_openOutlet 4 rfl) (by decide) ?_ ?_
    · refine s_run X ok_X12_openOutlet 16 1 (pc' := 48) (vs' := [some (.ref p0), some (.int p1), some (.int p2), some (.int p3)]) (st' := [.int 0]) rfl ?_
      exact s_iret X hr (dk okd_X12_openOutlet 9 rfl) rfl rfl
    · refine s_run X ok_X12_openOutlet 9 3 (pc' := 29) (vs' := [some (.ref p0), some (.int p1), some (.int p2), some (.int p3)]) (st' := [.int p3, .int p2, .ref p0]) rfl ?_
      refine s_callS (As := [.int p2, .int p3]) (rest := [.ref p0]) X E ms_X12_67 (c_X12_isCell o6.2 p2 p3) rfl (ta0) rfl rfl (Nat.le_of_ble_eq_true rfl) (Nat.le_of_ble_eq_true rfl) (Nat.le_of_ble_eq_true rfl) (dk okd_X12_openOutlet 5 rfl) (st' := fun v7 => [.int v7, .ref p0]) (fun _ => rfl) (fun v7 => ?_)
      refine s_jn (κ := Int32 → Option (Int32 × St)) (fun k9 => ∀ (x8 : Int32), Jd C 4 (QJ C oIS sS) o6.2 40 [some (.ref p0), some (.int p1), some (.int p2), some (.int p3)] [.int x8, .ref p0] (k9 x8)) (fun x8 => ?_) (fun k9 h10 => ?_)
      · refine s_run X ok_X12_openOutlet 15 1 (pc' := 41) (vs' := [some (.ref p0), some (.int p1), some (.int p2), some (.int p3)]) (st' := [.int 2, .int x8, .ref p0]) rfl ?_
        refine s_callV (b := p0) (As := [.int x8, .int 2]) (rest := []) X E mv_X12_81 (c_X12_throwsIf o6.2 p0 x8 2) rfl (ta1 t0_) rfl (by decide) t0_ rfl rfl (Nat.le_of_ble_eq_true rfl) (Nat.le_of_ble_eq_true rfl) (Nat.le_of_ble_eq_true rfl) (dk okd_X12_openOutlet 7 rfl) (st' := fun o11 => [.int o11.1]) (fun _ => rfl) (fun o11 => ?_)
        refine s_if_eq (tgt := 49) X (dk okd_X12_openOutlet 8 rfl) (by decide) ?_ ?_
        · refine s_run X ok_X12_openOutlet 17 2 (pc' := 51) (vs' := [some (.ref p0), some (.int p1), some (.int p2), some (.int p3)]) (st' := [.int p1, .ref p0]) rfl ?_
          refine s_callV (b := p0) (As := [.int p1]) (rest := []) X E mv_X12_128 (c_X12_isActive o11.2 p0 p1) rfl (ta1 t0_) rfl (by decide) t0_ rfl rfl (Nat.le_of_ble_eq_true rfl) (Nat.le_of_ble_eq_true rfl) (Nat.le_of_ble_eq_true rfl) (dk okd_X12_openOutlet 10 rfl) (st' := fun v12 => [.int v12]) (fun _ => rfl) (fun v12 => ?_)
          refine s_jn (κ := Option (Int32 × St)) (fun k13 => Jd C 4 (QJ C oIS sS) o11.2 80 [none, none, none, none] [] k13) ?_ (fun k13 h14 => ?_)
          · refine s_run X ok_X12_openOutlet 29 1 (pc' := 82) (vs' := [none, none, none, none]) (st' := [.int (-2)]) rfl ?_
            exact s_iret X hr (dk okd_X12_openOutlet 16 rfl) rfl rfl
          · refine s_if_eq (tgt := 80) X (dk okd_X12_openOutlet 11 rfl) (by decide) ?_ ?_
            · exact s_less [false, false, false, false] rfl (h14)
            · refine s_run X ok_X12_openOutlet 19 3 (pc' := 60) (vs' := [some (.ref p0), some (.int p1), some (.int p2), some (.int p3)]) (st' := [.int p3, .int p2, .ref p0]) rfl ?_
              refine s_callV (b := p0) (As := [.int p2, .int p3]) (rest := []) X E mv_X12_71 (c_X12_ownerOf o11.2 p0 p2 p3) rfl (ta1 t0_) rfl (by decide) t0_ rfl rfl (Nat.le_of_ble_eq_true rfl) (Nat.le_of_ble_eq_true rfl) (Nat.le_of_ble_eq_true rfl) (dk okd_X12_openOutlet 12 rfl) (st' := fun v15 => [.int v15]) (fun _ => rfl) (fun v15 => ?_)
              refine s_run X ok_X12_openOutlet 22 1 (pc' := 64) (vs' := [some (.ref p0), some (.int p1), some (.int p2), some (.int p3)]) (st' := [.int p1, .int v15]) rfl ?_
              refine s_icmp_ne (tgt := 80) X (dk okd_X12_openOutlet 13 rfl) (by decide) ?_ ?_
              · exact s_less [false, false, false, false] rfl (h14)
              · refine s_run X ok_X12_openOutlet 23 6 (pc' := 74) (vs' := [some (.ref p0), some (.int p1), some (.int p2), some (.int p3)]) (st' := [.int ((30 * p3) + p2), .ref p0]) rfl ?_
                refine s_callV (b := p0) (As := [.int ((30 * p3) + p2)]) (rest := []) X E mv_X12_135 (c_X12_hasOutlet o11.2 p0 ((30 * p3) + p2)) rfl (ta1 t0_) rfl (by decide) t0_ rfl rfl (Nat.le_of_ble_eq_true rfl) (Nat.le_of_ble_eq_true rfl) (Nat.le_of_ble_eq_true rfl) (dk okd_X12_openOutlet 14 rfl) (st' := fun v16 => [.int v16]) (fun _ => rfl) (fun v16 => ?_)
                refine s_if_eq (tgt := 83) X (dk okd_X12_openOutlet 15 rfl) (by decide) ?_ ?_
                · refine s_run X ok_X12_openOutlet 30 1 (pc' := 84) (vs' := [some (.ref p0), some (.int p1), some (.int p2), some (.int p3)]) (st' := [.ref p0]) rfl ?_
                  refine s_getR X fl_X12_9 t0_ (dk okd_X12_openOutlet 17 rfl) (fun a17 (t18 : tT C a17 14) => ?_)
                  refine s_run X ok_X12_openOutlet 31 1 (pc' := 88) (vs' := [some (.ref p0), some (.int p1), some (.int p2), some (.int p3)]) (st' := [.int 3, .ref a17]) rfl ?_
                  refine s_lald X t18 (dk okd_X12_openOutlet 18 rfl) (fun v19 => ?_)
                  refine s_ldc2 X cl_X12_146 (dk okd_X12_openOutlet 19 rfl) ?_
                  refine s_run X ok_X12_openOutlet 32 1 (pc' := 93) (vs' := [some (.ref p0), some (.int p1), some (.int p2), some (.int p3)]) (st' := [.int (lg_cmp v19 16)]) rfl ?_
                  refine s_lif_ne (tgt := 99) X (dk okd_X12_openOutlet 20 rfl) (by decide) ?_ ?_
                  · refine s_run X ok_X12_openOutlet 34 5 (pc' := 104) (vs' := [some (.ref p0), some (.int p1), some (.int p2), some (.int p3)]) (st' := [.int p3, .int p2, .int p1, .int 0, .ref p0]) rfl ?_
                    refine s_callV (b := p0) (As := [.int 0, .int p1, .int p2, .int p3]) (rest := []) X E mv_X12_148 (c_X12_putOutlet o11.2 p0 0 p1 p2 p3) rfl (ta1 t0_) rfl (by decide) t0_ rfl rfl (Nat.le_of_ble_eq_true rfl) (Nat.le_of_ble_eq_true rfl) (Nat.le_of_ble_eq_true rfl) (dk okd_X12_openOutlet 22 rfl) (st' := fun S20 => []) (fun _ => rfl) (fun S20 => ?_)
                    refine s_run X ok_X12_openOutlet 39 1 (pc' := 108) (vs' := [some (.ref p0), some (.int p1), some (.int p2), some (.int p3)]) (st' := [.ref p0]) rfl ?_
                    refine s_getR X fl_X12_9 t0_ (dk okd_X12_openOutlet 23 rfl) (fun a21 (t22 : tT C a21 14) => ?_)
                    refine s_run X ok_X12_openOutlet 40 1 (pc' := 112) (vs' := [some (.ref p0), some (.int p1), some (.int p2), some (.int p3)]) (st' := [.int 3, .ref a21]) rfl ?_
                    refine s_lald X t22 (dk okd_X12_openOutlet 24 rfl) (fun v23 => ?_)
                    refine s_run X ok_X12_openOutlet 41 3 (pc' := 116) (vs' := [some (.ref p0), some (.int p1), some (.int p2), some (.int p3)]) (st' := [.int ((Int64.toInt32 v23) - 1)]) rfl ?_
                    exact s_iret X hr (dk okd_X12_openOutlet 25 rfl) rfl rfl
                  · refine s_run X ok_X12_openOutlet 33 1 (pc' := 98) (vs' := [some (.ref p0), some (.int p1), some (.int p2), some (.int p3)]) (st' := [.int (-3)]) rfl ?_
                    exact s_iret X hr (dk okd_X12_openOutlet 21 rfl) rfl rfl
                · exact s_less [false, false, false, false] rfl (h14)
        · refine s_run X ok_X12_openOutlet 16 1 (pc' := 48) (vs' := [some (.ref p0), some (.int p1), some (.int p2), some (.int p3)]) (st' := [.int 0]) rfl ?_
          exact s_iret X hr (dk okd_X12_openOutlet 9 rfl) rfl rfl
      · refine s_if_ne (tgt := 39) X (dk okd_X12_openOutlet 6 rfl) (by decide) ?_ ?_
        · refine s_run X ok_X12_openOutlet 14 1 (pc' := 40) (vs' := [some (.ref p0), some (.int p1), some (.int p2), some (.int p3)]) (st' := [.int 0, .ref p0]) rfl ?_
          exact h10 0
        · refine s_run X ok_X12_openOutlet 12 2 (pc' := 40) (vs' := [some (.ref p0), some (.int p1), some (.int p2), some (.int p3)]) (st' := [.int 1, .ref p0]) rfl ?_
          exact h10 1
  · refine s_if_ne (tgt := 18) X (dk okd_X12_openOutlet 2 rfl) (by decide) ?_ ?_
    · refine s_run X ok_X12_openOutlet 7 1 (pc' := 19) (vs' := [some (.ref p0), some (.int p1), some (.int p2), some (.int p3)]) (st' := [.int 0, .ref p0]) rfl ?_
      exact h5 0
    · refine s_run X ok_X12_openOutlet 5 2 (pc' := 19) (vs' := [some (.ref p0), some (.int p1), some (.int p2), some (.int p3)]) (st' := [.int 1, .ref p0]) rfl ?_
      exact h5 1
def tab_X12_nearestOutlet : List En := [(0, 0, 0, (-1)), (1, 10, 3, 0), (2, 0, 0, 0), (3, 11, 4, 0), (5, 5, 4, 0), (7, 31, 0, 0), (8, 8, 0, 0), (12, 0, 0, 3), (14, 40, 0, 0), (18, 8, 0, 0), (19, 5, 4, 0), (27, 4, 2, 0), (28, 0, 0, (-1)), (32, 8, 0, 0), (33, 5, 4, 0), (35, 0, 0, 0), (39, 4, 2, 0), (40, 31, 0, 0), (41, 40, 0, 0), (45, 41, 85, 0), (48, 4, 1, 0), (49, 1, 0, 30), (52, 4, 1, 0), (53, 1, 0, 30), (56, 8, 0, 0), (57, 5, 4, 0), (65, 11, 5, 0), (67, 4, 3, 0), (68, 0, 0, (-1)), (72, 5, 5, 0), (74, 4, 3, 0), (78, 5, 5, 0), (80, 41, 84, 0), (83, 4, 3, 0), (84, 10, 3, 0), (85, 16, 4, 1), (88, 41, 5, 0), (91, 4, 3, 0)]
theorem ok_X12_nearestOutlet : tab_X12_nearestOutlet.all (okE cX12_nearestOutlet) = true := by decide +kernel
def ed_X12_nearestOutlet : List (Nat × Instr × Nat) := [(9, .getfield 9, 3), (13, .laload, 1), (15, .ifCond .ge 76, 3), (21, .invokevirtual 118, 3), (24, .ifCond .eq 61, 3), (29, .if_icmp .eq 19, 3), (36, .invokevirtual 113, 3), (42, .ifCond .eq 6, 3), (51, .irem, 1), (55, .idiv, 1), (59, .invokevirtual 121, 3), (62, .invokestatic 110, 3), (69, .if_icmp .eq 9, 3), (75, .if_icmp .ge 8, 3), (92, .ireturn, 1)]
theorem okd_X12_nearestOutlet : ed_X12_nearestOutlet.all (okD cX12_nearestOutlet) = true := by decide +kernel
def f_X12_nearestOutlet (S : St) (p0 : Nat) (p1 : Int32) (p2 : Int32) : Option (Int32) := jn (κ := Int32 → Option (Int32)) (fun x1 => some x1) fun k2 => lp (κ := Int32 → Int32 → Option (Int32)) (fun _ _ => none) (fun k6 x4 x5 => lt (gR S p0 0) fun (a8 : Nat) => ldJ S a8 3 fun (v10 : Int64) => if v10 ≤ (Int32.toInt64 x5) then (k2 x4) else (cl (f_X12_isOpen S p0 x5) fun (v11 : Int32) => jn (κ := Int32 → Option (Int32)) (fun x12 => k6 x12 (x5 + 1)) fun k13 => if v11 = 0 then (k13 x4) else (jn (κ := Option (Int32)) (cl (f_X12_cellOf S p0 x5) fun (v17 : Int32) => cl (f_X12_apart S (p1 - p1 / 30 * 30) (p1 / 30) v17) fun (v18 : Int32) => jn (κ := Int32 → Option (Int32)) (fun x19 => k13 x19) fun k20 => jn (κ := Option (Int32)) (k20 v18) fun k22 => if x4 = (-1) then (k22) else (if x4 ≤ v18 then (k20 x4) else (k22))) fun k15 => if p2 = (-1) then (k15) else (cl (f_X12_ofOutlet S p0 x5 0) fun (v24 : Int64) => if v24 = (Int32.toInt64 p2) then (k15) else (k13 x4))))) FU (-1) 0
set_option maxHeartbeats 4000000 in
set_option maxRecDepth 100000 in
theorem c_X12_nearestOutlet (S : St) (p0 : Nat) (p1 : Int32) (p2 : Int32) : Ct yX12_nearestOutlet cX12_nearestOutlet 6 (some .int) 2 43 (fun _ => [.ref p0, .int p1, .int p2]) [(p0, 11)] S (f_X12_nearestOutlet S p0 p1 p2) oI (fun _ => S) := by
  refine Ct_of RX12 rfl (by decide) (fun _ => Nat.le_of_ble_eq_true rfl) 3 (vs := fun _ => [some (.ref p0), some (.int p1), some (.int p2), none, none, none]) (fun _ => rfl) (fun C X E hr ht => ?_)
  have t0_ : tT C p0 11 := ht (p0, 11) (by simp)
  show Jd C 6 (QJ C oI (fun _ => S)) S 0 [some (.ref p0), some (.int p1), some (.int p2), none, none, none] [] (f_X12_nearestOutlet S p0 p1 p2)
  unfold f_X12_nearestOutlet
  refine s_run X ok_X12_nearestOutlet 0 4 (pc' := 5) (vs' := [some (.ref p0), some (.int p1), some (.int p2), some (.int (-1)), some (.int 0), none]) (st' := []) rfl ?_
  refine s_jn (κ := Int32 → Option (Int32)) (fun k2 => ∀ (x1 : Int32), Jd C 6 (QJ C oI (fun _ => S)) S 91 [none, none, none, some (.int x1), none, none] [] (k2 x1)) (fun x1 => ?_) (fun k2 h3 => ?_)
  · refine s_run X ok_X12_nearestOutlet 37 1 (pc' := 92) (vs' := [none, none, none, some (.int x1), none, none]) (st' := [.int x1]) rfl ?_
    exact s_iret X hr (dk okd_X12_nearestOutlet 14 rfl) rfl rfl
  · refine s_lp (κ := Int32 → Int32 → Option (Int32)) (fun k6 => ∀ (x4 : Int32) (x5 : Int32), Jd C 6 (QJ C oI (fun _ => S)) S 5 [some (.ref p0), some (.int p1), some (.int p2), some (.int x4), some (.int x5), none] [] (k6 x4 x5)) (fun _ _ => s_none) (fun k6 h7 x4 x5 => ?_) FU (-1) 0
    refine s_run X ok_X12_nearestOutlet 4 3 (pc' := 9) (vs' := [some (.ref p0), some (.int p1), some (.int p2), some (.int x4), some (.int x5), none]) (st' := [.ref p0, .long (Int32.toInt64 x5)]) rfl ?_
    refine s_getR X fl_X12_9 t0_ (dk okd_X12_nearestOutlet 0 rfl) (fun a8 (t9 : tT C a8 14) => ?_)
    refine s_run X ok_X12_nearestOutlet 7 1 (pc' := 13) (vs' := [some (.ref p0), some (.int p1), some (.int p2), some (.int x4), some (.int x5), none]) (st' := [.int 3, .ref a8, .long (Int32.toInt64 x5)]) rfl ?_
    refine s_lald X t9 (dk okd_X12_nearestOutlet 1 rfl) (fun v10 => ?_)
    refine s_run X ok_X12_nearestOutlet 8 1 (pc' := 15) (vs' := [some (.ref p0), some (.int p1), some (.int p2), some (.int x4), some (.int x5), none]) (st' := [.int (lg_cmp (Int32.toInt64 x5) v10)]) rfl ?_
    refine s_lif_ge (tgt := 91) X (dk okd_X12_nearestOutlet 2 rfl) (by decide) ?_ ?_
    · exact s_less [false, false, false, true, false, false] rfl (h3 x4)
    · refine s_run X ok_X12_nearestOutlet 9 2 (pc' := 21) (vs' := [some (.ref p0), some (.int p1), some (.int p2), some (.int x4), some (.int x5), none]) (st' := [.int x5, .ref p0]) rfl ?_
      refine s_callV (b := p0) (As := [.int x5]) (rest := []) X E mv_X12_118 (c_X12_isOpen S p0 x5) rfl (ta1 t0_) rfl (by decide) t0_ rfl rfl (Nat.le_of_ble_eq_true rfl) (Nat.le_of_ble_eq_true rfl) (Nat.le_of_ble_eq_true rfl) (dk okd_X12_nearestOutlet 3 rfl) (st' := fun v11 => [.int v11]) (fun _ => rfl) (fun v11 => ?_)
      refine s_jn (κ := Int32 → Option (Int32)) (fun k13 => ∀ (x12 : Int32), Jd C 6 (QJ C oI (fun _ => S)) S 85 [some (.ref p0), some (.int p1), some (.int p2), some (.int x12), some (.int x5), none] [] (k13 x12)) (fun x12 => ?_) (fun k13 h14 => ?_)
      · refine s_run X ok_X12_nearestOutlet 35 2 (pc' := 5) (vs' := [some (.ref p0), some (.int p1), some (.int p2), some (.int x12), some (.int (x5 + 1)), none]) (st' := []) rfl ?_
        exact h7 x12 (x5 + 1)
      · refine s_if_eq (tgt := 85) X (dk okd_X12_nearestOutlet 4 rfl) (by decide) ?_ ?_
        · exact h14 x4
        · refine s_run X ok_X12_nearestOutlet 11 2 (pc' := 29) (vs' := [some (.ref p0), some (.int p1), some (.int p2), some (.int x4), some (.int x5), none]) (st' := [.int (-1), .int p2]) rfl ?_
          refine s_jn (κ := Option (Int32)) (fun k15 => Jd C 6 (QJ C oI (fun _ => S)) S 48 [some (.ref p0), some (.int p1), some (.int p2), some (.int x4), some (.int x5), none] [] k15) ?_ (fun k15 h16 => ?_)
          · refine s_run X ok_X12_nearestOutlet 20 2 (pc' := 51) (vs' := [some (.ref p0), some (.int p1), some (.int p2), some (.int x4), some (.int x5), none]) (st' := [.int 30, .int p1]) rfl ?_
            refine s_irem0 X (dk okd_X12_nearestOutlet 8 rfl) (by decide) ?_
            refine s_run X ok_X12_nearestOutlet 22 2 (pc' := 55) (vs' := [some (.ref p0), some (.int p1), some (.int p2), some (.int x4), some (.int x5), none]) (st' := [.int 30, .int p1, .int (p1 - p1 / 30 * 30)]) rfl ?_
            refine s_idiv0 X (dk okd_X12_nearestOutlet 9 rfl) (by decide) ?_
            refine s_run X ok_X12_nearestOutlet 24 2 (pc' := 59) (vs' := [some (.ref p0), some (.int p1), some (.int p2), some (.int x4), some (.int x5), none]) (st' := [.int x5, .ref p0, .int (p1 / 30), .int (p1 - p1 / 30 * 30)]) rfl ?_
            refine s_callV (b := p0) (As := [.int x5]) (rest := [.int (p1 / 30), .int (p1 - p1 / 30 * 30)]) X E mv_X12_121 (c_X12_cellOf S p0 x5) rfl (ta1 t0_) rfl (by decide) t0_ rfl rfl (Nat.le_of_ble_eq_true rfl) (Nat.le_of_ble_eq_true rfl) (Nat.le_of_ble_eq_true rfl) (dk okd_X12_nearestOutlet 10 rfl) (st' := fun v17 => [.int v17, .int (p1 / 30), .int (p1 - p1 / 30 * 30)]) (fun _ => rfl) (fun v17 => ?_)
            refine s_callS (As := [.int (p1 - p1 / 30 * 30), .int (p1 / 30), .int v17]) (rest := []) X E ms_X12_110 (c_X12_apart S (p1 - p1 / 30 * 30) (p1 / 30) v17) rfl (ta0) rfl rfl (Nat.le_of_ble_eq_true rfl) (Nat.le_of_ble_eq_true rfl) (Nat.le_of_ble_eq_true rfl) (dk okd_X12_nearestOutlet 11 rfl) (st' := fun v18 => [.int v18]) (fun _ => rfl) (fun v18 => ?_)
            refine s_run X ok_X12_nearestOutlet 26 3 (pc' := 69) (vs' := [some (.ref p0), some (.int p1), some (.int p2), some (.int x4), some (.int x5), some (.int v18)]) (st' := [.int (-1), .int x4]) rfl ?_
            refine s_jn (κ := Int32 → Option (Int32)) (fun k20 => ∀ (x19 : Int32), Jd C 6 (QJ C oI (fun _ => S)) S 84 [some (.ref p0), some (.int p1), some (.int p2), none, some (.int x5), none] [.int x19] (k20 x19)) (fun x19 => ?_) (fun k20 h21 => ?_)
            · refine s_run X ok_X12_nearestOutlet 34 1 (pc' := 85) (vs' := [some (.ref p0), some (.int p1), some (.int p2), some (.int x19), some (.int x5), none]) (st' := []) rfl ?_
              exact h14 x19
            · refine s_jn (κ := Option (Int32)) (fun k22 => Jd C 6 (QJ C oI (fun _ => S)) S 78 [some (.ref p0), some (.int p1), some (.int p2), none, some (.int x5), some (.int v18)] [] k22) ?_ (fun k22 h23 => ?_)
              · refine s_run X ok_X12_nearestOutlet 31 2 (pc' := 84) (vs' := [some (.ref p0), some (.int p1), some (.int p2), none, some (.int x5), some (.int v18)]) (st' := [.int v18]) rfl ?_
                exact s_less [true, true, true, false, true, false] rfl (h21 v18)
              · refine s_icmp_eq (tgt := 78) X (dk okd_X12_nearestOutlet 12 rfl) (by decide) ?_ ?_
                · exact s_less [true, true, true, false, true, true] rfl (h23)
                · refine s_run X ok_X12_nearestOutlet 29 2 (pc' := 75) (vs' := [some (.ref p0), some (.int p1), some (.int p2), some (.int x4), some (.int x5), some (.int v18)]) (st' := [.int x4, .int v18]) rfl ?_
                  refine s_icmp_ge (tgt := 83) X (dk okd_X12_nearestOutlet 13 rfl) (by decide) ?_ ?_
                  · refine s_run X ok_X12_nearestOutlet 33 1 (pc' := 84) (vs' := [some (.ref p0), some (.int p1), some (.int p2), some (.int x4), some (.int x5), some (.int v18)]) (st' := [.int x4]) rfl ?_
                    exact s_less [true, true, true, false, true, false] rfl (h21 x4)
                  · exact s_less [true, true, true, false, true, true] rfl (h23)
          · refine s_icmp_eq (tgt := 48) X (dk okd_X12_nearestOutlet 5 rfl) (by decide) ?_ ?_
            · exact h16
            · refine s_run X ok_X12_nearestOutlet 13 3 (pc' := 36) (vs' := [some (.ref p0), some (.int p1), some (.int p2), some (.int x4), some (.int x5), none]) (st' := [.int 0, .int x5, .ref p0]) rfl ?_
              refine s_callV (b := p0) (As := [.int x5, .int 0]) (rest := []) X E mv_X12_113 (c_X12_ofOutlet S p0 x5 0) rfl (ta1 t0_) rfl (by decide) t0_ rfl rfl (Nat.le_of_ble_eq_true rfl) (Nat.le_of_ble_eq_true rfl) (Nat.le_of_ble_eq_true rfl) (dk okd_X12_nearestOutlet 6 rfl) (st' := fun v24 => [.long v24]) (fun _ => rfl) (fun v24 => ?_)
              refine s_run X ok_X12_nearestOutlet 16 3 (pc' := 42) (vs' := [some (.ref p0), some (.int p1), some (.int p2), some (.int x4), some (.int x5), none]) (st' := [.int (lg_cmp v24 (Int32.toInt64 p2))]) rfl ?_
              refine s_lif_eq (tgt := 48) X (dk okd_X12_nearestOutlet 7 rfl) (by decide) ?_ ?_
              · exact h16
              · refine s_run X ok_X12_nearestOutlet 19 1 (pc' := 85) (vs' := [some (.ref p0), some (.int p1), some (.int p2), some (.int x4), some (.int x5), none]) (st' := []) rfl ?_
                exact h14 x4
def tab_X12_bestSite : List En := [(0, 8, 0, 0), (1, 0, 0, 0), (5, 8, 0, 0), (6, 8, 0, 0), (7, 4, 1, 0), (14, 0, 0, 1), (15, 41, 19, 0), (18, 0, 0, 0), (19, 0, 0, 1), (26, 0, 0, 0), (28, 0, 0, (-1)), (29, 10, 2, 0), (30, 0, 0, 0), (31, 10, 3, 0), (32, 4, 3, 0), (33, 2, 0, 900), (39, 8, 0, 0), (43, 2, 0, 250), (46, 4, 3, 0), (47, 17, 0, 0), (49, 4, 1, 0), (50, 31, 0, 0), (51, 40, 0, 0), (55, 8, 0, 0), (56, 4, 3, 0), (63, 41, 88, 0), (66, 4, 2, 0), (67, 0, 0, (-1)), (71, 8, 0, 0), (72, 4, 3, 0), (73, 0, 0, (-1)), (77, 8, 0, 0), (78, 4, 2, 0), (79, 0, 0, (-1)), (86, 4, 3, 0), (87, 10, 2, 0), (88, 16, 3, 1), (91, 41, 32, 0), (94, 4, 2, 0), (95, 0, 0, (-1)), (99, 0, 0, (-1)), (100, 41, 115, 0), (103, 1, 0, 100), (105, 4, 2, 0), (106, 1, 0, 30), (109, 19, 0, 0), (110, 4, 2, 0), (111, 1, 0, 30), (114, 17, 0, 0)]
theorem ok_X12_bestSite : tab_X12_bestSite.all (okE cX12_bestSite) = true := by decide +kernel
def ed_X12_bestSite : List (Nat × Instr × Nat) := [(2, .putfield 50, 3), (8, .invokevirtual 85, 3), (11, .ifCond .ne 7, 3), (20, .invokevirtual 81, 3), (23, .ifCond .eq 5, 3), (27, .ireturn, 1), (36, .if_icmp .ge 58, 3), (40, .getfield 9, 3), (48, .laload, 1), (52, .ifCond .ne 36, 3), (57, .invokevirtual 135, 3), (60, .ifCond .eq 6, 3), (68, .if_icmp .eq 18, 3), (74, .invokevirtual 152, 3), (80, .invokevirtual 152, 3), (83, .if_icmp .le 5, 3), (96, .if_icmp .ne 7, 3), (108, .idiv, 1), (113, .irem, 1), (115, .ireturn, 1)]
theorem okd_X12_bestSite : ed_X12_bestSite.all (okD cX12_bestSite) = true := by decide +kernel
def f_X12_bestSite (S : St) (p0 : Nat) (p1 : Int32) : Option (Int32 × St) := lt (uI S p0 2 0) fun (S1 : St) => cl (f_X12_isFranchisee S1 p0 p1) fun (v2 : Int32) => jn (κ := Int32 → Option (Int32 × St)) (fun x3 => cl (f_X12_throwsIf S1 p0 x3 1) fun (o6 : Int32 × St) => if o6.1 = 0 then (jn (κ := Int32 → Option (Int32 × St)) (fun x7 => if x7 = (-1) then (some ((-1), o6.2)) else (some (((100 * (x7 / 30)) + (x7 - x7 / 30 * 30)), o6.2))) fun k8 => lp (κ := Int32 → Int32 → Option (Int32 × St)) (fun _ _ => none) (fun k12 x10 x11 => if 900 ≤ x11 then (k8 x10) else (lt (gR o6.2 p0 0) fun (a14 : Nat) => ldJ o6.2 a14 (250 + x11) fun (v16 : Int64) => jn (κ := Int32 → Option (Int32 × St)) (fun x17 => k12 x17 (x11 + 1)) fun k18 => if v16 = (Int32.toInt64 p1) then (cl (f_X12_hasOutlet o6.2 p0 x11) fun (v20 : Int32) => if v20 = 0 then (jn (κ := Option (Int32 × St)) (k18 x11) fun k21 => if x10 = (-1) then (k21) else (cl (f_X12_nearestOutlet o6.2 p0 x11 (-1)) fun (v23 : Int32) => cl (f_X12_nearestOutlet o6.2 p0 x10 (-1)) fun (v24 : Int32) => if v23 ≤ v24 then (k18 x10) else (k21))) else (k18 x10)) else (k18 x10))) FU (-1) 0) else (some (0, o6.2))) fun k4 => if v2 = 0 then (k4 1) else (k4 0)
set_option maxHeartbeats 4000000 in
set_option maxRecDepth 100000 in
theorem c_X12_bestSite (S : St) (p0 : Nat) (p1 : Int32) : Ct yX12_bestSite cX12_bestSite 4 (some .int) 3 68 (fun _ => [.ref p0, .int p1]) [(p0, 11)] S (f_X12_bestSite S p0 p1) oIS sS := by
  refine Ct_of RX12 rfl (by decide) (fun _ => Nat.le_of_ble_eq_true rfl) 2 (vs := fun _ => [some (.ref p0), some (.int p1), none, none]) (fun _ => rfl) (fun C X E hr ht => ?_)
  have t0_ : tT C p0 11 := ht (p0, 11) (by simp)
  show Jd C 4 (QJ C oIS sS) S 0 [some (.ref p0), some (.int p1), none, none] [] (f_X12_bestSite S p0 p1)
  unfold f_X12_bestSite
  refine s_run X ok_X12_bestSite 0 2 (pc' := 2) (vs' := [some (.ref p0), some (.int p1), none, none]) (st' := [.int 0, .ref p0]) rfl ?_
  refine s_putI X fp_X12_50 t0_ (dk okd_X12_bestSite 0 rfl) (fun S1 => ?_)
  refine s_run X ok_X12_bestSite 2 3 (pc' := 8) (vs' := [some (.ref p0), some (.int p1), none, none]) (st' := [.int p1, .ref p0, .ref p0]) rfl ?_
  refine s_callV (b := p0) (As := [.int p1]) (rest := [.ref p0]) X E mv_X12_85 (c_X12_isFranchisee S1 p0 p1) rfl (ta1 t0_) rfl (by decide) t0_ rfl rfl (Nat.le_of_ble_eq_true rfl) (Nat.le_of_ble_eq_true rfl) (Nat.le_of_ble_eq_true rfl) (dk okd_X12_bestSite 1 rfl) (st' := fun v2 => [.int v2, .ref p0]) (fun _ => rfl) (fun v2 => ?_)
  refine s_jn (κ := Int32 → Option (Int32 × St)) (fun k4 => ∀ (x3 : Int32), Jd C 4 (QJ C oIS sS) S1 19 [some (.ref p0), some (.int p1), none, none] [.int x3, .ref p0] (k4 x3)) (fun x3 => ?_) (fun k4 h5 => ?_)
  · refine s_run X ok_X12_bestSite 8 1 (pc' := 20) (vs' := [some (.ref p0), some (.int p1), none, none]) (st' := [.int 1, .int x3, .ref p0]) rfl ?_
    refine s_callV (b := p0) (As := [.int x3, .int 1]) (rest := []) X E mv_X12_81 (c_X12_throwsIf S1 p0 x3 1) rfl (ta1 t0_) rfl (by decide) t0_ rfl rfl (Nat.le_of_ble_eq_true rfl) (Nat.le_of_ble_eq_true rfl) (Nat.le_of_ble_eq_true rfl) (dk okd_X12_bestSite 3 rfl) (st' := fun o6 => [.int o6.1]) (fun _ => rfl) (fun o6 => ?_)
    refine s_if_eq (tgt := 28) X (dk okd_X12_bestSite 4 rfl) (by decide) ?_ ?_
    · refine s_run X ok_X12_bestSite 10 4 (pc' := 32) (vs' := [some (.ref p0), some (.int p1), some (.int (-1)), some (.int 0)]) (st' := []) rfl ?_
      refine s_jn (κ := Int32 → Option (Int32 × St)) (fun k8 => ∀ (x7 : Int32), Jd C 4 (QJ C oIS sS) o6.2 94 [none, none, some (.int x7), none] [] (k8 x7)) (fun x7 => ?_) (fun k8 h9 => ?_)
      · refine s_run X ok_X12_bestSite 38 2 (pc' := 96) (vs' := [none, none, some (.int x7), none]) (st' := [.int (-1), .int x7]) rfl ?_
        refine s_icmp_ne (tgt := 103) X (dk okd_X12_bestSite 16 rfl) (by decide) ?_ ?_
        · refine s_run X ok_X12_bestSite 42 3 (pc' := 108) (vs' := [none, none, some (.int x7), none]) (st' := [.int 30, .int x7, .int 100]) rfl ?_
          refine s_idiv0 X (dk okd_X12_bestSite 17 rfl) (by decide) ?_
          refine s_run X ok_X12_bestSite 45 3 (pc' := 113) (vs' := [none, none, some (.int x7), none]) (st' := [.int 30, .int x7, .int (100 * (x7 / 30))]) rfl ?_
          refine s_irem0 X (dk okd_X12_bestSite 18 rfl) (by decide) ?_
          refine s_run X ok_X12_bestSite 48 1 (pc' := 115) (vs' := [none, none, some (.int x7), none]) (st' := [.int ((100 * (x7 / 30)) + (x7 - x7 / 30 * 30))]) rfl ?_
          exact s_iret X hr (dk okd_X12_bestSite 19 rfl) rfl rfl
        · refine s_run X ok_X12_bestSite 40 2 (pc' := 115) (vs' := [none, none, some (.int x7), none]) (st' := [.int (-1)]) rfl ?_
          exact s_iret X hr (dk okd_X12_bestSite 19 rfl) rfl rfl
      · refine s_lp (κ := Int32 → Int32 → Option (Int32 × St)) (fun k12 => ∀ (x10 : Int32) (x11 : Int32), Jd C 4 (QJ C oIS sS) o6.2 32 [some (.ref p0), some (.int p1), some (.int x10), some (.int x11)] [] (k12 x10 x11)) (fun _ _ => s_none) (fun k12 h13 x10 x11 => ?_) FU (-1) 0
        refine s_run X ok_X12_bestSite 14 2 (pc' := 36) (vs' := [some (.ref p0), some (.int p1), some (.int x10), some (.int x11)]) (st' := [.int 900, .int x11]) rfl ?_
        refine s_icmp_ge (tgt := 94) X (dk okd_X12_bestSite 6 rfl) (by decide) ?_ ?_
        · exact s_less [false, false, true, false] rfl (h9 x10)
        · refine s_run X ok_X12_bestSite 16 1 (pc' := 40) (vs' := [some (.ref p0), some (.int p1), some (.int x10), some (.int x11)]) (st' := [.ref p0]) rfl ?_
          refine s_getR X fl_X12_9 t0_ (dk okd_X12_bestSite 7 rfl) (fun a14 (t15 : tT C a14 14) => ?_)
          refine s_run X ok_X12_bestSite 17 3 (pc' := 48) (vs' := [some (.ref p0), some (.int p1), some (.int x10), some (.int x11)]) (st' := [.int (250 + x11), .ref a14]) rfl ?_
          refine s_lald X t15 (dk okd_X12_bestSite 8 rfl) (fun v16 => ?_)
          refine s_run X ok_X12_bestSite 20 3 (pc' := 52) (vs' := [some (.ref p0), some (.int p1), some (.int x10), some (.int x11)]) (st' := [.int (lg_cmp v16 (Int32.toInt64 p1))]) rfl ?_
          refine s_jn (κ := Int32 → Option (Int32 × St)) (fun k18 => ∀ (x17 : Int32), Jd C 4 (QJ C oIS sS) o6.2 88 [some (.ref p0), some (.int p1), some (.int x17), some (.int x11)] [] (k18 x17)) (fun x17 => ?_) (fun k18 h19 => ?_)
          · refine s_run X ok_X12_bestSite 36 2 (pc' := 32) (vs' := [some (.ref p0), some (.int p1), some (.int x17), some (.int (x11 + 1))]) (st' := []) rfl ?_
            exact h13 x17 (x11 + 1)
          · refine s_lif_ne (tgt := 88) X (dk okd_X12_bestSite 9 rfl) (by decide) ?_ ?_
            · exact h19 x10
            · refine s_run X ok_X12_bestSite 23 2 (pc' := 57) (vs' := [some (.ref p0), some (.int p1), some (.int x10), some (.int x11)]) (st' := [.int x11, .ref p0]) rfl ?_
              refine s_callV (b := p0) (As := [.int x11]) (rest := []) X E mv_X12_135 (c_X12_hasOutlet o6.2 p0 x11) rfl (ta1 t0_) rfl (by decide) t0_ rfl rfl (Nat.le_of_ble_eq_true rfl) (Nat.le_of_ble_eq_true rfl) (Nat.le_of_ble_eq_true rfl) (dk okd_X12_bestSite 10 rfl) (st' := fun v20 => [.int v20]) (fun _ => rfl) (fun v20 => ?_)
              refine s_if_eq (tgt := 66) X (dk okd_X12_bestSite 11 rfl) (by decide) ?_ ?_
              · refine s_run X ok_X12_bestSite 26 2 (pc' := 68) (vs' := [some (.ref p0), some (.int p1), some (.int x10), some (.int x11)]) (st' := [.int (-1), .int x10]) rfl ?_
                refine s_jn (κ := Option (Int32 × St)) (fun k21 => Jd C 4 (QJ C oIS sS) o6.2 86 [some (.ref p0), some (.int p1), none, some (.int x11)] [] k21) ?_ (fun k21 h22 => ?_)
                · refine s_run X ok_X12_bestSite 34 2 (pc' := 88) (vs' := [some (.ref p0), some (.int p1), some (.int x11), some (.int x11)]) (st' := []) rfl ?_
                  exact h19 x11
                · refine s_icmp_eq (tgt := 86) X (dk okd_X12_bestSite 12 rfl) (by decide) ?_ ?_
                  · exact s_less [true, true, false, true] rfl (h22)
                  · refine s_run X ok_X12_bestSite 28 3 (pc' := 74) (vs' := [some (.ref p0), some (.int p1), some (.int x10), some (.int x11)]) (st' := [.int (-1), .int x11, .ref p0]) rfl ?_
                    refine s_callV (b := p0) (As := [.int x11, .int (-1)]) (rest := []) X E mv_X12_152 (c_X12_nearestOutlet o6.2 p0 x11 (-1)) rfl (ta1 t0_) rfl (by decide) t0_ rfl rfl (Nat.le_of_ble_eq_true rfl) (Nat.le_of_ble_eq_true rfl) (Nat.le_of_ble_eq_true rfl) (dk okd_X12_bestSite 13 rfl) (st' := fun v23 => [.int v23]) (fun _ => rfl) (fun v23 => ?_)
                    refine s_run X ok_X12_bestSite 31 3 (pc' := 80) (vs' := [some (.ref p0), some (.int p1), some (.int x10), some (.int x11)]) (st' := [.int (-1), .int x10, .ref p0, .int v23]) rfl ?_
                    refine s_callV (b := p0) (As := [.int x10, .int (-1)]) (rest := [.int v23]) X E mv_X12_152 (c_X12_nearestOutlet o6.2 p0 x10 (-1)) rfl (ta1 t0_) rfl (by decide) t0_ rfl rfl (Nat.le_of_ble_eq_true rfl) (Nat.le_of_ble_eq_true rfl) (Nat.le_of_ble_eq_true rfl) (dk okd_X12_bestSite 14 rfl) (st' := fun v24 => [.int v24, .int v23]) (fun _ => rfl) (fun v24 => ?_)
                    refine s_icmp_le (tgt := 88) X (dk okd_X12_bestSite 15 rfl) (by decide) ?_ ?_
                    · exact h19 x10
                    · exact s_less [true, true, false, true] rfl (h22)
              · refine s_run X ok_X12_bestSite 25 1 (pc' := 88) (vs' := [some (.ref p0), some (.int p1), some (.int x10), some (.int x11)]) (st' := []) rfl ?_
                exact h19 x10
    · refine s_run X ok_X12_bestSite 9 1 (pc' := 27) (vs' := [some (.ref p0), some (.int p1), none, none]) (st' := [.int 0]) rfl ?_
      exact s_iret X hr (dk okd_X12_bestSite 5 rfl) rfl rfl
  · refine s_if_ne (tgt := 18) X (dk okd_X12_bestSite 2 rfl) (by decide) ?_ ?_
    · refine s_run X ok_X12_bestSite 7 1 (pc' := 19) (vs' := [some (.ref p0), some (.int p1), none, none]) (st' := [.int 0, .ref p0]) rfl ?_
      exact h5 0
    · refine s_run X ok_X12_bestSite 5 2 (pc' := 19) (vs' := [some (.ref p0), some (.int p1), none, none]) (st' := [.int 1, .ref p0]) rfl ?_
      exact h5 1
def tab_X12_coverage : List En := [(0, 8, 0, 0), (1, 0, 0, 0), (5, 8, 0, 0), (6, 8, 0, 0), (7, 4, 1, 0), (14, 0, 0, 1), (15, 41, 19, 0), (18, 0, 0, 0), (19, 0, 0, 1), (26, 8, 0, 0), (27, 4, 2, 0), (28, 31, 0, 0), (29, 3, 0, 0), (39, 0, 0, 1), (40, 41, 44, 0), (43, 0, 0, 0), (44, 0, 0, 2), (51, 0, 0, 0), (53, 0, 0, 0), (54, 10, 3, 0), (55, 0, 0, 0), (56, 11, 4, 0), (58, 5, 4, 0), (60, 2, 0, 900), (66, 8, 0, 0), (70, 2, 0, 250), (73, 5, 4, 0), (75, 17, 0, 0), (77, 4, 1, 0), (78, 31, 0, 0), (79, 40, 0, 0), (83, 4, 3, 0), (84, 8, 0, 0), (85, 5, 4, 0), (87, 4, 1, 0), (91, 31, 0, 0), (92, 3, 0, 0), (93, 4, 2, 0), (94, 31, 0, 0), (101, 0, 0, 1), (102, 41, 106, 0), (105, 0, 0, 0), (106, 17, 0, 0), (107, 10, 3, 0), (108, 16, 4, 1), (111, 41, 58, 0), (114, 4, 3, 0)]
theorem ok_X12_coverage : tab_X12_coverage.all (okE cX12_coverage) = true := by decide +kernel
def ed_X12_coverage : List (Nat × Instr × Nat) := [(2, .putfield 50, 3), (8, .invokevirtual 85, 3), (11, .ifCond .ne 7, 3), (20, .invokevirtual 81, 3), (23, .ifCond .ne 28, 3), (30, .ldc2_w 155, 3), (33, .invokestatic 53, 3), (36, .ifCond .ne 7, 3), (45, .invokevirtual 81, 3), (48, .ifCond .eq 5, 3), (52, .ireturn, 1), (63, .if_icmp .ge 51, 3), (67, .getfield 9, 3), (76, .laload, 1), (80, .ifCond .ne 28, 3), (88, .invokevirtual 152, 3), (95, .invokestatic 53, 3), (98, .ifCond .eq 7, 3), (115, .ireturn, 1)]
theorem okd_X12_coverage : ed_X12_coverage.all (okD cX12_coverage) = true := by decide +kernel
def f_X12_coverage (S : St) (p0 : Nat) (p1 : Int32) (p2 : Int32) : Option (Int32 × St) := lt (uI S p0 2 0) fun (S1 : St) => cl (f_X12_isFranchisee S1 p0 p1) fun (v2 : Int32) => jn (κ := Int32 → Option (Int32 × St)) (fun x3 => cl (f_X12_throwsIf S1 p0 x3 1) fun (o6 : Int32 × St) => if o6.1 = 0 then (cl (f_X12_inRange o6.2 (Int32.toInt64 p2) 0 58) fun (v7 : Int32) => jn (κ := Int32 → Option (Int32 × St)) (fun x8 => cl (f_X12_throwsIf o6.2 p0 x8 2) fun (o11 : Int32 × St) => if o11.1 = 0 then (jn (κ := Int32 → Option (Int32 × St)) (fun x12 => some (x12, o11.2)) fun k13 => lp (κ := Int32 → Int32 → Option (Int32 × St)) (fun _ _ => none) (fun k17 x15 x16 => if 900 ≤ x16 then (k13 x15) else (lt (gR o11.2 p0 0) fun (a19 : Nat) => ldJ o11.2 a19 (250 + x16) fun (v21 : Int64) => jn (κ := Int32 → Option (Int32 × St)) (fun x22 => k17 x22 (x16 + 1)) fun k23 => if v21 = (Int32.toInt64 p1) then (cl (f_X12_nearestOutlet o11.2 p0 x16 p1) fun (v25 : Int32) => cl (f_X12_inRange o11.2 (Int32.toInt64 v25) 0 (Int32.toInt64 p2)) fun (v26 : Int32) => jn (κ := Int32 → Option (Int32 × St)) (fun x27 => lt (x15 + x27) fun (v30 : Int32) => k23 v30) fun k28 => if v26 = 0 then (k28 0) else (k28 1)) else (k23 x15))) FU 0 0) else (some (0, o11.2))) fun k9 => if v7 = 0 then (k9 1) else (k9 0)) else (some (0, o6.2))) fun k4 => if v2 = 0 then (k4 1) else (k4 0)
set_option maxHeartbeats 4000000 in
set_option maxRecDepth 100000 in
theorem c_X12_coverage (S : St) (p0 : Nat) (p1 : Int32) (p2 : Int32) : Ct yX12_coverage cX12_coverage 5 (some .int) 3 68 (fun _ => [.ref p0, .int p1, .int p2]) [(p0, 11)] S (f_X12_coverage S p0 p1 p2) oIS sS := by
  refine Ct_of RX12 rfl (by decide) (fun _ => Nat.le_of_ble_eq_true rfl) 2 (vs := fun _ => [some (.ref p0), some (.int p1), some (.int p2), none, none]) (fun _ => rfl) (fun C X E hr ht => ?_)
  have t0_ : tT C p0 11 := ht (p0, 11) (by simp)
  show Jd C 5 (QJ C oIS sS) S 0 [some (.ref p0), some (.int p1), some (.int p2), none, none] [] (f_X12_coverage S p0 p1 p2)
  unfold f_X12_coverage
  refine s_run X ok_X12_coverage 0 2 (pc' := 2) (vs' := [some (.ref p0), some (.int p1), some (.int p2), none, none]) (st' := [.int 0, .ref p0]) rfl ?_
  refine s_putI X fp_X12_50 t0_ (dk okd_X12_coverage 0 rfl) (fun S1 => ?_)
  refine s_run X ok_X12_coverage 2 3 (pc' := 8) (vs' := [some (.ref p0), some (.int p1), some (.int p2), none, none]) (st' := [.int p1, .ref p0, .ref p0]) rfl ?_
  refine s_callV (b := p0) (As := [.int p1]) (rest := [.ref p0]) X E mv_X12_85 (c_X12_isFranchisee S1 p0 p1) rfl (ta1 t0_) rfl (by decide) t0_ rfl rfl (Nat.le_of_ble_eq_true rfl) (Nat.le_of_ble_eq_true rfl) (Nat.le_of_ble_eq_true rfl) (dk okd_X12_coverage 1 rfl) (st' := fun v2 => [.int v2, .ref p0]) (fun _ => rfl) (fun v2 => ?_)
  refine s_jn (κ := Int32 → Option (Int32 × St)) (fun k4 => ∀ (x3 : Int32), Jd C 5 (QJ C oIS sS) S1 19 [some (.ref p0), some (.int p1), some (.int p2), none, none] [.int x3, .ref p0] (k4 x3)) (fun x3 => ?_) (fun k4 h5 => ?_)
  · refine s_run X ok_X12_coverage 8 1 (pc' := 20) (vs' := [some (.ref p0), some (.int p1), some (.int p2), none, none]) (st' := [.int 1, .int x3, .ref p0]) rfl ?_
    refine s_callV (b := p0) (As := [.int x3, .int 1]) (rest := []) X E mv_X12_81 (c_X12_throwsIf S1 p0 x3 1) rfl (ta1 t0_) rfl (by decide) t0_ rfl rfl (Nat.le_of_ble_eq_true rfl) (Nat.le_of_ble_eq_true rfl) (Nat.le_of_ble_eq_true rfl) (dk okd_X12_coverage 3 rfl) (st' := fun o6 => [.int o6.1]) (fun _ => rfl) (fun o6 => ?_)
    refine s_if_ne (tgt := 51) X (dk okd_X12_coverage 4 rfl) (by decide) ?_ ?_
    · refine s_run X ok_X12_coverage 17 1 (pc' := 52) (vs' := [some (.ref p0), some (.int p1), some (.int p2), none, none]) (st' := [.int 0]) rfl ?_
      exact s_iret X hr (dk okd_X12_coverage 10 rfl) rfl rfl
    · refine s_run X ok_X12_coverage 9 4 (pc' := 30) (vs' := [some (.ref p0), some (.int p1), some (.int p2), none, none]) (st' := [.long 0, .long (Int32.toInt64 p2), .ref p0]) rfl ?_
      refine s_ldc2 X cl_X12_155 (dk okd_X12_coverage 5 rfl) ?_
      refine s_callS (As := [.long (Int32.toInt64 p2), .long 0, .long 58]) (rest := [.ref p0]) X E ms_X12_53 (c_X12_inRange o6.2 (Int32.toInt64 p2) 0 58) rfl (ta0) rfl rfl (Nat.le_of_ble_eq_true rfl) (Nat.le_of_ble_eq_true rfl) (Nat.le_of_ble_eq_true rfl) (dk okd_X12_coverage 6 rfl) (st' := fun v7 => [.int v7, .ref p0]) (fun _ => rfl) (fun v7 => ?_)
      refine s_jn (κ := Int32 → Option (Int32 × St)) (fun k9 => ∀ (x8 : Int32), Jd C 5 (QJ C oIS sS) o6.2 44 [some (.ref p0), some (.int p1), some (.int p2), none, none] [.int x8, .ref p0] (k9 x8)) (fun x8 => ?_) (fun k9 h10 => ?_)
      · refine s_run X ok_X12_coverage 16 1 (pc' := 45) (vs' := [some (.ref p0), some (.int p1), some (.int p2), none, none]) (st' := [.int 2, .int x8, .ref p0]) rfl ?_
        refine s_callV (b := p0) (As := [.int x8, .int 2]) (rest := []) X E mv_X12_81 (c_X12_throwsIf o6.2 p0 x8 2) rfl (ta1 t0_) rfl (by decide) t0_ rfl rfl (Nat.le_of_ble_eq_true rfl) (Nat.le_of_ble_eq_true rfl) (Nat.le_of_ble_eq_true rfl) (dk okd_X12_coverage 8 rfl) (st' := fun o11 => [.int o11.1]) (fun _ => rfl) (fun o11 => ?_)
        refine s_if_eq (tgt := 53) X (dk okd_X12_coverage 9 rfl) (by decide) ?_ ?_
        · refine s_run X ok_X12_coverage 18 4 (pc' := 58) (vs' := [some (.ref p0), some (.int p1), some (.int p2), some (.int 0), some (.int 0)]) (st' := []) rfl ?_
          refine s_jn (κ := Int32 → Option (Int32 × St)) (fun k13 => ∀ (x12 : Int32), Jd C 5 (QJ C oIS sS) o11.2 114 [none, none, none, some (.int x12), none] [] (k13 x12)) (fun x12 => ?_) (fun k13 h14 => ?_)
          · refine s_run X ok_X12_coverage 46 1 (pc' := 115) (vs' := [none, none, none, some (.int x12), none]) (st' := [.int x12]) rfl ?_
            exact s_iret X hr (dk okd_X12_coverage 18 rfl) rfl rfl
          · refine s_lp (κ := Int32 → Int32 → Option (Int32 × St)) (fun k17 => ∀ (x15 : Int32) (x16 : Int32), Jd C 5 (QJ C oIS sS) o11.2 58 [some (.ref p0), some (.int p1), some (.int p2), some (.int x15), some (.int x16)] [] (k17 x15 x16)) (fun _ _ => s_none) (fun k17 h18 x15 x16 => ?_) FU 0 0
            refine s_run X ok_X12_coverage 22 2 (pc' := 63) (vs' := [some (.ref p0), some (.int p1), some (.int p2), some (.int x15), some (.int x16)]) (st' := [.int 900, .int x16]) rfl ?_
            refine s_icmp_ge (tgt := 114) X (dk okd_X12_coverage 11 rfl) (by decide) ?_ ?_
            · exact s_less [false, false, false, true, false] rfl (h14 x15)
            · refine s_run X ok_X12_coverage 24 1 (pc' := 67) (vs' := [some (.ref p0), some (.int p1), some (.int p2), some (.int x15), some (.int x16)]) (st' := [.ref p0]) rfl ?_
              refine s_getR X fl_X12_9 t0_ (dk okd_X12_coverage 12 rfl) (fun a19 (t20 : tT C a19 14) => ?_)
              refine s_run X ok_X12_coverage 25 3 (pc' := 76) (vs' := [some (.ref p0), some (.int p1), some (.int p2), some (.int x15), some (.int x16)]) (st' := [.int (250 + x16), .ref a19]) rfl ?_
              refine s_lald X t20 (dk okd_X12_coverage 13 rfl) (fun v21 => ?_)
              refine s_run X ok_X12_coverage 28 3 (pc' := 80) (vs' := [some (.ref p0), some (.int p1), some (.int p2), some (.int x15), some (.int x16)]) (st' := [.int (lg_cmp v21 (Int32.toInt64 p1))]) rfl ?_
              refine s_jn (κ := Int32 → Option (Int32 × St)) (fun k23 => ∀ (x22 : Int32), Jd C 5 (QJ C oIS sS) o11.2 108 [some (.ref p0), some (.int p1), some (.int p2), some (.int x22), some (.int x16)] [] (k23 x22)) (fun x22 => ?_) (fun k23 h24 => ?_)
              · refine s_run X ok_X12_coverage 44 2 (pc' := 58) (vs' := [some (.ref p0), some (.int p1), some (.int p2), some (.int x22), some (.int (x16 + 1))]) (st' := []) rfl ?_
                exact h18 x22 (x16 + 1)
              · refine s_lif_ne (tgt := 108) X (dk okd_X12_coverage 14 rfl) (by decide) ?_ ?_
                · exact h24 x15
                · refine s_run X ok_X12_coverage 31 4 (pc' := 88) (vs' := [some (.ref p0), some (.int p1), some (.int p2), some (.int x15), some (.int x16)]) (st' := [.int p1, .int x16, .ref p0, .int x15]) rfl ?_
                  refine s_callV (b := p0) (As := [.int x16, .int p1]) (rest := [.int x15]) X E mv_X12_152 (c_X12_nearestOutlet o11.2 p0 x16 p1) rfl (ta1 t0_) rfl (by decide) t0_ rfl rfl (Nat.le_of_ble_eq_true rfl) (Nat.le_of_ble_eq_true rfl) (Nat.le_of_ble_eq_true rfl) (dk okd_X12_coverage 15 rfl) (st' := fun v25 => [.int v25, .int x15]) (fun _ => rfl) (fun v25 => ?_)
                  refine s_run X ok_X12_coverage 35 4 (pc' := 95) (vs' := [some (.ref p0), some (.int p1), some (.int p2), some (.int x15), some (.int x16)]) (st' := [.long (Int32.toInt64 p2), .long 0, .long (Int32.toInt64 v25), .int x15]) rfl ?_
                  refine s_callS (As := [.long (Int32.toInt64 v25), .long 0, .long (Int32.toInt64 p2)]) (rest := [.int x15]) X E ms_X12_53 (c_X12_inRange o11.2 (Int32.toInt64 v25) 0 (Int32.toInt64 p2)) rfl (ta0) rfl rfl (Nat.le_of_ble_eq_true rfl) (Nat.le_of_ble_eq_true rfl) (Nat.le_of_ble_eq_true rfl) (dk okd_X12_coverage 16 rfl) (st' := fun v26 => [.int v26, .int x15]) (fun _ => rfl) (fun v26 => ?_)
                  refine s_jn (κ := Int32 → Option (Int32 × St)) (fun k28 => ∀ (x27 : Int32), Jd C 5 (QJ C oIS sS) o11.2 106 [some (.ref p0), some (.int p1), some (.int p2), none, some (.int x16)] [.int x27, .int x15] (k28 x27)) (fun x27 => ?_) (fun k28 h29 => ?_)
                  · refine s_run X ok_X12_coverage 42 1 (pc' := 107) (vs' := [some (.ref p0), some (.int p1), some (.int p2), none, some (.int x16)]) (st' := [.int (x15 + x27)]) rfl ?_
                    refine s_nmI (fun v30 => ?_)
                    refine s_run X ok_X12_coverage 43 1 (pc' := 108) (vs' := [some (.ref p0), some (.int p1), some (.int p2), some (.int v30), some (.int x16)]) (st' := []) rfl ?_
                    exact h24 v30
                  · refine s_if_eq (tgt := 105) X (dk okd_X12_coverage 17 rfl) (by decide) ?_ ?_
                    · refine s_run X ok_X12_coverage 41 1 (pc' := 106) (vs' := [some (.ref p0), some (.int p1), some (.int p2), some (.int x15), some (.int x16)]) (st' := [.int 0, .int x15]) rfl ?_
                      exact s_less [true, true, true, false, true] rfl (h29 0)
                    · refine s_run X ok_X12_coverage 39 2 (pc' := 106) (vs' := [some (.ref p0), some (.int p1), some (.int p2), some (.int x15), some (.int x16)]) (st' := [.int 1, .int x15]) rfl ?_
                      exact s_less [true, true, true, false, true] rfl (h29 1)
        · refine s_run X ok_X12_coverage 17 1 (pc' := 52) (vs' := [some (.ref p0), some (.int p1), some (.int p2), none, none]) (st' := [.int 0]) rfl ?_
          exact s_iret X hr (dk okd_X12_coverage 10 rfl) rfl rfl
      · refine s_if_ne (tgt := 43) X (dk okd_X12_coverage 7 rfl) (by decide) ?_ ?_
        · refine s_run X ok_X12_coverage 15 1 (pc' := 44) (vs' := [some (.ref p0), some (.int p1), some (.int p2), none, none]) (st' := [.int 0, .ref p0]) rfl ?_
          exact h10 0
        · refine s_run X ok_X12_coverage 13 2 (pc' := 44) (vs' := [some (.ref p0), some (.int p1), some (.int p2), none, none]) (st' := [.int 1, .ref p0]) rfl ?_
          exact h10 1
  · refine s_if_ne (tgt := 18) X (dk okd_X12_coverage 2 rfl) (by decide) ?_ ?_
    · refine s_run X ok_X12_coverage 7 1 (pc' := 19) (vs' := [some (.ref p0), some (.int p1), some (.int p2), none, none]) (st' := [.int 0, .ref p0]) rfl ?_
      exact h5 0
    · refine s_run X ok_X12_coverage 5 2 (pc' := 19) (vs' := [some (.ref p0), some (.int p1), some (.int p2), none, none]) (st' := [.int 1, .ref p0]) rfl ?_
      exact h5 1
def tab_X12_rivalCells : List En := [(0, 8, 0, 0), (1, 0, 0, 0), (5, 8, 0, 0), (6, 8, 0, 0), (7, 4, 1, 0), (14, 8, 0, 0), (15, 4, 2, 0), (22, 0, 0, 1), (23, 41, 27, 0), (26, 0, 0, 0), (27, 0, 0, 1), (34, 8, 0, 0), (35, 4, 1, 0), (36, 4, 2, 0), (40, 0, 0, 1), (41, 41, 45, 0), (44, 0, 0, 0), (45, 0, 0, 2), (52, 0, 0, 0), (54, 0, 0, 0), (55, 10, 3, 0), (56, 0, 0, 0), (57, 11, 4, 0), (59, 5, 4, 0), (61, 2, 0, 900), (67, 8, 0, 0), (71, 2, 0, 250), (74, 5, 4, 0), (76, 17, 0, 0), (78, 4, 1, 0), (79, 31, 0, 0), (80, 40, 0, 0), (84, 41, 132, 0), (87, 8, 0, 0), (88, 5, 4, 0), (90, 4, 1, 0), (94, 11, 5, 0), (96, 8, 0, 0), (97, 5, 4, 0), (99, 4, 2, 0), (103, 11, 6, 0), (105, 4, 3, 0), (106, 5, 6, 0), (108, 0, 0, (-1)), (112, 5, 5, 0), (114, 0, 0, (-1)), (118, 5, 6, 0), (120, 5, 5, 0), (125, 0, 0, 1), (126, 41, 130, 0), (129, 0, 0, 0), (130, 17, 0, 0), (131, 10, 3, 0), (132, 16, 4, 1), (135, 41, 59, 0), (138, 4, 3, 0)]
theorem ok_X12_rivalCells : tab_X12_rivalCells.all (okE cX12_rivalCells) = true := by decide +kernel
def ed_X12_rivalCells : List (Nat × Instr × Nat) := [(2, .putfield 50, 3), (8, .invokevirtual 85, 3), (11, .ifCond .eq 11, 3), (16, .invokevirtual 85, 3), (19, .ifCond .ne 7, 3), (28, .invokevirtual 81, 3), (31, .ifCond .ne 21, 3), (37, .if_icmp .ne 7, 3), (46, .invokevirtual 81, 3), (49, .ifCond .eq 5, 3), (53, .ireturn, 1), (64, .if_icmp .ge 74, 3), (68, .getfield 9, 3), (77, .laload, 1), (81, .ifCond .eq 6, 3), (91, .invokevirtual 152, 3), (100, .invokevirtual 152, 3), (109, .if_icmp .eq 20, 3), (115, .if_icmp .eq 10, 3), (122, .if_icmp .ge 7, 3), (139, .ireturn, 1)]
theorem okd_X12_rivalCells : ed_X12_rivalCells.all (okD cX12_rivalCells) = true := by decide +kernel
def f_X12_rivalCells (S : St) (p0 : Nat) (p1 : Int32) (p2 : Int32) : Option (Int32 × St) := lt (uI S p0 2 0) fun (S1 : St) => cl (f_X12_isFranchisee S1 p0 p1) fun (v2 : Int32) => jn (κ := Int32 → Option (Int32 × St)) (fun x3 => cl (f_X12_throwsIf S1 p0 x3 1) fun (o6 : Int32 × St) => if o6.1 = 0 then (jn (κ := Int32 → Option (Int32 × St)) (fun x7 => cl (f_X12_throwsIf o6.2 p0 x7 2) fun (o10 : Int32 × St) => if o10.1 = 0 then (jn (κ := Int32 → Option (Int32 × St)) (fun x11 => some (x11, o10.2)) fun k12 => lp (κ := Int32 → Int32 → Option (Int32 × St)) (fun _ _ => none) (fun k16 x14 x15 => if 900 ≤ x15 then (k12 x14) else (lt (gR o10.2 p0 0) fun (a18 : Nat) => ldJ o10.2 a18 (250 + x15) fun (v20 : Int64) => jn (κ := Int32 → Option (Int32 × St)) (fun x21 => k16 x21 (x15 + 1)) fun k22 => if v20 = (Int32.toInt64 p1) then (cl (f_X12_nearestOutlet o10.2 p0 x15 p1) fun (v24 : Int32) => cl (f_X12_nearestOutlet o10.2 p0 x15 p2) fun (v25 : Int32) => jn (κ := Int32 → Option (Int32 × St)) (fun x26 => lt (x14 + x26) fun (v29 : Int32) => k22 v29) fun k27 => jn (κ := Option (Int32 × St)) (k27 0) fun k30 => if v25 = (-1) then (k30) else (jn (κ := Option (Int32 × St)) (k27 1) fun k32 => if v24 = (-1) then (k32) else (if v24 ≤ v25 then (k30) else (k32)))) else (k22 x14))) FU 0 0) else (some (0, o10.2))) fun k8 => if p1 = p2 then (k8 1) else (k8 0)) else (some (0, o6.2))) fun k4 => jn (κ := Option (Int32 × St)) (k4 1) fun k34 => if v2 = 0 then (k34) else (cl (f_X12_isFranchisee S1 p0 p2) fun (v36 : Int32) => if v36 = 0 then (k34) else (k4 0))
set_option maxHeartbeats 4000000 in
set_option maxRecDepth 100000 in
theorem c_X12_rivalCells (S : St) (p0 : Nat) (p1 : Int32) (p2 : Int32) : Ct yX12_rivalCells cX12_rivalCells 7 (some .int) 3 68 (fun _ => [.ref p0, .int p1, .int p2]) [(p0, 11)] S (f_X12_rivalCells S p0 p1 p2) oIS sS := by
  refine Ct_of RX12 rfl (by decide) (fun _ => Nat.le_of_ble_eq_true rfl) 4 (vs := fun _ => [some (.ref p0), some (.int p1), some (.int p2), none, none, none, none]) (fun _ => rfl) (fun C X E hr ht => ?_)
  have t0_ : tT C p0 11 := ht (p0, 11) (by simp)
  show Jd C 7 (QJ C oIS sS) S 0 [some (.ref p0), some (.int p1), some (.int p2), none, none, none, none] [] (f_X12_rivalCells S p0 p1 p2)
  unfold f_X12_rivalCells
  refine s_run X ok_X12_rivalCells 0 2 (pc' := 2) (vs' := [some (.ref p0), some (.int p1), some (.int p2), none, none, none, none]) (st' := [.int 0, .ref p0]) rfl ?_
  refine s_putI X fp_X12_50 t0_ (dk okd_X12_rivalCells 0 rfl) (fun S1 => ?_)
  refine s_run X ok_X12_rivalCells 2 3 (pc' := 8) (vs' := [some (.ref p0), some (.int p1), some (.int p2), none, none, none, none]) (st' := [.int p1, .ref p0, .ref p0]) rfl ?_
  refine s_callV (b := p0) (As := [.int p1]) (rest := [.ref p0]) X E mv_X12_85 (c_X12_isFranchisee S1 p0 p1) rfl (ta1 t0_) rfl (by decide) t0_ rfl rfl (Nat.le_of_ble_eq_true rfl) (Nat.le_of_ble_eq_true rfl) (Nat.le_of_ble_eq_true rfl) (dk okd_X12_rivalCells 1 rfl) (st' := fun v2 => [.int v2, .ref p0]) (fun _ => rfl) (fun v2 => ?_)
  refine s_jn (κ := Int32 → Option (Int32 × St)) (fun k4 => ∀ (x3 : Int32), Jd C 7 (QJ C oIS sS) S1 27 [some (.ref p0), some (.int p1), some (.int p2), none, none, none, none] [.int x3, .ref p0] (k4 x3)) (fun x3 => ?_) (fun k4 h5 => ?_)
  · refine s_run X ok_X12_rivalCells 10 1 (pc' := 28) (vs' := [some (.ref p0), some (.int p1), some (.int p2), none, none, none, none]) (st' := [.int 1, .int x3, .ref p0]) rfl ?_
    refine s_callV (b := p0) (As := [.int x3, .int 1]) (rest := []) X E mv_X12_81 (c_X12_throwsIf S1 p0 x3 1) rfl (ta1 t0_) rfl (by decide) t0_ rfl rfl (Nat.le_of_ble_eq_true rfl) (Nat.le_of_ble_eq_true rfl) (Nat.le_of_ble_eq_true rfl) (dk okd_X12_rivalCells 5 rfl) (st' := fun o6 => [.int o6.1]) (fun _ => rfl) (fun o6 => ?_)
    refine s_if_ne (tgt := 52) X (dk okd_X12_rivalCells 6 rfl) (by decide) ?_ ?_
    · refine s_run X ok_X12_rivalCells 18 1 (pc' := 53) (vs' := [some (.ref p0), some (.int p1), some (.int p2), none, none, none, none]) (st' := [.int 0]) rfl ?_
      exact s_iret X hr (dk okd_X12_rivalCells 10 rfl) rfl rfl
    · refine s_run X ok_X12_rivalCells 11 3 (pc' := 37) (vs' := [some (.ref p0), some (.int p1), some (.int p2), none, none, none, none]) (st' := [.int p2, .int p1, .ref p0]) rfl ?_
      refine s_jn (κ := Int32 → Option (Int32 × St)) (fun k8 => ∀ (x7 : Int32), Jd C 7 (QJ C oIS sS) o6.2 45 [some (.ref p0), some (.int p1), some (.int p2), none, none, none, none] [.int x7, .ref p0] (k8 x7)) (fun x7 => ?_) (fun k8 h9 => ?_)
      · refine s_run X ok_X12_rivalCells 17 1 (pc' := 46) (vs' := [some (.ref p0), some (.int p1), some (.int p2), none, none, none, none]) (st' := [.int 2, .int x7, .ref p0]) rfl ?_
        refine s_callV (b := p0) (As := [.int x7, .int 2]) (rest := []) X E mv_X12_81 (c_X12_throwsIf o6.2 p0 x7 2) rfl (ta1 t0_) rfl (by decide) t0_ rfl rfl (Nat.le_of_ble_eq_true rfl) (Nat.le_of_ble_eq_true rfl) (Nat.le_of_ble_eq_true rfl) (dk okd_X12_rivalCells 8 rfl) (st' := fun o10 => [.int o10.1]) (fun _ => rfl) (fun o10 => ?_)
        refine s_if_eq (tgt := 54) X (dk okd_X12_rivalCells 9 rfl) (by decide) ?_ ?_
        · refine s_run X ok_X12_rivalCells 19 4 (pc' := 59) (vs' := [some (.ref p0), some (.int p1), some (.int p2), some (.int 0), some (.int 0), none, none]) (st' := []) rfl ?_
          refine s_jn (κ := Int32 → Option (Int32 × St)) (fun k12 => ∀ (x11 : Int32), Jd C 7 (QJ C oIS sS) o10.2 138 [none, none, none, some (.int x11), none, none, none] [] (k12 x11)) (fun x11 => ?_) (fun k12 h13 => ?_)
          · refine s_run X ok_X12_rivalCells 55 1 (pc' := 139) (vs' := [none, none, none, some (.int x11), none, none, none]) (st' := [.int x11]) rfl ?_
            exact s_iret X hr (dk okd_X12_rivalCells 20 rfl) rfl rfl
          · refine s_lp (κ := Int32 → Int32 → Option (Int32 × St)) (fun k16 => ∀ (x14 : Int32) (x15 : Int32), Jd C 7 (QJ C oIS sS) o10.2 59 [some (.ref p0), some (.int p1), some (.int p2), some (.int x14), some (.int x15), none, none] [] (k16 x14 x15)) (fun _ _ => s_none) (fun k16 h17 x14 x15 => ?_) FU 0 0
            refine s_run X ok_X12_rivalCells 23 2 (pc' := 64) (vs' := [some (.ref p0), some (.int p1), some (.int p2), some (.int x14), some (.int x15), none, none]) (st' := [.int 900, .int x15]) rfl ?_
            refine s_icmp_ge (tgt := 138) X (dk okd_X12_rivalCells 11 rfl) (by decide) ?_ ?_
            · exact s_less [false, false, false, true, false, false, false] rfl (h13 x14)
            · refine s_run X ok_X12_rivalCells 25 1 (pc' := 68) (vs' := [some (.ref p0), some (.int p1), some (.int p2), some (.int x14), some (.int x15), none, none]) (st' := [.ref p0]) rfl ?_
              refine s_getR X fl_X12_9 t0_ (dk okd_X12_rivalCells 12 rfl) (fun a18 (t19 : tT C a18 14) => ?_)
              refine s_run X ok_X12_rivalCells 26 3 (pc' := 77) (vs' := [some (.ref p0), some (.int p1), some (.int p2), some (.int x14), some (.int x15), none, none]) (st' := [.int (250 + x15), .ref a18]) rfl ?_
              refine s_lald X t19 (dk okd_X12_rivalCells 13 rfl) (fun v20 => ?_)
              refine s_run X ok_X12_rivalCells 29 3 (pc' := 81) (vs' := [some (.ref p0), some (.int p1), some (.int p2), some (.int x14), some (.int x15), none, none]) (st' := [.int (lg_cmp v20 (Int32.toInt64 p1))]) rfl ?_
              refine s_jn (κ := Int32 → Option (Int32 × St)) (fun k22 => ∀ (x21 : Int32), Jd C 7 (QJ C oIS sS) o10.2 132 [some (.ref p0), some (.int p1), some (.int p2), some (.int x21), some (.int x15), none, none] [] (k22 x21)) (fun x21 => ?_) (fun k22 h23 => ?_)
              · refine s_run X ok_X12_rivalCells 53 2 (pc' := 59) (vs' := [some (.ref p0), some (.int p1), some (.int p2), some (.int x21), some (.int (x15 + 1)), none, none]) (st' := []) rfl ?_
                exact h17 x21 (x15 + 1)
              · refine s_lif_eq (tgt := 87) X (dk okd_X12_rivalCells 14 rfl) (by decide) ?_ ?_
                · refine s_run X ok_X12_rivalCells 33 3 (pc' := 91) (vs' := [some (.ref p0), some (.int p1), some (.int p2), some (.int x14), some (.int x15), none, none]) (st' := [.int p1, .int x15, .ref p0]) rfl ?_
                  refine s_callV (b := p0) (As := [.int x15, .int p1]) (rest := []) X E mv_X12_152 (c_X12_nearestOutlet o10.2 p0 x15 p1) rfl (ta1 t0_) rfl (by decide) t0_ rfl rfl (Nat.le_of_ble_eq_true rfl) (Nat.le_of_ble_eq_true rfl) (Nat.le_of_ble_eq_true rfl) (dk okd_X12_rivalCells 15 rfl) (st' := fun v24 => [.int v24]) (fun _ => rfl) (fun v24 => ?_)
                  refine s_run X ok_X12_rivalCells 36 4 (pc' := 100) (vs' := [some (.ref p0), some (.int p1), some (.int p2), some (.int x14), some (.int x15), some (.int v24), none]) (st' := [.int p2, .int x15, .ref p0]) rfl ?_
                  refine s_callV (b := p0) (As := [.int x15, .int p2]) (rest := []) X E mv_X12_152 (c_X12_nearestOutlet o10.2 p0 x15 p2) rfl (ta1 t0_) rfl (by decide) t0_ rfl rfl (Nat.le_of_ble_eq_true rfl) (Nat.le_of_ble_eq_true rfl) (Nat.le_of_ble_eq_true rfl) (dk okd_X12_rivalCells 16 rfl) (st' := fun v25 => [.int v25]) (fun _ => rfl) (fun v25 => ?_)
                  refine s_run X ok_X12_rivalCells 40 4 (pc' := 109) (vs' := [some (.ref p0), some (.int p1), some (.int p2), some (.int x14), some (.int x15), some (.int v24), some (.int v25)]) (st' := [.int (-1), .int v25, .int x14]) rfl ?_
                  refine s_jn (κ := Int32 → Option (Int32 × St)) (fun k27 => ∀ (x26 : Int32), Jd C 7 (QJ C oIS sS) o10.2 130 [some (.ref p0), some (.int p1), some (.int p2), none, some (.int x15), none, none] [.int x26, .int x14] (k27 x26)) (fun x26 => ?_) (fun k27 h28 => ?_)
                  · refine s_run X ok_X12_rivalCells 51 1 (pc' := 131) (vs' := [some (.ref p0), some (.int p1), some (.int p2), none, some (.int x15), none, none]) (st' := [.int (x14 + x26)]) rfl ?_
                    refine s_nmI (fun v29 => ?_)
                    refine s_run X ok_X12_rivalCells 52 1 (pc' := 132) (vs' := [some (.ref p0), some (.int p1), some (.int p2), some (.int v29), some (.int x15), none, none]) (st' := []) rfl ?_
                    exact h23 v29
                  · refine s_jn (κ := Option (Int32 × St)) (fun k30 => Jd C 7 (QJ C oIS sS) o10.2 129 [some (.ref p0), some (.int p1), some (.int p2), none, some (.int x15), none, none] [.int x14] k30) ?_ (fun k30 h31 => ?_)
                    · refine s_run X ok_X12_rivalCells 50 1 (pc' := 130) (vs' := [some (.ref p0), some (.int p1), some (.int p2), none, some (.int x15), none, none]) (st' := [.int 0, .int x14]) rfl ?_
                      exact h28 0
                    · refine s_icmp_eq (tgt := 129) X (dk okd_X12_rivalCells 17 rfl) (by decide) ?_ ?_
                      · exact s_less [true, true, true, false, true, false, false] rfl (h31)
                      · refine s_run X ok_X12_rivalCells 44 2 (pc' := 115) (vs' := [some (.ref p0), some (.int p1), some (.int p2), some (.int x14), some (.int x15), some (.int v24), some (.int v25)]) (st' := [.int (-1), .int v24, .int x14]) rfl ?_
                        refine s_jn (κ := Option (Int32 × St)) (fun k32 => Jd C 7 (QJ C oIS sS) o10.2 125 [some (.ref p0), some (.int p1), some (.int p2), none, some (.int x15), none, none] [.int x14] k32) ?_ (fun k32 h33 => ?_)
                        · refine s_run X ok_X12_rivalCells 48 2 (pc' := 130) (vs' := [some (.ref p0), some (.int p1), some (.int p2), none, some (.int x15), none, none]) (st' := [.int 1, .int x14]) rfl ?_
                          exact h28 1
                        · refine s_icmp_eq (tgt := 125) X (dk okd_X12_rivalCells 18 rfl) (by decide) ?_ ?_
                          · exact s_less [true, true, true, false, true, false, false] rfl (h33)
                          · refine s_run X ok_X12_rivalCells 46 2 (pc' := 122) (vs' := [some (.ref p0), some (.int p1), some (.int p2), some (.int x14), some (.int x15), some (.int v24), some (.int v25)]) (st' := [.int v24, .int v25, .int x14]) rfl ?_
                            refine s_icmp_ge (tgt := 129) X (dk okd_X12_rivalCells 19 rfl) (by decide) ?_ ?_
                            · exact s_less [true, true, true, false, true, false, false] rfl (h31)
                            · exact s_less [true, true, true, false, true, false, false] rfl (h33)
                · refine s_run X ok_X12_rivalCells 32 1 (pc' := 132) (vs' := [some (.ref p0), some (.int p1), some (.int p2), some (.int x14), some (.int x15), none, none]) (st' := []) rfl ?_
                  exact h23 x14
        · refine s_run X ok_X12_rivalCells 18 1 (pc' := 53) (vs' := [some (.ref p0), some (.int p1), some (.int p2), none, none, none, none]) (st' := [.int 0]) rfl ?_
          exact s_iret X hr (dk okd_X12_rivalCells 10 rfl) rfl rfl
      · refine s_icmp_ne (tgt := 44) X (dk okd_X12_rivalCells 7 rfl) (by decide) ?_ ?_
        · refine s_run X ok_X12_rivalCells 16 1 (pc' := 45) (vs' := [some (.ref p0), some (.int p1), some (.int p2), none, none, none, none]) (st' := [.int 0, .ref p0]) rfl ?_
          exact h9 0
        · refine s_run X ok_X12_rivalCells 14 2 (pc' := 45) (vs' := [some (.ref p0), some (.int p1), some (.int p2), none, none, none, none]) (st' := [.int 1, .ref p0]) rfl ?_
          exact h9 1
  · refine s_jn (κ := Option (Int32 × St)) (fun k34 => Jd C 7 (QJ C oIS sS) S1 22 [some (.ref p0), some (.int p1), some (.int p2), none, none, none, none] [.ref p0] k34) ?_ (fun k34 h35 => ?_)
    · refine s_run X ok_X12_rivalCells 7 2 (pc' := 27) (vs' := [some (.ref p0), some (.int p1), some (.int p2), none, none, none, none]) (st' := [.int 1, .ref p0]) rfl ?_
      exact h5 1
    · refine s_if_eq (tgt := 22) X (dk okd_X12_rivalCells 2 rfl) (by decide) ?_ ?_
      · exact h35
      · refine s_run X ok_X12_rivalCells 5 2 (pc' := 16) (vs' := [some (.ref p0), some (.int p1), some (.int p2), none, none, none, none]) (st' := [.int p2, .ref p0, .ref p0]) rfl ?_
        refine s_callV (b := p0) (As := [.int p2]) (rest := [.ref p0]) X E mv_X12_85 (c_X12_isFranchisee S1 p0 p2) rfl (ta1 t0_) rfl (by decide) t0_ rfl rfl (Nat.le_of_ble_eq_true rfl) (Nat.le_of_ble_eq_true rfl) (Nat.le_of_ble_eq_true rfl) (dk okd_X12_rivalCells 3 rfl) (st' := fun v36 => [.int v36, .ref p0]) (fun _ => rfl) (fun v36 => ?_)
        refine s_if_ne (tgt := 26) X (dk okd_X12_rivalCells 4 rfl) (by decide) ?_ ?_
        · refine s_run X ok_X12_rivalCells 9 1 (pc' := 27) (vs' := [some (.ref p0), some (.int p1), some (.int p2), none, none, none, none]) (st' := [.int 0, .ref p0]) rfl ?_
          exact h5 0
        · exact h35
def tab_X12_cellsBefore : List En := [(0, 0, 0, 0), (1, 10, 3, 0), (2, 0, 0, 0), (3, 11, 4, 0), (5, 5, 4, 0), (7, 2, 0, 900), (13, 4, 3, 0), (14, 8, 0, 0), (18, 2, 0, 250), (21, 5, 4, 0), (23, 17, 0, 0), (25, 4, 1, 0), (26, 31, 0, 0), (27, 40, 0, 0), (31, 4, 2, 0), (32, 1, 0, 100), (37, 5, 4, 0), (39, 1, 0, 30), (42, 4, 2, 0), (46, 41, 61, 0), (49, 5, 4, 0), (51, 1, 0, 30), (54, 4, 2, 0), (55, 1, 0, 100), (57, 18, 0, 0), (61, 0, 0, 1), (62, 41, 66, 0), (65, 0, 0, 0), (66, 17, 0, 0), (67, 10, 3, 0), (68, 16, 4, 1), (71, 41, 5, 0), (74, 4, 3, 0)]
theorem ok_X12_cellsBefore : tab_X12_cellsBefore.all (okE cX12_cellsBefore) = true := by decide +kernel
def ed_X12_cellsBefore : List (Nat × Instr × Nat) := [(10, .if_icmp .ge 64, 3), (15, .getfield 9, 3), (24, .laload, 1), (28, .ifCond .ne 37, 3), (34, .if_icmp .ge 15, 3), (41, .irem, 1), (43, .if_icmp .ge 22, 3), (53, .idiv, 1), (58, .if_icmp .ge 7, 3), (75, .ireturn, 1)]
theorem okd_X12_cellsBefore : ed_X12_cellsBefore.all (okD cX12_cellsBefore) = true := by decide +kernel
def f_X12_cellsBefore (S : St) (p0 : Nat) (p1 : Int32) (p2 : Int32) : Option (Int32) := jn (κ := Int32 → Option (Int32)) (fun x1 => some x1) fun k2 => lp (κ := Int32 → Int32 → Option (Int32)) (fun _ _ => none) (fun k6 x4 x5 => if 900 ≤ x5 then (k2 x4) else (lt (gR S p0 0) fun (a8 : Nat) => ldJ S a8 (250 + x5) fun (v10 : Int64) => jn (κ := Int32 → Option (Int32)) (fun x11 => lt (x4 + x11) fun (v14 : Int32) => k6 v14 (x5 + 1)) fun k12 => jn (κ := Option (Int32)) (k12 0) fun k15 => if v10 = (Int32.toInt64 p1) then (jn (κ := Option (Int32)) (k12 1) fun k17 => if 100 ≤ p2 then (if (p2 - 100) ≤ (x5 / 30) then (k15) else (k17)) else (if p2 ≤ (x5 - x5 / 30 * 30) then (k15) else (k17))) else (k15))) FU 0 0
set_option maxHeartbeats 4000000 in
set_option maxRecDepth 100000 in
theorem c_X12_cellsBefore (S : St) (p0 : Nat) (p1 : Int32) (p2 : Int32) : Ct yX12_cellsBefore cX12_cellsBefore 5 (some .int) 0 0 (fun _ => [.ref p0, .int p1, .int p2]) [(p0, 11)] S (f_X12_cellsBefore S p0 p1 p2) oI (fun _ => S) := by
  refine Ct_of RX12 rfl (by decide) (fun _ => Nat.le_of_ble_eq_true rfl) 2 (vs := fun _ => [some (.ref p0), some (.int p1), some (.int p2), none, none]) (fun _ => rfl) (fun C X E hr ht => ?_)
  have t0_ : tT C p0 11 := ht (p0, 11) (by simp)
  show Jd C 5 (QJ C oI (fun _ => S)) S 0 [some (.ref p0), some (.int p1), some (.int p2), none, none] [] (f_X12_cellsBefore S p0 p1 p2)
  unfold f_X12_cellsBefore
  refine s_run X ok_X12_cellsBefore 0 4 (pc' := 5) (vs' := [some (.ref p0), some (.int p1), some (.int p2), some (.int 0), some (.int 0)]) (st' := []) rfl ?_
  refine s_jn (κ := Int32 → Option (Int32)) (fun k2 => ∀ (x1 : Int32), Jd C 5 (QJ C oI (fun _ => S)) S 74 [none, none, none, some (.int x1), none] [] (k2 x1)) (fun x1 => ?_) (fun k2 h3 => ?_)
  · refine s_run X ok_X12_cellsBefore 32 1 (pc' := 75) (vs' := [none, none, none, some (.int x1), none]) (st' := [.int x1]) rfl ?_
    exact s_iret X hr (dk okd_X12_cellsBefore 9 rfl) rfl rfl
  · refine s_lp (κ := Int32 → Int32 → Option (Int32)) (fun k6 => ∀ (x4 : Int32) (x5 : Int32), Jd C 5 (QJ C oI (fun _ => S)) S 5 [some (.ref p0), some (.int p1), some (.int p2), some (.int x4), some (.int x5)] [] (k6 x4 x5)) (fun _ _ => s_none) (fun k6 h7 x4 x5 => ?_) FU 0 0
    refine s_run X ok_X12_cellsBefore 4 2 (pc' := 10) (vs' := [some (.ref p0), some (.int p1), some (.int p2), some (.int x4), some (.int x5)]) (st' := [.int 900, .int x5]) rfl ?_
    refine s_icmp_ge (tgt := 74) X (dk okd_X12_cellsBefore 0 rfl) (by decide) ?_ ?_
    · exact s_less [false, false, false, true, false] rfl (h3 x4)
    · refine s_run X ok_X12_cellsBefore 6 2 (pc' := 15) (vs' := [some (.ref p0), some (.int p1), some (.int p2), some (.int x4), some (.int x5)]) (st' := [.ref p0, .int x4]) rfl ?_
      refine s_getR X fl_X12_9 t0_ (dk okd_X12_cellsBefore 1 rfl) (fun a8 (t9 : tT C a8 14) => ?_)
      refine s_run X ok_X12_cellsBefore 8 3 (pc' := 24) (vs' := [some (.ref p0), some (.int p1), some (.int p2), some (.int x4), some (.int x5)]) (st' := [.int (250 + x5), .ref a8, .int x4]) rfl ?_
      refine s_lald X t9 (dk okd_X12_cellsBefore 2 rfl) (fun v10 => ?_)
      refine s_run X ok_X12_cellsBefore 11 3 (pc' := 28) (vs' := [some (.ref p0), some (.int p1), some (.int p2), some (.int x4), some (.int x5)]) (st' := [.int (lg_cmp v10 (Int32.toInt64 p1)), .int x4]) rfl ?_
      refine s_jn (κ := Int32 → Option (Int32)) (fun k12 => ∀ (x11 : Int32), Jd C 5 (QJ C oI (fun _ => S)) S 66 [some (.ref p0), some (.int p1), some (.int p2), none, some (.int x5)] [.int x11, .int x4] (k12 x11)) (fun x11 => ?_) (fun k12 h13 => ?_)
      · refine s_run X ok_X12_cellsBefore 28 1 (pc' := 67) (vs' := [some (.ref p0), some (.int p1), some (.int p2), none, some (.int x5)]) (st' := [.int (x4 + x11)]) rfl ?_
        refine s_nmI (fun v14 => ?_)
        refine s_run X ok_X12_cellsBefore 29 3 (pc' := 5) (vs' := [some (.ref p0), some (.int p1), some (.int p2), some (.int v14), some (.int (x5 + 1))]) (st' := []) rfl ?_
        exact h7 v14 (x5 + 1)
      · refine s_jn (κ := Option (Int32)) (fun k15 => Jd C 5 (QJ C oI (fun _ => S)) S 65 [some (.ref p0), some (.int p1), some (.int p2), none, some (.int x5)] [.int x4] k15) ?_ (fun k15 h16 => ?_)
        · refine s_run X ok_X12_cellsBefore 27 1 (pc' := 66) (vs' := [some (.ref p0), some (.int p1), some (.int p2), none, some (.int x5)]) (st' := [.int 0, .int x4]) rfl ?_
          exact h13 0
        · refine s_lif_ne (tgt := 65) X (dk okd_X12_cellsBefore 3 rfl) (by decide) ?_ ?_
          · exact s_less [true, true, true, false, true] rfl (h16)
          · refine s_run X ok_X12_cellsBefore 14 2 (pc' := 34) (vs' := [some (.ref p0), some (.int p1), some (.int p2), some (.int x4), some (.int x5)]) (st' := [.int 100, .int p2, .int x4]) rfl ?_
            refine s_jn (κ := Option (Int32)) (fun k17 => Jd C 5 (QJ C oI (fun _ => S)) S 61 [some (.ref p0), some (.int p1), some (.int p2), none, some (.int x5)] [.int x4] k17) ?_ (fun k17 h18 => ?_)
            · refine s_run X ok_X12_cellsBefore 25 2 (pc' := 66) (vs' := [some (.ref p0), some (.int p1), some (.int p2), none, some (.int x5)]) (st' := [.int 1, .int x4]) rfl ?_
              exact h13 1
            · refine s_icmp_ge (tgt := 49) X (dk okd_X12_cellsBefore 4 rfl) (by decide) ?_ ?_
              · refine s_run X ok_X12_cellsBefore 20 2 (pc' := 53) (vs' := [some (.ref p0), some (.int p1), some (.int p2), some (.int x4), some (.int x5)]) (st' := [.int 30, .int x5, .int x4]) rfl ?_
                refine s_idiv0 X (dk okd_X12_cellsBefore 7 rfl) (by decide) ?_
                refine s_run X ok_X12_cellsBefore 22 3 (pc' := 58) (vs' := [some (.ref p0), some (.int p1), some (.int p2), some (.int x4), some (.int x5)]) (st' := [.int (p2 - 100), .int (x5 / 30), .int x4]) rfl ?_
                refine s_icmp_ge (tgt := 65) X (dk okd_X12_cellsBefore 8 rfl) (by decide) ?_ ?_
                · exact s_less [true, true, true, false, true] rfl (h16)
                · exact s_less [true, true, true, false, true] rfl (h18)
              · refine s_run X ok_X12_cellsBefore 16 2 (pc' := 41) (vs' := [some (.ref p0), some (.int p1), some (.int p2), some (.int x4), some (.int x5)]) (st' := [.int 30, .int x5, .int x4]) rfl ?_
                refine s_irem0 X (dk okd_X12_cellsBefore 5 rfl) (by decide) ?_
                refine s_run X ok_X12_cellsBefore 18 1 (pc' := 43) (vs' := [some (.ref p0), some (.int p1), some (.int p2), some (.int x4), some (.int x5)]) (st' := [.int p2, .int (x5 - x5 / 30 * 30), .int x4]) rfl ?_
                refine s_icmp_ge (tgt := 65) X (dk okd_X12_cellsBefore 6 rfl) (by decide) ?_ ?_
                · exact s_less [true, true, true, false, true] rfl (h16)
                · refine s_run X ok_X12_cellsBefore 19 1 (pc' := 61) (vs' := [some (.ref p0), some (.int p1), some (.int p2), some (.int x4), some (.int x5)]) (st' := [.int x4]) rfl ?_
                  exact s_less [true, true, true, false, true] rfl (h18)
def tab_X12_halvingLine : List En := [(0, 8, 0, 0), (1, 0, 0, 0), (5, 8, 0, 0), (6, 8, 0, 0), (7, 4, 1, 0), (14, 0, 0, 1), (15, 41, 19, 0), (18, 0, 0, 0), (19, 0, 0, 1), (26, 0, 0, 0), (28, 8, 0, 0), (29, 4, 1, 0), (33, 10, 2, 0), (34, 0, 0, (-1)), (35, 10, 3, 0), (36, 0, 0, 0), (37, 11, 4, 0), (39, 0, 0, 0), (40, 11, 5, 0), (42, 5, 5, 0), (44, 1, 0, 58), (49, 4, 2, 0), (53, 5, 5, 0), (55, 1, 0, 29), (60, 5, 5, 0), (62, 0, 0, 1), (63, 17, 0, 0), (64, 41, 75, 0), (67, 1, 0, 100), (69, 5, 5, 0), (71, 17, 0, 0), (72, 1, 0, 28), (74, 18, 0, 0), (75, 11, 6, 0), (77, 4, 2, 0), (78, 0, 0, 2), (79, 8, 0, 0), (80, 4, 1, 0), (81, 5, 6, 0), (86, 19, 0, 0), (87, 18, 0, 0), (91, 11, 7, 0), (93, 4, 3, 0), (94, 0, 0, (-1)), (98, 5, 7, 0), (100, 5, 4, 0), (105, 41, 115, 0), (108, 5, 6, 0), (110, 10, 3, 0), (111, 5, 7, 0), (113, 11, 4, 0), (115, 16, 5, 1), (118, 41, 42, 0), (121, 4, 3, 0)]
theorem ok_X12_halvingLine : tab_X12_halvingLine.all (okE cX12_halvingLine) = true := by decide +kernel
def ed_X12_halvingLine : List (Nat × Instr × Nat) := [(2, .putfield 50, 3), (8, .invokevirtual 85, 3), (11, .ifCond .ne 7, 3), (20, .invokevirtual 81, 3), (23, .ifCond .eq 5, 3), (27, .ireturn, 1), (30, .invokevirtual 89, 3), (46, .if_icmp .ge 75, 3), (50, .ifCond .le 71, 3), (57, .if_icmp .ge 10, 3), (83, .invokevirtual 157, 3), (88, .invokestatic 107, 3), (95, .if_icmp .eq 13, 3), (102, .if_icmp .lt 6, 3), (122, .ireturn, 1)]
theorem okd_X12_halvingLine : ed_X12_halvingLine.all (okD cX12_halvingLine) = true := by decide +kernel
def f_X12_halvingLine (S : St) (p0 : Nat) (p1 : Int32) : Option (Int32 × St) := lt (uI S p0 2 0) fun (S1 : St) => cl (f_X12_isFranchisee S1 p0 p1) fun (v2 : Int32) => jn (κ := Int32 → Option (Int32 × St)) (fun x3 => cl (f_X12_throwsIf S1 p0 x3 1) fun (o6 : Int32 × St) => if o6.1 = 0 then (cl (f_X12_areaOf o6.2 p0 p1) fun (v7 : Int32) => jn (κ := Int32 → Option (Int32 × St)) (fun x8 => some (x8, o6.2)) fun k9 => lp (κ := Int32 → Int32 → Int32 → Option (Int32 × St)) (fun _ _ _ => none) (fun k14 x11 x12 x13 => if 58 ≤ x13 then (k9 x11) else (if v7 ≤ 0 then (k9 x11) else (jn (κ := Int32 → Option (Int32 × St)) (fun x16 => cl (f_X12_cellsBefore o6.2 p0 p1 x16) fun (v19 : Int32) => cl (f_X12_size o6.2 (v7 - (2 * v19))) fun (v20 : Int32) => jn (κ := Int32 → Int32 → Option (Int32 × St)) (fun x21 x22 => k14 x21 x22 (x13 + 1)) fun k23 => jn (κ := Option (Int32 × St)) (k23 x16 v20) fun k25 => if x11 = (-1) then (k25) else (if v20 < x12 then (k25) else (k23 x11 x12))) fun k17 => if 29 ≤ x13 then (k17 ((100 + x13) - 28)) else (k17 (x13 + 1))))) FU (-1) 0 0) else (some (0, o6.2))) fun k4 => if v2 = 0 then (k4 1) else (k4 0)
set_option maxHeartbeats 4000000 in
set_option maxRecDepth 100000 in
theorem c_X12_halvingLine (S : St) (p0 : Nat) (p1 : Int32) : Ct yX12_halvingLine cX12_halvingLine 8 (some .int) 2 46 (fun _ => [.ref p0, .int p1]) [(p0, 11)] S (f_X12_halvingLine S p0 p1) oIS sS := by
  refine Ct_of RX12 rfl (by decide) (fun _ => Nat.le_of_ble_eq_true rfl) 6 (vs := fun _ => [some (.ref p0), some (.int p1), none, none, none, none, none, none]) (fun _ => rfl) (fun C X E hr ht => ?_)
  have t0_ : tT C p0 11 := ht (p0, 11) (by simp)
  show Jd C 8 (QJ C oIS sS) S 0 [some (.ref p0), some (.int p1), none, none, none, none, none, none] [] (f_X12_halvingLine S p0 p1)
  unfold f_X12_halvingLine
  refine s_run X ok_X12_halvingLine 0 2 (pc' := 2) (vs' := [some (.ref p0), some (.int p1), none, none, none, none, none, none]) (st' := [.int 0, .ref p0]) rfl ?_
  refine s_putI X fp_X12_50 t0_ (dk okd_X12_halvingLine 0 rfl) (fun S1 => ?_)
  refine s_run X ok_X12_halvingLine 2 3 (pc' := 8) (vs' := [some (.ref p0), some (.int p1), none, none, none, none, none, none]) (st' := [.int p1, .ref p0, .ref p0]) rfl ?_
  refine s_callV (b := p0) (As := [.int p1]) (rest := [.ref p0]) X E mv_X12_85 (c_X12_isFranchisee S1 p0 p1) rfl (ta1 t0_) rfl (by decide) t0_ rfl rfl (Nat.le_of_ble_eq_true rfl) (Nat.le_of_ble_eq_true rfl) (Nat.le_of_ble_eq_true rfl) (dk okd_X12_halvingLine 1 rfl) (st' := fun v2 => [.int v2, .ref p0]) (fun _ => rfl) (fun v2 => ?_)
  refine s_jn (κ := Int32 → Option (Int32 × St)) (fun k4 => ∀ (x3 : Int32), Jd C 8 (QJ C oIS sS) S1 19 [some (.ref p0), some (.int p1), none, none, none, none, none, none] [.int x3, .ref p0] (k4 x3)) (fun x3 => ?_) (fun k4 h5 => ?_)
  · refine s_run X ok_X12_halvingLine 8 1 (pc' := 20) (vs' := [some (.ref p0), some (.int p1), none, none, none, none, none, none]) (st' := [.int 1, .int x3, .ref p0]) rfl ?_
    refine s_callV (b := p0) (As := [.int x3, .int 1]) (rest := []) X E mv_X12_81 (c_X12_throwsIf S1 p0 x3 1) rfl (ta1 t0_) rfl (by decide) t0_ rfl rfl (Nat.le_of_ble_eq_true rfl) (Nat.le_of_ble_eq_true rfl) (Nat.le_of_ble_eq_true rfl) (dk okd_X12_halvingLine 3 rfl) (st' := fun o6 => [.int o6.1]) (fun _ => rfl) (fun o6 => ?_)
    refine s_if_eq (tgt := 28) X (dk okd_X12_halvingLine 4 rfl) (by decide) ?_ ?_
    · refine s_run X ok_X12_halvingLine 10 2 (pc' := 30) (vs' := [some (.ref p0), some (.int p1), none, none, none, none, none, none]) (st' := [.int p1, .ref p0]) rfl ?_
      refine s_callV (b := p0) (As := [.int p1]) (rest := []) X E mv_X12_89 (c_X12_areaOf o6.2 p0 p1) rfl (ta1 t0_) rfl (by decide) t0_ rfl rfl (Nat.le_of_ble_eq_true rfl) (Nat.le_of_ble_eq_true rfl) (Nat.le_of_ble_eq_true rfl) (dk okd_X12_halvingLine 6 rfl) (st' := fun v7 => [.int v7]) (fun _ => rfl) (fun v7 => ?_)
      refine s_run X ok_X12_halvingLine 12 7 (pc' := 42) (vs' := [some (.ref p0), some (.int p1), some (.int v7), some (.int (-1)), some (.int 0), some (.int 0), none, none]) (st' := []) rfl ?_
      refine s_jn (κ := Int32 → Option (Int32 × St)) (fun k9 => ∀ (x8 : Int32), Jd C 8 (QJ C oIS sS) o6.2 121 [none, none, none, some (.int x8), none, none, none, none] [] (k9 x8)) (fun x8 => ?_) (fun k9 h10 => ?_)
      · refine s_run X ok_X12_halvingLine 53 1 (pc' := 122) (vs' := [none, none, none, some (.int x8), none, none, none, none]) (st' := [.int x8]) rfl ?_
        exact s_iret X hr (dk okd_X12_halvingLine 14 rfl) rfl rfl
      · refine s_lp (κ := Int32 → Int32 → Int32 → Option (Int32 × St)) (fun k14 => ∀ (x11 : Int32) (x12 : Int32) (x13 : Int32), Jd C 8 (QJ C oIS sS) o6.2 42 [some (.ref p0), some (.int p1), some (.int v7), some (.int x11), some (.int x12), some (.int x13), none, none] [] (k14 x11 x12 x13)) (fun _ _ _ => s_none) (fun k14 h15 x11 x12 x13 => ?_) FU (-1) 0 0
        refine s_run X ok_X12_halvingLine 19 2 (pc' := 46) (vs' := [some (.ref p0), some (.int p1), some (.int v7), some (.int x11), some (.int x12), some (.int x13), none, none]) (st' := [.int 58, .int x13]) rfl ?_
        refine s_icmp_ge (tgt := 121) X (dk okd_X12_halvingLine 7 rfl) (by decide) ?_ ?_
        · exact s_less [false, false, false, true, false, false, false, false] rfl (h10 x11)
        · refine s_run X ok_X12_halvingLine 21 1 (pc' := 50) (vs' := [some (.ref p0), some (.int p1), some (.int v7), some (.int x11), some (.int x12), some (.int x13), none, none]) (st' := [.int v7]) rfl ?_
          refine s_if_le (tgt := 121) X (dk okd_X12_halvingLine 8 rfl) (by decide) ?_ ?_
          · exact s_less [false, false, false, true, false, false, false, false] rfl (h10 x11)
          · refine s_run X ok_X12_halvingLine 22 2 (pc' := 57) (vs' := [some (.ref p0), some (.int p1), some (.int v7), some (.int x11), some (.int x12), some (.int x13), none, none]) (st' := [.int 29, .int x13]) rfl ?_
            refine s_jn (κ := Int32 → Option (Int32 × St)) (fun k17 => ∀ (x16 : Int32), Jd C 8 (QJ C oIS sS) o6.2 75 [some (.ref p0), some (.int p1), some (.int v7), some (.int x11), some (.int x12), some (.int x13), none, none] [.int x16] (k17 x16)) (fun x16 => ?_) (fun k17 h18 => ?_)
            · refine s_run X ok_X12_halvingLine 33 6 (pc' := 83) (vs' := [some (.ref p0), some (.int p1), some (.int v7), some (.int x11), some (.int x12), some (.int x13), some (.int x16), none]) (st' := [.int x16, .int p1, .ref p0, .int 2, .int v7]) rfl ?_
              refine s_callV (b := p0) (As := [.int p1, .int x16]) (rest := [.int 2, .int v7]) X E mv_X12_157 (c_X12_cellsBefore o6.2 p0 p1 x16) rfl (ta1 t0_) rfl (by decide) t0_ rfl rfl (Nat.le_of_ble_eq_true rfl) (Nat.le_of_ble_eq_true rfl) (Nat.le_of_ble_eq_true rfl) (dk okd_X12_halvingLine 10 rfl) (st' := fun v19 => [.int v19, .int 2, .int v7]) (fun _ => rfl) (fun v19 => ?_)
              refine s_run X ok_X12_halvingLine 39 2 (pc' := 88) (vs' := [some (.ref p0), some (.int p1), some (.int v7), some (.int x11), some (.int x12), some (.int x13), some (.int x16), none]) (st' := [.int (v7 - (2 * v19))]) rfl ?_
              refine s_callS (As := [.int (v7 - (2 * v19))]) (rest := []) X E ms_X12_107 (c_X12_size o6.2 (v7 - (2 * v19))) rfl (ta0) rfl rfl (Nat.le_of_ble_eq_true rfl) (Nat.le_of_ble_eq_true rfl) (Nat.le_of_ble_eq_true rfl) (dk okd_X12_halvingLine 11 rfl) (st' := fun v20 => [.int v20]) (fun _ => rfl) (fun v20 => ?_)
              refine s_run X ok_X12_halvingLine 41 3 (pc' := 95) (vs' := [some (.ref p0), some (.int p1), some (.int v7), some (.int x11), some (.int x12), some (.int x13), some (.int x16), some (.int v20)]) (st' := [.int (-1), .int x11]) rfl ?_
              refine s_jn (κ := Int32 → Int32 → Option (Int32 × St)) (fun k23 => ∀ (x21 : Int32) (x22 : Int32), Jd C 8 (QJ C oIS sS) o6.2 115 [some (.ref p0), some (.int p1), some (.int v7), some (.int x21), some (.int x22), some (.int x13), none, none] [] (k23 x21 x22)) (fun x21 x22 => ?_) (fun k23 h24 => ?_)
              · refine s_run X ok_X12_halvingLine 51 2 (pc' := 42) (vs' := [some (.ref p0), some (.int p1), some (.int v7), some (.int x21), some (.int x22), some (.int (x13 + 1)), none, none]) (st' := []) rfl ?_
                exact h15 x21 x22 (x13 + 1)
              · refine s_jn (κ := Option (Int32 × St)) (fun k25 => Jd C 8 (QJ C oIS sS) o6.2 108 [some (.ref p0), some (.int p1), some (.int v7), none, none, some (.int x13), some (.int x16), some (.int v20)] [] k25) ?_ (fun k25 h26 => ?_)
                · refine s_run X ok_X12_halvingLine 47 4 (pc' := 115) (vs' := [some (.ref p0), some (.int p1), some (.int v7), some (.int x16), some (.int v20), some (.int x13), some (.int x16), some (.int v20)]) (st' := []) rfl ?_
                  exact s_less [true, true, true, true, true, true, false, false] rfl (h24 x16 v20)
                · refine s_icmp_eq (tgt := 108) X (dk okd_X12_halvingLine 12 rfl) (by decide) ?_ ?_
                  · exact s_less [true, true, true, false, false, true, true, true] rfl (h26)
                  · refine s_run X ok_X12_halvingLine 44 2 (pc' := 102) (vs' := [some (.ref p0), some (.int p1), some (.int v7), some (.int x11), some (.int x12), some (.int x13), some (.int x16), some (.int v20)]) (st' := [.int x12, .int v20]) rfl ?_
                    refine s_icmp_lt (tgt := 108) X (dk okd_X12_halvingLine 13 rfl) (by decide) ?_ ?_
                    · exact s_less [true, true, true, false, false, true, true, true] rfl (h26)
                    · refine s_run X ok_X12_halvingLine 46 1 (pc' := 115) (vs' := [some (.ref p0), some (.int p1), some (.int v7), some (.int x11), some (.int x12), some (.int x13), some (.int x16), some (.int v20)]) (st' := []) rfl ?_
                      exact s_less [true, true, true, true, true, true, false, false] rfl (h24 x11 x12)
            · refine s_icmp_ge (tgt := 67) X (dk okd_X12_halvingLine 9 rfl) (by decide) ?_ ?_
              · refine s_run X ok_X12_halvingLine 28 5 (pc' := 75) (vs' := [some (.ref p0), some (.int p1), some (.int v7), some (.int x11), some (.int x12), some (.int x13), none, none]) (st' := [.int ((100 + x13) - 28)]) rfl ?_
                exact h18 ((100 + x13) - 28)
              · refine s_run X ok_X12_halvingLine 24 4 (pc' := 75) (vs' := [some (.ref p0), some (.int p1), some (.int v7), some (.int x11), some (.int x12), some (.int x13), none, none]) (st' := [.int (x13 + 1)]) rfl ?_
                exact h18 (x13 + 1)
    · refine s_run X ok_X12_halvingLine 9 1 (pc' := 27) (vs' := [some (.ref p0), some (.int p1), none, none, none, none, none, none]) (st' := [.int 0]) rfl ?_
      exact s_iret X hr (dk okd_X12_halvingLine 5 rfl) rfl rfl
  · refine s_if_ne (tgt := 18) X (dk okd_X12_halvingLine 2 rfl) (by decide) ?_ ?_
    · refine s_run X ok_X12_halvingLine 7 1 (pc' := 19) (vs' := [some (.ref p0), some (.int p1), none, none, none, none, none, none]) (st' := [.int 0, .ref p0]) rfl ?_
      exact h5 0
    · refine s_run X ok_X12_halvingLine 5 2 (pc' := 19) (vs' := [some (.ref p0), some (.int p1), none, none, none, none, none, none]) (st' := [.int 1, .ref p0]) rfl ?_
      exact h5 1
def tab_X12_ofPlan : List En := [(0, 8, 0, 0), (4, 1, 0, 14), (6, 1, 0, 11), (8, 4, 1, 0), (9, 19, 0, 0), (10, 17, 0, 0), (11, 4, 2, 0), (12, 17, 0, 0)]
theorem ok_X12_ofPlan : tab_X12_ofPlan.all (okE cX12_ofPlan) = true := by decide +kernel
def ed_X12_ofPlan : List (Nat × Instr × Nat) := [(1, .getfield 9, 3), (13, .laload, 1), (14, .lreturn, 1)]
theorem okd_X12_ofPlan : ed_X12_ofPlan.all (okD cX12_ofPlan) = true := by decide +kernel
def f_X12_ofPlan (S : St) (p0 : Nat) (p1 : Int32) (p2 : Int32) : Option (Int64) := lt (gR S p0 0) fun (a1 : Nat) => ldJ S a1 ((14 + (11 * p1)) + p2) fun (v3 : Int64) => some v3
set_option maxHeartbeats 4000000 in
set_option maxRecDepth 100000 in
theorem c_X12_ofPlan (S : St) (p0 : Nat) (p1 : Int32) (p2 : Int32) : Ct yX12_ofPlan cX12_ofPlan 3 (some .long) 0 0 (fun _ => [.ref p0, .int p1, .int p2]) [(p0, 11)] S (f_X12_ofPlan S p0 p1 p2) oL (fun _ => S) := by
  refine Ct_of RX12 rfl (by decide) (fun _ => Nat.le_of_ble_eq_true rfl) 0 (vs := fun _ => [some (.ref p0), some (.int p1), some (.int p2)]) (fun _ => rfl) (fun C X E hr ht => ?_)
  have t0_ : tT C p0 11 := ht (p0, 11) (by simp)
  show Jd C 3 (QJ C oL (fun _ => S)) S 0 [some (.ref p0), some (.int p1), some (.int p2)] [] (f_X12_ofPlan S p0 p1 p2)
  unfold f_X12_ofPlan
  refine s_run X ok_X12_ofPlan 0 1 (pc' := 1) (vs' := [some (.ref p0), some (.int p1), some (.int p2)]) (st' := [.ref p0]) rfl ?_
  refine s_getR X fl_X12_9 t0_ (dk okd_X12_ofPlan 0 rfl) (fun a1 (t2 : tT C a1 14) => ?_)
  refine s_run X ok_X12_ofPlan 1 7 (pc' := 13) (vs' := [some (.ref p0), some (.int p1), some (.int p2)]) (st' := [.int ((14 + (11 * p1)) + p2), .ref a1]) rfl ?_
  refine s_lald X t2 (dk okd_X12_ofPlan 1 rfl) (fun v3 => ?_)
  exact s_lret X hr (dk okd_X12_ofPlan 2 rfl) rfl rfl
def tab_X12_half : List En := [(0, 6, 0, 0), (4, 23, 0, 0)]
theorem ok_X12_half : tab_X12_half.all (okE cX12_half) = true := by decide +kernel
def ed_X12_half : List (Nat × Instr × Nat) := [(1, .ldc2_w 160, 3), (5, .ldc2_w 162, 3), (8, .ldiv, 1), (9, .lreturn, 1)]
theorem okd_X12_half : ed_X12_half.all (okD cX12_half) = true := by decide +kernel
def f_X12_half (S : St) (p0 : Int64) : Option (Int64) := some ((p0 + 5000) / 10000)
set_option maxHeartbeats 4000000 in
set_option maxRecDepth 100000 in
theorem c_X12_half (S : St) (p0 : Int64) : Ct yX12_half cX12_half 2 (some .long) 0 0 (fun _ => [.long p0]) [] S (f_X12_half S p0) oL (fun _ => S) := by
  refine Ct_of RX12 rfl (by decide) (fun _ => Nat.le_of_ble_eq_true rfl) 0 (vs := fun _ => [some (.long p0), none]) (fun _ => rfl) (fun C X E hr ht => ?_)
  show Jd C 2 (QJ C oL (fun _ => S)) S 0 [some (.long p0), none] [] (f_X12_half S p0)
  unfold f_X12_half
  refine s_run X ok_X12_half 0 1 (pc' := 1) (vs' := [some (.long p0), none]) (st' := [.long p0]) rfl ?_
  refine s_ldc2 X cl_X12_160 (dk okd_X12_half 0 rfl) ?_
  refine s_run X ok_X12_half 1 1 (pc' := 5) (vs' := [some (.long p0), none]) (st' := [.long (p0 + 5000)]) rfl ?_
  refine s_ldc2 X cl_X12_162 (dk okd_X12_half 1 rfl) ?_
  refine s_ldiv0 X (dk okd_X12_half 2 rfl) (by decide) ?_
  exact s_lret X hr (dk okd_X12_half 3 rfl) rfl rfl
def tab_X12_rated : List En := [(0, 6, 0, 0), (1, 6, 2, 0), (2, 25, 0, 0)]
theorem ok_X12_rated : tab_X12_rated.all (okE cX12_rated) = true := by decide +kernel
def ed_X12_rated : List (Nat × Instr × Nat) := [(3, .invokestatic 164, 3), (6, .lreturn, 1)]
theorem okd_X12_rated : ed_X12_rated.all (okD cX12_rated) = true := by decide +kernel
def f_X12_rated (S : St) (p0 : Int64) (p1 : Int64) : Option (Int64) := cl (f_X12_half S (p0 * p1)) fun (v1 : Int64) => some v1
set_option maxHeartbeats 4000000 in
set_option maxRecDepth 100000 in
theorem c_X12_rated (S : St) (p0 : Int64) (p1 : Int64) : Ct yX12_rated cX12_rated 4 (some .long) 1 21 (fun _ => [.long p0, .long p1]) [] S (f_X12_rated S p0 p1) oL (fun _ => S) := by
  refine Ct_of RX12 rfl (by decide) (fun _ => Nat.le_of_ble_eq_true rfl) 0 (vs := fun _ => [some (.long p0), none, some (.long p1), none]) (fun _ => rfl) (fun C X E hr ht => ?_)
  show Jd C 4 (QJ C oL (fun _ => S)) S 0 [some (.long p0), none, some (.long p1), none] [] (f_X12_rated S p0 p1)
  unfold f_X12_rated
  refine s_run X ok_X12_rated 0 3 (pc' := 3) (vs' := [some (.long p0), none, some (.long p1), none]) (st' := [.long (p0 * p1)]) rfl ?_
  refine s_callS (As := [.long (p0 * p1)]) (rest := []) X E ms_X12_164 (c_X12_half S (p0 * p1)) rfl (ta0) rfl rfl (Nat.le_of_ble_eq_true rfl) (Nat.le_of_ble_eq_true rfl) (Nat.le_of_ble_eq_true rfl) (dk okd_X12_rated 0 rfl) (st' := fun v1 => [.long v1]) (fun _ => rfl) (fun v1 => ?_)
  exact s_lret X hr (dk okd_X12_rated 1 rfl) rfl rfl
def tab_X12_royaltyOf : List En := [(0, 3, 0, 0), (1, 13, 4, 0), (3, 3, 0, 0), (4, 13, 6, 0), (6, 8, 0, 0), (7, 4, 1, 0), (8, 0, 0, 1), (12, 13, 8, 0), (14, 0, 0, 0), (15, 11, 10, 0), (17, 5, 10, 0), (19, 31, 0, 0), (20, 8, 0, 0), (21, 4, 1, 0), (22, 0, 0, 2), (26, 40, 0, 0), (30, 5, 10, 0), (32, 31, 0, 0), (33, 8, 0, 0), (34, 4, 1, 0), (35, 0, 0, 2), (39, 40, 0, 0), (43, 0, 0, 1), (44, 41, 48, 0), (47, 0, 0, 0), (48, 11, 11, 0), (50, 5, 11, 0), (55, 6, 2, 0), (56, 41, 68, 0), (59, 8, 0, 0), (60, 4, 1, 0), (61, 0, 0, 3), (62, 5, 10, 0), (64, 17, 0, 0), (68, 13, 12, 0), (70, 7, 12, 0), (72, 6, 2, 0), (73, 40, 0, 0), (77, 7, 12, 0), (79, 41, 83, 0), (82, 6, 2, 0), (83, 13, 12, 0), (85, 7, 12, 0), (87, 7, 6, 0), (89, 40, 0, 0), (93, 7, 4, 0), (95, 7, 12, 0), (97, 7, 6, 0), (99, 24, 0, 0), (100, 7, 8, 0), (102, 25, 0, 0), (103, 23, 0, 0), (104, 13, 4, 0), (106, 5, 11, 0), (111, 41, 137, 0), (114, 8, 0, 0), (115, 4, 1, 0), (116, 0, 0, 3), (117, 5, 10, 0), (119, 17, 0, 0), (123, 13, 6, 0), (125, 8, 0, 0), (126, 4, 1, 0), (127, 1, 0, 7), (129, 5, 10, 0), (131, 17, 0, 0), (135, 13, 8, 0), (137, 16, 10, 1), (140, 41, 17, 0), (143, 7, 4, 0)]
theorem ok_X12_royaltyOf : tab_X12_royaltyOf.all (okE cX12_royaltyOf) = true := by decide +kernel
def ed_X12_royaltyOf : List (Nat × Instr × Nat) := [(9, .invokevirtual 168, 3), (23, .invokevirtual 168, 3), (27, .ifCond .gt 116, 3), (36, .invokevirtual 168, 3), (40, .ifCond .ne 7, 3), (52, .ifCond .eq 7, 3), (65, .invokevirtual 168, 3), (74, .ifCond .ge 8, 3), (90, .ifCond .le 16, 3), (108, .ifCond .eq 6, 3), (120, .invokevirtual 168, 3), (132, .invokevirtual 168, 3), (145, .invokestatic 164, 3), (148, .lreturn, 1)]
theorem okd_X12_royaltyOf : ed_X12_royaltyOf.all (okD cX12_royaltyOf) = true := by decide +kernel
def f_X12_royaltyOf (S : St) (p0 : Nat) (p1 : Int32) (p2 : Int64) : Option (Int64) := cl (f_X12_ofPlan S p0 p1 1) fun (v1 : Int64) => jn (κ := Int64 → Option (Int64)) (fun x2 => cl (f_X12_half S x2) fun (v5 : Int64) => some v5) fun k3 => lp (κ := Int64 → Int64 → Int64 → Int32 → Option (Int64)) (fun _ _ _ _ => none) (fun k10 x6 x7 x8 x9 => cl (f_X12_ofPlan S p0 p1 2) fun (v12 : Int64) => if v12 < (Int32.toInt64 x9) then (k3 x6) else (cl (f_X12_ofPlan S p0 p1 2) fun (v13 : Int64) => jn (κ := Int32 → Option (Int64)) (fun x14 => jn (κ := Int64 → Option (Int64)) (fun x17 => jn (κ := Int64 → Option (Int64)) (fun x20 => jn (κ := Int64 → Option (Int64)) (fun x23 => jn (κ := Int64 → Int64 → Option (Int64)) (fun x26 x27 => k10 x23 x26 x27 (x9 + 1)) fun k28 => if x14 = 0 then (cl (f_X12_ofPlan S p0 p1 (3 + x9)) fun (v30 : Int64) => cl (f_X12_ofPlan S p0 p1 (7 + x9)) fun (v31 : Int64) => k28 v30 v31) else (k28 x7 x8)) fun k24 => if x20 ≤ x7 then (k24 x6) else (lt (x6 + ((x20 - x7) * x8)) fun (v32 : Int64) => k24 v32)) fun k21 => if p2 ≤ x17 then (k21 p2) else (k21 x17)) fun k18 => if x14 = 0 then (cl (f_X12_ofPlan S p0 p1 (3 + x9)) fun (v33 : Int64) => k18 v33) else (k18 p2)) fun k15 => if (Int32.toInt64 x9) = v13 then (k15 1) else (k15 0))) FU 0 0 v1 0
set_option maxHeartbeats 4000000 in
set_option maxRecDepth 100000 in
theorem c_X12_royaltyOf (S : St) (p0 : Nat) (p1 : Int32) (p2 : Int64) : Ct yX12_royaltyOf cX12_royaltyOf 14 (some .long) 1 22 (fun _ => [.ref p0, .int p1, .long p2]) [(p0, 11)] S (f_X12_royaltyOf S p0 p1 p2) oL (fun _ => S) := by
  refine Ct_of RX12 rfl (by decide) (fun _ => Nat.le_of_ble_eq_true rfl) 10 (vs := fun _ => [some (.ref p0), some (.int p1), some (.long p2), none, none, none, none, none, none, none, none, none, none, none]) (fun _ => rfl) (fun C X E hr ht => ?_)
  have t0_ : tT C p0 11 := ht (p0, 11) (by simp)
  show Jd C 14 (QJ C oL (fun _ => S)) S 0 [some (.ref p0), some (.int p1), some (.long p2), none, none, none, none, none, none, none, none, none, none, none] [] (f_X12_royaltyOf S p0 p1 p2)
  unfold f_X12_royaltyOf
  refine s_run X ok_X12_royaltyOf 0 7 (pc' := 9) (vs' := [some (.ref p0), some (.int p1), some (.long p2), none, some (.long 0), none, some (.long 0), none, none, none, none, none, none, none]) (st' := [.int 1, .int p1, .ref p0]) rfl ?_
  refine s_callV (b := p0) (As := [.int p1, .int 1]) (rest := []) X E mv_X12_168 (c_X12_ofPlan S p0 p1 1) rfl (ta1 t0_) rfl (by decide) t0_ rfl rfl (Nat.le_of_ble_eq_true rfl) (Nat.le_of_ble_eq_true rfl) (Nat.le_of_ble_eq_true rfl) (dk okd_X12_royaltyOf 0 rfl) (st' := fun v1 => [.long v1]) (fun _ => rfl) (fun v1 => ?_)
  refine s_run X ok_X12_royaltyOf 7 3 (pc' := 17) (vs' := [some (.ref p0), some (.int p1), some (.long p2), none, some (.long 0), none, some (.long 0), none, some (.long v1), none, some (.int 0), none, none, none]) (st' := []) rfl ?_
  refine s_jn (κ := Int64 → Option (Int64)) (fun k3 => ∀ (x2 : Int64), Jd C 14 (QJ C oL (fun _ => S)) S 143 [none, none, none, none, some (.long x2), none, none, none, none, none, none, none, none, none] [] (k3 x2)) (fun x2 => ?_) (fun k3 h4 => ?_)
  · refine s_run X ok_X12_royaltyOf 69 1 (pc' := 145) (vs' := [none, none, none, none, some (.long x2), none, none, none, none, none, none, none, none, none]) (st' := [.long x2]) rfl ?_
    refine s_callS (As := [.long x2]) (rest := []) X E ms_X12_164 (c_X12_half S x2) rfl (ta0) rfl rfl (Nat.le_of_ble_eq_true rfl) (Nat.le_of_ble_eq_true rfl) (Nat.le_of_ble_eq_true rfl) (dk okd_X12_royaltyOf 12 rfl) (st' := fun v5 => [.long v5]) (fun _ => rfl) (fun v5 => ?_)
    exact s_lret X hr (dk okd_X12_royaltyOf 13 rfl) rfl rfl
  · refine s_lp (κ := Int64 → Int64 → Int64 → Int32 → Option (Int64)) (fun k10 => ∀ (x6 : Int64) (x7 : Int64) (x8 : Int64) (x9 : Int32), Jd C 14 (QJ C oL (fun _ => S)) S 17 [some (.ref p0), some (.int p1), some (.long p2), none, some (.long x6), none, some (.long x7), none, some (.long x8), none, some (.int x9), none, none, none] [] (k10 x6 x7 x8 x9)) (fun _ _ _ _ => s_none) (fun k10 h11 x6 x7 x8 x9 => ?_) FU 0 0 v1 0
    refine s_run X ok_X12_royaltyOf 10 5 (pc' := 23) (vs' := [some (.ref p0), some (.int p1), some (.long p2), none, some (.long x6), none, some (.long x7), none, some (.long x8), none, some (.int x9), none, none, none]) (st' := [.int 2, .int p1, .ref p0, .long (Int32.toInt64 x9)]) rfl ?_
    refine s_callV (b := p0) (As := [.int p1, .int 2]) (rest := [.long (Int32.toInt64 x9)]) X E mv_X12_168 (c_X12_ofPlan S p0 p1 2) rfl (ta1 t0_) rfl (by decide) t0_ rfl rfl (Nat.le_of_ble_eq_true rfl) (Nat.le_of_ble_eq_true rfl) (Nat.le_of_ble_eq_true rfl) (dk okd_X12_royaltyOf 1 rfl) (st' := fun v12 => [.long v12, .long (Int32.toInt64 x9)]) (fun _ => rfl) (fun v12 => ?_)
    refine s_run X ok_X12_royaltyOf 15 1 (pc' := 27) (vs' := [some (.ref p0), some (.int p1), some (.long p2), none, some (.long x6), none, some (.long x7), none, some (.long x8), none, some (.int x9), none, none, none]) (st' := [.int (lg_cmp (Int32.toInt64 x9) v12)]) rfl ?_
    refine s_lif_gt (tgt := 143) X (dk okd_X12_royaltyOf 2 rfl) (by decide) ?_ ?_
    · exact s_less [false, false, false, false, true, false, false, false, false, false, false, false, false, false] rfl (h4 x6)
    · refine s_run X ok_X12_royaltyOf 16 5 (pc' := 36) (vs' := [some (.ref p0), some (.int p1), some (.long p2), none, some (.long x6), none, some (.long x7), none, some (.long x8), none, some (.int x9), none, none, none]) (st' := [.int 2, .int p1, .ref p0, .long (Int32.toInt64 x9)]) rfl ?_
      refine s_callV (b := p0) (As := [.int p1, .int 2]) (rest := [.long (Int32.toInt64 x9)]) X E mv_X12_168 (c_X12_ofPlan S p0 p1 2) rfl (ta1 t0_) rfl (by decide) t0_ rfl rfl (Nat.le_of_ble_eq_true rfl) (Nat.le_of_ble_eq_true rfl) (Nat.le_of_ble_eq_true rfl) (dk okd_X12_royaltyOf 3 rfl) (st' := fun v13 => [.long v13, .long (Int32.toInt64 x9)]) (fun _ => rfl) (fun v13 => ?_)
      refine s_run X ok_X12_royaltyOf 21 1 (pc' := 40) (vs' := [some (.ref p0), some (.int p1), some (.long p2), none, some (.long x6), none, some (.long x7), none, some (.long x8), none, some (.int x9), none, none, none]) (st' := [.int (lg_cmp (Int32.toInt64 x9) v13)]) rfl ?_
      refine s_jn (κ := Int32 → Option (Int64)) (fun k15 => ∀ (x14 : Int32), Jd C 14 (QJ C oL (fun _ => S)) S 48 [some (.ref p0), some (.int p1), some (.long p2), none, some (.long x6), none, some (.long x7), none, some (.long x8), none, some (.int x9), none, none, none] [.int x14] (k15 x14)) (fun x14 => ?_) (fun k15 h16 => ?_)
      · refine s_run X ok_X12_royaltyOf 25 2 (pc' := 52) (vs' := [some (.ref p0), some (.int p1), some (.long p2), none, some (.long x6), none, some (.long x7), none, some (.long x8), none, some (.int x9), some (.int x14), none, none]) (st' := [.int x14]) rfl ?_
        refine s_jn (κ := Int64 → Option (Int64)) (fun k18 => ∀ (x17 : Int64), Jd C 14 (QJ C oL (fun _ => S)) S 68 [some (.ref p0), some (.int p1), some (.long p2), none, some (.long x6), none, some (.long x7), none, some (.long x8), none, some (.int x9), some (.int x14), none, none] [.long x17] (k18 x17)) (fun x17 => ?_) (fun k18 h19 => ?_)
        · refine s_run X ok_X12_royaltyOf 34 4 (pc' := 74) (vs' := [some (.ref p0), some (.int p1), some (.long p2), none, some (.long x6), none, some (.long x7), none, some (.long x8), none, some (.int x9), some (.int x14), some (.long x17), none]) (st' := [.int (lg_cmp x17 p2)]) rfl ?_
          refine s_jn (κ := Int64 → Option (Int64)) (fun k21 => ∀ (x20 : Int64), Jd C 14 (QJ C oL (fun _ => S)) S 83 [some (.ref p0), some (.int p1), some (.long p2), none, some (.long x6), none, some (.long x7), none, some (.long x8), none, some (.int x9), some (.int x14), none, none] [.long x20] (k21 x20)) (fun x20 => ?_) (fun k21 h22 => ?_)
          · refine s_run X ok_X12_royaltyOf 41 4 (pc' := 90) (vs' := [some (.ref p0), some (.int p1), some (.long p2), none, some (.long x6), none, some (.long x7), none, some (.long x8), none, some (.int x9), some (.int x14), some (.long x20), none]) (st' := [.int (lg_cmp x20 x7)]) rfl ?_
            refine s_jn (κ := Int64 → Option (Int64)) (fun k24 => ∀ (x23 : Int64), Jd C 14 (QJ C oL (fun _ => S)) S 106 [some (.ref p0), some (.int p1), some (.long p2), none, some (.long x23), none, some (.long x7), none, some (.long x8), none, some (.int x9), some (.int x14), none, none] [] (k24 x23)) (fun x23 => ?_) (fun k24 h25 => ?_)
            · refine s_run X ok_X12_royaltyOf 53 1 (pc' := 108) (vs' := [some (.ref p0), some (.int p1), some (.long p2), none, some (.long x23), none, some (.long x7), none, some (.long x8), none, some (.int x9), some (.int x14), none, none]) (st' := [.int x14]) rfl ?_
              refine s_jn (κ := Int64 → Int64 → Option (Int64)) (fun k28 => ∀ (x26 : Int64) (x27 : Int64), Jd C 14 (QJ C oL (fun _ => S)) S 137 [some (.ref p0), some (.int p1), some (.long p2), none, some (.long x23), none, some (.long x26), none, some (.long x27), none, some (.int x9), none, none, none] [] (k28 x26 x27)) (fun x26 x27 => ?_) (fun k28 h29 => ?_)
              · refine s_run X ok_X12_royaltyOf 67 2 (pc' := 17) (vs' := [some (.ref p0), some (.int p1), some (.long p2), none, some (.long x23), none, some (.long x26), none, some (.long x27), none, some (.int (x9 + 1)), none, none, none]) (st' := []) rfl ?_
                exact h11 x23 x26 x27 (x9 + 1)
              · refine s_if_eq (tgt := 114) X (dk okd_X12_royaltyOf 9 rfl) (by decide) ?_ ?_
                · refine s_run X ok_X12_royaltyOf 55 5 (pc' := 120) (vs' := [some (.ref p0), some (.int p1), some (.long p2), none, some (.long x23), none, some (.long x7), none, some (.long x8), none, some (.int x9), some (.int x14), none, none]) (st' := [.int (3 + x9), .int p1, .ref p0]) rfl ?_
                  refine s_callV (b := p0) (As := [.int p1, .int (3 + x9)]) (rest := []) X E mv_X12_168 (c_X12_ofPlan S p0 p1 (3 + x9)) rfl (ta1 t0_) rfl (by decide) t0_ rfl rfl (Nat.le_of_ble_eq_true rfl) (Nat.le_of_ble_eq_true rfl) (Nat.le_of_ble_eq_true rfl) (dk okd_X12_royaltyOf 10 rfl) (st' := fun v30 => [.long v30]) (fun _ => rfl) (fun v30 => ?_)
                  refine s_run X ok_X12_royaltyOf 60 6 (pc' := 132) (vs' := [some (.ref p0), some (.int p1), some (.long p2), none, some (.long x23), none, some (.long v30), none, some (.long x8), none, some (.int x9), some (.int x14), none, none]) (st' := [.int (7 + x9), .int p1, .ref p0]) rfl ?_
                  refine s_callV (b := p0) (As := [.int p1, .int (7 + x9)]) (rest := []) X E mv_X12_168 (c_X12_ofPlan S p0 p1 (7 + x9)) rfl (ta1 t0_) rfl (by decide) t0_ rfl rfl (Nat.le_of_ble_eq_true rfl) (Nat.le_of_ble_eq_true rfl) (Nat.le_of_ble_eq_true rfl) (dk okd_X12_royaltyOf 11 rfl) (st' := fun v31 => [.long v31]) (fun _ => rfl) (fun v31 => ?_)
                  refine s_run X ok_X12_royaltyOf 66 1 (pc' := 137) (vs' := [some (.ref p0), some (.int p1), some (.long p2), none, some (.long x23), none, some (.long v30), none, some (.long v31), none, some (.int x9), some (.int x14), none, none]) (st' := []) rfl ?_
                  exact s_less [true, true, true, false, true, false, true, false, true, false, true, false, false, false] rfl (h29 v30 v31)
                · refine s_run X ok_X12_royaltyOf 54 1 (pc' := 137) (vs' := [some (.ref p0), some (.int p1), some (.long p2), none, some (.long x23), none, some (.long x7), none, some (.long x8), none, some (.int x9), some (.int x14), none, none]) (st' := []) rfl ?_
                  exact s_less [true, true, true, false, true, false, true, false, true, false, true, false, false, false] rfl (h29 x7 x8)
            · refine s_lif_le (tgt := 106) X (dk okd_X12_royaltyOf 8 rfl) (by decide) ?_ ?_
              · exact s_less [true, true, true, false, true, false, true, false, true, false, true, true, false, false] rfl (h25 x6)
              · refine s_run X ok_X12_royaltyOf 45 7 (pc' := 104) (vs' := [some (.ref p0), some (.int p1), some (.long p2), none, some (.long x6), none, some (.long x7), none, some (.long x8), none, some (.int x9), some (.int x14), some (.long x20), none]) (st' := [.long (x6 + ((x20 - x7) * x8))]) rfl ?_
                refine s_nmJ (fun v32 => ?_)
                refine s_run X ok_X12_royaltyOf 52 1 (pc' := 106) (vs' := [some (.ref p0), some (.int p1), some (.long p2), none, some (.long v32), none, some (.long x7), none, some (.long x8), none, some (.int x9), some (.int x14), some (.long x20), none]) (st' := []) rfl ?_
                exact s_less [true, true, true, false, true, false, true, false, true, false, true, true, false, false] rfl (h25 v32)
          · refine s_lif_ge (tgt := 82) X (dk okd_X12_royaltyOf 7 rfl) (by decide) ?_ ?_
            · refine s_run X ok_X12_royaltyOf 40 1 (pc' := 83) (vs' := [some (.ref p0), some (.int p1), some (.long p2), none, some (.long x6), none, some (.long x7), none, some (.long x8), none, some (.int x9), some (.int x14), some (.long x17), none]) (st' := [.long p2]) rfl ?_
              exact s_less [true, true, true, false, true, false, true, false, true, false, true, true, false, false] rfl (h22 p2)
            · refine s_run X ok_X12_royaltyOf 38 2 (pc' := 83) (vs' := [some (.ref p0), some (.int p1), some (.long p2), none, some (.long x6), none, some (.long x7), none, some (.long x8), none, some (.int x9), some (.int x14), some (.long x17), none]) (st' := [.long x17]) rfl ?_
              exact s_less [true, true, true, false, true, false, true, false, true, false, true, true, false, false] rfl (h22 x17)
        · refine s_if_eq (tgt := 59) X (dk okd_X12_royaltyOf 5 rfl) (by decide) ?_ ?_
          · refine s_run X ok_X12_royaltyOf 29 5 (pc' := 65) (vs' := [some (.ref p0), some (.int p1), some (.long p2), none, some (.long x6), none, some (.long x7), none, some (.long x8), none, some (.int x9), some (.int x14), none, none]) (st' := [.int (3 + x9), .int p1, .ref p0]) rfl ?_
            refine s_callV (b := p0) (As := [.int p1, .int (3 + x9)]) (rest := []) X E mv_X12_168 (c_X12_ofPlan S p0 p1 (3 + x9)) rfl (ta1 t0_) rfl (by decide) t0_ rfl rfl (Nat.le_of_ble_eq_true rfl) (Nat.le_of_ble_eq_true rfl) (Nat.le_of_ble_eq_true rfl) (dk okd_X12_royaltyOf 6 rfl) (st' := fun v33 => [.long v33]) (fun _ => rfl) (fun v33 => ?_)
            exact h19 v33
          · refine s_run X ok_X12_royaltyOf 27 2 (pc' := 68) (vs' := [some (.ref p0), some (.int p1), some (.long p2), none, some (.long x6), none, some (.long x7), none, some (.long x8), none, some (.int x9), some (.int x14), none, none]) (st' := [.long p2]) rfl ?_
            exact h19 p2
      · refine s_lif_ne (tgt := 47) X (dk okd_X12_royaltyOf 4 rfl) (by decide) ?_ ?_
        · refine s_run X ok_X12_royaltyOf 24 1 (pc' := 48) (vs' := [some (.ref p0), some (.int p1), some (.long p2), none, some (.long x6), none, some (.long x7), none, some (.long x8), none, some (.int x9), none, none, none]) (st' := [.int 0]) rfl ?_
          exact h16 0
        · refine s_run X ok_X12_royaltyOf 22 2 (pc' := 48) (vs' := [some (.ref p0), some (.int p1), some (.long p2), none, some (.long x6), none, some (.long x7), none, some (.long x8), none, some (.int x9), none, none, none]) (st' := [.int 1]) rfl ?_
          exact h16 1
def tab_X12_royalty : List En := [(0, 8, 0, 0), (1, 0, 0, 0), (5, 8, 0, 0), (6, 8, 0, 0), (7, 4, 1, 0), (14, 0, 0, 1), (15, 41, 19, 0), (18, 0, 0, 0), (19, 0, 0, 1), (26, 8, 0, 0), (27, 6, 2, 0), (28, 3, 0, 0), (38, 0, 0, 1), (39, 41, 43, 0), (42, 0, 0, 0), (43, 0, 0, 2), (50, 3, 0, 0), (51, 41, 60, 0), (54, 8, 0, 0), (55, 4, 1, 0), (56, 6, 2, 0)]
theorem ok_X12_royalty : tab_X12_royalty.all (okE cX12_royalty) = true := by decide +kernel
def ed_X12_royalty : List (Nat × Instr × Nat) := [(2, .putfield 50, 3), (8, .invokevirtual 171, 3), (11, .ifCond .ne 7, 3), (20, .invokevirtual 81, 3), (23, .ifCond .ne 27, 3), (29, .ldc2_w 174, 3), (32, .invokestatic 53, 3), (35, .ifCond .ne 7, 3), (44, .invokevirtual 81, 3), (47, .ifCond .eq 7, 3), (57, .invokevirtual 176, 3), (60, .lreturn, 1)]
theorem okd_X12_royalty : ed_X12_royalty.all (okD cX12_royalty) = true := by decide +kernel
def f_X12_royalty (S : St) (p0 : Nat) (p1 : Int32) (p2 : Int64) : Option (Int64 × St) := lt (uI S p0 2 0) fun (S1 : St) => cl (f_X12_isPlan S1 p0 p1) fun (v2 : Int32) => jn (κ := Int32 → Option (Int64 × St)) (fun x3 => cl (f_X12_throwsIf S1 p0 x3 1) fun (o6 : Int32 × St) => jn (κ := St → Option (Int64 × St)) (fun S7 => some (0, S7)) fun k8 => if o6.1 = 0 then (cl (f_X12_inRange o6.2 p2 0 1000000000) fun (v10 : Int32) => jn (κ := Int32 → Option (Int64 × St)) (fun x11 => cl (f_X12_throwsIf o6.2 p0 x11 2) fun (o14 : Int32 × St) => if o14.1 = 0 then (cl (f_X12_royaltyOf o14.2 p0 p1 p2) fun (v15 : Int64) => some (v15, o14.2)) else (k8 o14.2)) fun k12 => if v10 = 0 then (k12 1) else (k12 0)) else (k8 o6.2)) fun k4 => if v2 = 0 then (k4 1) else (k4 0)
set_option maxHeartbeats 4000000 in
set_option maxRecDepth 100000 in
theorem c_X12_royalty (S : St) (p0 : Nat) (p1 : Int32) (p2 : Int64) : Ct yX12_royalty cX12_royalty 4 (some .long) 2 55 (fun _ => [.ref p0, .int p1, .long p2]) [(p0, 11)] S (f_X12_royalty S p0 p1 p2) oLS sL := by
  refine Ct_of RX12 rfl (by decide) (fun _ => Nat.le_of_ble_eq_true rfl) 0 (vs := fun _ => [some (.ref p0), some (.int p1), some (.long p2), none]) (fun _ => rfl) (fun C X E hr ht => ?_)
  have t0_ : tT C p0 11 := ht (p0, 11) (by simp)
  show Jd C 4 (QJ C oLS sL) S 0 [some (.ref p0), some (.int p1), some (.long p2), none] [] (f_X12_royalty S p0 p1 p2)
  unfold f_X12_royalty
  refine s_run X ok_X12_royalty 0 2 (pc' := 2) (vs' := [some (.ref p0), some (.int p1), some (.long p2), none]) (st' := [.int 0, .ref p0]) rfl ?_
  refine s_putI X fp_X12_50 t0_ (dk okd_X12_royalty 0 rfl) (fun S1 => ?_)
  refine s_run X ok_X12_royalty 2 3 (pc' := 8) (vs' := [some (.ref p0), some (.int p1), some (.long p2), none]) (st' := [.int p1, .ref p0, .ref p0]) rfl ?_
  refine s_callV (b := p0) (As := [.int p1]) (rest := [.ref p0]) X E mv_X12_171 (c_X12_isPlan S1 p0 p1) rfl (ta1 t0_) rfl (by decide) t0_ rfl rfl (Nat.le_of_ble_eq_true rfl) (Nat.le_of_ble_eq_true rfl) (Nat.le_of_ble_eq_true rfl) (dk okd_X12_royalty 1 rfl) (st' := fun v2 => [.int v2, .ref p0]) (fun _ => rfl) (fun v2 => ?_)
  refine s_jn (κ := Int32 → Option (Int64 × St)) (fun k4 => ∀ (x3 : Int32), Jd C 4 (QJ C oLS sL) S1 19 [some (.ref p0), some (.int p1), some (.long p2), none] [.int x3, .ref p0] (k4 x3)) (fun x3 => ?_) (fun k4 h5 => ?_)
  · refine s_run X ok_X12_royalty 8 1 (pc' := 20) (vs' := [some (.ref p0), some (.int p1), some (.long p2), none]) (st' := [.int 1, .int x3, .ref p0]) rfl ?_
    refine s_callV (b := p0) (As := [.int x3, .int 1]) (rest := []) X E mv_X12_81 (c_X12_throwsIf S1 p0 x3 1) rfl (ta1 t0_) rfl (by decide) t0_ rfl rfl (Nat.le_of_ble_eq_true rfl) (Nat.le_of_ble_eq_true rfl) (Nat.le_of_ble_eq_true rfl) (dk okd_X12_royalty 3 rfl) (st' := fun o6 => [.int o6.1]) (fun _ => rfl) (fun o6 => ?_)
    refine s_jn (κ := St → Option (Int64 × St)) (fun k8 => ∀ (S7 : St), Jd C 4 (QJ C oLS sL) S7 50 [none, none, none, none] [] (k8 S7)) (fun S7 => ?_) (fun k8 h9 => ?_)
    · refine s_run X ok_X12_royalty 16 2 (pc' := 60) (vs' := [none, none, none, none]) (st' := [.long 0]) rfl ?_
      exact s_lret X hr (dk okd_X12_royalty 11 rfl) rfl rfl
    · refine s_if_ne (tgt := 50) X (dk okd_X12_royalty 4 rfl) (by decide) ?_ ?_
      · exact s_less [false, false, false, false] rfl (h9 o6.2)
      · refine s_run X ok_X12_royalty 9 3 (pc' := 29) (vs' := [some (.ref p0), some (.int p1), some (.long p2), none]) (st' := [.long 0, .long p2, .ref p0]) rfl ?_
        refine s_ldc2 X cl_X12_174 (dk okd_X12_royalty 5 rfl) ?_
        refine s_callS (As := [.long p2, .long 0, .long 1000000000]) (rest := [.ref p0]) X E ms_X12_53 (c_X12_inRange o6.2 p2 0 1000000000) rfl (ta0) rfl rfl (Nat.le_of_ble_eq_true rfl) (Nat.le_of_ble_eq_true rfl) (Nat.le_of_ble_eq_true rfl) (dk okd_X12_royalty 6 rfl) (st' := fun v10 => [.int v10, .ref p0]) (fun _ => rfl) (fun v10 => ?_)
        refine s_jn (κ := Int32 → Option (Int64 × St)) (fun k12 => ∀ (x11 : Int32), Jd C 4 (QJ C oLS sL) o6.2 43 [some (.ref p0), some (.int p1), some (.long p2), none] [.int x11, .ref p0] (k12 x11)) (fun x11 => ?_) (fun k12 h13 => ?_)
        · refine s_run X ok_X12_royalty 15 1 (pc' := 44) (vs' := [some (.ref p0), some (.int p1), some (.long p2), none]) (st' := [.int 2, .int x11, .ref p0]) rfl ?_
          refine s_callV (b := p0) (As := [.int x11, .int 2]) (rest := []) X E mv_X12_81 (c_X12_throwsIf o6.2 p0 x11 2) rfl (ta1 t0_) rfl (by decide) t0_ rfl rfl (Nat.le_of_ble_eq_true rfl) (Nat.le_of_ble_eq_true rfl) (Nat.le_of_ble_eq_true rfl) (dk okd_X12_royalty 8 rfl) (st' := fun o14 => [.int o14.1]) (fun _ => rfl) (fun o14 => ?_)
          refine s_if_eq (tgt := 54) X (dk okd_X12_royalty 9 rfl) (by decide) ?_ ?_
          · refine s_run X ok_X12_royalty 18 3 (pc' := 57) (vs' := [some (.ref p0), some (.int p1), some (.long p2), none]) (st' := [.long p2, .int p1, .ref p0]) rfl ?_
            refine s_callV (b := p0) (As := [.int p1, .long p2]) (rest := []) X E mv_X12_176 (c_X12_royaltyOf o14.2 p0 p1 p2) rfl (ta1 t0_) rfl (by decide) t0_ rfl rfl (Nat.le_of_ble_eq_true rfl) (Nat.le_of_ble_eq_true rfl) (Nat.le_of_ble_eq_true rfl) (dk okd_X12_royalty 10 rfl) (st' := fun v15 => [.long v15]) (fun _ => rfl) (fun v15 => ?_)
            exact s_lret X hr (dk okd_X12_royalty 11 rfl) rfl rfl
          · exact s_less [false, false, false, false] rfl (h9 o14.2)
        · refine s_if_ne (tgt := 42) X (dk okd_X12_royalty 7 rfl) (by decide) ?_ ?_
          · refine s_run X ok_X12_royalty 14 1 (pc' := 43) (vs' := [some (.ref p0), some (.int p1), some (.long p2), none]) (st' := [.int 0, .ref p0]) rfl ?_
            exact h13 0
          · refine s_run X ok_X12_royalty 12 2 (pc' := 43) (vs' := [some (.ref p0), some (.int p1), some (.long p2), none]) (st' := [.int 1, .ref p0]) rfl ?_
            exact h13 1
  · refine s_if_ne (tgt := 18) X (dk okd_X12_royalty 2 rfl) (by decide) ?_ ?_
    · refine s_run X ok_X12_royalty 7 1 (pc' := 19) (vs' := [some (.ref p0), some (.int p1), some (.long p2), none]) (st' := [.int 0, .ref p0]) rfl ?_
      exact h5 0
    · refine s_run X ok_X12_royalty 5 2 (pc' := 19) (vs' := [some (.ref p0), some (.int p1), some (.long p2), none]) (st' := [.int 1, .ref p0]) rfl ?_
      exact h5 1
def tab_X12_planNow : List En := [(0, 8, 0, 0), (1, 4, 1, 0), (2, 0, 0, 1), (6, 32, 0, 0)]
theorem ok_X12_planNow : tab_X12_planNow.all (okE cX12_planNow) = true := by decide +kernel
def ed_X12_planNow : List (Nat × Instr × Nat) := [(3, .invokevirtual 63, 3), (7, .ireturn, 1)]
theorem okd_X12_planNow : ed_X12_planNow.all (okD cX12_planNow) = true := by decide +kernel
def f_X12_planNow (S : St) (p0 : Nat) (p1 : Int32) : Option (Int32) := cl (f_X12_of S p0 p1 1) fun (v1 : Int64) => some (Int64.toInt32 v1)
set_option maxHeartbeats 4000000 in
set_option maxRecDepth 100000 in
theorem c_X12_planNow (S : St) (p0 : Nat) (p1 : Int32) : Ct yX12_planNow cX12_planNow 2 (some .int) 1 22 (fun _ => [.ref p0, .int p1]) [(p0, 11)] S (f_X12_planNow S p0 p1) oI (fun _ => S) := by
  refine Ct_of RX12 rfl (by decide) (fun _ => Nat.le_of_ble_eq_true rfl) 0 (vs := fun _ => [some (.ref p0), some (.int p1)]) (fun _ => rfl) (fun C X E hr ht => ?_)
  have t0_ : tT C p0 11 := ht (p0, 11) (by simp)
  show Jd C 2 (QJ C oI (fun _ => S)) S 0 [some (.ref p0), some (.int p1)] [] (f_X12_planNow S p0 p1)
  unfold f_X12_planNow
  refine s_run X ok_X12_planNow 0 3 (pc' := 3) (vs' := [some (.ref p0), some (.int p1)]) (st' := [.int 1, .int p1, .ref p0]) rfl ?_
  refine s_callV (b := p0) (As := [.int p1, .int 1]) (rest := []) X E mv_X12_63 (c_X12_of S p0 p1 1) rfl (ta1 t0_) rfl (by decide) t0_ rfl rfl (Nat.le_of_ble_eq_true rfl) (Nat.le_of_ble_eq_true rfl) (Nat.le_of_ble_eq_true rfl) (dk okd_X12_planNow 0 rfl) (st' := fun v1 => [.long v1]) (fun _ => rfl) (fun v1 => ?_)
  refine s_run X ok_X12_planNow 3 1 (pc' := 7) (vs' := [some (.ref p0), some (.int p1)]) (st' := [.int (Int64.toInt32 v1)]) rfl ?_
  exact s_iret X hr (dk okd_X12_planNow 1 rfl) rfl rfl
def tab_X12_planOf : List En := [(0, 8, 0, 0), (1, 0, 0, 0), (5, 8, 0, 0), (6, 8, 0, 0), (7, 4, 1, 0), (14, 0, 0, 1), (15, 41, 19, 0), (18, 0, 0, 0), (19, 0, 0, 1), (26, 0, 0, 0), (27, 41, 35, 0), (30, 8, 0, 0), (31, 4, 1, 0)]
theorem ok_X12_planOf : tab_X12_planOf.all (okE cX12_planOf) = true := by decide +kernel
def ed_X12_planOf : List (Nat × Instr × Nat) := [(2, .putfield 50, 3), (8, .invokevirtual 85, 3), (11, .ifCond .ne 7, 3), (20, .invokevirtual 81, 3), (23, .ifCond .eq 7, 3), (32, .invokevirtual 180, 3), (35, .ireturn, 1)]
theorem okd_X12_planOf : ed_X12_planOf.all (okD cX12_planOf) = true := by decide +kernel
def f_X12_planOf (S : St) (p0 : Nat) (p1 : Int32) : Option (Int32 × St) := lt (uI S p0 2 0) fun (S1 : St) => cl (f_X12_isFranchisee S1 p0 p1) fun (v2 : Int32) => jn (κ := Int32 → Option (Int32 × St)) (fun x3 => cl (f_X12_throwsIf S1 p0 x3 1) fun (o6 : Int32 × St) => if o6.1 = 0 then (cl (f_X12_planNow o6.2 p0 p1) fun (v7 : Int32) => some (v7, o6.2)) else (some (0, o6.2))) fun k4 => if v2 = 0 then (k4 1) else (k4 0)
set_option maxHeartbeats 4000000 in
set_option maxRecDepth 100000 in
theorem c_X12_planOf (S : St) (p0 : Nat) (p1 : Int32) : Ct yX12_planOf cX12_planOf 2 (some .int) 2 46 (fun _ => [.ref p0, .int p1]) [(p0, 11)] S (f_X12_planOf S p0 p1) oIS sS := by
  refine Ct_of RX12 rfl (by decide) (fun _ => Nat.le_of_ble_eq_true rfl) 0 (vs := fun _ => [some (.ref p0), some (.int p1)]) (fun _ => rfl) (fun C X E hr ht => ?_)
  have t0_ : tT C p0 11 := ht (p0, 11) (by simp)
  show Jd C 2 (QJ C oIS sS) S 0 [some (.ref p0), some (.int p1)] [] (f_X12_planOf S p0 p1)
  unfold f_X12_planOf
  refine s_run X ok_X12_planOf 0 2 (pc' := 2) (vs' := [some (.ref p0), some (.int p1)]) (st' := [.int 0, .ref p0]) rfl ?_
  refine s_putI X fp_X12_50 t0_ (dk okd_X12_planOf 0 rfl) (fun S1 => ?_)
  refine s_run X ok_X12_planOf 2 3 (pc' := 8) (vs' := [some (.ref p0), some (.int p1)]) (st' := [.int p1, .ref p0, .ref p0]) rfl ?_
  refine s_callV (b := p0) (As := [.int p1]) (rest := [.ref p0]) X E mv_X12_85 (c_X12_isFranchisee S1 p0 p1) rfl (ta1 t0_) rfl (by decide) t0_ rfl rfl (Nat.le_of_ble_eq_true rfl) (Nat.le_of_ble_eq_true rfl) (Nat.le_of_ble_eq_true rfl) (dk okd_X12_planOf 1 rfl) (st' := fun v2 => [.int v2, .ref p0]) (fun _ => rfl) (fun v2 => ?_)
  refine s_jn (κ := Int32 → Option (Int32 × St)) (fun k4 => ∀ (x3 : Int32), Jd C 2 (QJ C oIS sS) S1 19 [some (.ref p0), some (.int p1)] [.int x3, .ref p0] (k4 x3)) (fun x3 => ?_) (fun k4 h5 => ?_)
  · refine s_run X ok_X12_planOf 8 1 (pc' := 20) (vs' := [some (.ref p0), some (.int p1)]) (st' := [.int 1, .int x3, .ref p0]) rfl ?_
    refine s_callV (b := p0) (As := [.int x3, .int 1]) (rest := []) X E mv_X12_81 (c_X12_throwsIf S1 p0 x3 1) rfl (ta1 t0_) rfl (by decide) t0_ rfl rfl (Nat.le_of_ble_eq_true rfl) (Nat.le_of_ble_eq_true rfl) (Nat.le_of_ble_eq_true rfl) (dk okd_X12_planOf 3 rfl) (st' := fun o6 => [.int o6.1]) (fun _ => rfl) (fun o6 => ?_)
    refine s_if_eq (tgt := 30) X (dk okd_X12_planOf 4 rfl) (by decide) ?_ ?_
    · refine s_run X ok_X12_planOf 11 2 (pc' := 32) (vs' := [some (.ref p0), some (.int p1)]) (st' := [.int p1, .ref p0]) rfl ?_
      refine s_callV (b := p0) (As := [.int p1]) (rest := []) X E mv_X12_180 (c_X12_planNow o6.2 p0 p1) rfl (ta1 t0_) rfl (by decide) t0_ rfl rfl (Nat.le_of_ble_eq_true rfl) (Nat.le_of_ble_eq_true rfl) (Nat.le_of_ble_eq_true rfl) (dk okd_X12_planOf 5 rfl) (st' := fun v7 => [.int v7]) (fun _ => rfl) (fun v7 => ?_)
      exact s_iret X hr (dk okd_X12_planOf 6 rfl) rfl rfl
    · refine s_run X ok_X12_planOf 9 2 (pc' := 35) (vs' := [some (.ref p0), some (.int p1)]) (st' := [.int 0]) rfl ?_
      exact s_iret X hr (dk okd_X12_planOf 6 rfl) rfl rfl
  · refine s_if_ne (tgt := 18) X (dk okd_X12_planOf 2 rfl) (by decide) ?_ ?_
    · refine s_run X ok_X12_planOf 7 1 (pc' := 19) (vs' := [some (.ref p0), some (.int p1)]) (st' := [.int 0, .ref p0]) rfl ?_
      exact h5 0
    · refine s_run X ok_X12_planOf 5 2 (pc' := 19) (vs' := [some (.ref p0), some (.int p1)]) (st' := [.int 1, .ref p0]) rfl ?_
      exact h5 1
def tab_X12_setPlan : List En := [(0, 8, 0, 0), (1, 0, 0, 0), (5, 8, 0, 0), (6, 8, 0, 0), (7, 4, 1, 0), (14, 8, 0, 0), (15, 4, 2, 0), (22, 0, 0, 1), (23, 41, 27, 0), (26, 0, 0, 0), (27, 0, 0, 1), (34, 0, 0, 0), (36, 8, 0, 0), (37, 4, 1, 0), (41, 10, 3, 0), (42, 8, 0, 0), (43, 4, 1, 0), (44, 0, 0, 1), (45, 4, 2, 0), (46, 31, 0, 0), (50, 4, 3, 0)]
theorem ok_X12_setPlan : tab_X12_setPlan.all (okE cX12_setPlan) = true := by decide +kernel
def ed_X12_setPlan : List (Nat × Instr × Nat) := [(2, .putfield 50, 3), (8, .invokevirtual 85, 3), (11, .ifCond .eq 11, 3), (16, .invokevirtual 171, 3), (19, .ifCond .ne 7, 3), (28, .invokevirtual 81, 3), (31, .ifCond .eq 5, 3), (35, .ireturn, 1), (38, .invokevirtual 180, 3), (47, .invokevirtual 183, 3), (51, .ireturn, 1)]
theorem okd_X12_setPlan : ed_X12_setPlan.all (okD cX12_setPlan) = true := by decide +kernel
def f_X12_setPlan (S : St) (p0 : Nat) (p1 : Int32) (p2 : Int32) : Option (Int32 × St) := lt (uI S p0 2 0) fun (S1 : St) => cl (f_X12_isFranchisee S1 p0 p1) fun (v2 : Int32) => jn (κ := Int32 → Option (Int32 × St)) (fun x3 => cl (f_X12_throwsIf S1 p0 x3 1) fun (o6 : Int32 × St) => if o6.1 = 0 then (cl (f_X12_planNow o6.2 p0 p1) fun (v7 : Int32) => cl (f_X12_set o6.2 p0 p1 1 (Int32.toInt64 p2)) fun (S8 : St) => some (v7, S8)) else (some (0, o6.2))) fun k4 => jn (κ := Option (Int32 × St)) (k4 1) fun k9 => if v2 = 0 then (k9) else (cl (f_X12_isPlan S1 p0 p2) fun (v11 : Int32) => if v11 = 0 then (k9) else (k4 0))
set_option maxHeartbeats 4000000 in
set_option maxRecDepth 100000 in
theorem c_X12_setPlan (S : St) (p0 : Nat) (p1 : Int32) (p2 : Int32) : Ct yX12_setPlan cX12_setPlan 4 (some .int) 2 46 (fun _ => [.ref p0, .int p1, .int p2]) [(p0, 11)] S (f_X12_setPlan S p0 p1 p2) oIS sS := by
  refine Ct_of RX12 rfl (by decide) (fun _ => Nat.le_of_ble_eq_true rfl) 1 (vs := fun _ => [some (.ref p0), some (.int p1), some (.int p2), none]) (fun _ => rfl) (fun C X E hr ht => ?_)
  have t0_ : tT C p0 11 := ht (p0, 11) (by simp)
  show Jd C 4 (QJ C oIS sS) S 0 [some (.ref p0), some (.int p1), some (.int p2), none] [] (f_X12_setPlan S p0 p1 p2)
  unfold f_X12_setPlan
  refine s_run X ok_X12_setPlan 0 2 (pc' := 2) (vs' := [some (.ref p0), some (.int p1), some (.int p2), none]) (st' := [.int 0, .ref p0]) rfl ?_
  refine s_putI X fp_X12_50 t0_ (dk okd_X12_setPlan 0 rfl) (fun S1 => ?_)
  refine s_run X ok_X12_setPlan 2 3 (pc' := 8) (vs' := [some (.ref p0), some (.int p1), some (.int p2), none]) (st' := [.int p1, .ref p0, .ref p0]) rfl ?_
  refine s_callV (b := p0) (As := [.int p1]) (rest := [.ref p0]) X E mv_X12_85 (c_X12_isFranchisee S1 p0 p1) rfl (ta1 t0_) rfl (by decide) t0_ rfl rfl (Nat.le_of_ble_eq_true rfl) (Nat.le_of_ble_eq_true rfl) (Nat.le_of_ble_eq_true rfl) (dk okd_X12_setPlan 1 rfl) (st' := fun v2 => [.int v2, .ref p0]) (fun _ => rfl) (fun v2 => ?_)
  refine s_jn (κ := Int32 → Option (Int32 × St)) (fun k4 => ∀ (x3 : Int32), Jd C 4 (QJ C oIS sS) S1 27 [some (.ref p0), some (.int p1), some (.int p2), none] [.int x3, .ref p0] (k4 x3)) (fun x3 => ?_) (fun k4 h5 => ?_)
  · refine s_run X ok_X12_setPlan 10 1 (pc' := 28) (vs' := [some (.ref p0), some (.int p1), some (.int p2), none]) (st' := [.int 1, .int x3, .ref p0]) rfl ?_
    refine s_callV (b := p0) (As := [.int x3, .int 1]) (rest := []) X E mv_X12_81 (c_X12_throwsIf S1 p0 x3 1) rfl (ta1 t0_) rfl (by decide) t0_ rfl rfl (Nat.le_of_ble_eq_true rfl) (Nat.le_of_ble_eq_true rfl) (Nat.le_of_ble_eq_true rfl) (dk okd_X12_setPlan 5 rfl) (st' := fun o6 => [.int o6.1]) (fun _ => rfl) (fun o6 => ?_)
    refine s_if_eq (tgt := 36) X (dk okd_X12_setPlan 6 rfl) (by decide) ?_ ?_
    · refine s_run X ok_X12_setPlan 12 2 (pc' := 38) (vs' := [some (.ref p0), some (.int p1), some (.int p2), none]) (st' := [.int p1, .ref p0]) rfl ?_
      refine s_callV (b := p0) (As := [.int p1]) (rest := []) X E mv_X12_180 (c_X12_planNow o6.2 p0 p1) rfl (ta1 t0_) rfl (by decide) t0_ rfl rfl (Nat.le_of_ble_eq_true rfl) (Nat.le_of_ble_eq_true rfl) (Nat.le_of_ble_eq_true rfl) (dk okd_X12_setPlan 8 rfl) (st' := fun v7 => [.int v7]) (fun _ => rfl) (fun v7 => ?_)
      refine s_run X ok_X12_setPlan 14 6 (pc' := 47) (vs' := [some (.ref p0), some (.int p1), some (.int p2), some (.int v7)]) (st' := [.long (Int32.toInt64 p2), .int 1, .int p1, .ref p0]) rfl ?_
      refine s_callV (b := p0) (As := [.int p1, .int 1, .long (Int32.toInt64 p2)]) (rest := []) X E mv_X12_183 (c_X12_set o6.2 p0 p1 1 (Int32.toInt64 p2)) rfl (ta1 t0_) rfl (by decide) t0_ rfl rfl (Nat.le_of_ble_eq_true rfl) (Nat.le_of_ble_eq_true rfl) (Nat.le_of_ble_eq_true rfl) (dk okd_X12_setPlan 9 rfl) (st' := fun S8 => []) (fun _ => rfl) (fun S8 => ?_)
      refine s_run X ok_X12_setPlan 20 1 (pc' := 51) (vs' := [some (.ref p0), some (.int p1), some (.int p2), some (.int v7)]) (st' := [.int v7]) rfl ?_
      exact s_iret X hr (dk okd_X12_setPlan 10 rfl) rfl rfl
    · refine s_run X ok_X12_setPlan 11 1 (pc' := 35) (vs' := [some (.ref p0), some (.int p1), some (.int p2), none]) (st' := [.int 0]) rfl ?_
      exact s_iret X hr (dk okd_X12_setPlan 7 rfl) rfl rfl
  · refine s_jn (κ := Option (Int32 × St)) (fun k9 => Jd C 4 (QJ C oIS sS) S1 22 [some (.ref p0), some (.int p1), some (.int p2), none] [.ref p0] k9) ?_ (fun k9 h10 => ?_)
    · refine s_run X ok_X12_setPlan 7 2 (pc' := 27) (vs' := [some (.ref p0), some (.int p1), some (.int p2), none]) (st' := [.int 1, .ref p0]) rfl ?_
      exact h5 1
    · refine s_if_eq (tgt := 22) X (dk okd_X12_setPlan 2 rfl) (by decide) ?_ ?_
      · exact h10
      · refine s_run X ok_X12_setPlan 5 2 (pc' := 16) (vs' := [some (.ref p0), some (.int p1), some (.int p2), none]) (st' := [.int p2, .ref p0, .ref p0]) rfl ?_
        refine s_callV (b := p0) (As := [.int p2]) (rest := [.ref p0]) X E mv_X12_171 (c_X12_isPlan S1 p0 p2) rfl (ta1 t0_) rfl (by decide) t0_ rfl rfl (Nat.le_of_ble_eq_true rfl) (Nat.le_of_ble_eq_true rfl) (Nat.le_of_ble_eq_true rfl) (dk okd_X12_setPlan 3 rfl) (st' := fun v11 => [.int v11, .ref p0]) (fun _ => rfl) (fun v11 => ?_)
        refine s_if_ne (tgt := 26) X (dk okd_X12_setPlan 4 rfl) (by decide) ?_ ?_
        · refine s_run X ok_X12_setPlan 9 1 (pc' := 27) (vs' := [some (.ref p0), some (.int p1), some (.int p2), none]) (st' := [.int 0, .ref p0]) rfl ?_
          exact h5 0
        · exact h10
def tab_X12_salesNow : List En := [(0, 3, 0, 0), (1, 12, 3, 0), (2, 0, 0, 0), (3, 11, 5, 0), (5, 5, 5, 0), (7, 31, 0, 0), (8, 8, 0, 0), (12, 0, 0, 3), (14, 40, 0, 0), (18, 8, 0, 0), (19, 5, 5, 0), (21, 0, 0, 0), (25, 4, 1, 0), (26, 31, 0, 0), (27, 40, 0, 0), (31, 6, 3, 0), (32, 8, 0, 0), (33, 5, 5, 0), (35, 0, 0, 3), (39, 4, 2, 0), (40, 31, 0, 0), (41, 25, 0, 0), (46, 23, 0, 0), (47, 12, 3, 0), (48, 16, 5, 1), (51, 41, 5, 0), (54, 6, 3, 0)]
theorem ok_X12_salesNow : tab_X12_salesNow.all (okE cX12_salesNow) = true := by decide +kernel
def ed_X12_salesNow : List (Nat × Instr × Nat) := [(9, .getfield 9, 3), (13, .laload, 1), (15, .ifCond .ge 39, 3), (22, .invokevirtual 113, 3), (28, .ifCond .ne 20, 3), (36, .invokevirtual 113, 3), (42, .ldc2_w 144, 3), (45, .ldiv, 1), (55, .lreturn, 1)]
theorem okd_X12_salesNow : ed_X12_salesNow.all (okD cX12_salesNow) = true := by decide +kernel
def f_X12_salesNow (S : St) (p0 : Nat) (p1 : Int32) (p2 : Int32) : Option (Int64) := jn (κ := Int64 → Option (Int64)) (fun x1 => some x1) fun k2 => lp (κ := Int64 → Int32 → Option (Int64)) (fun _ _ => none) (fun k6 x4 x5 => lt (gR S p0 0) fun (a8 : Nat) => ldJ S a8 3 fun (v10 : Int64) => if v10 ≤ (Int32.toInt64 x5) then (k2 x4) else (cl (f_X12_ofOutlet S p0 x5 0) fun (v11 : Int64) => jn (κ := Int64 → Option (Int64)) (fun x12 => k6 x12 (x5 + 1)) fun k13 => if v11 = (Int32.toInt64 p1) then (cl (f_X12_ofOutlet S p0 x5 3) fun (v15 : Int64) => lt (x4 + ((v15 * (Int32.toInt64 p2)) / 100)) fun (v16 : Int64) => k13 v16) else (k13 x4))) FU 0 0
set_option maxHeartbeats 4000000 in
set_option maxRecDepth 100000 in
theorem c_X12_salesNow (S : St) (p0 : Nat) (p1 : Int32) (p2 : Int32) : Ct yX12_salesNow cX12_salesNow 6 (some .long) 1 22 (fun _ => [.ref p0, .int p1, .int p2]) [(p0, 11)] S (f_X12_salesNow S p0 p1 p2) oL (fun _ => S) := by
  refine Ct_of RX12 rfl (by decide) (fun _ => Nat.le_of_ble_eq_true rfl) 3 (vs := fun _ => [some (.ref p0), some (.int p1), some (.int p2), none, none, none]) (fun _ => rfl) (fun C X E hr ht => ?_)
  have t0_ : tT C p0 11 := ht (p0, 11) (by simp)
  show Jd C 6 (QJ C oL (fun _ => S)) S 0 [some (.ref p0), some (.int p1), some (.int p2), none, none, none] [] (f_X12_salesNow S p0 p1 p2)
  unfold f_X12_salesNow
  refine s_run X ok_X12_salesNow 0 4 (pc' := 5) (vs' := [some (.ref p0), some (.int p1), some (.int p2), some (.long 0), none, some (.int 0)]) (st' := []) rfl ?_
  refine s_jn (κ := Int64 → Option (Int64)) (fun k2 => ∀ (x1 : Int64), Jd C 6 (QJ C oL (fun _ => S)) S 54 [none, none, none, some (.long x1), none, none] [] (k2 x1)) (fun x1 => ?_) (fun k2 h3 => ?_)
  · refine s_run X ok_X12_salesNow 26 1 (pc' := 55) (vs' := [none, none, none, some (.long x1), none, none]) (st' := [.long x1]) rfl ?_
    exact s_lret X hr (dk okd_X12_salesNow 8 rfl) rfl rfl
  · refine s_lp (κ := Int64 → Int32 → Option (Int64)) (fun k6 => ∀ (x4 : Int64) (x5 : Int32), Jd C 6 (QJ C oL (fun _ => S)) S 5 [some (.ref p0), some (.int p1), some (.int p2), some (.long x4), none, some (.int x5)] [] (k6 x4 x5)) (fun _ _ => s_none) (fun k6 h7 x4 x5 => ?_) FU 0 0
    refine s_run X ok_X12_salesNow 4 3 (pc' := 9) (vs' := [some (.ref p0), some (.int p1), some (.int p2), some (.long x4), none, some (.int x5)]) (st' := [.ref p0, .long (Int32.toInt64 x5)]) rfl ?_
    refine s_getR X fl_X12_9 t0_ (dk okd_X12_salesNow 0 rfl) (fun a8 (t9 : tT C a8 14) => ?_)
    refine s_run X ok_X12_salesNow 7 1 (pc' := 13) (vs' := [some (.ref p0), some (.int p1), some (.int p2), some (.long x4), none, some (.int x5)]) (st' := [.int 3, .ref a8, .long (Int32.toInt64 x5)]) rfl ?_
    refine s_lald X t9 (dk okd_X12_salesNow 1 rfl) (fun v10 => ?_)
    refine s_run X ok_X12_salesNow 8 1 (pc' := 15) (vs' := [some (.ref p0), some (.int p1), some (.int p2), some (.long x4), none, some (.int x5)]) (st' := [.int (lg_cmp (Int32.toInt64 x5) v10)]) rfl ?_
    refine s_lif_ge (tgt := 54) X (dk okd_X12_salesNow 2 rfl) (by decide) ?_ ?_
    · exact s_less [false, false, false, true, false, false] rfl (h3 x4)
    · refine s_run X ok_X12_salesNow 9 3 (pc' := 22) (vs' := [some (.ref p0), some (.int p1), some (.int p2), some (.long x4), none, some (.int x5)]) (st' := [.int 0, .int x5, .ref p0]) rfl ?_
      refine s_callV (b := p0) (As := [.int x5, .int 0]) (rest := []) X E mv_X12_113 (c_X12_ofOutlet S p0 x5 0) rfl (ta1 t0_) rfl (by decide) t0_ rfl rfl (Nat.le_of_ble_eq_true rfl) (Nat.le_of_ble_eq_true rfl) (Nat.le_of_ble_eq_true rfl) (dk okd_X12_salesNow 3 rfl) (st' := fun v11 => [.long v11]) (fun _ => rfl) (fun v11 => ?_)
      refine s_run X ok_X12_salesNow 12 3 (pc' := 28) (vs' := [some (.ref p0), some (.int p1), some (.int p2), some (.long x4), none, some (.int x5)]) (st' := [.int (lg_cmp v11 (Int32.toInt64 p1))]) rfl ?_
      refine s_jn (κ := Int64 → Option (Int64)) (fun k13 => ∀ (x12 : Int64), Jd C 6 (QJ C oL (fun _ => S)) S 48 [some (.ref p0), some (.int p1), some (.int p2), some (.long x12), none, some (.int x5)] [] (k13 x12)) (fun x12 => ?_) (fun k13 h14 => ?_)
      · refine s_run X ok_X12_salesNow 24 2 (pc' := 5) (vs' := [some (.ref p0), some (.int p1), some (.int p2), some (.long x12), none, some (.int (x5 + 1))]) (st' := []) rfl ?_
        exact h7 x12 (x5 + 1)
      · refine s_lif_ne (tgt := 48) X (dk okd_X12_salesNow 4 rfl) (by decide) ?_ ?_
        · exact h14 x4
        · refine s_run X ok_X12_salesNow 15 4 (pc' := 36) (vs' := [some (.ref p0), some (.int p1), some (.int p2), some (.long x4), none, some (.int x5)]) (st' := [.int 3, .int x5, .ref p0, .long x4]) rfl ?_
          refine s_callV (b := p0) (As := [.int x5, .int 3]) (rest := [.long x4]) X E mv_X12_113 (c_X12_ofOutlet S p0 x5 3) rfl (ta1 t0_) rfl (by decide) t0_ rfl rfl (Nat.le_of_ble_eq_true rfl) (Nat.le_of_ble_eq_true rfl) (Nat.le_of_ble_eq_true rfl) (dk okd_X12_salesNow 5 rfl) (st' := fun v15 => [.long v15, .long x4]) (fun _ => rfl) (fun v15 => ?_)
          refine s_run X ok_X12_salesNow 19 3 (pc' := 42) (vs' := [some (.ref p0), some (.int p1), some (.int p2), some (.long x4), none, some (.int x5)]) (st' := [.long (v15 * (Int32.toInt64 p2)), .long x4]) rfl ?_
          refine s_ldc2 X cl_X12_144 (dk okd_X12_salesNow 6 rfl) ?_
          refine s_ldiv0 X (dk okd_X12_salesNow 7 rfl) (by decide) ?_
          refine s_run X ok_X12_salesNow 22 1 (pc' := 47) (vs' := [some (.ref p0), some (.int p1), some (.int p2), some (.long x4), none, some (.int x5)]) (st' := [.long (x4 + ((v15 * (Int32.toInt64 p2)) / 100))]) rfl ?_
          refine s_nmJ (fun v16 => ?_)
          refine s_run X ok_X12_salesNow 23 1 (pc' := 48) (vs' := [some (.ref p0), some (.int p1), some (.int p2), some (.long v16), none, some (.int x5)]) (st' := []) rfl ?_
          exact h14 v16
def tab_X12_feesBy : List En := [(0, 8, 0, 0), (1, 4, 1, 0), (2, 6, 2, 0), (6, 6, 2, 0), (7, 8, 0, 0), (8, 4, 1, 0), (9, 0, 0, 0), (16, 23, 0, 0)]
theorem ok_X12_feesBy : tab_X12_feesBy.all (okE cX12_feesBy) = true := by decide +kernel
def ed_X12_feesBy : List (Nat × Instr × Nat) := [(3, .invokevirtual 176, 3), (10, .invokevirtual 168, 3), (13, .invokestatic 187, 3), (17, .lreturn, 1)]
theorem okd_X12_feesBy : ed_X12_feesBy.all (okD cX12_feesBy) = true := by decide +kernel
def f_X12_feesBy (S : St) (p0 : Nat) (p1 : Int32) (p2 : Int64) : Option (Int64) := cl (f_X12_royaltyOf S p0 p1 p2) fun (v1 : Int64) => cl (f_X12_ofPlan S p0 p1 0) fun (v2 : Int64) => cl (f_X12_rated S p2 v2) fun (v3 : Int64) => some (v1 + v3)
set_option maxHeartbeats 4000000 in
set_option maxRecDepth 100000 in
theorem c_X12_feesBy (S : St) (p0 : Nat) (p1 : Int32) (p2 : Int64) : Ct yX12_feesBy cX12_feesBy 4 (some .long) 2 55 (fun _ => [.ref p0, .int p1, .long p2]) [(p0, 11)] S (f_X12_feesBy S p0 p1 p2) oL (fun _ => S) := by
  refine Ct_of RX12 rfl (by decide) (fun _ => Nat.le_of_ble_eq_true rfl) 0 (vs := fun _ => [some (.ref p0), some (.int p1), some (.long p2), none]) (fun _ => rfl) (fun C X E hr ht => ?_)
  have t0_ : tT C p0 11 := ht (p0, 11) (by simp)
  show Jd C 4 (QJ C oL (fun _ => S)) S 0 [some (.ref p0), some (.int p1), some (.long p2), none] [] (f_X12_feesBy S p0 p1 p2)
  unfold f_X12_feesBy
  refine s_run X ok_X12_feesBy 0 3 (pc' := 3) (vs' := [some (.ref p0), some (.int p1), some (.long p2), none]) (st' := [.long p2, .int p1, .ref p0]) rfl ?_
  refine s_callV (b := p0) (As := [.int p1, .long p2]) (rest := []) X E mv_X12_176 (c_X12_royaltyOf S p0 p1 p2) rfl (ta1 t0_) rfl (by decide) t0_ rfl rfl (Nat.le_of_ble_eq_true rfl) (Nat.le_of_ble_eq_true rfl) (Nat.le_of_ble_eq_true rfl) (dk okd_X12_feesBy 0 rfl) (st' := fun v1 => [.long v1]) (fun _ => rfl) (fun v1 => ?_)
  refine s_run X ok_X12_feesBy 3 4 (pc' := 10) (vs' := [some (.ref p0), some (.int p1), some (.long p2), none]) (st' := [.int 0, .int p1, .ref p0, .long p2, .long v1]) rfl ?_
  refine s_callV (b := p0) (As := [.int p1, .int 0]) (rest := [.long p2, .long v1]) X E mv_X12_168 (c_X12_ofPlan S p0 p1 0) rfl (ta1 t0_) rfl (by decide) t0_ rfl rfl (Nat.le_of_ble_eq_true rfl) (Nat.le_of_ble_eq_true rfl) (Nat.le_of_ble_eq_true rfl) (dk okd_X12_feesBy 1 rfl) (st' := fun v2 => [.long v2, .long p2, .long v1]) (fun _ => rfl) (fun v2 => ?_)
  refine s_callS (As := [.long p2, .long v2]) (rest := [.long v1]) X E ms_X12_187 (c_X12_rated S p2 v2) rfl (ta0) rfl rfl (Nat.le_of_ble_eq_true rfl) (Nat.le_of_ble_eq_true rfl) (Nat.le_of_ble_eq_true rfl) (dk okd_X12_feesBy 2 rfl) (st' := fun v3 => [.long v3, .long v1]) (fun _ => rfl) (fun v3 => ?_)
  refine s_run X ok_X12_feesBy 7 1 (pc' := 17) (vs' := [some (.ref p0), some (.int p1), some (.long p2), none]) (st' := [.long (v1 + v3)]) rfl ?_
  exact s_lret X hr (dk okd_X12_feesBy 3 rfl) rfl rfl
def tab_X12_cheapestPlan : List En := [(0, 8, 0, 0), (1, 0, 0, 0), (5, 8, 0, 0), (6, 8, 0, 0), (7, 4, 1, 0), (14, 0, 0, 1), (15, 41, 19, 0), (18, 0, 0, 0), (19, 0, 0, 1), (26, 0, 0, 0), (28, 8, 0, 0), (29, 4, 1, 0), (30, 1, 0, 100), (35, 12, 2, 0), (36, 0, 0, 0), (37, 11, 4, 0), (39, 0, 0, 1), (40, 11, 5, 0), (42, 5, 5, 0), (44, 31, 0, 0), (45, 8, 0, 0), (49, 0, 0, 1), (51, 40, 0, 0), (55, 8, 0, 0), (56, 5, 5, 0), (58, 6, 2, 0), (62, 8, 0, 0), (63, 5, 4, 0), (65, 6, 2, 0), (69, 40, 0, 0), (73, 5, 5, 0), (75, 11, 4, 0), (77, 16, 5, 1), (80, 41, 42, 0), (83, 5, 4, 0)]
theorem ok_X12_cheapestPlan : tab_X12_cheapestPlan.all (okE cX12_cheapestPlan) = true := by decide +kernel
def ed_X12_cheapestPlan : List (Nat × Instr × Nat) := [(2, .putfield 50, 3), (8, .invokevirtual 85, 3), (11, .ifCond .ne 7, 3), (20, .invokevirtual 81, 3), (23, .ifCond .eq 5, 3), (27, .ireturn, 1), (32, .invokevirtual 191, 3), (46, .getfield 9, 3), (50, .laload, 1), (52, .ifCond .ge 31, 3), (59, .invokevirtual 194, 3), (66, .invokevirtual 194, 3), (70, .ifCond .ge 7, 3), (85, .ireturn, 1)]
theorem okd_X12_cheapestPlan : ed_X12_cheapestPlan.all (okD cX12_cheapestPlan) = true := by decide +kernel
def f_X12_cheapestPlan (S : St) (p0 : Nat) (p1 : Int32) : Option (Int32 × St) := lt (uI S p0 2 0) fun (S1 : St) => cl (f_X12_isFranchisee S1 p0 p1) fun (v2 : Int32) => jn (κ := Int32 → Option (Int32 × St)) (fun x3 => cl (f_X12_throwsIf S1 p0 x3 1) fun (o6 : Int32 × St) => if o6.1 = 0 then (cl (f_X12_salesNow o6.2 p0 p1 100) fun (v7 : Int64) => jn (κ := Int32 → Option (Int32 × St)) (fun x8 => some (x8, o6.2)) fun k9 => lp (κ := Int32 → Int32 → Option (Int32 × St)) (fun _ _ => none) (fun k13 x11 x12 => lt (gR o6.2 p0 0) fun (a15 : Nat) => ldJ o6.2 a15 1 fun (v17 : Int64) => if v17 ≤ (Int32.toInt64 x12) then (k9 x11) else (cl (f_X12_feesBy o6.2 p0 x12 v7) fun (v18 : Int64) => cl (f_X12_feesBy o6.2 p0 x11 v7) fun (v19 : Int64) => jn (κ := Int32 → Option (Int32 × St)) (fun x20 => k13 x20 (x12 + 1)) fun k21 => if v19 ≤ v18 then (k21 x11) else (k21 x12))) FU 0 1) else (some (0, o6.2))) fun k4 => if v2 = 0 then (k4 1) else (k4 0)
set_option maxHeartbeats 4000000 in
set_option maxRecDepth 100000 in
theorem c_X12_cheapestPlan (S : St) (p0 : Nat) (p1 : Int32) : Ct yX12_cheapestPlan cX12_cheapestPlan 6 (some .int) 3 78 (fun _ => [.ref p0, .int p1]) [(p0, 11)] S (f_X12_cheapestPlan S p0 p1) oIS sS := by
  refine Ct_of RX12 rfl (by decide) (fun _ => Nat.le_of_ble_eq_true rfl) 4 (vs := fun _ => [some (.ref p0), some (.int p1), none, none, none, none]) (fun _ => rfl) (fun C X E hr ht => ?_)
  have t0_ : tT C p0 11 := ht (p0, 11) (by simp)
  show Jd C 6 (QJ C oIS sS) S 0 [some (.ref p0), some (.int p1), none, none, none, none] [] (f_X12_cheapestPlan S p0 p1)
  unfold f_X12_cheapestPlan
  refine s_run X ok_X12_cheapestPlan 0 2 (pc' := 2) (vs' := [some (.ref p0), some (.int p1), none, none, none, none]) (st' := [.int 0, .ref p0]) rfl ?_
  refine s_putI X fp_X12_50 t0_ (dk okd_X12_cheapestPlan 0 rfl) (fun S1 => ?_)
  refine s_run X ok_X12_cheapestPlan 2 3 (pc' := 8) (vs' := [some (.ref p0), some (.int p1), none, none, none, none]) (st' := [.int p1, .ref p0, .ref p0]) rfl ?_
  refine s_callV (b := p0) (As := [.int p1]) (rest := [.ref p0]) X E mv_X12_85 (c_X12_isFranchisee S1 p0 p1) rfl (ta1 t0_) rfl (by decide) t0_ rfl rfl (Nat.le_of_ble_eq_true rfl) (Nat.le_of_ble_eq_true rfl) (Nat.le_of_ble_eq_true rfl) (dk okd_X12_cheapestPlan 1 rfl) (st' := fun v2 => [.int v2, .ref p0]) (fun _ => rfl) (fun v2 => ?_)
  refine s_jn (κ := Int32 → Option (Int32 × St)) (fun k4 => ∀ (x3 : Int32), Jd C 6 (QJ C oIS sS) S1 19 [some (.ref p0), some (.int p1), none, none, none, none] [.int x3, .ref p0] (k4 x3)) (fun x3 => ?_) (fun k4 h5 => ?_)
  · refine s_run X ok_X12_cheapestPlan 8 1 (pc' := 20) (vs' := [some (.ref p0), some (.int p1), none, none, none, none]) (st' := [.int 1, .int x3, .ref p0]) rfl ?_
    refine s_callV (b := p0) (As := [.int x3, .int 1]) (rest := []) X E mv_X12_81 (c_X12_throwsIf S1 p0 x3 1) rfl (ta1 t0_) rfl (by decide) t0_ rfl rfl (Nat.le_of_ble_eq_true rfl) (Nat.le_of_ble_eq_true rfl) (Nat.le_of_ble_eq_true rfl) (dk okd_X12_cheapestPlan 3 rfl) (st' := fun o6 => [.int o6.1]) (fun _ => rfl) (fun o6 => ?_)
    refine s_if_eq (tgt := 28) X (dk okd_X12_cheapestPlan 4 rfl) (by decide) ?_ ?_
    · refine s_run X ok_X12_cheapestPlan 10 3 (pc' := 32) (vs' := [some (.ref p0), some (.int p1), none, none, none, none]) (st' := [.int 100, .int p1, .ref p0]) rfl ?_
      refine s_callV (b := p0) (As := [.int p1, .int 100]) (rest := []) X E mv_X12_191 (c_X12_salesNow o6.2 p0 p1 100) rfl (ta1 t0_) rfl (by decide) t0_ rfl rfl (Nat.le_of_ble_eq_true rfl) (Nat.le_of_ble_eq_true rfl) (Nat.le_of_ble_eq_true rfl) (dk okd_X12_cheapestPlan 6 rfl) (st' := fun v7 => [.long v7]) (fun _ => rfl) (fun v7 => ?_)
      refine s_run X ok_X12_cheapestPlan 13 5 (pc' := 42) (vs' := [some (.ref p0), some (.int p1), some (.long v7), none, some (.int 0), some (.int 1)]) (st' := []) rfl ?_
      refine s_jn (κ := Int32 → Option (Int32 × St)) (fun k9 => ∀ (x8 : Int32), Jd C 6 (QJ C oIS sS) o6.2 83 [none, none, none, none, some (.int x8), none] [] (k9 x8)) (fun x8 => ?_) (fun k9 h10 => ?_)
      · refine s_run X ok_X12_cheapestPlan 34 1 (pc' := 85) (vs' := [none, none, none, none, some (.int x8), none]) (st' := [.int x8]) rfl ?_
        exact s_iret X hr (dk okd_X12_cheapestPlan 13 rfl) rfl rfl
      · refine s_less [true, false, true, false, true, true] (vs' := [some (.ref p0), none, some (.long v7), none, some (.int 0), some (.int 1)]) rfl ?_
        refine s_lp (κ := Int32 → Int32 → Option (Int32 × St)) (fun k13 => ∀ (x11 : Int32) (x12 : Int32), Jd C 6 (QJ C oIS sS) o6.2 42 [some (.ref p0), none, some (.long v7), none, some (.int x11), some (.int x12)] [] (k13 x11 x12)) (fun _ _ => s_none) (fun k13 h14 x11 x12 => ?_) FU 0 1
        refine s_run X ok_X12_cheapestPlan 18 3 (pc' := 46) (vs' := [some (.ref p0), none, some (.long v7), none, some (.int x11), some (.int x12)]) (st' := [.ref p0, .long (Int32.toInt64 x12)]) rfl ?_
        refine s_getR X fl_X12_9 t0_ (dk okd_X12_cheapestPlan 7 rfl) (fun a15 (t16 : tT C a15 14) => ?_)
        refine s_run X ok_X12_cheapestPlan 21 1 (pc' := 50) (vs' := [some (.ref p0), none, some (.long v7), none, some (.int x11), some (.int x12)]) (st' := [.int 1, .ref a15, .long (Int32.toInt64 x12)]) rfl ?_
        refine s_lald X t16 (dk okd_X12_cheapestPlan 8 rfl) (fun v17 => ?_)
        refine s_run X ok_X12_cheapestPlan 22 1 (pc' := 52) (vs' := [some (.ref p0), none, some (.long v7), none, some (.int x11), some (.int x12)]) (st' := [.int (lg_cmp (Int32.toInt64 x12) v17)]) rfl ?_
        refine s_lif_ge (tgt := 83) X (dk okd_X12_cheapestPlan 9 rfl) (by decide) ?_ ?_
        · exact s_less [false, false, false, false, true, false] rfl (h10 x11)
        · refine s_run X ok_X12_cheapestPlan 23 3 (pc' := 59) (vs' := [some (.ref p0), none, some (.long v7), none, some (.int x11), some (.int x12)]) (st' := [.long v7, .int x12, .ref p0]) rfl ?_
          refine s_callV (b := p0) (As := [.int x12, .long v7]) (rest := []) X E mv_X12_194 (c_X12_feesBy o6.2 p0 x12 v7) rfl (ta1 t0_) rfl (by decide) t0_ rfl rfl (Nat.le_of_ble_eq_true rfl) (Nat.le_of_ble_eq_true rfl) (Nat.le_of_ble_eq_true rfl) (dk okd_X12_cheapestPlan 10 rfl) (st' := fun v18 => [.long v18]) (fun _ => rfl) (fun v18 => ?_)
          refine s_run X ok_X12_cheapestPlan 26 3 (pc' := 66) (vs' := [some (.ref p0), none, some (.long v7), none, some (.int x11), some (.int x12)]) (st' := [.long v7, .int x11, .ref p0, .long v18]) rfl ?_
          refine s_callV (b := p0) (As := [.int x11, .long v7]) (rest := [.long v18]) X E mv_X12_194 (c_X12_feesBy o6.2 p0 x11 v7) rfl (ta1 t0_) rfl (by decide) t0_ rfl rfl (Nat.le_of_ble_eq_true rfl) (Nat.le_of_ble_eq_true rfl) (Nat.le_of_ble_eq_true rfl) (dk okd_X12_cheapestPlan 11 rfl) (st' := fun v19 => [.long v19, .long v18]) (fun _ => rfl) (fun v19 => ?_)
          refine s_run X ok_X12_cheapestPlan 29 1 (pc' := 70) (vs' := [some (.ref p0), none, some (.long v7), none, some (.int x11), some (.int x12)]) (st' := [.int (lg_cmp v18 v19)]) rfl ?_
          refine s_jn (κ := Int32 → Option (Int32 × St)) (fun k21 => ∀ (x20 : Int32), Jd C 6 (QJ C oIS sS) o6.2 77 [some (.ref p0), none, some (.long v7), none, some (.int x20), some (.int x12)] [] (k21 x20)) (fun x20 => ?_) (fun k21 h22 => ?_)
          · refine s_run X ok_X12_cheapestPlan 32 2 (pc' := 42) (vs' := [some (.ref p0), none, some (.long v7), none, some (.int x20), some (.int (x12 + 1))]) (st' := []) rfl ?_
            exact h14 x20 (x12 + 1)
          · refine s_lif_ge (tgt := 77) X (dk okd_X12_cheapestPlan 12 rfl) (by decide) ?_ ?_
            · exact h22 x11
            · refine s_run X ok_X12_cheapestPlan 30 2 (pc' := 77) (vs' := [some (.ref p0), none, some (.long v7), none, some (.int x12), some (.int x12)]) (st' := []) rfl ?_
              exact h22 x12
    · refine s_run X ok_X12_cheapestPlan 9 1 (pc' := 27) (vs' := [some (.ref p0), some (.int p1), none, none, none, none]) (st' := [.int 0]) rfl ?_
      exact s_iret X hr (dk okd_X12_cheapestPlan 5 rfl) rfl rfl
  · refine s_if_ne (tgt := 18) X (dk okd_X12_cheapestPlan 2 rfl) (by decide) ?_ ?_
    · refine s_run X ok_X12_cheapestPlan 7 1 (pc' := 19) (vs' := [some (.ref p0), some (.int p1), none, none, none, none]) (st' := [.int 0, .ref p0]) rfl ?_
      exact h5 0
    · refine s_run X ok_X12_cheapestPlan 5 2 (pc' := 19) (vs' := [some (.ref p0), some (.int p1), none, none, none, none]) (st' := [.int 1, .ref p0]) rfl ?_
      exact h5 1
def tab_X12_isOver : List En := [(0, 8, 0, 0), (4, 0, 0, 0), (9, 40, 0, 0), (13, 0, 0, 1), (14, 41, 18, 0), (17, 0, 0, 0)]
theorem ok_X12_isOver : tab_X12_isOver.all (okE cX12_isOver) = true := by decide +kernel
def ed_X12_isOver : List (Nat × Instr × Nat) := [(1, .getfield 9, 3), (5, .laload, 1), (6, .ldc2_w 197, 3), (10, .ifCond .ne 7, 3), (18, .ireturn, 1)]
theorem okd_X12_isOver : ed_X12_isOver.all (okD cX12_isOver) = true := by decide +kernel
def f_X12_isOver (S : St) (p0 : Nat) : Option (Int32) := lt (gR S p0 0) fun (a1 : Nat) => ldJ S a1 0 fun (v3 : Int64) => if v3 = 60 then (some 1) else (some 0)
set_option maxHeartbeats 4000000 in
set_option maxRecDepth 100000 in
theorem c_X12_isOver (S : St) (p0 : Nat) : Ct yX12_isOver cX12_isOver 1 (some .boolean) 0 0 (fun _ => [.ref p0]) [(p0, 11)] S (f_X12_isOver S p0) oI (fun _ => S) := by
  refine Ct_of RX12 rfl (by decide) (fun _ => Nat.le_of_ble_eq_true rfl) 0 (vs := fun _ => [some (.ref p0)]) (fun _ => rfl) (fun C X E hr ht => ?_)
  have t0_ : tT C p0 11 := ht (p0, 11) (by simp)
  show Jd C 1 (QJ C oI (fun _ => S)) S 0 [some (.ref p0)] [] (f_X12_isOver S p0)
  unfold f_X12_isOver
  refine s_run X ok_X12_isOver 0 1 (pc' := 1) (vs' := [some (.ref p0)]) (st' := [.ref p0]) rfl ?_
  refine s_getR X fl_X12_9 t0_ (dk okd_X12_isOver 0 rfl) (fun a1 (t2 : tT C a1 14) => ?_)
  refine s_run X ok_X12_isOver 1 1 (pc' := 5) (vs' := [some (.ref p0)]) (st' := [.int 0, .ref a1]) rfl ?_
  refine s_lald X t2 (dk okd_X12_isOver 1 rfl) (fun v3 => ?_)
  refine s_ldc2 X cl_X12_197 (dk okd_X12_isOver 2 rfl) ?_
  refine s_run X ok_X12_isOver 2 1 (pc' := 10) (vs' := [some (.ref p0)]) (st' := [.int (lg_cmp v3 60)]) rfl ?_
  refine s_lif_ne (tgt := 17) X (dk okd_X12_isOver 3 rfl) (by decide) ?_ ?_
  · refine s_run X ok_X12_isOver 5 1 (pc' := 18) (vs' := [some (.ref p0)]) (st' := [.int 0]) rfl ?_
    exact s_zret0 X hr (dk okd_X12_isOver 4 rfl) (by decide) rfl rfl
  · refine s_run X ok_X12_isOver 3 2 (pc' := 18) (vs' := [some (.ref p0)]) (st' := [.int 1]) rfl ?_
    exact s_zret0 X hr (dk okd_X12_isOver 4 rfl) (by decide) rfl rfl
def tab_X12_reportSales : List En := [(0, 8, 0, 0), (1, 0, 0, 0), (5, 8, 0, 0), (6, 8, 0, 0), (7, 4, 1, 0), (14, 0, 0, 1), (15, 41, 19, 0), (18, 0, 0, 0), (19, 0, 0, 1), (26, 8, 0, 0), (27, 6, 2, 0), (28, 3, 0, 0), (38, 0, 0, 1), (39, 41, 43, 0), (42, 0, 0, 0), (43, 0, 0, 2), (50, 8, 0, 0), (51, 8, 0, 0), (55, 0, 0, 3), (62, 3, 0, 0), (64, 8, 0, 0), (65, 4, 1, 0), (76, 8, 0, 0), (77, 4, 1, 0), (78, 0, 0, 3), (82, 13, 4, 0), (84, 8, 0, 0), (88, 2, 0, 186), (91, 0, 0, 4), (92, 4, 1, 0), (93, 19, 0, 0), (94, 17, 0, 0), (95, 0, 0, 3), (96, 17, 0, 0), (97, 6, 2, 0), (99, 7, 4, 0)]
theorem ok_X12_reportSales : tab_X12_reportSales.all (okE cX12_reportSales) = true := by decide +kernel
def ed_X12_reportSales : List (Nat × Instr × Nat) := [(2, .putfield 50, 3), (8, .invokevirtual 141, 3), (11, .ifCond .ne 7, 3), (20, .invokevirtual 81, 3), (23, .ifCond .ne 39, 3), (29, .ldc2_w 199, 3), (32, .invokestatic 53, 3), (35, .ifCond .ne 7, 3), (44, .invokevirtual 81, 3), (47, .ifCond .ne 15, 3), (52, .invokevirtual 201, 3), (56, .invokevirtual 81, 3), (59, .ifCond .eq 5, 3), (63, .lreturn, 1), (66, .invokevirtual 118, 3), (69, .ifCond .ne 7, 3), (72, .ldc2_w 48, 3), (75, .lreturn, 1), (79, .invokevirtual 113, 3), (85, .getfield 9, 3), (98, .lastore, 1), (101, .lreturn, 1)]
theorem okd_X12_reportSales : ed_X12_reportSales.all (okD cX12_reportSales) = true := by decide +kernel
def f_X12_reportSales (S : St) (p0 : Nat) (p1 : Int32) (p2 : Int64) : Option (Int64 × St) := lt (uI S p0 2 0) fun (S1 : St) => cl (f_X12_isOutlet S1 p0 p1) fun (v2 : Int32) => jn (κ := Int32 → Option (Int64 × St)) (fun x3 => cl (f_X12_throwsIf S1 p0 x3 1) fun (o6 : Int32 × St) => if o6.1 = 0 then (cl (f_X12_inRange o6.2 p2 0 10000000) fun (v7 : Int32) => jn (κ := Int32 → Option (Int64 × St)) (fun x8 => cl (f_X12_throwsIf o6.2 p0 x8 2) fun (o11 : Int32 × St) => if o11.1 = 0 then (cl (f_X12_isOver o11.2 p0) fun (v12 : Int32) => cl (f_X12_throwsIf o11.2 p0 v12 3) fun (o13 : Int32 × St) => if o13.1 = 0 then (cl (f_X12_isOpen o13.2 p0 p1) fun (v14 : Int32) => if v14 = 0 then (some ((-1), o13.2)) else (cl (f_X12_ofOutlet o13.2 p0 p1 3) fun (v15 : Int64) => lt (gR o13.2 p0 0) fun (a16 : Nat) => stJ o13.2 a16 ((186 + (4 * p1)) + 3) p2 fun (S18 : St) => some (v15, S18))) else (some (0, o13.2))) else (some (0, o11.2))) fun k9 => if v7 = 0 then (k9 1) else (k9 0)) else (some (0, o6.2))) fun k4 => if v2 = 0 then (k4 1) else (k4 0)
set_option maxHeartbeats 4000000 in
set_option maxRecDepth 100000 in
theorem c_X12_reportSales (S : St) (p0 : Nat) (p1 : Int32) (p2 : Int64) : Ct yX12_reportSales cX12_reportSales 6 (some .long) 2 46 (fun _ => [.ref p0, .int p1, .long p2]) [(p0, 11)] S (f_X12_reportSales S p0 p1 p2) oLS sL := by
  refine Ct_of RX12 rfl (by decide) (fun _ => Nat.le_of_ble_eq_true rfl) 2 (vs := fun _ => [some (.ref p0), some (.int p1), some (.long p2), none, none, none]) (fun _ => rfl) (fun C X E hr ht => ?_)
  have t0_ : tT C p0 11 := ht (p0, 11) (by simp)
  show Jd C 6 (QJ C oLS sL) S 0 [some (.ref p0), some (.int p1), some (.long p2), none, none, none] [] (f_X12_reportSales S p0 p1 p2)
  unfold f_X12_reportSales
  refine s_run X ok_X12_reportSales 0 2 (pc' := 2) (vs' := [some (.ref p0), some (.int p1), some (.long p2), none, none, none]) (st' := [.int 0, .ref p0]) rfl ?_
  refine s_putI X fp_X12_50 t0_ (dk okd_X12_reportSales 0 rfl) (fun S1 => ?_)
  refine s_run X ok_X12_reportSales 2 3 (pc' := 8) (vs' := [some (.ref p0), some (.int p1), some (.long p2), none, none, none]) (st' := [.int p1, .ref p0, .ref p0]) rfl ?_
  refine s_callV (b := p0) (As := [.int p1]) (rest := [.ref p0]) X E mv_X12_141 (c_X12_isOutlet S1 p0 p1) rfl (ta1 t0_) rfl (by decide) t0_ rfl rfl (Nat.le_of_ble_eq_true rfl) (Nat.le_of_ble_eq_true rfl) (Nat.le_of_ble_eq_true rfl) (dk okd_X12_reportSales 1 rfl) (st' := fun v2 => [.int v2, .ref p0]) (fun _ => rfl) (fun v2 => ?_)
  refine s_jn (κ := Int32 → Option (Int64 × St)) (fun k4 => ∀ (x3 : Int32), Jd C 6 (QJ C oLS sL) S1 19 [some (.ref p0), some (.int p1), some (.long p2), none, none, none] [.int x3, .ref p0] (k4 x3)) (fun x3 => ?_) (fun k4 h5 => ?_)
  · refine s_run X ok_X12_reportSales 8 1 (pc' := 20) (vs' := [some (.ref p0), some (.int p1), some (.long p2), none, none, none]) (st' := [.int 1, .int x3, .ref p0]) rfl ?_
    refine s_callV (b := p0) (As := [.int x3, .int 1]) (rest := []) X E mv_X12_81 (c_X12_throwsIf S1 p0 x3 1) rfl (ta1 t0_) rfl (by decide) t0_ rfl rfl (Nat.le_of_ble_eq_true rfl) (Nat.le_of_ble_eq_true rfl) (Nat.le_of_ble_eq_true rfl) (dk okd_X12_reportSales 3 rfl) (st' := fun o6 => [.int o6.1]) (fun _ => rfl) (fun o6 => ?_)
    refine s_if_ne (tgt := 62) X (dk okd_X12_reportSales 4 rfl) (by decide) ?_ ?_
    · refine s_run X ok_X12_reportSales 19 1 (pc' := 63) (vs' := [some (.ref p0), some (.int p1), some (.long p2), none, none, none]) (st' := [.long 0]) rfl ?_
      exact s_lret X hr (dk okd_X12_reportSales 13 rfl) rfl rfl
    · refine s_run X ok_X12_reportSales 9 3 (pc' := 29) (vs' := [some (.ref p0), some (.int p1), some (.long p2), none, none, none]) (st' := [.long 0, .long p2, .ref p0]) rfl ?_
      refine s_ldc2 X cl_X12_199 (dk okd_X12_reportSales 5 rfl) ?_
      refine s_callS (As := [.long p2, .long 0, .long 10000000]) (rest := [.ref p0]) X E ms_X12_53 (c_X12_inRange o6.2 p2 0 10000000) rfl (ta0) rfl rfl (Nat.le_of_ble_eq_true rfl) (Nat.le_of_ble_eq_true rfl) (Nat.le_of_ble_eq_true rfl) (dk okd_X12_reportSales 6 rfl) (st' := fun v7 => [.int v7, .ref p0]) (fun _ => rfl) (fun v7 => ?_)
      refine s_jn (κ := Int32 → Option (Int64 × St)) (fun k9 => ∀ (x8 : Int32), Jd C 6 (QJ C oLS sL) o6.2 43 [some (.ref p0), some (.int p1), some (.long p2), none, none, none] [.int x8, .ref p0] (k9 x8)) (fun x8 => ?_) (fun k9 h10 => ?_)
      · refine s_run X ok_X12_reportSales 15 1 (pc' := 44) (vs' := [some (.ref p0), some (.int p1), some (.long p2), none, none, none]) (st' := [.int 2, .int x8, .ref p0]) rfl ?_
        refine s_callV (b := p0) (As := [.int x8, .int 2]) (rest := []) X E mv_X12_81 (c_X12_throwsIf o6.2 p0 x8 2) rfl (ta1 t0_) rfl (by decide) t0_ rfl rfl (Nat.le_of_ble_eq_true rfl) (Nat.le_of_ble_eq_true rfl) (Nat.le_of_ble_eq_true rfl) (dk okd_X12_reportSales 8 rfl) (st' := fun o11 => [.int o11.1]) (fun _ => rfl) (fun o11 => ?_)
        refine s_if_ne (tgt := 62) X (dk okd_X12_reportSales 9 rfl) (by decide) ?_ ?_
        · refine s_run X ok_X12_reportSales 19 1 (pc' := 63) (vs' := [some (.ref p0), some (.int p1), some (.long p2), none, none, none]) (st' := [.long 0]) rfl ?_
          exact s_lret X hr (dk okd_X12_reportSales 13 rfl) rfl rfl
        · refine s_run X ok_X12_reportSales 16 2 (pc' := 52) (vs' := [some (.ref p0), some (.int p1), some (.long p2), none, none, none]) (st' := [.ref p0, .ref p0]) rfl ?_
          refine s_callV (b := p0) (As := []) (rest := [.ref p0]) X E mv_X12_201 (c_X12_isOver o11.2 p0) rfl (ta1 t0_) rfl (by decide) t0_ rfl rfl (Nat.le_of_ble_eq_true rfl) (Nat.le_of_ble_eq_true rfl) (Nat.le_of_ble_eq_true rfl) (dk okd_X12_reportSales 10 rfl) (st' := fun v12 => [.int v12, .ref p0]) (fun _ => rfl) (fun v12 => ?_)
          refine s_run X ok_X12_reportSales 18 1 (pc' := 56) (vs' := [some (.ref p0), some (.int p1), some (.long p2), none, none, none]) (st' := [.int 3, .int v12, .ref p0]) rfl ?_
          refine s_callV (b := p0) (As := [.int v12, .int 3]) (rest := []) X E mv_X12_81 (c_X12_throwsIf o11.2 p0 v12 3) rfl (ta1 t0_) rfl (by decide) t0_ rfl rfl (Nat.le_of_ble_eq_true rfl) (Nat.le_of_ble_eq_true rfl) (Nat.le_of_ble_eq_true rfl) (dk okd_X12_reportSales 11 rfl) (st' := fun o13 => [.int o13.1]) (fun _ => rfl) (fun o13 => ?_)
          refine s_if_eq (tgt := 64) X (dk okd_X12_reportSales 12 rfl) (by decide) ?_ ?_
          · refine s_run X ok_X12_reportSales 20 2 (pc' := 66) (vs' := [some (.ref p0), some (.int p1), some (.long p2), none, none, none]) (st' := [.int p1, .ref p0]) rfl ?_
            refine s_callV (b := p0) (As := [.int p1]) (rest := []) X E mv_X12_118 (c_X12_isOpen o13.2 p0 p1) rfl (ta1 t0_) rfl (by decide) t0_ rfl rfl (Nat.le_of_ble_eq_true rfl) (Nat.le_of_ble_eq_true rfl) (Nat.le_of_ble_eq_true rfl) (dk okd_X12_reportSales 14 rfl) (st' := fun v14 => [.int v14]) (fun _ => rfl) (fun v14 => ?_)
            refine s_if_ne (tgt := 76) X (dk okd_X12_reportSales 15 rfl) (by decide) ?_ ?_
            · refine s_run X ok_X12_reportSales 22 3 (pc' := 79) (vs' := [some (.ref p0), some (.int p1), some (.long p2), none, none, none]) (st' := [.int 3, .int p1, .ref p0]) rfl ?_
              refine s_callV (b := p0) (As := [.int p1, .int 3]) (rest := []) X E mv_X12_113 (c_X12_ofOutlet o13.2 p0 p1 3) rfl (ta1 t0_) rfl (by decide) t0_ rfl rfl (Nat.le_of_ble_eq_true rfl) (Nat.le_of_ble_eq_true rfl) (Nat.le_of_ble_eq_true rfl) (dk okd_X12_reportSales 18 rfl) (st' := fun v15 => [.long v15]) (fun _ => rfl) (fun v15 => ?_)
              refine s_run X ok_X12_reportSales 25 2 (pc' := 85) (vs' := [some (.ref p0), some (.int p1), some (.long p2), none, some (.long v15), none]) (st' := [.ref p0]) rfl ?_
              refine s_getR X fl_X12_9 t0_ (dk okd_X12_reportSales 19 rfl) (fun a16 (t17 : tT C a16 14) => ?_)
              refine s_run X ok_X12_reportSales 27 8 (pc' := 98) (vs' := [some (.ref p0), some (.int p1), some (.long p2), none, some (.long v15), none]) (st' := [.long p2, .int ((186 + (4 * p1)) + 3), .ref a16]) rfl ?_
              refine s_last X t17 (dk okd_X12_reportSales 20 rfl) (fun S18 => ?_)
              refine s_run X ok_X12_reportSales 35 1 (pc' := 101) (vs' := [some (.ref p0), some (.int p1), some (.long p2), none, some (.long v15), none]) (st' := [.long v15]) rfl ?_
              exact s_lret X hr (dk okd_X12_reportSales 21 rfl) rfl rfl
            · refine s_ldc2 X cl_X12_48 (dk okd_X12_reportSales 16 rfl) ?_
              exact s_lret X hr (dk okd_X12_reportSales 17 rfl) rfl rfl
          · refine s_run X ok_X12_reportSales 19 1 (pc' := 63) (vs' := [some (.ref p0), some (.int p1), some (.long p2), none, none, none]) (st' := [.long 0]) rfl ?_
            exact s_lret X hr (dk okd_X12_reportSales 13 rfl) rfl rfl
      · refine s_if_ne (tgt := 42) X (dk okd_X12_reportSales 7 rfl) (by decide) ?_ ?_
        · refine s_run X ok_X12_reportSales 14 1 (pc' := 43) (vs' := [some (.ref p0), some (.int p1), some (.long p2), none, none, none]) (st' := [.int 0, .ref p0]) rfl ?_
          exact h10 0
        · refine s_run X ok_X12_reportSales 12 2 (pc' := 43) (vs' := [some (.ref p0), some (.int p1), some (.long p2), none, none, none]) (st' := [.int 1, .ref p0]) rfl ?_
          exact h10 1
  · refine s_if_ne (tgt := 18) X (dk okd_X12_reportSales 2 rfl) (by decide) ?_ ?_
    · refine s_run X ok_X12_reportSales 7 1 (pc' := 19) (vs' := [some (.ref p0), some (.int p1), some (.long p2), none, none, none]) (st' := [.int 0, .ref p0]) rfl ?_
      exact h5 0
    · refine s_run X ok_X12_reportSales 5 2 (pc' := 19) (vs' := [some (.ref p0), some (.int p1), some (.long p2), none, none, none]) (st' := [.int 1, .ref p0]) rfl ?_
      exact h5 1
def tab_X12_deliver : List En := [(0, 8, 0, 0), (1, 0, 0, 0), (5, 8, 0, 0), (6, 8, 0, 0), (7, 4, 1, 0), (14, 0, 0, 1), (15, 41, 19, 0), (18, 0, 0, 0), (19, 0, 0, 1), (26, 8, 0, 0), (27, 4, 2, 0), (28, 4, 3, 0), (35, 7, 4, 0), (37, 3, 1, 0), (47, 0, 0, 1), (48, 41, 52, 0), (51, 0, 0, 0), (52, 0, 0, 2), (59, 8, 0, 0), (60, 8, 0, 0), (64, 0, 0, 3), (71, 3, 0, 0), (73, 8, 0, 0), (74, 4, 1, 0), (85, 8, 0, 0), (86, 4, 1, 0), (87, 0, 0, 3), (91, 7, 4, 0), (93, 23, 0, 0), (97, 40, 0, 0), (105, 8, 0, 0), (109, 2, 0, 186), (112, 0, 0, 4), (113, 4, 1, 0), (114, 19, 0, 0), (115, 17, 0, 0), (116, 0, 0, 3), (117, 17, 0, 0), (118, 37, 0, 0), (120, 7, 4, 0), (122, 23, 0, 0), (124, 8, 0, 0), (125, 4, 1, 0), (126, 0, 0, 0), (130, 32, 0, 0), (131, 11, 6, 0), (133, 8, 0, 0), (134, 4, 2, 0), (135, 4, 3, 0), (139, 11, 7, 0), (141, 5, 7, 0), (143, 0, 0, (-1)), (147, 5, 7, 0), (149, 5, 6, 0), (154, 8, 0, 0), (155, 5, 6, 0), (163, 8, 0, 0), (164, 5, 7, 0), (172, 8, 0, 0), (176, 2, 0, 1150), (179, 1, 0, 8), (181, 5, 6, 0), (183, 19, 0, 0), (184, 17, 0, 0), (185, 5, 7, 0), (187, 17, 0, 0), (188, 37, 0, 0), (190, 7, 4, 0), (192, 23, 0, 0), (194, 8, 0, 0), (195, 4, 1, 0), (196, 0, 0, 3)]
theorem ok_X12_deliver : tab_X12_deliver.all (okE cX12_deliver) = true := by decide +kernel
def ed_X12_deliver : List (Nat × Instr × Nat) := [(2, .putfield 50, 3), (8, .invokevirtual 141, 3), (11, .ifCond .ne 7, 3), (20, .invokevirtual 81, 3), (23, .ifCond .ne 48, 3), (29, .invokestatic 67, 3), (32, .ifCond .eq 15, 3), (38, .ldc2_w 199, 3), (41, .invokestatic 53, 3), (44, .ifCond .ne 7, 3), (53, .invokevirtual 81, 3), (56, .ifCond .ne 15, 3), (61, .invokevirtual 201, 3), (65, .invokevirtual 81, 3), (68, .ifCond .eq 5, 3), (72, .lreturn, 1), (75, .invokevirtual 118, 3), (78, .ifCond .ne 7, 3), (81, .ldc2_w 48, 3), (84, .lreturn, 1), (88, .invokevirtual 113, 3), (94, .ldc2_w 199, 3), (98, .ifCond .le 7, 3), (101, .ldc2_w 205, 3), (104, .lreturn, 1), (106, .getfield 9, 3), (119, .laload, 1), (123, .lastore, 1), (127, .invokevirtual 113, 3), (136, .invokevirtual 71, 3), (144, .if_icmp .eq 50, 3), (151, .if_icmp .eq 43, 3), (157, .invokevirtual 128, 3), (160, .ifCond .eq 34, 3), (166, .invokevirtual 128, 3), (169, .ifCond .eq 25, 3), (173, .getfield 9, 3), (189, .laload, 1), (193, .lastore, 1), (197, .invokevirtual 113, 3), (200, .lreturn, 1)]
theorem okd_X12_deliver : ed_X12_deliver.all (okD cX12_deliver) = true := by decide +kernel
def f_X12_deliver (S : St) (p0 : Nat) (p1 : Int32) (p2 : Int32) (p3 : Int32) (p4 : Int64) : Option (Int64 × St) := lt (uI S p0 2 0) fun (S1 : St) => cl (f_X12_isOutlet S1 p0 p1) fun (v2 : Int32) => jn (κ := Int32 → Option (Int64 × St)) (fun x3 => cl (f_X12_throwsIf S1 p0 x3 1) fun (o6 : Int32 × St) => if o6.1 = 0 then (cl (f_X12_isCell o6.2 p2 p3) fun (v7 : Int32) => jn (κ := Int32 → Option (Int64 × St)) (fun x8 => cl (f_X12_throwsIf o6.2 p0 x8 2) fun (o11 : Int32 × St) => if o11.1 = 0 then (cl (f_X12_isOver o11.2 p0) fun (v12 : Int32) => cl (f_X12_throwsIf o11.2 p0 v12 3) fun (o13 : Int32 × St) => if o13.1 = 0 then (cl (f_X12_isOpen o13.2 p0 p1) fun (v14 : Int32) => if v14 = 0 then (some ((-1), o13.2)) else (cl (f_X12_ofOutlet o13.2 p0 p1 3) fun (v15 : Int64) => if (v15 + p4) ≤ 10000000 then (lt (gR o13.2 p0 0) fun (a16 : Nat) => ldJ o13.2 a16 ((186 + (4 * p1)) + 3) fun (v18 : Int64) => stJ o13.2 a16 ((186 + (4 * p1)) + 3) (v18 + p4) fun (S19 : St) => cl (f_X12_ofOutlet S19 p0 p1 0) fun (v20 : Int64) => lt (Int64.toInt32 v20) fun (v21 : Int32) => cl (f_X12_ownerOf S19 p0 p2 p3) fun (v22 : Int32) => jn (κ := St → Option (Int64 × St)) (fun S23 => cl (f_X12_ofOutlet S23 p0 p1 3) fun (v26 : Int64) => some (v26, S23)) fun k24 => if v22 = (-1) then (k24 S19) else (if v22 = v21 then (k24 S19) else (cl (f_X12_isActive S19 p0 v21) fun (v27 : Int32) => if v27 = 0 then (k24 S19) else (cl (f_X12_isActive S19 p0 v22) fun (v28 : Int32) => if v28 = 0 then (k24 S19) else (lt (gR S19 p0 0) fun (a29 : Nat) => ldJ S19 a29 ((1150 + (8 * v21)) + v22) fun (v31 : Int64) => stJ S19 a29 ((1150 + (8 * v21)) + v22) (v31 + p4) fun (S32 : St) => k24 S32))))) else (some ((-3), o13.2)))) else (some (0, o13.2))) else (some (0, o11.2))) fun k9 => jn (κ := Option (Int64 × St)) (k9 1) fun k33 => if v7 = 0 then (k33) else (cl (f_X12_inRange o6.2 p4 1 10000000) fun (v35 : Int32) => if v35 = 0 then (k33) else (k9 0))) else (some (0, o6.2))) fun k4 => if v2 = 0 then (k4 1) else (k4 0)
set_option maxHeartbeats 4000000 in
set_option maxRecDepth 100000 in
theorem c_X12_deliver (S : St) (p0 : Nat) (p1 : Int32) (p2 : Int32) (p3 : Int32) (p4 : Int64) : Ct yX12_deliver cX12_deliver 8 (some .long) 2 46 (fun _ => [.ref p0, .int p1, .int p2, .int p3, .long p4]) [(p0, 11)] S (f_X12_deliver S p0 p1 p2 p3 p4) oLS sL := by
  refine Ct_of RX12 rfl (by decide) (fun _ => Nat.le_of_ble_eq_true rfl) 2 (vs := fun _ => [some (.ref p0), some (.int p1), some (.int p2), some (.int p3), some (.long p4), none, none, none]) (fun _ => rfl) (fun C X E hr ht => ?_)
  have t0_ : tT C p0 11 := ht (p0, 11) (by simp)
  show Jd C 8 (QJ C oLS sL) S 0 [some (.ref p0), some (.int p1), some (.int p2), some (.int p3), some (.long p4), none, none, none] [] (f_X12_deliver S p0 p1 p2 p3 p4)
  unfold f_X12_deliver
  refine s_run X ok_X12_deliver 0 2 (pc' := 2) (vs' := [some (.ref p0), some (.int p1), some (.int p2), some (.int p3), some (.long p4), none, none, none]) (st' := [.int 0, .ref p0]) rfl ?_
  refine s_putI X fp_X12_50 t0_ (dk okd_X12_deliver 0 rfl) (fun S1 => ?_)
  refine s_run X ok_X12_deliver 2 3 (pc' := 8) (vs' := [some (.ref p0), some (.int p1), some (.int p2), some (.int p3), some (.long p4), none, none, none]) (st' := [.int p1, .ref p0, .ref p0]) rfl ?_
  refine s_callV (b := p0) (As := [.int p1]) (rest := [.ref p0]) X E mv_X12_141 (c_X12_isOutlet S1 p0 p1) rfl (ta1 t0_) rfl (by decide) t0_ rfl rfl (Nat.le_of_ble_eq_true rfl) (Nat.le_of_ble_eq_true rfl) (Nat.le_of_ble_eq_true rfl) (dk okd_X12_deliver 1 rfl) (st' := fun v2 => [.int v2, .ref p0]) (fun _ => rfl) (fun v2 => ?_)
  refine s_jn (κ := Int32 → Option (Int64 × St)) (fun k4 => ∀ (x3 : Int32), Jd C 8 (QJ C oLS sL) S1 19 [some (.ref p0), some (.int p1), some (.int p2), some (.int p3), some (.long p4), none, none, none] [.int x3, .ref p0] (k4 x3)) (fun x3 => ?_) (fun k4 h5 => ?_)
  · refine s_run X ok_X12_deliver 8 1 (pc' := 20) (vs' := [some (.ref p0), some (.int p1), some (.int p2), some (.int p3), some (.long p4), none, none, none]) (st' := [.int 1, .int x3, .ref p0]) rfl ?_
    refine s_callV (b := p0) (As := [.int x3, .int 1]) (rest := []) X E mv_X12_81 (c_X12_throwsIf S1 p0 x3 1) rfl (ta1 t0_) rfl (by decide) t0_ rfl rfl (Nat.le_of_ble_eq_true rfl) (Nat.le_of_ble_eq_true rfl) (Nat.le_of_ble_eq_true rfl) (dk okd_X12_deliver 3 rfl) (st' := fun o6 => [.int o6.1]) (fun _ => rfl) (fun o6 => ?_)
    refine s_if_ne (tgt := 71) X (dk okd_X12_deliver 4 rfl) (by decide) ?_ ?_
    · refine s_run X ok_X12_deliver 21 1 (pc' := 72) (vs' := [some (.ref p0), some (.int p1), some (.int p2), some (.int p3), some (.long p4), none, none, none]) (st' := [.long 0]) rfl ?_
      exact s_lret X hr (dk okd_X12_deliver 15 rfl) rfl rfl
    · refine s_run X ok_X12_deliver 9 3 (pc' := 29) (vs' := [some (.ref p0), some (.int p1), some (.int p2), some (.int p3), some (.long p4), none, none, none]) (st' := [.int p3, .int p2, .ref p0]) rfl ?_
      refine s_callS (As := [.int p2, .int p3]) (rest := [.ref p0]) X E ms_X12_67 (c_X12_isCell o6.2 p2 p3) rfl (ta0) rfl rfl (Nat.le_of_ble_eq_true rfl) (Nat.le_of_ble_eq_true rfl) (Nat.le_of_ble_eq_true rfl) (dk okd_X12_deliver 5 rfl) (st' := fun v7 => [.int v7, .ref p0]) (fun _ => rfl) (fun v7 => ?_)
      refine s_jn (κ := Int32 → Option (Int64 × St)) (fun k9 => ∀ (x8 : Int32), Jd C 8 (QJ C oLS sL) o6.2 52 [some (.ref p0), some (.int p1), some (.int p2), some (.int p3), some (.long p4), none, none, none] [.int x8, .ref p0] (k9 x8)) (fun x8 => ?_) (fun k9 h10 => ?_)
      · refine s_run X ok_X12_deliver 17 1 (pc' := 53) (vs' := [some (.ref p0), some (.int p1), some (.int p2), some (.int p3), some (.long p4), none, none, none]) (st' := [.int 2, .int x8, .ref p0]) rfl ?_
        refine s_callV (b := p0) (As := [.int x8, .int 2]) (rest := []) X E mv_X12_81 (c_X12_throwsIf o6.2 p0 x8 2) rfl (ta1 t0_) rfl (by decide) t0_ rfl rfl (Nat.le_of_ble_eq_true rfl) (Nat.le_of_ble_eq_true rfl) (Nat.le_of_ble_eq_true rfl) (dk okd_X12_deliver 10 rfl) (st' := fun o11 => [.int o11.1]) (fun _ => rfl) (fun o11 => ?_)
        refine s_if_ne (tgt := 71) X (dk okd_X12_deliver 11 rfl) (by decide) ?_ ?_
        · refine s_run X ok_X12_deliver 21 1 (pc' := 72) (vs' := [some (.ref p0), some (.int p1), some (.int p2), some (.int p3), some (.long p4), none, none, none]) (st' := [.long 0]) rfl ?_
          exact s_lret X hr (dk okd_X12_deliver 15 rfl) rfl rfl
        · refine s_run X ok_X12_deliver 18 2 (pc' := 61) (vs' := [some (.ref p0), some (.int p1), some (.int p2), some (.int p3), some (.long p4), none, none, none]) (st' := [.ref p0, .ref p0]) rfl ?_
          refine s_callV (b := p0) (As := []) (rest := [.ref p0]) X E mv_X12_201 (c_X12_isOver o11.2 p0) rfl (ta1 t0_) rfl (by decide) t0_ rfl rfl (Nat.le_of_ble_eq_true rfl) (Nat.le_of_ble_eq_true rfl) (Nat.le_of_ble_eq_true rfl) (dk okd_X12_deliver 12 rfl) (st' := fun v12 => [.int v12, .ref p0]) (fun _ => rfl) (fun v12 => ?_)
          refine s_run X ok_X12_deliver 20 1 (pc' := 65) (vs' := [some (.ref p0), some (.int p1), some (.int p2), some (.int p3), some (.long p4), none, none, none]) (st' := [.int 3, .int v12, .ref p0]) rfl ?_
          refine s_callV (b := p0) (As := [.int v12, .int 3]) (rest := []) X E mv_X12_81 (c_X12_throwsIf o11.2 p0 v12 3) rfl (ta1 t0_) rfl (by decide) t0_ rfl rfl (Nat.le_of_ble_eq_true rfl) (Nat.le_of_ble_eq_true rfl) (Nat.le_of_ble_eq_true rfl) (dk okd_X12_deliver 13 rfl) (st' := fun o13 => [.int o13.1]) (fun _ => rfl) (fun o13 => ?_)
          refine s_if_eq (tgt := 73) X (dk okd_X12_deliver 14 rfl) (by decide) ?_ ?_
          · refine s_run X ok_X12_deliver 22 2 (pc' := 75) (vs' := [some (.ref p0), some (.int p1), some (.int p2), some (.int p3), some (.long p4), none, none, none]) (st' := [.int p1, .ref p0]) rfl ?_
            refine s_callV (b := p0) (As := [.int p1]) (rest := []) X E mv_X12_118 (c_X12_isOpen o13.2 p0 p1) rfl (ta1 t0_) rfl (by decide) t0_ rfl rfl (Nat.le_of_ble_eq_true rfl) (Nat.le_of_ble_eq_true rfl) (Nat.le_of_ble_eq_true rfl) (dk okd_X12_deliver 16 rfl) (st' := fun v14 => [.int v14]) (fun _ => rfl) (fun v14 => ?_)
            refine s_if_ne (tgt := 85) X (dk okd_X12_deliver 17 rfl) (by decide) ?_ ?_
            · refine s_run X ok_X12_deliver 24 3 (pc' := 88) (vs' := [some (.ref p0), some (.int p1), some (.int p2), some (.int p3), some (.long p4), none, none, none]) (st' := [.int 3, .int p1, .ref p0]) rfl ?_
              refine s_callV (b := p0) (As := [.int p1, .int 3]) (rest := []) X E mv_X12_113 (c_X12_ofOutlet o13.2 p0 p1 3) rfl (ta1 t0_) rfl (by decide) t0_ rfl rfl (Nat.le_of_ble_eq_true rfl) (Nat.le_of_ble_eq_true rfl) (Nat.le_of_ble_eq_true rfl) (dk okd_X12_deliver 20 rfl) (st' := fun v15 => [.long v15]) (fun _ => rfl) (fun v15 => ?_)
              refine s_run X ok_X12_deliver 27 2 (pc' := 94) (vs' := [some (.ref p0), some (.int p1), some (.int p2), some (.int p3), some (.long p4), none, none, none]) (st' := [.long (v15 + p4)]) rfl ?_
              refine s_ldc2 X cl_X12_199 (dk okd_X12_deliver 21 rfl) ?_
              refine s_run X ok_X12_deliver 29 1 (pc' := 98) (vs' := [some (.ref p0), some (.int p1), some (.int p2), some (.int p3), some (.long p4), none, none, none]) (st' := [.int (lg_cmp (v15 + p4) 10000000)]) rfl ?_
              refine s_lif_le (tgt := 105) X (dk okd_X12_deliver 22 rfl) (by decide) ?_ ?_
              · refine s_run X ok_X12_deliver 30 1 (pc' := 106) (vs' := [some (.ref p0), some (.int p1), some (.int p2), some (.int p3), some (.long p4), none, none, none]) (st' := [.ref p0]) rfl ?_
                refine s_getR X fl_X12_9 t0_ (dk okd_X12_deliver 25 rfl) (fun a16 (t17 : tT C a16 14) => ?_)
                refine s_run X ok_X12_deliver 31 8 (pc' := 119) (vs' := [some (.ref p0), some (.int p1), some (.int p2), some (.int p3), some (.long p4), none, none, none]) (st' := [.int ((186 + (4 * p1)) + 3), .ref a16, .int ((186 + (4 * p1)) + 3), .ref a16]) rfl ?_
                refine s_lald X t17 (dk okd_X12_deliver 26 rfl) (fun v18 => ?_)
                refine s_run X ok_X12_deliver 39 2 (pc' := 123) (vs' := [some (.ref p0), some (.int p1), some (.int p2), some (.int p3), some (.long p4), none, none, none]) (st' := [.long (v18 + p4), .int ((186 + (4 * p1)) + 3), .ref a16]) rfl ?_
                refine s_last X t17 (dk okd_X12_deliver 27 rfl) (fun S19 => ?_)
                refine s_run X ok_X12_deliver 41 3 (pc' := 127) (vs' := [some (.ref p0), some (.int p1), some (.int p2), some (.int p3), some (.long p4), none, none, none]) (st' := [.int 0, .int p1, .ref p0]) rfl ?_
                refine s_callV (b := p0) (As := [.int p1, .int 0]) (rest := []) X E mv_X12_113 (c_X12_ofOutlet S19 p0 p1 0) rfl (ta1 t0_) rfl (by decide) t0_ rfl rfl (Nat.le_of_ble_eq_true rfl) (Nat.le_of_ble_eq_true rfl) (Nat.le_of_ble_eq_true rfl) (dk okd_X12_deliver 28 rfl) (st' := fun v20 => [.long v20]) (fun _ => rfl) (fun v20 => ?_)
                refine s_run X ok_X12_deliver 44 1 (pc' := 131) (vs' := [some (.ref p0), some (.int p1), some (.int p2), some (.int p3), some (.long p4), none, none, none]) (st' := [.int (Int64.toInt32 v20)]) rfl ?_
                refine s_nmI (fun v21 => ?_)
                refine s_run X ok_X12_deliver 45 4 (pc' := 136) (vs' := [some (.ref p0), some (.int p1), some (.int p2), some (.int p3), some (.long p4), none, some (.int v21), none]) (st' := [.int p3, .int p2, .ref p0]) rfl ?_
                refine s_callV (b := p0) (As := [.int p2, .int p3]) (rest := []) X E mv_X12_71 (c_X12_ownerOf S19 p0 p2 p3) rfl (ta1 t0_) rfl (by decide) t0_ rfl rfl (Nat.le_of_ble_eq_true rfl) (Nat.le_of_ble_eq_true rfl) (Nat.le_of_ble_eq_true rfl) (dk okd_X12_deliver 29 rfl) (st' := fun v22 => [.int v22]) (fun _ => rfl) (fun v22 => ?_)
                refine s_run X ok_X12_deliver 49 3 (pc' := 144) (vs' := [some (.ref p0), some (.int p1), some (.int p2), some (.int p3), some (.long p4), none, some (.int v21), some (.int v22)]) (st' := [.int (-1), .int v22]) rfl ?_
                refine s_jn (κ := St → Option (Int64 × St)) (fun k24 => ∀ (S23 : St), Jd C 8 (QJ C oLS sL) S23 194 [some (.ref p0), some (.int p1), none, none, none, none, none, none] [] (k24 S23)) (fun S23 => ?_) (fun k24 h25 => ?_)
                · refine s_run X ok_X12_deliver 69 3 (pc' := 197) (vs' := [some (.ref p0), some (.int p1), none, none, none, none, none, none]) (st' := [.int 3, .int p1, .ref p0]) rfl ?_
                  refine s_callV (b := p0) (As := [.int p1, .int 3]) (rest := []) X E mv_X12_113 (c_X12_ofOutlet S23 p0 p1 3) rfl (ta1 t0_) rfl (by decide) t0_ rfl rfl (Nat.le_of_ble_eq_true rfl) (Nat.le_of_ble_eq_true rfl) (Nat.le_of_ble_eq_true rfl) (dk okd_X12_deliver 39 rfl) (st' := fun v26 => [.long v26]) (fun _ => rfl) (fun v26 => ?_)
                  exact s_lret X hr (dk okd_X12_deliver 40 rfl) rfl rfl
                · refine s_icmp_eq (tgt := 194) X (dk okd_X12_deliver 30 rfl) (by decide) ?_ ?_
                  · exact s_less [true, true, false, false, false, false, false, false] rfl (h25 S19)
                  · refine s_run X ok_X12_deliver 52 2 (pc' := 151) (vs' := [some (.ref p0), some (.int p1), some (.int p2), some (.int p3), some (.long p4), none, some (.int v21), some (.int v22)]) (st' := [.int v21, .int v22]) rfl ?_
                    refine s_icmp_eq (tgt := 194) X (dk okd_X12_deliver 31 rfl) (by decide) ?_ ?_
                    · exact s_less [true, true, false, false, false, false, false, false] rfl (h25 S19)
                    · refine s_run X ok_X12_deliver 54 2 (pc' := 157) (vs' := [some (.ref p0), some (.int p1), some (.int p2), some (.int p3), some (.long p4), none, some (.int v21), some (.int v22)]) (st' := [.int v21, .ref p0]) rfl ?_
                      refine s_callV (b := p0) (As := [.int v21]) (rest := []) X E mv_X12_128 (c_X12_isActive S19 p0 v21) rfl (ta1 t0_) rfl (by decide) t0_ rfl rfl (Nat.le_of_ble_eq_true rfl) (Nat.le_of_ble_eq_true rfl) (Nat.le_of_ble_eq_true rfl) (dk okd_X12_deliver 32 rfl) (st' := fun v27 => [.int v27]) (fun _ => rfl) (fun v27 => ?_)
                      refine s_if_eq (tgt := 194) X (dk okd_X12_deliver 33 rfl) (by decide) ?_ ?_
                      · exact s_less [true, true, false, false, false, false, false, false] rfl (h25 S19)
                      · refine s_run X ok_X12_deliver 56 2 (pc' := 166) (vs' := [some (.ref p0), some (.int p1), some (.int p2), some (.int p3), some (.long p4), none, some (.int v21), some (.int v22)]) (st' := [.int v22, .ref p0]) rfl ?_
                        refine s_callV (b := p0) (As := [.int v22]) (rest := []) X E mv_X12_128 (c_X12_isActive S19 p0 v22) rfl (ta1 t0_) rfl (by decide) t0_ rfl rfl (Nat.le_of_ble_eq_true rfl) (Nat.le_of_ble_eq_true rfl) (Nat.le_of_ble_eq_true rfl) (dk okd_X12_deliver 34 rfl) (st' := fun v28 => [.int v28]) (fun _ => rfl) (fun v28 => ?_)
                        refine s_if_eq (tgt := 194) X (dk okd_X12_deliver 35 rfl) (by decide) ?_ ?_
                        · exact s_less [true, true, false, false, false, false, false, false] rfl (h25 S19)
                        · refine s_run X ok_X12_deliver 58 1 (pc' := 173) (vs' := [some (.ref p0), some (.int p1), some (.int p2), some (.int p3), some (.long p4), none, some (.int v21), some (.int v22)]) (st' := [.ref p0]) rfl ?_
                          refine s_getR X fl_X12_9 t0_ (dk okd_X12_deliver 36 rfl) (fun a29 (t30 : tT C a29 14) => ?_)
                          refine s_run X ok_X12_deliver 59 8 (pc' := 189) (vs' := [some (.ref p0), some (.int p1), some (.int p2), some (.int p3), some (.long p4), none, some (.int v21), some (.int v22)]) (st' := [.int ((1150 + (8 * v21)) + v22), .ref a29, .int ((1150 + (8 * v21)) + v22), .ref a29]) rfl ?_
                          refine s_lald X t30 (dk okd_X12_deliver 37 rfl) (fun v31 => ?_)
                          refine s_run X ok_X12_deliver 67 2 (pc' := 193) (vs' := [some (.ref p0), some (.int p1), some (.int p2), some (.int p3), some (.long p4), none, some (.int v21), some (.int v22)]) (st' := [.long (v31 + p4), .int ((1150 + (8 * v21)) + v22), .ref a29]) rfl ?_
                          refine s_last X t30 (dk okd_X12_deliver 38 rfl) (fun S32 => ?_)
                          exact s_less [true, true, false, false, false, false, false, false] rfl (h25 S32)
              · refine s_ldc2 X cl_X12_205 (dk okd_X12_deliver 23 rfl) ?_
                exact s_lret X hr (dk okd_X12_deliver 24 rfl) rfl rfl
            · refine s_ldc2 X cl_X12_48 (dk okd_X12_deliver 18 rfl) ?_
              exact s_lret X hr (dk okd_X12_deliver 19 rfl) rfl rfl
          · refine s_run X ok_X12_deliver 21 1 (pc' := 72) (vs' := [some (.ref p0), some (.int p1), some (.int p2), some (.int p3), some (.long p4), none, none, none]) (st' := [.long 0]) rfl ?_
            exact s_lret X hr (dk okd_X12_deliver 15 rfl) rfl rfl
      · refine s_jn (κ := Option (Int64 × St)) (fun k33 => Jd C 8 (QJ C oLS sL) o6.2 47 [some (.ref p0), some (.int p1), some (.int p2), some (.int p3), some (.long p4), none, none, none] [.ref p0] k33) ?_ (fun k33 h34 => ?_)
        · refine s_run X ok_X12_deliver 14 2 (pc' := 52) (vs' := [some (.ref p0), some (.int p1), some (.int p2), some (.int p3), some (.long p4), none, none, none]) (st' := [.int 1, .ref p0]) rfl ?_
          exact h10 1
        · refine s_if_eq (tgt := 47) X (dk okd_X12_deliver 6 rfl) (by decide) ?_ ?_
          · exact h34
          · refine s_run X ok_X12_deliver 12 2 (pc' := 38) (vs' := [some (.ref p0), some (.int p1), some (.int p2), some (.int p3), some (.long p4), none, none, none]) (st' := [.long 1, .long p4, .ref p0]) rfl ?_
            refine s_ldc2 X cl_X12_199 (dk okd_X12_deliver 7 rfl) ?_
            refine s_callS (As := [.long p4, .long 1, .long 10000000]) (rest := [.ref p0]) X E ms_X12_53 (c_X12_inRange o6.2 p4 1 10000000) rfl (ta0) rfl rfl (Nat.le_of_ble_eq_true rfl) (Nat.le_of_ble_eq_true rfl) (Nat.le_of_ble_eq_true rfl) (dk okd_X12_deliver 8 rfl) (st' := fun v35 => [.int v35, .ref p0]) (fun _ => rfl) (fun v35 => ?_)
            refine s_if_ne (tgt := 51) X (dk okd_X12_deliver 9 rfl) (by decide) ?_ ?_
            · refine s_run X ok_X12_deliver 16 1 (pc' := 52) (vs' := [some (.ref p0), some (.int p1), some (.int p2), some (.int p3), some (.long p4), none, none, none]) (st' := [.int 0, .ref p0]) rfl ?_
              exact h10 0
            · exact h34
  · refine s_if_ne (tgt := 18) X (dk okd_X12_deliver 2 rfl) (by decide) ?_ ?_
    · refine s_run X ok_X12_deliver 7 1 (pc' := 19) (vs' := [some (.ref p0), some (.int p1), some (.int p2), some (.int p3), some (.long p4), none, none, none]) (st' := [.int 0, .ref p0]) rfl ?_
      exact h5 0
    · refine s_run X ok_X12_deliver 5 2 (pc' := 19) (vs' := [some (.ref p0), some (.int p1), some (.int p2), some (.int p3), some (.long p4), none, none, none]) (st' := [.int 1, .ref p0]) rfl ?_
      exact h5 1
def tab_X12_sales : List En := [(0, 8, 0, 0), (1, 0, 0, 0), (5, 8, 0, 0), (6, 8, 0, 0), (7, 4, 1, 0), (14, 0, 0, 1), (15, 41, 19, 0), (18, 0, 0, 0), (19, 0, 0, 1), (26, 3, 0, 0), (27, 41, 36, 0), (30, 8, 0, 0), (31, 4, 1, 0), (32, 0, 0, 3)]
theorem ok_X12_sales : tab_X12_sales.all (okE cX12_sales) = true := by decide +kernel
def ed_X12_sales : List (Nat × Instr × Nat) := [(2, .putfield 50, 3), (8, .invokevirtual 141, 3), (11, .ifCond .ne 7, 3), (20, .invokevirtual 81, 3), (23, .ifCond .eq 7, 3), (33, .invokevirtual 113, 3), (36, .lreturn, 1)]
theorem okd_X12_sales : ed_X12_sales.all (okD cX12_sales) = true := by decide +kernel
def f_X12_sales (S : St) (p0 : Nat) (p1 : Int32) : Option (Int64 × St) := lt (uI S p0 2 0) fun (S1 : St) => cl (f_X12_isOutlet S1 p0 p1) fun (v2 : Int32) => jn (κ := Int32 → Option (Int64 × St)) (fun x3 => cl (f_X12_throwsIf S1 p0 x3 1) fun (o6 : Int32 × St) => if o6.1 = 0 then (cl (f_X12_ofOutlet o6.2 p0 p1 3) fun (v7 : Int64) => some (v7, o6.2)) else (some (0, o6.2))) fun k4 => if v2 = 0 then (k4 1) else (k4 0)
set_option maxHeartbeats 4000000 in
set_option maxRecDepth 100000 in
theorem c_X12_sales (S : St) (p0 : Nat) (p1 : Int32) : Ct yX12_sales cX12_sales 2 (some .long) 2 46 (fun _ => [.ref p0, .int p1]) [(p0, 11)] S (f_X12_sales S p0 p1) oLS sL := by
  refine Ct_of RX12 rfl (by decide) (fun _ => Nat.le_of_ble_eq_true rfl) 0 (vs := fun _ => [some (.ref p0), some (.int p1)]) (fun _ => rfl) (fun C X E hr ht => ?_)
  have t0_ : tT C p0 11 := ht (p0, 11) (by simp)
  show Jd C 2 (QJ C oLS sL) S 0 [some (.ref p0), some (.int p1)] [] (f_X12_sales S p0 p1)
  unfold f_X12_sales
  refine s_run X ok_X12_sales 0 2 (pc' := 2) (vs' := [some (.ref p0), some (.int p1)]) (st' := [.int 0, .ref p0]) rfl ?_
  refine s_putI X fp_X12_50 t0_ (dk okd_X12_sales 0 rfl) (fun S1 => ?_)
  refine s_run X ok_X12_sales 2 3 (pc' := 8) (vs' := [some (.ref p0), some (.int p1)]) (st' := [.int p1, .ref p0, .ref p0]) rfl ?_
  refine s_callV (b := p0) (As := [.int p1]) (rest := [.ref p0]) X E mv_X12_141 (c_X12_isOutlet S1 p0 p1) rfl (ta1 t0_) rfl (by decide) t0_ rfl rfl (Nat.le_of_ble_eq_true rfl) (Nat.le_of_ble_eq_true rfl) (Nat.le_of_ble_eq_true rfl) (dk okd_X12_sales 1 rfl) (st' := fun v2 => [.int v2, .ref p0]) (fun _ => rfl) (fun v2 => ?_)
  refine s_jn (κ := Int32 → Option (Int64 × St)) (fun k4 => ∀ (x3 : Int32), Jd C 2 (QJ C oLS sL) S1 19 [some (.ref p0), some (.int p1)] [.int x3, .ref p0] (k4 x3)) (fun x3 => ?_) (fun k4 h5 => ?_)
  · refine s_run X ok_X12_sales 8 1 (pc' := 20) (vs' := [some (.ref p0), some (.int p1)]) (st' := [.int 1, .int x3, .ref p0]) rfl ?_
    refine s_callV (b := p0) (As := [.int x3, .int 1]) (rest := []) X E mv_X12_81 (c_X12_throwsIf S1 p0 x3 1) rfl (ta1 t0_) rfl (by decide) t0_ rfl rfl (Nat.le_of_ble_eq_true rfl) (Nat.le_of_ble_eq_true rfl) (Nat.le_of_ble_eq_true rfl) (dk okd_X12_sales 3 rfl) (st' := fun o6 => [.int o6.1]) (fun _ => rfl) (fun o6 => ?_)
    refine s_if_eq (tgt := 30) X (dk okd_X12_sales 4 rfl) (by decide) ?_ ?_
    · refine s_run X ok_X12_sales 11 3 (pc' := 33) (vs' := [some (.ref p0), some (.int p1)]) (st' := [.int 3, .int p1, .ref p0]) rfl ?_
      refine s_callV (b := p0) (As := [.int p1, .int 3]) (rest := []) X E mv_X12_113 (c_X12_ofOutlet o6.2 p0 p1 3) rfl (ta1 t0_) rfl (by decide) t0_ rfl rfl (Nat.le_of_ble_eq_true rfl) (Nat.le_of_ble_eq_true rfl) (Nat.le_of_ble_eq_true rfl) (dk okd_X12_sales 5 rfl) (st' := fun v7 => [.long v7]) (fun _ => rfl) (fun v7 => ?_)
      exact s_lret X hr (dk okd_X12_sales 6 rfl) rfl rfl
    · refine s_run X ok_X12_sales 9 2 (pc' := 36) (vs' := [some (.ref p0), some (.int p1)]) (st' := [.long 0]) rfl ?_
      exact s_lret X hr (dk okd_X12_sales 6 rfl) rfl rfl
  · refine s_if_ne (tgt := 18) X (dk okd_X12_sales 2 rfl) (by decide) ?_ ?_
    · refine s_run X ok_X12_sales 7 1 (pc' := 19) (vs' := [some (.ref p0), some (.int p1)]) (st' := [.int 0, .ref p0]) rfl ?_
      exact h5 0
    · refine s_run X ok_X12_sales 5 2 (pc' := 19) (vs' := [some (.ref p0), some (.int p1)]) (st' := [.int 1, .ref p0]) rfl ?_
      exact h5 1
def tab_X12_isClosed : List En := [(0, 4, 1, 0), (1, 31, 0, 0), (2, 3, 0, 0), (3, 8, 0, 0), (7, 0, 0, 0), (9, 3, 1, 0), (10, 24, 0, 0)]
theorem ok_X12_isClosed : tab_X12_isClosed.all (okE cX12_isClosed) = true := by decide +kernel
def ed_X12_isClosed : List (Nat × Instr × Nat) := [(4, .getfield 9, 3), (8, .laload, 1), (11, .invokestatic 53, 3), (14, .ireturn, 1)]
theorem okd_X12_isClosed : ed_X12_isClosed.all (okD cX12_isClosed) = true := by decide +kernel
def f_X12_isClosed (S : St) (p0 : Nat) (p1 : Int32) : Option (Int32) := lt (gR S p0 0) fun (a1 : Nat) => ldJ S a1 0 fun (v3 : Int64) => cl (f_X12_inRange S (Int32.toInt64 p1) 0 (v3 - 1)) fun (v4 : Int32) => zc v4 (some v4)
set_option maxHeartbeats 4000000 in
set_option maxRecDepth 100000 in
theorem c_X12_isClosed (S : St) (p0 : Nat) (p1 : Int32) : Ct yX12_isClosed cX12_isClosed 2 (some .boolean) 1 25 (fun _ => [.ref p0, .int p1]) [(p0, 11)] S (f_X12_isClosed S p0 p1) oI (fun _ => S) := by
  refine Ct_of RX12 rfl (by decide) (fun _ => Nat.le_of_ble_eq_true rfl) 0 (vs := fun _ => [some (.ref p0), some (.int p1)]) (fun _ => rfl) (fun C X E hr ht => ?_)
  have t0_ : tT C p0 11 := ht (p0, 11) (by simp)
  show Jd C 2 (QJ C oI (fun _ => S)) S 0 [some (.ref p0), some (.int p1)] [] (f_X12_isClosed S p0 p1)
  unfold f_X12_isClosed
  refine s_run X ok_X12_isClosed 0 4 (pc' := 4) (vs' := [some (.ref p0), some (.int p1)]) (st' := [.ref p0, .long 0, .long (Int32.toInt64 p1)]) rfl ?_
  refine s_getR X fl_X12_9 t0_ (dk okd_X12_isClosed 0 rfl) (fun a1 (t2 : tT C a1 14) => ?_)
  refine s_run X ok_X12_isClosed 4 1 (pc' := 8) (vs' := [some (.ref p0), some (.int p1)]) (st' := [.int 0, .ref a1, .long 0, .long (Int32.toInt64 p1)]) rfl ?_
  refine s_lald X t2 (dk okd_X12_isClosed 1 rfl) (fun v3 => ?_)
  refine s_run X ok_X12_isClosed 5 2 (pc' := 11) (vs' := [some (.ref p0), some (.int p1)]) (st' := [.long (v3 - 1), .long 0, .long (Int32.toInt64 p1)]) rfl ?_
  refine s_callS (As := [.long (Int32.toInt64 p1), .long 0, .long (v3 - 1)]) (rest := []) X E ms_X12_53 (c_X12_inRange S (Int32.toInt64 p1) 0 (v3 - 1)) rfl (ta0) rfl rfl (Nat.le_of_ble_eq_true rfl) (Nat.le_of_ble_eq_true rfl) (Nat.le_of_ble_eq_true rfl) (dk okd_X12_isClosed 2 rfl) (st' := fun v4 => [.int v4]) (fun _ => rfl) (fun v4 => ?_)
  exact s_zret X hr (dk okd_X12_isClosed 3 rfl) rfl rfl
def tab_X12_recorded : List En := [(0, 8, 0, 0), (4, 2, 0, 1214), (7, 1, 0, 8), (9, 4, 2, 0), (10, 19, 0, 0), (11, 17, 0, 0), (12, 4, 1, 0), (13, 17, 0, 0)]
theorem ok_X12_recorded : tab_X12_recorded.all (okE cX12_recorded) = true := by decide +kernel
def ed_X12_recorded : List (Nat × Instr × Nat) := [(1, .getfield 9, 3), (14, .laload, 1), (15, .lreturn, 1)]
theorem okd_X12_recorded : ed_X12_recorded.all (okD cX12_recorded) = true := by decide +kernel
def f_X12_recorded (S : St) (p0 : Nat) (p1 : Int32) (p2 : Int32) : Option (Int64) := lt (gR S p0 0) fun (a1 : Nat) => ldJ S a1 ((1214 + (8 * p2)) + p1) fun (v3 : Int64) => some v3
set_option maxHeartbeats 4000000 in
set_option maxRecDepth 100000 in
theorem c_X12_recorded (S : St) (p0 : Nat) (p1 : Int32) (p2 : Int32) : Ct yX12_recorded cX12_recorded 3 (some .long) 0 0 (fun _ => [.ref p0, .int p1, .int p2]) [(p0, 11)] S (f_X12_recorded S p0 p1 p2) oL (fun _ => S) := by
  refine Ct_of RX12 rfl (by decide) (fun _ => Nat.le_of_ble_eq_true rfl) 0 (vs := fun _ => [some (.ref p0), some (.int p1), some (.int p2)]) (fun _ => rfl) (fun C X E hr ht => ?_)
  have t0_ : tT C p0 11 := ht (p0, 11) (by simp)
  show Jd C 3 (QJ C oL (fun _ => S)) S 0 [some (.ref p0), some (.int p1), some (.int p2)] [] (f_X12_recorded S p0 p1 p2)
  unfold f_X12_recorded
  refine s_run X ok_X12_recorded 0 1 (pc' := 1) (vs' := [some (.ref p0), some (.int p1), some (.int p2)]) (st' := [.ref p0]) rfl ?_
  refine s_getR X fl_X12_9 t0_ (dk okd_X12_recorded 0 rfl) (fun a1 (t2 : tT C a1 14) => ?_)
  refine s_run X ok_X12_recorded 1 7 (pc' := 14) (vs' := [some (.ref p0), some (.int p1), some (.int p2)]) (st' := [.int ((1214 + (8 * p2)) + p1), .ref a1]) rfl ?_
  refine s_lald X t2 (dk okd_X12_recorded 1 rfl) (fun v3 => ?_)
  exact s_lret X hr (dk okd_X12_recorded 2 rfl) rfl rfl
def tab_X12_salesOf : List En := [(0, 8, 0, 0), (1, 0, 0, 0), (5, 8, 0, 0), (6, 8, 0, 0), (7, 4, 1, 0), (14, 0, 0, 1), (15, 41, 19, 0), (18, 0, 0, 0), (19, 0, 0, 1), (26, 8, 0, 0), (27, 8, 0, 0), (28, 4, 2, 0), (35, 0, 0, 1), (36, 41, 40, 0), (39, 0, 0, 0), (40, 0, 0, 2), (47, 3, 0, 0), (48, 41, 57, 0), (51, 8, 0, 0), (52, 4, 1, 0), (53, 4, 2, 0)]
theorem ok_X12_salesOf : tab_X12_salesOf.all (okE cX12_salesOf) = true := by decide +kernel
def ed_X12_salesOf : List (Nat × Instr × Nat) := [(2, .putfield 50, 3), (8, .invokevirtual 85, 3), (11, .ifCond .ne 7, 3), (20, .invokevirtual 81, 3), (23, .ifCond .ne 24, 3), (29, .invokevirtual 207, 3), (32, .ifCond .ne 7, 3), (41, .invokevirtual 81, 3), (44, .ifCond .eq 7, 3), (54, .invokevirtual 210, 3), (57, .lreturn, 1)]
theorem okd_X12_salesOf : ed_X12_salesOf.all (okD cX12_salesOf) = true := by decide +kernel
def f_X12_salesOf (S : St) (p0 : Nat) (p1 : Int32) (p2 : Int32) : Option (Int64 × St) := lt (uI S p0 2 0) fun (S1 : St) => cl (f_X12_isFranchisee S1 p0 p1) fun (v2 : Int32) => jn (κ := Int32 → Option (Int64 × St)) (fun x3 => cl (f_X12_throwsIf S1 p0 x3 1) fun (o6 : Int32 × St) => jn (κ := St → Option (Int64 × St)) (fun S7 => some (0, S7)) fun k8 => if o6.1 = 0 then (cl (f_X12_isClosed o6.2 p0 p2) fun (v10 : Int32) => jn (κ := Int32 → Option (Int64 × St)) (fun x11 => cl (f_X12_throwsIf o6.2 p0 x11 2) fun (o14 : Int32 × St) => if o14.1 = 0 then (cl (f_X12_recorded o14.2 p0 p1 p2) fun (v15 : Int64) => some (v15, o14.2)) else (k8 o14.2)) fun k12 => if v10 = 0 then (k12 1) else (k12 0)) else (k8 o6.2)) fun k4 => if v2 = 0 then (k4 1) else (k4 0)
set_option maxHeartbeats 4000000 in
set_option maxRecDepth 100000 in
theorem c_X12_salesOf (S : St) (p0 : Nat) (p1 : Int32) (p2 : Int32) : Ct yX12_salesOf cX12_salesOf 3 (some .long) 2 46 (fun _ => [.ref p0, .int p1, .int p2]) [(p0, 11)] S (f_X12_salesOf S p0 p1 p2) oLS sL := by
  refine Ct_of RX12 rfl (by decide) (fun _ => Nat.le_of_ble_eq_true rfl) 0 (vs := fun _ => [some (.ref p0), some (.int p1), some (.int p2)]) (fun _ => rfl) (fun C X E hr ht => ?_)
  have t0_ : tT C p0 11 := ht (p0, 11) (by simp)
  show Jd C 3 (QJ C oLS sL) S 0 [some (.ref p0), some (.int p1), some (.int p2)] [] (f_X12_salesOf S p0 p1 p2)
  unfold f_X12_salesOf
  refine s_run X ok_X12_salesOf 0 2 (pc' := 2) (vs' := [some (.ref p0), some (.int p1), some (.int p2)]) (st' := [.int 0, .ref p0]) rfl ?_
  refine s_putI X fp_X12_50 t0_ (dk okd_X12_salesOf 0 rfl) (fun S1 => ?_)
  refine s_run X ok_X12_salesOf 2 3 (pc' := 8) (vs' := [some (.ref p0), some (.int p1), some (.int p2)]) (st' := [.int p1, .ref p0, .ref p0]) rfl ?_
  refine s_callV (b := p0) (As := [.int p1]) (rest := [.ref p0]) X E mv_X12_85 (c_X12_isFranchisee S1 p0 p1) rfl (ta1 t0_) rfl (by decide) t0_ rfl rfl (Nat.le_of_ble_eq_true rfl) (Nat.le_of_ble_eq_true rfl) (Nat.le_of_ble_eq_true rfl) (dk okd_X12_salesOf 1 rfl) (st' := fun v2 => [.int v2, .ref p0]) (fun _ => rfl) (fun v2 => ?_)
  refine s_jn (κ := Int32 → Option (Int64 × St)) (fun k4 => ∀ (x3 : Int32), Jd C 3 (QJ C oLS sL) S1 19 [some (.ref p0), some (.int p1), some (.int p2)] [.int x3, .ref p0] (k4 x3)) (fun x3 => ?_) (fun k4 h5 => ?_)
  · refine s_run X ok_X12_salesOf 8 1 (pc' := 20) (vs' := [some (.ref p0), some (.int p1), some (.int p2)]) (st' := [.int 1, .int x3, .ref p0]) rfl ?_
    refine s_callV (b := p0) (As := [.int x3, .int 1]) (rest := []) X E mv_X12_81 (c_X12_throwsIf S1 p0 x3 1) rfl (ta1 t0_) rfl (by decide) t0_ rfl rfl (Nat.le_of_ble_eq_true rfl) (Nat.le_of_ble_eq_true rfl) (Nat.le_of_ble_eq_true rfl) (dk okd_X12_salesOf 3 rfl) (st' := fun o6 => [.int o6.1]) (fun _ => rfl) (fun o6 => ?_)
    refine s_jn (κ := St → Option (Int64 × St)) (fun k8 => ∀ (S7 : St), Jd C 3 (QJ C oLS sL) S7 47 [none, none, none] [] (k8 S7)) (fun S7 => ?_) (fun k8 h9 => ?_)
    · refine s_run X ok_X12_salesOf 16 2 (pc' := 57) (vs' := [none, none, none]) (st' := [.long 0]) rfl ?_
      exact s_lret X hr (dk okd_X12_salesOf 10 rfl) rfl rfl
    · refine s_if_ne (tgt := 47) X (dk okd_X12_salesOf 4 rfl) (by decide) ?_ ?_
      · exact s_less [false, false, false] rfl (h9 o6.2)
      · refine s_run X ok_X12_salesOf 9 3 (pc' := 29) (vs' := [some (.ref p0), some (.int p1), some (.int p2)]) (st' := [.int p2, .ref p0, .ref p0]) rfl ?_
        refine s_callV (b := p0) (As := [.int p2]) (rest := [.ref p0]) X E mv_X12_207 (c_X12_isClosed o6.2 p0 p2) rfl (ta1 t0_) rfl (by decide) t0_ rfl rfl (Nat.le_of_ble_eq_true rfl) (Nat.le_of_ble_eq_true rfl) (Nat.le_of_ble_eq_true rfl) (dk okd_X12_salesOf 5 rfl) (st' := fun v10 => [.int v10, .ref p0]) (fun _ => rfl) (fun v10 => ?_)
        refine s_jn (κ := Int32 → Option (Int64 × St)) (fun k12 => ∀ (x11 : Int32), Jd C 3 (QJ C oLS sL) o6.2 40 [some (.ref p0), some (.int p1), some (.int p2)] [.int x11, .ref p0] (k12 x11)) (fun x11 => ?_) (fun k12 h13 => ?_)
        · refine s_run X ok_X12_salesOf 15 1 (pc' := 41) (vs' := [some (.ref p0), some (.int p1), some (.int p2)]) (st' := [.int 2, .int x11, .ref p0]) rfl ?_
          refine s_callV (b := p0) (As := [.int x11, .int 2]) (rest := []) X E mv_X12_81 (c_X12_throwsIf o6.2 p0 x11 2) rfl (ta1 t0_) rfl (by decide) t0_ rfl rfl (Nat.le_of_ble_eq_true rfl) (Nat.le_of_ble_eq_true rfl) (Nat.le_of_ble_eq_true rfl) (dk okd_X12_salesOf 7 rfl) (st' := fun o14 => [.int o14.1]) (fun _ => rfl) (fun o14 => ?_)
          refine s_if_eq (tgt := 51) X (dk okd_X12_salesOf 8 rfl) (by decide) ?_ ?_
          · refine s_run X ok_X12_salesOf 18 3 (pc' := 54) (vs' := [some (.ref p0), some (.int p1), some (.int p2)]) (st' := [.int p2, .int p1, .ref p0]) rfl ?_
            refine s_callV (b := p0) (As := [.int p1, .int p2]) (rest := []) X E mv_X12_210 (c_X12_recorded o14.2 p0 p1 p2) rfl (ta1 t0_) rfl (by decide) t0_ rfl rfl (Nat.le_of_ble_eq_true rfl) (Nat.le_of_ble_eq_true rfl) (Nat.le_of_ble_eq_true rfl) (dk okd_X12_salesOf 9 rfl) (st' := fun v15 => [.long v15]) (fun _ => rfl) (fun v15 => ?_)
            exact s_lret X hr (dk okd_X12_salesOf 10 rfl) rfl rfl
          · exact s_less [false, false, false] rfl (h9 o14.2)
        · refine s_if_ne (tgt := 39) X (dk okd_X12_salesOf 6 rfl) (by decide) ?_ ?_
          · refine s_run X ok_X12_salesOf 14 1 (pc' := 40) (vs' := [some (.ref p0), some (.int p1), some (.int p2)]) (st' := [.int 0, .ref p0]) rfl ?_
            exact h13 0
          · refine s_run X ok_X12_salesOf 12 2 (pc' := 40) (vs' := [some (.ref p0), some (.int p1), some (.int p2)]) (st' := [.int 1, .ref p0]) rfl ?_
            exact h13 1
  · refine s_if_ne (tgt := 18) X (dk okd_X12_salesOf 2 rfl) (by decide) ?_ ?_
    · refine s_run X ok_X12_salesOf 7 1 (pc' := 19) (vs' := [some (.ref p0), some (.int p1), some (.int p2)]) (st' := [.int 0, .ref p0]) rfl ?_
      exact h5 0
    · refine s_run X ok_X12_salesOf 5 2 (pc' := 19) (vs' := [some (.ref p0), some (.int p1), some (.int p2)]) (st' := [.int 1, .ref p0]) rfl ?_
      exact h5 1
def tab_X12_recordedInAll : List En := [(0, 3, 0, 0), (1, 12, 2, 0), (2, 0, 0, 0), (3, 11, 4, 0), (5, 5, 4, 0), (7, 31, 0, 0), (8, 8, 0, 0), (12, 0, 0, 0), (14, 40, 0, 0), (18, 6, 2, 0), (19, 8, 0, 0), (20, 4, 1, 0), (21, 5, 4, 0), (26, 23, 0, 0), (27, 12, 2, 0), (28, 16, 4, 1), (31, 41, 5, 0), (34, 6, 2, 0)]
theorem ok_X12_recordedInAll : tab_X12_recordedInAll.all (okE cX12_recordedInAll) = true := by decide +kernel
def ed_X12_recordedInAll : List (Nat × Instr × Nat) := [(9, .getfield 9, 3), (13, .laload, 1), (15, .ifCond .ge 19, 3), (23, .invokevirtual 210, 3), (35, .lreturn, 1)]
theorem okd_X12_recordedInAll : ed_X12_recordedInAll.all (okD cX12_recordedInAll) = true := by decide +kernel
def f_X12_recordedInAll (S : St) (p0 : Nat) (p1 : Int32) : Option (Int64) := jn (κ := Int64 → Option (Int64)) (fun x1 => some x1) fun k2 => lp (κ := Int64 → Int32 → Option (Int64)) (fun _ _ => none) (fun k6 x4 x5 => lt (gR S p0 0) fun (a8 : Nat) => ldJ S a8 0 fun (v10 : Int64) => if v10 ≤ (Int32.toInt64 x5) then (k2 x4) else (cl (f_X12_recorded S p0 p1 x5) fun (v11 : Int64) => lt (x4 + v11) fun (v12 : Int64) => k6 v12 (x5 + 1))) FU 0 0
set_option maxHeartbeats 4000000 in
set_option maxRecDepth 100000 in
theorem c_X12_recordedInAll (S : St) (p0 : Nat) (p1 : Int32) : Ct yX12_recordedInAll cX12_recordedInAll 5 (some .long) 1 22 (fun _ => [.ref p0, .int p1]) [(p0, 11)] S (f_X12_recordedInAll S p0 p1) oL (fun _ => S) := by
  refine Ct_of RX12 rfl (by decide) (fun _ => Nat.le_of_ble_eq_true rfl) 3 (vs := fun _ => [some (.ref p0), some (.int p1), none, none, none]) (fun _ => rfl) (fun C X E hr ht => ?_)
  have t0_ : tT C p0 11 := ht (p0, 11) (by simp)
  show Jd C 5 (QJ C oL (fun _ => S)) S 0 [some (.ref p0), some (.int p1), none, none, none] [] (f_X12_recordedInAll S p0 p1)
  unfold f_X12_recordedInAll
  refine s_run X ok_X12_recordedInAll 0 4 (pc' := 5) (vs' := [some (.ref p0), some (.int p1), some (.long 0), none, some (.int 0)]) (st' := []) rfl ?_
  refine s_jn (κ := Int64 → Option (Int64)) (fun k2 => ∀ (x1 : Int64), Jd C 5 (QJ C oL (fun _ => S)) S 34 [none, none, some (.long x1), none, none] [] (k2 x1)) (fun x1 => ?_) (fun k2 h3 => ?_)
  · refine s_run X ok_X12_recordedInAll 17 1 (pc' := 35) (vs' := [none, none, some (.long x1), none, none]) (st' := [.long x1]) rfl ?_
    exact s_lret X hr (dk okd_X12_recordedInAll 4 rfl) rfl rfl
  · refine s_lp (κ := Int64 → Int32 → Option (Int64)) (fun k6 => ∀ (x4 : Int64) (x5 : Int32), Jd C 5 (QJ C oL (fun _ => S)) S 5 [some (.ref p0), some (.int p1), some (.long x4), none, some (.int x5)] [] (k6 x4 x5)) (fun _ _ => s_none) (fun k6 h7 x4 x5 => ?_) FU 0 0
    refine s_run X ok_X12_recordedInAll 4 3 (pc' := 9) (vs' := [some (.ref p0), some (.int p1), some (.long x4), none, some (.int x5)]) (st' := [.ref p0, .long (Int32.toInt64 x5)]) rfl ?_
    refine s_getR X fl_X12_9 t0_ (dk okd_X12_recordedInAll 0 rfl) (fun a8 (t9 : tT C a8 14) => ?_)
    refine s_run X ok_X12_recordedInAll 7 1 (pc' := 13) (vs' := [some (.ref p0), some (.int p1), some (.long x4), none, some (.int x5)]) (st' := [.int 0, .ref a8, .long (Int32.toInt64 x5)]) rfl ?_
    refine s_lald X t9 (dk okd_X12_recordedInAll 1 rfl) (fun v10 => ?_)
    refine s_run X ok_X12_recordedInAll 8 1 (pc' := 15) (vs' := [some (.ref p0), some (.int p1), some (.long x4), none, some (.int x5)]) (st' := [.int (lg_cmp (Int32.toInt64 x5) v10)]) rfl ?_
    refine s_lif_ge (tgt := 34) X (dk okd_X12_recordedInAll 2 rfl) (by decide) ?_ ?_
    · exact s_less [false, false, true, false, false] rfl (h3 x4)
    · refine s_run X ok_X12_recordedInAll 9 4 (pc' := 23) (vs' := [some (.ref p0), some (.int p1), some (.long x4), none, some (.int x5)]) (st' := [.int x5, .int p1, .ref p0, .long x4]) rfl ?_
      refine s_callV (b := p0) (As := [.int p1, .int x5]) (rest := [.long x4]) X E mv_X12_210 (c_X12_recorded S p0 p1 x5) rfl (ta1 t0_) rfl (by decide) t0_ rfl rfl (Nat.le_of_ble_eq_true rfl) (Nat.le_of_ble_eq_true rfl) (Nat.le_of_ble_eq_true rfl) (dk okd_X12_recordedInAll 3 rfl) (st' := fun v11 => [.long v11, .long x4]) (fun _ => rfl) (fun v11 => ?_)
      refine s_run X ok_X12_recordedInAll 13 1 (pc' := 27) (vs' := [some (.ref p0), some (.int p1), some (.long x4), none, some (.int x5)]) (st' := [.long (x4 + v11)]) rfl ?_
      refine s_nmJ (fun v12 => ?_)
      refine s_run X ok_X12_recordedInAll 14 3 (pc' := 5) (vs' := [some (.ref p0), some (.int p1), some (.long v12), none, some (.int (x5 + 1))]) (st' := []) rfl ?_
      exact h7 v12 (x5 + 1)
def tab_X12_ranked : List En := [(0, 8, 0, 0), (1, 0, 0, 0), (5, 0, 0, 0), (6, 10, 2, 0), (7, 4, 2, 0), (8, 31, 0, 0), (9, 8, 0, 0), (13, 0, 0, 2), (15, 40, 0, 0), (19, 0, 0, 0), (20, 10, 3, 0), (21, 0, 0, 0), (22, 11, 4, 0), (24, 5, 4, 0), (26, 31, 0, 0), (27, 8, 0, 0), (31, 0, 0, 2), (33, 40, 0, 0), (37, 8, 0, 0), (38, 5, 4, 0), (43, 8, 0, 0), (44, 4, 2, 0), (48, 24, 0, 0), (49, 13, 5, 0), (51, 4, 3, 0), (52, 7, 5, 0), (54, 3, 0, 0), (55, 40, 0, 0), (59, 7, 5, 0), (61, 3, 0, 0), (62, 40, 0, 0), (66, 5, 4, 0), (68, 4, 2, 0), (72, 0, 0, 1), (73, 41, 77, 0), (76, 0, 0, 0), (77, 17, 0, 0), (78, 10, 3, 0), (79, 16, 4, 1), (82, 41, 24, 0), (85, 4, 3, 0), (86, 4, 1, 0), (90, 4, 2, 0), (92, 16, 2, 1), (95, 41, 7, 0), (98, 0, 0, (-1))]
theorem ok_X12_ranked : tab_X12_ranked.all (okE cX12_ranked) = true := by decide +kernel
def ed_X12_ranked : List (Nat × Instr × Nat) := [(2, .putfield 50, 3), (10, .getfield 9, 3), (14, .laload, 1), (16, .ifCond .ge 82, 3), (28, .getfield 9, 3), (32, .laload, 1), (34, .ifCond .ge 51, 3), (40, .invokevirtual 213, 3), (45, .invokevirtual 213, 3), (56, .ifCond .gt 16, 3), (63, .ifCond .ne 13, 3), (69, .if_icmp .ge 7, 3), (87, .if_icmp .ne 5, 3), (91, .ireturn, 1), (99, .ireturn, 1)]
theorem okd_X12_ranked : ed_X12_ranked.all (okD cX12_ranked) = true := by decide +kernel
def f_X12_ranked (S : St) (p0 : Nat) (p1 : Int32) : Option (Int32 × St) := lt (uI S p0 2 0) fun (S1 : St) => jn (κ := Int32 → Option (Int32 × St)) (fun x2 => some (x2, S1)) fun k3 => lp (κ := Int32 → Option (Int32 × St)) (fun _ => none) (fun k6 x5 => lt (gR S1 p0 0) fun (a8 : Nat) => ldJ S1 a8 2 fun (v10 : Int64) => if v10 ≤ (Int32.toInt64 x5) then (some ((-1), S1)) else (jn (κ := Int32 → Option (Int32 × St)) (fun x11 => if x11 = p1 then (k3 x5) else (k6 (x5 + 1))) fun k12 => lp (κ := Int32 → Int32 → Option (Int32 × St)) (fun _ _ => none) (fun k16 x14 x15 => lt (gR S1 p0 0) fun (a18 : Nat) => ldJ S1 a18 2 fun (v20 : Int64) => if v20 ≤ (Int32.toInt64 x15) then (k12 x14) else (cl (f_X12_recordedInAll S1 p0 x15) fun (v21 : Int64) => cl (f_X12_recordedInAll S1 p0 x5) fun (v22 : Int64) => lt (v21 - v22) fun (v23 : Int64) => jn (κ := Int32 → Option (Int32 × St)) (fun x24 => lt (x14 + x24) fun (v27 : Int32) => k16 v27 (x15 + 1)) fun k25 => jn (κ := Option (Int32 × St)) (k25 1) fun k28 => if 0 < v23 then (k28) else (jn (κ := Option (Int32 × St)) (k25 0) fun k30 => if v23 = 0 then (if x5 ≤ x15 then (k30) else (k28)) else (k30)))) FU 0 0)) FU 0
set_option maxHeartbeats 4000000 in
set_option maxRecDepth 100000 in
theorem c_X12_ranked (S : St) (p0 : Nat) (p1 : Int32) : Ct yX12_ranked cX12_ranked 7 (some .int) 2 46 (fun _ => [.ref p0, .int p1]) [(p0, 11)] S (f_X12_ranked S p0 p1) oIS sS := by
  refine Ct_of RX12 rfl (by decide) (fun _ => Nat.le_of_ble_eq_true rfl) 5 (vs := fun _ => [some (.ref p0), some (.int p1), none, none, none, none, none]) (fun _ => rfl) (fun C X E hr ht => ?_)
  have t0_ : tT C p0 11 := ht (p0, 11) (by simp)
  show Jd C 7 (QJ C oIS sS) S 0 [some (.ref p0), some (.int p1), none, none, none, none, none] [] (f_X12_ranked S p0 p1)
  unfold f_X12_ranked
  refine s_run X ok_X12_ranked 0 2 (pc' := 2) (vs' := [some (.ref p0), some (.int p1), none, none, none, none, none]) (st' := [.int 0, .ref p0]) rfl ?_
  refine s_putI X fp_X12_50 t0_ (dk okd_X12_ranked 0 rfl) (fun S1 => ?_)
  refine s_run X ok_X12_ranked 2 2 (pc' := 7) (vs' := [some (.ref p0), some (.int p1), some (.int 0), none, none, none, none]) (st' := []) rfl ?_
  refine s_jn (κ := Int32 → Option (Int32 × St)) (fun k3 => ∀ (x2 : Int32), Jd C 7 (QJ C oIS sS) S1 90 [none, none, some (.int x2), none, none, none, none] [] (k3 x2)) (fun x2 => ?_) (fun k3 h4 => ?_)
  · refine s_run X ok_X12_ranked 42 1 (pc' := 91) (vs' := [none, none, some (.int x2), none, none, none, none]) (st' := [.int x2]) rfl ?_
    exact s_iret X hr (dk okd_X12_ranked 13 rfl) rfl rfl
  · refine s_lp (κ := Int32 → Option (Int32 × St)) (fun k6 => ∀ (x5 : Int32), Jd C 7 (QJ C oIS sS) S1 7 [some (.ref p0), some (.int p1), some (.int x5), none, none, none, none] [] (k6 x5)) (fun _ => s_none) (fun k6 h7 x5 => ?_) FU 0
    refine s_run X ok_X12_ranked 4 3 (pc' := 10) (vs' := [some (.ref p0), some (.int p1), some (.int x5), none, none, none, none]) (st' := [.ref p0, .long (Int32.toInt64 x5)]) rfl ?_
    refine s_getR X fl_X12_9 t0_ (dk okd_X12_ranked 1 rfl) (fun a8 (t9 : tT C a8 14) => ?_)
    refine s_run X ok_X12_ranked 7 1 (pc' := 14) (vs' := [some (.ref p0), some (.int p1), some (.int x5), none, none, none, none]) (st' := [.int 2, .ref a8, .long (Int32.toInt64 x5)]) rfl ?_
    refine s_lald X t9 (dk okd_X12_ranked 2 rfl) (fun v10 => ?_)
    refine s_run X ok_X12_ranked 8 1 (pc' := 16) (vs' := [some (.ref p0), some (.int p1), some (.int x5), none, none, none, none]) (st' := [.int (lg_cmp (Int32.toInt64 x5) v10)]) rfl ?_
    refine s_lif_ge (tgt := 98) X (dk okd_X12_ranked 3 rfl) (by decide) ?_ ?_
    · refine s_run X ok_X12_ranked 45 1 (pc' := 99) (vs' := [some (.ref p0), some (.int p1), some (.int x5), none, none, none, none]) (st' := [.int (-1)]) rfl ?_
      exact s_iret X hr (dk okd_X12_ranked 14 rfl) rfl rfl
    · refine s_run X ok_X12_ranked 9 4 (pc' := 24) (vs' := [some (.ref p0), some (.int p1), some (.int x5), some (.int 0), some (.int 0), none, none]) (st' := []) rfl ?_
      refine s_jn (κ := Int32 → Option (Int32 × St)) (fun k12 => ∀ (x11 : Int32), Jd C 7 (QJ C oIS sS) S1 85 [some (.ref p0), some (.int p1), some (.int x5), some (.int x11), none, none, none] [] (k12 x11)) (fun x11 => ?_) (fun k12 h13 => ?_)
      · refine s_run X ok_X12_ranked 40 2 (pc' := 87) (vs' := [some (.ref p0), some (.int p1), some (.int x5), some (.int x11), none, none, none]) (st' := [.int p1, .int x11]) rfl ?_
        refine s_icmp_ne (tgt := 92) X (dk okd_X12_ranked 12 rfl) (by decide) ?_ ?_
        · refine s_run X ok_X12_ranked 43 2 (pc' := 7) (vs' := [some (.ref p0), some (.int p1), some (.int (x5 + 1)), some (.int x11), none, none, none]) (st' := []) rfl ?_
          exact s_less [true, true, true, false, false, false, false] rfl (h7 (x5 + 1))
        · exact s_less [false, false, true, false, false, false, false] rfl (h4 x5)
      · refine s_lp (κ := Int32 → Int32 → Option (Int32 × St)) (fun k16 => ∀ (x14 : Int32) (x15 : Int32), Jd C 7 (QJ C oIS sS) S1 24 [some (.ref p0), some (.int p1), some (.int x5), some (.int x14), some (.int x15), none, none] [] (k16 x14 x15)) (fun _ _ => s_none) (fun k16 h17 x14 x15 => ?_) FU 0 0
        refine s_run X ok_X12_ranked 13 3 (pc' := 28) (vs' := [some (.ref p0), some (.int p1), some (.int x5), some (.int x14), some (.int x15), none, none]) (st' := [.ref p0, .long (Int32.toInt64 x15)]) rfl ?_
        refine s_getR X fl_X12_9 t0_ (dk okd_X12_ranked 4 rfl) (fun a18 (t19 : tT C a18 14) => ?_)
        refine s_run X ok_X12_ranked 16 1 (pc' := 32) (vs' := [some (.ref p0), some (.int p1), some (.int x5), some (.int x14), some (.int x15), none, none]) (st' := [.int 2, .ref a18, .long (Int32.toInt64 x15)]) rfl ?_
        refine s_lald X t19 (dk okd_X12_ranked 5 rfl) (fun v20 => ?_)
        refine s_run X ok_X12_ranked 17 1 (pc' := 34) (vs' := [some (.ref p0), some (.int p1), some (.int x5), some (.int x14), some (.int x15), none, none]) (st' := [.int (lg_cmp (Int32.toInt64 x15) v20)]) rfl ?_
        refine s_lif_ge (tgt := 85) X (dk okd_X12_ranked 6 rfl) (by decide) ?_ ?_
        · exact s_less [true, true, true, true, false, false, false] rfl (h13 x14)
        · refine s_run X ok_X12_ranked 18 2 (pc' := 40) (vs' := [some (.ref p0), some (.int p1), some (.int x5), some (.int x14), some (.int x15), none, none]) (st' := [.int x15, .ref p0]) rfl ?_
          refine s_callV (b := p0) (As := [.int x15]) (rest := []) X E mv_X12_213 (c_X12_recordedInAll S1 p0 x15) rfl (ta1 t0_) rfl (by decide) t0_ rfl rfl (Nat.le_of_ble_eq_true rfl) (Nat.le_of_ble_eq_true rfl) (Nat.le_of_ble_eq_true rfl) (dk okd_X12_ranked 7 rfl) (st' := fun v21 => [.long v21]) (fun _ => rfl) (fun v21 => ?_)
          refine s_run X ok_X12_ranked 20 2 (pc' := 45) (vs' := [some (.ref p0), some (.int p1), some (.int x5), some (.int x14), some (.int x15), none, none]) (st' := [.int x5, .ref p0, .long v21]) rfl ?_
          refine s_callV (b := p0) (As := [.int x5]) (rest := [.long v21]) X E mv_X12_213 (c_X12_recordedInAll S1 p0 x5) rfl (ta1 t0_) rfl (by decide) t0_ rfl rfl (Nat.le_of_ble_eq_true rfl) (Nat.le_of_ble_eq_true rfl) (Nat.le_of_ble_eq_true rfl) (dk okd_X12_ranked 8 rfl) (st' := fun v22 => [.long v22, .long v21]) (fun _ => rfl) (fun v22 => ?_)
          refine s_run X ok_X12_ranked 22 1 (pc' := 49) (vs' := [some (.ref p0), some (.int p1), some (.int x5), some (.int x14), some (.int x15), none, none]) (st' := [.long (v21 - v22)]) rfl ?_
          refine s_nmJ (fun v23 => ?_)
          refine s_run X ok_X12_ranked 23 5 (pc' := 56) (vs' := [some (.ref p0), some (.int p1), some (.int x5), some (.int x14), some (.int x15), some (.long v23), none]) (st' := [.int (lg_cmp v23 0), .int x14]) rfl ?_
          refine s_jn (κ := Int32 → Option (Int32 × St)) (fun k25 => ∀ (x24 : Int32), Jd C 7 (QJ C oIS sS) S1 77 [some (.ref p0), some (.int p1), some (.int x5), none, some (.int x15), none, none] [.int x24, .int x14] (k25 x24)) (fun x24 => ?_) (fun k25 h26 => ?_)
          · refine s_run X ok_X12_ranked 36 1 (pc' := 78) (vs' := [some (.ref p0), some (.int p1), some (.int x5), none, some (.int x15), none, none]) (st' := [.int (x14 + x24)]) rfl ?_
            refine s_nmI (fun v27 => ?_)
            refine s_run X ok_X12_ranked 37 3 (pc' := 24) (vs' := [some (.ref p0), some (.int p1), some (.int x5), some (.int v27), some (.int (x15 + 1)), none, none]) (st' := []) rfl ?_
            exact h17 v27 (x15 + 1)
          · refine s_jn (κ := Option (Int32 × St)) (fun k28 => Jd C 7 (QJ C oIS sS) S1 72 [some (.ref p0), some (.int p1), some (.int x5), none, some (.int x15), none, none] [.int x14] k28) ?_ (fun k28 h29 => ?_)
            · refine s_run X ok_X12_ranked 33 2 (pc' := 77) (vs' := [some (.ref p0), some (.int p1), some (.int x5), none, some (.int x15), none, none]) (st' := [.int 1, .int x14]) rfl ?_
              exact h26 1
            · refine s_lif_gt (tgt := 72) X (dk okd_X12_ranked 9 rfl) (by decide) ?_ ?_
              · exact s_less [true, true, true, false, true, false, false] rfl (h29)
              · refine s_run X ok_X12_ranked 28 3 (pc' := 63) (vs' := [some (.ref p0), some (.int p1), some (.int x5), some (.int x14), some (.int x15), some (.long v23), none]) (st' := [.int (lg_cmp v23 0), .int x14]) rfl ?_
                refine s_jn (κ := Option (Int32 × St)) (fun k30 => Jd C 7 (QJ C oIS sS) S1 76 [some (.ref p0), some (.int p1), some (.int x5), none, some (.int x15), none, none] [.int x14] k30) ?_ (fun k30 h31 => ?_)
                · refine s_run X ok_X12_ranked 35 1 (pc' := 77) (vs' := [some (.ref p0), some (.int p1), some (.int x5), none, some (.int x15), none, none]) (st' := [.int 0, .int x14]) rfl ?_
                  exact h26 0
                · refine s_lif_ne (tgt := 76) X (dk okd_X12_ranked 10 rfl) (by decide) ?_ ?_
                  · exact s_less [true, true, true, false, true, false, false] rfl (h31)
                  · refine s_run X ok_X12_ranked 31 2 (pc' := 69) (vs' := [some (.ref p0), some (.int p1), some (.int x5), some (.int x14), some (.int x15), some (.long v23), none]) (st' := [.int x5, .int x15, .int x14]) rfl ?_
                    refine s_icmp_ge (tgt := 76) X (dk okd_X12_ranked 11 rfl) (by decide) ?_ ?_
                    · exact s_less [true, true, true, false, true, false, false] rfl (h31)
                    · exact s_less [true, true, true, false, true, false, false] rfl (h29)
def tab_X12_credit : List En := [(0, 8, 0, 0), (4, 2, 0, 1150), (7, 1, 0, 8), (9, 4, 1, 0), (10, 19, 0, 0), (11, 17, 0, 0), (12, 4, 2, 0), (13, 17, 0, 0), (15, 8, 0, 0), (19, 0, 0, 4), (24, 12, 3, 0), (25, 6, 3, 0), (26, 8, 0, 0), (30, 0, 0, 5), (32, 40, 0, 0), (36, 6, 3, 0), (37, 41, 46, 0), (40, 8, 0, 0), (44, 0, 0, 5)]
theorem ok_X12_credit : tab_X12_credit.all (okE cX12_credit) = true := by decide +kernel
def ed_X12_credit : List (Nat × Instr × Nat) := [(1, .getfield 9, 3), (14, .laload, 1), (16, .getfield 9, 3), (20, .laload, 1), (21, .invokestatic 187, 3), (27, .getfield 9, 3), (31, .laload, 1), (33, .ifCond .ge 7, 3), (41, .getfield 9, 3), (45, .laload, 1), (46, .lreturn, 1)]
theorem okd_X12_credit : ed_X12_credit.all (okD cX12_credit) = true := by decide +kernel
def f_X12_credit (S : St) (p0 : Nat) (p1 : Int32) (p2 : Int32) : Option (Int64) := lt (gR S p0 0) fun (a1 : Nat) => ldJ S a1 ((1150 + (8 * p1)) + p2) fun (v3 : Int64) => lt (gR S p0 0) fun (a4 : Nat) => ldJ S a4 4 fun (v6 : Int64) => cl (f_X12_rated S v3 v6) fun (v7 : Int64) => lt (gR S p0 0) fun (a8 : Nat) => ldJ S a8 5 fun (v10 : Int64) => if v10 ≤ v7 then (lt (gR S p0 0) fun (a11 : Nat) => ldJ S a11 5 fun (v13 : Int64) => some v13) else (some v7)
set_option maxHeartbeats 4000000 in
set_option maxRecDepth 100000 in
theorem c_X12_credit (S : St) (p0 : Nat) (p1 : Int32) (p2 : Int32) : Ct yX12_credit cX12_credit 5 (some .long) 2 44 (fun _ => [.ref p0, .int p1, .int p2]) [(p0, 11)] S (f_X12_credit S p0 p1 p2) oL (fun _ => S) := by
  refine Ct_of RX12 rfl (by decide) (fun _ => Nat.le_of_ble_eq_true rfl) 2 (vs := fun _ => [some (.ref p0), some (.int p1), some (.int p2), none, none]) (fun _ => rfl) (fun C X E hr ht => ?_)
  have t0_ : tT C p0 11 := ht (p0, 11) (by simp)
  show Jd C 5 (QJ C oL (fun _ => S)) S 0 [some (.ref p0), some (.int p1), some (.int p2), none, none] [] (f_X12_credit S p0 p1 p2)
  unfold f_X12_credit
  refine s_run X ok_X12_credit 0 1 (pc' := 1) (vs' := [some (.ref p0), some (.int p1), some (.int p2), none, none]) (st' := [.ref p0]) rfl ?_
  refine s_getR X fl_X12_9 t0_ (dk okd_X12_credit 0 rfl) (fun a1 (t2 : tT C a1 14) => ?_)
  refine s_run X ok_X12_credit 1 7 (pc' := 14) (vs' := [some (.ref p0), some (.int p1), some (.int p2), none, none]) (st' := [.int ((1150 + (8 * p1)) + p2), .ref a1]) rfl ?_
  refine s_lald X t2 (dk okd_X12_credit 1 rfl) (fun v3 => ?_)
  refine s_run X ok_X12_credit 8 1 (pc' := 16) (vs' := [some (.ref p0), some (.int p1), some (.int p2), none, none]) (st' := [.ref p0, .long v3]) rfl ?_
  refine s_getR X fl_X12_9 t0_ (dk okd_X12_credit 2 rfl) (fun a4 (t5 : tT C a4 14) => ?_)
  refine s_run X ok_X12_credit 9 1 (pc' := 20) (vs' := [some (.ref p0), some (.int p1), some (.int p2), none, none]) (st' := [.int 4, .ref a4, .long v3]) rfl ?_
  refine s_lald X t5 (dk okd_X12_credit 3 rfl) (fun v6 => ?_)
  refine s_callS (As := [.long v3, .long v6]) (rest := []) X E ms_X12_187 (c_X12_rated S v3 v6) rfl (ta0) rfl rfl (Nat.le_of_ble_eq_true rfl) (Nat.le_of_ble_eq_true rfl) (Nat.le_of_ble_eq_true rfl) (dk okd_X12_credit 4 rfl) (st' := fun v7 => [.long v7]) (fun _ => rfl) (fun v7 => ?_)
  refine s_run X ok_X12_credit 10 3 (pc' := 27) (vs' := [some (.ref p0), some (.int p1), some (.int p2), some (.long v7), none]) (st' := [.ref p0, .long v7]) rfl ?_
  refine s_getR X fl_X12_9 t0_ (dk okd_X12_credit 5 rfl) (fun a8 (t9 : tT C a8 14) => ?_)
  refine s_run X ok_X12_credit 13 1 (pc' := 31) (vs' := [some (.ref p0), some (.int p1), some (.int p2), some (.long v7), none]) (st' := [.int 5, .ref a8, .long v7]) rfl ?_
  refine s_lald X t9 (dk okd_X12_credit 6 rfl) (fun v10 => ?_)
  refine s_run X ok_X12_credit 14 1 (pc' := 33) (vs' := [some (.ref p0), some (.int p1), some (.int p2), some (.long v7), none]) (st' := [.int (lg_cmp v7 v10)]) rfl ?_
  refine s_lif_ge (tgt := 40) X (dk okd_X12_credit 7 rfl) (by decide) ?_ ?_
  · refine s_run X ok_X12_credit 17 1 (pc' := 41) (vs' := [some (.ref p0), some (.int p1), some (.int p2), some (.long v7), none]) (st' := [.ref p0]) rfl ?_
    refine s_getR X fl_X12_9 t0_ (dk okd_X12_credit 8 rfl) (fun a11 (t12 : tT C a11 14) => ?_)
    refine s_run X ok_X12_credit 18 1 (pc' := 45) (vs' := [some (.ref p0), some (.int p1), some (.int p2), some (.long v7), none]) (st' := [.int 5, .ref a11]) rfl ?_
    refine s_lald X t12 (dk okd_X12_credit 9 rfl) (fun v13 => ?_)
    exact s_lret X hr (dk okd_X12_credit 10 rfl) rfl rfl
  · refine s_run X ok_X12_credit 15 2 (pc' := 46) (vs' := [some (.ref p0), some (.int p1), some (.int p2), some (.long v7), none]) (st' := [.long v7]) rfl ?_
    exact s_lret X hr (dk okd_X12_credit 10 rfl) rfl rfl
def tab_X12_creditDue : List En := [(0, 8, 0, 0), (1, 0, 0, 0), (5, 8, 0, 0), (6, 8, 0, 0), (7, 4, 1, 0), (14, 8, 0, 0), (15, 4, 2, 0), (22, 0, 0, 1), (23, 41, 27, 0), (26, 0, 0, 0), (27, 0, 0, 1), (34, 4, 1, 0), (35, 4, 2, 0), (39, 3, 0, 0), (40, 41, 49, 0), (43, 8, 0, 0), (44, 4, 1, 0), (45, 4, 2, 0)]
theorem ok_X12_creditDue : tab_X12_creditDue.all (okE cX12_creditDue) = true := by decide +kernel
def ed_X12_creditDue : List (Nat × Instr × Nat) := [(2, .putfield 50, 3), (8, .invokevirtual 85, 3), (11, .ifCond .eq 11, 3), (16, .invokevirtual 85, 3), (19, .ifCond .ne 7, 3), (28, .invokevirtual 81, 3), (31, .ifCond .ne 8, 3), (36, .if_icmp .ne 7, 3), (46, .invokevirtual 217, 3), (49, .lreturn, 1)]
theorem okd_X12_creditDue : ed_X12_creditDue.all (okD cX12_creditDue) = true := by decide +kernel
def f_X12_creditDue (S : St) (p0 : Nat) (p1 : Int32) (p2 : Int32) : Option (Int64 × St) := lt (uI S p0 2 0) fun (S1 : St) => cl (f_X12_isFranchisee S1 p0 p1) fun (v2 : Int32) => jn (κ := Int32 → Option (Int64 × St)) (fun x3 => cl (f_X12_throwsIf S1 p0 x3 1) fun (o6 : Int32 × St) => jn (κ := Option (Int64 × St)) (some (0, o6.2)) fun k7 => if o6.1 = 0 then (if p1 = p2 then (k7) else (cl (f_X12_credit o6.2 p0 p1 p2) fun (v9 : Int64) => some (v9, o6.2))) else (k7)) fun k4 => jn (κ := Option (Int64 × St)) (k4 1) fun k10 => if v2 = 0 then (k10) else (cl (f_X12_isFranchisee S1 p0 p2) fun (v12 : Int32) => if v12 = 0 then (k10) else (k4 0))
set_option maxHeartbeats 4000000 in
set_option maxRecDepth 100000 in
theorem c_X12_creditDue (S : St) (p0 : Nat) (p1 : Int32) (p2 : Int32) : Ct yX12_creditDue cX12_creditDue 3 (some .long) 3 68 (fun _ => [.ref p0, .int p1, .int p2]) [(p0, 11)] S (f_X12_creditDue S p0 p1 p2) oLS sL := by
  refine Ct_of RX12 rfl (by decide) (fun _ => Nat.le_of_ble_eq_true rfl) 0 (vs := fun _ => [some (.ref p0), some (.int p1), some (.int p2)]) (fun _ => rfl) (fun C X E hr ht => ?_)
  have t0_ : tT C p0 11 := ht (p0, 11) (by simp)
  show Jd C 3 (QJ C oLS sL) S 0 [some (.ref p0), some (.int p1), some (.int p2)] [] (f_X12_creditDue S p0 p1 p2)
  unfold f_X12_creditDue
  refine s_run X ok_X12_creditDue 0 2 (pc' := 2) (vs' := [some (.ref p0), some (.int p1), some (.int p2)]) (st' := [.int 0, .ref p0]) rfl ?_
  refine s_putI X fp_X12_50 t0_ (dk okd_X12_creditDue 0 rfl) (fun S1 => ?_)
  refine s_run X ok_X12_creditDue 2 3 (pc' := 8) (vs' := [some (.ref p0), some (.int p1), some (.int p2)]) (st' := [.int p1, .ref p0, .ref p0]) rfl ?_
  refine s_callV (b := p0) (As := [.int p1]) (rest := [.ref p0]) X E mv_X12_85 (c_X12_isFranchisee S1 p0 p1) rfl (ta1 t0_) rfl (by decide) t0_ rfl rfl (Nat.le_of_ble_eq_true rfl) (Nat.le_of_ble_eq_true rfl) (Nat.le_of_ble_eq_true rfl) (dk okd_X12_creditDue 1 rfl) (st' := fun v2 => [.int v2, .ref p0]) (fun _ => rfl) (fun v2 => ?_)
  refine s_jn (κ := Int32 → Option (Int64 × St)) (fun k4 => ∀ (x3 : Int32), Jd C 3 (QJ C oLS sL) S1 27 [some (.ref p0), some (.int p1), some (.int p2)] [.int x3, .ref p0] (k4 x3)) (fun x3 => ?_) (fun k4 h5 => ?_)
  · refine s_run X ok_X12_creditDue 10 1 (pc' := 28) (vs' := [some (.ref p0), some (.int p1), some (.int p2)]) (st' := [.int 1, .int x3, .ref p0]) rfl ?_
    refine s_callV (b := p0) (As := [.int x3, .int 1]) (rest := []) X E mv_X12_81 (c_X12_throwsIf S1 p0 x3 1) rfl (ta1 t0_) rfl (by decide) t0_ rfl rfl (Nat.le_of_ble_eq_true rfl) (Nat.le_of_ble_eq_true rfl) (Nat.le_of_ble_eq_true rfl) (dk okd_X12_creditDue 5 rfl) (st' := fun o6 => [.int o6.1]) (fun _ => rfl) (fun o6 => ?_)
    refine s_jn (κ := Option (Int64 × St)) (fun k7 => Jd C 3 (QJ C oLS sL) o6.2 39 [none, none, none] [] k7) ?_ (fun k7 h8 => ?_)
    · refine s_run X ok_X12_creditDue 13 2 (pc' := 49) (vs' := [none, none, none]) (st' := [.long 0]) rfl ?_
      exact s_lret X hr (dk okd_X12_creditDue 9 rfl) rfl rfl
    · refine s_if_ne (tgt := 39) X (dk okd_X12_creditDue 6 rfl) (by decide) ?_ ?_
      · exact s_less [false, false, false] rfl (h8)
      · refine s_run X ok_X12_creditDue 11 2 (pc' := 36) (vs' := [some (.ref p0), some (.int p1), some (.int p2)]) (st' := [.int p2, .int p1]) rfl ?_
        refine s_icmp_ne (tgt := 43) X (dk okd_X12_creditDue 7 rfl) (by decide) ?_ ?_
        · refine s_run X ok_X12_creditDue 15 3 (pc' := 46) (vs' := [some (.ref p0), some (.int p1), some (.int p2)]) (st' := [.int p2, .int p1, .ref p0]) rfl ?_
          refine s_callV (b := p0) (As := [.int p1, .int p2]) (rest := []) X E mv_X12_217 (c_X12_credit o6.2 p0 p1 p2) rfl (ta1 t0_) rfl (by decide) t0_ rfl rfl (Nat.le_of_ble_eq_true rfl) (Nat.le_of_ble_eq_true rfl) (Nat.le_of_ble_eq_true rfl) (dk okd_X12_creditDue 8 rfl) (st' := fun v9 => [.long v9]) (fun _ => rfl) (fun v9 => ?_)
          exact s_lret X hr (dk okd_X12_creditDue 9 rfl) rfl rfl
        · exact s_less [false, false, false] rfl (h8)
  · refine s_jn (κ := Option (Int64 × St)) (fun k10 => Jd C 3 (QJ C oLS sL) S1 22 [some (.ref p0), some (.int p1), some (.int p2)] [.ref p0] k10) ?_ (fun k10 h11 => ?_)
    · refine s_run X ok_X12_creditDue 7 2 (pc' := 27) (vs' := [some (.ref p0), some (.int p1), some (.int p2)]) (st' := [.int 1, .ref p0]) rfl ?_
      exact h5 1
    · refine s_if_eq (tgt := 22) X (dk okd_X12_creditDue 2 rfl) (by decide) ?_ ?_
      · exact h11
      · refine s_run X ok_X12_creditDue 5 2 (pc' := 16) (vs' := [some (.ref p0), some (.int p1), some (.int p2)]) (st' := [.int p2, .ref p0, .ref p0]) rfl ?_
        refine s_callV (b := p0) (As := [.int p2]) (rest := [.ref p0]) X E mv_X12_85 (c_X12_isFranchisee S1 p0 p2) rfl (ta1 t0_) rfl (by decide) t0_ rfl rfl (Nat.le_of_ble_eq_true rfl) (Nat.le_of_ble_eq_true rfl) (Nat.le_of_ble_eq_true rfl) (dk okd_X12_creditDue 3 rfl) (st' := fun v12 => [.int v12, .ref p0]) (fun _ => rfl) (fun v12 => ?_)
        refine s_if_ne (tgt := 26) X (dk okd_X12_creditDue 4 rfl) (by decide) ?_ ?_
        · refine s_run X ok_X12_creditDue 9 1 (pc' := 27) (vs' := [some (.ref p0), some (.int p1), some (.int p2)]) (st' := [.int 0, .ref p0]) rfl ?_
          exact h5 0
        · exact h11
def tab_X12_calculate : List En := [(0, 0, 0, 0), (1, 11, 4, 0), (3, 5, 4, 0), (5, 1, 0, 7), (10, 8, 0, 0), (14, 5, 4, 0), (16, 3, 0, 0), (18, 16, 4, 1), (21, 41, 3, 0), (24, 8, 0, 0), (25, 4, 1, 0), (33, 8, 0, 0), (37, 0, 0, 0), (38, 8, 0, 0), (39, 8, 0, 0), (40, 4, 1, 0), (44, 6, 2, 0), (49, 8, 0, 0), (53, 0, 0, 1), (54, 6, 2, 0), (55, 8, 0, 0), (56, 8, 0, 0), (57, 4, 1, 0), (61, 0, 0, 0), (69, 8, 0, 0), (70, 4, 1, 0), (71, 0, 0, 4), (75, 3, 0, 0), (76, 40, 0, 0), (80, 8, 0, 0), (84, 0, 0, 2), (85, 8, 0, 0), (86, 4, 1, 0), (87, 0, 0, 4), (91, 8, 0, 0), (95, 1, 0, 6), (102, 0, 0, 0), (103, 11, 4, 0), (105, 5, 4, 0), (107, 31, 0, 0), (108, 8, 0, 0), (112, 0, 0, 2), (114, 40, 0, 0), (118, 8, 0, 0), (122, 0, 0, 3), (123, 37, 0, 0), (125, 8, 0, 0), (126, 4, 1, 0), (127, 5, 4, 0), (132, 23, 0, 0), (134, 8, 0, 0), (138, 0, 0, 4), (139, 37, 0, 0), (141, 8, 0, 0), (142, 5, 4, 0), (144, 4, 1, 0), (148, 23, 0, 0), (150, 16, 4, 1), (153, 41, 105, 0), (156, 8, 0, 0), (160, 0, 0, 5), (161, 8, 0, 0), (165, 0, 0, 0), (167, 8, 0, 0), (171, 0, 0, 1), (173, 23, 0, 0), (174, 8, 0, 0), (178, 0, 0, 2), (180, 23, 0, 0), (181, 8, 0, 0), (185, 0, 0, 3), (187, 23, 0, 0), (188, 8, 0, 0), (192, 0, 0, 4), (194, 24, 0, 0)]
theorem ok_X12_calculate : tab_X12_calculate.all (okE cX12_calculate) = true := by decide +kernel
def ed_X12_calculate : List (Nat × Instr × Nat) := [(7, .if_icmp .ge 17, 3), (11, .getfield 23, 3), (17, .lastore, 1), (26, .invokevirtual 128, 3), (29, .ifCond .ne 4, 3), (32, .return_, 1), (34, .getfield 23, 3), (41, .invokevirtual 180, 3), (45, .invokevirtual 176, 3), (48, .lastore, 1), (50, .getfield 23, 3), (58, .invokevirtual 180, 3), (62, .invokevirtual 168, 3), (65, .invokestatic 187, 3), (68, .lastore, 1), (72, .invokevirtual 63, 3), (77, .ifCond .le 25, 3), (81, .getfield 23, 3), (88, .invokevirtual 63, 3), (92, .getfield 9, 3), (97, .laload, 1), (98, .invokestatic 187, 3), (101, .lastore, 1), (109, .getfield 9, 3), (113, .laload, 1), (115, .ifCond .ge 41, 3), (119, .getfield 23, 3), (124, .laload, 1), (129, .invokevirtual 217, 3), (133, .lastore, 1), (135, .getfield 23, 3), (140, .laload, 1), (145, .invokevirtual 217, 3), (149, .lastore, 1), (157, .getfield 23, 3), (162, .getfield 23, 3), (166, .laload, 1), (168, .getfield 23, 3), (172, .laload, 1), (175, .getfield 23, 3), (179, .laload, 1), (182, .getfield 23, 3), (186, .laload, 1), (189, .getfield 23, 3), (193, .laload, 1), (195, .lastore, 1), (196, .return_, 1)]
theorem okd_X12_calculate : ed_X12_calculate.all (okD cX12_calculate) = true := by decide +kernel
def f_X12_calculate (S : St) (p0 : Nat) (p1 : Int32) (p2 : Int64) : Option (St) := jn (κ := St → Option (St)) (fun S1 => cl (f_X12_isActive S1 p0 p1) fun (v4 : Int32) => if v4 = 0 then (some S1) else (lt (gR S1 p0 5) fun (a5 : Nat) => cl (f_X12_planNow S1 p0 p1) fun (v7 : Int32) => cl (f_X12_royaltyOf S1 p0 v7 p2) fun (v8 : Int64) => stJ S1 a5 0 v8 fun (S9 : St) => lt (gR S9 p0 5) fun (a10 : Nat) => cl (f_X12_planNow S9 p0 p1) fun (v12 : Int32) => cl (f_X12_ofPlan S9 p0 v12 0) fun (v13 : Int64) => cl (f_X12_rated S9 p2 v13) fun (v14 : Int64) => stJ S9 a10 1 v14 fun (S15 : St) => cl (f_X12_of S15 p0 p1 4) fun (v16 : Int64) => jn (κ := St → Option (St)) (fun S17 => jn (κ := St → Option (St)) (fun S20 => lt (gR S20 p0 5) fun (a23 : Nat) => lt (gR S20 p0 5) fun (a25 : Nat) => ldJ S20 a25 0 fun (v27 : Int64) => lt (gR S20 p0 5) fun (a28 : Nat) => ldJ S20 a28 1 fun (v30 : Int64) => lt (gR S20 p0 5) fun (a31 : Nat) => ldJ S20 a31 2 fun (v33 : Int64) => lt (gR S20 p0 5) fun (a34 : Nat) => ldJ S20 a34 3 fun (v36 : Int64) => lt (gR S20 p0 5) fun (a37 : Nat) => ldJ S20 a37 4 fun (v39 : Int64) => stJ S20 a23 5 ((((v27 + v30) + v33) + v36) - v39) fun (S40 : St) => some S40) fun k21 => lp (κ := Int32 → St → Option (St)) (fun _ _ => none) (fun k43 x41 S42 => lt (gR S42 p0 0) fun (a45 : Nat) => ldJ S42 a45 2 fun (v47 : Int64) => if v47 ≤ (Int32.toInt64 x41) then (k21 S42) else (lt (gR S42 p0 5) fun (a48 : Nat) => ldJ S42 a48 3 fun (v50 : Int64) => cl (f_X12_credit S42 p0 p1 x41) fun (v51 : Int64) => stJ S42 a48 3 (v50 + v51) fun (S52 : St) => lt (gR S52 p0 5) fun (a53 : Nat) => ldJ S52 a53 4 fun (v55 : Int64) => cl (f_X12_credit S52 p0 x41 p1) fun (v56 : Int64) => stJ S52 a53 4 (v55 + v56) fun (S57 : St) => k43 (x41 + 1) S57)) FU 0 S17) fun k18 => if v16 ≤ 0 then (k18 S15) else (lt (gR S15 p0 5) fun (a58 : Nat) => cl (f_X12_of S15 p0 p1 4) fun (v60 : Int64) => lt (gR S15 p0 0) fun (a61 : Nat) => ldJ S15 a61 6 fun (v63 : Int64) => cl (f_X12_rated S15 v60 v63) fun (v64 : Int64) => stJ S15 a58 2 v64 fun (S65 : St) => k18 S65))) fun k2 => lp (κ := Int32 → St → Option (St)) (fun _ _ => none) (fun k68 x66 S67 => if 7 ≤ x66 then (k2 S67) else (lt (gR S67 p0 5) fun (a70 : Nat) => stJ S67 a70 x66 0 fun (S72 : St) => k68 (x66 + 1) S72)) FU 0 S
set_option maxHeartbeats 4000000 in
set_option maxRecDepth 100000 in
theorem c_X12_calculate (S : St) (p0 : Nat) (p1 : Int32) (p2 : Int64) : Ct yX12_calculate cX12_calculate 5 none 3 68 (fun _ => [.ref p0, .int p1, .long p2]) [(p0, 11)] S (f_X12_calculate S p0 p1 p2) oV sV := by
  refine Ct_of RX12 rfl (by decide) (fun _ => Nat.le_of_ble_eq_true rfl) 1 (vs := fun _ => [some (.ref p0), some (.int p1), some (.long p2), none, none]) (fun _ => rfl) (fun C X E hr ht => ?_)
  have t0_ : tT C p0 11 := ht (p0, 11) (by simp)
  show Jd C 5 (QJ C oV sV) S 0 [some (.ref p0), some (.int p1), some (.long p2), none, none] [] (f_X12_calculate S p0 p1 p2)
  unfold f_X12_calculate
  refine s_run X ok_X12_calculate 0 2 (pc' := 3) (vs' := [some (.ref p0), some (.int p1), some (.long p2), none, some (.int 0)]) (st' := []) rfl ?_
  refine s_jn (κ := St → Option (St)) (fun k2 => ∀ (S1 : St), Jd C 5 (QJ C oV sV) S1 24 [some (.ref p0), some (.int p1), some (.long p2), none, none] [] (k2 S1)) (fun S1 => ?_) (fun k2 h3 => ?_)
  · refine s_run X ok_X12_calculate 9 2 (pc' := 26) (vs' := [some (.ref p0), some (.int p1), some (.long p2), none, none]) (st' := [.int p1, .ref p0]) rfl ?_
    refine s_callV (b := p0) (As := [.int p1]) (rest := []) X E mv_X12_128 (c_X12_isActive S1 p0 p1) rfl (ta1 t0_) rfl (by decide) t0_ rfl rfl (Nat.le_of_ble_eq_true rfl) (Nat.le_of_ble_eq_true rfl) (Nat.le_of_ble_eq_true rfl) (dk okd_X12_calculate 3 rfl) (st' := fun v4 => [.int v4]) (fun _ => rfl) (fun v4 => ?_)
    refine s_if_ne (tgt := 33) X (dk okd_X12_calculate 4 rfl) (by decide) ?_ ?_
    · refine s_run X ok_X12_calculate 11 1 (pc' := 34) (vs' := [some (.ref p0), some (.int p1), some (.long p2), none, none]) (st' := [.ref p0]) rfl ?_
      refine s_getR X fl_X12_23 t0_ (dk okd_X12_calculate 6 rfl) (fun a5 (t6 : tT C a5 14) => ?_)
      refine s_run X ok_X12_calculate 12 4 (pc' := 41) (vs' := [some (.ref p0), some (.int p1), some (.long p2), none, none]) (st' := [.int p1, .ref p0, .ref p0, .int 0, .ref a5]) rfl ?_
      refine s_callV (b := p0) (As := [.int p1]) (rest := [.ref p0, .int 0, .ref a5]) X E mv_X12_180 (c_X12_planNow S1 p0 p1) rfl (ta1 t0_) rfl (by decide) t0_ rfl rfl (Nat.le_of_ble_eq_true rfl) (Nat.le_of_ble_eq_true rfl) (Nat.le_of_ble_eq_true rfl) (dk okd_X12_calculate 7 rfl) (st' := fun v7 => [.int v7, .ref p0, .int 0, .ref a5]) (fun _ => rfl) (fun v7 => ?_)
      refine s_run X ok_X12_calculate 16 1 (pc' := 45) (vs' := [some (.ref p0), some (.int p1), some (.long p2), none, none]) (st' := [.long p2, .int v7, .ref p0, .int 0, .ref a5]) rfl ?_
      refine s_callV (b := p0) (As := [.int v7, .long p2]) (rest := [.int 0, .ref a5]) X E mv_X12_176 (c_X12_royaltyOf S1 p0 v7 p2) rfl (ta1 t0_) rfl (by decide) t0_ rfl rfl (Nat.le_of_ble_eq_true rfl) (Nat.le_of_ble_eq_true rfl) (Nat.le_of_ble_eq_true rfl) (dk okd_X12_calculate 8 rfl) (st' := fun v8 => [.long v8, .int 0, .ref a5]) (fun _ => rfl) (fun v8 => ?_)
      refine s_last X t6 (dk okd_X12_calculate 9 rfl) (fun S9 => ?_)
      refine s_run X ok_X12_calculate 17 1 (pc' := 50) (vs' := [some (.ref p0), some (.int p1), some (.long p2), none, none]) (st' := [.ref p0]) rfl ?_
      refine s_getR X fl_X12_23 t0_ (dk okd_X12_calculate 10 rfl) (fun a10 (t11 : tT C a10 14) => ?_)
      refine s_run X ok_X12_calculate 18 5 (pc' := 58) (vs' := [some (.ref p0), some (.int p1), some (.long p2), none, none]) (st' := [.int p1, .ref p0, .ref p0, .long p2, .int 1, .ref a10]) rfl ?_
      refine s_callV (b := p0) (As := [.int p1]) (rest := [.ref p0, .long p2, .int 1, .ref a10]) X E mv_X12_180 (c_X12_planNow S9 p0 p1) rfl (ta1 t0_) rfl (by decide) t0_ rfl rfl (Nat.le_of_ble_eq_true rfl) (Nat.le_of_ble_eq_true rfl) (Nat.le_of_ble_eq_true rfl) (dk okd_X12_calculate 11 rfl) (st' := fun v12 => [.int v12, .ref p0, .long p2, .int 1, .ref a10]) (fun _ => rfl) (fun v12 => ?_)
      refine s_run X ok_X12_calculate 23 1 (pc' := 62) (vs' := [some (.ref p0), some (.int p1), some (.long p2), none, none]) (st' := [.int 0, .int v12, .ref p0, .long p2, .int 1, .ref a10]) rfl ?_
      refine s_callV (b := p0) (As := [.int v12, .int 0]) (rest := [.long p2, .int 1, .ref a10]) X E mv_X12_168 (c_X12_ofPlan S9 p0 v12 0) rfl (ta1 t0_) rfl (by decide) t0_ rfl rfl (Nat.le_of_ble_eq_true rfl) (Nat.le_of_ble_eq_true rfl) (Nat.le_of_ble_eq_true rfl) (dk okd_X12_calculate 12 rfl) (st' := fun v13 => [.long v13, .long p2, .int 1, .ref a10]) (fun _ => rfl) (fun v13 => ?_)
      refine s_callS (As := [.long p2, .long v13]) (rest := [.int 1, .ref a10]) X E ms_X12_187 (c_X12_rated S9 p2 v13) rfl (ta0) rfl rfl (Nat.le_of_ble_eq_true rfl) (Nat.le_of_ble_eq_true rfl) (Nat.le_of_ble_eq_true rfl) (dk okd_X12_calculate 13 rfl) (st' := fun v14 => [.long v14, .int 1, .ref a10]) (fun _ => rfl) (fun v14 => ?_)
      refine s_last X t11 (dk okd_X12_calculate 14 rfl) (fun S15 => ?_)
      refine s_run X ok_X12_calculate 24 3 (pc' := 72) (vs' := [some (.ref p0), some (.int p1), some (.long p2), none, none]) (st' := [.int 4, .int p1, .ref p0]) rfl ?_
      refine s_callV (b := p0) (As := [.int p1, .int 4]) (rest := []) X E mv_X12_63 (c_X12_of S15 p0 p1 4) rfl (ta1 t0_) rfl (by decide) t0_ rfl rfl (Nat.le_of_ble_eq_true rfl) (Nat.le_of_ble_eq_true rfl) (Nat.le_of_ble_eq_true rfl) (dk okd_X12_calculate 15 rfl) (st' := fun v16 => [.long v16]) (fun _ => rfl) (fun v16 => ?_)
      refine s_run X ok_X12_calculate 27 2 (pc' := 77) (vs' := [some (.ref p0), some (.int p1), some (.long p2), none, none]) (st' := [.int (lg_cmp v16 0)]) rfl ?_
      refine s_jn (κ := St → Option (St)) (fun k18 => ∀ (S17 : St), Jd C 5 (QJ C oV sV) S17 102 [some (.ref p0), some (.int p1), none, none, none] [] (k18 S17)) (fun S17 => ?_) (fun k18 h19 => ?_)
      · refine s_run X ok_X12_calculate 36 2 (pc' := 105) (vs' := [some (.ref p0), some (.int p1), none, none, some (.int 0)]) (st' := []) rfl ?_
        refine s_jn (κ := St → Option (St)) (fun k21 => ∀ (S20 : St), Jd C 5 (QJ C oV sV) S20 156 [some (.ref p0), none, none, none, none] [] (k21 S20)) (fun S20 => ?_) (fun k21 h22 => ?_)
        · refine s_run X ok_X12_calculate 59 1 (pc' := 157) (vs' := [some (.ref p0), none, none, none, none]) (st' := [.ref p0]) rfl ?_
          refine s_getR X fl_X12_23 t0_ (dk okd_X12_calculate 34 rfl) (fun a23 (t24 : tT C a23 14) => ?_)
          refine s_run X ok_X12_calculate 60 2 (pc' := 162) (vs' := [some (.ref p0), none, none, none, none]) (st' := [.ref p0, .int 5, .ref a23]) rfl ?_
          refine s_getR X fl_X12_23 t0_ (dk okd_X12_calculate 35 rfl) (fun a25 (t26 : tT C a25 14) => ?_)
          refine s_run X ok_X12_calculate 62 1 (pc' := 166) (vs' := [some (.ref p0), none, none, none, none]) (st' := [.int 0, .ref a25, .int 5, .ref a23]) rfl ?_
          refine s_lald X t26 (dk okd_X12_calculate 36 rfl) (fun v27 => ?_)
          refine s_run X ok_X12_calculate 63 1 (pc' := 168) (vs' := [some (.ref p0), none, none, none, none]) (st' := [.ref p0, .long v27, .int 5, .ref a23]) rfl ?_
          refine s_getR X fl_X12_23 t0_ (dk okd_X12_calculate 37 rfl) (fun a28 (t29 : tT C a28 14) => ?_)
          refine s_run X ok_X12_calculate 64 1 (pc' := 172) (vs' := [some (.ref p0), none, none, none, none]) (st' := [.int 1, .ref a28, .long v27, .int 5, .ref a23]) rfl ?_
          refine s_lald X t29 (dk okd_X12_calculate 38 rfl) (fun v30 => ?_)
          refine s_run X ok_X12_calculate 65 2 (pc' := 175) (vs' := [some (.ref p0), none, none, none, none]) (st' := [.ref p0, .long (v27 + v30), .int 5, .ref a23]) rfl ?_
          refine s_getR X fl_X12_23 t0_ (dk okd_X12_calculate 39 rfl) (fun a31 (t32 : tT C a31 14) => ?_)
          refine s_run X ok_X12_calculate 67 1 (pc' := 179) (vs' := [some (.ref p0), none, none, none, none]) (st' := [.int 2, .ref a31, .long (v27 + v30), .int 5, .ref a23]) rfl ?_
          refine s_lald X t32 (dk okd_X12_calculate 40 rfl) (fun v33 => ?_)
          refine s_run X ok_X12_calculate 68 2 (pc' := 182) (vs' := [some (.ref p0), none, none, none, none]) (st' := [.ref p0, .long ((v27 + v30) + v33), .int 5, .ref a23]) rfl ?_
          refine s_getR X fl_X12_23 t0_ (dk okd_X12_calculate 41 rfl) (fun a34 (t35 : tT C a34 14) => ?_)
          refine s_run X ok_X12_calculate 70 1 (pc' := 186) (vs' := [some (.ref p0), none, none, none, none]) (st' := [.int 3, .ref a34, .long ((v27 + v30) + v33), .int 5, .ref a23]) rfl ?_
          refine s_lald X t35 (dk okd_X12_calculate 42 rfl) (fun v36 => ?_)
          refine s_run X ok_X12_calculate 71 2 (pc' := 189) (vs' := [some (.ref p0), none, none, none, none]) (st' := [.ref p0, .long (((v27 + v30) + v33) + v36), .int 5, .ref a23]) rfl ?_
          refine s_getR X fl_X12_23 t0_ (dk okd_X12_calculate 43 rfl) (fun a37 (t38 : tT C a37 14) => ?_)
          refine s_run X ok_X12_calculate 73 1 (pc' := 193) (vs' := [some (.ref p0), none, none, none, none]) (st' := [.int 4, .ref a37, .long (((v27 + v30) + v33) + v36), .int 5, .ref a23]) rfl ?_
          refine s_lald X t38 (dk okd_X12_calculate 44 rfl) (fun v39 => ?_)
          refine s_run X ok_X12_calculate 74 1 (pc' := 195) (vs' := [some (.ref p0), none, none, none, none]) (st' := [.long ((((v27 + v30) + v33) + v36) - v39), .int 5, .ref a23]) rfl ?_
          refine s_last X t24 (dk okd_X12_calculate 45 rfl) (fun S40 => ?_)
          exact s_vret X hr (dk okd_X12_calculate 46 rfl) rfl rfl
        · refine s_lp (κ := Int32 → St → Option (St)) (fun k43 => ∀ (x41 : Int32) (S42 : St), Jd C 5 (QJ C oV sV) S42 105 [some (.ref p0), some (.int p1), none, none, some (.int x41)] [] (k43 x41 S42)) (fun _ _ => s_none) (fun k43 h44 x41 S42 => ?_) FU 0 S17
          refine s_run X ok_X12_calculate 38 3 (pc' := 109) (vs' := [some (.ref p0), some (.int p1), none, none, some (.int x41)]) (st' := [.ref p0, .long (Int32.toInt64 x41)]) rfl ?_
          refine s_getR X fl_X12_9 t0_ (dk okd_X12_calculate 23 rfl) (fun a45 (t46 : tT C a45 14) => ?_)
          refine s_run X ok_X12_calculate 41 1 (pc' := 113) (vs' := [some (.ref p0), some (.int p1), none, none, some (.int x41)]) (st' := [.int 2, .ref a45, .long (Int32.toInt64 x41)]) rfl ?_
          refine s_lald X t46 (dk okd_X12_calculate 24 rfl) (fun v47 => ?_)
          refine s_run X ok_X12_calculate 42 1 (pc' := 115) (vs' := [some (.ref p0), some (.int p1), none, none, some (.int x41)]) (st' := [.int (lg_cmp (Int32.toInt64 x41) v47)]) rfl ?_
          refine s_lif_ge (tgt := 156) X (dk okd_X12_calculate 25 rfl) (by decide) ?_ ?_
          · exact s_less [true, false, false, false, false] rfl (h22 S42)
          · refine s_run X ok_X12_calculate 43 1 (pc' := 119) (vs' := [some (.ref p0), some (.int p1), none, none, some (.int x41)]) (st' := [.ref p0]) rfl ?_
            refine s_getR X fl_X12_23 t0_ (dk okd_X12_calculate 26 rfl) (fun a48 (t49 : tT C a48 14) => ?_)
            refine s_run X ok_X12_calculate 44 2 (pc' := 124) (vs' := [some (.ref p0), some (.int p1), none, none, some (.int x41)]) (st' := [.int 3, .ref a48, .int 3, .ref a48]) rfl ?_
            refine s_lald X t49 (dk okd_X12_calculate 27 rfl) (fun v50 => ?_)
            refine s_run X ok_X12_calculate 46 3 (pc' := 129) (vs' := [some (.ref p0), some (.int p1), none, none, some (.int x41)]) (st' := [.int x41, .int p1, .ref p0, .long v50, .int 3, .ref a48]) rfl ?_
            refine s_callV (b := p0) (As := [.int p1, .int x41]) (rest := [.long v50, .int 3, .ref a48]) X E mv_X12_217 (c_X12_credit S42 p0 p1 x41) rfl (ta1 t0_) rfl (by decide) t0_ rfl rfl (Nat.le_of_ble_eq_true rfl) (Nat.le_of_ble_eq_true rfl) (Nat.le_of_ble_eq_true rfl) (dk okd_X12_calculate 28 rfl) (st' := fun v51 => [.long v51, .long v50, .int 3, .ref a48]) (fun _ => rfl) (fun v51 => ?_)
            refine s_run X ok_X12_calculate 49 1 (pc' := 133) (vs' := [some (.ref p0), some (.int p1), none, none, some (.int x41)]) (st' := [.long (v50 + v51), .int 3, .ref a48]) rfl ?_
            refine s_last X t49 (dk okd_X12_calculate 29 rfl) (fun S52 => ?_)
            refine s_run X ok_X12_calculate 50 1 (pc' := 135) (vs' := [some (.ref p0), some (.int p1), none, none, some (.int x41)]) (st' := [.ref p0]) rfl ?_
            refine s_getR X fl_X12_23 t0_ (dk okd_X12_calculate 30 rfl) (fun a53 (t54 : tT C a53 14) => ?_)
            refine s_run X ok_X12_calculate 51 2 (pc' := 140) (vs' := [some (.ref p0), some (.int p1), none, none, some (.int x41)]) (st' := [.int 4, .ref a53, .int 4, .ref a53]) rfl ?_
            refine s_lald X t54 (dk okd_X12_calculate 31 rfl) (fun v55 => ?_)
            refine s_run X ok_X12_calculate 53 3 (pc' := 145) (vs' := [some (.ref p0), some (.int p1), none, none, some (.int x41)]) (st' := [.int p1, .int x41, .ref p0, .long v55, .int 4, .ref a53]) rfl ?_
            refine s_callV (b := p0) (As := [.int x41, .int p1]) (rest := [.long v55, .int 4, .ref a53]) X E mv_X12_217 (c_X12_credit S52 p0 x41 p1) rfl (ta1 t0_) rfl (by decide) t0_ rfl rfl (Nat.le_of_ble_eq_true rfl) (Nat.le_of_ble_eq_true rfl) (Nat.le_of_ble_eq_true rfl) (dk okd_X12_calculate 32 rfl) (st' := fun v56 => [.long v56, .long v55, .int 4, .ref a53]) (fun _ => rfl) (fun v56 => ?_)
            refine s_run X ok_X12_calculate 56 1 (pc' := 149) (vs' := [some (.ref p0), some (.int p1), none, none, some (.int x41)]) (st' := [.long (v55 + v56), .int 4, .ref a53]) rfl ?_
            refine s_last X t54 (dk okd_X12_calculate 33 rfl) (fun S57 => ?_)
            refine s_run X ok_X12_calculate 57 2 (pc' := 105) (vs' := [some (.ref p0), some (.int p1), none, none, some (.int (x41 + 1))]) (st' := []) rfl ?_
            exact h44 (x41 + 1) S57
      · refine s_lif_le (tgt := 102) X (dk okd_X12_calculate 16 rfl) (by decide) ?_ ?_
        · exact s_less [true, true, false, false, false] rfl (h19 S15)
        · refine s_run X ok_X12_calculate 29 1 (pc' := 81) (vs' := [some (.ref p0), some (.int p1), some (.long p2), none, none]) (st' := [.ref p0]) rfl ?_
          refine s_getR X fl_X12_23 t0_ (dk okd_X12_calculate 17 rfl) (fun a58 (t59 : tT C a58 14) => ?_)
          refine s_run X ok_X12_calculate 30 4 (pc' := 88) (vs' := [some (.ref p0), some (.int p1), some (.long p2), none, none]) (st' := [.int 4, .int p1, .ref p0, .int 2, .ref a58]) rfl ?_
          refine s_callV (b := p0) (As := [.int p1, .int 4]) (rest := [.int 2, .ref a58]) X E mv_X12_63 (c_X12_of S15 p0 p1 4) rfl (ta1 t0_) rfl (by decide) t0_ rfl rfl (Nat.le_of_ble_eq_true rfl) (Nat.le_of_ble_eq_true rfl) (Nat.le_of_ble_eq_true rfl) (dk okd_X12_calculate 18 rfl) (st' := fun v60 => [.long v60, .int 2, .ref a58]) (fun _ => rfl) (fun v60 => ?_)
          refine s_run X ok_X12_calculate 34 1 (pc' := 92) (vs' := [some (.ref p0), some (.int p1), some (.long p2), none, none]) (st' := [.ref p0, .long v60, .int 2, .ref a58]) rfl ?_
          refine s_getR X fl_X12_9 t0_ (dk okd_X12_calculate 19 rfl) (fun a61 (t62 : tT C a61 14) => ?_)
          refine s_run X ok_X12_calculate 35 1 (pc' := 97) (vs' := [some (.ref p0), some (.int p1), some (.long p2), none, none]) (st' := [.int 6, .ref a61, .long v60, .int 2, .ref a58]) rfl ?_
          refine s_lald X t62 (dk okd_X12_calculate 20 rfl) (fun v63 => ?_)
          refine s_callS (As := [.long v60, .long v63]) (rest := [.int 2, .ref a58]) X E ms_X12_187 (c_X12_rated S15 v60 v63) rfl (ta0) rfl rfl (Nat.le_of_ble_eq_true rfl) (Nat.le_of_ble_eq_true rfl) (Nat.le_of_ble_eq_true rfl) (dk okd_X12_calculate 21 rfl) (st' := fun v64 => [.long v64, .int 2, .ref a58]) (fun _ => rfl) (fun v64 => ?_)
          refine s_last X t59 (dk okd_X12_calculate 22 rfl) (fun S65 => ?_)
          exact s_less [true, true, false, false, false] rfl (h19 S65)
    · exact s_vret X hr (dk okd_X12_calculate 5 rfl) rfl rfl
  · refine s_lp (κ := Int32 → St → Option (St)) (fun k68 => ∀ (x66 : Int32) (S67 : St), Jd C 5 (QJ C oV sV) S67 3 [some (.ref p0), some (.int p1), some (.long p2), none, some (.int x66)] [] (k68 x66 S67)) (fun _ _ => s_none) (fun k68 h69 x66 S67 => ?_) FU 0 S
    refine s_run X ok_X12_calculate 2 2 (pc' := 7) (vs' := [some (.ref p0), some (.int p1), some (.long p2), none, some (.int x66)]) (st' := [.int 7, .int x66]) rfl ?_
    refine s_icmp_ge (tgt := 24) X (dk okd_X12_calculate 0 rfl) (by decide) ?_ ?_
    · exact s_less [true, true, true, false, false] rfl (h3 S67)
    · refine s_run X ok_X12_calculate 4 1 (pc' := 11) (vs' := [some (.ref p0), some (.int p1), some (.long p2), none, some (.int x66)]) (st' := [.ref p0]) rfl ?_
      refine s_getR X fl_X12_23 t0_ (dk okd_X12_calculate 1 rfl) (fun a70 (t71 : tT C a70 14) => ?_)
      refine s_run X ok_X12_calculate 5 2 (pc' := 17) (vs' := [some (.ref p0), some (.int p1), some (.long p2), none, some (.int x66)]) (st' := [.long 0, .int x66, .ref a70]) rfl ?_
      refine s_last X t71 (dk okd_X12_calculate 2 rfl) (fun S72 => ?_)
      refine s_run X ok_X12_calculate 7 2 (pc' := 3) (vs' := [some (.ref p0), some (.int p1), some (.long p2), none, some (.int (x66 + 1))]) (st' := []) rfl ?_
      exact h69 (x66 + 1) S72
def tab_X12_invoiceRow : List En := [(0, 2, 0, 1694), (3, 1, 0, 7), (5, 1, 0, 8), (7, 4, 2, 0), (8, 19, 0, 0), (9, 4, 1, 0), (10, 17, 0, 0), (11, 19, 0, 0), (12, 17, 0, 0)]
theorem ok_X12_invoiceRow : tab_X12_invoiceRow.all (okE cX12_invoiceRow) = true := by decide +kernel
def ed_X12_invoiceRow : List (Nat × Instr × Nat) := [(13, .ireturn, 1)]
theorem okd_X12_invoiceRow : ed_X12_invoiceRow.all (okD cX12_invoiceRow) = true := by decide +kernel
def f_X12_invoiceRow (S : St) (p0 : Nat) (p1 : Int32) (p2 : Int32) : Option (Int32) := some (1694 + (7 * ((8 * p2) + p1)))
set_option maxHeartbeats 4000000 in
set_option maxRecDepth 100000 in
theorem c_X12_invoiceRow (S : St) (p0 : Nat) (p1 : Int32) (p2 : Int32) : Ct yX12_invoiceRow cX12_invoiceRow 3 (some .int) 0 0 (fun _ => [.ref p0, .int p1, .int p2]) [(p0, 11)] S (f_X12_invoiceRow S p0 p1 p2) oI (fun _ => S) := by
  refine Ct_of RX12 rfl (by decide) (fun _ => Nat.le_of_ble_eq_true rfl) 0 (vs := fun _ => [some (.ref p0), some (.int p1), some (.int p2)]) (fun _ => rfl) (fun C X E hr ht => ?_)
  have t0_ : tT C p0 11 := ht (p0, 11) (by simp)
  show Jd C 3 (QJ C oI (fun _ => S)) S 0 [some (.ref p0), some (.int p1), some (.int p2)] [] (f_X12_invoiceRow S p0 p1 p2)
  unfold f_X12_invoiceRow
  refine s_run X ok_X12_invoiceRow 0 9 (pc' := 13) (vs' := [some (.ref p0), some (.int p1), some (.int p2)]) (st' := [.int (1694 + (7 * ((8 * p2) + p1)))]) rfl ?_
  exact s_iret X hr (dk okd_X12_invoiceRow 0 rfl) rfl rfl
def tab_X12_isOpenTransfer : List En := [(0, 8, 0, 0), (1, 4, 1, 0), (2, 1, 0, 9), (7, 3, 1, 0), (8, 40, 0, 0), (12, 8, 0, 0), (13, 4, 1, 0), (14, 1, 0, 9), (22, 40, 0, 0), (26, 0, 0, 1), (27, 41, 31, 0), (30, 0, 0, 0)]
theorem ok_X12_isOpenTransfer : tab_X12_isOpenTransfer.all (okE cX12_isOpenTransfer) = true := by decide +kernel
def ed_X12_isOpenTransfer : List (Nat × Instr × Nat) := [(4, .invokevirtual 63, 3), (9, .ifCond .eq 17, 3), (16, .invokevirtual 63, 3), (19, .ldc2_w 220, 3), (23, .ifCond .ne 7, 3), (31, .ireturn, 1)]
theorem okd_X12_isOpenTransfer : ed_X12_isOpenTransfer.all (okD cX12_isOpenTransfer) = true := by decide +kernel
def f_X12_isOpenTransfer (S : St) (p0 : Nat) (p1 : Int32) : Option (Int32) := cl (f_X12_of S p0 p1 9) fun (v1 : Int64) => jn (κ := Option (Int32)) (some 1) fun k2 => if v1 = 1 then (k2) else (cl (f_X12_of S p0 p1 9) fun (v4 : Int64) => if v4 = 2 then (k2) else (some 0))
set_option maxHeartbeats 4000000 in
set_option maxRecDepth 100000 in
theorem c_X12_isOpenTransfer (S : St) (p0 : Nat) (p1 : Int32) : Ct yX12_isOpenTransfer cX12_isOpenTransfer 2 (some .boolean) 1 22 (fun _ => [.ref p0, .int p1]) [(p0, 11)] S (f_X12_isOpenTransfer S p0 p1) oI (fun _ => S) := by
  refine Ct_of RX12 rfl (by decide) (fun _ => Nat.le_of_ble_eq_true rfl) 0 (vs := fun _ => [some (.ref p0), some (.int p1)]) (fun _ => rfl) (fun C X E hr ht => ?_)
  have t0_ : tT C p0 11 := ht (p0, 11) (by simp)
  show Jd C 2 (QJ C oI (fun _ => S)) S 0 [some (.ref p0), some (.int p1)] [] (f_X12_isOpenTransfer S p0 p1)
  unfold f_X12_isOpenTransfer
  refine s_run X ok_X12_isOpenTransfer 0 3 (pc' := 4) (vs' := [some (.ref p0), some (.int p1)]) (st' := [.int 9, .int p1, .ref p0]) rfl ?_
  refine s_callV (b := p0) (As := [.int p1, .int 9]) (rest := []) X E mv_X12_63 (c_X12_of S p0 p1 9) rfl (ta1 t0_) rfl (by decide) t0_ rfl rfl (Nat.le_of_ble_eq_true rfl) (Nat.le_of_ble_eq_true rfl) (Nat.le_of_ble_eq_true rfl) (dk okd_X12_isOpenTransfer 0 rfl) (st' := fun v1 => [.long v1]) (fun _ => rfl) (fun v1 => ?_)
  refine s_run X ok_X12_isOpenTransfer 3 2 (pc' := 9) (vs' := [some (.ref p0), some (.int p1)]) (st' := [.int (lg_cmp v1 1)]) rfl ?_
  refine s_jn (κ := Option (Int32)) (fun k2 => Jd C 2 (QJ C oI (fun _ => S)) S 26 [none, none] [] k2) ?_ (fun k2 h3 => ?_)
  · refine s_run X ok_X12_isOpenTransfer 9 2 (pc' := 31) (vs' := [none, none]) (st' := [.int 1]) rfl ?_
    exact s_zret0 X hr (dk okd_X12_isOpenTransfer 5 rfl) (by decide) rfl rfl
  · refine s_lif_eq (tgt := 26) X (dk okd_X12_isOpenTransfer 1 rfl) (by decide) ?_ ?_
    · exact s_less [false, false] rfl (h3)
    · refine s_run X ok_X12_isOpenTransfer 5 3 (pc' := 16) (vs' := [some (.ref p0), some (.int p1)]) (st' := [.int 9, .int p1, .ref p0]) rfl ?_
      refine s_callV (b := p0) (As := [.int p1, .int 9]) (rest := []) X E mv_X12_63 (c_X12_of S p0 p1 9) rfl (ta1 t0_) rfl (by decide) t0_ rfl rfl (Nat.le_of_ble_eq_true rfl) (Nat.le_of_ble_eq_true rfl) (Nat.le_of_ble_eq_true rfl) (dk okd_X12_isOpenTransfer 2 rfl) (st' := fun v4 => [.long v4]) (fun _ => rfl) (fun v4 => ?_)
      refine s_ldc2 X cl_X12_220 (dk okd_X12_isOpenTransfer 3 rfl) ?_
      refine s_run X ok_X12_isOpenTransfer 8 1 (pc' := 23) (vs' := [some (.ref p0), some (.int p1)]) (st' := [.int (lg_cmp v4 2)]) rfl ?_
      refine s_lif_ne (tgt := 30) X (dk okd_X12_isOpenTransfer 4 rfl) (by decide) ?_ ?_
      · refine s_run X ok_X12_isOpenTransfer 11 1 (pc' := 31) (vs' := [some (.ref p0), some (.int p1)]) (st' := [.int 0]) rfl ?_
        exact s_zret0 X hr (dk okd_X12_isOpenTransfer 5 rfl) (by decide) rfl rfl
      · exact s_less [false, false] rfl (h3)
def tab_X12_isDelayOver : List En := [(0, 8, 0, 0), (4, 0, 0, 0), (6, 8, 0, 0), (7, 4, 1, 0), (8, 1, 0, 12), (13, 24, 0, 0), (14, 8, 0, 0), (18, 1, 0, 9), (21, 40, 0, 0), (25, 0, 0, 1), (26, 41, 30, 0), (29, 0, 0, 0)]
theorem ok_X12_isDelayOver : tab_X12_isDelayOver.all (okE cX12_isDelayOver) = true := by decide +kernel
def ed_X12_isDelayOver : List (Nat × Instr × Nat) := [(1, .getfield 9, 3), (5, .laload, 1), (10, .invokevirtual 63, 3), (15, .getfield 9, 3), (20, .laload, 1), (22, .ifCond .lt 7, 3), (30, .ireturn, 1)]
theorem okd_X12_isDelayOver : ed_X12_isDelayOver.all (okD cX12_isDelayOver) = true := by decide +kernel
def f_X12_isDelayOver (S : St) (p0 : Nat) (p1 : Int32) : Option (Int32) := lt (gR S p0 0) fun (a1 : Nat) => ldJ S a1 0 fun (v3 : Int64) => cl (f_X12_of S p0 p1 12) fun (v4 : Int64) => lt (gR S p0 0) fun (a5 : Nat) => ldJ S a5 9 fun (v7 : Int64) => if (v3 - v4) < v7 then (some 0) else (some 1)
set_option maxHeartbeats 4000000 in
set_option maxRecDepth 100000 in
theorem c_X12_isDelayOver (S : St) (p0 : Nat) (p1 : Int32) : Ct yX12_isDelayOver cX12_isDelayOver 2 (some .boolean) 1 22 (fun _ => [.ref p0, .int p1]) [(p0, 11)] S (f_X12_isDelayOver S p0 p1) oI (fun _ => S) := by
  refine Ct_of RX12 rfl (by decide) (fun _ => Nat.le_of_ble_eq_true rfl) 0 (vs := fun _ => [some (.ref p0), some (.int p1)]) (fun _ => rfl) (fun C X E hr ht => ?_)
  have t0_ : tT C p0 11 := ht (p0, 11) (by simp)
  show Jd C 2 (QJ C oI (fun _ => S)) S 0 [some (.ref p0), some (.int p1)] [] (f_X12_isDelayOver S p0 p1)
  unfold f_X12_isDelayOver
  refine s_run X ok_X12_isDelayOver 0 1 (pc' := 1) (vs' := [some (.ref p0), some (.int p1)]) (st' := [.ref p0]) rfl ?_
  refine s_getR X fl_X12_9 t0_ (dk okd_X12_isDelayOver 0 rfl) (fun a1 (t2 : tT C a1 14) => ?_)
  refine s_run X ok_X12_isDelayOver 1 1 (pc' := 5) (vs' := [some (.ref p0), some (.int p1)]) (st' := [.int 0, .ref a1]) rfl ?_
  refine s_lald X t2 (dk okd_X12_isDelayOver 1 rfl) (fun v3 => ?_)
  refine s_run X ok_X12_isDelayOver 2 3 (pc' := 10) (vs' := [some (.ref p0), some (.int p1)]) (st' := [.int 12, .int p1, .ref p0, .long v3]) rfl ?_
  refine s_callV (b := p0) (As := [.int p1, .int 12]) (rest := [.long v3]) X E mv_X12_63 (c_X12_of S p0 p1 12) rfl (ta1 t0_) rfl (by decide) t0_ rfl rfl (Nat.le_of_ble_eq_true rfl) (Nat.le_of_ble_eq_true rfl) (Nat.le_of_ble_eq_true rfl) (dk okd_X12_isDelayOver 2 rfl) (st' := fun v4 => [.long v4, .long v3]) (fun _ => rfl) (fun v4 => ?_)
  refine s_run X ok_X12_isDelayOver 5 2 (pc' := 15) (vs' := [some (.ref p0), some (.int p1)]) (st' := [.ref p0, .long (v3 - v4)]) rfl ?_
  refine s_getR X fl_X12_9 t0_ (dk okd_X12_isDelayOver 3 rfl) (fun a5 (t6 : tT C a5 14) => ?_)
  refine s_run X ok_X12_isDelayOver 7 1 (pc' := 20) (vs' := [some (.ref p0), some (.int p1)]) (st' := [.int 9, .ref a5, .long (v3 - v4)]) rfl ?_
  refine s_lald X t6 (dk okd_X12_isDelayOver 4 rfl) (fun v7 => ?_)
  refine s_run X ok_X12_isDelayOver 8 1 (pc' := 22) (vs' := [some (.ref p0), some (.int p1)]) (st' := [.int (lg_cmp (v3 - v4) v7)]) rfl ?_
  refine s_lif_lt (tgt := 29) X (dk okd_X12_isDelayOver 5 rfl) (by decide) ?_ ?_
  · refine s_run X ok_X12_isDelayOver 11 1 (pc' := 30) (vs' := [some (.ref p0), some (.int p1)]) (st' := [.int 0]) rfl ?_
    exact s_zret0 X hr (dk okd_X12_isDelayOver 6 rfl) (by decide) rfl rfl
  · refine s_run X ok_X12_isDelayOver 9 2 (pc' := 30) (vs' := [some (.ref p0), some (.int p1)]) (st' := [.int 1]) rfl ?_
    exact s_zret0 X hr (dk okd_X12_isDelayOver 6 rfl) (by decide) rfl rfl
def tab_X12_doTransfer : List En := [(0, 8, 0, 0), (1, 4, 1, 0), (2, 1, 0, 9), (10, 8, 0, 0), (11, 4, 1, 0), (12, 0, 0, 2), (13, 8, 0, 0), (14, 4, 1, 0), (15, 1, 0, 10), (23, 8, 0, 0), (24, 4, 1, 0), (25, 0, 0, 5), (26, 3, 1, 0), (30, 8, 0, 0), (31, 4, 1, 0), (32, 1, 0, 6), (34, 3, 0, 0), (38, 8, 0, 0), (39, 4, 1, 0), (40, 0, 0, 4), (41, 8, 0, 0), (45, 1, 0, 8)]
theorem ok_X12_doTransfer : tab_X12_doTransfer.all (okE cX12_doTransfer) = true := by decide +kernel
def ed_X12_doTransfer : List (Nat × Instr × Nat) := [(4, .ldc2_w 222, 3), (7, .invokevirtual 183, 3), (17, .invokevirtual 63, 3), (20, .invokevirtual 183, 3), (27, .invokevirtual 224, 3), (35, .invokevirtual 183, 3), (42, .getfield 9, 3), (47, .laload, 1), (48, .invokevirtual 224, 3), (51, .return_, 1)]
theorem okd_X12_doTransfer : ed_X12_doTransfer.all (okD cX12_doTransfer) = true := by decide +kernel
def f_X12_doTransfer (S : St) (p0 : Nat) (p1 : Int32) : Option (St) := cl (f_X12_set S p0 p1 9 4) fun (S1 : St) => cl (f_X12_of S1 p0 p1 10) fun (v2 : Int64) => cl (f_X12_set S1 p0 p1 2 v2) fun (S3 : St) => cl (f_X12_add S3 p0 p1 5 1) fun (S4 : St) => cl (f_X12_set S4 p0 p1 6 0) fun (S5 : St) => lt (gR S5 p0 0) fun (a6 : Nat) => ldJ S5 a6 8 fun (v8 : Int64) => cl (f_X12_add S5 p0 p1 4 v8) fun (S9 : St) => some S9
set_option maxHeartbeats 4000000 in
set_option maxRecDepth 100000 in
theorem c_X12_doTransfer (S : St) (p0 : Nat) (p1 : Int32) : Ct yX12_doTransfer cX12_doTransfer 2 none 1 24 (fun _ => [.ref p0, .int p1]) [(p0, 11)] S (f_X12_doTransfer S p0 p1) oV sV := by
  refine Ct_of RX12 rfl (by decide) (fun _ => Nat.le_of_ble_eq_true rfl) 0 (vs := fun _ => [some (.ref p0), some (.int p1)]) (fun _ => rfl) (fun C X E hr ht => ?_)
  have t0_ : tT C p0 11 := ht (p0, 11) (by simp)
  show Jd C 2 (QJ C oV sV) S 0 [some (.ref p0), some (.int p1)] [] (f_X12_doTransfer S p0 p1)
  unfold f_X12_doTransfer
  refine s_run X ok_X12_doTransfer 0 3 (pc' := 4) (vs' := [some (.ref p0), some (.int p1)]) (st' := [.int 9, .int p1, .ref p0]) rfl ?_
  refine s_ldc2 X cl_X12_222 (dk okd_X12_doTransfer 0 rfl) ?_
  refine s_callV (b := p0) (As := [.int p1, .int 9, .long 4]) (rest := []) X E mv_X12_183 (c_X12_set S p0 p1 9 4) rfl (ta1 t0_) rfl (by decide) t0_ rfl rfl (Nat.le_of_ble_eq_true rfl) (Nat.le_of_ble_eq_true rfl) (Nat.le_of_ble_eq_true rfl) (dk okd_X12_doTransfer 1 rfl) (st' := fun S1 => []) (fun _ => rfl) (fun S1 => ?_)
  refine s_run X ok_X12_doTransfer 3 6 (pc' := 17) (vs' := [some (.ref p0), some (.int p1)]) (st' := [.int 10, .int p1, .ref p0, .int 2, .int p1, .ref p0]) rfl ?_
  refine s_callV (b := p0) (As := [.int p1, .int 10]) (rest := [.int 2, .int p1, .ref p0]) X E mv_X12_63 (c_X12_of S1 p0 p1 10) rfl (ta1 t0_) rfl (by decide) t0_ rfl rfl (Nat.le_of_ble_eq_true rfl) (Nat.le_of_ble_eq_true rfl) (Nat.le_of_ble_eq_true rfl) (dk okd_X12_doTransfer 2 rfl) (st' := fun v2 => [.long v2, .int 2, .int p1, .ref p0]) (fun _ => rfl) (fun v2 => ?_)
  refine s_callV (b := p0) (As := [.int p1, .int 2, .long v2]) (rest := []) X E mv_X12_183 (c_X12_set S1 p0 p1 2 v2) rfl (ta1 t0_) rfl (by decide) t0_ rfl rfl (Nat.le_of_ble_eq_true rfl) (Nat.le_of_ble_eq_true rfl) (Nat.le_of_ble_eq_true rfl) (dk okd_X12_doTransfer 3 rfl) (st' := fun S3 => []) (fun _ => rfl) (fun S3 => ?_)
  refine s_run X ok_X12_doTransfer 9 4 (pc' := 27) (vs' := [some (.ref p0), some (.int p1)]) (st' := [.long 1, .int 5, .int p1, .ref p0]) rfl ?_
  refine s_callV (b := p0) (As := [.int p1, .int 5, .long 1]) (rest := []) X E mv_X12_224 (c_X12_add S3 p0 p1 5 1) rfl (ta1 t0_) rfl (by decide) t0_ rfl rfl (Nat.le_of_ble_eq_true rfl) (Nat.le_of_ble_eq_true rfl) (Nat.le_of_ble_eq_true rfl) (dk okd_X12_doTransfer 4 rfl) (st' := fun S4 => []) (fun _ => rfl) (fun S4 => ?_)
  refine s_run X ok_X12_doTransfer 13 4 (pc' := 35) (vs' := [some (.ref p0), some (.int p1)]) (st' := [.long 0, .int 6, .int p1, .ref p0]) rfl ?_
  refine s_callV (b := p0) (As := [.int p1, .int 6, .long 0]) (rest := []) X E mv_X12_183 (c_X12_set S4 p0 p1 6 0) rfl (ta1 t0_) rfl (by decide) t0_ rfl rfl (Nat.le_of_ble_eq_true rfl) (Nat.le_of_ble_eq_true rfl) (Nat.le_of_ble_eq_true rfl) (dk okd_X12_doTransfer 5 rfl) (st' := fun S5 => []) (fun _ => rfl) (fun S5 => ?_)
  refine s_run X ok_X12_doTransfer 17 4 (pc' := 42) (vs' := [some (.ref p0), some (.int p1)]) (st' := [.ref p0, .int 4, .int p1, .ref p0]) rfl ?_
  refine s_getR X fl_X12_9 t0_ (dk okd_X12_doTransfer 6 rfl) (fun a6 (t7 : tT C a6 14) => ?_)
  refine s_run X ok_X12_doTransfer 21 1 (pc' := 47) (vs' := [some (.ref p0), some (.int p1)]) (st' := [.int 8, .ref a6, .int 4, .int p1, .ref p0]) rfl ?_
  refine s_lald X t7 (dk okd_X12_doTransfer 7 rfl) (fun v8 => ?_)
  refine s_callV (b := p0) (As := [.int p1, .int 4, .long v8]) (rest := []) X E mv_X12_224 (c_X12_add S5 p0 p1 4 v8) rfl (ta1 t0_) rfl (by decide) t0_ rfl rfl (Nat.le_of_ble_eq_true rfl) (Nat.le_of_ble_eq_true rfl) (Nat.le_of_ble_eq_true rfl) (dk okd_X12_doTransfer 8 rfl) (st' := fun S9 => []) (fun _ => rfl) (fun S9 => ?_)
  exact s_vret X hr (dk okd_X12_doTransfer 9 rfl) rfl rfl
def tab_X12_closeMonth : List En := [(0, 8, 0, 0), (1, 0, 0, 0), (5, 8, 0, 0), (6, 8, 0, 0), (10, 0, 0, 1), (17, 0, 0, 0), (19, 8, 0, 0), (23, 0, 0, 0), (25, 32, 0, 0), (26, 10, 1, 0), (27, 3, 0, 0), (28, 12, 2, 0), (29, 0, 0, 0), (30, 11, 4, 0), (32, 5, 4, 0), (34, 31, 0, 0), (35, 8, 0, 0), (39, 0, 0, 2), (41, 40, 0, 0), (45, 8, 0, 0), (46, 5, 4, 0), (48, 1, 0, 100), (53, 13, 5, 0), (55, 8, 0, 0), (59, 2, 0, 1214), (62, 1, 0, 8), (64, 4, 1, 0), (65, 19, 0, 0), (66, 17, 0, 0), (67, 5, 4, 0), (69, 17, 0, 0), (70, 7, 5, 0), (73, 8, 0, 0), (74, 5, 4, 0), (76, 7, 5, 0), (81, 0, 0, 0), (82, 11, 7, 0), (84, 5, 7, 0), (86, 1, 0, 7), (91, 8, 0, 0), (95, 8, 0, 0), (96, 5, 4, 0), (98, 4, 1, 0), (102, 5, 7, 0), (104, 17, 0, 0), (105, 8, 0, 0), (109, 5, 7, 0), (113, 16, 7, 1), (116, 41, 84, 0), (119, 8, 0, 0), (120, 5, 4, 0), (128, 8, 0, 0), (129, 5, 4, 0), (131, 1, 0, 6), (133, 8, 0, 0), (134, 5, 4, 0), (136, 0, 0, 4), (140, 3, 0, 0), (141, 40, 0, 0), (145, 8, 0, 0), (146, 5, 4, 0), (148, 1, 0, 6), (153, 3, 1, 0), (154, 23, 0, 0), (155, 41, 159, 0), (158, 3, 0, 0), (162, 8, 0, 0), (163, 5, 4, 0), (165, 0, 0, 4), (166, 8, 0, 0), (170, 0, 0, 5), (175, 8, 0, 0), (176, 5, 4, 0), (178, 1, 0, 7), (180, 8, 0, 0), (184, 0, 0, 1), (189, 6, 2, 0), (190, 8, 0, 0), (194, 0, 0, 1), (196, 23, 0, 0), (197, 12, 2, 0), (198, 16, 4, 1), (201, 41, 32, 0), (204, 8, 0, 0), (208, 1, 0, 11), (210, 37, 0, 0), (212, 6, 2, 0), (213, 8, 0, 0), (217, 1, 0, 7), (223, 23, 0, 0), (225, 0, 0, 0), (226, 11, 4, 0), (228, 5, 4, 0), (230, 31, 0, 0), (231, 8, 0, 0), (235, 0, 0, 2), (237, 40, 0, 0), (241, 8, 0, 0), (242, 5, 4, 0), (244, 1, 0, 9), (252, 40, 0, 0), (256, 8, 0, 0), (257, 5, 4, 0), (265, 8, 0, 0), (266, 5, 4, 0), (271, 8, 0, 0), (275, 8, 0, 0), (276, 5, 4, 0), (278, 4, 1, 0), (282, 1, 0, 6), (284, 17, 0, 0), (285, 8, 0, 0), (286, 5, 4, 0), (288, 0, 0, 4), (293, 16, 4, 1), (296, 41, 228, 0), (299, 0, 0, 0), (300, 11, 4, 0), (302, 5, 4, 0), (304, 31, 0, 0), (305, 8, 0, 0), (309, 0, 0, 3), (311, 40, 0, 0), (315, 8, 0, 0), (319, 2, 0, 186), (322, 0, 0, 4), (323, 5, 4, 0), (325, 19, 0, 0), (326, 17, 0, 0), (327, 0, 0, 3), (328, 17, 0, 0), (329, 3, 0, 0), (331, 16, 4, 1), (334, 41, 302, 0), (337, 2, 0, 1150), (340, 11, 4, 0), (342, 5, 4, 0), (344, 2, 0, 1214), (350, 8, 0, 0), (354, 5, 4, 0), (356, 3, 0, 0), (358, 16, 4, 1), (361, 41, 342, 0), (364, 8, 0, 0), (368, 0, 0, 0), (369, 37, 0, 0), (371, 3, 1, 0), (372, 23, 0, 0), (374, 8, 0, 0), (378, 0, 0, 0), (380, 32, 0, 0)]
theorem ok_X12_closeMonth : tab_X12_closeMonth.all (okE cX12_closeMonth) = true := by decide +kernel
def ed_X12_closeMonth : List (Nat × Instr × Nat) := [(2, .putfield 50, 3), (7, .invokevirtual 201, 3), (11, .invokevirtual 81, 3), (14, .ifCond .eq 5, 3), (18, .ireturn, 1), (20, .getfield 9, 3), (24, .laload, 1), (36, .getfield 9, 3), (40, .laload, 1), (42, .ifCond .ge 162, 3), (50, .invokevirtual 191, 3), (56, .getfield 9, 3), (72, .lastore, 1), (78, .invokevirtual 227, 3), (88, .if_icmp .ge 31, 3), (92, .getfield 9, 3), (99, .invokevirtual 231, 3), (106, .getfield 23, 3), (111, .laload, 1), (112, .lastore, 1), (122, .invokevirtual 128, 3), (125, .ifCond .eq 37, 3), (137, .invokevirtual 63, 3), (142, .ifCond .le 16, 3), (150, .invokevirtual 63, 3), (159, .invokevirtual 183, 3), (167, .getfield 23, 3), (171, .laload, 1), (172, .invokevirtual 224, 3), (181, .getfield 23, 3), (185, .laload, 1), (186, .invokevirtual 224, 3), (191, .getfield 23, 3), (195, .laload, 1), (205, .getfield 9, 3), (211, .laload, 1), (214, .getfield 9, 3), (219, .laload, 1), (220, .invokestatic 187, 3), (224, .lastore, 1), (232, .getfield 9, 3), (236, .laload, 1), (238, .ifCond .ge 61, 3), (246, .invokevirtual 63, 3), (249, .ldc2_w 220, 3), (253, .ifCond .ne 18, 3), (259, .invokevirtual 234, 3), (262, .ifCond .eq 9, 3), (268, .invokevirtual 237, 3), (272, .getfield 9, 3), (279, .invokevirtual 231, 3), (289, .invokevirtual 63, 3), (292, .lastore, 1), (306, .getfield 9, 3), (310, .laload, 1), (312, .ifCond .ge 25, 3), (316, .getfield 9, 3), (330, .lastore, 1), (347, .if_icmp .ge 17, 3), (351, .getfield 9, 3), (357, .lastore, 1), (365, .getfield 9, 3), (370, .laload, 1), (373, .lastore, 1), (375, .getfield 9, 3), (379, .laload, 1), (381, .ireturn, 1)]
theorem okd_X12_closeMonth : ed_X12_closeMonth.all (okD cX12_closeMonth) = true := by decide +kernel
def f_X12_closeMonth (S : St) (p0 : Nat) : Option (Int32 × St) := lt (uI S p0 2 0) fun (S1 : St) => cl (f_X12_isOver S1 p0) fun (v2 : Int32) => cl (f_X12_throwsIf S1 p0 v2 1) fun (o3 : Int32 × St) => if o3.1 = 0 then (lt (gR o3.2 p0 0) fun (a4 : Nat) => ldJ o3.2 a4 0 fun (v6 : Int64) => lt (Int64.toInt32 v6) fun (v7 : Int32) => jn (κ := Int64 → St → Option (Int32 × St)) (fun x8 S9 => lt (gR S9 p0 0) fun (a12 : Nat) => ldJ S9 a12 11 fun (v14 : Int64) => lt (gR S9 p0 0) fun (a15 : Nat) => ldJ S9 a15 7 fun (v17 : Int64) => cl (f_X12_rated S9 x8 v17) fun (v18 : Int64) => stJ S9 a12 11 (v14 + v18) fun (S19 : St) => jn (κ := St → Option (Int32 × St)) (fun S20 => jn (κ := St → Option (Int32 × St)) (fun S23 => jn (κ := St → Option (Int32 × St)) (fun S26 => lt (gR S26 p0 0) fun (a29 : Nat) => ldJ S26 a29 0 fun (v31 : Int64) => stJ S26 a29 0 (v31 + 1) fun (S32 : St) => lt (gR S32 p0 0) fun (a33 : Nat) => ldJ S32 a33 0 fun (v35 : Int64) => some ((Int64.toInt32 v35), S32)) fun k27 => lp (κ := Int32 → St → Option (Int32 × St)) (fun _ _ => none) (fun k38 x36 S37 => if 1214 ≤ x36 then (k27 S37) else (lt (gR S37 p0 0) fun (a40 : Nat) => stJ S37 a40 x36 0 fun (S42 : St) => k38 (x36 + 1) S42)) FU 1150 S23) fun k24 => lp (κ := Int32 → St → Option (Int32 × St)) (fun _ _ => none) (fun k45 x43 S44 => lt (gR S44 p0 0) fun (a47 : Nat) => ldJ S44 a47 3 fun (v49 : Int64) => if v49 ≤ (Int32.toInt64 x43) then (k24 S44) else (lt (gR S44 p0 0) fun (a50 : Nat) => stJ S44 a50 ((186 + (4 * x43)) + 3) 0 fun (S52 : St) => k45 (x43 + 1) S52)) FU 0 S20) fun k21 => lp (κ := Int32 → St → Option (Int32 × St)) (fun _ _ => none) (fun k55 x53 S54 => lt (gR S54 p0 0) fun (a57 : Nat) => ldJ S54 a57 2 fun (v59 : Int64) => if v59 ≤ (Int32.toInt64 x53) then (k21 S54) else (cl (f_X12_of S54 p0 x53 9) fun (v60 : Int64) => jn (κ := St → Option (Int32 × St)) (fun S61 => lt (gR S61 p0 0) fun (a64 : Nat) => cl (f_X12_invoiceRow S61 p0 x53 v7) fun (v66 : Int32) => cl (f_X12_of S61 p0 x53 4) fun (v67 : Int64) => stJ S61 a64 (v66 + 6) v67 fun (S68 : St) => k55 (x53 + 1) S68) fun k62 => if v60 = 2 then (cl (f_X12_isDelayOver S54 p0 x53) fun (v69 : Int32) => if v69 = 0 then (k62 S54) else (cl (f_X12_doTransfer S54 p0 x53) fun (S70 : St) => k62 S70)) else (k62 S54))) FU 0 S19) fun k10 => lp (κ := Int64 → Int32 → St → Option (Int32 × St)) (fun _ _ _ => none) (fun k74 x71 x72 S73 => lt (gR S73 p0 0) fun (a76 : Nat) => ldJ S73 a76 2 fun (v78 : Int64) => if v78 ≤ (Int32.toInt64 x72) then (k10 x71 S73) else (cl (f_X12_salesNow S73 p0 x72 100) fun (v79 : Int64) => lt (gR S73 p0 0) fun (a80 : Nat) => stJ S73 a80 ((1214 + (8 * v7)) + x72) v79 fun (S82 : St) => cl (f_X12_calculate S82 p0 x72 v79) fun (S83 : St) => jn (κ := St → Option (Int32 × St)) (fun S84 => cl (f_X12_isActive S84 p0 x72) fun (v87 : Int32) => jn (κ := St → Option (Int32 × St)) (fun S88 => lt (gR S88 p0 5) fun (a91 : Nat) => ldJ S88 a91 5 fun (v93 : Int64) => cl (f_X12_add S88 p0 x72 4 v93) fun (S94 : St) => lt (gR S94 p0 5) fun (a95 : Nat) => ldJ S94 a95 1 fun (v97 : Int64) => cl (f_X12_add S94 p0 x72 7 v97) fun (S98 : St) => lt (gR S98 p0 5) fun (a99 : Nat) => ldJ S98 a99 1 fun (v101 : Int64) => lt (x71 + v101) fun (v102 : Int64) => k74 v102 (x72 + 1) S98) fun k89 => if v87 = 0 then (k89 S84) else (cl (f_X12_of S84 p0 x72 4) fun (v103 : Int64) => jn (κ := Int64 → Option (Int32 × St)) (fun x104 => cl (f_X12_set S84 p0 x72 6 x104) fun (S107 : St) => k89 S107) fun k105 => if v103 ≤ 0 then (k105 0) else (cl (f_X12_of S84 p0 x72 6) fun (v108 : Int64) => k105 (v108 + 1)))) fun k85 => lp (κ := Int32 → St → Option (Int32 × St)) (fun _ _ => none) (fun k111 x109 S110 => if 7 ≤ x109 then (k85 S110) else (lt (gR S110 p0 0) fun (a113 : Nat) => cl (f_X12_invoiceRow S110 p0 x72 v7) fun (v115 : Int32) => lt (gR S110 p0 5) fun (a116 : Nat) => ldJ S110 a116 x109 fun (v118 : Int64) => stJ S110 a113 (v115 + x109) v118 fun (S119 : St) => k111 (x109 + 1) S119)) FU 0 S83)) FU 0 0 o3.2) else (some (0, o3.2))
set_option maxHeartbeats 4000000 in
set_option maxRecDepth 100000 in
theorem c_X12_closeMonth (S : St) (p0 : Nat) : Ct yX12_closeMonth cX12_closeMonth 8 (some .int) 4 92 (fun _ => [.ref p0]) [(p0, 11)] S (f_X12_closeMonth S p0) oIS sS := by
  refine Ct_of RX12 rfl (by decide) (fun _ => Nat.le_of_ble_eq_true rfl) 7 (vs := fun _ => [some (.ref p0), none, none, none, none, none, none, none]) (fun _ => rfl) (fun C X E hr ht => ?_)
  have t0_ : tT C p0 11 := ht (p0, 11) (by simp)
  show Jd C 8 (QJ C oIS sS) S 0 [some (.ref p0), none, none, none, none, none, none, none] [] (f_X12_closeMonth S p0)
  unfold f_X12_closeMonth
  refine s_run X ok_X12_closeMonth 0 2 (pc' := 2) (vs' := [some (.ref p0), none, none, none, none, none, none, none]) (st' := [.int 0, .ref p0]) rfl ?_
  refine s_putI X fp_X12_50 t0_ (dk okd_X12_closeMonth 0 rfl) (fun S1 => ?_)
  refine s_run X ok_X12_closeMonth 2 2 (pc' := 7) (vs' := [some (.ref p0), none, none, none, none, none, none, none]) (st' := [.ref p0, .ref p0]) rfl ?_
  refine s_callV (b := p0) (As := []) (rest := [.ref p0]) X E mv_X12_201 (c_X12_isOver S1 p0) rfl (ta1 t0_) rfl (by decide) t0_ rfl rfl (Nat.le_of_ble_eq_true rfl) (Nat.le_of_ble_eq_true rfl) (Nat.le_of_ble_eq_true rfl) (dk okd_X12_closeMonth 1 rfl) (st' := fun v2 => [.int v2, .ref p0]) (fun _ => rfl) (fun v2 => ?_)
  refine s_run X ok_X12_closeMonth 4 1 (pc' := 11) (vs' := [some (.ref p0), none, none, none, none, none, none, none]) (st' := [.int 1, .int v2, .ref p0]) rfl ?_
  refine s_callV (b := p0) (As := [.int v2, .int 1]) (rest := []) X E mv_X12_81 (c_X12_throwsIf S1 p0 v2 1) rfl (ta1 t0_) rfl (by decide) t0_ rfl rfl (Nat.le_of_ble_eq_true rfl) (Nat.le_of_ble_eq_true rfl) (Nat.le_of_ble_eq_true rfl) (dk okd_X12_closeMonth 2 rfl) (st' := fun o3 => [.int o3.1]) (fun _ => rfl) (fun o3 => ?_)
  refine s_if_eq (tgt := 19) X (dk okd_X12_closeMonth 3 rfl) (by decide) ?_ ?_
  · refine s_run X ok_X12_closeMonth 6 1 (pc' := 20) (vs' := [some (.ref p0), none, none, none, none, none, none, none]) (st' := [.ref p0]) rfl ?_
    refine s_getR X fl_X12_9 t0_ (dk okd_X12_closeMonth 5 rfl) (fun a4 (t5 : tT C a4 14) => ?_)
    refine s_run X ok_X12_closeMonth 7 1 (pc' := 24) (vs' := [some (.ref p0), none, none, none, none, none, none, none]) (st' := [.int 0, .ref a4]) rfl ?_
    refine s_lald X t5 (dk okd_X12_closeMonth 6 rfl) (fun v6 => ?_)
    refine s_run X ok_X12_closeMonth 8 1 (pc' := 26) (vs' := [some (.ref p0), none, none, none, none, none, none, none]) (st' := [.int (Int64.toInt32 v6)]) rfl ?_
    refine s_nmI (fun v7 => ?_)
    refine s_run X ok_X12_closeMonth 9 5 (pc' := 32) (vs' := [some (.ref p0), some (.int v7), some (.long 0), none, some (.int 0), none, none, none]) (st' := []) rfl ?_
    refine s_jn (κ := Int64 → St → Option (Int32 × St)) (fun k10 => ∀ (x8 : Int64) (S9 : St), Jd C 8 (QJ C oIS sS) S9 204 [some (.ref p0), some (.int v7), some (.long x8), none, none, none, none, none] [] (k10 x8 S9)) (fun x8 S9 => ?_) (fun k10 h11 => ?_)
    · refine s_run X ok_X12_closeMonth 83 1 (pc' := 205) (vs' := [some (.ref p0), some (.int v7), some (.long x8), none, none, none, none, none]) (st' := [.ref p0]) rfl ?_
      refine s_getR X fl_X12_9 t0_ (dk okd_X12_closeMonth 34 rfl) (fun a12 (t13 : tT C a12 14) => ?_)
      refine s_run X ok_X12_closeMonth 84 2 (pc' := 211) (vs' := [some (.ref p0), some (.int v7), some (.long x8), none, none, none, none, none]) (st' := [.int 11, .ref a12, .int 11, .ref a12]) rfl ?_
      refine s_lald X t13 (dk okd_X12_closeMonth 35 rfl) (fun v14 => ?_)
      refine s_run X ok_X12_closeMonth 86 2 (pc' := 214) (vs' := [some (.ref p0), some (.int v7), some (.long x8), none, none, none, none, none]) (st' := [.ref p0, .long x8, .long v14, .int 11, .ref a12]) rfl ?_
      refine s_getR X fl_X12_9 t0_ (dk okd_X12_closeMonth 36 rfl) (fun a15 (t16 : tT C a15 14) => ?_)
      refine s_run X ok_X12_closeMonth 88 1 (pc' := 219) (vs' := [some (.ref p0), some (.int v7), some (.long x8), none, none, none, none, none]) (st' := [.int 7, .ref a15, .long x8, .long v14, .int 11, .ref a12]) rfl ?_
      refine s_lald X t16 (dk okd_X12_closeMonth 37 rfl) (fun v17 => ?_)
      refine s_callS (As := [.long x8, .long v17]) (rest := [.long v14, .int 11, .ref a12]) X E ms_X12_187 (c_X12_rated S9 x8 v17) rfl (ta0) rfl rfl (Nat.le_of_ble_eq_true rfl) (Nat.le_of_ble_eq_true rfl) (Nat.le_of_ble_eq_true rfl) (dk okd_X12_closeMonth 38 rfl) (st' := fun v18 => [.long v18, .long v14, .int 11, .ref a12]) (fun _ => rfl) (fun v18 => ?_)
      refine s_run X ok_X12_closeMonth 89 1 (pc' := 224) (vs' := [some (.ref p0), some (.int v7), some (.long x8), none, none, none, none, none]) (st' := [.long (v14 + v18), .int 11, .ref a12]) rfl ?_
      refine s_last X t13 (dk okd_X12_closeMonth 39 rfl) (fun S19 => ?_)
      refine s_run X ok_X12_closeMonth 90 2 (pc' := 228) (vs' := [some (.ref p0), some (.int v7), some (.long x8), none, some (.int 0), none, none, none]) (st' := []) rfl ?_
      refine s_jn (κ := St → Option (Int32 × St)) (fun k21 => ∀ (S20 : St), Jd C 8 (QJ C oIS sS) S20 299 [some (.ref p0), none, none, none, none, none, none, none] [] (k21 S20)) (fun S20 => ?_) (fun k21 h22 => ?_)
      · refine s_run X ok_X12_closeMonth 116 2 (pc' := 302) (vs' := [some (.ref p0), none, none, none, some (.int 0), none, none, none]) (st' := []) rfl ?_
        refine s_jn (κ := St → Option (Int32 × St)) (fun k24 => ∀ (S23 : St), Jd C 8 (QJ C oIS sS) S23 337 [some (.ref p0), none, none, none, none, none, none, none] [] (k24 S23)) (fun S23 => ?_) (fun k24 h25 => ?_)
        · refine s_run X ok_X12_closeMonth 134 2 (pc' := 342) (vs' := [some (.ref p0), none, none, none, some (.int 1150), none, none, none]) (st' := []) rfl ?_
          refine s_jn (κ := St → Option (Int32 × St)) (fun k27 => ∀ (S26 : St), Jd C 8 (QJ C oIS sS) S26 364 [some (.ref p0), none, none, none, none, none, none, none] [] (k27 S26)) (fun S26 => ?_) (fun k27 h28 => ?_)
          · refine s_run X ok_X12_closeMonth 143 1 (pc' := 365) (vs' := [some (.ref p0), none, none, none, none, none, none, none]) (st' := [.ref p0]) rfl ?_
            refine s_getR X fl_X12_9 t0_ (dk okd_X12_closeMonth 61 rfl) (fun a29 (t30 : tT C a29 14) => ?_)
            refine s_run X ok_X12_closeMonth 144 2 (pc' := 370) (vs' := [some (.ref p0), none, none, none, none, none, none, none]) (st' := [.int 0, .ref a29, .int 0, .ref a29]) rfl ?_
            refine s_lald X t30 (dk okd_X12_closeMonth 62 rfl) (fun v31 => ?_)
            refine s_run X ok_X12_closeMonth 146 2 (pc' := 373) (vs' := [some (.ref p0), none, none, none, none, none, none, none]) (st' := [.long (v31 + 1), .int 0, .ref a29]) rfl ?_
            refine s_last X t30 (dk okd_X12_closeMonth 63 rfl) (fun S32 => ?_)
            refine s_run X ok_X12_closeMonth 148 1 (pc' := 375) (vs' := [some (.ref p0), none, none, none, none, none, none, none]) (st' := [.ref p0]) rfl ?_
            refine s_getR X fl_X12_9 t0_ (dk okd_X12_closeMonth 64 rfl) (fun a33 (t34 : tT C a33 14) => ?_)
            refine s_run X ok_X12_closeMonth 149 1 (pc' := 379) (vs' := [some (.ref p0), none, none, none, none, none, none, none]) (st' := [.int 0, .ref a33]) rfl ?_
            refine s_lald X t34 (dk okd_X12_closeMonth 65 rfl) (fun v35 => ?_)
            refine s_run X ok_X12_closeMonth 150 1 (pc' := 381) (vs' := [some (.ref p0), none, none, none, none, none, none, none]) (st' := [.int (Int64.toInt32 v35)]) rfl ?_
            exact s_iret X hr (dk okd_X12_closeMonth 66 rfl) rfl rfl
          · refine s_lp (κ := Int32 → St → Option (Int32 × St)) (fun k38 => ∀ (x36 : Int32) (S37 : St), Jd C 8 (QJ C oIS sS) S37 342 [some (.ref p0), none, none, none, some (.int x36), none, none, none] [] (k38 x36 S37)) (fun _ _ => s_none) (fun k38 h39 x36 S37 => ?_) FU 1150 S23
            refine s_run X ok_X12_closeMonth 136 2 (pc' := 347) (vs' := [some (.ref p0), none, none, none, some (.int x36), none, none, none]) (st' := [.int 1214, .int x36]) rfl ?_
            refine s_icmp_ge (tgt := 364) X (dk okd_X12_closeMonth 58 rfl) (by decide) ?_ ?_
            · exact s_less [true, false, false, false, false, false, false, false] rfl (h28 S37)
            · refine s_run X ok_X12_closeMonth 138 1 (pc' := 351) (vs' := [some (.ref p0), none, none, none, some (.int x36), none, none, none]) (st' := [.ref p0]) rfl ?_
              refine s_getR X fl_X12_9 t0_ (dk okd_X12_closeMonth 59 rfl) (fun a40 (t41 : tT C a40 14) => ?_)
              refine s_run X ok_X12_closeMonth 139 2 (pc' := 357) (vs' := [some (.ref p0), none, none, none, some (.int x36), none, none, none]) (st' := [.long 0, .int x36, .ref a40]) rfl ?_
              refine s_last X t41 (dk okd_X12_closeMonth 60 rfl) (fun S42 => ?_)
              refine s_run X ok_X12_closeMonth 141 2 (pc' := 342) (vs' := [some (.ref p0), none, none, none, some (.int (x36 + 1)), none, none, none]) (st' := []) rfl ?_
              exact h39 (x36 + 1) S42
        · refine s_lp (κ := Int32 → St → Option (Int32 × St)) (fun k45 => ∀ (x43 : Int32) (S44 : St), Jd C 8 (QJ C oIS sS) S44 302 [some (.ref p0), none, none, none, some (.int x43), none, none, none] [] (k45 x43 S44)) (fun _ _ => s_none) (fun k45 h46 x43 S44 => ?_) FU 0 S20
          refine s_run X ok_X12_closeMonth 118 3 (pc' := 306) (vs' := [some (.ref p0), none, none, none, some (.int x43), none, none, none]) (st' := [.ref p0, .long (Int32.toInt64 x43)]) rfl ?_
          refine s_getR X fl_X12_9 t0_ (dk okd_X12_closeMonth 53 rfl) (fun a47 (t48 : tT C a47 14) => ?_)
          refine s_run X ok_X12_closeMonth 121 1 (pc' := 310) (vs' := [some (.ref p0), none, none, none, some (.int x43), none, none, none]) (st' := [.int 3, .ref a47, .long (Int32.toInt64 x43)]) rfl ?_
          refine s_lald X t48 (dk okd_X12_closeMonth 54 rfl) (fun v49 => ?_)
          refine s_run X ok_X12_closeMonth 122 1 (pc' := 312) (vs' := [some (.ref p0), none, none, none, some (.int x43), none, none, none]) (st' := [.int (lg_cmp (Int32.toInt64 x43) v49)]) rfl ?_
          refine s_lif_ge (tgt := 337) X (dk okd_X12_closeMonth 55 rfl) (by decide) ?_ ?_
          · exact s_less [true, false, false, false, false, false, false, false] rfl (h25 S44)
          · refine s_run X ok_X12_closeMonth 123 1 (pc' := 316) (vs' := [some (.ref p0), none, none, none, some (.int x43), none, none, none]) (st' := [.ref p0]) rfl ?_
            refine s_getR X fl_X12_9 t0_ (dk okd_X12_closeMonth 56 rfl) (fun a50 (t51 : tT C a50 14) => ?_)
            refine s_run X ok_X12_closeMonth 124 8 (pc' := 330) (vs' := [some (.ref p0), none, none, none, some (.int x43), none, none, none]) (st' := [.long 0, .int ((186 + (4 * x43)) + 3), .ref a50]) rfl ?_
            refine s_last X t51 (dk okd_X12_closeMonth 57 rfl) (fun S52 => ?_)
            refine s_run X ok_X12_closeMonth 132 2 (pc' := 302) (vs' := [some (.ref p0), none, none, none, some (.int (x43 + 1)), none, none, none]) (st' := []) rfl ?_
            exact h46 (x43 + 1) S52
      · refine s_less [true, true, false, false, true, false, false, false] (vs' := [some (.ref p0), some (.int v7), none, none, some (.int 0), none, none, none]) rfl ?_
        refine s_lp (κ := Int32 → St → Option (Int32 × St)) (fun k55 => ∀ (x53 : Int32) (S54 : St), Jd C 8 (QJ C oIS sS) S54 228 [some (.ref p0), some (.int v7), none, none, some (.int x53), none, none, none] [] (k55 x53 S54)) (fun _ _ => s_none) (fun k55 h56 x53 S54 => ?_) FU 0 S19
        refine s_run X ok_X12_closeMonth 92 3 (pc' := 232) (vs' := [some (.ref p0), some (.int v7), none, none, some (.int x53), none, none, none]) (st' := [.ref p0, .long (Int32.toInt64 x53)]) rfl ?_
        refine s_getR X fl_X12_9 t0_ (dk okd_X12_closeMonth 40 rfl) (fun a57 (t58 : tT C a57 14) => ?_)
        refine s_run X ok_X12_closeMonth 95 1 (pc' := 236) (vs' := [some (.ref p0), some (.int v7), none, none, some (.int x53), none, none, none]) (st' := [.int 2, .ref a57, .long (Int32.toInt64 x53)]) rfl ?_
        refine s_lald X t58 (dk okd_X12_closeMonth 41 rfl) (fun v59 => ?_)
        refine s_run X ok_X12_closeMonth 96 1 (pc' := 238) (vs' := [some (.ref p0), some (.int v7), none, none, some (.int x53), none, none, none]) (st' := [.int (lg_cmp (Int32.toInt64 x53) v59)]) rfl ?_
        refine s_lif_ge (tgt := 299) X (dk okd_X12_closeMonth 42 rfl) (by decide) ?_ ?_
        · exact s_less [true, false, false, false, false, false, false, false] rfl (h22 S54)
        · refine s_run X ok_X12_closeMonth 97 3 (pc' := 246) (vs' := [some (.ref p0), some (.int v7), none, none, some (.int x53), none, none, none]) (st' := [.int 9, .int x53, .ref p0]) rfl ?_
          refine s_callV (b := p0) (As := [.int x53, .int 9]) (rest := []) X E mv_X12_63 (c_X12_of S54 p0 x53 9) rfl (ta1 t0_) rfl (by decide) t0_ rfl rfl (Nat.le_of_ble_eq_true rfl) (Nat.le_of_ble_eq_true rfl) (Nat.le_of_ble_eq_true rfl) (dk okd_X12_closeMonth 43 rfl) (st' := fun v60 => [.long v60]) (fun _ => rfl) (fun v60 => ?_)
          refine s_ldc2 X cl_X12_220 (dk okd_X12_closeMonth 44 rfl) ?_
          refine s_run X ok_X12_closeMonth 100 1 (pc' := 253) (vs' := [some (.ref p0), some (.int v7), none, none, some (.int x53), none, none, none]) (st' := [.int (lg_cmp v60 2)]) rfl ?_
          refine s_jn (κ := St → Option (Int32 × St)) (fun k62 => ∀ (S61 : St), Jd C 8 (QJ C oIS sS) S61 271 [some (.ref p0), some (.int v7), none, none, some (.int x53), none, none, none] [] (k62 S61)) (fun S61 => ?_) (fun k62 h63 => ?_)
          · refine s_run X ok_X12_closeMonth 105 1 (pc' := 272) (vs' := [some (.ref p0), some (.int v7), none, none, some (.int x53), none, none, none]) (st' := [.ref p0]) rfl ?_
            refine s_getR X fl_X12_9 t0_ (dk okd_X12_closeMonth 49 rfl) (fun a64 (t65 : tT C a64 14) => ?_)
            refine s_run X ok_X12_closeMonth 106 3 (pc' := 279) (vs' := [some (.ref p0), some (.int v7), none, none, some (.int x53), none, none, none]) (st' := [.int v7, .int x53, .ref p0, .ref a64]) rfl ?_
            refine s_callV (b := p0) (As := [.int x53, .int v7]) (rest := [.ref a64]) X E mv_X12_231 (c_X12_invoiceRow S61 p0 x53 v7) rfl (ta1 t0_) rfl (by decide) t0_ rfl rfl (Nat.le_of_ble_eq_true rfl) (Nat.le_of_ble_eq_true rfl) (Nat.le_of_ble_eq_true rfl) (dk okd_X12_closeMonth 50 rfl) (st' := fun v66 => [.int v66, .ref a64]) (fun _ => rfl) (fun v66 => ?_)
            refine s_run X ok_X12_closeMonth 109 5 (pc' := 289) (vs' := [some (.ref p0), some (.int v7), none, none, some (.int x53), none, none, none]) (st' := [.int 4, .int x53, .ref p0, .int (v66 + 6), .ref a64]) rfl ?_
            refine s_callV (b := p0) (As := [.int x53, .int 4]) (rest := [.int (v66 + 6), .ref a64]) X E mv_X12_63 (c_X12_of S61 p0 x53 4) rfl (ta1 t0_) rfl (by decide) t0_ rfl rfl (Nat.le_of_ble_eq_true rfl) (Nat.le_of_ble_eq_true rfl) (Nat.le_of_ble_eq_true rfl) (dk okd_X12_closeMonth 51 rfl) (st' := fun v67 => [.long v67, .int (v66 + 6), .ref a64]) (fun _ => rfl) (fun v67 => ?_)
            refine s_last X t65 (dk okd_X12_closeMonth 52 rfl) (fun S68 => ?_)
            refine s_run X ok_X12_closeMonth 114 2 (pc' := 228) (vs' := [some (.ref p0), some (.int v7), none, none, some (.int (x53 + 1)), none, none, none]) (st' := []) rfl ?_
            exact h56 (x53 + 1) S68
          · refine s_lif_ne (tgt := 271) X (dk okd_X12_closeMonth 45 rfl) (by decide) ?_ ?_
            · exact h63 S54
            · refine s_run X ok_X12_closeMonth 101 2 (pc' := 259) (vs' := [some (.ref p0), some (.int v7), none, none, some (.int x53), none, none, none]) (st' := [.int x53, .ref p0]) rfl ?_
              refine s_callV (b := p0) (As := [.int x53]) (rest := []) X E mv_X12_234 (c_X12_isDelayOver S54 p0 x53) rfl (ta1 t0_) rfl (by decide) t0_ rfl rfl (Nat.le_of_ble_eq_true rfl) (Nat.le_of_ble_eq_true rfl) (Nat.le_of_ble_eq_true rfl) (dk okd_X12_closeMonth 46 rfl) (st' := fun v69 => [.int v69]) (fun _ => rfl) (fun v69 => ?_)
              refine s_if_eq (tgt := 271) X (dk okd_X12_closeMonth 47 rfl) (by decide) ?_ ?_
              · exact h63 S54
              · refine s_run X ok_X12_closeMonth 103 2 (pc' := 268) (vs' := [some (.ref p0), some (.int v7), none, none, some (.int x53), none, none, none]) (st' := [.int x53, .ref p0]) rfl ?_
                refine s_callV (b := p0) (As := [.int x53]) (rest := []) X E mv_X12_237 (c_X12_doTransfer S54 p0 x53) rfl (ta1 t0_) rfl (by decide) t0_ rfl rfl (Nat.le_of_ble_eq_true rfl) (Nat.le_of_ble_eq_true rfl) (Nat.le_of_ble_eq_true rfl) (dk okd_X12_closeMonth 48 rfl) (st' := fun S70 => []) (fun _ => rfl) (fun S70 => ?_)
                exact h63 S70
    · refine s_lp (κ := Int64 → Int32 → St → Option (Int32 × St)) (fun k74 => ∀ (x71 : Int64) (x72 : Int32) (S73 : St), Jd C 8 (QJ C oIS sS) S73 32 [some (.ref p0), some (.int v7), some (.long x71), none, some (.int x72), none, none, none] [] (k74 x71 x72 S73)) (fun _ _ _ => s_none) (fun k74 h75 x71 x72 S73 => ?_) FU 0 0 o3.2
      refine s_run X ok_X12_closeMonth 14 3 (pc' := 36) (vs' := [some (.ref p0), some (.int v7), some (.long x71), none, some (.int x72), none, none, none]) (st' := [.ref p0, .long (Int32.toInt64 x72)]) rfl ?_
      refine s_getR X fl_X12_9 t0_ (dk okd_X12_closeMonth 7 rfl) (fun a76 (t77 : tT C a76 14) => ?_)
      refine s_run X ok_X12_closeMonth 17 1 (pc' := 40) (vs' := [some (.ref p0), some (.int v7), some (.long x71), none, some (.int x72), none, none, none]) (st' := [.int 2, .ref a76, .long (Int32.toInt64 x72)]) rfl ?_
      refine s_lald X t77 (dk okd_X12_closeMonth 8 rfl) (fun v78 => ?_)
      refine s_run X ok_X12_closeMonth 18 1 (pc' := 42) (vs' := [some (.ref p0), some (.int v7), some (.long x71), none, some (.int x72), none, none, none]) (st' := [.int (lg_cmp (Int32.toInt64 x72) v78)]) rfl ?_
      refine s_lif_ge (tgt := 204) X (dk okd_X12_closeMonth 9 rfl) (by decide) ?_ ?_
      · exact s_less [true, true, true, false, false, false, false, false] rfl (h11 x71 S73)
      · refine s_run X ok_X12_closeMonth 19 3 (pc' := 50) (vs' := [some (.ref p0), some (.int v7), some (.long x71), none, some (.int x72), none, none, none]) (st' := [.int 100, .int x72, .ref p0]) rfl ?_
        refine s_callV (b := p0) (As := [.int x72, .int 100]) (rest := []) X E mv_X12_191 (c_X12_salesNow S73 p0 x72 100) rfl (ta1 t0_) rfl (by decide) t0_ rfl rfl (Nat.le_of_ble_eq_true rfl) (Nat.le_of_ble_eq_true rfl) (Nat.le_of_ble_eq_true rfl) (dk okd_X12_closeMonth 10 rfl) (st' := fun v79 => [.long v79]) (fun _ => rfl) (fun v79 => ?_)
        refine s_run X ok_X12_closeMonth 22 2 (pc' := 56) (vs' := [some (.ref p0), some (.int v7), some (.long x71), none, some (.int x72), some (.long v79), none, none]) (st' := [.ref p0]) rfl ?_
        refine s_getR X fl_X12_9 t0_ (dk okd_X12_closeMonth 11 rfl) (fun a80 (t81 : tT C a80 14) => ?_)
        refine s_run X ok_X12_closeMonth 24 8 (pc' := 72) (vs' := [some (.ref p0), some (.int v7), some (.long x71), none, some (.int x72), some (.long v79), none, none]) (st' := [.long v79, .int ((1214 + (8 * v7)) + x72), .ref a80]) rfl ?_
        refine s_last X t81 (dk okd_X12_closeMonth 12 rfl) (fun S82 => ?_)
        refine s_run X ok_X12_closeMonth 32 3 (pc' := 78) (vs' := [some (.ref p0), some (.int v7), some (.long x71), none, some (.int x72), some (.long v79), none, none]) (st' := [.long v79, .int x72, .ref p0]) rfl ?_
        refine s_callV (b := p0) (As := [.int x72, .long v79]) (rest := []) X E mv_X12_227 (c_X12_calculate S82 p0 x72 v79) rfl (ta1 t0_) rfl (by decide) t0_ rfl rfl (Nat.le_of_ble_eq_true rfl) (Nat.le_of_ble_eq_true rfl) (Nat.le_of_ble_eq_true rfl) (dk okd_X12_closeMonth 13 rfl) (st' := fun S83 => []) (fun _ => rfl) (fun S83 => ?_)
        refine s_run X ok_X12_closeMonth 35 2 (pc' := 84) (vs' := [some (.ref p0), some (.int v7), some (.long x71), none, some (.int x72), some (.long v79), none, some (.int 0)]) (st' := []) rfl ?_
        refine s_jn (κ := St → Option (Int32 × St)) (fun k85 => ∀ (S84 : St), Jd C 8 (QJ C oIS sS) S84 119 [some (.ref p0), some (.int v7), some (.long x71), none, some (.int x72), none, none, none] [] (k85 S84)) (fun S84 => ?_) (fun k85 h86 => ?_)
        · refine s_run X ok_X12_closeMonth 49 2 (pc' := 122) (vs' := [some (.ref p0), some (.int v7), some (.long x71), none, some (.int x72), none, none, none]) (st' := [.int x72, .ref p0]) rfl ?_
          refine s_callV (b := p0) (As := [.int x72]) (rest := []) X E mv_X12_128 (c_X12_isActive S84 p0 x72) rfl (ta1 t0_) rfl (by decide) t0_ rfl rfl (Nat.le_of_ble_eq_true rfl) (Nat.le_of_ble_eq_true rfl) (Nat.le_of_ble_eq_true rfl) (dk okd_X12_closeMonth 20 rfl) (st' := fun v87 => [.int v87]) (fun _ => rfl) (fun v87 => ?_)
          refine s_jn (κ := St → Option (Int32 × St)) (fun k89 => ∀ (S88 : St), Jd C 8 (QJ C oIS sS) S88 162 [some (.ref p0), some (.int v7), some (.long x71), none, some (.int x72), none, none, none] [] (k89 S88)) (fun S88 => ?_) (fun k89 h90 => ?_)
          · refine s_run X ok_X12_closeMonth 66 4 (pc' := 167) (vs' := [some (.ref p0), some (.int v7), some (.long x71), none, some (.int x72), none, none, none]) (st' := [.ref p0, .int 4, .int x72, .ref p0]) rfl ?_
            refine s_getR X fl_X12_23 t0_ (dk okd_X12_closeMonth 26 rfl) (fun a91 (t92 : tT C a91 14) => ?_)
            refine s_run X ok_X12_closeMonth 70 1 (pc' := 171) (vs' := [some (.ref p0), some (.int v7), some (.long x71), none, some (.int x72), none, none, none]) (st' := [.int 5, .ref a91, .int 4, .int x72, .ref p0]) rfl ?_
            refine s_lald X t92 (dk okd_X12_closeMonth 27 rfl) (fun v93 => ?_)
            refine s_callV (b := p0) (As := [.int x72, .int 4, .long v93]) (rest := []) X E mv_X12_224 (c_X12_add S88 p0 x72 4 v93) rfl (ta1 t0_) rfl (by decide) t0_ rfl rfl (Nat.le_of_ble_eq_true rfl) (Nat.le_of_ble_eq_true rfl) (Nat.le_of_ble_eq_true rfl) (dk okd_X12_closeMonth 28 rfl) (st' := fun S94 => []) (fun _ => rfl) (fun S94 => ?_)
            refine s_run X ok_X12_closeMonth 71 4 (pc' := 181) (vs' := [some (.ref p0), some (.int v7), some (.long x71), none, some (.int x72), none, none, none]) (st' := [.ref p0, .int 7, .int x72, .ref p0]) rfl ?_
            refine s_getR X fl_X12_23 t0_ (dk okd_X12_closeMonth 29 rfl) (fun a95 (t96 : tT C a95 14) => ?_)
            refine s_run X ok_X12_closeMonth 75 1 (pc' := 185) (vs' := [some (.ref p0), some (.int v7), some (.long x71), none, some (.int x72), none, none, none]) (st' := [.int 1, .ref a95, .int 7, .int x72, .ref p0]) rfl ?_
            refine s_lald X t96 (dk okd_X12_closeMonth 30 rfl) (fun v97 => ?_)
            refine s_callV (b := p0) (As := [.int x72, .int 7, .long v97]) (rest := []) X E mv_X12_224 (c_X12_add S94 p0 x72 7 v97) rfl (ta1 t0_) rfl (by decide) t0_ rfl rfl (Nat.le_of_ble_eq_true rfl) (Nat.le_of_ble_eq_true rfl) (Nat.le_of_ble_eq_true rfl) (dk okd_X12_closeMonth 31 rfl) (st' := fun S98 => []) (fun _ => rfl) (fun S98 => ?_)
            refine s_run X ok_X12_closeMonth 76 2 (pc' := 191) (vs' := [some (.ref p0), some (.int v7), some (.long x71), none, some (.int x72), none, none, none]) (st' := [.ref p0, .long x71]) rfl ?_
            refine s_getR X fl_X12_23 t0_ (dk okd_X12_closeMonth 32 rfl) (fun a99 (t100 : tT C a99 14) => ?_)
            refine s_run X ok_X12_closeMonth 78 1 (pc' := 195) (vs' := [some (.ref p0), some (.int v7), some (.long x71), none, some (.int x72), none, none, none]) (st' := [.int 1, .ref a99, .long x71]) rfl ?_
            refine s_lald X t100 (dk okd_X12_closeMonth 33 rfl) (fun v101 => ?_)
            refine s_run X ok_X12_closeMonth 79 1 (pc' := 197) (vs' := [some (.ref p0), some (.int v7), some (.long x71), none, some (.int x72), none, none, none]) (st' := [.long (x71 + v101)]) rfl ?_
            refine s_nmJ (fun v102 => ?_)
            refine s_run X ok_X12_closeMonth 80 3 (pc' := 32) (vs' := [some (.ref p0), some (.int v7), some (.long v102), none, some (.int (x72 + 1)), none, none, none]) (st' := []) rfl ?_
            exact h75 v102 (x72 + 1) S98
          · refine s_if_eq (tgt := 162) X (dk okd_X12_closeMonth 21 rfl) (by decide) ?_ ?_
            · exact h90 S84
            · refine s_run X ok_X12_closeMonth 51 6 (pc' := 137) (vs' := [some (.ref p0), some (.int v7), some (.long x71), none, some (.int x72), none, none, none]) (st' := [.int 4, .int x72, .ref p0, .int 6, .int x72, .ref p0]) rfl ?_
              refine s_callV (b := p0) (As := [.int x72, .int 4]) (rest := [.int 6, .int x72, .ref p0]) X E mv_X12_63 (c_X12_of S84 p0 x72 4) rfl (ta1 t0_) rfl (by decide) t0_ rfl rfl (Nat.le_of_ble_eq_true rfl) (Nat.le_of_ble_eq_true rfl) (Nat.le_of_ble_eq_true rfl) (dk okd_X12_closeMonth 22 rfl) (st' := fun v103 => [.long v103, .int 6, .int x72, .ref p0]) (fun _ => rfl) (fun v103 => ?_)
              refine s_run X ok_X12_closeMonth 57 2 (pc' := 142) (vs' := [some (.ref p0), some (.int v7), some (.long x71), none, some (.int x72), none, none, none]) (st' := [.int (lg_cmp v103 0), .int 6, .int x72, .ref p0]) rfl ?_
              refine s_jn (κ := Int64 → Option (Int32 × St)) (fun k105 => ∀ (x104 : Int64), Jd C 8 (QJ C oIS sS) S84 159 [some (.ref p0), some (.int v7), some (.long x71), none, some (.int x72), none, none, none] [.long x104, .int 6, .int x72, .ref p0] (k105 x104)) (fun x104 => ?_) (fun k105 h106 => ?_)
              · refine s_callV (b := p0) (As := [.int x72, .int 6, .long x104]) (rest := []) X E mv_X12_183 (c_X12_set S84 p0 x72 6 x104) rfl (ta1 t0_) rfl (by decide) t0_ rfl rfl (Nat.le_of_ble_eq_true rfl) (Nat.le_of_ble_eq_true rfl) (Nat.le_of_ble_eq_true rfl) (dk okd_X12_closeMonth 25 rfl) (st' := fun S107 => []) (fun _ => rfl) (fun S107 => ?_)
                exact h90 S107
              · refine s_lif_le (tgt := 158) X (dk okd_X12_closeMonth 23 rfl) (by decide) ?_ ?_
                · refine s_run X ok_X12_closeMonth 65 1 (pc' := 159) (vs' := [some (.ref p0), some (.int v7), some (.long x71), none, some (.int x72), none, none, none]) (st' := [.long 0, .int 6, .int x72, .ref p0]) rfl ?_
                  exact h106 0
                · refine s_run X ok_X12_closeMonth 59 3 (pc' := 150) (vs' := [some (.ref p0), some (.int v7), some (.long x71), none, some (.int x72), none, none, none]) (st' := [.int 6, .int x72, .ref p0, .int 6, .int x72, .ref p0]) rfl ?_
                  refine s_callV (b := p0) (As := [.int x72, .int 6]) (rest := [.int 6, .int x72, .ref p0]) X E mv_X12_63 (c_X12_of S84 p0 x72 6) rfl (ta1 t0_) rfl (by decide) t0_ rfl rfl (Nat.le_of_ble_eq_true rfl) (Nat.le_of_ble_eq_true rfl) (Nat.le_of_ble_eq_true rfl) (dk okd_X12_closeMonth 24 rfl) (st' := fun v108 => [.long v108, .int 6, .int x72, .ref p0]) (fun _ => rfl) (fun v108 => ?_)
                  refine s_run X ok_X12_closeMonth 62 3 (pc' := 159) (vs' := [some (.ref p0), some (.int v7), some (.long x71), none, some (.int x72), none, none, none]) (st' := [.long (v108 + 1), .int 6, .int x72, .ref p0]) rfl ?_
                  exact h106 (v108 + 1)
        · refine s_less [true, true, true, false, true, false, false, true] (vs' := [some (.ref p0), some (.int v7), some (.long x71), none, some (.int x72), none, none, some (.int 0)]) rfl ?_
          refine s_lp (κ := Int32 → St → Option (Int32 × St)) (fun k111 => ∀ (x109 : Int32) (S110 : St), Jd C 8 (QJ C oIS sS) S110 84 [some (.ref p0), some (.int v7), some (.long x71), none, some (.int x72), none, none, some (.int x109)] [] (k111 x109 S110)) (fun _ _ => s_none) (fun k111 h112 x109 S110 => ?_) FU 0 S83
          refine s_run X ok_X12_closeMonth 37 2 (pc' := 88) (vs' := [some (.ref p0), some (.int v7), some (.long x71), none, some (.int x72), none, none, some (.int x109)]) (st' := [.int 7, .int x109]) rfl ?_
          refine s_icmp_ge (tgt := 119) X (dk okd_X12_closeMonth 14 rfl) (by decide) ?_ ?_
          · exact s_less [true, true, true, false, true, false, false, false] rfl (h86 S110)
          · refine s_run X ok_X12_closeMonth 39 1 (pc' := 92) (vs' := [some (.ref p0), some (.int v7), some (.long x71), none, some (.int x72), none, none, some (.int x109)]) (st' := [.ref p0]) rfl ?_
            refine s_getR X fl_X12_9 t0_ (dk okd_X12_closeMonth 15 rfl) (fun a113 (t114 : tT C a113 14) => ?_)
            refine s_run X ok_X12_closeMonth 40 3 (pc' := 99) (vs' := [some (.ref p0), some (.int v7), some (.long x71), none, some (.int x72), none, none, some (.int x109)]) (st' := [.int v7, .int x72, .ref p0, .ref a113]) rfl ?_
            refine s_callV (b := p0) (As := [.int x72, .int v7]) (rest := [.ref a113]) X E mv_X12_231 (c_X12_invoiceRow S110 p0 x72 v7) rfl (ta1 t0_) rfl (by decide) t0_ rfl rfl (Nat.le_of_ble_eq_true rfl) (Nat.le_of_ble_eq_true rfl) (Nat.le_of_ble_eq_true rfl) (dk okd_X12_closeMonth 16 rfl) (st' := fun v115 => [.int v115, .ref a113]) (fun _ => rfl) (fun v115 => ?_)
            refine s_run X ok_X12_closeMonth 43 3 (pc' := 106) (vs' := [some (.ref p0), some (.int v7), some (.long x71), none, some (.int x72), none, none, some (.int x109)]) (st' := [.ref p0, .int (v115 + x109), .ref a113]) rfl ?_
            refine s_getR X fl_X12_23 t0_ (dk okd_X12_closeMonth 17 rfl) (fun a116 (t117 : tT C a116 14) => ?_)
            refine s_run X ok_X12_closeMonth 46 1 (pc' := 111) (vs' := [some (.ref p0), some (.int v7), some (.long x71), none, some (.int x72), none, none, some (.int x109)]) (st' := [.int x109, .ref a116, .int (v115 + x109), .ref a113]) rfl ?_
            refine s_lald X t117 (dk okd_X12_closeMonth 18 rfl) (fun v118 => ?_)
            refine s_last X t114 (dk okd_X12_closeMonth 19 rfl) (fun S119 => ?_)
            refine s_run X ok_X12_closeMonth 47 2 (pc' := 84) (vs' := [some (.ref p0), some (.int v7), some (.long x71), none, some (.int x72), none, none, some (.int (x109 + 1))]) (st' := []) rfl ?_
            exact h112 (x109 + 1) S119
  · refine s_run X ok_X12_closeMonth 5 1 (pc' := 18) (vs' := [some (.ref p0), none, none, none, none, none, none, none]) (st' := [.int 0]) rfl ?_
    exact s_iret X hr (dk okd_X12_closeMonth 4 rfl) rfl rfl
def tab_X12_invoice : List En := [(0, 8, 0, 0), (1, 0, 0, 0), (5, 8, 0, 0), (6, 8, 0, 0), (7, 4, 1, 0), (14, 0, 0, 1), (15, 41, 19, 0), (18, 0, 0, 0), (19, 0, 0, 1), (26, 8, 0, 0), (27, 8, 0, 0), (28, 4, 2, 0), (35, 4, 3, 0), (36, 31, 0, 0), (37, 3, 0, 0), (47, 0, 0, 1), (48, 41, 52, 0), (51, 0, 0, 0), (52, 0, 0, 2), (59, 3, 0, 0), (60, 41, 76, 0), (63, 8, 0, 0), (67, 8, 0, 0), (68, 4, 1, 0), (69, 4, 2, 0), (73, 4, 3, 0), (74, 17, 0, 0)]
theorem ok_X12_invoice : tab_X12_invoice.all (okE cX12_invoice) = true := by decide +kernel
def ed_X12_invoice : List (Nat × Instr × Nat) := [(2, .putfield 50, 3), (8, .invokevirtual 85, 3), (11, .ifCond .ne 7, 3), (20, .invokevirtual 81, 3), (23, .ifCond .ne 36, 3), (29, .invokevirtual 207, 3), (32, .ifCond .eq 15, 3), (38, .ldc2_w 240, 3), (41, .invokestatic 53, 3), (44, .ifCond .ne 7, 3), (53, .invokevirtual 81, 3), (56, .ifCond .eq 7, 3), (64, .getfield 9, 3), (70, .invokevirtual 231, 3), (75, .laload, 1), (76, .lreturn, 1)]
theorem okd_X12_invoice : ed_X12_invoice.all (okD cX12_invoice) = true := by decide +kernel
def f_X12_invoice (S : St) (p0 : Nat) (p1 : Int32) (p2 : Int32) (p3 : Int32) : Option (Int64 × St) := lt (uI S p0 2 0) fun (S1 : St) => cl (f_X12_isFranchisee S1 p0 p1) fun (v2 : Int32) => jn (κ := Int32 → Option (Int64 × St)) (fun x3 => cl (f_X12_throwsIf S1 p0 x3 1) fun (o6 : Int32 × St) => jn (κ := St → Option (Int64 × St)) (fun S7 => some (0, S7)) fun k8 => if o6.1 = 0 then (cl (f_X12_isClosed o6.2 p0 p2) fun (v10 : Int32) => jn (κ := Int32 → Option (Int64 × St)) (fun x11 => cl (f_X12_throwsIf o6.2 p0 x11 2) fun (o14 : Int32 × St) => if o14.1 = 0 then (lt (gR o14.2 p0 0) fun (a15 : Nat) => cl (f_X12_invoiceRow o14.2 p0 p1 p2) fun (v17 : Int32) => ldJ o14.2 a15 (v17 + p3) fun (v18 : Int64) => some (v18, o14.2)) else (k8 o14.2)) fun k12 => jn (κ := Option (Int64 × St)) (k12 1) fun k19 => if v10 = 0 then (k19) else (cl (f_X12_inRange o6.2 (Int32.toInt64 p3) 0 6) fun (v21 : Int32) => if v21 = 0 then (k19) else (k12 0))) else (k8 o6.2)) fun k4 => if v2 = 0 then (k4 1) else (k4 0)
set_option maxHeartbeats 4000000 in
set_option maxRecDepth 100000 in
theorem c_X12_invoice (S : St) (p0 : Nat) (p1 : Int32) (p2 : Int32) (p3 : Int32) : Ct yX12_invoice cX12_invoice 4 (some .long) 2 46 (fun _ => [.ref p0, .int p1, .int p2, .int p3]) [(p0, 11)] S (f_X12_invoice S p0 p1 p2 p3) oLS sL := by
  refine Ct_of RX12 rfl (by decide) (fun _ => Nat.le_of_ble_eq_true rfl) 0 (vs := fun _ => [some (.ref p0), some (.int p1), some (.int p2), some (.int p3)]) (fun _ => rfl) (fun C X E hr ht => ?_)
  have t0_ : tT C p0 11 := ht (p0, 11) (by simp)
  show Jd C 4 (QJ C oLS sL) S 0 [some (.ref p0), some (.int p1), some (.int p2), some (.int p3)] [] (f_X12_invoice S p0 p1 p2 p3)
  unfold f_X12_invoice
  refine s_run X ok_X12_invoice 0 2 (pc' := 2) (vs' := [some (.ref p0), some (.int p1), some (.int p2), some (.int p3)]) (st' := [.int 0, .ref p0]) rfl ?_
  refine s_putI X fp_X12_50 t0_ (dk okd_X12_invoice 0 rfl) (fun S1 => ?_)
  refine s_run X ok_X12_invoice 2 3 (pc' := 8) (vs' := [some (.ref p0), some (.int p1), some (.int p2), some (.int p3)]) (st' := [.int p1, .ref p0, .ref p0]) rfl ?_
  refine s_callV (b := p0) (As := [.int p1]) (rest := [.ref p0]) X E mv_X12_85 (c_X12_isFranchisee S1 p0 p1) rfl (ta1 t0_) rfl (by decide) t0_ rfl rfl (Nat.le_of_ble_eq_true rfl) (Nat.le_of_ble_eq_true rfl) (Nat.le_of_ble_eq_true rfl) (dk okd_X12_invoice 1 rfl) (st' := fun v2 => [.int v2, .ref p0]) (fun _ => rfl) (fun v2 => ?_)
  refine s_jn (κ := Int32 → Option (Int64 × St)) (fun k4 => ∀ (x3 : Int32), Jd C 4 (QJ C oLS sL) S1 19 [some (.ref p0), some (.int p1), some (.int p2), some (.int p3)] [.int x3, .ref p0] (k4 x3)) (fun x3 => ?_) (fun k4 h5 => ?_)
  · refine s_run X ok_X12_invoice 8 1 (pc' := 20) (vs' := [some (.ref p0), some (.int p1), some (.int p2), some (.int p3)]) (st' := [.int 1, .int x3, .ref p0]) rfl ?_
    refine s_callV (b := p0) (As := [.int x3, .int 1]) (rest := []) X E mv_X12_81 (c_X12_throwsIf S1 p0 x3 1) rfl (ta1 t0_) rfl (by decide) t0_ rfl rfl (Nat.le_of_ble_eq_true rfl) (Nat.le_of_ble_eq_true rfl) (Nat.le_of_ble_eq_true rfl) (dk okd_X12_invoice 3 rfl) (st' := fun o6 => [.int o6.1]) (fun _ => rfl) (fun o6 => ?_)
    refine s_jn (κ := St → Option (Int64 × St)) (fun k8 => ∀ (S7 : St), Jd C 4 (QJ C oLS sL) S7 59 [none, none, none, none] [] (k8 S7)) (fun S7 => ?_) (fun k8 h9 => ?_)
    · refine s_run X ok_X12_invoice 19 2 (pc' := 76) (vs' := [none, none, none, none]) (st' := [.long 0]) rfl ?_
      exact s_lret X hr (dk okd_X12_invoice 15 rfl) rfl rfl
    · refine s_if_ne (tgt := 59) X (dk okd_X12_invoice 4 rfl) (by decide) ?_ ?_
      · exact s_less [false, false, false, false] rfl (h9 o6.2)
      · refine s_run X ok_X12_invoice 9 3 (pc' := 29) (vs' := [some (.ref p0), some (.int p1), some (.int p2), some (.int p3)]) (st' := [.int p2, .ref p0, .ref p0]) rfl ?_
        refine s_callV (b := p0) (As := [.int p2]) (rest := [.ref p0]) X E mv_X12_207 (c_X12_isClosed o6.2 p0 p2) rfl (ta1 t0_) rfl (by decide) t0_ rfl rfl (Nat.le_of_ble_eq_true rfl) (Nat.le_of_ble_eq_true rfl) (Nat.le_of_ble_eq_true rfl) (dk okd_X12_invoice 5 rfl) (st' := fun v10 => [.int v10, .ref p0]) (fun _ => rfl) (fun v10 => ?_)
        refine s_jn (κ := Int32 → Option (Int64 × St)) (fun k12 => ∀ (x11 : Int32), Jd C 4 (QJ C oLS sL) o6.2 52 [some (.ref p0), some (.int p1), some (.int p2), some (.int p3)] [.int x11, .ref p0] (k12 x11)) (fun x11 => ?_) (fun k12 h13 => ?_)
        · refine s_run X ok_X12_invoice 18 1 (pc' := 53) (vs' := [some (.ref p0), some (.int p1), some (.int p2), some (.int p3)]) (st' := [.int 2, .int x11, .ref p0]) rfl ?_
          refine s_callV (b := p0) (As := [.int x11, .int 2]) (rest := []) X E mv_X12_81 (c_X12_throwsIf o6.2 p0 x11 2) rfl (ta1 t0_) rfl (by decide) t0_ rfl rfl (Nat.le_of_ble_eq_true rfl) (Nat.le_of_ble_eq_true rfl) (Nat.le_of_ble_eq_true rfl) (dk okd_X12_invoice 10 rfl) (st' := fun o14 => [.int o14.1]) (fun _ => rfl) (fun o14 => ?_)
          refine s_if_eq (tgt := 63) X (dk okd_X12_invoice 11 rfl) (by decide) ?_ ?_
          · refine s_run X ok_X12_invoice 21 1 (pc' := 64) (vs' := [some (.ref p0), some (.int p1), some (.int p2), some (.int p3)]) (st' := [.ref p0]) rfl ?_
            refine s_getR X fl_X12_9 t0_ (dk okd_X12_invoice 12 rfl) (fun a15 (t16 : tT C a15 14) => ?_)
            refine s_run X ok_X12_invoice 22 3 (pc' := 70) (vs' := [some (.ref p0), some (.int p1), some (.int p2), some (.int p3)]) (st' := [.int p2, .int p1, .ref p0, .ref a15]) rfl ?_
            refine s_callV (b := p0) (As := [.int p1, .int p2]) (rest := [.ref a15]) X E mv_X12_231 (c_X12_invoiceRow o14.2 p0 p1 p2) rfl (ta1 t0_) rfl (by decide) t0_ rfl rfl (Nat.le_of_ble_eq_true rfl) (Nat.le_of_ble_eq_true rfl) (Nat.le_of_ble_eq_true rfl) (dk okd_X12_invoice 13 rfl) (st' := fun v17 => [.int v17, .ref a15]) (fun _ => rfl) (fun v17 => ?_)
            refine s_run X ok_X12_invoice 25 2 (pc' := 75) (vs' := [some (.ref p0), some (.int p1), some (.int p2), some (.int p3)]) (st' := [.int (v17 + p3), .ref a15]) rfl ?_
            refine s_lald X t16 (dk okd_X12_invoice 14 rfl) (fun v18 => ?_)
            exact s_lret X hr (dk okd_X12_invoice 15 rfl) rfl rfl
          · exact s_less [false, false, false, false] rfl (h9 o14.2)
        · refine s_jn (κ := Option (Int64 × St)) (fun k19 => Jd C 4 (QJ C oLS sL) o6.2 47 [some (.ref p0), some (.int p1), some (.int p2), some (.int p3)] [.ref p0] k19) ?_ (fun k19 h20 => ?_)
          · refine s_run X ok_X12_invoice 15 2 (pc' := 52) (vs' := [some (.ref p0), some (.int p1), some (.int p2), some (.int p3)]) (st' := [.int 1, .ref p0]) rfl ?_
            exact h13 1
          · refine s_if_eq (tgt := 47) X (dk okd_X12_invoice 6 rfl) (by decide) ?_ ?_
            · exact h20
            · refine s_run X ok_X12_invoice 12 3 (pc' := 38) (vs' := [some (.ref p0), some (.int p1), some (.int p2), some (.int p3)]) (st' := [.long 0, .long (Int32.toInt64 p3), .ref p0]) rfl ?_
              refine s_ldc2 X cl_X12_240 (dk okd_X12_invoice 7 rfl) ?_
              refine s_callS (As := [.long (Int32.toInt64 p3), .long 0, .long 6]) (rest := [.ref p0]) X E ms_X12_53 (c_X12_inRange o6.2 (Int32.toInt64 p3) 0 6) rfl (ta0) rfl rfl (Nat.le_of_ble_eq_true rfl) (Nat.le_of_ble_eq_true rfl) (Nat.le_of_ble_eq_true rfl) (dk okd_X12_invoice 8 rfl) (st' := fun v21 => [.int v21, .ref p0]) (fun _ => rfl) (fun v21 => ?_)
              refine s_if_ne (tgt := 51) X (dk okd_X12_invoice 9 rfl) (by decide) ?_ ?_
              · refine s_run X ok_X12_invoice 17 1 (pc' := 52) (vs' := [some (.ref p0), some (.int p1), some (.int p2), some (.int p3)]) (st' := [.int 0, .ref p0]) rfl ?_
                exact h13 0
              · exact h20
  · refine s_if_ne (tgt := 18) X (dk okd_X12_invoice 2 rfl) (by decide) ?_ ?_
    · refine s_run X ok_X12_invoice 7 1 (pc' := 19) (vs' := [some (.ref p0), some (.int p1), some (.int p2), some (.int p3)]) (st' := [.int 0, .ref p0]) rfl ?_
      exact h5 0
    · refine s_run X ok_X12_invoice 5 2 (pc' := 19) (vs' := [some (.ref p0), some (.int p1), some (.int p2), some (.int p3)]) (st' := [.int 1, .ref p0]) rfl ?_
      exact h5 1
