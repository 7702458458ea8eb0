theorem cl_X12_197 : Cond.constantLong RX12 197 60 ∈ TT := TT_9 (i := 53) rfl rfl
theorem cl_X12_199 : Cond.constantLong RX12 199 10000000 ∈ TT := TT_9 (i := 48) rfl rfl
theorem cl_X12_205 : Cond.constantLong RX12 205 (-3) ∈ TT := TT_9 (i := 58) rfl rfl
theorem cl_X12_220 : Cond.constantLong RX12 220 2 ∈ TT := TT_9 (i := 107) rfl rfl
theorem cl_X12_222 : Cond.constantLong RX12 222 4 ∈ TT := TT_9 (i := 116) rfl rfl
theorem cl_X12_240 : Cond.constantLong RX12 240 6 ∈ TT := TT_9 (i := 121) rfl rfl
theorem cl_X12_242 : Cond.constantLong RX12 242 300 ∈ TT := TT_9 (i := 126) rfl rfl
theorem cl_X12_244 : Cond.constantLong RX12 244 3 ∈ TT := TT_9 (i := 151) rfl rfl
theorem cl_X12_262 : Cond.constantLong RX12 262 999 ∈ TT := TT_9 (i := 208) rfl rfl
theorem fl_X12_23 : FL RX12 23 11 5 2 := ⟨RX12, TX12, 22, rfl, by decide, uw_X12, TT_7 (i := 230) rfl rfl, rfl, rfl, by decide⟩
theorem ms_X12_187 : MS RX12 187 yX12_rated cX12_rated 4 (some .long) 2 := ⟨TT_9 (i := 41) rfl rfl, TT_9 (i := 42) rfl rfl, TT_1 (i := 13) rfl rfl, TT_9 (i := 43) rfl rfl, ⟨by decide, by decide, by decide +kernel⟩⟩
theorem mv_X12_191 : MV RX12 191 yX12_salesNow cX12_salesNow 6 (some .long) 2 := ⟨TT_9 (i := 33) rfl rfl, TT_9 (i := 35) rfl rfl, TT_s (i := 56) (by decide +kernel) (by decide +kernel), TT_1 (i := 13) rfl rfl, TT_9 (i := 36) rfl rfl, ⟨by decide, by decide, by decide +kernel⟩⟩
theorem mv_X12_194 : MV RX12 194 yX12_feesBy cX12_feesBy 4 (some .long) 2 := ⟨TT_9 (i := 37) rfl rfl, TT_9 (i := 39) rfl rfl, TT_s (i := 57) (by decide +kernel) (by decide +kernel), TT_1 (i := 13) rfl rfl, TT_9 (i := 40) rfl rfl, ⟨by decide, by decide, by decide +kernel⟩⟩
theorem mv_X12_201 : MV RX12 201 yX12_isOver cX12_isOver 1 (some .boolean) 0 := ⟨TT_9 (i := 49) rfl rfl, TT_9 (i := 51) rfl rfl, TT_s (i := 58) (by decide +kernel) (by decide +kernel), TT_1 (i := 13) rfl rfl, TT_9 (i := 52) rfl rfl, ⟨by decide, by decide, by decide +kernel⟩⟩
theorem mv_X12_207 : MV RX12 207 yX12_isClosed cX12_isClosed 2 (some .boolean) 1 := ⟨TT_9 (i := 67) rfl rfl, TT_9 (i := 69) rfl rfl, TT_s (i := 59) (by decide +kernel) (by decide +kernel), TT_1 (i := 13) rfl rfl, TT_9 (i := 70) rfl rfl, ⟨by decide, by decide, by decide +kernel⟩⟩
theorem mv_X12_210 : MV RX12 210 yX12_recorded cX12_recorded 3 (some .long) 2 := ⟨TT_9 (i := 71) rfl rfl, TT_9 (i := 73) rfl rfl, TT_s (i := 60) (by decide +kernel) (by decide +kernel), TT_1 (i := 13) rfl rfl, TT_9 (i := 74) rfl rfl, ⟨by decide, by decide, by decide +kernel⟩⟩
theorem mv_X12_213 : MV RX12 213 yX12_recordedInAll cX12_recordedInAll 5 (some .long) 1 := ⟨TT_9 (i := 79) rfl rfl, TT_9 (i := 81) rfl rfl, TT_s (i := 61) (by decide +kernel) (by decide +kernel), TT_1 (i := 13) rfl rfl, TT_9 (i := 82) rfl rfl, ⟨by decide, by decide, by decide +kernel⟩⟩
theorem mv_X12_217 : MV RX12 217 yX12_credit cX12_credit 5 (some .long) 2 := ⟨TT_9 (i := 87) rfl rfl, TT_9 (i := 89) rfl rfl, TT_s (i := 62) (by decide +kernel) (by decide +kernel), TT_1 (i := 13) rfl rfl, TT_9 (i := 90) rfl rfl, ⟨by decide, by decide, by decide +kernel⟩⟩
theorem mv_X12_224 : MV RX12 224 yX12_add cX12_add 5 none 3 := ⟨TT_9 (i := 103) rfl rfl, TT_9 (i := 105) rfl rfl, TT_s (i := 65) (by decide +kernel) (by decide +kernel), TT_1 (i := 13) rfl rfl, TT_9 (i := 106) rfl rfl, ⟨by decide, by decide, by decide +kernel⟩⟩
theorem mv_X12_227 : MV RX12 227 yX12_calculate cX12_calculate 5 none 2 := ⟨TT_9 (i := 95) rfl rfl, TT_9 (i := 97) rfl rfl, TT_s (i := 63) (by decide +kernel) (by decide +kernel), TT_1 (i := 13) rfl rfl, TT_9 (i := 98) rfl rfl, ⟨by decide, by decide, by decide +kernel⟩⟩
theorem mv_X12_231 : MV RX12 231 yX12_invoiceRow cX12_invoiceRow 3 (some .int) 2 := ⟨TT_9 (i := 99) rfl rfl, TT_9 (i := 101) rfl rfl, TT_s (i := 64) (by decide +kernel) (by decide +kernel), TT_1 (i := 13) rfl rfl, TT_9 (i := 102) rfl rfl, ⟨by decide, by decide, by decide +kernel⟩⟩
theorem mv_X12_234 : MV RX12 234 yX12_isDelayOver cX12_isDelayOver 2 (some .boolean) 1 := ⟨TT_9 (i := 108) rfl rfl, TT_9 (i := 110) rfl rfl, TT_s (i := 66) (by decide +kernel) (by decide +kernel), TT_1 (i := 13) rfl rfl, TT_9 (i := 111) rfl rfl, ⟨by decide, by decide, by decide +kernel⟩⟩
theorem mv_X12_237 : MV RX12 237 yX12_doTransfer cX12_doTransfer 2 none 1 := ⟨TT_9 (i := 112) rfl rfl, TT_9 (i := 114) rfl rfl, TT_s (i := 67) (by decide +kernel) (by decide +kernel), TT_1 (i := 13) rfl rfl, TT_9 (i := 115) rfl rfl, ⟨by decide, by decide, by decide +kernel⟩⟩
theorem mv_X12_246 : MV RX12 246 yX12_isOpenTransfer cX12_isOpenTransfer 2 (some .boolean) 1 := ⟨TT_9 (i := 152) rfl rfl, TT_9 (i := 154) rfl rfl, TT_s (i := 68) (by decide +kernel) (by decide +kernel), TT_1 (i := 13) rfl rfl, TT_9 (i := 155) rfl rfl, ⟨by decide, by decide, by decide +kernel⟩⟩
theorem mv_X12_249 : MV RX12 249 yX12_allContributions cX12_allContributions 4 (some .long) 0 := ⟨TT_9 (i := 168) rfl rfl, TT_9 (i := 170) rfl rfl, TT_s (i := 70) (by decide +kernel) (by decide +kernel), TT_1 (i := 13) rfl rfl, TT_9 (i := 171) rfl rfl, ⟨by decide, by decide, by decide +kernel⟩⟩
theorem mv_X12_253 : MV RX12 253 yX12_fund cX12_fund 1 (some .long) 0 := ⟨TT_9 (i := 164) rfl rfl, TT_9 (i := 166) rfl rfl, TT_s (i := 69) (by decide +kernel) (by decide +kernel), TT_1 (i := 13) rfl rfl, TT_9 (i := 167) rfl rfl, ⟨by decide, by decide, by decide +kernel⟩⟩
theorem mv_X12_256 : MV RX12 256 yX12_allowanceOf cX12_allowanceOf 2 (some .long) 1 := ⟨TT_9 (i := 188) rfl rfl, TT_9 (i := 190) rfl rfl, TT_s (i := 71) (by decide +kernel) (by decide +kernel), TT_1 (i := 13) rfl rfl, TT_9 (i := 191) rfl rfl, ⟨by decide, by decide, by decide +kernel⟩⟩
theorem mv_X12_259 : MV RX12 259 yX12_product cX12_product 2 (some .long) 1 := ⟨TT_9 (i := 200) rfl rfl, TT_9 (i := 202) rfl rfl, TT_s (i := 72) (by decide +kernel) (by decide +kernel), TT_1 (i := 13) rfl rfl, TT_9 (i := 203) rfl rfl, ⟨by decide, by decide, by decide +kernel⟩⟩
def tab_X12_feesBy : List En := [(0, 8, 0, 0), (1, 4, 1, 0), (2, 6, 2, 0), (6, 6, 2, 0), (7, 8, 0, 0), (8, 4, 1, 0), (9, 0, 0, 0), (16, 23, 0, 0)]
theorem ok_X12_feesBy : tab_X12_feesBy.all (okE cX12_feesBy) = true := by decide +kernel
def ed_X12_feesBy : List (Nat × Instr × Nat) := [(3, .invokevirtual 176, 3), (10, .invokevirtual 168, 3), (13, .invokestatic 187, 3), (17, .lreturn, 1)]
theorem okd_X12_feesBy : ed_X12_feesBy.all (okD cX12_feesBy) = true := by decide +kernel
def f_X12_feesBy (S : St) (p0 : Nat) (p1 : Int32) (p2 : Int64) : Option (Int64) := cl (f_X12_royaltyOf S p0 p1 p2) fun (v1 : Int64) => cl (f_X12_ofPlan S p0 p1 0) fun (v2 : Int64) => cl (f_X12_rated S p2 v2) fun (v3 : Int64) => some (v1 + v3)
set_option maxHeartbeats 4000000 in
set_option maxRecDepth 100000 in
theorem c_X12_feesBy (S : St) (p0 : Nat) (p1 : Int32) (p2 : Int64) : Ct yX12_feesBy cX12_feesBy 4 (some .long) 2 55 [.ref p0, .int p1, .long p2] [(p0, 11)] S (f_X12_feesBy S p0 p1 p2) oL (fun _ => S) := by
  refine Ct_of RX12 rfl (by decide) (Nat.le_of_ble_eq_true rfl) 0 (vs := [some (.ref p0), some (.int p1), some (.long p2), none]) rfl (fun C X E hr ht => ?_)
  have t0_ : tT C p0 11 := ht (p0, 11) (by simp)
  unfold f_X12_feesBy
  refine s_run X ok_X12_feesBy 0 3 (pc' := 3) (vs' := [some (.ref p0), some (.int p1), some (.long p2), none]) (st' := [.long p2, .int p1, .ref p0]) rfl ?_
  refine s_callV (rest := []) X E mv_X12_176 (c_X12_royaltyOf S p0 p1 p2) (ta1 t0_) rfl (by decide) t0_ rfl rfl (Nat.le_of_ble_eq_true rfl) (Nat.le_of_ble_eq_true rfl) (Nat.le_of_ble_eq_true rfl) (dk okd_X12_feesBy 0 rfl) (st' := fun v1 => [.long v1]) (fun _ => rfl) (fun v1 => ?_)
  refine s_run X ok_X12_feesBy 3 4 (pc' := 10) (vs' := [some (.ref p0), some (.int p1), some (.long p2), none]) (st' := [.int 0, .int p1, .ref p0, .long p2, .long v1]) rfl ?_
  refine s_callV (rest := [.long p2, .long v1]) X E mv_X12_168 (c_X12_ofPlan S p0 p1 0) (ta1 t0_) rfl (by decide) t0_ rfl rfl (Nat.le_of_ble_eq_true rfl) (Nat.le_of_ble_eq_true rfl) (Nat.le_of_ble_eq_true rfl) (dk okd_X12_feesBy 1 rfl) (st' := fun v2 => [.long v2, .long p2, .long v1]) (fun _ => rfl) (fun v2 => ?_)
  refine s_callS (rest := [.long v1]) X E ms_X12_187 (c_X12_rated S p2 v2) (ta0) rfl rfl (Nat.le_of_ble_eq_true rfl) (Nat.le_of_ble_eq_true rfl) (Nat.le_of_ble_eq_true rfl) (dk okd_X12_feesBy 2 rfl) (st' := fun v3 => [.long v3, .long v1]) (fun _ => rfl) (fun v3 => ?_)
  refine s_run X ok_X12_feesBy 7 1 (pc' := 17) (vs' := [some (.ref p0), some (.int p1), some (.long p2), none]) (st' := [.long (v1 + v3)]) rfl ?_
  exact s_lret X hr (dk okd_X12_feesBy 3 rfl) rfl rfl
def tab_X12_cheapestPlan : List En := [(0, 8, 0, 0), (1, 0, 0, 0), (5, 8, 0, 0), (6, 8, 0, 0), (7, 4, 1, 0), (14, 0, 0, 1), (15, 41, 19, 0), (18, 0, 0, 0), (19, 0, 0, 1), (26, 0, 0, 0), (28, 8, 0, 0), (29, 4, 1, 0), (30, 1, 0, 100), (35, 12, 2, 0), (36, 0, 0, 0), (37, 11, 4, 0), (39, 0, 0, 1), (40, 11, 5, 0), (42, 5, 5, 0), (44, 31, 0, 0), (45, 8, 0, 0), (49, 0, 0, 1), (51, 40, 0, 0), (55, 8, 0, 0), (56, 5, 5, 0), (58, 6, 2, 0), (62, 8, 0, 0), (63, 5, 4, 0), (65, 6, 2, 0), (69, 40, 0, 0), (73, 5, 5, 0), (75, 11, 4, 0), (77, 16, 5, 1), (80, 41, 42, 0), (83, 5, 4, 0)]
theorem ok_X12_cheapestPlan : tab_X12_cheapestPlan.all (okE cX12_cheapestPlan) = true := by decide +kernel
def ed_X12_cheapestPlan : List (Nat × Instr × Nat) := [(2, .putfield 50, 3), (8, .invokevirtual 85, 3), (11, .ifCond .ne 7, 3), (20, .invokevirtual 81, 3), (23, .ifCond .eq 5, 3), (27, .ireturn, 1), (32, .invokevirtual 191, 3), (46, .getfield 9, 3), (50, .laload, 1), (52, .ifCond .ge 31, 3), (59, .invokevirtual 194, 3), (66, .invokevirtual 194, 3), (70, .ifCond .ge 7, 3), (85, .ireturn, 1)]
theorem okd_X12_cheapestPlan : ed_X12_cheapestPlan.all (okD cX12_cheapestPlan) = true := by decide +kernel
def f_X12_cheapestPlan (S : St) (p0 : Nat) (p1 : Int32) : Option (Int32 × St) := lt (uI S p0 2 0) fun (S1 : St) => cl (f_X12_isFranchisee S1 p0 p1) fun (v2 : Int32) => jn (κ := Int32 → Option (Int32 × St)) (fun x3 => cl (f_X12_throwsIf S1 p0 x3 1) fun (o6 : Int32 × St) => if o6.1 = 0 then (cl (f_X12_salesNow o6.2 p0 p1 100) fun (v7 : Int64) => jn (κ := Int32 → Option (Int32 × St)) (fun x8 => some (x8, o6.2)) fun k9 => lp (κ := Int32 → Int32 → Option (Int32 × St)) (fun _ _ => none) (fun k13 x11 x12 => lt (gR o6.2 p0 0) fun (a15 : Nat) => ldJ o6.2 a15 1 fun (v17 : Int64) => if v17 ≤ (Int32.toInt64 x12) then (k9 x11) else (cl (f_X12_feesBy o6.2 p0 x12 v7) fun (v18 : Int64) => cl (f_X12_feesBy o6.2 p0 x11 v7) fun (v19 : Int64) => jn (κ := Int32 → Option (Int32 × St)) (fun x20 => k13 x20 (x12 + 1)) fun k21 => if v19 ≤ v18 then (k21 x11) else (k21 x12))) FU 0 1) else (some (0, o6.2))) fun k4 => if v2 = 0 then (k4 1) else (k4 0)
set_option maxHeartbeats 4000000 in
set_option maxRecDepth 100000 in
theorem c_X12_cheapestPlan (S : St) (p0 : Nat) (p1 : Int32) : Ct yX12_cheapestPlan cX12_cheapestPlan 6 (some .int) 3 78 [.ref p0, .int p1] [(p0, 11)] S (f_X12_cheapestPlan S p0 p1) oIS sS := by
  refine Ct_of RX12 rfl (by decide) (Nat.le_of_ble_eq_true rfl) 4 (vs := [some (.ref p0), some (.int p1), none, none, none, none]) rfl (fun C X E hr ht => ?_)
  have t0_ : tT C p0 11 := ht (p0, 11) (by simp)
  unfold f_X12_cheapestPlan
  refine s_run X ok_X12_cheapestPlan 0 2 (pc' := 2) (vs' := [some (.ref p0), some (.int p1), none, none, none, none]) (st' := [.int 0, .ref p0]) rfl ?_
  refine s_putI X fp_X12_50 t0_ (dk okd_X12_cheapestPlan 0 rfl) (fun S1 => ?_)
  refine s_run X ok_X12_cheapestPlan 2 3 (pc' := 8) (vs' := [some (.ref p0), some (.int p1), none, none, none, none]) (st' := [.int p1, .ref p0, .ref p0]) rfl ?_
  refine s_callV (rest := [.ref p0]) X E mv_X12_85 (c_X12_isFranchisee S1 p0 p1) (ta1 t0_) rfl (by decide) t0_ rfl rfl (Nat.le_of_ble_eq_true rfl) (Nat.le_of_ble_eq_true rfl) (Nat.le_of_ble_eq_true rfl) (dk okd_X12_cheapestPlan 1 rfl) (st' := fun v2 => [.int v2, .ref p0]) (fun _ => rfl) (fun v2 => ?_)
  refine s_jn (κ := Int32 → Option (Int32 × St)) (fun k4 => ∀ (x3 : Int32), Jd C 6 (QJ C oIS sS) S1 19 [some (.ref p0), some (.int p1), none, none, none, none] [.int x3, .ref p0] (k4 x3)) (fun x3 => ?_) (fun k4 h5 => ?_)
  · refine s_run X ok_X12_cheapestPlan 8 1 (pc' := 20) (vs' := [some (.ref p0), some (.int p1), none, none, none, none]) (st' := [.int 1, .int x3, .ref p0]) rfl ?_
    refine s_callV (rest := []) X E mv_X12_81 (c_X12_throwsIf S1 p0 x3 1) (ta1 t0_) rfl (by decide) t0_ rfl rfl (Nat.le_of_ble_eq_true rfl) (Nat.le_of_ble_eq_true rfl) (Nat.le_of_ble_eq_true rfl) (dk okd_X12_cheapestPlan 3 rfl) (st' := fun o6 => [.int o6.1]) (fun _ => rfl) (fun o6 => ?_)
    refine s_if_eq (tgt := 28) X (dk okd_X12_cheapestPlan 4 rfl) (by decide) ?_ ?_
    · refine s_run X ok_X12_cheapestPlan 10 3 (pc' := 32) (vs' := [some (.ref p0), some (.int p1), none, none, none, none]) (st' := [.int 100, .int p1, .ref p0]) rfl ?_
      refine s_callV (rest := []) X E mv_X12_191 (c_X12_salesNow o6.2 p0 p1 100) (ta1 t0_) rfl (by decide) t0_ rfl rfl (Nat.le_of_ble_eq_true rfl) (Nat.le_of_ble_eq_true rfl) (Nat.le_of_ble_eq_true rfl) (dk okd_X12_cheapestPlan 6 rfl) (st' := fun v7 => [.long v7]) (fun _ => rfl) (fun v7 => ?_)
      refine s_run X ok_X12_cheapestPlan 13 5 (pc' := 42) (vs' := [some (.ref p0), some (.int p1), some (.long v7), none, some (.int 0), some (.int 1)]) (st' := []) rfl ?_
      refine s_jn (κ := Int32 → Option (Int32 × St)) (fun k9 => ∀ (x8 : Int32), Jd C 6 (QJ C oIS sS) o6.2 83 [none, none, none, none, some (.int x8), none] [] (k9 x8)) (fun x8 => ?_) (fun k9 h10 => ?_)
      · refine s_run X ok_X12_cheapestPlan 34 1 (pc' := 85) (vs' := [none, none, none, none, some (.int x8), none]) (st' := [.int x8]) rfl ?_
        exact s_iret X hr (dk okd_X12_cheapestPlan 13 rfl) rfl rfl
      · refine s_less [true, false, true, false, true, true] (vs' := [some (.ref p0), none, some (.long v7), none, some (.int 0), some (.int 1)]) rfl ?_
        refine s_lp (κ := Int32 → Int32 → Option (Int32 × St)) (fun k13 => ∀ (x11 : Int32) (x12 : Int32), Jd C 6 (QJ C oIS sS) o6.2 42 [some (.ref p0), none, some (.long v7), none, some (.int x11), some (.int x12)] [] (k13 x11 x12)) (fun _ _ => s_none) (fun k13 h14 x11 x12 => ?_) FU 0 1
        refine s_run X ok_X12_cheapestPlan 18 3 (pc' := 46) (vs' := [some (.ref p0), none, some (.long v7), none, some (.int x11), some (.int x12)]) (st' := [.ref p0, .long (Int32.toInt64 x12)]) rfl ?_
        refine s_getR X fl_X12_9 t0_ (dk okd_X12_cheapestPlan 7 rfl) (fun a15 (t16 : tT C a15 14) => ?_)
        refine s_run X ok_X12_cheapestPlan 21 1 (pc' := 50) (vs' := [some (.ref p0), none, some (.long v7), none, some (.int x11), some (.int x12)]) (st' := [.int 1, .ref a15, .long (Int32.toInt64 x12)]) rfl ?_
        refine s_lald X t16 (dk okd_X12_cheapestPlan 8 rfl) (fun v17 => ?_)
        refine s_run X ok_X12_cheapestPlan 22 1 (pc' := 52) (vs' := [some (.ref p0), none, some (.long v7), none, some (.int x11), some (.int x12)]) (st' := [.int (lg_cmp (Int32.toInt64 x12) v17)]) rfl ?_
        refine s_lif_ge (tgt := 83) X (dk okd_X12_cheapestPlan 9 rfl) (by decide) ?_ ?_
        · exact s_less [false, false, false, false, true, false] rfl (h10 x11)
        · refine s_run X ok_X12_cheapestPlan 23 3 (pc' := 59) (vs' := [some (.ref p0), none, some (.long v7), none, some (.int x11), some (.int x12)]) (st' := [.long v7, .int x12, .ref p0]) rfl ?_
          refine s_callV (rest := []) X E mv_X12_194 (c_X12_feesBy o6.2 p0 x12 v7) (ta1 t0_) rfl (by decide) t0_ rfl rfl (Nat.le_of_ble_eq_true rfl) (Nat.le_of_ble_eq_true rfl) (Nat.le_of_ble_eq_true rfl) (dk okd_X12_cheapestPlan 10 rfl) (st' := fun v18 => [.long v18]) (fun _ => rfl) (fun v18 => ?_)
          refine s_run X ok_X12_cheapestPlan 26 3 (pc' := 66) (vs' := [some (.ref p0), none, some (.long v7), none, some (.int x11), some (.int x12)]) (st' := [.long v7, .int x11, .ref p0, .long v18]) rfl ?_
          refine s_callV (rest := [.long v18]) X E mv_X12_194 (c_X12_feesBy o6.2 p0 x11 v7) (ta1 t0_) rfl (by decide) t0_ rfl rfl (Nat.le_of_ble_eq_true rfl) (Nat.le_of_ble_eq_true rfl) (Nat.le_of_ble_eq_true rfl) (dk okd_X12_cheapestPlan 11 rfl) (st' := fun v19 => [.long v19, .long v18]) (fun _ => rfl) (fun v19 => ?_)
          refine s_run X ok_X12_cheapestPlan 29 1 (pc' := 70) (vs' := [some (.ref p0), none, some (.long v7), none, some (.int x11), some (.int x12)]) (st' := [.int (lg_cmp v18 v19)]) rfl ?_
          refine s_jn (κ := Int32 → Option (Int32 × St)) (fun k21 => ∀ (x20 : Int32), Jd C 6 (QJ C oIS sS) o6.2 77 [some (.ref p0), none, some (.long v7), none, some (.int x20), some (.int x12)] [] (k21 x20)) (fun x20 => ?_) (fun k21 h22 => ?_)
          · refine s_run X ok_X12_cheapestPlan 32 2 (pc' := 42) (vs' := [some (.ref p0), none, some (.long v7), none, some (.int x20), some (.int (x12 + 1))]) (st' := []) rfl ?_
            exact h14 x20 (x12 + 1)
          · refine s_lif_ge (tgt := 77) X (dk okd_X12_cheapestPlan 12 rfl) (by decide) ?_ ?_
            · exact h22 x11
            · refine s_run X ok_X12_cheapestPlan 30 2 (pc' := 77) (vs' := [some (.ref p0), none, some (.long v7), none, some (.int x12), some (.int x12)]) (st' := []) rfl ?_
              exact h22 x12
    · refine s_run X ok_X12_cheapestPlan 9 1 (pc' := 27) (vs' := [some (.ref p0), some (.int p1), none, none, none, none]) (st' := [.int 0]) rfl ?_
      exact s_iret X hr (dk okd_X12_cheapestPlan 5 rfl) rfl rfl
  · refine s_if_ne (tgt := 18) X (dk okd_X12_cheapestPlan 2 rfl) (by decide) ?_ ?_
    · refine s_run X ok_X12_cheapestPlan 7 1 (pc' := 19) (vs' := [some (.ref p0), some (.int p1), none, none, none, none]) (st' := [.int 0, .ref p0]) rfl ?_
      exact h5 0
    · refine s_run X ok_X12_cheapestPlan 5 2 (pc' := 19) (vs' := [some (.ref p0), some (.int p1), none, none, none, none]) (st' := [.int 1, .ref p0]) rfl ?_
      exact h5 1
def tab_X12_isOver : List En := [(0, 8, 0, 0), (4, 0, 0, 0), (9, 40, 0, 0), (13, 0, 0, 1), (14, 41, 18, 0), (17, 0, 0, 0)]
theorem ok_X12_isOver : tab_X12_isOver.all (okE cX12_isOver) = true := by decide +kernel
def ed_X12_isOver : List (Nat × Instr × Nat) := [(1, .getfield 9, 3), (5, .laload, 1), (6, .ldc2_w 197, 3), (10, .ifCond .ne 7, 3), (18, .ireturn, 1)]
theorem okd_X12_isOver : ed_X12_isOver.all (okD cX12_isOver) = true := by decide +kernel
def f_X12_isOver (S : St) (p0 : Nat) : Option (Int32) := lt (gR S p0 0) fun (a1 : Nat) => ldJ S a1 0 fun (v3 : Int64) => if v3 = 60 then (some 1) else (some 0)
set_option maxHeartbeats 4000000 in
set_option maxRecDepth 100000 in
theorem c_X12_isOver (S : St) (p0 : Nat) : Ct yX12_isOver cX12_isOver 1 (some .boolean) 0 0 [.ref p0] [(p0, 11)] S (f_X12_isOver S p0) oI (fun _ => S) := by
  refine Ct_of RX12 rfl (by decide) (Nat.le_of_ble_eq_true rfl) 0 (vs := [some (.ref p0)]) rfl (fun C X E hr ht => ?_)
  have t0_ : tT C p0 11 := ht (p0, 11) (by simp)
  unfold f_X12_isOver
  refine s_run X ok_X12_isOver 0 1 (pc' := 1) (vs' := [some (.ref p0)]) (st' := [.ref p0]) rfl ?_
  refine s_getR X fl_X12_9 t0_ (dk okd_X12_isOver 0 rfl) (fun a1 (t2 : tT C a1 14) => ?_)
  refine s_run X ok_X12_isOver 1 1 (pc' := 5) (vs' := [some (.ref p0)]) (st' := [.int 0, .ref a1]) rfl ?_
  refine s_lald X t2 (dk okd_X12_isOver 1 rfl) (fun v3 => ?_)
  refine s_ldc2 X cl_X12_197 (dk okd_X12_isOver 2 rfl) ?_
  refine s_run X ok_X12_isOver 2 1 (pc' := 10) (vs' := [some (.ref p0)]) (st' := [.int (lg_cmp v3 60)]) rfl ?_
  refine s_lif_ne (tgt := 17) X (dk okd_X12_isOver 3 rfl) (by decide) ?_ ?_
  · refine s_run X ok_X12_isOver 5 1 (pc' := 18) (vs' := [some (.ref p0)]) (st' := [.int 0]) rfl ?_
    exact s_zret0 X hr (dk okd_X12_isOver 4 rfl) (by decide) rfl rfl
  · refine s_run X ok_X12_isOver 3 2 (pc' := 18) (vs' := [some (.ref p0)]) (st' := [.int 1]) rfl ?_
    exact s_zret0 X hr (dk okd_X12_isOver 4 rfl) (by decide) rfl rfl
def tab_X12_reportSales : List En := [(0, 8, 0, 0), (1, 0, 0, 0), (5, 8, 0, 0), (6, 8, 0, 0), (7, 4, 1, 0), (14, 0, 0, 1), (15, 41, 19, 0), (18, 0, 0, 0), (19, 0, 0, 1), (26, 8, 0, 0), (27, 6, 2, 0), (28, 3, 0, 0), (38, 0, 0, 1), (39, 41, 43, 0), (42, 0, 0, 0), (43, 0, 0, 2), (50, 8, 0, 0), (51, 8, 0, 0), (55, 0, 0, 3), (62, 3, 0, 0), (64, 8, 0, 0), (65, 4, 1, 0), (76, 8, 0, 0), (77, 4, 1, 0), (78, 0, 0, 3), (82, 13, 4, 0), (84, 8, 0, 0), (88, 2, 0, 186), (91, 0, 0, 4), (92, 4, 1, 0), (93, 19, 0, 0), (94, 17, 0, 0), (95, 0, 0, 3), (96, 17, 0, 0), (97, 6, 2, 0), (99, 7, 4, 0)]
theorem ok_X12_reportSales : tab_X12_reportSales.all (okE cX12_reportSales) = true := by decide +kernel
def ed_X12_reportSales : List (Nat × Instr × Nat) := [(2, .putfield 50, 3), (8, .invokevirtual 141, 3), (11, .ifCond .ne 7, 3), (20, .invokevirtual 81, 3), (23, .ifCond .ne 39, 3), (29, .ldc2_w 199, 3), (32, .invokestatic 53, 3), (35, .ifCond .ne 7, 3), (44, .invokevirtual 81, 3), (47, .ifCond .ne 15, 3), (52, .invokevirtual 201, 3), (56, .invokevirtual 81, 3), (59, .ifCond .eq 5, 3), (63, .lreturn, 1), (66, .invokevirtual 118, 3), (69, .ifCond .ne 7, 3), (72, .ldc2_w 48, 3), (75, .lreturn, 1), (79, .invokevirtual 113, 3), (85, .getfield 9, 3), (98, .lastore, 1), (101, .lreturn, 1)]
theorem okd_X12_reportSales : ed_X12_reportSales.all (okD cX12_reportSales) = true := by decide +kernel
def f_X12_reportSales (S : St) (p0 : Nat) (p1 : Int32) (p2 : Int64) : Option (Int64 × St) := lt (uI S p0 2 0) fun (S1 : St) => cl (f_X12_isOutlet S1 p0 p1) fun (v2 : Int32) => jn (κ := Int32 → Option (Int64 × St)) (fun x3 => cl (f_X12_throwsIf S1 p0 x3 1) fun (o6 : Int32 × St) => if o6.1 = 0 then (cl (f_X12_inRange o6.2 p2 0 10000000) fun (v7 : Int32) => jn (κ := Int32 → Option (Int64 × St)) (fun x8 => cl (f_X12_throwsIf o6.2 p0 x8 2) fun (o11 : Int32 × St) => if o11.1 = 0 then (cl (f_X12_isOver o11.2 p0) fun (v12 : Int32) => cl (f_X12_throwsIf o11.2 p0 v12 3) fun (o13 : Int32 × St) => if o13.1 = 0 then (cl (f_X12_isOpen o13.2 p0 p1) fun (v14 : Int32) => if v14 = 0 then (some ((-1), o13.2)) else (cl (f_X12_ofOutlet o13.2 p0 p1 3) fun (v15 : Int64) => lt (gR o13.2 p0 0) fun (a16 : Nat) => stJ o13.2 a16 ((186 + (4 * p1)) + 3) p2 fun (S18 : St) => some (v15, S18))) else (some (0, o13.2))) else (some (0, o11.2))) fun k9 => if v7 = 0 then (k9 1) else (k9 0)) else (some (0, o6.2))) fun k4 => if v2 = 0 then (k4 1) else (k4 0)
set_option maxHeartbeats 4000000 in
set_option maxRecDepth 100000 in
theorem c_X12_reportSales (S : St) (p0 : Nat) (p1 : Int32) (p2 : Int64) : Ct yX12_reportSales cX12_reportSales 6 (some .long) 2 46 [.ref p0, .int p1, .long p2] [(p0, 11)] S (f_X12_reportSales S p0 p1 p2) oLS sL := by
  refine Ct_of RX12 rfl (by decide) (Nat.le_of_ble_eq_true rfl) 2 (vs := [some (.ref p0), some (.int p1), some (.long p2), none, none, none]) rfl (fun C X E hr ht => ?_)
  have t0_ : tT C p0 11 := ht (p0, 11) (by simp)
  unfold f_X12_reportSales
  refine s_run X ok_X12_reportSales 0 2 (pc' := 2) (vs' := [some (.ref p0), some (.int p1), some (.long p2), none, none, none]) (st' := [.int 0, .ref p0]) rfl ?_
  refine s_putI X fp_X12_50 t0_ (dk okd_X12_reportSales 0 rfl) (fun S1 => ?_)
  refine s_run X ok_X12_reportSales 2 3 (pc' := 8) (vs' := [some (.ref p0), some (.int p1), some (.long p2), none, none, none]) (st' := [.int p1, .ref p0, .ref p0]) rfl ?_
  refine s_callV (rest := [.ref p0]) X E mv_X12_141 (c_X12_isOutlet S1 p0 p1) (ta1 t0_) rfl (by decide) t0_ rfl rfl (Nat.le_of_ble_eq_true rfl) (Nat.le_of_ble_eq_true rfl) (Nat.le_of_ble_eq_true rfl) (dk okd_X12_reportSales 1 rfl) (st' := fun v2 => [.int v2, .ref p0]) (fun _ => rfl) (fun v2 => ?_)
  refine s_jn (κ := Int32 → Option (Int64 × St)) (fun k4 => ∀ (x3 : Int32), Jd C 6 (QJ C oLS sL) S1 19 [some (.ref p0), some (.int p1), some (.long p2), none, none, none] [.int x3, .ref p0] (k4 x3)) (fun x3 => ?_) (fun k4 h5 => ?_)
  · refine s_run X ok_X12_reportSales 8 1 (pc' := 20) (vs' := [some (.ref p0), some (.int p1), some (.long p2), none, none, none]) (st' := [.int 1, .int x3, .ref p0]) rfl ?_
    refine s_callV (rest := []) X E mv_X12_81 (c_X12_throwsIf S1 p0 x3 1) (ta1 t0_) rfl (by decide) t0_ rfl rfl (Nat.le_of_ble_eq_true rfl) (Nat.le_of_ble_eq_true rfl) (Nat.le_of_ble_eq_true rfl) (dk okd_X12_reportSales 3 rfl) (st' := fun o6 => [.int o6.1]) (fun _ => rfl) (fun o6 => ?_)
    refine s_if_ne (tgt := 62) X (dk okd_X12_reportSales 4 rfl) (by decide) ?_ ?_
    · refine s_run X ok_X12_reportSales 19 1 (pc' := 63) (vs' := [some (.ref p0), some (.int p1), some (.long p2), none, none, none]) (st' := [.long 0]) rfl ?_
      exact s_lret X hr (dk okd_X12_reportSales 13 rfl) rfl rfl
    · refine s_run X ok_X12_reportSales 9 3 (pc' := 29) (vs' := [some (.ref p0), some (.int p1), some (.long p2), none, none, none]) (st' := [.long 0, .long p2, .ref p0]) rfl ?_
      refine s_ldc2 X cl_X12_199 (dk okd_X12_reportSales 5 rfl) ?_
      refine s_callS (rest := [.ref p0]) X E ms_X12_53 (c_X12_inRange o6.2 p2 0 10000000) (ta0) rfl rfl (Nat.le_of_ble_eq_true rfl) (Nat.le_of_ble_eq_true rfl) (Nat.le_of_ble_eq_true rfl) (dk okd_X12_reportSales 6 rfl) (st' := fun v7 => [.int v7, .ref p0]) (fun _ => rfl) (fun v7 => ?_)
      refine s_jn (κ := Int32 → Option (Int64 × St)) (fun k9 => ∀ (x8 : Int32), Jd C 6 (QJ C oLS sL) o6.2 43 [some (.ref p0), some (.int p1), some (.long p2), none, none, none] [.int x8, .ref p0] (k9 x8)) (fun x8 => ?_) (fun k9 h10 => ?_)
      · refine s_run X ok_X12_reportSales 15 1 (pc' := 44) (vs' := [some (.ref p0), some (.int p1), some (.long p2), none, none, none]) (st' := [.int 2, .int x8, .ref p0]) rfl ?_
        refine s_callV (rest := []) X E mv_X12_81 (c_X12_throwsIf o6.2 p0 x8 2) (ta1 t0_) rfl (by decide) t0_ rfl rfl (Nat.le_of_ble_eq_true rfl) (Nat.le_of_ble_eq_true rfl) (Nat.le_of_ble_eq_true rfl) (dk okd_X12_reportSales 8 rfl) (st' := fun o11 => [.int o11.1]) (fun _ => rfl) (fun o11 => ?_)
        refine s_if_ne (tgt := 62) X (dk okd_X12_reportSales 9 rfl) (by decide) ?_ ?_
        · refine s_run X ok_X12_reportSales 19 1 (pc' := 63) (vs' := [some (.ref p0), some (.int p1), some (.long p2), none, none, none]) (st' := [.long 0]) rfl ?_
          exact s_lret X hr (dk okd_X12_reportSales 13 rfl) rfl rfl
        · refine s_run X ok_X12_reportSales 16 2 (pc' := 52) (vs' := [some (.ref p0), some (.int p1), some (.long p2), none, none, none]) (st' := [.ref p0, .ref p0]) rfl ?_
          refine s_callV (rest := [.ref p0]) X E mv_X12_201 (c_X12_isOver o11.2 p0) (ta1 t0_) rfl (by decide) t0_ rfl rfl (Nat.le_of_ble_eq_true rfl) (Nat.le_of_ble_eq_true rfl) (Nat.le_of_ble_eq_true rfl) (dk okd_X12_reportSales 10 rfl) (st' := fun v12 => [.int v12, .ref p0]) (fun _ => rfl) (fun v12 => ?_)
          refine s_run X ok_X12_reportSales 18 1 (pc' := 56) (vs' := [some (.ref p0), some (.int p1), some (.long p2), none, none, none]) (st' := [.int 3, .int v12, .ref p0]) rfl ?_
          refine s_callV (rest := []) X E mv_X12_81 (c_X12_throwsIf o11.2 p0 v12 3) (ta1 t0_) rfl (by decide) t0_ rfl rfl (Nat.le_of_ble_eq_true rfl) (Nat.le_of_ble_eq_true rfl) (Nat.le_of_ble_eq_true rfl) (dk okd_X12_reportSales 11 rfl) (st' := fun o13 => [.int o13.1]) (fun _ => rfl) (fun o13 => ?_)
          refine s_if_eq (tgt := 64) X (dk okd_X12_reportSales 12 rfl) (by decide) ?_ ?_
          · refine s_run X ok_X12_reportSales 20 2 (pc' := 66) (vs' := [some (.ref p0), some (.int p1), some (.long p2), none, none, none]) (st' := [.int p1, .ref p0]) rfl ?_
            refine s_callV (rest := []) X E mv_X12_118 (c_X12_isOpen o13.2 p0 p1) (ta1 t0_) rfl (by decide) t0_ rfl rfl (Nat.le_of_ble_eq_true rfl) (Nat.le_of_ble_eq_true rfl) (Nat.le_of_ble_eq_true rfl) (dk okd_X12_reportSales 14 rfl) (st' := fun v14 => [.int v14]) (fun _ => rfl) (fun v14 => ?_)
            refine s_if_ne (tgt := 76) X (dk okd_X12_reportSales 15 rfl) (by decide) ?_ ?_
            · refine s_run X ok_X12_reportSales 22 3 (pc' := 79) (vs' := [some (.ref p0), some (.int p1), some (.long p2), none, none, none]) (st' := [.int 3, .int p1, .ref p0]) rfl ?_
              refine s_callV (rest := []) X E mv_X12_113 (c_X12_ofOutlet o13.2 p0 p1 3) (ta1 t0_) rfl (by decide) t0_ rfl rfl (Nat.le_of_ble_eq_true rfl) (Nat.le_of_ble_eq_true rfl) (Nat.le_of_ble_eq_true rfl) (dk okd_X12_reportSales 18 rfl) (st' := fun v15 => [.long v15]) (fun _ => rfl) (fun v15 => ?_)
              refine s_run X ok_X12_reportSales 25 2 (pc' := 85) (vs' := [some (.ref p0), some (.int p1), some (.long p2), none, some (.long v15), none]) (st' := [.ref p0]) rfl ?_
              refine s_getR X fl_X12_9 t0_ (dk okd_X12_reportSales 19 rfl) (fun a16 (t17 : tT C a16 14) => ?_)
              refine s_run X ok_X12_reportSales 27 8 (pc' := 98) (vs' := [some (.ref p0), some (.int p1), some (.long p2), none, some (.long v15), none]) (st' := [.long p2, .int ((186 + (4 * p1)) + 3), .ref a16]) rfl ?_
              refine s_last X t17 (dk okd_X12_reportSales 20 rfl) (fun S18 => ?_)
              refine s_run X ok_X12_reportSales 35 1 (pc' := 101) (vs' := [some (.ref p0), some (.int p1), some (.long p2), none, some (.long v15), none]) (st' := [.long v15]) rfl ?_
              exact s_lret X hr (dk okd_X12_reportSales 21 rfl) rfl rfl
            · refine s_ldc2 X cl_X12_48 (dk okd_X12_reportSales 16 rfl) ?_
              exact s_lret X hr (dk okd_X12_reportSales 17 rfl) rfl rfl
          · refine s_run X ok_X12_reportSales 19 1 (pc' := 63) (vs' := [some (.ref p0), some (.int p1), some (.long p2), none, none, none]) (st' := [.long 0]) rfl ?_
            exact s_lret X hr (dk okd_X12_reportSales 13 rfl) rfl rfl
      · refine s_if_ne (tgt := 42) X (dk okd_X12_reportSales 7 rfl) (by decide) ?_ ?_
        · refine s_run X ok_X12_reportSales 14 1 (pc' := 43) (vs' := [some (.ref p0), some (.int p1), some (.long p2), none, none, none]) (st' := [.int 0, .ref p0]) rfl ?_
          exact h10 0
        · refine s_run X ok_X12_reportSales 12 2 (pc' := 43) (vs' := [some (.ref p0), some (.int p1), some (.long p2), none, none, none]) (st' := [.int 1, .ref p0]) rfl ?_
          exact h10 1
  · refine s_if_ne (tgt := 18) X (dk okd_X12_reportSales 2 rfl) (by decide) ?_ ?_
    · refine s_run X ok_X12_reportSales 7 1 (pc' := 19) (vs' := [some (.ref p0), some (.int p1), some (.long p2), none, none, none]) (st' := [.int 0, .ref p0]) rfl ?_
      exact h5 0
    · refine s_run X ok_X12_reportSales 5 2 (pc' := 19) (vs' := [some (.ref p0), some (.int p1), some (.long p2), none, none, none]) (st' := [.int 1, .ref p0]) rfl ?_
      exact h5 1
def tab_X12_deliver : List En := [(0, 8, 0, 0), (1, 0, 0, 0), (5, 8, 0, 0), (6, 8, 0, 0), (7, 4, 1, 0), (14, 0, 0, 1), (15, 41, 19, 0), (18, 0, 0, 0), (19, 0, 0, 1), (26, 8, 0, 0), (27, 4, 2, 0), (28, 4, 3, 0), (35, 7, 4, 0), (37, 3, 1, 0), (47, 0, 0, 1), (48, 41, 52, 0), (51, 0, 0, 0), (52, 0, 0, 2), (59, 8, 0, 0), (60, 8, 0, 0), (64, 0, 0, 3), (71, 3, 0, 0), (73, 8, 0, 0), (74, 4, 1, 0), (85, 8, 0, 0), (86, 4, 1, 0), (87, 0, 0, 3), (91, 7, 4, 0), (93, 23, 0, 0), (97, 40, 0, 0), (105, 8, 0, 0), (109, 2, 0, 186), (112, 0, 0, 4), (113, 4, 1, 0), (114, 19, 0, 0), (115, 17, 0, 0), (116, 0, 0, 3), (117, 17, 0, 0), (118, 37, 0, 0), (120, 7, 4, 0), (122, 23, 0, 0), (124, 8, 0, 0), (125, 4, 1, 0), (126, 0, 0, 0), (130, 32, 0, 0), (131, 11, 6, 0), (133, 8, 0, 0), (134, 4, 2, 0), (135, 4, 3, 0), (139, 11, 7, 0), (141, 5, 7, 0), (143, 0, 0, (-1)), (147, 5, 7, 0), (149, 5, 6, 0), (154, 8, 0, 0), (155, 5, 6, 0), (163, 8, 0, 0), (164, 5, 7, 0), (172, 8, 0, 0), (176, 2, 0, 1150), (179, 1, 0, 8), (181, 5, 6, 0), (183, 19, 0, 0), (184, 17, 0, 0), (185, 5, 7, 0), (187, 17, 0, 0), (188, 37, 0, 0), (190, 7, 4, 0), (192, 23, 0, 0), (194, 8, 0, 0), (195, 4, 1, 0), (196, 0, 0, 3)]
theorem ok_X12_deliver : tab_X12_deliver.all (okE cX12_deliver) = true := by decide +kernel
def ed_X12_deliver : List (Nat × Instr × Nat) := [(2, .putfield 50, 3), (8, .invokevirtual 141, 3), (11, .ifCond .ne 7, 3), (20, .invokevirtual 81, 3), (23, .ifCond .ne 48, 3), (29, .invokestatic 67, 3), (32, .ifCond .eq 15, 3), (38, .ldc2_w 199, 3), (41, .invokestatic 53, 3), (44, .ifCond .ne 7, 3), (53, .invokevirtual 81, 3), (56, .ifCond .ne 15, 3), (61, .invokevirtual 201, 3), (65, .invokevirtual 81, 3), (68, .ifCond .eq 5, 3), (72, .lreturn, 1), (75, .invokevirtual 118, 3), (78, .ifCond .ne 7, 3), (81, .ldc2_w 48, 3), (84, .lreturn, 1), (88, .invokevirtual 113, 3), (94, .ldc2_w 199, 3), (98, .ifCond .le 7, 3), (101, .ldc2_w 205, 3), (104, .lreturn, 1), (106, .getfield 9, 3), (119, .laload, 1), (123, .lastore, 1), (127, .invokevirtual 113, 3), (136, .invokevirtual 71, 3), (144, .if_icmp .eq 50, 3), (151, .if_icmp .eq 43, 3), (157, .invokevirtual 128, 3), (160, .ifCond .eq 34, 3), (166, .invokevirtual 128, 3), (169, .ifCond .eq 25, 3), (173, .getfield 9, 3), (189, .laload, 1), (193, .lastore, 1), (197, .invokevirtual 113, 3), (200, .lreturn, 1)]
theorem okd_X12_deliver : ed_X12_deliver.all (okD cX12_deliver) = true := by decide +kernel
def f_X12_deliver (S : St) (p0 : Nat) (p1 : Int32) (p2 : Int32) (p3 : Int32) (p4 : Int64) : Option (Int64 × St) := lt (uI S p0 2 0) fun (S1 : St) => cl (f_X12_isOutlet S1 p0 p1) fun (v2 : Int32) => jn (κ := Int32 → Option (Int64 × St)) (fun x3 => cl (f_X12_throwsIf S1 p0 x3 1) fun (o6 : Int32 × St) => if o6.1 = 0 then (cl (f_X12_isCell o6.2 p2 p3) fun (v7 : Int32) => jn (κ := Int32 → Option (Int64 × St)) (fun x8 => cl (f_X12_throwsIf o6.2 p0 x8 2) fun (o11 : Int32 × St) => if o11.1 = 0 then (cl (f_X12_isOver o11.2 p0) fun (v12 : Int32) => cl (f_X12_throwsIf o11.2 p0 v12 3) fun (o13 : Int32 × St) => if o13.1 = 0 then (cl (f_X12_isOpen o13.2 p0 p1) fun (v14 : Int32) => if v14 = 0 then (some ((-1), o13.2)) else (cl (f_X12_ofOutlet o13.2 p0 p1 3) fun (v15 : Int64) => if (v15 + p4) ≤ 10000000 then (lt (gR o13.2 p0 0) fun (a16 : Nat) => ldJ o13.2 a16 ((186 + (4 * p1)) + 3) fun (v18 : Int64) => stJ o13.2 a16 ((186 + (4 * p1)) + 3) (v18 + p4) fun (S19 : St) => cl (f_X12_ofOutlet S19 p0 p1 0) fun (v20 : Int64) => lt (Int64.toInt32 v20) fun (v21 : Int32) => cl (f_X12_ownerOf S19 p0 p2 p3) fun (v22 : Int32) => jn (κ := St → Option (Int64 × St)) (fun S23 => cl (f_X12_ofOutlet S23 p0 p1 3) fun (v26 : Int64) => some (v26, S23)) fun k24 => if v22 = (-1) then (k24 S19) else (if v22 = v21 then (k24 S19) else (cl (f_X12_isActive S19 p0 v21) fun (v27 : Int32) => if v27 = 0 then (k24 S19) else (cl (f_X12_isActive S19 p0 v22) fun (v28 : Int32) => if v28 = 0 then (k24 S19) else (lt (gR S19 p0 0) fun (a29 : Nat) => ldJ S19 a29 ((1150 + (8 * v21)) + v22) fun (v31 : Int64) => stJ S19 a29 ((1150 + (8 * v21)) + v22) (v31 + p4) fun (S32 : St) => k24 S32))))) else (some ((-3), o13.2)))) else (some (0, o13.2))) else (some (0, o11.2))) fun k9 => jn (κ := Option (Int64 × St)) (k9 1) fun k33 => if v7 = 0 then (k33) else (cl (f_X12_inRange o6.2 p4 1 10000000) fun (v35 : Int32) => if v35 = 0 then (k33) else (k9 0))) else (some (0, o6.2))) fun k4 => if v2 = 0 then (k4 1) else (k4 0)
set_option maxHeartbeats 4000000 in
set_option maxRecDepth 100000 in
theorem c_X12_deliver (S : St) (p0 : Nat) (p1 : Int32) (p2 : Int32) (p3 : Int32) (p4 : Int64) : Ct yX12_deliver cX12_deliver 8 (some .long) 2 46 [.ref p0, .int p1, .int p2, .int p3, .long p4] [(p0, 11)] S (f_X12_deliver S p0 p1 p2 p3 p4) oLS sL := by
  refine Ct_of RX12 rfl (by decide) (Nat.le_of_ble_eq_true rfl) 2 (vs := [some (.ref p0), some (.int p1), some (.int p2), some (.int p3), some (.long p4), none, none, none]) rfl (fun C X E hr ht => ?_)
  have t0_ : tT C p0 11 := ht (p0, 11) (by simp)
  unfold f_X12_deliver
  refine s_run X ok_X12_deliver 0 2 (pc' := 2) (vs' := [some (.ref p0), some (.int p1), some (.int p2), some (.int p3), some (.long p4), none, none, none]) (st' := [.int 0, .ref p0]) rfl ?_
  refine s_putI X fp_X12_50 t0_ (dk okd_X12_deliver 0 rfl) (fun S1 => ?_)
  refine s_run X ok_X12_deliver 2 3 (pc' := 8) (vs' := [some (.ref p0), some (.int p1), some (.int p2), some (.int p3), some (.long p4), none, none, none]) (st' := [.int p1, .ref p0, .ref p0]) rfl ?_
  refine s_callV (rest := [.ref p0]) X E mv_X12_141 (c_X12_isOutlet S1 p0 p1) (ta1 t0_) rfl (by decide) t0_ rfl rfl (Nat.le_of_ble_eq_true rfl) (Nat.le_of_ble_eq_true rfl) (Nat.le_of_ble_eq_true rfl) (dk okd_X12_deliver 1 rfl) (st' := fun v2 => [.int v2, .ref p0]) (fun _ => rfl) (fun v2 => ?_)
  refine s_jn (κ := Int32 → Option (Int64 × St)) (fun k4 => ∀ (x3 : Int32), Jd C 8 (QJ C oLS sL) S1 19 [some (.ref p0), some (.int p1), some (.int p2), some (.int p3), some (.long p4), none, none, none] [.int x3, .ref p0] (k4 x3)) (fun x3 => ?_) (fun k4 h5 => ?_)
  · refine s_run X ok_X12_deliver 8 1 (pc' := 20) (vs' := [some (.ref p0), some (.int p1), some (.int p2), some (.int p3), some (.long p4), none, none, none]) (st' := [.int 1, .int x3, .ref p0]) rfl ?_
    refine s_callV (rest := []) X E mv_X12_81 (c_X12_throwsIf S1 p0 x3 1) (ta1 t0_) rfl (by decide) t0_ rfl rfl (Nat.le_of_ble_eq_true rfl) (Nat.le_of_ble_eq_true rfl) (Nat.le_of_ble_eq_true rfl) (dk okd_X12_deliver 3 rfl) (st' := fun o6 => [.int o6.1]) (fun _ => rfl) (fun o6 => ?_)
    refine s_if_ne (tgt := 71) X (dk okd_X12_deliver 4 rfl) (by decide) ?_ ?_
    · refine s_run X ok_X12_deliver 21 1 (pc' := 72) (vs' := [some (.ref p0), some (.int p1), some (.int p2), some (.int p3), some (.long p4), none, none, none]) (st' := [.long 0]) rfl ?_
      exact s_lret X hr (dk okd_X12_deliver 15 rfl) rfl rfl
    · refine s_run X ok_X12_deliver 9 3 (pc' := 29) (vs' := [some (.ref p0), some (.int p1), some (.int p2), some (.int p3), some (.long p4), none, none, none]) (st' := [.int p3, .int p2, .ref p0]) rfl ?_
      refine s_callS (rest := [.ref p0]) X E ms_X12_67 (c_X12_isCell o6.2 p2 p3) (ta0) rfl rfl (Nat.le_of_ble_eq_true rfl) (Nat.le_of_ble_eq_true rfl) (Nat.le_of_ble_eq_true rfl) (dk okd_X12_deliver 5 rfl) (st' := fun v7 => [.int v7, .ref p0]) (fun _ => rfl) (fun v7 => ?_)
      refine s_jn (κ := Int32 → Option (Int64 × St)) (fun k9 => ∀ (x8 : Int32), Jd C 8 (QJ C oLS sL) o6.2 52 [some (.ref p0), some (.int p1), some (.int p2), some (.int p3), some (.long p4), none, none, none] [.int x8, .ref p0] (k9 x8)) (fun x8 => ?_) (fun k9 h10 => ?_)
      · refine s_run X ok_X12_deliver 17 1 (pc' := 53) (vs' := [some (.ref p0), some (.int p1), some (.int p2), some (.int p3), some (.long p4), none, none, none]) (st' := [.int 2, .int x8, .ref p0]) rfl ?_
        refine s_callV (rest := []) X E mv_X12_81 (c_X12_throwsIf o6.2 p0 x8 2) (ta1 t0_) rfl (by decide) t0_ rfl rfl (Nat.le_of_ble_eq_true rfl) (Nat.le_of_ble_eq_true rfl) (Nat.le_of_ble_eq_true rfl) (dk okd_X12_deliver 10 rfl) (st' := fun o11 => [.int o11.1]) (fun _ => rfl) (fun o11 => ?_)
        refine s_if_ne (tgt := 71) X (dk okd_X12_deliver 11 rfl) (by decide) ?_ ?_
        · refine s_run X ok_X12_deliver 21 1 (pc' := 72) (vs' := [some (.ref p0), some (.int p1), some (.int p2), some (.int p3), some (.long p4), none, none, none]) (st' := [.long 0]) rfl ?_
          exact s_lret X hr (dk okd_X12_deliver 15 rfl) rfl rfl
        · refine s_run X ok_X12_deliver 18 2 (pc' := 61) (vs' := [some (.ref p0), some (.int p1), some (.int p2), some (.int p3), some (.long p4), none, none, none]) (st' := [.ref p0, .ref p0]) rfl ?_
          refine s_callV (rest := [.ref p0]) X E mv_X12_201 (c_X12_isOver o11.2 p0) (ta1 t0_) rfl (by decide) t0_ rfl rfl (Nat.le_of_ble_eq_true rfl) (Nat.le_of_ble_eq_true rfl) (Nat.le_of_ble_eq_true rfl) (dk okd_X12_deliver 12 rfl) (st' := fun v12 => [.int v12, .ref p0]) (fun _ => rfl) (fun v12 => ?_)
          refine s_run X ok_X12_deliver 20 1 (pc' := 65) (vs' := [some (.ref p0), some (.int p1), some (.int p2), some (.int p3), some (.long p4), none, none, none]) (st' := [.int 3, .int v12, .ref p0]) rfl ?_
          refine s_callV (rest := []) X E mv_X12_81 (c_X12_throwsIf o11.2 p0 v12 3) (ta1 t0_) rfl (by decide) t0_ rfl rfl (Nat.le_of_ble_eq_true rfl) (Nat.le_of_ble_eq_true rfl) (Nat.le_of_ble_eq_true rfl) (dk okd_X12_deliver 13 rfl) (st' := fun o13 => [.int o13.1]) (fun _ => rfl) (fun o13 => ?_)
          refine s_if_eq (tgt := 73) X (dk okd_X12_deliver 14 rfl) (by decide) ?_ ?_
          · refine s_run X ok_X12_deliver 22 2 (pc' := 75) (vs' := [some (.ref p0), some (.int p1), some (.int p2), some (.int p3), some (.long p4), none, none, none]) (st' := [.int p1, .ref p0]) rfl ?_
            refine s_callV (rest := []) X E mv_X12_118 (c_X12_isOpen o13.2 p0 p1) (ta1 t0_) rfl (by decide) t0_ rfl rfl (Nat.le_of_ble_eq_true rfl) (Nat.le_of_ble_eq_true rfl) (Nat.le_of_ble_eq_true rfl) (dk okd_X12_deliver 16 rfl) (st' := fun v14 => [.int v14]) (fun _ => rfl) (fun v14 => ?_)
            refine s_if_ne (tgt := 85) X (dk okd_X12_deliver 17 rfl) (by decide) ?_ ?_
            · refine s_run X ok_X12_deliver 24 3 (pc' := 88) (vs' := [some (.ref p0), some (.int p1), some (.int p2), some (.int p3), some (.long p4), none, none, none]) (st' := [.int 3, .int p1, .ref p0]) rfl ?_
              refine s_callV (rest := []) X E mv_X12_113 (c_X12_ofOutlet o13.2 p0 p1 3) (ta1 t0_) rfl (by decide) t0_ rfl rfl (Nat.le_of_ble_eq_true rfl) (Nat.le_of_ble_eq_true rfl) (Nat.le_of_ble_eq_true rfl) (dk okd_X12_deliver 20 rfl) (st' := fun v15 => [.long v15]) (fun _ => rfl) (fun v15 => ?_)
              refine s_run X ok_X12_deliver 27 2 (pc' := 94) (vs' := [some (.ref p0), some (.int p1), some (.int p2), some (.int p3), some (.long p4), none, none, none]) (st' := [.long (v15 + p4)]) rfl ?_
              refine s_ldc2 X cl_X12_199 (dk okd_X12_deliver 21 rfl) ?_
              refine s_run X ok_X12_deliver 29 1 (pc' := 98) (vs' := [some (.ref p0), some (.int p1), some (.int p2), some (.int p3), some (.long p4), none, none, none]) (st' := [.int (lg_cmp (v15 + p4) 10000000)]) rfl ?_
              refine s_lif_le (tgt := 105) X (dk okd_X12_deliver 22 rfl) (by decide) ?_ ?_
              · refine s_run X ok_X12_deliver 30 1 (pc' := 106) (vs' := [some (.ref p0), some (.int p1), some (.int p2), some (.int p3), some (.long p4), none, none, none]) (st' := [.ref p0]) rfl ?_
                refine s_getR X fl_X12_9 t0_ (dk okd_X12_deliver 25 rfl) (fun a16 (t17 : tT C a16 14) => ?_)
                refine s_run X ok_X12_deliver 31 8 (pc' := 119) (vs' := [some (.ref p0), some (.int p1), some (.int p2), some (.int p3), some (.long p4), none, none, none]) (st' := [.int ((186 + (4 * p1)) + 3), .ref a16, .int ((186 + (4 * p1)) + 3), .ref a16]) rfl ?_
                refine s_lald X t17 (dk okd_X12_deliver 26 rfl) (fun v18 => ?_)
                refine s_run X ok_X12_deliver 39 2 (pc' := 123) (vs' := [some (.ref p0), some (.int p1), some (.int p2), some (.int p3), some (.long p4), none, none, none]) (st' := [.long (v18 + p4), .int ((186 + (4 * p1)) + 3), .ref a16]) rfl ?_
                refine s_last X t17 (dk okd_X12_deliver 27 rfl) (fun S19 => ?_)
                refine s_run X ok_X12_deliver 41 3 (pc' := 127) (vs' := [some (.ref p0), some (.int p1), some (.int p2), some (.int p3), some (.long p4), none, none, none]) (st' := [.int 0, .int p1, .ref p0]) rfl ?_
                refine s_callV (rest := []) X E mv_X12_113 (c_X12_ofOutlet S19 p0 p1 0) (ta1 t0_) rfl (by decide) t0_ rfl rfl (Nat.le_of_ble_eq_true rfl) (Nat.le_of_ble_eq_true rfl) (Nat.le_of_ble_eq_true rfl) (dk okd_X12_deliver 28 rfl) (st' := fun v20 => [.long v20]) (fun _ => rfl) (fun v20 => ?_)
                refine s_run X ok_X12_deliver 44 1 (pc' := 131) (vs' := [some (.ref p0), some (.int p1), some (.int p2), some (.int p3), some (.long p4), none, none, none]) (st' := [.int (Int64.toInt32 v20)]) rfl ?_
                refine s_nmI (fun v21 => ?_)
                refine s_run X ok_X12_deliver 45 4 (pc' := 136) (vs' := [some (.ref p0), some (.int p1), some (.int p2), some (.int p3), some (.long p4), none, some (.int v21), none]) (st' := [.int p3, .int p2, .ref p0]) rfl ?_
                refine s_callV (rest := []) X E mv_X12_71 (c_X12_ownerOf S19 p0 p2 p3) (ta1 t0_) rfl (by decide) t0_ rfl rfl (Nat.le_of_ble_eq_true rfl) (Nat.le_of_ble_eq_true rfl) (Nat.le_of_ble_eq_true rfl) (dk okd_X12_deliver 29 rfl) (st' := fun v22 => [.int v22]) (fun _ => rfl) (fun v22 => ?_)
                refine s_run X ok_X12_deliver 49 3 (pc' := 144) (vs' := [some (.ref p0), some (.int p1), some (.int p2), some (.int p3), some (.long p4), none, some (.int v21), some (.int v22)]) (st' := [.int (-1), .int v22]) rfl ?_
                refine s_jn (κ := St → Option (Int64 × St)) (fun k24 => ∀ (S23 : St), Jd C 8 (QJ C oLS sL) S23 194 [some (.ref p0), some (.int p1), none, none, none, none, none, none] [] (k24 S23)) (fun S23 => ?_) (fun k24 h25 => ?_)
                · refine s_run X ok_X12_deliver 69 3 (pc' := 197) (vs' := [some (.ref p0), some (.int p1), none, none, none, none, none, none]) (st' := [.int 3, .int p1, .ref p0]) rfl ?_
                  refine s_callV (rest := []) X E mv_X12_113 (c_X12_ofOutlet S23 p0 p1 3) (ta1 t0_) rfl (by decide) t0_ rfl rfl (Nat.le_of_ble_eq_true rfl) (Nat.le_of_ble_eq_true rfl) (Nat.le_of_ble_eq_true rfl) (dk okd_X12_deliver 39 rfl) (st' := fun v26 => [.long v26]) (fun _ => rfl) (fun v26 => ?_)
                  exact s_lret X hr (dk okd_X12_deliver 40 rfl) rfl rfl
                · refine s_icmp_eq (tgt := 194) X (dk okd_X12_deliver 30 rfl) (by decide) ?_ ?_
                  · exact s_less [true, true, false, false, false, false, false, false] rfl (h25 S19)
                  · refine s_run X ok_X12_deliver 52 2 (pc' := 151) (vs' := [some (.ref p0), some (.int p1), some (.int p2), some (.int p3), some (.long p4), none, some (.int v21), some (.int v22)]) (st' := [.int v21, .int v22]) rfl ?_
                    refine s_icmp_eq (tgt := 194) X (dk okd_X12_deliver 31 rfl) (by decide) ?_ ?_
                    · exact s_less [true, true, false, false, false, false, false, false] rfl (h25 S19)
                    · refine s_run X ok_X12_deliver 54 2 (pc' := 157) (vs' := [some (.ref p0), some (.int p1), some (.int p2), some (.int p3), some (.long p4), none, some (.int v21), some (.int v22)]) (st' := [.int v21, .ref p0]) rfl ?_
                      refine s_callV (rest := []) X E mv_X12_128 (c_X12_isActive S19 p0 v21) (ta1 t0_) rfl (by decide) t0_ rfl rfl (Nat.le_of_ble_eq_true rfl) (Nat.le_of_ble_eq_true rfl) (Nat.le_of_ble_eq_true rfl) (dk okd_X12_deliver 32 rfl) (st' := fun v27 => [.int v27]) (fun _ => rfl) (fun v27 => ?_)
                      refine s_if_eq (tgt := 194) X (dk okd_X12_deliver 33 rfl) (by decide) ?_ ?_
                      · exact s_less [true, true, false, false, false, false, false, false] rfl (h25 S19)
                      · refine s_run X ok_X12_deliver 56 2 (pc' := 166) (vs' := [some (.ref p0), some (.int p1), some (.int p2), some (.int p3), some (.long p4), none, some (.int v21), some (.int v22)]) (st' := [.int v22, .ref p0]) rfl ?_
                        refine s_callV (rest := []) X E mv_X12_128 (c_X12_isActive S19 p0 v22) (ta1 t0_) rfl (by decide) t0_ rfl rfl (Nat.le_of_ble_eq_true rfl) (Nat.le_of_ble_eq_true rfl) (Nat.le_of_ble_eq_true rfl) (dk okd_X12_deliver 34 rfl) (st' := fun v28 => [.int v28]) (fun _ => rfl) (fun v28 => ?_)
                        refine s_if_eq (tgt := 194) X (dk okd_X12_deliver 35 rfl) (by decide) ?_ ?_
                        · exact s_less [true, true, false, false, false, false, false, false] rfl (h25 S19)
                        · refine s_run X ok_X12_deliver 58 1 (pc' := 173) (vs' := [some (.ref p0), some (.int p1), some (.int p2), some (.int p3), some (.long p4), none, some (.int v21), some (.int v22)]) (st' := [.ref p0]) rfl ?_
                          refine s_getR X fl_X12_9 t0_ (dk okd_X12_deliver 36 rfl) (fun a29 (t30 : tT C a29 14) => ?_)
                          refine s_run X ok_X12_deliver 59 8 (pc' := 189) (vs' := [some (.ref p0), some (.int p1), some (.int p2), some (.int p3), some (.long p4), none, some (.int v21), some (.int v22)]) (st' := [.int ((1150 + (8 * v21)) + v22), .ref a29, .int ((1150 + (8 * v21)) + v22), .ref a29]) rfl ?_
                          refine s_lald X t30 (dk okd_X12_deliver 37 rfl) (fun v31 => ?_)
                          refine s_run X ok_X12_deliver 67 2 (pc' := 193) (vs' := [some (.ref p0), some (.int p1), some (.int p2), some (.int p3), some (.long p4), none, some (.int v21), some (.int v22)]) (st' := [.long (v31 + p4), .int ((1150 + (8 * v21)) + v22), .ref a29]) rfl ?_
                          refine s_last X t30 (dk okd_X12_deliver 38 rfl) (fun S32 => ?_)
                          exact s_less [true, true, false, false, false, false, false, false] rfl (h25 S32)
              · refine s_ldc2 X cl_X12_205 (dk okd_X12_deliver 23 rfl) ?_
                exact s_lret X hr (dk okd_X12_deliver 24 rfl) rfl rfl
            · refine s_ldc2 X cl_X12_48 (dk okd_X12_deliver 18 rfl) ?_
              exact s_lret X hr (dk okd_X12_deliver 19 rfl) rfl rfl
          · refine s_run X ok_X12_deliver 21 1 (pc' := 72) (vs' := [some (.ref p0), some (.int p1), some (.int p2), some (.int p3), some (.long p4), none, none, none]) (st' := [.long 0]) rfl ?_
            exact s_lret X hr (dk okd_X12_deliver 15 rfl) rfl rfl
      · refine s_jn (κ := Option (Int64 × St)) (fun k33 => Jd C 8 (QJ C oLS sL) o6.2 47 [some (.ref p0), some (.int p1), some (.int p2), some (.int p3), some (.long p4), none, none, none] [.ref p0] k33) ?_ (fun k33 h34 => ?_)
        · refine s_run X ok_X12_deliver 14 2 (pc' := 52) (vs' := [some (.ref p0), some (.int p1), some (.int p2), some (.int p3), some (.long p4), none, none, none]) (st' := [.int 1, .ref p0]) rfl ?_
          exact h10 1
        · refine s_if_eq (tgt := 47) X (dk okd_X12_deliver 6 rfl) (by decide) ?_ ?_
          · exact h34
          · refine s_run X ok_X12_deliver 12 2 (pc' := 38) (vs' := [some (.ref p0), some (.int p1), some (.int p2), some (.int p3), some (.long p4), none, none, none]) (st' := [.long 1, .long p4, .ref p0]) rfl ?_
            refine s_ldc2 X cl_X12_199 (dk okd_X12_deliver 7 rfl) ?_
            refine s_callS (rest := [.ref p0]) X E ms_X12_53 (c_X12_inRange o6.2 p4 1 10000000) (ta0) rfl rfl (Nat.le_of_ble_eq_true rfl) (Nat.le_of_ble_eq_true rfl) (Nat.le_of_ble_eq_true rfl) (dk okd_X12_deliver 8 rfl) (st' := fun v35 => [.int v35, .ref p0]) (fun _ => rfl) (fun v35 => ?_)
            refine s_if_ne (tgt := 51) X (dk okd_X12_deliver 9 rfl) (by decide) ?_ ?_
            · refine s_run X ok_X12_deliver 16 1 (pc' := 52) (vs' := [some (.ref p0), some (.int p1), some (.int p2), some (.int p3), some (.long p4), none, none, none]) (st' := [.int 0, .ref p0]) rfl ?_
              exact h10 0
            · exact h34
  · refine s_if_ne (tgt := 18) X (dk okd_X12_deliver 2 rfl) (by decide) ?_ ?_
    · refine s_run X ok_X12_deliver 7 1 (pc' := 19) (vs' := [some (.ref p0), some (.int p1), some (.int p2), some (.int p3), some (.long p4), none, none, none]) (st' := [.int 0, .ref p0]) rfl ?_
      exact h5 0
    · refine s_run X ok_X12_deliver 5 2 (pc' := 19) (vs' := [some (.ref p0), some (.int p1), some (.int p2), some (.int p3), some (.long p4), none, none, none]) (st' := [.int 1, .ref p0]) rfl ?_
      exact h5 1
def tab_X12_sales : List En := [(0, 8, 0, 0), (1, 0, 0, 0), (5, 8, 0, 0), (6, 8, 0, 0), (7, 4, 1, 0), (14, 0, 0, 1), (15, 41, 19, 0), (18, 0, 0, 0), (19, 0, 0, 1), (26, 3, 0, 0), (27, 41, 36, 0), (30, 8, 0, 0), (31, 4, 1, 0), (32, 0, 0, 3)]
theorem ok_X12_sales : tab_X12_sales.all (okE cX12_sales) = true := by decide +kernel
def ed_X12_sales : List (Nat × Instr × Nat) := [(2, .putfield 50, 3), (8, .invokevirtual 141, 3), (11, .ifCond .ne 7, 3), (20, .invokevirtual 81, 3), (23, .ifCond .eq 7, 3), (33, .invokevirtual 113, 3), (36, .lreturn, 1)]
theorem okd_X12_sales : ed_X12_sales.all (okD cX12_sales) = true := by decide +kernel
def f_X12_sales (S : St) (p0 : Nat) (p1 : Int32) : Option (Int64 × St) := lt (uI S p0 2 0) fun (S1 : St) => cl (f_X12_isOutlet S1 p0 p1) fun (v2 : Int32) => jn (κ := Int32 → Option (Int64 × St)) (fun x3 => cl (f_X12_throwsIf S1 p0 x3 1) fun (o6 : Int32 × St) => if o6.1 = 0 then (cl (f_X12_ofOutlet o6.2 p0 p1 3) fun (v7 : Int64) => some (v7, o6.2)) else (some (0, o6.2))) fun k4 => if v2 = 0 then (k4 1) else (k4 0)
set_option maxHeartbeats 4000000 in
set_option maxRecDepth 100000 in
theorem c_X12_sales (S : St) (p0 : Nat) (p1 : Int32) : Ct yX12_sales cX12_sales 2 (some .long) 2 46 [.ref p0, .int p1] [(p0, 11)] S (f_X12_sales S p0 p1) oLS sL := by
  refine Ct_of RX12 rfl (by decide) (Nat.le_of_ble_eq_true rfl) 0 (vs := [some (.ref p0), some (.int p1)]) rfl (fun C X E hr ht => ?_)
  have t0_ : tT C p0 11 := ht (p0, 11) (by simp)
  unfold f_X12_sales
  refine s_run X ok_X12_sales 0 2 (pc' := 2) (vs' := [some (.ref p0), some (.int p1)]) (st' := [.int 0, .ref p0]) rfl ?_
  refine s_putI X fp_X12_50 t0_ (dk okd_X12_sales 0 rfl) (fun S1 => ?_)
  refine s_run X ok_X12_sales 2 3 (pc' := 8) (vs' := [some (.ref p0), some (.int p1)]) (st' := [.int p1, .ref p0, .ref p0]) rfl ?_
  refine s_callV (rest := [.ref p0]) X E mv_X12_141 (c_X12_isOutlet S1 p0 p1) (ta1 t0_) rfl (by decide) t0_ rfl rfl (Nat.le_of_ble_eq_true rfl) (Nat.le_of_ble_eq_true rfl) (Nat.le_of_ble_eq_true rfl) (dk okd_X12_sales 1 rfl) (st' := fun v2 => [.int v2, .ref p0]) (fun _ => rfl) (fun v2 => ?_)
  refine s_jn (κ := Int32 → Option (Int64 × St)) (fun k4 => ∀ (x3 : Int32), Jd C 2 (QJ C oLS sL) S1 19 [some (.ref p0), some (.int p1)] [.int x3, .ref p0] (k4 x3)) (fun x3 => ?_) (fun k4 h5 => ?_)
  · refine s_run X ok_X12_sales 8 1 (pc' := 20) (vs' := [some (.ref p0), some (.int p1)]) (st' := [.int 1, .int x3, .ref p0]) rfl ?_
    refine s_callV (rest := []) X E mv_X12_81 (c_X12_throwsIf S1 p0 x3 1) (ta1 t0_) rfl (by decide) t0_ rfl rfl (Nat.le_of_ble_eq_true rfl) (Nat.le_of_ble_eq_true rfl) (Nat.le_of_ble_eq_true rfl) (dk okd_X12_sales 3 rfl) (st' := fun o6 => [.int o6.1]) (fun _ => rfl) (fun o6 => ?_)
    refine s_if_eq (tgt := 30) X (dk okd_X12_sales 4 rfl) (by decide) ?_ ?_
    · refine s_run X ok_X12_sales 11 3 (pc' := 33) (vs' := [some (.ref p0), some (.int p1)]) (st' := [.int 3, .int p1, .ref p0]) rfl ?_
      refine s_callV (rest := []) X E mv_X12_113 (c_X12_ofOutlet o6.2 p0 p1 3) (ta1 t0_) rfl (by decide) t0_ rfl rfl (Nat.le_of_ble_eq_true rfl) (Nat.le_of_ble_eq_true rfl) (Nat.le_of_ble_eq_true rfl) (dk okd_X12_sales 5 rfl) (st' := fun v7 => [.long v7]) (fun _ => rfl) (fun v7 => ?_)
      exact s_lret X hr (dk okd_X12_sales 6 rfl) rfl rfl
    · refine s_run X ok_X12_sales 9 2 (pc' := 36) (vs' := [some (.ref p0), some (.int p1)]) (st' := [.long 0]) rfl ?_
      exact s_lret X hr (dk okd_X12_sales 6 rfl) rfl rfl
  · refine s_if_ne (tgt := 18) X (dk okd_X12_sales 2 rfl) (by decide) ?_ ?_
    · refine s_run X ok_X12_sales 7 1 (pc' := 19) (vs' := [some (.ref p0), some (.int p1)]) (st' := [.int 0, .ref p0]) rfl ?_
      exact h5 0
    · refine s_run X ok_X12_sales 5 2 (pc' := 19) (vs' := [some (.ref p0), some (.int p1)]) (st' := [.int 1, .ref p0]) rfl ?_
      exact h5 1
def tab_X12_isClosed : List En := [(0, 4, 1, 0), (1, 31, 0, 0), (2, 3, 0, 0), (3, 8, 0, 0), (7, 0, 0, 0), (9, 3, 1, 0), (10, 24, 0, 0)]
theorem ok_X12_isClosed : tab_X12_isClosed.all (okE cX12_isClosed) = true := by decide +kernel
def ed_X12_isClosed : List (Nat × Instr × Nat) := [(4, .getfield 9, 3), (8, .laload, 1), (11, .invokestatic 53, 3), (14, .ireturn, 1)]
theorem okd_X12_isClosed : ed_X12_isClosed.all (okD cX12_isClosed) = true := by decide +kernel
def f_X12_isClosed (S : St) (p0 : Nat) (p1 : Int32) : Option (Int32) := lt (gR S p0 0) fun (a1 : Nat) => ldJ S a1 0 fun (v3 : Int64) => cl (f_X12_inRange S (Int32.toInt64 p1) 0 (v3 - 1)) fun (v4 : Int32) => zc v4 (some v4)
set_option maxHeartbeats 4000000 in
set_option maxRecDepth 100000 in
theorem c_X12_isClosed (S : St) (p0 : Nat) (p1 : Int32) : Ct yX12_isClosed cX12_isClosed 2 (some .boolean) 1 25 [.ref p0, .int p1] [(p0, 11)] S (f_X12_isClosed S p0 p1) oI (fun _ => S) := by
  refine Ct_of RX12 rfl (by decide) (Nat.le_of_ble_eq_true rfl) 0 (vs := [some (.ref p0), some (.int p1)]) rfl (fun C X E hr ht => ?_)
  have t0_ : tT C p0 11 := ht (p0, 11) (by simp)
  unfold f_X12_isClosed
  refine s_run X ok_X12_isClosed 0 4 (pc' := 4) (vs' := [some (.ref p0), some (.int p1)]) (st' := [.ref p0, .long 0, .long (Int32.toInt64 p1)]) rfl ?_
  refine s_getR X fl_X12_9 t0_ (dk okd_X12_isClosed 0 rfl) (fun a1 (t2 : tT C a1 14) => ?_)
  refine s_run X ok_X12_isClosed 4 1 (pc' := 8) (vs' := [some (.ref p0), some (.int p1)]) (st' := [.int 0, .ref a1, .long 0, .long (Int32.toInt64 p1)]) rfl ?_
  refine s_lald X t2 (dk okd_X12_isClosed 1 rfl) (fun v3 => ?_)
  refine s_run X ok_X12_isClosed 5 2 (pc' := 11) (vs' := [some (.ref p0), some (.int p1)]) (st' := [.long (v3 - 1), .long 0, .long (Int32.toInt64 p1)]) rfl ?_
  refine s_callS (rest := []) X E ms_X12_53 (c_X12_inRange S (Int32.toInt64 p1) 0 (v3 - 1)) (ta0) rfl rfl (Nat.le_of_ble_eq_true rfl) (Nat.le_of_ble_eq_true rfl) (Nat.le_of_ble_eq_true rfl) (dk okd_X12_isClosed 2 rfl) (st' := fun v4 => [.int v4]) (fun _ => rfl) (fun v4 => ?_)
  exact s_zret X hr (dk okd_X12_isClosed 3 rfl) rfl rfl
def tab_X12_recorded : List En := [(0, 8, 0, 0), (4, 2, 0, 1214), (7, 1, 0, 8), (9, 4, 2, 0), (10, 19, 0, 0), (11, 17, 0, 0), (12, 4, 1, 0), (13, 17, 0, 0)]
theorem ok_X12_recorded : tab_X12_recorded.all (okE cX12_recorded) = true := by decide +kernel
def ed_X12_recorded : List (Nat × Instr × Nat) := [(1, .getfield 9, 3), (14, .laload, 1), (15, .lreturn, 1)]
theorem okd_X12_recorded : ed_X12_recorded.all (okD cX12_recorded) = true := by decide +kernel
def f_X12_recorded (S : St) (p0 : Nat) (p1 : Int32) (p2 : Int32) : Option (Int64) := lt (gR S p0 0) fun (a1 : Nat) => ldJ S a1 ((1214 + (8 * p2)) + p1) fun (v3 : Int64) => some v3
set_option maxHeartbeats 4000000 in
set_option maxRecDepth 100000 in
theorem c_X12_recorded (S : St) (p0 : Nat) (p1 : Int32) (p2 : Int32) : Ct yX12_recorded cX12_recorded 3 (some .long) 0 0 [.ref p0, .int p1, .int p2] [(p0, 11)] S (f_X12_recorded S p0 p1 p2) oL (fun _ => S) := by
  refine Ct_of RX12 rfl (by decide) (Nat.le_of_ble_eq_true rfl) 0 (vs := [some (.ref p0), some (.int p1), some (.int p2)]) rfl (fun C X E hr ht => ?_)
  have t0_ : tT C p0 11 := ht (p0, 11) (by simp)
  unfold f_X12_recorded
  refine s_run X ok_X12_recorded 0 1 (pc' := 1) (vs' := [some (.ref p0), some (.int p1), some (.int p2)]) (st' := [.ref p0]) rfl ?_
  refine s_getR X fl_X12_9 t0_ (dk okd_X12_recorded 0 rfl) (fun a1 (t2 : tT C a1 14) => ?_)
  refine s_run X ok_X12_recorded 1 7 (pc' := 14) (vs' := [some (.ref p0), some (.int p1), some (.int p2)]) (st' := [.int ((1214 + (8 * p2)) + p1), .ref a1]) rfl ?_
  refine s_lald X t2 (dk okd_X12_recorded 1 rfl) (fun v3 => ?_)
  exact s_lret X hr (dk okd_X12_recorded 2 rfl) rfl rfl
def tab_X12_salesOf : List En := [(0, 8, 0, 0), (1, 0, 0, 0), (5, 8, 0, 0), (6, 8, 0, 0), (7, 4, 1, 0), (14, 0, 0, 1), (15, 41, 19, 0), (18, 0, 0, 0), (19, 0, 0, 1), (26, 8, 0, 0), (27, 8, 0, 0), (28, 4, 2, 0), (35, 0, 0, 1), (36, 41, 40, 0), (39, 0, 0, 0), (40, 0, 0, 2), (47, 3, 0, 0), (48, 41, 57, 0), (51, 8, 0, 0), (52, 4, 1, 0), (53, 4, 2, 0)]
theorem ok_X12_salesOf : tab_X12_salesOf.all (okE cX12_salesOf) = true := by decide +kernel
def ed_X12_salesOf : List (Nat × Instr × Nat) := [(2, .putfield 50, 3), (8, .invokevirtual 85, 3), (11, .ifCond .ne 7, 3), (20, .invokevirtual 81, 3), (23, .ifCond .ne 24, 3), (29, .invokevirtual 207, 3), (32, .ifCond .ne 7, 3), (41, .invokevirtual 81, 3), (44, .ifCond .eq 7, 3), (54, .invokevirtual 210, 3), (57, .lreturn, 1)]
theorem okd_X12_salesOf : ed_X12_salesOf.all (okD cX12_salesOf) = true := by decide +kernel
def f_X12_salesOf (S : St) (p0 : Nat) (p1 : Int32) (p2 : Int32) : Option (Int64 × St) := lt (uI S p0 2 0) fun (S1 : St) => cl (f_X12_isFranchisee S1 p0 p1) fun (v2 : Int32) => jn (κ := Int32 → Option (Int64 × St)) (fun x3 => cl (f_X12_throwsIf S1 p0 x3 1) fun (o6 : Int32 × St) => jn (κ := St → Option (Int64 × St)) (fun S7 => some (0, S7)) fun k8 => if o6.1 = 0 then (cl (f_X12_isClosed o6.2 p0 p2) fun (v10 : Int32) => jn (κ := Int32 → Option (Int64 × St)) (fun x11 => cl (f_X12_throwsIf o6.2 p0 x11 2) fun (o14 : Int32 × St) => if o14.1 = 0 then (cl (f_X12_recorded o14.2 p0 p1 p2) fun (v15 : Int64) => some (v15, o14.2)) else (k8 o14.2)) fun k12 => if v10 = 0 then (k12 1) else (k12 0)) else (k8 o6.2)) fun k4 => if v2 = 0 then (k4 1) else (k4 0)
set_option maxHeartbeats 4000000 in
set_option maxRecDepth 100000 in
theorem c_X12_salesOf (S : St) (p0 : Nat) (p1 : Int32) (p2 : Int32) : Ct yX12_salesOf cX12_salesOf 3 (some .long) 2 46 [.ref p0, .int p1, .int p2] [(p0, 11)] S (f_X12_salesOf S p0 p1 p2) oLS sL := by
  refine Ct_of RX12 rfl (by decide) (Nat.le_of_ble_eq_true rfl) 0 (vs := [some (.ref p0), some (.int p1), some (.int p2)]) rfl (fun C X E hr ht => ?_)
  have t0_ : tT C p0 11 := ht (p0, 11) (by simp)
  unfold f_X12_salesOf
  refine s_run X ok_X12_salesOf 0 2 (pc' := 2) (vs' := [some (.ref p0), some (.int p1), some (.int p2)]) (st' := [.int 0, .ref p0]) rfl ?_
  refine s_putI X fp_X12_50 t0_ (dk okd_X12_salesOf 0 rfl) (fun S1 => ?_)
  refine s_run X ok_X12_salesOf 2 3 (pc' := 8) (vs' := [some (.ref p0), some (.int p1), some (.int p2)]) (st' := [.int p1, .ref p0, .ref p0]) rfl ?_
  refine s_callV (rest := [.ref p0]) X E mv_X12_85 (c_X12_isFranchisee S1 p0 p1) (ta1 t0_) rfl (by decide) t0_ rfl rfl (Nat.le_of_ble_eq_true rfl) (Nat.le_of_ble_eq_true rfl) (Nat.le_of_ble_eq_true rfl) (dk okd_X12_salesOf 1 rfl) (st' := fun v2 => [.int v2, .ref p0]) (fun _ => rfl) (fun v2 => ?_)
  refine s_jn (κ := Int32 → Option (Int64 × St)) (fun k4 => ∀ (x3 : Int32), Jd C 3 (QJ C oLS sL) S1 19 [some (.ref p0), some (.int p1), some (.int p2)] [.int x3, .ref p0] (k4 x3)) (fun x3 => ?_) (fun k4 h5 => ?_)
  · refine s_run X ok_X12_salesOf 8 1 (pc' := 20) (vs' := [some (.ref p0), some (.int p1), some (.int p2)]) (st' := [.int 1, .int x3, .ref p0]) rfl ?_
    refine s_callV (rest := []) X E mv_X12_81 (c_X12_throwsIf S1 p0 x3 1) (ta1 t0_) rfl (by decide) t0_ rfl rfl (Nat.le_of_ble_eq_true rfl) (Nat.le_of_ble_eq_true rfl) (Nat.le_of_ble_eq_true rfl) (dk okd_X12_salesOf 3 rfl) (st' := fun o6 => [.int o6.1]) (fun _ => rfl) (fun o6 => ?_)
    refine s_jn (κ := St → Option (Int64 × St)) (fun k8 => ∀ (S7 : St), Jd C 3 (QJ C oLS sL) S7 47 [none, none, none] [] (k8 S7)) (fun S7 => ?_) (fun k8 h9 => ?_)
    · refine s_run X ok_X12_salesOf 16 2 (pc' := 57) (vs' := [none, none, none]) (st' := [.long 0]) rfl ?_
      exact s_lret X hr (dk okd_X12_salesOf 10 rfl) rfl rfl
    · refine s_if_ne (tgt := 47) X (dk okd_X12_salesOf 4 rfl) (by decide) ?_ ?_
      · exact s_less [false, false, false] rfl (h9 o6.2)
      · refine s_run X ok_X12_salesOf 9 3 (pc' := 29) (vs' := [some (.ref p0), some (.int p1), some (.int p2)]) (st' := [.int p2, .ref p0, .ref p0]) rfl ?_
        refine s_callV (rest := [.ref p0]) X E mv_X12_207 (c_X12_isClosed o6.2 p0 p2) (ta1 t0_) rfl (by decide) t0_ rfl rfl (Nat.le_of_ble_eq_true rfl) (Nat.le_of_ble_eq_true rfl) (Nat.le_of_ble_eq_true rfl) (dk okd_X12_salesOf 5 rfl) (st' := fun v10 => [.int v10, .ref p0]) (fun _ => rfl) (fun v10 => ?_)
        refine s_jn (κ := Int32 → Option (Int64 × St)) (fun k12 => ∀ (x11 : Int32), Jd C 3 (QJ C oLS sL) o6.2 40 [some (.ref p0), some (.int p1), some (.int p2)] [.int x11, .ref p0] (k12 x11)) (fun x11 => ?_) (fun k12 h13 => ?_)
        · refine s_run X ok_X12_salesOf 15 1 (pc' := 41) (vs' := [some (.ref p0), some (.int p1), some (.int p2)]) (st' := [.int 2, .int x11, .ref p0]) rfl ?_
          refine s_callV (rest := []) X E mv_X12_81 (c_X12_throwsIf o6.2 p0 x11 2) (ta1 t0_) rfl (by decide) t0_ rfl rfl (Nat.le_of_ble_eq_true rfl) (Nat.le_of_ble_eq_true rfl) (Nat.le_of_ble_eq_true rfl) (dk okd_X12_salesOf 7 rfl) (st' := fun o14 => [.int o14.1]) (fun _ => rfl) (fun o14 => ?_)
          refine s_if_eq (tgt := 51) X (dk okd_X12_salesOf 8 rfl) (by decide) ?_ ?_
          · refine s_run X ok_X12_salesOf 18 3 (pc' := 54) (vs' := [some (.ref p0), some (.int p1), some (.int p2)]) (st' := [.int p2, .int p1, .ref p0]) rfl ?_
            refine s_callV (rest := []) X E mv_X12_210 (c_X12_recorded o14.2 p0 p1 p2) (ta1 t0_) rfl (by decide) t0_ rfl rfl (Nat.le_of_ble_eq_true rfl) (Nat.le_of_ble_eq_true rfl) (Nat.le_of_ble_eq_true rfl) (dk okd_X12_salesOf 9 rfl) (st' := fun v15 => [.long v15]) (fun _ => rfl) (fun v15 => ?_)
            exact s_lret X hr (dk okd_X12_salesOf 10 rfl) rfl rfl
          · exact s_less [false, false, false] rfl (h9 o14.2)
        · refine s_if_ne (tgt := 39) X (dk okd_X12_salesOf 6 rfl) (by decide) ?_ ?_
          · refine s_run X ok_X12_salesOf 14 1 (pc' := 40) (vs' := [some (.ref p0), some (.int p1), some (.int p2)]) (st' := [.int 0, .ref p0]) rfl ?_
            exact h13 0
          · refine s_run X ok_X12_salesOf 12 2 (pc' := 40) (vs' := [some (.ref p0), some (.int p1), some (.int p2)]) (st' := [.int 1, .ref p0]) rfl ?_
            exact h13 1
  · refine s_if_ne (tgt := 18) X (dk okd_X12_salesOf 2 rfl) (by decide) ?_ ?_
    · refine s_run X ok_X12_salesOf 7 1 (pc' := 19) (vs' := [some (.ref p0), some (.int p1), some (.int p2)]) (st' := [.int 0, .ref p0]) rfl ?_
      exact h5 0
    · refine s_run X ok_X12_salesOf 5 2 (pc' := 19) (vs' := [some (.ref p0), some (.int p1), some (.int p2)]) (st' := [.int 1, .ref p0]) rfl ?_
      exact h5 1
def tab_X12_recordedInAll : List En := [(0, 3, 0, 0), (1, 12, 2, 0), (2, 0, 0, 0), (3, 11, 4, 0), (5, 5, 4, 0), (7, 31, 0, 0), (8, 8, 0, 0), (12, 0, 0, 0), (14, 40, 0, 0), (18, 6, 2, 0), (19, 8, 0, 0), (20, 4, 1, 0), (21, 5, 4, 0), (26, 23, 0, 0), (27, 12, 2, 0), (28, 16, 4, 1), (31, 41, 5, 0), (34, 6, 2, 0)]
theorem ok_X12_recordedInAll : tab_X12_recordedInAll.all (okE cX12_recordedInAll) = true := by decide +kernel
def ed_X12_recordedInAll : List (Nat × Instr × Nat) := [(9, .getfield 9, 3), (13, .laload, 1), (15, .ifCond .ge 19, 3), (23, .invokevirtual 210, 3), (35, .lreturn, 1)]
theorem okd_X12_recordedInAll : ed_X12_recordedInAll.all (okD cX12_recordedInAll) = true := by decide +kernel
def f_X12_recordedInAll (S : St) (p0 : Nat) (p1 : Int32) : Option (Int64) := jn (κ := Int64 → Option (Int64)) (fun x1 => some x1) fun k2 => lp (κ := Int64 → Int32 → Option (Int64)) (fun _ _ => none) (fun k6 x4 x5 => lt (gR S p0 0) fun (a8 : Nat) => ldJ S a8 0 fun (v10 : Int64) => if v10 ≤ (Int32.toInt64 x5) then (k2 x4) else (cl (f_X12_recorded S p0 p1 x5) fun (v11 : Int64) => lt (x4 + v11) fun (v12 : Int64) => k6 v12 (x5 + 1))) FU 0 0
set_option maxHeartbeats 4000000 in
set_option maxRecDepth 100000 in
theorem c_X12_recordedInAll (S : St) (p0 : Nat) (p1 : Int32) : Ct yX12_recordedInAll cX12_recordedInAll 5 (some .long) 1 22 [.ref p0, .int p1] [(p0, 11)] S (f_X12_recordedInAll S p0 p1) oL (fun _ => S) := by
  refine Ct_of RX12 rfl (by decide) (Nat.le_of_ble_eq_true rfl) 3 (vs := [some (.ref p0), some (.int p1), none, none, none]) rfl (fun C X E hr ht => ?_)
  have t0_ : tT C p0 11 := ht (p0, 11) (by simp)
  unfold f_X12_recordedInAll
  refine s_run X ok_X12_recordedInAll 0 4 (pc' := 5) (vs' := [some (.ref p0), some (.int p1), some (.long 0), none, some (.int 0)]) (st' := []) rfl ?_
  refine s_jn (κ := Int64 → Option (Int64)) (fun k2 => ∀ (x1 : Int64), Jd C 5 (QJ C oL (fun _ => S)) S 34 [none, none, some (.long x1), none, none] [] (k2 x1)) (fun x1 => ?_) (fun k2 h3 => ?_)
  · refine s_run X ok_X12_recordedInAll 17 1 (pc' := 35) (vs' := [none, none, some (.long x1), none, none]) (st' := [.long x1]) rfl ?_
    exact s_lret X hr (dk okd_X12_recordedInAll 4 rfl) rfl rfl
  · refine s_lp (κ := Int64 → Int32 → Option (Int64)) (fun k6 => ∀ (x4 : Int64) (x5 : Int32), Jd C 5 (QJ C oL (fun _ => S)) S 5 [some (.ref p0), some (.int p1), some (.long x4), none, some (.int x5)] [] (k6 x4 x5)) (fun _ _ => s_none) (fun k6 h7 x4 x5 => ?_) FU 0 0
    refine s_run X ok_X12_recordedInAll 4 3 (pc' := 9) (vs' := [some (.ref p0), some (.int p1), some (.long x4), none, some (.int x5)]) (st' := [.ref p0, .long (Int32.toInt64 x5)]) rfl ?_
    refine s_getR X fl_X12_9 t0_ (dk okd_X12_recordedInAll 0 rfl) (fun a8 (t9 : tT C a8 14) => ?_)
    refine s_run X ok_X12_recordedInAll 7 1 (pc' := 13) (vs' := [some (.ref p0), some (.int p1), some (.long x4), none, some (.int x5)]) (st' := [.int 0, .ref a8, .long (Int32.toInt64 x5)]) rfl ?_
    refine s_lald X t9 (dk okd_X12_recordedInAll 1 rfl) (fun v10 => ?_)
    refine s_run X ok_X12_recordedInAll 8 1 (pc' := 15) (vs' := [some (.ref p0), some (.int p1), some (.long x4), none, some (.int x5)]) (st' := [.int (lg_cmp (Int32.toInt64 x5) v10)]) rfl ?_
    refine s_lif_ge (tgt := 34) X (dk okd_X12_recordedInAll 2 rfl) (by decide) ?_ ?_
    · exact s_less [false, false, true, false, false] rfl (h3 x4)
    · refine s_run X ok_X12_recordedInAll 9 4 (pc' := 23) (vs' := [some (.ref p0), some (.int p1), some (.long x4), none, some (.int x5)]) (st' := [.int x5, .int p1, .ref p0, .long x4]) rfl ?_
      refine s_callV (rest := [.long x4]) X E mv_X12_210 (c_X12_recorded S p0 p1 x5) (ta1 t0_) rfl (by decide) t0_ rfl rfl (Nat.le_of_ble_eq_true rfl) (Nat.le_of_ble_eq_true rfl) (Nat.le_of_ble_eq_true rfl) (dk okd_X12_recordedInAll 3 rfl) (st' := fun v11 => [.long v11, .long x4]) (fun _ => rfl) (fun v11 => ?_)
      refine s_run X ok_X12_recordedInAll 13 1 (pc' := 27) (vs' := [some (.ref p0), some (.int p1), some (.long x4), none, some (.int x5)]) (st' := [.long (x4 + v11)]) rfl ?_
      refine s_nmJ (fun v12 => ?_)
      refine s_run X ok_X12_recordedInAll 14 3 (pc' := 5) (vs' := [some (.ref p0), some (.int p1), some (.long v12), none, some (.int (x5 + 1))]) (st' := []) rfl ?_
      exact h7 v12 (x5 + 1)
def tab_X12_ranked : List En := [(0, 8, 0, 0), (1, 0, 0, 0), (5, 0, 0, 0), (6, 10, 2, 0), (7, 4, 2, 0), (8, 31, 0, 0), (9, 8, 0, 0), (13, 0, 0, 2), (15, 40, 0, 0), (19, 0, 0, 0), (20, 10, 3, 0), (21, 0, 0, 0), (22, 11, 4, 0), (24, 5, 4, 0), (26, 31, 0, 0), (27, 8, 0, 0), (31, 0, 0, 2), (33, 40, 0, 0), (37, 8, 0, 0), (38, 5, 4, 0), (43, 8, 0, 0), (44, 4, 2, 0), (48, 24, 0, 0), (49, 13, 5, 0), (51, 4, 3, 0), (52, 7, 5, 0), (54, 3, 0, 0), (55, 40, 0, 0), (59, 7, 5, 0), (61, 3, 0, 0), (62, 40, 0, 0), (66, 5, 4, 0), (68, 4, 2, 0), (72, 0, 0, 1), (73, 41, 77, 0), (76, 0, 0, 0), (77, 17, 0, 0), (78, 10, 3, 0), (79, 16, 4, 1), (82, 41, 24, 0), (85, 4, 3, 0), (86, 4, 1, 0), (90, 4, 2, 0), (92, 16, 2, 1), (95, 41, 7, 0), (98, 0, 0, (-1))]
theorem ok_X12_ranked : tab_X12_ranked.all (okE cX12_ranked) = true := by decide +kernel
def ed_X12_ranked : List (Nat × Instr × Nat) := [(2, .putfield 50, 3), (10, .getfield 9, 3), (14, .laload, 1), (16, .ifCond .ge 82, 3), (28, .getfield 9, 3), (32, .laload, 1), (34, .ifCond .ge 51, 3), (40, .invokevirtual 213, 3), (45, .invokevirtual 213, 3), (56, .ifCond .gt 16, 3), (63, .ifCond .ne 13, 3), (69, .if_icmp .ge 7, 3), (87, .if_icmp .ne 5, 3), (91, .ireturn, 1), (99, .ireturn, 1)]
theorem okd_X12_ranked : ed_X12_ranked.all (okD cX12_ranked) = true := by decide +kernel
def f_X12_ranked (S : St) (p0 : Nat) (p1 : Int32) : Option (Int32 × St) := lt (uI S p0 2 0) fun (S1 : St) => jn (κ := Int32 → Option (Int32 × St)) (fun x2 => some (x2, S1)) fun k3 => lp (κ := Int32 → Option (Int32 × St)) (fun _ => none) (fun k6 x5 => lt (gR S1 p0 0) fun (a8 : Nat) => ldJ S1 a8 2 fun (v10 : Int64) => if v10 ≤ (Int32.toInt64 x5) then (some ((-1), S1)) else (jn (κ := Int32 → Option (Int32 × St)) (fun x11 => if x11 = p1 then (k3 x5) else (k6 (x5 + 1))) fun k12 => lp (κ := Int32 → Int32 → Option (Int32 × St)) (fun _ _ => none) (fun k16 x14 x15 => lt (gR S1 p0 0) fun (a18 : Nat) => ldJ S1 a18 2 fun (v20 : Int64) => if v20 ≤ (Int32.toInt64 x15) then (k12 x14) else (cl (f_X12_recordedInAll S1 p0 x15) fun (v21 : Int64) => cl (f_X12_recordedInAll S1 p0 x5) fun (v22 : Int64) => lt (v21 - v22) fun (v23 : Int64) => jn (κ := Int32 → Option (Int32 × St)) (fun x24 => lt (x14 + x24) fun (v27 : Int32) => k16 v27 (x15 + 1)) fun k25 => jn (κ := Option (Int32 × St)) (k25 1) fun k28 => if 0 < v23 then (k28) else (jn (κ := Option (Int32 × St)) (k25 0) fun k30 => if v23 = 0 then (if x5 ≤ x15 then (k30) else (k28)) else (k30)))) FU 0 0)) FU 0
set_option maxHeartbeats 4000000 in
set_option maxRecDepth 100000 in
theorem c_X12_ranked (S : St) (p0 : Nat) (p1 : Int32) : Ct yX12_ranked cX12_ranked 7 (some .int) 2 46 [.ref p0, .int p1] [(p0, 11)] S (f_X12_ranked S p0 p1) oIS sS := by
  refine Ct_of RX12 rfl (by decide) (Nat.le_of_ble_eq_true rfl) 5 (vs := [some (.ref p0), some (.int p1), none, none, none, none, none]) rfl (fun C X E hr ht => ?_)
  have t0_ : tT C p0 11 := ht (p0, 11) (by simp)
  unfold f_X12_ranked
  refine s_run X ok_X12_ranked 0 2 (pc' := 2) (vs' := [some (.ref p0), some (.int p1), none, none, none, none, none]) (st' := [.int 0, .ref p0]) rfl ?_
  refine s_putI X fp_X12_50 t0_ (dk okd_X12_ranked 0 rfl) (fun S1 => ?_)
  refine s_run X ok_X12_ranked 2 2 (pc' := 7) (vs' := [some (.ref p0), some (.int p1), some (.int 0), none, none, none, none]) (st' := []) rfl ?_
  refine s_jn (κ := Int32 → Option (Int32 × St)) (fun k3 => ∀ (x2 : Int32), Jd C 7 (QJ C oIS sS) S1 90 [none, none, some (.int x2), none, none, none, none] [] (k3 x2)) (fun x2 => ?_) (fun k3 h4 => ?_)
  · refine s_run X ok_X12_ranked 42 1 (pc' := 91) (vs' := [none, none, some (.int x2), none, none, none, none]) (st' := [.int x2]) rfl ?_
    exact s_iret X hr (dk okd_X12_ranked 13 rfl) rfl rfl
  · refine s_lp (κ := Int32 → Option (Int32 × St)) (fun k6 => ∀ (x5 : Int32), Jd C 7 (QJ C oIS sS) S1 7 [some (.ref p0), some (.int p1), some (.int x5), none, none, none, none] [] (k6 x5)) (fun _ => s_none) (fun k6 h7 x5 => ?_) FU 0
    refine s_run X ok_X12_ranked 4 3 (pc' := 10) (vs' := [some (.ref p0), some (.int p1), some (.int x5), none, none, none, none]) (st' := [.ref p0, .long (Int32.toInt64 x5)]) rfl ?_
    refine s_getR X fl_X12_9 t0_ (dk okd_X12_ranked 1 rfl) (fun a8 (t9 : tT C a8 14) => ?_)
    refine s_run X ok_X12_ranked 7 1 (pc' := 14) (vs' := [some (.ref p0), some (.int p1), some (.int x5), none, none, none, none]) (st' := [.int 2, .ref a8, .long (Int32.toInt64 x5)]) rfl ?_
    refine s_lald X t9 (dk okd_X12_ranked 2 rfl) (fun v10 => ?_)
    refine s_run X ok_X12_ranked 8 1 (pc' := 16) (vs' := [some (.ref p0), some (.int p1), some (.int x5), none, none, none, none]) (st' := [.int (lg_cmp (Int32.toInt64 x5) v10)]) rfl ?_
    refine s_lif_ge (tgt := 98) X (dk okd_X12_ranked 3 rfl) (by decide) ?_ ?_
    · refine s_run X ok_X12_ranked 45 1 (pc' := 99) (vs' := [some (.ref p0), some (.int p1), some (.int x5), none, none, none, none]) (st' := [.int (-1)]) rfl ?_
      exact s_iret X hr (dk okd_X12_ranked 14 rfl) rfl rfl
    · refine s_run X ok_X12_ranked 9 4 (pc' := 24) (vs' := [some (.ref p0), some (.int p1), some (.int x5), some (.int 0), some (.int 0), none, none]) (st' := []) rfl ?_
      refine s_jn (κ := Int32 → Option (Int32 × St)) (fun k12 => ∀ (x11 : Int32), Jd C 7 (QJ C oIS sS) S1 85 [some (.ref p0), some (.int p1), some (.int x5), some (.int x11), none, none, none] [] (k12 x11)) (fun x11 => ?_) (fun k12 h13 => ?_)
      · refine s_run X ok_X12_ranked 40 2 (pc' := 87) (vs' := [some (.ref p0), some (.int p1), some (.int x5), some (.int x11), none, none, none]) (st' := [.int p1, .int x11]) rfl ?_
        refine s_icmp_ne (tgt := 92) X (dk okd_X12_ranked 12 rfl) (by decide) ?_ ?_
        · refine s_run X ok_X12_ranked 43 2 (pc' := 7) (vs' := [some (.ref p0), some (.int p1), some (.int (x5 + 1)), some (.int x11), none, none, none]) (st' := []) rfl ?_
          exact s_less [true, true, true, false, false, false, false] rfl (h7 (x5 + 1))
        · exact s_less [false, false, true, false, false, false, false] rfl (h4 x5)
      · refine s_lp (κ := Int32 → Int32 → Option (Int32 × St)) (fun k16 => ∀ (x14 : Int32) (x15 : Int32), Jd C 7 (QJ C oIS sS) S1 24 [some (.ref p0), some (.int p1), some (.int x5), some (.int x14), some (.int x15), none, none] [] (k16 x14 x15)) (fun _ _ => s_none) (fun k16 h17 x14 x15 => ?_) FU 0 0
        refine s_run X ok_X12_ranked 13 3 (pc' := 28) (vs' := [some (.ref p0), some (.int p1), some (.int x5), some (.int x14), some (.int x15), none, none]) (st' := [.ref p0, .long (Int32.toInt64 x15)]) rfl ?_
        refine s_getR X fl_X12_9 t0_ (dk okd_X12_ranked 4 rfl) (fun a18 (t19 : tT C a18 14) => ?_)
        refine s_run X ok_X12_ranked 16 1 (pc' := 32) (vs' := [some (.ref p0), some (.int p1), some (.int x5), some (.int x14), some (.int x15), none, none]) (st' := [.int 2, .ref a18, .long (Int32.toInt64 x15)]) rfl ?_
        refine s_lald X t19 (dk okd_X12_ranked 5 rfl) (fun v20 => ?_)
        refine s_run X ok_X12_ranked 17 1 (pc' := 34) (vs' := [some (.ref p0), some (.int p1), some (.int x5), some (.int x14), some (.int x15), none, none]) (st' := [.int (lg_cmp (Int32.toInt64 x15) v20)]) rfl ?_
        refine s_lif_ge (tgt := 85) X (dk okd_X12_ranked 6 rfl) (by decide) ?_ ?_
        · exact s_less [true, true, true, true, false, false, false] rfl (h13 x14)
        · refine s_run X ok_X12_ranked 18 2 (pc' := 40) (vs' := [some (.ref p0), some (.int p1), some (.int x5), some (.int x14), some (.int x15), none, none]) (st' := [.int x15, .ref p0]) rfl ?_
          refine s_callV (rest := []) X E mv_X12_213 (c_X12_recordedInAll S1 p0 x15) (ta1 t0_) rfl (by decide) t0_ rfl rfl (Nat.le_of_ble_eq_true rfl) (Nat.le_of_ble_eq_true rfl) (Nat.le_of_ble_eq_true rfl) (dk okd_X12_ranked 7 rfl) (st' := fun v21 => [.long v21]) (fun _ => rfl) (fun v21 => ?_)
          refine s_run X ok_X12_ranked 20 2 (pc' := 45) (vs' := [some (.ref p0), some (.int p1), some (.int x5), some (.int x14), some (.int x15), none, none]) (st' := [.int x5, .ref p0, .long v21]) rfl ?_
          refine s_callV (rest := [.long v21]) X E mv_X12_213 (c_X12_recordedInAll S1 p0 x5) (ta1 t0_) rfl (by decide) t0_ rfl rfl (Nat.le_of_ble_eq_true rfl) (Nat.le_of_ble_eq_true rfl) (Nat.le_of_ble_eq_true rfl) (dk okd_X12_ranked 8 rfl) (st' := fun v22 => [.long v22, .long v21]) (fun _ => rfl) (fun v22 => ?_)
          refine s_run X ok_X12_ranked 22 1 (pc' := 49) (vs' := [some (.ref p0), some (.int p1), some (.int x5), some (.int x14), some (.int x15), none, none]) (st' := [.long (v21 - v22)]) rfl ?_
          refine s_nmJ (fun v23 => ?_)
          refine s_run X ok_X12_ranked 23 5 (pc' := 56) (vs' := [some (.ref p0), some (.int p1), some (.int x5), some (.int x14), some (.int x15), some (.long v23), none]) (st' := [.int (lg_cmp v23 0), .int x14]) rfl ?_
          refine s_jn (κ := Int32 → Option (Int32 × St)) (fun k25 => ∀ (x24 : Int32), Jd C 7 (QJ C oIS sS) S1 77 [some (.ref p0), some (.int p1), some (.int x5), none, some (.int x15), none, none] [.int x24, .int x14] (k25 x24)) (fun x24 => ?_) (fun k25 h26 => ?_)
          · refine s_run X ok_X12_ranked 36 1 (pc' := 78) (vs' := [some (.ref p0), some (.int p1), some (.int x5), none, some (.int x15), none, none]) (st' := [.int (x14 + x24)]) rfl ?_
            refine s_nmI (fun v27 => ?_)
            refine s_run X ok_X12_ranked 37 3 (pc' := 24) (vs' := [some (.ref p0), some (.int p1), some (.int x5), some (.int v27), some (.int (x15 + 1)), none, none]) (st' := []) rfl ?_
            exact h17 v27 (x15 + 1)
          · refine s_jn (κ := Option (Int32 × St)) (fun k28 => Jd C 7 (QJ C oIS sS) S1 72 [some (.ref p0), some (.int p1), some (.int x5), none, some (.int x15), none, none] [.int x14] k28) ?_ (fun k28 h29 => ?_)
            · refine s_run X ok_X12_ranked 33 2 (pc' := 77) (vs' := [some (.ref p0), some (.int p1), some (.int x5), none, some (.int x15), none, none]) (st' := [.int 1, .int x14]) rfl ?_
              exact h26 1
            · refine s_lif_gt (tgt := 72) X (dk okd_X12_ranked 9 rfl) (by decide) ?_ ?_
              · exact s_less [true, true, true, false, true, false, false] rfl (h29)
              · refine s_run X ok_X12_ranked 28 3 (pc' := 63) (vs' := [some (.ref p0), some (.int p1), some (.int x5), some (.int x14), some (.int x15), some (.long v23), none]) (st' := [.int (lg_cmp v23 0), .int x14]) rfl ?_
                refine s_jn (κ := Option (Int32 × St)) (fun k30 => Jd C 7 (QJ C oIS sS) S1 76 [some (.ref p0), some (.int p1), some (.int x5), none, some (.int x15), none, none] [.int x14] k30) ?_ (fun k30 h31 => ?_)
                · refine s_run X ok_X12_ranked 35 1 (pc' := 77) (vs' := [some (.ref p0), some (.int p1), some (.int x5), none, some (.int x15), none, none]) (st' := [.int 0, .int x14]) rfl ?_
                  exact h26 0
                · refine s_lif_ne (tgt := 76) X (dk okd_X12_ranked 10 rfl) (by decide) ?_ ?_
                  · exact s_less [true, true, true, false, true, false, false] rfl (h31)
                  · refine s_run X ok_X12_ranked 31 2 (pc' := 69) (vs' := [some (.ref p0), some (.int p1), some (.int x5), some (.int x14), some (.int x15), some (.long v23), none]) (st' := [.int x5, .int x15, .int x14]) rfl ?_
                    refine s_icmp_ge (tgt := 76) X (dk okd_X12_ranked 11 rfl) (by decide) ?_ ?_
                    · exact s_less [true, true, true, false, true, false, false] rfl (h31)
                    · exact s_less [true, true, true, false, true, false, false] rfl (h29)
def tab_X12_credit : List En := [(0, 8, 0, 0), (4, 2, 0, 1150), (7, 1, 0, 8), (9, 4, 1, 0), (10, 19, 0, 0), (11, 17, 0, 0), (12, 4, 2, 0), (13, 17, 0, 0), (15, 8, 0, 0), (19, 0, 0, 4), (24, 12, 3, 0), (25, 6, 3, 0), (26, 8, 0, 0), (30, 0, 0, 5), (32, 40, 0, 0), (36, 6, 3, 0), (37, 41, 46, 0), (40, 8, 0, 0), (44, 0, 0, 5)]
theorem ok_X12_credit : tab_X12_credit.all (okE cX12_credit) = true := by decide +kernel
def ed_X12_credit : List (Nat × Instr × Nat) := [(1, .getfield 9, 3), (14, .laload, 1), (16, .getfield 9, 3), (20, .laload, 1), (21, .invokestatic 187, 3), (27, .getfield 9, 3), (31, .laload, 1), (33, .ifCond .ge 7, 3), (41, .getfield 9, 3), (45, .laload, 1), (46, .lreturn, 1)]
theorem okd_X12_credit : ed_X12_credit.all (okD cX12_credit) = true := by decide +kernel
def f_X12_credit (S : St) (p0 : Nat) (p1 : Int32) (p2 : Int32) : Option (Int64) := lt (gR S p0 0) fun (a1 : Nat) => ldJ S a1 ((1150 + (8 * p1)) + p2) fun (v3 : Int64) => lt (gR S p0 0) fun (a4 : Nat) => ldJ S a4 4 fun (v6 : Int64) => cl (f_X12_rated S v3 v6) fun (v7 : Int64) => lt (gR S p0 0) fun (a8 : Nat) => ldJ S a8 5 fun (v10 : Int64) => if v10 ≤ v7 then (lt (gR S p0 0) fun (a11 : Nat) => ldJ S a11 5 fun (v13 : Int64) => some v13) else (some v7)
set_option maxHeartbeats 4000000 in
set_option maxRecDepth 100000 in
theorem c_X12_credit (S : St) (p0 : Nat) (p1 : Int32) (p2 : Int32) : Ct yX12_credit cX12_credit 5 (some .long) 2 44 [.ref p0, .int p1, .int p2] [(p0, 11)] S (f_X12_credit S p0 p1 p2) oL (fun _ => S) := by
  refine Ct_of RX12 rfl (by decide) (Nat.le_of_ble_eq_true rfl) 2 (vs := [some (.ref p0), some (.int p1), some (.int p2), none, none]) rfl (fun C X E hr ht => ?_)
  have t0_ : tT C p0 11 := ht (p0, 11) (by simp)
  unfold f_X12_credit
  refine s_run X ok_X12_credit 0 1 (pc' := 1) (vs' := [some (.ref p0), some (.int p1), some (.int p2), none, none]) (st' := [.ref p0]) rfl ?_
  refine s_getR X fl_X12_9 t0_ (dk okd_X12_credit 0 rfl) (fun a1 (t2 : tT C a1 14) => ?_)
  refine s_run X ok_X12_credit 1 7 (pc' := 14) (vs' := [some (.ref p0), some (.int p1), some (.int p2), none, none]) (st' := [.int ((1150 + (8 * p1)) + p2), .ref a1]) rfl ?_
  refine s_lald X t2 (dk okd_X12_credit 1 rfl) (fun v3 => ?_)
  refine s_run X ok_X12_credit 8 1 (pc' := 16) (vs' := [some (.ref p0), some (.int p1), some (.int p2), none, none]) (st' := [.ref p0, .long v3]) rfl ?_
  refine s_getR X fl_X12_9 t0_ (dk okd_X12_credit 2 rfl) (fun a4 (t5 : tT C a4 14) => ?_)
  refine s_run X ok_X12_credit 9 1 (pc' := 20) (vs' := [some (.ref p0), some (.int p1), some (.int p2), none, none]) (st' := [.int 4, .ref a4, .long v3]) rfl ?_
  refine s_lald X t5 (dk okd_X12_credit 3 rfl) (fun v6 => ?_)
  refine s_callS (rest := []) X E ms_X12_187 (c_X12_rated S v3 v6) (ta0) rfl rfl (Nat.le_of_ble_eq_true rfl) (Nat.le_of_ble_eq_true rfl) (Nat.le_of_ble_eq_true rfl) (dk okd_X12_credit 4 rfl) (st' := fun v7 => [.long v7]) (fun _ => rfl) (fun v7 => ?_)
  refine s_run X ok_X12_credit 10 3 (pc' := 27) (vs' := [some (.ref p0), some (.int p1), some (.int p2), some (.long v7), none]) (st' := [.ref p0, .long v7]) rfl ?_
  refine s_getR X fl_X12_9 t0_ (dk okd_X12_credit 5 rfl) (fun a8 (t9 : tT C a8 14) => ?_)
  refine s_run X ok_X12_credit 13 1 (pc' := 31) (vs' := [some (.ref p0), some (.int p1), some (.int p2), some (.long v7), none]) (st' := [.int 5, .ref a8, .long v7]) rfl ?_
  refine s_lald X t9 (dk okd_X12_credit 6 rfl) (fun v10 => ?_)
  refine s_run X ok_X12_credit 14 1 (pc' := 33) (vs' := [some (.ref p0), some (.int p1), some (.int p2), some (.long v7), none]) (st' := [.int (lg_cmp v7 v10)]) rfl ?_
  refine s_lif_ge (tgt := 40) X (dk okd_X12_credit 7 rfl) (by decide) ?_ ?_
  · refine s_run X ok_X12_credit 17 1 (pc' := 41) (vs' := [some (.ref p0), some (.int p1), some (.int p2), some (.long v7), none]) (st' := [.ref p0]) rfl ?_
    refine s_getR X fl_X12_9 t0_ (dk okd_X12_credit 8 rfl) (fun a11 (t12 : tT C a11 14) => ?_)
    refine s_run X ok_X12_credit 18 1 (pc' := 45) (vs' := [some (.ref p0), some (.int p1), some (.int p2), some (.long v7), none]) (st' := [.int 5, .ref a11]) rfl ?_
    refine s_lald X t12 (dk okd_X12_credit 9 rfl) (fun v13 => ?_)
    exact s_lret X hr (dk okd_X12_credit 10 rfl) rfl rfl
  · refine s_run X ok_X12_credit 15 2 (pc' := 46) (vs' := [some (.ref p0), some (.int p1), some (.int p2), some (.long v7), none]) (st' := [.long v7]) rfl ?_
    exact s_lret X hr (dk okd_X12_credit 10 rfl) rfl rfl
def tab_X12_creditDue : List En := [(0, 8, 0, 0), (1, 0, 0, 0), (5, 8, 0, 0), (6, 8, 0, 0), (7, 4, 1, 0), (14, 8, 0, 0), (15, 4, 2, 0), (22, 0, 0, 1), (23, 41, 27, 0), (26, 0, 0, 0), (27, 0, 0, 1), (34, 4, 1, 0), (35, 4, 2, 0), (39, 3, 0, 0), (40, 41, 49, 0), (43, 8, 0, 0), (44, 4, 1, 0), (45, 4, 2, 0)]
theorem ok_X12_creditDue : tab_X12_creditDue.all (okE cX12_creditDue) = true := by decide +kernel
def ed_X12_creditDue : List (Nat × Instr × Nat) := [(2, .putfield 50, 3), (8, .invokevirtual 85, 3), (11, .ifCond .eq 11, 3), (16, .invokevirtual 85, 3), (19, .ifCond .ne 7, 3), (28, .invokevirtual 81, 3), (31, .ifCond .ne 8, 3), (36, .if_icmp .ne 7, 3), (46, .invokevirtual 217, 3), (49, .lreturn, 1)]
theorem okd_X12_creditDue : ed_X12_creditDue.all (okD cX12_creditDue) = true := by decide +kernel
def f_X12_creditDue (S : St) (p0 : Nat) (p1 : Int32) (p2 : Int32) : Option (Int64 × St) := lt (uI S p0 2 0) fun (S1 : St) => cl (f_X12_isFranchisee S1 p0 p1) fun (v2 : Int32) => jn (κ := Int32 → Option (Int64 × St)) (fun x3 => cl (f_X12_throwsIf S1 p0 x3 1) fun (o6 : Int32 × St) => jn (κ := Option (Int64 × St)) (some (0, o6.2)) fun k7 => if o6.1 = 0 then (if p1 = p2 then (k7) else (cl (f_X12_credit o6.2 p0 p1 p2) fun (v9 : Int64) => some (v9, o6.2))) else (k7)) fun k4 => jn (κ := Option (Int64 × St)) (k4 1) fun k10 => if v2 = 0 then (k10) else (cl (f_X12_isFranchisee S1 p0 p2) fun (v12 : Int32) => if v12 = 0 then (k10) else (k4 0))
set_option maxHeartbeats 4000000 in
set_option maxRecDepth 100000 in
theorem c_X12_creditDue (S : St) (p0 : Nat) (p1 : Int32) (p2 : Int32) : Ct yX12_creditDue cX12_creditDue 3 (some .long) 3 68 [.ref p0, .int p1, .int p2] [(p0, 11)] S (f_X12_creditDue S p0 p1 p2) oLS sL := by
  refine Ct_of RX12 rfl (by decide) (Nat.le_of_ble_eq_true rfl) 0 (vs := [some (.ref p0), some (.int p1), some (.int p2)]) rfl (fun C X E hr ht => ?_)
  have t0_ : tT C p0 11 := ht (p0, 11) (by simp)
  unfold f_X12_creditDue
  refine s_run X ok_X12_creditDue 0 2 (pc' := 2) (vs' := [some (.ref p0), some (.int p1), some (.int p2)]) (st' := [.int 0, .ref p0]) rfl ?_
  refine s_putI X fp_X12_50 t0_ (dk okd_X12_creditDue 0 rfl) (fun S1 => ?_)
  refine s_run X ok_X12_creditDue 2 3 (pc' := 8) (vs' := [some (.ref p0), some (.int p1), some (.int p2)]) (st' := [.int p1, .ref p0, .ref p0]) rfl ?_
  refine s_callV (rest := [.ref p0]) X E mv_X12_85 (c_X12_isFranchisee S1 p0 p1) (ta1 t0_) rfl (by decide) t0_ rfl rfl (Nat.le_of_ble_eq_true rfl) (Nat.le_of_ble_eq_true rfl) (Nat.le_of_ble_eq_true rfl) (dk okd_X12_creditDue 1 rfl) (st' := fun v2 => [.int v2, .ref p0]) (fun _ => rfl) (fun v2 => ?_)
  refine s_jn (κ := Int32 → Option (Int64 × St)) (fun k4 => ∀ (x3 : Int32), Jd C 3 (QJ C oLS sL) S1 27 [some (.ref p0), some (.int p1), some (.int p2)] [.int x3, .ref p0] (k4 x3)) (fun x3 => ?_) (fun k4 h5 => ?_)
  · refine s_run X ok_X12_creditDue 10 1 (pc' := 28) (vs' := [some (.ref p0), some (.int p1), some (.int p2)]) (st' := [.int 1, .int x3, .ref p0]) rfl ?_
    refine s_callV (rest := []) X E mv_X12_81 (c_X12_throwsIf S1 p0 x3 1) (ta1 t0_) rfl (by decide) t0_ rfl rfl (Nat.le_of_ble_eq_true rfl) (Nat.le_of_ble_eq_true rfl) (Nat.le_of_ble_eq_true rfl) (dk okd_X12_creditDue 5 rfl) (st' := fun o6 => [.int o6.1]) (fun _ => rfl) (fun o6 => ?_)
    refine s_jn (κ := Option (Int64 × St)) (fun k7 => Jd C 3 (QJ C oLS sL) o6.2 39 [none, none, none] [] k7) ?_ (fun k7 h8 => ?_)
    · refine s_run X ok_X12_creditDue 13 2 (pc' := 49) (vs' := [none, none, none]) (st' := [.long 0]) rfl ?_
      exact s_lret X hr (dk okd_X12_creditDue 9 rfl) rfl rfl
    · refine s_if_ne (tgt := 39) X (dk okd_X12_creditDue 6 rfl) (by decide) ?_ ?_
      · exact s_less [false, false, false] rfl (h8)
      · refine s_run X ok_X12_creditDue 11 2 (pc' := 36) (vs' := [some (.ref p0), some (.int p1), some (.int p2)]) (st' := [.int p2, .int p1]) rfl ?_
        refine s_icmp_ne (tgt := 43) X (dk okd_X12_creditDue 7 rfl) (by decide) ?_ ?_
        · refine s_run X ok_X12_creditDue 15 3 (pc' := 46) (vs' := [some (.ref p0), some (.int p1), some (.int p2)]) (st' := [.int p2, .int p1, .ref p0]) rfl ?_
          refine s_callV (rest := []) X E mv_X12_217 (c_X12_credit o6.2 p0 p1 p2) (ta1 t0_) rfl (by decide) t0_ rfl rfl (Nat.le_of_ble_eq_true rfl) (Nat.le_of_ble_eq_true rfl) (Nat.le_of_ble_eq_true rfl) (dk okd_X12_creditDue 8 rfl) (st' := fun v9 => [.long v9]) (fun _ => rfl) (fun v9 => ?_)
          exact s_lret X hr (dk okd_X12_creditDue 9 rfl) rfl rfl
        · exact s_less [false, false, false] rfl (h8)
  · refine s_jn (κ := Option (Int64 × St)) (fun k10 => Jd C 3 (QJ C oLS sL) S1 22 [some (.ref p0), some (.int p1), some (.int p2)] [.ref p0] k10) ?_ (fun k10 h11 => ?_)
    · refine s_run X ok_X12_creditDue 7 2 (pc' := 27) (vs' := [some (.ref p0), some (.int p1), some (.int p2)]) (st' := [.int 1, .ref p0]) rfl ?_
      exact h5 1
    · refine s_if_eq (tgt := 22) X (dk okd_X12_creditDue 2 rfl) (by decide) ?_ ?_
      · exact h11
      · refine s_run X ok_X12_creditDue 5 2 (pc' := 16) (vs' := [some (.ref p0), some (.int p1), some (.int p2)]) (st' := [.int p2, .ref p0, .ref p0]) rfl ?_
        refine s_callV (rest := [.ref p0]) X E mv_X12_85 (c_X12_isFranchisee S1 p0 p2) (ta1 t0_) rfl (by decide) t0_ rfl rfl (Nat.le_of_ble_eq_true rfl) (Nat.le_of_ble_eq_true rfl) (Nat.le_of_ble_eq_true rfl) (dk okd_X12_creditDue 3 rfl) (st' := fun v12 => [.int v12, .ref p0]) (fun _ => rfl) (fun v12 => ?_)
        refine s_if_ne (tgt := 26) X (dk okd_X12_creditDue 4 rfl) (by decide) ?_ ?_
        · refine s_run X ok_X12_creditDue 9 1 (pc' := 27) (vs' := [some (.ref p0), some (.int p1), some (.int p2)]) (st' := [.int 0, .ref p0]) rfl ?_
          exact h5 0
        · exact h11
def tab_X12_calculate : List En := [(0, 0, 0, 0), (1, 11, 4, 0), (3, 5, 4, 0), (5, 1, 0, 7), (10, 8, 0, 0), (14, 5, 4, 0), (16, 3, 0, 0), (18, 16, 4, 1), (21, 41, 3, 0), (24, 8, 0, 0), (25, 4, 1, 0), (33, 8, 0, 0), (37, 0, 0, 0), (38, 8, 0, 0), (39, 8, 0, 0), (40, 4, 1, 0), (44, 6, 2, 0), (49, 8, 0, 0), (53, 0, 0, 1), (54, 6, 2, 0), (55, 8, 0, 0), (56, 8, 0, 0), (57, 4, 1, 0), (61, 0, 0, 0), (69, 8, 0, 0), (70, 4, 1, 0), (71, 0, 0, 4), (75, 3, 0, 0), (76, 40, 0, 0), (80, 8, 0, 0), (84, 0, 0, 2), (85, 8, 0, 0), (86, 4, 1, 0), (87, 0, 0, 4), (91, 8, 0, 0), (95, 1, 0, 6), (102, 0, 0, 0), (103, 11, 4, 0), (105, 5, 4, 0), (107, 31, 0, 0), (108, 8, 0, 0), (112, 0, 0, 2), (114, 40, 0, 0), (118, 8, 0, 0), (122, 0, 0, 3), (123, 37, 0, 0), (125, 8, 0, 0), (126, 4, 1, 0), (127, 5, 4, 0), (132, 23, 0, 0), (134, 8, 0, 0), (138, 0, 0, 4), (139, 37, 0, 0), (141, 8, 0, 0), (142, 5, 4, 0), (144, 4, 1, 0), (148, 23, 0, 0), (150, 16, 4, 1), (153, 41, 105, 0), (156, 8, 0, 0), (160, 0, 0, 5), (161, 8, 0, 0), (165, 0, 0, 0), (167, 8, 0, 0), (171, 0, 0, 1), (173, 23, 0, 0), (174, 8, 0, 0), (178, 0, 0, 2), (180, 23, 0, 0), (181, 8, 0, 0), (185, 0, 0, 3), (187, 23, 0, 0), (188, 8, 0, 0), (192, 0, 0, 4), (194, 24, 0, 0)]
theorem ok_X12_calculate : tab_X12_calculate.all (okE cX12_calculate) = true := by decide +kernel
def ed_X12_calculate : List (Nat × Instr × Nat) := [(7, .if_icmp .ge 17, 3), (11, .getfield 23, 3), (17, .lastore, 1), (26, .invokevirtual 128, 3), (29, .ifCond .ne 4, 3), (32, .return_, 1), (34, .getfield 23, 3), (41, .invokevirtual 180, 3), (45, .invokevirtual 176, 3), (48, .lastore, 1), (50, .getfield 23, 3), (58, .invokevirtual 180, 3), (62, .invokevirtual 168, 3), (65, .invokestatic 187, 3), (68, .lastore, 1), (72, .invokevirtual 63, 3), (77, .ifCond .le 25, 3), (81, .getfield 23, 3), (88, .invokevirtual 63, 3), (92, .getfield 9, 3), (97, .laload, 1), (98, .invokestatic 187, 3), (101, .lastore, 1), (109, .getfield 9, 3), (113, .laload, 1), (115, .ifCond .ge 41, 3), (119, .getfield 23, 3), (124, .laload, 1), (129, .invokevirtual 217, 3), (133, .lastore, 1), (135, .getfield 23, 3), (140, .laload, 1), (145, .invokevirtual 217, 3), (149, .lastore, 1), (157, .getfield 23, 3), (162, .getfield 23, 3), (166, .laload, 1), (168, .getfield 23, 3), (172, .laload, 1), (175, .getfield 23, 3), (179, .laload, 1), (182, .getfield 23, 3), (186, .laload, 1), (189, .getfield 23, 3), (193, .laload, 1), (195, .lastore, 1), (196, .return_, 1)]
theorem okd_X12_calculate : ed_X12_calculate.all (okD cX12_calculate) = true := by decide +kernel
def f_X12_calculate (S : St) (p0 : Nat) (p1 : Int32) (p2 : Int64) : Option (St) := jn (κ := St → Option (St)) (fun S1 => cl (f_X12_isActive S1 p0 p1) fun (v4 : Int32) => if v4 = 0 then (some S1) else (lt (gR S1 p0 5) fun (a5 : Nat) => cl (f_X12_planNow S1 p0 p1) fun (v7 : Int32) => cl (f_X12_royaltyOf S1 p0 v7 p2) fun (v8 : Int64) => stJ S1 a5 0 v8 fun (S9 : St) => lt (gR S9 p0 5) fun (a10 : Nat) => cl (f_X12_planNow S9 p0 p1) fun (v12 : Int32) => cl (f_X12_ofPlan S9 p0 v12 0) fun (v13 : Int64) => cl (f_X12_rated S9 p2 v13) fun (v14 : Int64) => stJ S9 a10 1 v14 fun (S15 : St) => cl (f_X12_of S15 p0 p1 4) fun (v16 : Int64) => jn (κ := St → Option (St)) (fun S17 => jn (κ := St → Option (St)) (fun S20 => lt (gR S20 p0 5) fun (a23 : Nat) => lt (gR S20 p0 5) fun (a25 : Nat) => ldJ S20 a25 0 fun (v27 : Int64) => lt (gR S20 p0 5) fun (a28 : Nat) => ldJ S20 a28 1 fun (v30 : Int64) => lt (gR S20 p0 5) fun (a31 : Nat) => ldJ S20 a31 2 fun (v33 : Int64) => lt (gR S20 p0 5) fun (a34 : Nat) => ldJ S20 a34 3 fun (v36 : Int64) => lt (gR S20 p0 5) fun (a37 : Nat) => ldJ S20 a37 4 fun (v39 : Int64) => stJ S20 a23 5 ((((v27 + v30) + v33) + v36) - v39) fun (S40 : St) => some S40) fun k21 => lp (κ := Int32 → St → Option (St)) (fun _ _ => none) (fun k43 x41 S42 => lt (gR S42 p0 0) fun (a45 : Nat) => ldJ S42 a45 2 fun (v47 : Int64) => if v47 ≤ (Int32.toInt64 x41) then (k21 S42) else (lt (gR S42 p0 5) fun (a48 : Nat) => ldJ S42 a48 3 fun (v50 : Int64) => cl (f_X12_credit S42 p0 p1 x41) fun (v51 : Int64) => stJ S42 a48 3 (v50 + v51) fun (S52 : St) => lt (gR S52 p0 5) fun (a53 : Nat) => ldJ S52 a53 4 fun (v55 : Int64) => cl (f_X12_credit S52 p0 x41 p1) fun (v56 : Int64) => stJ S52 a53 4 (v55 + v56) fun (S57 : St) => k43 (x41 + 1) S57)) FU 0 S17) fun k18 => if v16 ≤ 0 then (k18 S15) else (lt (gR S15 p0 5) fun (a58 : Nat) => cl (f_X12_of S15 p0 p1 4) fun (v60 : Int64) => lt (gR S15 p0 0) fun (a61 : Nat) => ldJ S15 a61 6 fun (v63 : Int64) => cl (f_X12_rated S15 v60 v63) fun (v64 : Int64) => stJ S15 a58 2 v64 fun (S65 : St) => k18 S65))) fun k2 => lp (κ := Int32 → St → Option (St)) (fun _ _ => none) (fun k68 x66 S67 => if 7 ≤ x66 then (k2 S67) else (lt (gR S67 p0 5) fun (a70 : Nat) => stJ S67 a70 x66 0 fun (S72 : St) => k68 (x66 + 1) S72)) FU 0 S
set_option maxHeartbeats 4000000 in
set_option maxRecDepth 100000 in
theorem c_X12_calculate (S : St) (p0 : Nat) (p1 : Int32) (p2 : Int64) : Ct yX12_calculate cX12_calculate 5 none 3 68 [.ref p0, .int p1, .long p2] [(p0, 11)] S (f_X12_calculate S p0 p1 p2) oV sV := by
  refine Ct_of RX12 rfl (by decide) (Nat.le_of_ble_eq_true rfl) 1 (vs := [some (.ref p0), some (.int p1), some (.long p2), none, none]) rfl (fun C X E hr ht => ?_)
  have t0_ : tT C p0 11 := ht (p0, 11) (by simp)
  unfold f_X12_calculate
  refine s_run X ok_X12_calculate 0 2 (pc' := 3) (vs' := [some (.ref p0), some (.int p1), some (.long p2), none, some (.int 0)]) (st' := []) rfl ?_
  refine s_jn (κ := St → Option (St)) (fun k2 => ∀ (S1 : St), Jd C 5 (QJ C oV sV) S1 24 [some (.ref p0), some (.int p1), some (.long p2), none, none] [] (k2 S1)) (fun S1 => ?_) (fun k2 h3 => ?_)
  · refine s_run X ok_X12_calculate 9 2 (pc' := 26) (vs' := [some (.ref p0), some (.int p1), some (.long p2), none, none]) (st' := [.int p1, .ref p0]) rfl ?_
    refine s_callV (rest := []) X E mv_X12_128 (c_X12_isActive S1 p0 p1) (ta1 t0_) rfl (by decide) t0_ rfl rfl (Nat.le_of_ble_eq_true rfl) (Nat.le_of_ble_eq_true rfl) (Nat.le_of_ble_eq_true rfl) (dk okd_X12_calculate 3 rfl) (st' := fun v4 => [.int v4]) (fun _ => rfl) (fun v4 => ?_)
    refine s_if_ne (tgt := 33) X (dk okd_X12_calculate 4 rfl) (by decide) ?_ ?_
    · refine s_run X ok_X12_calculate 11 1 (pc' := 34) (vs' := [some (.ref p0), some (.int p1), some (.long p2), none, none]) (st' := [.ref p0]) rfl ?_
      refine s_getR X fl_X12_23 t0_ (dk okd_X12_calculate 6 rfl) (fun a5 (t6 : tT C a5 14) => ?_)
      refine s_run X ok_X12_calculate 12 4 (pc' := 41) (vs' := [some (.ref p0), some (.int p1), some (.long p2), none, none]) (st' := [.int p1, .ref p0, .ref p0, .int 0, .ref a5]) rfl ?_
      refine s_callV (rest := [.ref p0, .int 0, .ref a5]) X E mv_X12_180 (c_X12_planNow S1 p0 p1) (ta1 t0_) rfl (by decide) t0_ rfl rfl (Nat.le_of_ble_eq_true rfl) (Nat.le_of_ble_eq_true rfl) (Nat.le_of_ble_eq_true rfl) (dk okd_X12_calculate 7 rfl) (st' := fun v7 => [.int v7, .ref p0, .int 0, .ref a5]) (fun _ => rfl) (fun v7 => ?_)
      refine s_run X ok_X12_calculate 16 1 (pc' := 45) (vs' := [some (.ref p0), some (.int p1), some (.long p2), none, none]) (st' := [.long p2, .int v7, .ref p0, .int 0, .ref a5]) rfl ?_
      refine s_callV (rest := [.int 0, .ref a5]) X E mv_X12_176 (c_X12_royaltyOf S1 p0 v7 p2) (ta1 t0_) rfl (by decide) t0_ rfl rfl (Nat.le_of_ble_eq_true rfl) (Nat.le_of_ble_eq_true rfl) (Nat.le_of_ble_eq_true rfl) (dk okd_X12_calculate 8 rfl) (st' := fun v8 => [.long v8, .int 0, .ref a5]) (fun _ => rfl) (fun v8 => ?_)
      refine s_last X t6 (dk okd_X12_calculate 9 rfl) (fun S9 => ?_)
      refine s_run X ok_X12_calculate 17 1 (pc' := 50) (vs' := [some (.ref p0), some (.int p1), some (.long p2), none, none]) (st' := [.ref p0]) rfl ?_
      refine s_getR X fl_X12_23 t0_ (dk okd_X12_calculate 10 rfl) (fun a10 (t11 : tT C a10 14) => ?_)
      refine s_run X ok_X12_calculate 18 5 (pc' := 58) (vs' := [some (.ref p0), some (.int p1), some (.long p2), none, none]) (st' := [.int p1, .ref p0, .ref p0, .long p2, .int 1, .ref a10]) rfl ?_
      refine s_callV (rest := [.ref p0, .long p2, .int 1, .ref a10]) X E mv_X12_180 (c_X12_planNow S9 p0 p1) (ta1 t0_) rfl (by decide) t0_ rfl rfl (Nat.le_of_ble_eq_true rfl) (Nat.le_of_ble_eq_true rfl) (Nat.le_of_ble_eq_true rfl) (dk okd_X12_calculate 11 rfl) (st' := fun v12 => [.int v12, .ref p0, .long p2, .int 1, .ref a10]) (fun _ => rfl) (fun v12 => ?_)
      refine s_run X ok_X12_calculate 23 1 (pc' := 62) (vs' := [some (.ref p0), some (.int p1), some (.long p2), none, none]) (st' := [.int 0, .int v12, .ref p0, .long p2, .int 1, .ref a10]) rfl ?_
      refine s_callV (rest := [.long p2, .int 1, .ref a10]) X E mv_X12_168 (c_X12_ofPlan S9 p0 v12 0) (ta1 t0_) rfl (by decide) t0_ rfl rfl (Nat.le_of_ble_eq_true rfl) (Nat.le_of_ble_eq_true rfl) (Nat.le_of_ble_eq_true rfl) (dk okd_X12_calculate 12 rfl) (st' := fun v13 => [.long v13, .long p2, .int 1, .ref a10]) (fun _ => rfl) (fun v13 => ?_)
      refine s_callS (rest := [.int 1, .ref a10]) X E ms_X12_187 (c_X12_rated S9 p2 v13) (ta0) rfl rfl (Nat.le_of_ble_eq_true rfl) (Nat.le_of_ble_eq_true rfl) (Nat.le_of_ble_eq_true rfl) (dk okd_X12_calculate 13 rfl) (st' := fun v14 => [.long v14, .int 1, .ref a10]) (fun _ => rfl) (fun v14 => ?_)
      refine s_last X t11 (dk okd_X12_calculate 14 rfl) (fun S15 => ?_)
      refine s_run X ok_X12_calculate 24 3 (pc' := 72) (vs' := [some (.ref p0), some (.int p1), some (.long p2), none, none]) (st' := [.int 4, .int p1, .ref p0]) rfl ?_
      refine s_callV (rest := []) X E mv_X12_63 (c_X12_of S15 p0 p1 4) (ta1 t0_) rfl (by decide) t0_ rfl rfl (Nat.le_of_ble_eq_true rfl) (Nat.le_of_ble_eq_true rfl) (Nat.le_of_ble_eq_true rfl) (dk okd_X12_calculate 15 rfl) (st' := fun v16 => [.long v16]) (fun _ => rfl) (fun v16 => ?_)
      refine s_run X ok_X12_calculate 27 2 (pc' := 77) (vs' := [some (.ref p0), some (.int p1), some (.long p2), none, none]) (st' := [.int (lg_cmp v16 0)]) rfl ?_
      refine s_jn (κ := St → Option (St)) (fun k18 => ∀ (S17 : St), Jd C 5 (QJ C oV sV) S17 102 [some (.ref p0), some (.int p1), none, none, none] [] (k18 S17)) (fun S17 => ?_) (fun k18 h19 => ?_)
      · refine s_run X ok_X12_calculate 36 2 (pc' := 105) (vs' := [some (.ref p0), some (.int p1), none, none, some (.int 0)]) (st' := []) rfl ?_
        refine s_jn (κ := St → Option (St)) (fun k21 => ∀ (S20 : St), Jd C 5 (QJ C oV sV) S20 156 [some (.ref p0), none, none, none, none] [] (k21 S20)) (fun S20 => ?_) (fun k21 h22 => ?_)
        · refine s_run X ok_X12_calculate 59 1 (pc' := 157) (vs' := [some (.ref p0), none, none, none, none]) (st' := [.ref p0]) rfl ?_
          refine s_getR X fl_X12_23 t0_ (dk okd_X12_calculate 34 rfl) (fun a23 (t24 : tT C a23 14) => ?_)
          refine s_run X ok_X12_calculate 60 2 (pc' := 162) (vs' := [some (.ref p0), none, none, none, none]) (st' := [.ref p0, .int 5, .ref a23]) rfl ?_
          refine s_getR X fl_X12_23 t0_ (dk okd_X12_calculate 35 rfl) (fun a25 (t26 : tT C a25 14) => ?_)
          refine s_run X ok_X12_calculate 62 1 (pc' := 166) (vs' := [some (.ref p0), none, none, none, none]) (st' := [.int 0, .ref a25, .int 5, .ref a23]) rfl ?_
          refine s_lald X t26 (dk okd_X12_calculate 36 rfl) (fun v27 => ?_)
          refine s_run X ok_X12_calculate 63 1 (pc' := 168) (vs' := [some (.ref p0), none, none, none, none]) (st' := [.ref p0, .long v27, .int 5, .ref a23]) rfl ?_
          refine s_getR X fl_X12_23 t0_ (dk okd_X12_calculate 37 rfl) (fun a28 (t29 : tT C a28 14) => ?_)
          refine s_run X ok_X12_calculate 64 1 (pc' := 172) (vs' := [some (.ref p0), none, none, none, none]) (st' := [.int 1, .ref a28, .long v27, .int 5, .ref a23]) rfl ?_
          refine s_lald X t29 (dk okd_X12_calculate 38 rfl) (fun v30 => ?_)
          refine s_run X ok_X12_calculate 65 2 (pc' := 175) (vs' := [some (.ref p0), none, none, none, none]) (st' := [.ref p0, .long (v27 + v30), .int 5, .ref a23]) rfl ?_
          refine s_getR X fl_X12_23 t0_ (dk okd_X12_calculate 39 rfl) (fun a31 (t32 : tT C a31 14) => ?_)
          refine s_run X ok_X12_calculate 67 1 (pc' := 179) (vs' := [some (.ref p0), none, none, none, none]) (st' := [.int 2, .ref a31, .long (v27 + v30), .int 5, .ref a23]) rfl ?_
          refine s_lald X t32 (dk okd_X12_calculate 40 rfl) (fun v33 => ?_)
          refine s_run X ok_X12_calculate 68 2 (pc' := 182) (vs' := [some (.ref p0), none, none, none, none]) (st' := [.ref p0, .long ((v27 + v30) + v33), .int 5, .ref a23]) rfl ?_
          refine s_getR X fl_X12_23 t0_ (dk okd_X12_calculate 41 rfl) (fun a34 (t35 : tT C a34 14) => ?_)
          refine s_run X ok_X12_calculate 70 1 (pc' := 186) (vs' := [some (.ref p0), none, none, none, none]) (st' := [.int 3, .ref a34, .long ((v27 + v30) + v33), .int 5, .ref a23]) rfl ?_
          refine s_lald X t35 (dk okd_X12_calculate 42 rfl) (fun v36 => ?_)
          refine s_run X ok_X12_calculate 71 2 (pc' := 189) (vs' := [some (.ref p0), none, none, none, none]) (st' := [.ref p0, .long (((v27 + v30) + v33) + v36), .int 5, .ref a23]) rfl ?_
          refine s_getR X fl_X12_23 t0_ (dk okd_X12_calculate 43 rfl) (fun a37 (t38 : tT C a37 14) => ?_)
          refine s_run X ok_X12_calculate 73 1 (pc' := 193) (vs' := [some (.ref p0), none, none, none, none]) (st' := [.int 4, .ref a37, .long (((v27 + v30) + v33) + v36), .int 5, .ref a23]) rfl ?_
          refine s_lald X t38 (dk okd_X12_calculate 44 rfl) (fun v39 => ?_)
          refine s_run X ok_X12_calculate 74 1 (pc' := 195) (vs' := [some (.ref p0), none, none, none, none]) (st' := [.long ((((v27 + v30) + v33) + v36) - v39), .int 5, .ref a23]) rfl ?_
          refine s_last X t24 (dk okd_X12_calculate 45 rfl) (fun S40 => ?_)
          exact s_vret X hr (dk okd_X12_calculate 46 rfl) rfl rfl
        · refine s_lp (κ := Int32 → St → Option (St)) (fun k43 => ∀ (x41 : Int32) (S42 : St), Jd C 5 (QJ C oV sV) S42 105 [some (.ref p0), some (.int p1), none, none, some (.int x41)] [] (k43 x41 S42)) (fun _ _ => s_none) (fun k43 h44 x41 S42 => ?_) FU 0 S17
          refine s_run X ok_X12_calculate 38 3 (pc' := 109) (vs' := [some (.ref p0), some (.int p1), none, none, some (.int x41)]) (st' := [.ref p0, .long (Int32.toInt64 x41)]) rfl ?_
          refine s_getR X fl_X12_9 t0_ (dk okd_X12_calculate 23 rfl) (fun a45 (t46 : tT C a45 14) => ?_)
          refine s_run X ok_X12_calculate 41 1 (pc' := 113) (vs' := [some (.ref p0), some (.int p1), none, none, some (.int x41)]) (st' := [.int 2, .ref a45, .long (Int32.toInt64 x41)]) rfl ?_
          refine s_lald X t46 (dk okd_X12_calculate 24 rfl) (fun v47 => ?_)
          refine s_run X ok_X12_calculate 42 1 (pc' := 115) (vs' := [some (.ref p0), some (.int p1), none, none, some (.int x41)]) (st' := [.int (lg_cmp (Int32.toInt64 x41) v47)]) rfl ?_
          refine s_lif_ge (tgt := 156) X (dk okd_X12_calculate 25 rfl) (by decide) ?_ ?_
          · exact s_less [true, false, false, false, false] rfl (h22 S42)
          · refine s_run X ok_X12_calculate 43 1 (pc' := 119) (vs' := [some (.ref p0), some (.int p1), none, none, some (.int x41)]) (st' := [.ref p0]) rfl ?_
            refine s_getR X fl_X12_23 t0_ (dk okd_X12_calculate 26 rfl) (fun a48 (t49 : tT C a48 14) => ?_)
            refine s_run X ok_X12_calculate 44 2 (pc' := 124) (vs' := [some (.ref p0), some (.int p1), none, none, some (.int x41)]) (st' := [.int 3, .ref a48, .int 3, .ref a48]) rfl ?_
            refine s_lald X t49 (dk okd_X12_calculate 27 rfl) (fun v50 => ?_)
            refine s_run X ok_X12_calculate 46 3 (pc' := 129) (vs' := [some (.ref p0), some (.int p1), none, none, some (.int x41)]) (st' := [.int x41, .int p1, .ref p0, .long v50, .int 3, .ref a48]) rfl ?_
            refine s_callV (rest := [.long v50, .int 3, .ref a48]) X E mv_X12_217 (c_X12_credit S42 p0 p1 x41) (ta1 t0_) rfl (by decide) t0_ rfl rfl (Nat.le_of_ble_eq_true rfl) (Nat.le_of_ble_eq_true rfl) (Nat.le_of_ble_eq_true rfl) (dk okd_X12_calculate 28 rfl) (st' := fun v51 => [.long v51, .long v50, .int 3, .ref a48]) (fun _ => rfl) (fun v51 => ?_)
            refine s_run X ok_X12_calculate 49 1 (pc' := 133) (vs' := [some (.ref p0), some (.int p1), none, none, some (.int x41)]) (st' := [.long (v50 + v51), .int 3, .ref a48]) rfl ?_
            refine s_last X t49 (dk okd_X12_calculate 29 rfl) (fun S52 => ?_)
            refine s_run X ok_X12_calculate 50 1 (pc' := 135) (vs' := [some (.ref p0), some (.int p1), none, none, some (.int x41)]) (st' := [.ref p0]) rfl ?_
            refine s_getR X fl_X12_23 t0_ (dk okd_X12_calculate 30 rfl) (fun a53 (t54 : tT C a53 14) => ?_)
            refine s_run X ok_X12_calculate 51 2 (pc' := 140) (vs' := [some (.ref p0), some (.int p1), none, none, some (.int x41)]) (st' := [.int 4, .ref a53, .int 4, .ref a53]) rfl ?_
            refine s_lald X t54 (dk okd_X12_calculate 31 rfl) (fun v55 => ?_)
            refine s_run X ok_X12_calculate 53 3 (pc' := 145) (vs' := [some (.ref p0), some (.int p1), none, none, some (.int x41)]) (st' := [.int p1, .int x41, .ref p0, .long v55, .int 4, .ref a53]) rfl ?_
            refine s_callV (rest := [.long v55, .int 4, .ref a53]) X E mv_X12_217 (c_X12_credit S52 p0 x41 p1) (ta1 t0_) rfl (by decide) t0_ rfl rfl (Nat.le_of_ble_eq_true rfl) (Nat.le_of_ble_eq_true rfl) (Nat.le_of_ble_eq_true rfl) (dk okd_X12_calculate 32 rfl) (st' := fun v56 => [.long v56, .long v55, .int 4, .ref a53]) (fun _ => rfl) (fun v56 => ?_)
            refine s_run X ok_X12_calculate 56 1 (pc' := 149) (vs' := [some (.ref p0), some (.int p1), none, none, some (.int x41)]) (st' := [.long (v55 + v56), .int 4, .ref a53]) rfl ?_
            refine s_last X t54 (dk okd_X12_calculate 33 rfl) (fun S57 => ?_)
            refine s_run X ok_X12_calculate 57 2 (pc' := 105) (vs' := [some (.ref p0), some (.int p1), none, none, some (.int (x41 + 1))]) (st' := []) rfl ?_
            exact h44 (x41 + 1) S57
      · refine s_lif_le (tgt := 102) X (dk okd_X12_calculate 16 rfl) (by decide) ?_ ?_
        · exact s_less [true, true, false, false, false] rfl (h19 S15)
        · refine s_run X ok_X12_calculate 29 1 (pc' := 81) (vs' := [some (.ref p0), some (.int p1), some (.long p2), none, none]) (st' := [.ref p0]) rfl ?_
          refine s_getR X fl_X12_23 t0_ (dk okd_X12_calculate 17 rfl) (fun a58 (t59 : tT C a58 14) => ?_)
          refine s_run X ok_X12_calculate 30 4 (pc' := 88) (vs' := [some (.ref p0), some (.int p1), some (.long p2), none, none]) (st' := [.int 4, .int p1, .ref p0, .int 2, .ref a58]) rfl ?_
          refine s_callV (rest := [.int 2, .ref a58]) X E mv_X12_63 (c_X12_of S15 p0 p1 4) (ta1 t0_) rfl (by decide) t0_ rfl rfl (Nat.le_of_ble_eq_true rfl) (Nat.le_of_ble_eq_true rfl) (Nat.le_of_ble_eq_true rfl) (dk okd_X12_calculate 18 rfl) (st' := fun v60 => [.long v60, .int 2, .ref a58]) (fun _ => rfl) (fun v60 => ?_)
          refine s_run X ok_X12_calculate 34 1 (pc' := 92) (vs' := [some (.ref p0), some (.int p1), some (.long p2), none, none]) (st' := [.ref p0, .long v60, .int 2, .ref a58]) rfl ?_
          refine s_getR X fl_X12_9 t0_ (dk okd_X12_calculate 19 rfl) (fun a61 (t62 : tT C a61 14) => ?_)
          refine s_run X ok_X12_calculate 35 1 (pc' := 97) (vs' := [some (.ref p0), some (.int p1), some (.long p2), none, none]) (st' := [.int 6, .ref a61, .long v60, .int 2, .ref a58]) rfl ?_
          refine s_lald X t62 (dk okd_X12_calculate 20 rfl) (fun v63 => ?_)
          refine s_callS (rest := [.int 2, .ref a58]) X E ms_X12_187 (c_X12_rated S15 v60 v63) (ta0) rfl rfl (Nat.le_of_ble_eq_true rfl) (Nat.le_of_ble_eq_true rfl) (Nat.le_of_ble_eq_true rfl) (dk okd_X12_calculate 21 rfl) (st' := fun v64 => [.long v64, .int 2, .ref a58]) (fun _ => rfl) (fun v64 => ?_)
          refine s_last X t59 (dk okd_X12_calculate 22 rfl) (fun S65 => ?_)
          exact s_less [true, true, false, false, false] rfl (h19 S65)
    · exact s_vret X hr (dk okd_X12_calculate 5 rfl) rfl rfl
  · refine s_lp (κ := Int32 → St → Option (St)) (fun k68 => ∀ (x66 : Int32) (S67 : St), Jd C 5 (QJ C oV sV) S67 3 [some (.ref p0), some (.int p1), some (.long p2), none, some (.int x66)] [] (k68 x66 S67)) (fun _ _ => s_none) (fun k68 h69 x66 S67 => ?_) FU 0 S
    refine s_run X ok_X12_calculate 2 2 (pc' := 7) (vs' := [some (.ref p0), some (.int p1), some (.long p2), none, some (.int x66)]) (st' := [.int 7, .int x66]) rfl ?_
    refine s_icmp_ge (tgt := 24) X (dk okd_X12_calculate 0 rfl) (by decide) ?_ ?_
    · exact s_less [true, true, true, false, false] rfl (h3 S67)
    · refine s_run X ok_X12_calculate 4 1 (pc' := 11) (vs' := [some (.ref p0), some (.int p1), some (.long p2), none, some (.int x66)]) (st' := [.ref p0]) rfl ?_
      refine s_getR X fl_X12_23 t0_ (dk okd_X12_calculate 1 rfl) (fun a70 (t71 : tT C a70 14) => ?_)
      refine s_run X ok_X12_calculate 5 2 (pc' := 17) (vs' := [some (.ref p0), some (.int p1), some (.long p2), none, some (.int x66)]) (st' := [.long 0, .int x66, .ref a70]) rfl ?_
      refine s_last X t71 (dk okd_X12_calculate 2 rfl) (fun S72 => ?_)
      refine s_run X ok_X12_calculate 7 2 (pc' := 3) (vs' := [some (.ref p0), some (.int p1), some (.long p2), none, some (.int (x66 + 1))]) (st' := []) rfl ?_
      exact h69 (x66 + 1) S72
def tab_X12_invoiceRow : List En := [(0, 2, 0, 1694), (3, 1, 0, 7), (5, 1, 0, 8), (7, 4, 2, 0), (8, 19, 0, 0), (9, 4, 1, 0), (10, 17, 0, 0), (11, 19, 0, 0), (12, 17, 0, 0)]
theorem ok_X12_invoiceRow : tab_X12_invoiceRow.all (okE cX12_invoiceRow) = true := by decide +kernel
def ed_X12_invoiceRow : List (Nat × Instr × Nat) := [(13, .ireturn, 1)]
theorem okd_X12_invoiceRow : ed_X12_invoiceRow.all (okD cX12_invoiceRow) = true := by decide +kernel
def f_X12_invoiceRow (S : St) (p0 : Nat) (p1 : Int32) (p2 : Int32) : Option (Int32) := some (1694 + (7 * ((8 * p2) + p1)))
set_option maxHeartbeats 4000000 in
set_option maxRecDepth 100000 in
theorem c_X12_invoiceRow (S : St) (p0 : Nat) (p1 : Int32) (p2 : Int32) : Ct yX12_invoiceRow cX12_invoiceRow 3 (some .int) 0 0 [.ref p0, .int p1, .int p2] [(p0, 11)] S (f_X12_invoiceRow S p0 p1 p2) oI (fun _ => S) := by
  refine Ct_of RX12 rfl (by decide) (Nat.le_of_ble_eq_true rfl) 0 (vs := [some (.ref p0), some (.int p1), some (.int p2)]) rfl (fun C X E hr ht => ?_)
  have t0_ : tT C p0 11 := ht (p0, 11) (by simp)
  unfold f_X12_invoiceRow
  refine s_run X ok_X12_invoiceRow 0 9 (pc' := 13) (vs' := [some (.ref p0), some (.int p1), some (.int p2)]) (st' := [.int (1694 + (7 * ((8 * p2) + p1)))]) rfl ?_
  exact s_iret X hr (dk okd_X12_invoiceRow 0 rfl) rfl rfl
def tab_X12_isOpenTransfer : List En := [(0, 8, 0, 0), (1, 4, 1, 0), (2, 1, 0, 9), (7, 3, 1, 0), (8, 40, 0, 0), (12, 8, 0, 0), (13, 4, 1, 0), (14, 1, 0, 9), (22, 40, 0, 0), (26, 0, 0, 1), (27, 41, 31, 0), (30, 0, 0, 0)]
theorem ok_X12_isOpenTransfer : tab_X12_isOpenTransfer.all (okE cX12_isOpenTransfer) = true := by decide +kernel
def ed_X12_isOpenTransfer : List (Nat × Instr × Nat) := [(4, .invokevirtual 63, 3), (9, .ifCond .eq 17, 3), (16, .invokevirtual 63, 3), (19, .ldc2_w 220, 3), (23, .ifCond .ne 7, 3), (31, .ireturn, 1)]
theorem okd_X12_isOpenTransfer : ed_X12_isOpenTransfer.all (okD cX12_isOpenTransfer) = true := by decide +kernel
def f_X12_isOpenTransfer (S : St) (p0 : Nat) (p1 : Int32) : Option (Int32) := cl (f_X12_of S p0 p1 9) fun (v1 : Int64) => jn (κ := Option (Int32)) (some 1) fun k2 => if v1 = 1 then (k2) else (cl (f_X12_of S p0 p1 9) fun (v4 : Int64) => if v4 = 2 then (k2) else (some 0))
set_option maxHeartbeats 4000000 in
set_option maxRecDepth 100000 in
theorem c_X12_isOpenTransfer (S : St) (p0 : Nat) (p1 : Int32) : Ct yX12_isOpenTransfer cX12_isOpenTransfer 2 (some .boolean) 1 22 [.ref p0, .int p1] [(p0, 11)] S (f_X12_isOpenTransfer S p0 p1) oI (fun _ => S) := by
  refine Ct_of RX12 rfl (by decide) (Nat.le_of_ble_eq_true rfl) 0 (vs := [some (.ref p0), some (.int p1)]) rfl (fun C X E hr ht => ?_)
  have t0_ : tT C p0 11 := ht (p0, 11) (by simp)
  unfold f_X12_isOpenTransfer
  refine s_run X ok_X12_isOpenTransfer 0 3 (pc' := 4) (vs' := [some (.ref p0), some (.int p1)]) (st' := [.int 9, .int p1, .ref p0]) rfl ?_
  refine s_callV (rest := []) X E mv_X12_63 (c_X12_of S p0 p1 9) (ta1 t0_) rfl (by decide) t0_ rfl rfl (Nat.le_of_ble_eq_true rfl) (Nat.le_of_ble_eq_true rfl) (Nat.le_of_ble_eq_true rfl) (dk okd_X12_isOpenTransfer 0 rfl) (st' := fun v1 => [.long v1]) (fun _ => rfl) (fun v1 => ?_)
  refine s_run X ok_X12_isOpenTransfer 3 2 (pc' := 9) (vs' := [some (.ref p0), some (.int p1)]) (st' := [.int (lg_cmp v1 1)]) rfl ?_
  refine s_jn (κ := Option (Int32)) (fun k2 => Jd C 2 (QJ C oI (fun _ => S)) S 26 [none, none] [] k2) ?_ (fun k2 h3 => ?_)
  · refine s_run X ok_X12_isOpenTransfer 9 2 (pc' := 31) (vs' := [none, none]) (st' := [.int 1]) rfl ?_
    exact s_zret0 X hr (dk okd_X12_isOpenTransfer 5 rfl) (by decide) rfl rfl
  · refine s_lif_eq (tgt := 26) X (dk okd_X12_isOpenTransfer 1 rfl) (by decide) ?_ ?_
    · exact s_less [false, false] rfl (h3)
    · refine s_run X ok_X12_isOpenTransfer 5 3 (pc' := 16) (vs' := [some (.ref p0), some (.int p1)]) (st' := [.int 9, .int p1, .ref p0]) rfl ?_
      refine s_callV (rest := []) X E mv_X12_63 (c_X12_of S p0 p1 9) (ta1 t0_) rfl (by decide) t0_ rfl rfl (Nat.le_of_ble_eq_true rfl) (Nat.le_of_ble_eq_true rfl) (Nat.le_of_ble_eq_true rfl) (dk okd_X12_isOpenTransfer 2 rfl) (st' := fun v4 => [.long v4]) (fun _ => rfl) (fun v4 => ?_)
      refine s_ldc2 X cl_X12_220 (dk okd_X12_isOpenTransfer 3 rfl) ?_
      refine s_run X ok_X12_isOpenTransfer 8 1 (pc' := 23) (vs' := [some (.ref p0), some (.int p1)]) (st' := [.int (lg_cmp v4 2)]) rfl ?_
      refine s_lif_ne (tgt := 30) X (dk okd_X12_isOpenTransfer 4 rfl) (by decide) ?_ ?_
      · refine s_run X ok_X12_isOpenTransfer 11 1 (pc' := 31) (vs' := [some (.ref p0), some (.int p1)]) (st' := [.int 0]) rfl ?_
        exact s_zret0 X hr (dk okd_X12_isOpenTransfer 5 rfl) (by decide) rfl rfl
      · exact s_less [false, false] rfl (h3)
def tab_X12_isDelayOver : List En := [(0, 8, 0, 0), (4, 0, 0, 0), (6, 8, 0, 0), (7, 4, 1, 0), (8, 1, 0, 12), (13, 24, 0, 0), (14, 8, 0, 0), (18, 1, 0, 9), (21, 40, 0, 0), (25, 0, 0, 1), (26, 41, 30, 0), (29, 0, 0, 0)]
theorem ok_X12_isDelayOver : tab_X12_isDelayOver.all (okE cX12_isDelayOver) = true := by decide +kernel
def ed_X12_isDelayOver : List (Nat × Instr × Nat) := [(1, .getfield 9, 3), (5, .laload, 1), (10, .invokevirtual 63, 3), (15, .getfield 9, 3), (20, .laload, 1), (22, .ifCond .lt 7, 3), (30, .ireturn, 1)]
theorem okd_X12_isDelayOver : ed_X12_isDelayOver.all (okD cX12_isDelayOver) = true := by decide +kernel
def f_X12_isDelayOver (S : St) (p0 : Nat) (p1 : Int32) : Option (Int32) := lt (gR S p0 0) fun (a1 : Nat) => ldJ S a1 0 fun (v3 : Int64) => cl (f_X12_of S p0 p1 12) fun (v4 : Int64) => lt (gR S p0 0) fun (a5 : Nat) => ldJ S a5 9 fun (v7 : Int64) => if (v3 - v4) < v7 then (some 0) else (some 1)
set_option maxHeartbeats 4000000 in
set_option maxRecDepth 100000 in
theorem c_X12_isDelayOver (S : St) (p0 : Nat) (p1 : Int32) : Ct yX12_isDelayOver cX12_isDelayOver 2 (some .boolean) 1 22 [.ref p0, .int p1] [(p0, 11)] S (f_X12_isDelayOver S p0 p1) oI (fun _ => S) := by
  refine Ct_of RX12 rfl (by decide) (Nat.le_of_ble_eq_true rfl) 0 (vs := [some (.ref p0), some (.int p1)]) rfl (fun C X E hr ht => ?_)
  have t0_ : tT C p0 11 := ht (p0, 11) (by simp)
  unfold f_X12_isDelayOver
  refine s_run X ok_X12_isDelayOver 0 1 (pc' := 1) (vs' := [some (.ref p0), some (.int p1)]) (st' := [.ref p0]) rfl ?_
  refine s_getR X fl_X12_9 t0_ (dk okd_X12_isDelayOver 0 rfl) (fun a1 (t2 : tT C a1 14) => ?_)
  refine s_run X ok_X12_isDelayOver 1 1 (pc' := 5) (vs' := [some (.ref p0), some (.int p1)]) (st' := [.int 0, .ref a1]) rfl ?_
  refine s_lald X t2 (dk okd_X12_isDelayOver 1 rfl) (fun v3 => ?_)
  refine s_run X ok_X12_isDelayOver 2 3 (pc' := 10) (vs' := [some (.ref p0), some (.int p1)]) (st' := [.int 12, .int p1, .ref p0, .long v3]) rfl ?_
  refine s_callV (rest := [.long v3]) X E mv_X12_63 (c_X12_of S p0 p1 12) (ta1 t0_) rfl (by decide) t0_ rfl rfl (Nat.le_of_ble_eq_true rfl) (Nat.le_of_ble_eq_true rfl) (Nat.le_of_ble_eq_true rfl) (dk okd_X12_isDelayOver 2 rfl) (st' := fun v4 => [.long v4, .long v3]) (fun _ => rfl) (fun v4 => ?_)
  refine s_run X ok_X12_isDelayOver 5 2 (pc' := 15) (vs' := [some (.ref p0), some (.int p1)]) (st' := [.ref p0, .long (v3 - v4)]) rfl ?_
  refine s_getR X fl_X12_9 t0_ (dk okd_X12_isDelayOver 3 rfl) (fun a5 (t6 : tT C a5 14) => ?_)
  refine s_run X ok_X12_isDelayOver 7 1 (pc' := 20) (vs' := [some (.ref p0), some (.int p1)]) (st' := [.int 9, .ref a5, .long (v3 - v4)]) rfl ?_
  refine s_lald X t6 (dk okd_X12_isDelayOver 4 rfl) (fun v7 => ?_)
  refine s_run X ok_X12_isDelayOver 8 1 (pc' := 22) (vs' := [some (.ref p0), some (.int p1)]) (st' := [.int (lg_cmp (v3 - v4) v7)]) rfl ?_
  refine s_lif_lt (tgt := 29) X (dk okd_X12_isDelayOver 5 rfl) (by decide) ?_ ?_
  · refine s_run X ok_X12_isDelayOver 11 1 (pc' := 30) (vs' := [some (.ref p0), some (.int p1)]) (st' := [.int 0]) rfl ?_
    exact s_zret0 X hr (dk okd_X12_isDelayOver 6 rfl) (by decide) rfl rfl
  · refine s_run X ok_X12_isDelayOver 9 2 (pc' := 30) (vs' := [some (.ref p0), some (.int p1)]) (st' := [.int 1]) rfl ?_
    exact s_zret0 X hr (dk okd_X12_isDelayOver 6 rfl) (by decide) rfl rfl
def tab_X12_doTransfer : List En := [(0, 8, 0, 0), (1, 4, 1, 0), (2, 1, 0, 9), (10, 8, 0, 0), (11, 4, 1, 0), (12, 0, 0, 2), (13, 8, 0, 0), (14, 4, 1, 0), (15, 1, 0, 10), (23, 8, 0, 0), (24, 4, 1, 0), (25, 0, 0, 5), (26, 3, 1, 0), (30, 8, 0, 0), (31, 4, 1, 0), (32, 1, 0, 6), (34, 3, 0, 0), (38, 8, 0, 0), (39, 4, 1, 0), (40, 0, 0, 4), (41, 8, 0, 0), (45, 1, 0, 8)]
theorem ok_X12_doTransfer : tab_X12_doTransfer.all (okE cX12_doTransfer) = true := by decide +kernel
def ed_X12_doTransfer : List (Nat × Instr × Nat) := [(4, .ldc2_w 222, 3), (7, .invokevirtual 183, 3), (17, .invokevirtual 63, 3), (20, .invokevirtual 183, 3), (27, .invokevirtual 224, 3), (35, .invokevirtual 183, 3), (42, .getfield 9, 3), (47, .laload, 1), (48, .invokevirtual 224, 3), (51, .return_, 1)]
theorem okd_X12_doTransfer : ed_X12_doTransfer.all (okD cX12_doTransfer) = true := by decide +kernel
def f_X12_doTransfer (S : St) (p0 : Nat) (p1 : Int32) : Option (St) := cl (f_X12_set S p0 p1 9 4) fun (S1 : St) => cl (f_X12_of S1 p0 p1 10) fun (v2 : Int64) => cl (f_X12_set S1 p0 p1 2 v2) fun (S3 : St) => cl (f_X12_add S3 p0 p1 5 1) fun (S4 : St) => cl (f_X12_set S4 p0 p1 6 0) fun (S5 : St) => lt (gR S5 p0 0) fun (a6 : Nat) => ldJ S5 a6 8 fun (v8 : Int64) => cl (f_X12_add S5 p0 p1 4 v8) fun (S9 : St) => some S9
set_option maxHeartbeats 4000000 in
set_option maxRecDepth 100000 in
theorem c_X12_doTransfer (S : St) (p0 : Nat) (p1 : Int32) : Ct yX12_doTransfer cX12_doTransfer 2 none 1 24 [.ref p0, .int p1] [(p0, 11)] S (f_X12_doTransfer S p0 p1) oV sV := by
  refine Ct_of RX12 rfl (by decide) (Nat.le_of_ble_eq_true rfl) 0 (vs := [some (.ref p0), some (.int p1)]) rfl (fun C X E hr ht => ?_)
  have t0_ : tT C p0 11 := ht (p0, 11) (by simp)
  unfold f_X12_doTransfer
  refine s_run X ok_X12_doTransfer 0 3 (pc' := 4) (vs' := [some (.ref p0), some (.int p1)]) (st' := [.int 9, .int p1, .ref p0]) rfl ?_
  refine s_ldc2 X cl_X12_222 (dk okd_X12_doTransfer 0 rfl) ?_
  refine s_callV (rest := []) X E mv_X12_183 (c_X12_set S p0 p1 9 4) (ta1 t0_) rfl (by decide) t0_ rfl rfl (Nat.le_of_ble_eq_true rfl) (Nat.le_of_ble_eq_true rfl) (Nat.le_of_ble_eq_true rfl) (dk okd_X12_doTransfer 1 rfl) (st' := fun S1 => []) (fun _ => rfl) (fun S1 => ?_)
  refine s_run X ok_X12_doTransfer 3 6 (pc' := 17) (vs' := [some (.ref p0), some (.int p1)]) (st' := [.int 10, .int p1, .ref p0, .int 2, .int p1, .ref p0]) rfl ?_
  refine s_callV (rest := [.int 2, .int p1, .ref p0]) X E mv_X12_63 (c_X12_of S1 p0 p1 10) (ta1 t0_) rfl (by decide) t0_ rfl rfl (Nat.le_of_ble_eq_true rfl) (Nat.le_of_ble_eq_true rfl) (Nat.le_of_ble_eq_true rfl) (dk okd_X12_doTransfer 2 rfl) (st' := fun v2 => [.long v2, .int 2, .int p1, .ref p0]) (fun _ => rfl) (fun v2 => ?_)
  refine s_callV (rest := []) X E mv_X12_183 (c_X12_set S1 p0 p1 2 v2) (ta1 t0_) rfl (by decide) t0_ rfl rfl (Nat.le_of_ble_eq_true rfl) (Nat.le_of_ble_eq_true rfl) (Nat.le_of_ble_eq_true rfl) (dk okd_X12_doTransfer 3 rfl) (st' := fun S3 => []) (fun _ => rfl) (fun S3 => ?_)
  refine s_run X ok_X12_doTransfer 9 4 (pc' := 27) (vs' := [some (.ref p0), some (.int p1)]) (st' := [.long 1, .int 5, .int p1, .ref p0]) rfl ?_
  refine s_callV (rest := []) X E mv_X12_224 (c_X12_add S3 p0 p1 5 1) (ta1 t0_) rfl (by decide) t0_ rfl rfl (Nat.le_of_ble_eq_true rfl) (Nat.le_of_ble_eq_true rfl) (Nat.le_of_ble_eq_true rfl) (dk okd_X12_doTransfer 4 rfl) (st' := fun S4 => []) (fun _ => rfl) (fun S4 => ?_)
  refine s_run X ok_X12_doTransfer 13 4 (pc' := 35) (vs' := [some (.ref p0), some (.int p1)]) (st' := [.long 0, .int 6, .int p1, .ref p0]) rfl ?_
  refine s_callV (rest := []) X E mv_X12_183 (c_X12_set S4 p0 p1 6 0) (ta1 t0_) rfl (by decide) t0_ rfl rfl (Nat.le_of_ble_eq_true rfl) (Nat.le_of_ble_eq_true rfl) (Nat.le_of_ble_eq_true rfl) (dk okd_X12_doTransfer 5 rfl) (st' := fun S5 => []) (fun _ => rfl) (fun S5 => ?_)
  refine s_run X ok_X12_doTransfer 17 4 (pc' := 42) (vs' := [some (.ref p0), some (.int p1)]) (st' := [.ref p0, .int 4, .int p1, .ref p0]) rfl ?_
  refine s_getR X fl_X12_9 t0_ (dk okd_X12_doTransfer 6 rfl) (fun a6 (t7 : tT C a6 14) => ?_)
  refine s_run X ok_X12_doTransfer 21 1 (pc' := 47) (vs' := [some (.ref p0), some (.int p1)]) (st' := [.int 8, .ref a6, .int 4, .int p1, .ref p0]) rfl ?_
  refine s_lald X t7 (dk okd_X12_doTransfer 7 rfl) (fun v8 => ?_)
  refine s_callV (rest := []) X E mv_X12_224 (c_X12_add S5 p0 p1 4 v8) (ta1 t0_) rfl (by decide) t0_ rfl rfl (Nat.le_of_ble_eq_true rfl) (Nat.le_of_ble_eq_true rfl) (Nat.le_of_ble_eq_true rfl) (dk okd_X12_doTransfer 8 rfl) (st' := fun S9 => []) (fun _ => rfl) (fun S9 => ?_)
  exact s_vret X hr (dk okd_X12_doTransfer 9 rfl) rfl rfl
def tab_X12_closeMonth : List En := [(0, 8, 0, 0), (1, 0, 0, 0), (5, 8, 0, 0), (6, 8, 0, 0), (10, 0, 0, 1), (17, 0, 0, 0), (19, 8, 0, 0), (23, 0, 0, 0), (25, 32, 0, 0), (26, 10, 1, 0), (27, 3, 0, 0), (28, 12, 2, 0), (29, 0, 0, 0), (30, 11, 4, 0), (32, 5, 4, 0), (34, 31, 0, 0), (35, 8, 0, 0), (39, 0, 0, 2), (41, 40, 0, 0), (45, 8, 0, 0), (46, 5, 4, 0), (48, 1, 0, 100), (53, 13, 5, 0), (55, 8, 0, 0), (59, 2, 0, 1214), (62, 1, 0, 8), (64, 4, 1, 0), (65, 19, 0, 0), (66, 17, 0, 0), (67, 5, 4, 0), (69, 17, 0, 0), (70, 7, 5, 0), (73, 8, 0, 0), (74, 5, 4, 0), (76, 7, 5, 0), (81, 0, 0, 0), (82, 11, 7, 0), (84, 5, 7, 0), (86, 1, 0, 7), (91, 8, 0, 0), (95, 8, 0, 0), (96, 5, 4, 0), (98, 4, 1, 0), (102, 5, 7, 0), (104, 17, 0, 0), (105, 8, 0, 0), (109, 5, 7, 0), (113, 16, 7, 1), (116, 41, 84, 0), (119, 8, 0, 0), (120, 5, 4, 0), (128, 8, 0, 0), (129, 5, 4, 0), (131, 1, 0, 6), (133, 8, 0, 0), (134, 5, 4, 0), (136, 0, 0, 4), (140, 3, 0, 0), (141, 40, 0, 0), (145, 8, 0, 0), (146, 5, 4, 0), (148, 1, 0, 6), (153, 3, 1, 0), (154, 23, 0, 0), (155, 41, 159, 0), (158, 3, 0, 0), (162, 8, 0, 0), (163, 5, 4, 0), (165, 0, 0, 4), (166, 8, 0, 0), (170, 0, 0, 5), (175, 8, 0, 0), (176, 5, 4, 0), (178, 1, 0, 7), (180, 8, 0, 0), (184, 0, 0, 1), (189, 6, 2, 0), (190, 8, 0, 0), (194, 0, 0, 1), (196, 23, 0, 0), (197, 12, 2, 0), (198, 16, 4, 1), (201, 41, 32, 0), (204, 8, 0, 0), (208, 1, 0, 11), (210, 37, 0, 0), (212, 6, 2, 0), (213, 8, 0, 0), (217, 1, 0, 7), (223, 23, 0, 0), (225, 0, 0, 0), (226, 11, 4, 0), (228, 5, 4, 0), (230, 31, 0, 0), (231, 8, 0, 0), (235, 0, 0, 2), (237, 40, 0, 0), (241, 8, 0, 0), (242, 5, 4, 0), (244, 1, 0, 9), (252, 40, 0, 0), (256, 8, 0, 0), (257, 5, 4, 0), (265, 8, 0, 0), (266, 5, 4, 0), (271, 8, 0, 0), (275, 8, 0, 0), (276, 5, 4, 0), (278, 4, 1, 0), (282, 1, 0, 6), (284, 17, 0, 0), (285, 8, 0, 0), (286, 5, 4, 0), (288, 0, 0, 4), (293, 16, 4, 1), (296, 41, 228, 0), (299, 0, 0, 0), (300, 11, 4, 0), (302, 5, 4, 0), (304, 31, 0, 0), (305, 8, 0, 0), (309, 0, 0, 3), (311, 40, 0, 0), (315, 8, 0, 0), (319, 2, 0, 186), (322, 0, 0, 4), (323, 5, 4, 0), (325, 19, 0, 0), (326, 17, 0, 0), (327, 0, 0, 3), (328, 17, 0, 0), (329, 3, 0, 0), (331, 16, 4, 1), (334, 41, 302, 0), (337, 2, 0, 1150), (340, 11, 4, 0), (342, 5, 4, 0), (344, 2, 0, 1214), (350, 8, 0, 0), (354, 5, 4, 0), (356, 3, 0, 0), (358, 16, 4, 1), (361, 41, 342, 0), (364, 8, 0, 0), (368, 0, 0, 0), (369, 37, 0, 0), (371, 3, 1, 0), (372, 23, 0, 0), (374, 8, 0, 0), (378, 0, 0, 0), (380, 32, 0, 0)]
theorem ok_X12_closeMonth : tab_X12_closeMonth.all (okE cX12_closeMonth) = true := by decide +kernel
def ed_X12_closeMonth : List (Nat × Instr × Nat) := [(2, .putfield 50, 3), (7, .invokevirtual 201, 3), (11, .invokevirtual 81, 3), (14, .ifCond .eq 5, 3), (18, .ireturn, 1), (20, .getfield 9, 3), (24, .laload, 1), (36, .getfield 9, 3), (40, .laload, 1), (42, .ifCond .ge 162, 3), (50, .invokevirtual 191, 3), (56, .getfield 9, 3), (72, .lastore, 1), (78, .invokevirtual 227, 3), (88, .if_icmp .ge 31, 3), (92, .getfield 9, 3), (99, .invokevirtual 231, 3), (106, .getfield 23, 3), (111, .laload, 1), (112, .lastore, 1), (122, .invokevirtual 128, 3), (125, .ifCond .eq 37, 3), (137, .invokevirtual 63, 3), (142, .ifCond .le 16, 3), (150, .invokevirtual 63, 3), (159, .invokevirtual 183, 3), (167, .getfield 23, 3), (171, .laload, 1), (172, .invokevirtual 224, 3), (181, .getfield 23, 3), (185, .laload, 1), (186, .invokevirtual 224, 3), (191, .getfield 23, 3), (195, .laload, 1), (205, .getfield 9, 3), (211, .laload, 1), (214, .getfield 9, 3), (219, .laload, 1), (220, .invokestatic 187, 3), (224, .lastore, 1), (232, .getfield 9, 3), (236, .laload, 1), (238, .ifCond .ge 61, 3), (246, .invokevirtual 63, 3), (249, .ldc2_w 220, 3), (253, .ifCond .ne 18, 3), (259, .invokevirtual 234, 3), (262, .ifCond .eq 9, 3), (268, .invokevirtual 237, 3), (272, .getfield 9, 3), (279, .invokevirtual 231, 3), (289, .invokevirtual 63, 3), (292, .lastore, 1), (306, .getfield 9, 3), (310, .laload, 1), (312, .ifCond .ge 25, 3), (316, .getfield 9, 3), (330, .lastore, 1), (347, .if_icmp .ge 17, 3), (351, .getfield 9, 3), (357, .lastore, 1), (365, .getfield 9, 3), (370, .laload, 1), (373, .lastore, 1), (375, .getfield 9, 3), (379, .laload, 1), (381, .ireturn, 1)]
theorem okd_X12_closeMonth : ed_X12_closeMonth.all (okD cX12_closeMonth) = true := by decide +kernel
def f_X12_closeMonth (S : St) (p0 : Nat) : Option (Int32 × St) := lt (uI S p0 2 0) fun (S1 : St) => cl (f_X12_isOver S1 p0) fun (v2 : Int32) => cl (f_X12_throwsIf S1 p0 v2 1) fun (o3 : Int32 × St) => if o3.1 = 0 then (lt (gR o3.2 p0 0) fun (a4 : Nat) => ldJ o3.2 a4 0 fun (v6 : Int64) => lt (Int64.toInt32 v6) fun (v7 : Int32) => jn (κ := Int64 → St → Option (Int32 × St)) (fun x8 S9 => lt (gR S9 p0 0) fun (a12 : Nat) => ldJ S9 a12 11 fun (v14 : Int64) => lt (gR S9 p0 0) fun (a15 : Nat) => ldJ S9 a15 7 fun (v17 : Int64) => cl (f_X12_rated S9 x8 v17) fun (v18 : Int64) => stJ S9 a12 11 (v14 + v18) fun (S19 : St) => jn (κ := St → Option (Int32 × St)) (fun S20 => jn (κ := St → Option (Int32 × St)) (fun S23 => jn (κ := St → Option (Int32 × St)) (fun S26 => lt (gR S26 p0 0) fun (a29 : Nat) => ldJ S26 a29 0 fun (v31 : Int64) => stJ S26 a29 0 (v31 + 1) fun (S32 : St) => lt (gR S32 p0 0) fun (a33 : Nat) => ldJ S32 a33 0 fun (v35 : Int64) => some ((Int64.toInt32 v35), S32)) fun k27 => lp (κ := Int32 → St → Option (Int32 × St)) (fun _ _ => none) (fun k38 x36 S37 => if 1214 ≤ x36 then (k27 S37) else (lt (gR S37 p0 0) fun (a40 : Nat) => stJ S37 a40 x36 0 fun (S42 : St) => k38 (x36 + 1) S42)) FU 1150 S23) fun k24 => lp (κ := Int32 → St → Option (Int32 × St)) (fun _ _ => none) (fun k45 x43 S44 => lt (gR S44 p0 0) fun (a47 : Nat) => ldJ S44 a47 3 fun (v49 : Int64) => if v49 ≤ (Int32.toInt64 x43) then (k24 S44) else (lt (gR S44 p0 0) fun (a50 : Nat) => stJ S44 a50 ((186 + (4 * x43)) + 3) 0 fun (S52 : St) => k45 (x43 + 1) S52)) FU 0 S20) fun k21 => lp (κ := Int32 → St → Option (Int32 × St)) (fun _ _ => none) (fun k55 x53 S54 => lt (gR S54 p0 0) fun (a57 : Nat) => ldJ S54 a57 2 fun (v59 : Int64) => if v59 ≤ (Int32.toInt64 x53) then (k21 S54) else (cl (f_X12_of S54 p0 x53 9) fun (v60 : Int64) => jn (κ := St → Option (Int32 × St)) (fun S61 => lt (gR S61 p0 0) fun (a64 : Nat) => cl (f_X12_invoiceRow S61 p0 x53 v7) fun (v66 : Int32) => cl (f_X12_of S61 p0 x53 4) fun (v67 : Int64) => stJ S61 a64 (v66 + 6) v67 fun (S68 : St) => k55 (x53 + 1) S68) fun k62 => if v60 = 2 then (cl (f_X12_isDelayOver S54 p0 x53) fun (v69 : Int32) => if v69 = 0 then (k62 S54) else (cl (f_X12_doTransfer S54 p0 x53) fun (S70 : St) => k62 S70)) else (k62 S54))) FU 0 S19) fun k10 => lp (κ := Int64 → Int32 → St → Option (Int32 × St)) (fun _ _ _ => none) (fun k74 x71 x72 S73 => lt (gR S73 p0 0) fun (a76 : Nat) => ldJ S73 a76 2 fun (v78 : Int64) => if v78 ≤ (Int32.toInt64 x72) then (k10 x71 S73) else (cl (f_X12_salesNow S73 p0 x72 100) fun (v79 : Int64) => lt (gR S73 p0 0) fun (a80 : Nat) => stJ S73 a80 ((1214 + (8 * v7)) + x72) v79 fun (S82 : St) => cl (f_X12_calculate S82 p0 x72 v79) fun (S83 : St) => jn (κ := St → Option (Int32 × St)) (fun S84 => cl (f_X12_isActive S84 p0 x72) fun (v87 : Int32) => jn (κ := St → Option (Int32 × St)) (fun S88 => lt (gR S88 p0 5) fun (a91 : Nat) => ldJ S88 a91 5 fun (v93 : Int64) => cl (f_X12_add S88 p0 x72 4 v93) fun (S94 : St) => lt (gR S94 p0 5) fun (a95 : Nat) => ldJ S94 a95 1 fun (v97 : Int64) => cl (f_X12_add S94 p0 x72 7 v97) fun (S98 : St) => lt (gR S98 p0 5) fun (a99 : Nat) => ldJ S98 a99 1 fun (v101 : Int64) => lt (x71 + v101) fun (v102 : Int64) => k74 v102 (x72 + 1) S98) fun k89 => if v87 = 0 then (k89 S84) else (cl (f_X12_of S84 p0 x72 4) fun (v103 : Int64) => jn (κ := Int64 → Option (Int32 × St)) (fun x104 => cl (f_X12_set S84 p0 x72 6 x104) fun (S107 : St) => k89 S107) fun k105 => if v103 ≤ 0 then (k105 0) else (cl (f_X12_of S84 p0 x72 6) fun (v108 : Int64) => k105 (v108 + 1)))) fun k85 => lp (κ := Int32 → St → Option (Int32 × St)) (fun _ _ => none) (fun k111 x109 S110 => if 7 ≤ x109 then (k85 S110) else (lt (gR S110 p0 0) fun (a113 : Nat) => cl (f_X12_invoiceRow S110 p0 x72 v7) fun (v115 : Int32) => lt (gR S110 p0 5) fun (a116 : Nat) => ldJ S110 a116 x109 fun (v118 : Int64) => stJ S110 a113 (v115 + x109) v118 fun (S119 : St) => k111 (x109 + 1) S119)) FU 0 S83)) FU 0 0 o3.2) else (some (0, o3.2))
set_option maxHeartbeats 4000000 in
set_option maxRecDepth 100000 in
theorem c_X12_closeMonth (S : St) (p0 : Nat) : Ct yX12_closeMonth cX12_closeMonth 8 (some .int) 4 92 [.ref p0] [(p0, 11)] S (f_X12_closeMonth S p0) oIS sS := by
  refine Ct_of RX12 rfl (by decide) (Nat.le_of_ble_eq_true rfl) 7 (vs := [some (.ref p0), none, none, none, none, none, none, none]) rfl (fun C X E hr ht => ?_)
  have t0_ : tT C p0 11 := ht (p0, 11) (by simp)
  unfold f_X12_closeMonth
  refine s_run X ok_X12_closeMonth 0 2 (pc' := 2) (vs' := [some (.ref p0), none, none, none, none, none, none, none]) (st' := [.int 0, .ref p0]) rfl ?_
  refine s_putI X fp_X12_50 t0_ (dk okd_X12_closeMonth 0 rfl) (fun S1 => ?_)
  refine s_run X ok_X12_closeMonth 2 2 (pc' := 7) (vs' := [some (.ref p0), none, none, none, none, none, none, none]) (st' := [.ref p0, .ref p0]) rfl ?_
  refine s_callV (rest := [.ref p0]) X E mv_X12_201 (c_X12_isOver S1 p0) (ta1 t0_) rfl (by decide) t0_ rfl rfl (Nat.le_of_ble_eq_true rfl) (Nat.le_of_ble_eq_true rfl) (Nat.le_of_ble_eq_true rfl) (dk okd_X12_closeMonth 1 rfl) (st' := fun v2 => [.int v2, .ref p0]) (fun _ => rfl) (fun v2 => ?_)
  refine s_run X ok_X12_closeMonth 4 1 (pc' := 11) (vs' := [some (.ref p0), none, none, none, none, none, none, none]) (st' := [.int 1, .int v2, .ref p0]) rfl ?_
  refine s_callV (rest := []) X E mv_X12_81 (c_X12_throwsIf S1 p0 v2 1) (ta1 t0_) rfl (by decide) t0_ rfl rfl (Nat.le_of_ble_eq_true rfl) (Nat.le_of_ble_eq_true rfl) (Nat.le_of_ble_eq_true rfl) (dk okd_X12_closeMonth 2 rfl) (st' := fun o3 => [.int o3.1]) (fun _ => rfl) (fun o3 => ?_)
  refine s_if_eq (tgt := 19) X (dk okd_X12_closeMonth 3 rfl) (by decide) ?_ ?_
  · refine s_run X ok_X12_closeMonth 6 1 (pc' := 20) (vs' := [some (.ref p0), none, none, none, none, none, none, none]) (st' := [.ref p0]) rfl ?_
    refine s_getR X fl_X12_9 t0_ (dk okd_X12_closeMonth 5 rfl) (fun a4 (t5 : tT C a4 14) => ?_)
    refine s_run X ok_X12_closeMonth 7 1 (pc' := 24) (vs' := [some (.ref p0), none, none, none, none, none, none, none]) (st' := [.int 0, .ref a4]) rfl ?_
    refine s_lald X t5 (dk okd_X12_closeMonth 6 rfl) (fun v6 => ?_)
    refine s_run X ok_X12_closeMonth 8 1 (pc' := 26) (vs' := [some (.ref p0), none, none, none, none, none, none, none]) (st' := [.int (Int64.toInt32 v6)]) rfl ?_
    refine s_nmI (fun v7 => ?_)
    refine s_run X ok_X12_closeMonth 9 5 (pc' := 32) (vs' := [some (.ref p0), some (.int v7), some (.long 0), none, some (.int 0), none, none, none]) (st' := []) rfl ?_
    refine s_jn (κ := Int64 → St → Option (Int32 × St)) (fun k10 => ∀ (x8 : Int64) (S9 : St), Jd C 8 (QJ C oIS sS) S9 204 [some (.ref p0), some (.int v7), some (.long x8), none, none, none, none, none] [] (k10 x8 S9)) (fun x8 S9 => ?_) (fun k10 h11 => ?_)
    · refine s_run X ok_X12_closeMonth 83 1 (pc' := 205) (vs' := [some (.ref p0), some (.int v7), some (.long x8), none, none, none, none, none]) (st' := [.ref p0]) rfl ?_
      refine s_getR X fl_X12_9 t0_ (dk okd_X12_closeMonth 34 rfl) (fun a12 (t13 : tT C a12 14) => ?_)
      refine s_run X ok_X12_closeMonth 84 2 (pc' := 211) (vs' := [some (.ref p0), some (.int v7), some (.long x8), none, none, none, none, none]) (st' := [.int 11, .ref a12, .int 11, .ref a12]) rfl ?_
      refine s_lald X t13 (dk okd_X12_closeMonth 35 rfl) (fun v14 => ?_)
      refine s_run X ok_X12_closeMonth 86 2 (pc' := 214) (vs' := [some (.ref p0), some (.int v7), some (.long x8), none, none, none, none, none]) (st' := [.ref p0, .long x8, .long v14, .int 11, .ref a12]) rfl ?_
      refine s_getR X fl_X12_9 t0_ (dk okd_X12_closeMonth 36 rfl) (fun a15 (t16 : tT C a15 14) => ?_)
      refine s_run X ok_X12_closeMonth 88 1 (pc' := 219) (vs' := [some (.ref p0), some (.int v7), some (.long x8), none, none, none, none, none]) (st' := [.int 7, .ref a15, .long x8, .long v14, .int 11, .ref a12]) rfl ?_
      refine s_lald X t16 (dk okd_X12_closeMonth 37 rfl) (fun v17 => ?_)
      refine s_callS (rest := [.long v14, .int 11, .ref a12]) X E ms_X12_187 (c_X12_rated S9 x8 v17) (ta0) rfl rfl (Nat.le_of_ble_eq_true rfl) (Nat.le_of_ble_eq_true rfl) (Nat.le_of_ble_eq_true rfl) (dk okd_X12_closeMonth 38 rfl) (st' := fun v18 => [.long v18, .long v14, .int 11, .ref a12]) (fun _ => rfl) (fun v18 => ?_)
      refine s_run X ok_X12_closeMonth 89 1 (pc' := 224) (vs' := [some (.ref p0), some (.int v7), some (.long x8), none, none, none, none, none]) (st' := [.long (v14 + v18), .int 11, .ref a12]) rfl ?_
      refine s_last X t13 (dk okd_X12_closeMonth 39 rfl) (fun S19 => ?_)
      refine s_run X ok_X12_closeMonth 90 2 (pc' := 228) (vs' := [some (.ref p0), some (.int v7), some (.long x8), none, some (.int 0), none, none, none]) (st' := []) rfl ?_
      refine s_jn (κ := St → Option (Int32 × St)) (fun k21 => ∀ (S20 : St), Jd C 8 (QJ C oIS sS) S20 299 [some (.ref p0), none, none, none, none, none, none, none] [] (k21 S20)) (fun S20 => ?_) (fun k21 h22 => ?_)
      · refine s_run X ok_X12_closeMonth 116 2 (pc' := 302) (vs' := [some (.ref p0), none, none, none, some (.int 0), none, none, none]) (st' := []) rfl ?_
        refine s_jn (κ := St → Option (Int32 × St)) (fun k24 => ∀ (S23 : St), Jd C 8 (QJ C oIS sS) S23 337 [some (.ref p0), none, none, none, none, none, none, none] [] (k24 S23)) (fun S23 => ?_) (fun k24 h25 => ?_)
        · refine s_run X ok_X12_closeMonth 134 2 (pc' := 342) (vs' := [some (.ref p0), none, none, none, some (.int 1150), none, none, none]) (st' := []) rfl ?_
          refine s_jn (κ := St → Option (Int32 × St)) (fun k27 => ∀ (S26 : St), Jd C 8 (QJ C oIS sS) S26 364 [some (.ref p0), none, none, none, none, none, none, none] [] (k27 S26)) (fun S26 => ?_) (fun k27 h28 => ?_)
          · refine s_run X ok_X12_closeMonth 143 1 (pc' := 365) (vs' := [some (.ref p0), none, none, none, none, none, none, none]) (st' := [.ref p0]) rfl ?_
            refine s_getR X fl_X12_9 t0_ (dk okd_X12_closeMonth 61 rfl) (fun a29 (t30 : tT C a29 14) => ?_)
            refine s_run X ok_X12_closeMonth 144 2 (pc' := 370) (vs' := [some (.ref p0), none, none, none, none, none, none, none]) (st' := [.int 0, .ref a29, .int 0, .ref a29]) rfl ?_
            refine s_lald X t30 (dk okd_X12_closeMonth 62 rfl) (fun v31 => ?_)
            refine s_run X ok_X12_closeMonth 146 2 (pc' := 373) (vs' := [some (.ref p0), none, none, none, none, none, none, none]) (st' := [.long (v31 + 1), .int 0, .ref a29]) rfl ?_
            refine s_last X t30 (dk okd_X12_closeMonth 63 rfl) (fun S32 => ?_)
            refine s_run X ok_X12_closeMonth 148 1 (pc' := 375) (vs' := [some (.ref p0), none, none, none, none, none, none, none]) (st' := [.ref p0]) rfl ?_
            refine s_getR X fl_X12_9 t0_ (dk okd_X12_closeMonth 64 rfl) (fun a33 (t34 : tT C a33 14) => ?_)
            refine s_run X ok_X12_closeMonth 149 1 (pc' := 379) (vs' := [some (.ref p0), none, none, none, none, none, none, none]) (st' := [.int 0, .ref a33]) rfl ?_
            refine s_lald X t34 (dk okd_X12_closeMonth 65 rfl) (fun v35 => ?_)
            refine s_run X ok_X12_closeMonth 150 1 (pc' := 381) (vs' := [some (.ref p0), none, none, none, none, none, none, none]) (st' := [.int (Int64.toInt32 v35)]) rfl ?_
            exact s_iret X hr (dk okd_X12_closeMonth 66 rfl) rfl rfl
          · refine s_lp (κ := Int32 → St → Option (Int32 × St)) (fun k38 => ∀ (x36 : Int32) (S37 : St), Jd C 8 (QJ C oIS sS) S37 342 [some (.ref p0), none, none, none, some (.int x36), none, none, none] [] (k38 x36 S37)) (fun _ _ => s_none) (fun k38 h39 x36 S37 => ?_) FU 1150 S23
            refine s_run X ok_X12_closeMonth 136 2 (pc' := 347) (vs' := [some (.ref p0), none, none, none, some (.int x36), none, none, none]) (st' := [.int 1214, .int x36]) rfl ?_
            refine s_icmp_ge (tgt := 364) X (dk okd_X12_closeMonth 58 rfl) (by decide) ?_ ?_
            · exact s_less [true, false, false, false, false, false, false, false] rfl (h28 S37)
            · refine s_run X ok_X12_closeMonth 138 1 (pc' := 351) (vs' := [some (.ref p0), none, none, none, some (.int x36), none, none, none]) (st' := [.ref p0]) rfl ?_
              refine s_getR X fl_X12_9 t0_ (dk okd_X12_closeMonth 59 rfl) (fun a40 (t41 : tT C a40 14) => ?_)
              refine s_run X ok_X12_closeMonth 139 2 (pc' := 357) (vs' := [some (.ref p0), none, none, none, some (.int x36), none, none, none]) (st' := [.long 0, .int x36, .ref a40]) rfl ?_
              refine s_last X t41 (dk okd_X12_closeMonth 60 rfl) (fun S42 => ?_)
              refine s_run X ok_X12_closeMonth 141 2 (pc' := 342) (vs' := [some (.ref p0), none, none, none, some (.int (x36 + 1)), none, none, none]) (st' := []) rfl ?_
              exact h39 (x36 + 1) S42
        · refine s_lp (κ := Int32 → St → Option (Int32 × St)) (fun k45 => ∀ (x43 : Int32) (S44 : St), Jd C 8 (QJ C oIS sS) S44 302 [some (.ref p0), none, none, none, some (.int x43), none, none, none] [] (k45 x43 S44)) (fun _ _ => s_none) (fun k45 h46 x43 S44 => ?_) FU 0 S20
          refine s_run X ok_X12_closeMonth 118 3 (pc' := 306) (vs' := [some (.ref p0), none, none, none, some (.int x43), none, none, none]) (st' := [.ref p0, .long (Int32.toInt64 x43)]) rfl ?_
          refine s_getR X fl_X12_9 t0_ (dk okd_X12_closeMonth 53 rfl) (fun a47 (t48 : tT C a47 14) => ?_)
          refine s_run X ok_X12_closeMonth 121 1 (pc' := 310) (vs' := [some (.ref p0), none, none, none, some (.int x43), none, none, none]) (st' := [.int 3, .ref a47, .long (Int32.toInt64 x43)]) rfl ?_
          refine s_lald X t48 (dk okd_X12_closeMonth 54 rfl) (fun v49 => ?_)
          refine s_run X ok_X12_closeMonth 122 1 (pc' := 312) (vs' := [some (.ref p0), none, none, none, some (.int x43), none, none, none]) (st' := [.int (lg_cmp (Int32.toInt64 x43) v49)]) rfl ?_
          refine s_lif_ge (tgt := 337) X (dk okd_X12_closeMonth 55 rfl) (by decide) ?_ ?_
          · exact s_less [true, false, false, false, false, false, false, false] rfl (h25 S44)
          · refine s_run X ok_X12_closeMonth 123 1 (pc' := 316) (vs' := [some (.ref p0), none, none, none, some (.int x43), none, none, none]) (st' := [.ref p0]) rfl ?_
            refine s_getR X fl_X12_9 t0_ (dk okd_X12_closeMonth 56 rfl) (fun a50 (t51 : tT C a50 14) => ?_)
            refine s_run X ok_X12_closeMonth 124 8 (pc' := 330) (vs' := [some (.ref p0), none, none, none, some (.int x43), none, none, none]) (st' := [.long 0, .int ((186 + (4 * x43)) + 3), .ref a50]) rfl ?_
            refine s_last X t51 (dk okd_X12_closeMonth 57 rfl) (fun S52 => ?_)
            refine s_run X ok_X12_closeMonth 132 2 (pc' := 302) (vs' := [some (.ref p0), none, none, none, some (.int (x43 + 1)), none, none, none]) (st' := []) rfl ?_
            exact h46 (x43 + 1) S52
      · refine s_less [true, true, false, false, true, false, false, false] (vs' := [some (.ref p0), some (.int v7), none, none, some (.int 0), none, none, none]) rfl ?_
        refine s_lp (κ := Int32 → St → Option (Int32 × St)) (fun k55 => ∀ (x53 : Int32) (S54 : St), Jd C 8 (QJ C oIS sS) S54 228 [some (.ref p0), some (.int v7), none, none, some (.int x53), none, none, none] [] (k55 x53 S54)) (fun _ _ => s_none) (fun k55 h56 x53 S54 => ?_) FU 0 S19
        refine s_run X ok_X12_closeMonth 92 3 (pc' := 232) (vs' := [some (.ref p0), some (.int v7), none, none, some (.int x53), none, none, none]) (st' := [.ref p0, .long (Int32.toInt64 x53)]) rfl ?_
        refine s_getR X fl_X12_9 t0_ (dk okd_X12_closeMonth 40 rfl) (fun a57 (t58 : tT C a57 14) => ?_)
        refine s_run X ok_X12_closeMonth 95 1 (pc' := 236) (vs' := [some (.ref p0), some (.int v7), none, none, some (.int x53), none, none, none]) (st' := [.int 2, .ref a57, .long (Int32.toInt64 x53)]) rfl ?_
        refine s_lald X t58 (dk okd_X12_closeMonth 41 rfl) (fun v59 => ?_)
        refine s_run X ok_X12_closeMonth 96 1 (pc' := 238) (vs' := [some (.ref p0), some (.int v7), none, none, some (.int x53), none, none, none]) (st' := [.int (lg_cmp (Int32.toInt64 x53) v59)]) rfl ?_
        refine s_lif_ge (tgt := 299) X (dk okd_X12_closeMonth 42 rfl) (by decide) ?_ ?_
        · exact s_less [true, false, false, false, false, false, false, false] rfl (h22 S54)
        · refine s_run X ok_X12_closeMonth 97 3 (pc' := 246) (vs' := [some (.ref p0), some (.int v7), none, none, some (.int x53), none, none, none]) (st' := [.int 9, .int x53, .ref p0]) rfl ?_
          refine s_callV (rest := []) X E mv_X12_63 (c_X12_of S54 p0 x53 9) (ta1 t0_) rfl (by decide) t0_ rfl rfl (Nat.le_of_ble_eq_true rfl) (Nat.le_of_ble_eq_true rfl) (Nat.le_of_ble_eq_true rfl) (dk okd_X12_closeMonth 43 rfl) (st' := fun v60 => [.long v60]) (fun _ => rfl) (fun v60 => ?_)
          refine s_ldc2 X cl_X12_220 (dk okd_X12_closeMonth 44 rfl) ?_
          refine s_run X ok_X12_closeMonth 100 1 (pc' := 253) (vs' := [some (.ref p0), some (.int v7), none, none, some (.int x53), none, none, none]) (st' := [.int (lg_cmp v60 2)]) rfl ?_
          refine s_jn (κ := St → Option (Int32 × St)) (fun k62 => ∀ (S61 : St), Jd C 8 (QJ C oIS sS) S61 271 [some (.ref p0), some (.int v7), none, none, some (.int x53), none, none, none] [] (k62 S61)) (fun S61 => ?_) (fun k62 h63 => ?_)
          · refine s_run X ok_X12_closeMonth 105 1 (pc' := 272) (vs' := [some (.ref p0), some (.int v7), none, none, some (.int x53), none, none, none]) (st' := [.ref p0]) rfl ?_
            refine s_getR X fl_X12_9 t0_ (dk okd_X12_closeMonth 49 rfl) (fun a64 (t65 : tT C a64 14) => ?_)
            refine s_run X ok_X12_closeMonth 106 3 (pc' := 279) (vs' := [some (.ref p0), some (.int v7), none, none, some (.int x53), none, none, none]) (st' := [.int v7, .int x53, .ref p0, .ref a64]) rfl ?_
            refine s_callV (rest := [.ref a64]) X E mv_X12_231 (c_X12_invoiceRow S61 p0 x53 v7) (ta1 t0_) rfl (by decide) t0_ rfl rfl (Nat.le_of_ble_eq_true rfl) (Nat.le_of_ble_eq_true rfl) (Nat.le_of_ble_eq_true rfl) (dk okd_X12_closeMonth 50 rfl) (st' := fun v66 => [.int v66, .ref a64]) (fun _ => rfl) (fun v66 => ?_)
            refine s_run X ok_X12_closeMonth 109 5 (pc' := 289) (vs' := [some (.ref p0), some (.int v7), none, none, some (.int x53), none, none, none]) (st' := [.int 4, .int x53, .ref p0, .int (v66 + 6), .ref a64]) rfl ?_
            refine s_callV (rest := [.int (v66 + 6), .ref a64]) X E mv_X12_63 (c_X12_of S61 p0 x53 4) (ta1 t0_) rfl (by decide) t0_ rfl rfl (Nat.le_of_ble_eq_true rfl) (Nat.le_of_ble_eq_true rfl) (Nat.le_of_ble_eq_true rfl) (dk okd_X12_closeMonth 51 rfl) (st' := fun v67 => [.long v67, .int (v66 + 6), .ref a64]) (fun _ => rfl) (fun v67 => ?_)
            refine s_last X t65 (dk okd_X12_closeMonth 52 rfl) (fun S68 => ?_)
            refine s_run X ok_X12_closeMonth 114 2 (pc' := 228) (vs' := [some (.ref p0), some (.int v7), none, none, some (.int (x53 + 1)), none, none, none]) (st' := []) rfl ?_
            exact h56 (x53 + 1) S68
          · refine s_lif_ne (tgt := 271) X (dk okd_X12_closeMonth 45 rfl) (by decide) ?_ ?_
            · exact h63 S54
            · refine s_run X ok_X12_closeMonth 101 2 (pc' := 259) (vs' := [some (.ref p0), some (.int v7), none, none, some (.int x53), none, none, none]) (st' := [.int x53, .ref p0]) rfl ?_
              refine s_callV (rest := []) X E mv_X12_234 (c_X12_isDelayOver S54 p0 x53) (ta1 t0_) rfl (by decide) t0_ rfl rfl (Nat.le_of_ble_eq_true rfl) (Nat.le_of_ble_eq_true rfl) (Nat.le_of_ble_eq_true rfl) (dk okd_X12_closeMonth 46 rfl) (st' := fun v69 => [.int v69]) (fun _ => rfl) (fun v69 => ?_)
              refine s_if_eq (tgt := 271) X (dk okd_X12_closeMonth 47 rfl) (by decide) ?_ ?_
              · exact h63 S54
              · refine s_run X ok_X12_closeMonth 103 2 (pc' := 268) (vs' := [some (.ref p0), some (.int v7), none, none, some (.int x53), none, none, none]) (st' := [.int x53, .ref p0]) rfl ?_
                refine s_callV (rest := []) X E mv_X12_237 (c_X12_doTransfer S54 p0 x53) (ta1 t0_) rfl (by decide) t0_ rfl rfl (Nat.le_of_ble_eq_true rfl) (Nat.le_of_ble_eq_true rfl) (Nat.le_of_ble_eq_true rfl) (dk okd_X12_closeMonth 48 rfl) (st' := fun S70 => []) (fun _ => rfl) (fun S70 => ?_)
                exact h63 S70
    · refine s_lp (κ := Int64 → Int32 → St → Option (Int32 × St)) (fun k74 => ∀ (x71 : Int64) (x72 : Int32) (S73 : St), Jd C 8 (QJ C oIS sS) S73 32 [some (.ref p0), some (.int v7), some (.long x71), none, some (.int x72), none, none, none] [] (k74 x71 x72 S73)) (fun _ _ _ => s_none) (fun k74 h75 x71 x72 S73 => ?_) FU 0 0 o3.2
      refine s_run X ok_X12_closeMonth 14 3 (pc' := 36) (vs' := [some (.ref p0), some (.int v7), some (.long x71), none, some (.int x72), none, none, none]) (st' := [.ref p0, .long (Int32.toInt64 x72)]) rfl ?_
      refine s_getR X fl_X12_9 t0_ (dk okd_X12_closeMonth 7 rfl) (fun a76 (t77 : tT C a76 14) => ?_)
      refine s_run X ok_X12_closeMonth 17 1 (pc' := 40) (vs' := [some (.ref p0), some (.int v7), some (.long x71), none, some (.int x72), none, none, none]) (st' := [.int 2, .ref a76, .long (Int32.toInt64 x72)]) rfl ?_
      refine s_lald X t77 (dk okd_X12_closeMonth 8 rfl) (fun v78 => ?_)
      refine s_run X ok_X12_closeMonth 18 1 (pc' := 42) (vs' := [some (.ref p0), some (.int v7), some (.long x71), none, some (.int x72), none, none, none]) (st' := [.int (lg_cmp (Int32.toInt64 x72) v78)]) rfl ?_
      refine s_lif_ge (tgt := 204) X (dk okd_X12_closeMonth 9 rfl) (by decide) ?_ ?_
      · exact s_less [true, true, true, false, false, false, false, false] rfl (h11 x71 S73)
      · refine s_run X ok_X12_closeMonth 19 3 (pc' := 50) (vs' := [some (.ref p0), some (.int v7), some (.long x71), none, some (.int x72), none, none, none]) (st' := [.int 100, .int x72, .ref p0]) rfl ?_
        refine s_callV (rest := []) X E mv_X12_191 (c_X12_salesNow S73 p0 x72 100) (ta1 t0_) rfl (by decide) t0_ rfl rfl (Nat.le_of_ble_eq_true rfl) (Nat.le_of_ble_eq_true rfl) (Nat.le_of_ble_eq_true rfl) (dk okd_X12_closeMonth 10 rfl) (st' := fun v79 => [.long v79]) (fun _ => rfl) (fun v79 => ?_)
        refine s_run X ok_X12_closeMonth 22 2 (pc' := 56) (vs' := [some (.ref p0), some (.int v7), some (.long x71), none, some (.int x72), some (.long v79), none, none]) (st' := [.ref p0]) rfl ?_
        refine s_getR X fl_X12_9 t0_ (dk okd_X12_closeMonth 11 rfl) (fun a80 (t81 : tT C a80 14) => ?_)
        refine s_run X ok_X12_closeMonth 24 8 (pc' := 72) (vs' := [some (.ref p0), some (.int v7), some (.long x71), none, some (.int x72), some (.long v79), none, none]) (st' := [.long v79, .int ((1214 + (8 * v7)) + x72), .ref a80]) rfl ?_
        refine s_last X t81 (dk okd_X12_closeMonth 12 rfl) (fun S82 => ?_)
        refine s_run X ok_X12_closeMonth 32 3 (pc' := 78) (vs' := [some (.ref p0), some (.int v7), some (.long x71), none, some (.int x72), some (.long v79), none, none]) (st' := [.long v79, .int x72, .ref p0]) rfl ?_
        refine s_callV (rest := []) X E mv_X12_227 (c_X12_calculate S82 p0 x72 v79) (ta1 t0_) rfl (by decide) t0_ rfl rfl (Nat.le_of_ble_eq_true rfl) (Nat.le_of_ble_eq_true rfl) (Nat.le_of_ble_eq_true rfl) (dk okd_X12_closeMonth 13 rfl) (st' := fun S83 => []) (fun _ => rfl) (fun S83 => ?_)
        refine s_run X ok_X12_closeMonth 35 2 (pc' := 84) (vs' := [some (.ref p0), some (.int v7), some (.long x71), none, some (.int x72), some (.long v79), none, some (.int 0)]) (st' := []) rfl ?_
        refine s_jn (κ := St → Option (Int32 × St)) (fun k85 => ∀ (S84 : St), Jd C 8 (QJ C oIS sS) S84 119 [some (.ref p0), some (.int v7), some (.long x71), none, some (.int x72), none, none, none] [] (k85 S84)) (fun S84 => ?_) (fun k85 h86 => ?_)
        · refine s_run X ok_X12_closeMonth 49 2 (pc' := 122) (vs' := [some (.ref p0), some (.int v7), some (.long x71), none, some (.int x72), none, none, none]) (st' := [.int x72, .ref p0]) rfl ?_
          refine s_callV (rest := []) X E mv_X12_128 (c_X12_isActive S84 p0 x72) (ta1 t0_) rfl (by decide) t0_ rfl rfl (Nat.le_of_ble_eq_true rfl) (Nat.le_of_ble_eq_true rfl) (Nat.le_of_ble_eq_true rfl) (dk okd_X12_closeMonth 20 rfl) (st' := fun v87 => [.int v87]) (fun _ => rfl) (fun v87 => ?_)
          refine s_jn (κ := St → Option (Int32 × St)) (fun k89 => ∀ (S88 : St), Jd C 8 (QJ C oIS sS) S88 162 [some (.ref p0), some (.int v7), some (.long x71), none, some (.int x72), none, none, none] [] (k89 S88)) (fun S88 => ?_) (fun k89 h90 => ?_)
          · refine s_run X ok_X12_closeMonth 66 4 (pc' := 167) (vs' := [some (.ref p0), some (.int v7), some (.long x71), none, some (.int x72), none, none, none]) (st' := [.ref p0, .int 4, .int x72, .ref p0]) rfl ?_
            refine s_getR X fl_X12_23 t0_ (dk okd_X12_closeMonth 26 rfl) (fun a91 (t92 : tT C a91 14) => ?_)
            refine s_run X ok_X12_closeMonth 70 1 (pc' := 171) (vs' := [some (.ref p0), some (.int v7), some (.long x71), none, some (.int x72), none, none, none]) (st' := [.int 5, .ref a91, .int 4, .int x72, .ref p0]) rfl ?_
            refine s_lald X t92 (dk okd_X12_closeMonth 27 rfl) (fun v93 => ?_)
            refine s_callV (rest := []) X E mv_X12_224 (c_X12_add S88 p0 x72 4 v93) (ta1 t0_) rfl (by decide) t0_ rfl rfl (Nat.le_of_ble_eq_true rfl) (Nat.le_of_ble_eq_true rfl) (Nat.le_of_ble_eq_true rfl) (dk okd_X12_closeMonth 28 rfl) (st' := fun S94 => []) (fun _ => rfl) (fun S94 => ?_)
            refine s_run X ok_X12_closeMonth 71 4 (pc' := 181) (vs' := [some (.ref p0), some (.int v7), some (.long x71), none, some (.int x72), none, none, none]) (st' := [.ref p0, .int 7, .int x72, .ref p0]) rfl ?_
            refine s_getR X fl_X12_23 t0_ (dk okd_X12_closeMonth 29 rfl) (fun a95 (t96 : tT C a95 14) => ?_)
            refine s_run X ok_X12_closeMonth 75 1 (pc' := 185) (vs' := [some (.ref p0), some (.int v7), some (.long x71), none, some (.int x72), none, none, none]) (st' := [.int 1, .ref a95, .int 7, .int x72, .ref p0]) rfl ?_
            refine s_lald X t96 (dk okd_X12_closeMonth 30 rfl) (fun v97 => ?_)
            refine s_callV (rest := []) X E mv_X12_224 (c_X12_add S94 p0 x72 7 v97) (ta1 t0_) rfl (by decide) t0_ rfl rfl (Nat.le_of_ble_eq_true rfl) (Nat.le_of_ble_eq_true rfl) (Nat.le_of_ble_eq_true rfl) (dk okd_X12_closeMonth 31 rfl) (st' := fun S98 => []) (fun _ => rfl) (fun S98 => ?_)
            refine s_run X ok_X12_closeMonth 76 2 (pc' := 191) (vs' := [some (.ref p0), some (.int v7), some (.long x71), none, some (.int x72), none, none, none]) (st' := [.ref p0, .long x71]) rfl ?_
            refine s_getR X fl_X12_23 t0_ (dk okd_X12_closeMonth 32 rfl) (fun a99 (t100 : tT C a99 14) => ?_)
            refine s_run X ok_X12_closeMonth 78 1 (pc' := 195) (vs' := [some (.ref p0), some (.int v7), some (.long x71), none, some (.int x72), none, none, none]) (st' := [.int 1, .ref a99, .long x71]) rfl ?_
            refine s_lald X t100 (dk okd_X12_closeMonth 33 rfl) (fun v101 => ?_)
            refine s_run X ok_X12_closeMonth 79 1 (pc' := 197) (vs' := [some (.ref p0), some (.int v7), some (.long x71), none, some (.int x72), none, none, none]) (st' := [.long (x71 + v101)]) rfl ?_
            refine s_nmJ (fun v102 => ?_)
            refine s_run X ok_X12_closeMonth 80 3 (pc' := 32) (vs' := [some (.ref p0), some (.int v7), some (.long v102), none, some (.int (x72 + 1)), none, none, none]) (st' := []) rfl ?_
            exact h75 v102 (x72 + 1) S98
          · refine s_if_eq (tgt := 162) X (dk okd_X12_closeMonth 21 rfl) (by decide) ?_ ?_
            · exact h90 S84
            · refine s_run X ok_X12_closeMonth 51 6 (pc' := 137) (vs' := [some (.ref p0), some (.int v7), some (.long x71), none, some (.int x72), none, none, none]) (st' := [.int 4, .int x72, .ref p0, .int 6, .int x72, .ref p0]) rfl ?_
              refine s_callV (rest := [.int 6, .int x72, .ref p0]) X E mv_X12_63 (c_X12_of S84 p0 x72 4) (ta1 t0_) rfl (by decide) t0_ rfl rfl (Nat.le_of_ble_eq_true rfl) (Nat.le_of_ble_eq_true rfl) (Nat.le_of_ble_eq_true rfl) (dk okd_X12_closeMonth 22 rfl) (st' := fun v103 => [.long v103, .int 6, .int x72, .ref p0]) (fun _ => rfl) (fun v103 => ?_)
              refine s_run X ok_X12_closeMonth 57 2 (pc' := 142) (vs' := [some (.ref p0), some (.int v7), some (.long x71), none, some (.int x72), none, none, none]) (st' := [.int (lg_cmp v103 0), .int 6, .int x72, .ref p0]) rfl ?_
              refine s_jn (κ := Int64 → Option (Int32 × St)) (fun k105 => ∀ (x104 : Int64), Jd C 8 (QJ C oIS sS) S84 159 [some (.ref p0), some (.int v7), some (.long x71), none, some (.int x72), none, none, none] [.long x104, .int 6, .int x72, .ref p0] (k105 x104)) (fun x104 => ?_) (fun k105 h106 => ?_)
              · refine s_callV (rest := []) X E mv_X12_183 (c_X12_set S84 p0 x72 6 x104) (ta1 t0_) rfl (by decide) t0_ rfl rfl (Nat.le_of_ble_eq_true rfl) (Nat.le_of_ble_eq_true rfl) (Nat.le_of_ble_eq_true rfl) (dk okd_X12_closeMonth 25 rfl) (st' := fun S107 => []) (fun _ => rfl) (fun S107 => ?_)
                exact h90 S107
              · refine s_lif_le (tgt := 158) X (dk okd_X12_closeMonth 23 rfl) (by decide) ?_ ?_
                · refine s_run X ok_X12_closeMonth 65 1 (pc' := 159) (vs' := [some (.ref p0), some (.int v7), some (.long x71), none, some (.int x72), none, none, none]) (st' := [.long 0, .int 6, .int x72, .ref p0]) rfl ?_
                  exact h106 0
                · refine s_run X ok_X12_closeMonth 59 3 (pc' := 150) (vs' := [some (.ref p0), some (.int v7), some (.long x71), none, some (.int x72), none, none, none]) (st' := [.int 6, .int x72, .ref p0, .int 6, .int x72, .ref p0]) rfl ?_
                  refine s_callV (rest := [.int 6, .int x72, .ref p0]) X E mv_X12_63 (c_X12_of S84 p0 x72 6) (ta1 t0_) rfl (by decide) t0_ rfl rfl (Nat.le_of_ble_eq_true rfl) (Nat.le_of_ble_eq_true rfl) (Nat.le_of_ble_eq_true rfl) (dk okd_X12_closeMonth 24 rfl) (st' := fun v108 => [.long v108, .int 6, .int x72, .ref p0]) (fun _ => rfl) (fun v108 => ?_)
                  refine s_run X ok_X12_closeMonth 62 3 (pc' := 159) (vs' := [some (.ref p0), some (.int v7), some (.long x71), none, some (.int x72), none, none, none]) (st' := [.long (v108 + 1), .int 6, .int x72, .ref p0]) rfl ?_
                  exact h106 (v108 + 1)
        · refine s_less [true, true, true, false, true, false, false, true] (vs' := [some (.ref p0), some (.int v7), some (.long x71), none, some (.int x72), none, none, some (.int 0)]) rfl ?_
          refine s_lp (κ := Int32 → St → Option (Int32 × St)) (fun k111 => ∀ (x109 : Int32) (S110 : St), Jd C 8 (QJ C oIS sS) S110 84 [some (.ref p0), some (.int v7), some (.long x71), none, some (.int x72), none, none, some (.int x109)] [] (k111 x109 S110)) (fun _ _ => s_none) (fun k111 h112 x109 S110 => ?_) FU 0 S83
          refine s_run X ok_X12_closeMonth 37 2 (pc' := 88) (vs' := [some (.ref p0), some (.int v7), some (.long x71), none, some (.int x72), none, none, some (.int x109)]) (st' := [.int 7, .int x109]) rfl ?_
          refine s_icmp_ge (tgt := 119) X (dk okd_X12_closeMonth 14 rfl) (by decide) ?_ ?_
          · exact s_less [true, true, true, false, true, false, false, false] rfl (h86 S110)
          · refine s_run X ok_X12_closeMonth 39 1 (pc' := 92) (vs' := [some (.ref p0), some (.int v7), some (.long x71), none, some (.int x72), none, none, some (.int x109)]) (st' := [.ref p0]) rfl ?_
            refine s_getR X fl_X12_9 t0_ (dk okd_X12_closeMonth 15 rfl) (fun a113 (t114 : tT C a113 14) => ?_)
            refine s_run X ok_X12_closeMonth 40 3 (pc' := 99) (vs' := [some (.ref p0), some (.int v7), some (.long x71), none, some (.int x72), none, none, some (.int x109)]) (st' := [.int v7, .int x72, .ref p0, .ref a113]) rfl ?_
            refine s_callV (rest := [.ref a113]) X E mv_X12_231 (c_X12_invoiceRow S110 p0 x72 v7) (ta1 t0_) rfl (by decide) t0_ rfl rfl (Nat.le_of_ble_eq_true rfl) (Nat.le_of_ble_eq_true rfl) (Nat.le_of_ble_eq_true rfl) (dk okd_X12_closeMonth 16 rfl) (st' := fun v115 => [.int v115, .ref a113]) (fun _ => rfl) (fun v115 => ?_)
            refine s_run X ok_X12_closeMonth 43 3 (pc' := 106) (vs' := [some (.ref p0), some (.int v7), some (.long x71), none, some (.int x72), none, none, some (.int x109)]) (st' := [.ref p0, .int (v115 + x109), .ref a113]) rfl ?_
            refine s_getR X fl_X12_23 t0_ (dk okd_X12_closeMonth 17 rfl) (fun a116 (t117 : tT C a116 14) => ?_)
            refine s_run X ok_X12_closeMonth 46 1 (pc' := 111) (vs' := [some (.ref p0), some (.int v7), some (.long x71), none, some (.int x72), none, none, some (.int x109)]) (st' := [.int x109, .ref a116, .int (v115 + x109), .ref a113]) rfl ?_
            refine s_lald X t117 (dk okd_X12_closeMonth 18 rfl) (fun v118 => ?_)
            refine s_last X t114 (dk okd_X12_closeMonth 19 rfl) (fun S119 => ?_)
            refine s_run X ok_X12_closeMonth 47 2 (pc' := 84) (vs' := [some (.ref p0), some (.int v7), some (.long x71), none, some (.int x72), none, none, some (.int (x109 + 1))]) (st' := []) rfl ?_
            exact h112 (x109 + 1) S119
  · refine s_run X ok_X12_closeMonth 5 1 (pc' := 18) (vs' := [some (.ref p0), none, none, none, none, none, none, none]) (st' := [.int 0]) rfl ?_
    exact s_iret X hr (dk okd_X12_closeMonth 4 rfl) rfl rfl
def tab_X12_invoice : List En := [(0, 8, 0, 0), (1, 0, 0, 0), (5, 8, 0, 0), (6, 8, 0, 0), (7, 4, 1, 0), (14, 0, 0, 1), (15, 41, 19, 0), (18, 0, 0, 0), (19, 0, 0, 1), (26, 8, 0, 0), (27, 8, 0, 0), (28, 4, 2, 0), (35, 4, 3, 0), (36, 31, 0, 0), (37, 3, 0, 0), (47, 0, 0, 1), (48, 41, 52, 0), (51, 0, 0, 0), (52, 0, 0, 2), (59, 3, 0, 0), (60, 41, 76, 0), (63, 8, 0, 0), (67, 8, 0, 0), (68, 4, 1, 0), (69, 4, 2, 0), (73, 4, 3, 0), (74, 17, 0, 0)]
theorem ok_X12_invoice : tab_X12_invoice.all (okE cX12_invoice) = true := by decide +kernel
def ed_X12_invoice : List (Nat × Instr × Nat) := [(2, .putfield 50, 3), (8, .invokevirtual 85, 3), (11, .ifCond .ne 7, 3), (20, .invokevirtual 81, 3), (23, .ifCond .ne 36, 3), (29, .invokevirtual 207, 3), (32, .ifCond .eq 15, 3), (38, .ldc2_w 240, 3), (41, .invokestatic 53, 3), (44, .ifCond .ne 7, 3), (53, .invokevirtual 81, 3), (56, .ifCond .eq 7, 3), (64, .getfield 9, 3), (70, .invokevirtual 231, 3), (75, .laload, 1), (76, .lreturn, 1)]
theorem okd_X12_invoice : ed_X12_invoice.all (okD cX12_invoice) = true := by decide +kernel
def f_X12_invoice (S : St) (p0 : Nat) (p1 : Int32) (p2 : Int32) (p3 : Int32) : Option (Int64 × St) := lt (uI S p0 2 0) fun (S1 : St) => cl (f_X12_isFranchisee S1 p0 p1) fun (v2 : Int32) => jn (κ := Int32 → Option (Int64 × St)) (fun x3 => cl (f_X12_throwsIf S1 p0 x3 1) fun (o6 : Int32 × St) => jn (κ := St → Option (Int64 × St)) (fun S7 => some (0, S7)) fun k8 => if o6.1 = 0 then (cl (f_X12_isClosed o6.2 p0 p2) fun (v10 : Int32) => jn (κ := Int32 → Option (Int64 × St)) (fun x11 => cl (f_X12_throwsIf o6.2 p0 x11 2) fun (o14 : Int32 × St) => if o14.1 = 0 then (lt (gR o14.2 p0 0) fun (a15 : Nat) => cl (f_X12_invoiceRow o14.2 p0 p1 p2) fun (v17 : Int32) => ldJ o14.2 a15 (v17 + p3) fun (v18 : Int64) => some (v18, o14.2)) else (k8 o14.2)) fun k12 => jn (κ := Option (Int64 × St)) (k12 1) fun k19 => if v10 = 0 then (k19) else (cl (f_X12_inRange o6.2 (Int32.toInt64 p3) 0 6) fun (v21 : Int32) => if v21 = 0 then (k19) else (k12 0))) else (k8 o6.2)) fun k4 => if v2 = 0 then (k4 1) else (k4 0)
set_option maxHeartbeats 4000000 in
set_option maxRecDepth 100000 in
theorem c_X12_invoice (S : St) (p0 : Nat) (p1 : Int32) (p2 : Int32) (p3 : Int32) : Ct yX12_invoice cX12_invoice 4 (some .long) 2 46 [.ref p0, .int p1, .int p2, .int p3] [(p0, 11)] S (f_X12_invoice S p0 p1 p2 p3) oLS sL := by
  refine Ct_of RX12 rfl (by decide) (Nat.le_of_ble_eq_true rfl) 0 (vs := [some (.ref p0), some (.int p1), some (.int p2), some (.int p3)]) rfl (fun C X E hr ht => ?_)
  have t0_ : tT C p0 11 := ht (p0, 11) (by simp)
  unfold f_X12_invoice
  refine s_run X ok_X12_invoice 0 2 (pc' := 2) (vs' := [some (.ref p0), some (.int p1), some (.int p2), some (.int p3)]) (st' := [.int 0, .ref p0]) rfl ?_
  refine s_putI X fp_X12_50 t0_ (dk okd_X12_invoice 0 rfl) (fun S1 => ?_)
  refine s_run X ok_X12_invoice 2 3 (pc' := 8) (vs' := [some (.ref p0), some (.int p1), some (.int p2), some (.int p3)]) (st' := [.int p1, .ref p0, .ref p0]) rfl ?_
  refine s_callV (rest := [.ref p0]) X E mv_X12_85 (c_X12_isFranchisee S1 p0 p1) (ta1 t0_) rfl (by decide) t0_ rfl rfl (Nat.le_of_ble_eq_true rfl) (Nat.le_of_ble_eq_true rfl) (Nat.le_of_ble_eq_true rfl) (dk okd_X12_invoice 1 rfl) (st' := fun v2 => [.int v2, .ref p0]) (fun _ => rfl) (fun v2 => ?_)
  refine s_jn (κ := Int32 → Option (Int64 × St)) (fun k4 => ∀ (x3 : Int32), Jd C 4 (QJ C oLS sL) S1 19 [some (.ref p0), some (.int p1), some (.int p2), some (.int p3)] [.int x3, .ref p0] (k4 x3)) (fun x3 => ?_) (fun k4 h5 => ?_)
  · refine s_run X ok_X12_invoice 8 1 (pc' := 20) (vs' := [some (.ref p0), some (.int p1), some (.int p2), some (.int p3)]) (st' := [.int 1, .int x3, .ref p0]) rfl ?_
    refine s_callV (rest := []) X E mv_X12_81 (c_X12_throwsIf S1 p0 x3 1) (ta1 t0_) rfl (by decide) t0_ rfl rfl (Nat.le_of_ble_eq_true rfl) (Nat.le_of_ble_eq_true rfl) (Nat.le_of_ble_eq_true rfl) (dk okd_X12_invoice 3 rfl) (st' := fun o6 => [.int o6.1]) (fun _ => rfl) (fun o6 => ?_)
    refine s_jn (κ := St → Option (Int64 × St)) (fun k8 => ∀ (S7 : St), Jd C 4 (QJ C oLS sL) S7 59 [none, none, none, none] [] (k8 S7)) (fun S7 => ?_) (fun k8 h9 => ?_)
    · refine s_run X ok_X12_invoice 19 2 (pc' := 76) (vs' := [none, none, none, none]) (st' := [.long 0]) rfl ?_
      exact s_lret X hr (dk okd_X12_invoice 15 rfl) rfl rfl
    · refine s_if_ne (tgt := 59) X (dk okd_X12_invoice 4 rfl) (by decide) ?_ ?_
      · exact s_less [false, false, false, false] rfl (h9 o6.2)
      · refine s_run X ok_X12_invoice 9 3 (pc' := 29) (vs' := [some (.ref p0), some (.int p1), some (.int p2), some (.int p3)]) (st' := [.int p2, .ref p0, .ref p0]) rfl ?_
        refine s_callV (rest := [.ref p0]) X E mv_X12_207 (c_X12_isClosed o6.2 p0 p2) (ta1 t0_) rfl (by decide) t0_ rfl rfl (Nat.le_of_ble_eq_true rfl) (Nat.le_of_ble_eq_true rfl) (Nat.le_of_ble_eq_true rfl) (dk okd_X12_invoice 5 rfl) (st' := fun v10 => [.int v10, .ref p0]) (fun _ => rfl) (fun v10 => ?_)
        refine s_jn (κ := Int32 → Option (Int64 × St)) (fun k12 => ∀ (x11 : Int32), Jd C 4 (QJ C oLS sL) o6.2 52 [some (.ref p0), some (.int p1), some (.int p2), some (.int p3)] [.int x11, .ref p0] (k12 x11)) (fun x11 => ?_) (fun k12 h13 => ?_)
        · refine s_run X ok_X12_invoice 18 1 (pc' := 53) (vs' := [some (.ref p0), some (.int p1), some (.int p2), some (.int p3)]) (st' := [.int 2, .int x11, .ref p0]) rfl ?_
          refine s_callV (rest := []) X E mv_X12_81 (c_X12_throwsIf o6.2 p0 x11 2) (ta1 t0_) rfl (by decide) t0_ rfl rfl (Nat.le_of_ble_eq_true rfl) (Nat.le_of_ble_eq_true rfl) (Nat.le_of_ble_eq_true rfl) (dk okd_X12_invoice 10 rfl) (st' := fun o14 => [.int o14.1]) (fun _ => rfl) (fun o14 => ?_)
          refine s_if_eq (tgt := 63) X (dk okd_X12_invoice 11 rfl) (by decide) ?_ ?_
          · refine s_run X ok_X12_invoice 21 1 (pc' := 64) (vs' := [some (.ref p0), some (.int p1), some (.int p2), some (.int p3)]) (st' := [.ref p0]) rfl ?_
            refine s_getR X fl_X12_9 t0_ (dk okd_X12_invoice 12 rfl) (fun a15 (t16 : tT C a15 14) => ?_)
            refine s_run X ok_X12_invoice 22 3 (pc' := 70) (vs' := [some (.ref p0), some (.int p1), some (.int p2), some (.int p3)]) (st' := [.int p2, .int p1, .ref p0, .ref a15]) rfl ?_
            refine s_callV (rest := [.ref a15]) X E mv_X12_231 (c_X12_invoiceRow o14.2 p0 p1 p2) (ta1 t0_) rfl (by decide) t0_ rfl rfl (Nat.le_of_ble_eq_true rfl) (Nat.le_of_ble_eq_true rfl) (Nat.le_of_ble_eq_true rfl) (dk okd_X12_invoice 13 rfl) (st' := fun v17 => [.int v17, .ref a15]) (fun _ => rfl) (fun v17 => ?_)
            refine s_run X ok_X12_invoice 25 2 (pc' := 75) (vs' := [some (.ref p0), some (.int p1), some (.int p2), some (.int p3)]) (st' := [.int (v17 + p3), .ref a15]) rfl ?_
            refine s_lald X t16 (dk okd_X12_invoice 14 rfl) (fun v18 => ?_)
            exact s_lret X hr (dk okd_X12_invoice 15 rfl) rfl rfl
          · exact s_less [false, false, false, false] rfl (h9 o14.2)
        · refine s_jn (κ := Option (Int64 × St)) (fun k19 => Jd C 4 (QJ C oLS sL) o6.2 47 [some (.ref p0), some (.int p1), some (.int p2), some (.int p3)] [.ref p0] k19) ?_ (fun k19 h20 => ?_)
          · refine s_run X ok_X12_invoice 15 2 (pc' := 52) (vs' := [some (.ref p0), some (.int p1), some (.int p2), some (.int p3)]) (st' := [.int 1, .ref p0]) rfl ?_
            exact h13 1
          · refine s_if_eq (tgt := 47) X (dk okd_X12_invoice 6 rfl) (by decide) ?_ ?_
            · exact h20
            · refine s_run X ok_X12_invoice 12 3 (pc' := 38) (vs' := [some (.ref p0), some (.int p1), some (.int p2), some (.int p3)]) (st' := [.long 0, .long (Int32.toInt64 p3), .ref p0]) rfl ?_
              refine s_ldc2 X cl_X12_240 (dk okd_X12_invoice 7 rfl) ?_
              refine s_callS (rest := [.ref p0]) X E ms_X12_53 (c_X12_inRange o6.2 (Int32.toInt64 p3) 0 6) (ta0) rfl rfl (Nat.le_of_ble_eq_true rfl) (Nat.le_of_ble_eq_true rfl) (Nat.le_of_ble_eq_true rfl) (dk okd_X12_invoice 8 rfl) (st' := fun v21 => [.int v21, .ref p0]) (fun _ => rfl) (fun v21 => ?_)
              refine s_if_ne (tgt := 51) X (dk okd_X12_invoice 9 rfl) (by decide) ?_ ?_
              · refine s_run X ok_X12_invoice 17 1 (pc' := 52) (vs' := [some (.ref p0), some (.int p1), some (.int p2), some (.int p3)]) (st' := [.int 0, .ref p0]) rfl ?_
                exact h13 0
              · exact h20
  · refine s_if_ne (tgt := 18) X (dk okd_X12_invoice 2 rfl) (by decide) ?_ ?_
    · refine s_run X ok_X12_invoice 7 1 (pc' := 19) (vs' := [some (.ref p0), some (.int p1), some (.int p2), some (.int p3)]) (st' := [.int 0, .ref p0]) rfl ?_
      exact h5 0
    · refine s_run X ok_X12_invoice 5 2 (pc' := 19) (vs' := [some (.ref p0), some (.int p1), some (.int p2), some (.int p3)]) (st' := [.int 1, .ref p0]) rfl ?_
      exact h5 1
def tab_X12_predictDue : List En := [(0, 8, 0, 0), (1, 0, 0, 0), (5, 8, 0, 0), (6, 8, 0, 0), (7, 4, 1, 0), (14, 0, 0, 1), (15, 41, 19, 0), (18, 0, 0, 0), (19, 0, 0, 1), (26, 8, 0, 0), (27, 4, 2, 0), (28, 31, 0, 0), (29, 3, 0, 0), (39, 0, 0, 1), (40, 41, 44, 0), (43, 0, 0, 0), (44, 0, 0, 2), (51, 3, 0, 0), (53, 8, 0, 0), (54, 4, 1, 0), (55, 8, 0, 0), (56, 4, 1, 0), (57, 4, 2, 0), (64, 8, 0, 0), (68, 0, 0, 5)]
theorem ok_X12_predictDue : tab_X12_predictDue.all (okE cX12_predictDue) = true := by decide +kernel
def ed_X12_predictDue : List (Nat × Instr × Nat) := [(2, .putfield 50, 3), (8, .invokevirtual 85, 3), (11, .ifCond .ne 7, 3), (20, .invokevirtual 81, 3), (23, .ifCond .ne 28, 3), (30, .ldc2_w 242, 3), (33, .invokestatic 53, 3), (36, .ifCond .ne 7, 3), (45, .invokevirtual 81, 3), (48, .ifCond .eq 5, 3), (52, .lreturn, 1), (58, .invokevirtual 191, 3), (61, .invokevirtual 227, 3), (65, .getfield 23, 3), (69, .laload, 1), (70, .lreturn, 1)]
theorem okd_X12_predictDue : ed_X12_predictDue.all (okD cX12_predictDue) = true := by decide +kernel
def f_X12_predictDue (S : St) (p0 : Nat) (p1 : Int32) (p2 : Int32) : Option (Int64 × St) := lt (uI S p0 2 0) fun (S1 : St) => cl (f_X12_isFranchisee S1 p0 p1) fun (v2 : Int32) => jn (κ := Int32 → Option (Int64 × St)) (fun x3 => cl (f_X12_throwsIf S1 p0 x3 1) fun (o6 : Int32 × St) => if o6.1 = 0 then (cl (f_X12_inRange o6.2 (Int32.toInt64 p2) 0 300) fun (v7 : Int32) => jn (κ := Int32 → Option (Int64 × St)) (fun x8 => cl (f_X12_throwsIf o6.2 p0 x8 2) fun (o11 : Int32 × St) => if o11.1 = 0 then (cl (f_X12_salesNow o11.2 p0 p1 p2) fun (v12 : Int64) => cl (f_X12_calculate o11.2 p0 p1 v12) fun (S13 : St) => lt (gR S13 p0 5) fun (a14 : Nat) => ldJ S13 a14 5 fun (v16 : Int64) => some (v16, S13)) else (some (0, o11.2))) fun k9 => if v7 = 0 then (k9 1) else (k9 0)) else (some (0, o6.2))) fun k4 => if v2 = 0 then (k4 1) else (k4 0)
set_option maxHeartbeats 4000000 in
set_option maxRecDepth 100000 in
theorem c_X12_predictDue (S : St) (p0 : Nat) (p1 : Int32) (p2 : Int32) : Ct yX12_predictDue cX12_predictDue 3 (some .long) 4 92 [.ref p0, .int p1, .int p2] [(p0, 11)] S (f_X12_predictDue S p0 p1 p2) oLS sL := by
  refine Ct_of RX12 rfl (by decide) (Nat.le_of_ble_eq_true rfl) 0 (vs := [some (.ref p0), some (.int p1), some (.int p2)]) rfl (fun C X E hr ht => ?_)
  have t0_ : tT C p0 11 := ht (p0, 11) (by simp)
  unfold f_X12_predictDue
  refine s_run X ok_X12_predictDue 0 2 (pc' := 2) (vs' := [some (.ref p0), some (.int p1), some (.int p2)]) (st' := [.int 0, .ref p0]) rfl ?_
  refine s_putI X fp_X12_50 t0_ (dk okd_X12_predictDue 0 rfl) (fun S1 => ?_)
  refine s_run X ok_X12_predictDue 2 3 (pc' := 8) (vs' := [some (.ref p0), some (.int p1), some (.int p2)]) (st' := [.int p1, .ref p0, .ref p0]) rfl ?_
  refine s_callV (rest := [.ref p0]) X E mv_X12_85 (c_X12_isFranchisee S1 p0 p1) (ta1 t0_) rfl (by decide) t0_ rfl rfl (Nat.le_of_ble_eq_true rfl) (Nat.le_of_ble_eq_true rfl) (Nat.le_of_ble_eq_true rfl) (dk okd_X12_predictDue 1 rfl) (st' := fun v2 => [.int v2, .ref p0]) (fun _ => rfl) (fun v2 => ?_)
  refine s_jn (κ := Int32 → Option (Int64 × St)) (fun k4 => ∀ (x3 : Int32), Jd C 3 (QJ C oLS sL) S1 19 [some (.ref p0), some (.int p1), some (.int p2)] [.int x3, .ref p0] (k4 x3)) (fun x3 => ?_) (fun k4 h5 => ?_)
  · refine s_run X ok_X12_predictDue 8 1 (pc' := 20) (vs' := [some (.ref p0), some (.int p1), some (.int p2)]) (st' := [.int 1, .int x3, .ref p0]) rfl ?_
    refine s_callV (rest := []) X E mv_X12_81 (c_X12_throwsIf S1 p0 x3 1) (ta1 t0_) rfl (by decide) t0_ rfl rfl (Nat.le_of_ble_eq_true rfl) (Nat.le_of_ble_eq_true rfl) (Nat.le_of_ble_eq_true rfl) (dk okd_X12_predictDue 3 rfl) (st' := fun o6 => [.int o6.1]) (fun _ => rfl) (fun o6 => ?_)
    refine s_if_ne (tgt := 51) X (dk okd_X12_predictDue 4 rfl) (by decide) ?_ ?_
    · refine s_run X ok_X12_predictDue 17 1 (pc' := 52) (vs' := [some (.ref p0), some (.int p1), some (.int p2)]) (st' := [.long 0]) rfl ?_
      exact s_lret X hr (dk okd_X12_predictDue 10 rfl) rfl rfl
    · refine s_run X ok_X12_predictDue 9 4 (pc' := 30) (vs' := [some (.ref p0), some (.int p1), some (.int p2)]) (st' := [.long 0, .long (Int32.toInt64 p2), .ref p0]) rfl ?_
      refine s_ldc2 X cl_X12_242 (dk okd_X12_predictDue 5 rfl) ?_
      refine s_callS (rest := [.ref p0]) X E ms_X12_53 (c_X12_inRange o6.2 (Int32.toInt64 p2) 0 300) (ta0) rfl rfl (Nat.le_of_ble_eq_true rfl) (Nat.le_of_ble_eq_true rfl) (Nat.le_of_ble_eq_true rfl) (dk okd_X12_predictDue 6 rfl) (st' := fun v7 => [.int v7, .ref p0]) (fun _ => rfl) (fun v7 => ?_)
      refine s_jn (κ := Int32 → Option (Int64 × St)) (fun k9 => ∀ (x8 : Int32), Jd C 3 (QJ C oLS sL) o6.2 44 [some (.ref p0), some (.int p1), some (.int p2)] [.int x8, .ref p0] (k9 x8)) (fun x8 => ?_) (fun k9 h10 => ?_)
      · refine s_run X ok_X12_predictDue 16 1 (pc' := 45) (vs' := [some (.ref p0), some (.int p1), some (.int p2)]) (st' := [.int 2, .int x8, .ref p0]) rfl ?_
        refine s_callV (rest := []) X E mv_X12_81 (c_X12_throwsIf o6.2 p0 x8 2) (ta1 t0_) rfl (by decide) t0_ rfl rfl (Nat.le_of_ble_eq_true rfl) (Nat.le_of_ble_eq_true rfl) (Nat.le_of_ble_eq_true rfl) (dk okd_X12_predictDue 8 rfl) (st' := fun o11 => [.int o11.1]) (fun _ => rfl) (fun o11 => ?_)
        refine s_if_eq (tgt := 53) X (dk okd_X12_predictDue 9 rfl) (by decide) ?_ ?_
        · refine s_run X ok_X12_predictDue 18 5 (pc' := 58) (vs' := [some (.ref p0), some (.int p1), some (.int p2)]) (st' := [.int p2, .int p1, .ref p0, .int p1, .ref p0]) rfl ?_
          refine s_callV (rest := [.int p1, .ref p0]) X E mv_X12_191 (c_X12_salesNow o11.2 p0 p1 p2) (ta1 t0_) rfl (by decide) t0_ rfl rfl (Nat.le_of_ble_eq_true rfl) (Nat.le_of_ble_eq_true rfl) (Nat.le_of_ble_eq_true rfl) (dk okd_X12_predictDue 11 rfl) (st' := fun v12 => [.long v12, .int p1, .ref p0]) (fun _ => rfl) (fun v12 => ?_)
          refine s_callV (rest := []) X E mv_X12_227 (c_X12_calculate o11.2 p0 p1 v12) (ta1 t0_) rfl (by decide) t0_ rfl rfl (Nat.le_of_ble_eq_true rfl) (Nat.le_of_ble_eq_true rfl) (Nat.le_of_ble_eq_true rfl) (dk okd_X12_predictDue 12 rfl) (st' := fun S13 => []) (fun _ => rfl) (fun S13 => ?_)
          refine s_run X ok_X12_predictDue 23 1 (pc' := 65) (vs' := [some (.ref p0), some (.int p1), some (.int p2)]) (st' := [.ref p0]) rfl ?_
          refine s_getR X fl_X12_23 t0_ (dk okd_X12_predictDue 13 rfl) (fun a14 (t15 : tT C a14 14) => ?_)
          refine s_run X ok_X12_predictDue 24 1 (pc' := 69) (vs' := [some (.ref p0), some (.int p1), some (.int p2)]) (st' := [.int 5, .ref a14]) rfl ?_
          refine s_lald X t15 (dk okd_X12_predictDue 14 rfl) (fun v16 => ?_)
          exact s_lret X hr (dk okd_X12_predictDue 15 rfl) rfl rfl
        · refine s_run X ok_X12_predictDue 17 1 (pc' := 52) (vs' := [some (.ref p0), some (.int p1), some (.int p2)]) (st' := [.long 0]) rfl ?_
          exact s_lret X hr (dk okd_X12_predictDue 10 rfl) rfl rfl
      · refine s_if_ne (tgt := 43) X (dk okd_X12_predictDue 7 rfl) (by decide) ?_ ?_
        · refine s_run X ok_X12_predictDue 15 1 (pc' := 44) (vs' := [some (.ref p0), some (.int p1), some (.int p2)]) (st' := [.int 0, .ref p0]) rfl ?_
          exact h10 0
        · refine s_run X ok_X12_predictDue 13 2 (pc' := 44) (vs' := [some (.ref p0), some (.int p1), some (.int p2)]) (st' := [.int 1, .ref p0]) rfl ?_
          exact h10 1
  · refine s_if_ne (tgt := 18) X (dk okd_X12_predictDue 2 rfl) (by decide) ?_ ?_
    · refine s_run X ok_X12_predictDue 7 1 (pc' := 19) (vs' := [some (.ref p0), some (.int p1), some (.int p2)]) (st' := [.int 0, .ref p0]) rfl ?_
      exact h5 0
    · refine s_run X ok_X12_predictDue 5 2 (pc' := 19) (vs' := [some (.ref p0), some (.int p1), some (.int p2)]) (st' := [.int 1, .ref p0]) rfl ?_
      exact h5 1
def tab_X12_balance : List En := [(0, 8, 0, 0), (1, 0, 0, 0), (5, 8, 0, 0), (6, 8, 0, 0), (7, 4, 1, 0), (14, 0, 0, 1), (15, 41, 19, 0), (18, 0, 0, 0), (19, 0, 0, 1), (26, 3, 0, 0), (27, 41, 36, 0), (30, 8, 0, 0), (31, 4, 1, 0), (32, 0, 0, 4)]
theorem ok_X12_balance : tab_X12_balance.all (okE cX12_balance) = true := by decide +kernel
def ed_X12_balance : List (Nat × Instr × Nat) := [(2, .putfield 50, 3), (8, .invokevirtual 85, 3), (11, .ifCond .ne 7, 3), (20, .invokevirtual 81, 3), (23, .ifCond .eq 7, 3), (33, .invokevirtual 63, 3), (36, .lreturn, 1)]
theorem okd_X12_balance : ed_X12_balance.all (okD cX12_balance) = true := by decide +kernel
def f_X12_balance (S : St) (p0 : Nat) (p1 : Int32) : Option (Int64 × St) := lt (uI S p0 2 0) fun (S1 : St) => cl (f_X12_isFranchisee S1 p0 p1) fun (v2 : Int32) => jn (κ := Int32 → Option (Int64 × St)) (fun x3 => cl (f_X12_throwsIf S1 p0 x3 1) fun (o6 : Int32 × St) => if o6.1 = 0 then (cl (f_X12_of o6.2 p0 p1 4) fun (v7 : Int64) => some (v7, o6.2)) else (some (0, o6.2))) fun k4 => if v2 = 0 then (k4 1) else (k4 0)
set_option maxHeartbeats 4000000 in
set_option maxRecDepth 100000 in
theorem c_X12_balance (S : St) (p0 : Nat) (p1 : Int32) : Ct yX12_balance cX12_balance 2 (some .long) 2 46 [.ref p0, .int p1] [(p0, 11)] S (f_X12_balance S p0 p1) oLS sL := by
  refine Ct_of RX12 rfl (by decide) (Nat.le_of_ble_eq_true rfl) 0 (vs := [some (.ref p0), some (.int p1)]) rfl (fun C X E hr ht => ?_)
  have t0_ : tT C p0 11 := ht (p0, 11) (by simp)
  unfold f_X12_balance
  refine s_run X ok_X12_balance 0 2 (pc' := 2) (vs' := [some (.ref p0), some (.int p1)]) (st' := [.int 0, .ref p0]) rfl ?_
  refine s_putI X fp_X12_50 t0_ (dk okd_X12_balance 0 rfl) (fun S1 => ?_)
  refine s_run X ok_X12_balance 2 3 (pc' := 8) (vs' := [some (.ref p0), some (.int p1)]) (st' := [.int p1, .ref p0, .ref p0]) rfl ?_
  refine s_callV (rest := [.ref p0]) X E mv_X12_85 (c_X12_isFranchisee S1 p0 p1) (ta1 t0_) rfl (by decide) t0_ rfl rfl (Nat.le_of_ble_eq_true rfl) (Nat.le_of_ble_eq_true rfl) (Nat.le_of_ble_eq_true rfl) (dk okd_X12_balance 1 rfl) (st' := fun v2 => [.int v2, .ref p0]) (fun _ => rfl) (fun v2 => ?_)
  refine s_jn (κ := Int32 → Option (Int64 × St)) (fun k4 => ∀ (x3 : Int32), Jd C 2 (QJ C oLS sL) S1 19 [some (.ref p0), some (.int p1)] [.int x3, .ref p0] (k4 x3)) (fun x3 => ?_) (fun k4 h5 => ?_)
  · refine s_run X ok_X12_balance 8 1 (pc' := 20) (vs' := [some (.ref p0), some (.int p1)]) (st' := [.int 1, .int x3, .ref p0]) rfl ?_
    refine s_callV (rest := []) X E mv_X12_81 (c_X12_throwsIf S1 p0 x3 1) (ta1 t0_) rfl (by decide) t0_ rfl rfl (Nat.le_of_ble_eq_true rfl) (Nat.le_of_ble_eq_true rfl) (Nat.le_of_ble_eq_true rfl) (dk okd_X12_balance 3 rfl) (st' := fun o6 => [.int o6.1]) (fun _ => rfl) (fun o6 => ?_)
    refine s_if_eq (tgt := 30) X (dk okd_X12_balance 4 rfl) (by decide) ?_ ?_
    · refine s_run X ok_X12_balance 11 3 (pc' := 33) (vs' := [some (.ref p0), some (.int p1)]) (st' := [.int 4, .int p1, .ref p0]) rfl ?_
      refine s_callV (rest := []) X E mv_X12_63 (c_X12_of o6.2 p0 p1 4) (ta1 t0_) rfl (by decide) t0_ rfl rfl (Nat.le_of_ble_eq_true rfl) (Nat.le_of_ble_eq_true rfl) (Nat.le_of_ble_eq_true rfl) (dk okd_X12_balance 5 rfl) (st' := fun v7 => [.long v7]) (fun _ => rfl) (fun v7 => ?_)
      exact s_lret X hr (dk okd_X12_balance 6 rfl) rfl rfl
    · refine s_run X ok_X12_balance 9 2 (pc' := 36) (vs' := [some (.ref p0), some (.int p1)]) (st' := [.long 0]) rfl ?_
      exact s_lret X hr (dk okd_X12_balance 6 rfl) rfl rfl
  · refine s_if_ne (tgt := 18) X (dk okd_X12_balance 2 rfl) (by decide) ?_ ?_
    · refine s_run X ok_X12_balance 7 1 (pc' := 19) (vs' := [some (.ref p0), some (.int p1)]) (st' := [.int 0, .ref p0]) rfl ?_
      exact h5 0
    · refine s_run X ok_X12_balance 5 2 (pc' := 19) (vs' := [some (.ref p0), some (.int p1)]) (st' := [.int 1, .ref p0]) rfl ?_
      exact h5 1
def tab_X12_totalOwed : List En := [(0, 8, 0, 0), (1, 0, 0, 0), (5, 3, 0, 0), (6, 12, 1, 0), (7, 0, 0, 0), (8, 10, 3, 0), (9, 4, 3, 0), (10, 31, 0, 0), (11, 8, 0, 0), (15, 0, 0, 2), (17, 40, 0, 0), (21, 6, 1, 0), (22, 8, 0, 0), (23, 4, 3, 0), (24, 0, 0, 4), (28, 3, 0, 0), (29, 40, 0, 0), (33, 8, 0, 0), (34, 4, 3, 0), (35, 0, 0, 4), (39, 41, 43, 0), (42, 3, 0, 0), (43, 23, 0, 0), (44, 12, 1, 0), (45, 16, 3, 1), (48, 41, 9, 0), (51, 6, 1, 0)]
theorem ok_X12_totalOwed : tab_X12_totalOwed.all (okE cX12_totalOwed) = true := by decide +kernel
def ed_X12_totalOwed : List (Nat × Instr × Nat) := [(2, .putfield 50, 3), (12, .getfield 9, 3), (16, .laload, 1), (18, .ifCond .ge 33, 3), (25, .invokevirtual 63, 3), (30, .ifCond .le 12, 3), (36, .invokevirtual 63, 3), (52, .lreturn, 1)]
theorem okd_X12_totalOwed : ed_X12_totalOwed.all (okD cX12_totalOwed) = true := by decide +kernel
def f_X12_totalOwed (S : St) (p0 : Nat) : Option (Int64 × St) := lt (uI S p0 2 0) fun (S1 : St) => jn (κ := Int64 → Option (Int64 × St)) (fun x2 => some (x2, S1)) fun k3 => lp (κ := Int64 → Int32 → Option (Int64 × St)) (fun _ _ => none) (fun k7 x5 x6 => lt (gR S1 p0 0) fun (a9 : Nat) => ldJ S1 a9 2 fun (v11 : Int64) => if v11 ≤ (Int32.toInt64 x6) then (k3 x5) else (cl (f_X12_of S1 p0 x6 4) fun (v12 : Int64) => jn (κ := Int64 → Option (Int64 × St)) (fun x13 => lt (x5 + x13) fun (v16 : Int64) => k7 v16 (x6 + 1)) fun k14 => if v12 ≤ 0 then (k14 0) else (cl (f_X12_of S1 p0 x6 4) fun (v17 : Int64) => k14 v17))) FU 0 0
set_option maxHeartbeats 4000000 in
set_option maxRecDepth 100000 in
theorem c_X12_totalOwed (S : St) (p0 : Nat) : Ct yX12_totalOwed cX12_totalOwed 4 (some .long) 1 22 [.ref p0] [(p0, 11)] S (f_X12_totalOwed S p0) oLS sL := by
  refine Ct_of RX12 rfl (by decide) (Nat.le_of_ble_eq_true rfl) 3 (vs := [some (.ref p0), none, none, none]) rfl (fun C X E hr ht => ?_)
  have t0_ : tT C p0 11 := ht (p0, 11) (by simp)
  unfold f_X12_totalOwed
  refine s_run X ok_X12_totalOwed 0 2 (pc' := 2) (vs' := [some (.ref p0), none, none, none]) (st' := [.int 0, .ref p0]) rfl ?_
  refine s_putI X fp_X12_50 t0_ (dk okd_X12_totalOwed 0 rfl) (fun S1 => ?_)
  refine s_run X ok_X12_totalOwed 2 4 (pc' := 9) (vs' := [some (.ref p0), some (.long 0), none, some (.int 0)]) (st' := []) rfl ?_
  refine s_jn (κ := Int64 → Option (Int64 × St)) (fun k3 => ∀ (x2 : Int64), Jd C 4 (QJ C oLS sL) S1 51 [none, some (.long x2), none, none] [] (k3 x2)) (fun x2 => ?_) (fun k3 h4 => ?_)
  · refine s_run X ok_X12_totalOwed 26 1 (pc' := 52) (vs' := [none, some (.long x2), none, none]) (st' := [.long x2]) rfl ?_
    exact s_lret X hr (dk okd_X12_totalOwed 7 rfl) rfl rfl
  · refine s_lp (κ := Int64 → Int32 → Option (Int64 × St)) (fun k7 => ∀ (x5 : Int64) (x6 : Int32), Jd C 4 (QJ C oLS sL) S1 9 [some (.ref p0), some (.long x5), none, some (.int x6)] [] (k7 x5 x6)) (fun _ _ => s_none) (fun k7 h8 x5 x6 => ?_) FU 0 0
    refine s_run X ok_X12_totalOwed 6 3 (pc' := 12) (vs' := [some (.ref p0), some (.long x5), none, some (.int x6)]) (st' := [.ref p0, .long (Int32.toInt64 x6)]) rfl ?_
    refine s_getR X fl_X12_9 t0_ (dk okd_X12_totalOwed 1 rfl) (fun a9 (t10 : tT C a9 14) => ?_)
    refine s_run X ok_X12_totalOwed 9 1 (pc' := 16) (vs' := [some (.ref p0), some (.long x5), none, some (.int x6)]) (st' := [.int 2, .ref a9, .long (Int32.toInt64 x6)]) rfl ?_
    refine s_lald X t10 (dk okd_X12_totalOwed 2 rfl) (fun v11 => ?_)
    refine s_run X ok_X12_totalOwed 10 1 (pc' := 18) (vs' := [some (.ref p0), some (.long x5), none, some (.int x6)]) (st' := [.int (lg_cmp (Int32.toInt64 x6) v11)]) rfl ?_
    refine s_lif_ge (tgt := 51) X (dk okd_X12_totalOwed 3 rfl) (by decide) ?_ ?_
    · exact s_less [false, true, false, false] rfl (h4 x5)
    · refine s_run X ok_X12_totalOwed 11 4 (pc' := 25) (vs' := [some (.ref p0), some (.long x5), none, some (.int x6)]) (st' := [.int 4, .int x6, .ref p0, .long x5]) rfl ?_
      refine s_callV (rest := [.long x5]) X E mv_X12_63 (c_X12_of S1 p0 x6 4) (ta1 t0_) rfl (by decide) t0_ rfl rfl (Nat.le_of_ble_eq_true rfl) (Nat.le_of_ble_eq_true rfl) (Nat.le_of_ble_eq_true rfl) (dk okd_X12_totalOwed 4 rfl) (st' := fun v12 => [.long v12, .long x5]) (fun _ => rfl) (fun v12 => ?_)
      refine s_run X ok_X12_totalOwed 15 2 (pc' := 30) (vs' := [some (.ref p0), some (.long x5), none, some (.int x6)]) (st' := [.int (lg_cmp v12 0), .long x5]) rfl ?_
      refine s_jn (κ := Int64 → Option (Int64 × St)) (fun k14 => ∀ (x13 : Int64), Jd C 4 (QJ C oLS sL) S1 43 [some (.ref p0), none, none, some (.int x6)] [.long x13, .long x5] (k14 x13)) (fun x13 => ?_) (fun k14 h15 => ?_)
      · refine s_run X ok_X12_totalOwed 22 1 (pc' := 44) (vs' := [some (.ref p0), none, none, some (.int x6)]) (st' := [.long (x5 + x13)]) rfl ?_
        refine s_nmJ (fun v16 => ?_)
        refine s_run X ok_X12_totalOwed 23 3 (pc' := 9) (vs' := [some (.ref p0), some (.long v16), none, some (.int (x6 + 1))]) (st' := []) rfl ?_
        exact h8 v16 (x6 + 1)
      · refine s_lif_le (tgt := 42) X (dk okd_X12_totalOwed 5 rfl) (by decide) ?_ ?_
        · refine s_run X ok_X12_totalOwed 21 1 (pc' := 43) (vs' := [some (.ref p0), some (.long x5), none, some (.int x6)]) (st' := [.long 0, .long x5]) rfl ?_
          exact s_less [true, false, false, true] rfl (h15 0)
        · refine s_run X ok_X12_totalOwed 17 3 (pc' := 36) (vs' := [some (.ref p0), some (.long x5), none, some (.int x6)]) (st' := [.int 4, .int x6, .ref p0, .long x5]) rfl ?_
          refine s_callV (rest := [.long x5]) X E mv_X12_63 (c_X12_of S1 p0 x6 4) (ta1 t0_) rfl (by decide) t0_ rfl rfl (Nat.le_of_ble_eq_true rfl) (Nat.le_of_ble_eq_true rfl) (Nat.le_of_ble_eq_true rfl) (dk okd_X12_totalOwed 6 rfl) (st' := fun v17 => [.long v17, .long x5]) (fun _ => rfl) (fun v17 => ?_)
          refine s_run X ok_X12_totalOwed 20 1 (pc' := 43) (vs' := [some (.ref p0), some (.long x5), none, some (.int x6)]) (st' := [.long v17, .long x5]) rfl ?_
          exact s_less [true, false, false, true] rfl (h15 v17)
def tab_X12_pay : List En := [(0, 8, 0, 0), (1, 0, 0, 0), (5, 8, 0, 0), (6, 8, 0, 0), (7, 4, 1, 0), (14, 0, 0, 1), (15, 41, 19, 0), (18, 0, 0, 0), (19, 0, 0, 1), (26, 8, 0, 0), (27, 6, 2, 0), (28, 3, 1, 0), (38, 0, 0, 1), (39, 41, 43, 0), (42, 0, 0, 0), (43, 0, 0, 2), (50, 3, 0, 0), (52, 8, 0, 0), (53, 4, 1, 0), (54, 0, 0, 4), (55, 6, 2, 0), (56, 28, 0, 0), (60, 8, 0, 0), (61, 4, 1, 0), (62, 0, 0, 4)]
theorem ok_X12_pay : tab_X12_pay.all (okE cX12_pay) = true := by decide +kernel
def ed_X12_pay : List (Nat × Instr × Nat) := [(2, .putfield 50, 3), (8, .invokevirtual 85, 3), (11, .ifCond .ne 7, 3), (20, .invokevirtual 81, 3), (23, .ifCond .ne 27, 3), (29, .ldc2_w 174, 3), (32, .invokestatic 53, 3), (35, .ifCond .ne 7, 3), (44, .invokevirtual 81, 3), (47, .ifCond .eq 5, 3), (51, .lreturn, 1), (57, .invokevirtual 224, 3), (63, .invokevirtual 63, 3), (66, .lreturn, 1)]
theorem okd_X12_pay : ed_X12_pay.all (okD cX12_pay) = true := by decide +kernel
def f_X12_pay (S : St) (p0 : Nat) (p1 : Int32) (p2 : Int64) : Option (Int64 × St) := lt (uI S p0 2 0) fun (S1 : St) => cl (f_X12_isFranchisee S1 p0 p1) fun (v2 : Int32) => jn (κ := Int32 → Option (Int64 × St)) (fun x3 => cl (f_X12_throwsIf S1 p0 x3 1) fun (o6 : Int32 × St) => if o6.1 = 0 then (cl (f_X12_inRange o6.2 p2 1 1000000000) fun (v7 : Int32) => jn (κ := Int32 → Option (Int64 × St)) (fun x8 => cl (f_X12_throwsIf o6.2 p0 x8 2) fun (o11 : Int32 × St) => if o11.1 = 0 then (cl (f_X12_add o11.2 p0 p1 4 (-p2)) fun (S12 : St) => cl (f_X12_of S12 p0 p1 4) fun (v13 : Int64) => some (v13, S12)) else (some (0, o11.2))) fun k9 => if v7 = 0 then (k9 1) else (k9 0)) else (some (0, o6.2))) fun k4 => if v2 = 0 then (k4 1) else (k4 0)
set_option maxHeartbeats 4000000 in
set_option maxRecDepth 100000 in
theorem c_X12_pay (S : St) (p0 : Nat) (p1 : Int32) (p2 : Int64) : Ct yX12_pay cX12_pay 4 (some .long) 2 46 [.ref p0, .int p1, .long p2] [(p0, 11)] S (f_X12_pay S p0 p1 p2) oLS sL := by
  refine Ct_of RX12 rfl (by decide) (Nat.le_of_ble_eq_true rfl) 0 (vs := [some (.ref p0), some (.int p1), some (.long p2), none]) rfl (fun C X E hr ht => ?_)
  have t0_ : tT C p0 11 := ht (p0, 11) (by simp)
  unfold f_X12_pay
  refine s_run X ok_X12_pay 0 2 (pc' := 2) (vs' := [some (.ref p0), some (.int p1), some (.long p2), none]) (st' := [.int 0, .ref p0]) rfl ?_
  refine s_putI X fp_X12_50 t0_ (dk okd_X12_pay 0 rfl) (fun S1 => ?_)
  refine s_run X ok_X12_pay 2 3 (pc' := 8) (vs' := [some (.ref p0), some (.int p1), some (.long p2), none]) (st' := [.int p1, .ref p0, .ref p0]) rfl ?_
  refine s_callV (rest := [.ref p0]) X E mv_X12_85 (c_X12_isFranchisee S1 p0 p1) (ta1 t0_) rfl (by decide) t0_ rfl rfl (Nat.le_of_ble_eq_true rfl) (Nat.le_of_ble_eq_true rfl) (Nat.le_of_ble_eq_true rfl) (dk okd_X12_pay 1 rfl) (st' := fun v2 => [.int v2, .ref p0]) (fun _ => rfl) (fun v2 => ?_)
  refine s_jn (κ := Int32 → Option (Int64 × St)) (fun k4 => ∀ (x3 : Int32), Jd C 4 (QJ C oLS sL) S1 19 [some (.ref p0), some (.int p1), some (.long p2), none] [.int x3, .ref p0] (k4 x3)) (fun x3 => ?_) (fun k4 h5 => ?_)
  · refine s_run X ok_X12_pay 8 1 (pc' := 20) (vs' := [some (.ref p0), some (.int p1), some (.long p2), none]) (st' := [.int 1, .int x3, .ref p0]) rfl ?_
    refine s_callV (rest := []) X E mv_X12_81 (c_X12_throwsIf S1 p0 x3 1) (ta1 t0_) rfl (by decide) t0_ rfl rfl (Nat.le_of_ble_eq_true rfl) (Nat.le_of_ble_eq_true rfl) (Nat.le_of_ble_eq_true rfl) (dk okd_X12_pay 3 rfl) (st' := fun o6 => [.int o6.1]) (fun _ => rfl) (fun o6 => ?_)
    refine s_if_ne (tgt := 50) X (dk okd_X12_pay 4 rfl) (by decide) ?_ ?_
    · refine s_run X ok_X12_pay 16 1 (pc' := 51) (vs' := [some (.ref p0), some (.int p1), some (.long p2), none]) (st' := [.long 0]) rfl ?_
      exact s_lret X hr (dk okd_X12_pay 10 rfl) rfl rfl
    · refine s_run X ok_X12_pay 9 3 (pc' := 29) (vs' := [some (.ref p0), some (.int p1), some (.long p2), none]) (st' := [.long 1, .long p2, .ref p0]) rfl ?_
      refine s_ldc2 X cl_X12_174 (dk okd_X12_pay 5 rfl) ?_
      refine s_callS (rest := [.ref p0]) X E ms_X12_53 (c_X12_inRange o6.2 p2 1 1000000000) (ta0) rfl rfl (Nat.le_of_ble_eq_true rfl) (Nat.le_of_ble_eq_true rfl) (Nat.le_of_ble_eq_true rfl) (dk okd_X12_pay 6 rfl) (st' := fun v7 => [.int v7, .ref p0]) (fun _ => rfl) (fun v7 => ?_)
      refine s_jn (κ := Int32 → Option (Int64 × St)) (fun k9 => ∀ (x8 : Int32), Jd C 4 (QJ C oLS sL) o6.2 43 [some (.ref p0), some (.int p1), some (.long p2), none] [.int x8, .ref p0] (k9 x8)) (fun x8 => ?_) (fun k9 h10 => ?_)
      · refine s_run X ok_X12_pay 15 1 (pc' := 44) (vs' := [some (.ref p0), some (.int p1), some (.long p2), none]) (st' := [.int 2, .int x8, .ref p0]) rfl ?_
        refine s_callV (rest := []) X E mv_X12_81 (c_X12_throwsIf o6.2 p0 x8 2) (ta1 t0_) rfl (by decide) t0_ rfl rfl (Nat.le_of_ble_eq_true rfl) (Nat.le_of_ble_eq_true rfl) (Nat.le_of_ble_eq_true rfl) (dk okd_X12_pay 8 rfl) (st' := fun o11 => [.int o11.1]) (fun _ => rfl) (fun o11 => ?_)
        refine s_if_eq (tgt := 52) X (dk okd_X12_pay 9 rfl) (by decide) ?_ ?_
        · refine s_run X ok_X12_pay 17 5 (pc' := 57) (vs' := [some (.ref p0), some (.int p1), some (.long p2), none]) (st' := [.long (-p2), .int 4, .int p1, .ref p0]) rfl ?_
          refine s_callV (rest := []) X E mv_X12_224 (c_X12_add o11.2 p0 p1 4 (-p2)) (ta1 t0_) rfl (by decide) t0_ rfl rfl (Nat.le_of_ble_eq_true rfl) (Nat.le_of_ble_eq_true rfl) (Nat.le_of_ble_eq_true rfl) (dk okd_X12_pay 11 rfl) (st' := fun S12 => []) (fun _ => rfl) (fun S12 => ?_)
          refine s_run X ok_X12_pay 22 3 (pc' := 63) (vs' := [some (.ref p0), some (.int p1), some (.long p2), none]) (st' := [.int 4, .int p1, .ref p0]) rfl ?_
          refine s_callV (rest := []) X E mv_X12_63 (c_X12_of S12 p0 p1 4) (ta1 t0_) rfl (by decide) t0_ rfl rfl (Nat.le_of_ble_eq_true rfl) (Nat.le_of_ble_eq_true rfl) (Nat.le_of_ble_eq_true rfl) (dk okd_X12_pay 12 rfl) (st' := fun v13 => [.long v13]) (fun _ => rfl) (fun v13 => ?_)
          exact s_lret X hr (dk okd_X12_pay 13 rfl) rfl rfl
        · refine s_run X ok_X12_pay 16 1 (pc' := 51) (vs' := [some (.ref p0), some (.int p1), some (.long p2), none]) (st' := [.long 0]) rfl ?_
          exact s_lret X hr (dk okd_X12_pay 10 rfl) rfl rfl
      · refine s_if_ne (tgt := 42) X (dk okd_X12_pay 7 rfl) (by decide) ?_ ?_
        · refine s_run X ok_X12_pay 14 1 (pc' := 43) (vs' := [some (.ref p0), some (.int p1), some (.long p2), none]) (st' := [.int 0, .ref p0]) rfl ?_
          exact h10 0
        · refine s_run X ok_X12_pay 12 2 (pc' := 43) (vs' := [some (.ref p0), some (.int p1), some (.long p2), none]) (st' := [.int 1, .ref p0]) rfl ?_
          exact h10 1
  · refine s_if_ne (tgt := 18) X (dk okd_X12_pay 2 rfl) (by decide) ?_ ?_
    · refine s_run X ok_X12_pay 7 1 (pc' := 19) (vs' := [some (.ref p0), some (.int p1), some (.long p2), none]) (st' := [.int 0, .ref p0]) rfl ?_
      exact h5 0
    · refine s_run X ok_X12_pay 5 2 (pc' := 19) (vs' := [some (.ref p0), some (.int p1), some (.long p2), none]) (st' := [.int 1, .ref p0]) rfl ?_
      exact h5 1
def tab_X12_payOff : List En := [(0, 8, 0, 0), (1, 0, 0, 0), (5, 8, 0, 0), (6, 8, 0, 0), (7, 4, 1, 0), (14, 0, 0, 1), (15, 41, 19, 0), (18, 0, 0, 0), (19, 0, 0, 1), (26, 8, 0, 0), (27, 6, 2, 0), (28, 3, 1, 0), (38, 0, 0, 1), (39, 41, 43, 0), (42, 0, 0, 0), (43, 0, 0, 2), (50, 0, 0, 0), (52, 8, 0, 0), (53, 4, 1, 0), (54, 0, 0, 4), (58, 13, 4, 0), (60, 0, 0, 0), (61, 11, 6, 0), (63, 7, 4, 0), (65, 3, 0, 0), (66, 40, 0, 0), (70, 5, 6, 0), (72, 1, 0, 120), (77, 7, 4, 0), (79, 7, 4, 0), (81, 8, 0, 0), (85, 1, 0, 6), (91, 6, 2, 0), (92, 24, 0, 0), (93, 23, 0, 0), (94, 13, 4, 0), (96, 16, 6, 1), (99, 41, 63, 0), (102, 7, 4, 0), (104, 3, 0, 0), (105, 40, 0, 0), (109, 0, 0, (-1)), (110, 41, 115, 0), (113, 5, 6, 0)]
theorem ok_X12_payOff : tab_X12_payOff.all (okE cX12_payOff) = true := by decide +kernel
def ed_X12_payOff : List (Nat × Instr × Nat) := [(2, .putfield 50, 3), (8, .invokevirtual 85, 3), (11, .ifCond .ne 7, 3), (20, .invokevirtual 81, 3), (23, .ifCond .ne 27, 3), (29, .ldc2_w 174, 3), (32, .invokestatic 53, 3), (35, .ifCond .ne 7, 3), (44, .invokevirtual 81, 3), (47, .ifCond .eq 5, 3), (51, .ireturn, 1), (55, .invokevirtual 63, 3), (67, .ifCond .le 35, 3), (74, .if_icmp .ge 28, 3), (82, .getfield 9, 3), (87, .laload, 1), (88, .invokestatic 187, 3), (106, .ifCond .le 7, 3), (115, .ireturn, 1)]
theorem okd_X12_payOff : ed_X12_payOff.all (okD cX12_payOff) = true := by decide +kernel
def f_X12_payOff (S : St) (p0 : Nat) (p1 : Int32) (p2 : Int64) : Option (Int32 × St) := lt (uI S p0 2 0) fun (S1 : St) => cl (f_X12_isFranchisee S1 p0 p1) fun (v2 : Int32) => jn (κ := Int32 → Option (Int32 × St)) (fun x3 => cl (f_X12_throwsIf S1 p0 x3 1) fun (o6 : Int32 × St) => if o6.1 = 0 then (cl (f_X12_inRange o6.2 p2 1 1000000000) fun (v7 : Int32) => jn (κ := Int32 → Option (Int32 × St)) (fun x8 => cl (f_X12_throwsIf o6.2 p0 x8 2) fun (o11 : Int32 × St) => if o11.1 = 0 then (cl (f_X12_of o11.2 p0 p1 4) fun (v12 : Int64) => jn (κ := Int64 → Int32 → Option (Int32 × St)) (fun x13 x14 => if x13 ≤ 0 then (some (x14, o11.2)) else (some ((-1), o11.2))) fun k15 => lp (κ := Int64 → Int32 → Option (Int32 × St)) (fun _ _ => none) (fun k19 x17 x18 => if x17 ≤ 0 then (k15 x17 x18) else (if 120 ≤ x18 then (k15 x17 x18) else (lt (gR o11.2 p0 0) fun (a21 : Nat) => ldJ o11.2 a21 6 fun (v23 : Int64) => cl (f_X12_rated o11.2 x17 v23) fun (v24 : Int64) => lt (x17 + (v24 - p2)) fun (v25 : Int64) => k19 v25 (x18 + 1)))) FU v12 0) else (some (0, o11.2))) fun k9 => if v7 = 0 then (k9 1) else (k9 0)) else (some (0, o6.2))) fun k4 => if v2 = 0 then (k4 1) else (k4 0)
set_option maxHeartbeats 4000000 in
set_option maxRecDepth 100000 in
theorem c_X12_payOff (S : St) (p0 : Nat) (p1 : Int32) (p2 : Int64) : Ct yX12_payOff cX12_payOff 7 (some .int) 2 46 [.ref p0, .int p1, .long p2] [(p0, 11)] S (f_X12_payOff S p0 p1 p2) oIS sS := by
  refine Ct_of RX12 rfl (by decide) (Nat.le_of_ble_eq_true rfl) 3 (vs := [some (.ref p0), some (.int p1), some (.long p2), none, none, none, none]) rfl (fun C X E hr ht => ?_)
  have t0_ : tT C p0 11 := ht (p0, 11) (by simp)
  unfold f_X12_payOff
  refine s_run X ok_X12_payOff 0 2 (pc' := 2) (vs' := [some (.ref p0), some (.int p1), some (.long p2), none, none, none, none]) (st' := [.int 0, .ref p0]) rfl ?_
  refine s_putI X fp_X12_50 t0_ (dk okd_X12_payOff 0 rfl) (fun S1 => ?_)
  refine s_run X ok_X12_payOff 2 3 (pc' := 8) (vs' := [some (.ref p0), some (.int p1), some (.long p2), none, none, none, none]) (st' := [.int p1, .ref p0, .ref p0]) rfl ?_
  refine s_callV (rest := [.ref p0]) X E mv_X12_85 (c_X12_isFranchisee S1 p0 p1) (ta1 t0_) rfl (by decide) t0_ rfl rfl (Nat.le_of_ble_eq_true rfl) (Nat.le_of_ble_eq_true rfl) (Nat.le_of_ble_eq_true rfl) (dk okd_X12_payOff 1 rfl) (st' := fun v2 => [.int v2, .ref p0]) (fun _ => rfl) (fun v2 => ?_)
  refine s_jn (κ := Int32 → Option (Int32 × St)) (fun k4 => ∀ (x3 : Int32), Jd C 7 (QJ C oIS sS) S1 19 [some (.ref p0), some (.int p1), some (.long p2), none, none, none, none] [.int x3, .ref p0] (k4 x3)) (fun x3 => ?_) (fun k4 h5 => ?_)
  · refine s_run X ok_X12_payOff 8 1 (pc' := 20) (vs' := [some (.ref p0), some (.int p1), some (.long p2), none, none, none, none]) (st' := [.int 1, .int x3, .ref p0]) rfl ?_
    refine s_callV (rest := []) X E mv_X12_81 (c_X12_throwsIf S1 p0 x3 1) (ta1 t0_) rfl (by decide) t0_ rfl rfl (Nat.le_of_ble_eq_true rfl) (Nat.le_of_ble_eq_true rfl) (Nat.le_of_ble_eq_true rfl) (dk okd_X12_payOff 3 rfl) (st' := fun o6 => [.int o6.1]) (fun _ => rfl) (fun o6 => ?_)
    refine s_if_ne (tgt := 50) X (dk okd_X12_payOff 4 rfl) (by decide) ?_ ?_
    · refine s_run X ok_X12_payOff 16 1 (pc' := 51) (vs' := [some (.ref p0), some (.int p1), some (.long p2), none, none, none, none]) (st' := [.int 0]) rfl ?_
      exact s_iret X hr (dk okd_X12_payOff 10 rfl) rfl rfl
    · refine s_run X ok_X12_payOff 9 3 (pc' := 29) (vs' := [some (.ref p0), some (.int p1), some (.long p2), none, none, none, none]) (st' := [.long 1, .long p2, .ref p0]) rfl ?_
      refine s_ldc2 X cl_X12_174 (dk okd_X12_payOff 5 rfl) ?_
      refine s_callS (rest := [.ref p0]) X E ms_X12_53 (c_X12_inRange o6.2 p2 1 1000000000) (ta0) rfl rfl (Nat.le_of_ble_eq_true rfl) (Nat.le_of_ble_eq_true rfl) (Nat.le_of_ble_eq_true rfl) (dk okd_X12_payOff 6 rfl) (st' := fun v7 => [.int v7, .ref p0]) (fun _ => rfl) (fun v7 => ?_)
      refine s_jn (κ := Int32 → Option (Int32 × St)) (fun k9 => ∀ (x8 : Int32), Jd C 7 (QJ C oIS sS) o6.2 43 [some (.ref p0), some (.int p1), some (.long p2), none, none, none, none] [.int x8, .ref p0] (k9 x8)) (fun x8 => ?_) (fun k9 h10 => ?_)
      · refine s_run X ok_X12_payOff 15 1 (pc' := 44) (vs' := [some (.ref p0), some (.int p1), some (.long p2), none, none, none, none]) (st' := [.int 2, .int x8, .ref p0]) rfl ?_
        refine s_callV (rest := []) X E mv_X12_81 (c_X12_throwsIf o6.2 p0 x8 2) (ta1 t0_) rfl (by decide) t0_ rfl rfl (Nat.le_of_ble_eq_true rfl) (Nat.le_of_ble_eq_true rfl) (Nat.le_of_ble_eq_true rfl) (dk okd_X12_payOff 8 rfl) (st' := fun o11 => [.int o11.1]) (fun _ => rfl) (fun o11 => ?_)
        refine s_if_eq (tgt := 52) X (dk okd_X12_payOff 9 rfl) (by decide) ?_ ?_
        · refine s_run X ok_X12_payOff 17 3 (pc' := 55) (vs' := [some (.ref p0), some (.int p1), some (.long p2), none, none, none, none]) (st' := [.int 4, .int p1, .ref p0]) rfl ?_
          refine s_callV (rest := []) X E mv_X12_63 (c_X12_of o11.2 p0 p1 4) (ta1 t0_) rfl (by decide) t0_ rfl rfl (Nat.le_of_ble_eq_true rfl) (Nat.le_of_ble_eq_true rfl) (Nat.le_of_ble_eq_true rfl) (dk okd_X12_payOff 11 rfl) (st' := fun v12 => [.long v12]) (fun _ => rfl) (fun v12 => ?_)
          refine s_run X ok_X12_payOff 20 3 (pc' := 63) (vs' := [some (.ref p0), some (.int p1), some (.long p2), none, some (.long v12), none, some (.int 0)]) (st' := []) rfl ?_
          refine s_jn (κ := Int64 → Int32 → Option (Int32 × St)) (fun k15 => ∀ (x13 : Int64) (x14 : Int32), Jd C 7 (QJ C oIS sS) o11.2 102 [none, none, none, none, some (.long x13), none, some (.int x14)] [] (k15 x13 x14)) (fun x13 x14 => ?_) (fun k15 h16 => ?_)
          · refine s_run X ok_X12_payOff 38 3 (pc' := 106) (vs' := [none, none, none, none, some (.long x13), none, some (.int x14)]) (st' := [.int (lg_cmp x13 0)]) rfl ?_
            refine s_lif_le (tgt := 113) X (dk okd_X12_payOff 17 rfl) (by decide) ?_ ?_
            · refine s_run X ok_X12_payOff 43 1 (pc' := 115) (vs' := [none, none, none, none, some (.long x13), none, some (.int x14)]) (st' := [.int x14]) rfl ?_
              exact s_iret X hr (dk okd_X12_payOff 18 rfl) rfl rfl
            · refine s_run X ok_X12_payOff 41 2 (pc' := 115) (vs' := [none, none, none, none, some (.long x13), none, some (.int x14)]) (st' := [.int (-1)]) rfl ?_
              exact s_iret X hr (dk okd_X12_payOff 18 rfl) rfl rfl
          · refine s_less [true, false, true, false, true, false, true] (vs' := [some (.ref p0), none, some (.long p2), none, some (.long v12), none, some (.int 0)]) rfl ?_
            refine s_lp (κ := Int64 → Int32 → Option (Int32 × St)) (fun k19 => ∀ (x17 : Int64) (x18 : Int32), Jd C 7 (QJ C oIS sS) o11.2 63 [some (.ref p0), none, some (.long p2), none, some (.long x17), none, some (.int x18)] [] (k19 x17 x18)) (fun _ _ => s_none) (fun k19 h20 x17 x18 => ?_) FU v12 0
            refine s_run X ok_X12_payOff 23 3 (pc' := 67) (vs' := [some (.ref p0), none, some (.long p2), none, some (.long x17), none, some (.int x18)]) (st' := [.int (lg_cmp x17 0)]) rfl ?_
            refine s_lif_le (tgt := 102) X (dk okd_X12_payOff 12 rfl) (by decide) ?_ ?_
            · exact s_less [false, false, false, false, true, false, true] rfl (h16 x17 x18)
            · refine s_run X ok_X12_payOff 26 2 (pc' := 74) (vs' := [some (.ref p0), none, some (.long p2), none, some (.long x17), none, some (.int x18)]) (st' := [.int 120, .int x18]) rfl ?_
              refine s_icmp_ge (tgt := 102) X (dk okd_X12_payOff 13 rfl) (by decide) ?_ ?_
              · exact s_less [false, false, false, false, true, false, true] rfl (h16 x17 x18)
              · refine s_run X ok_X12_payOff 28 3 (pc' := 82) (vs' := [some (.ref p0), none, some (.long p2), none, some (.long x17), none, some (.int x18)]) (st' := [.ref p0, .long x17, .long x17]) rfl ?_
                refine s_getR X fl_X12_9 t0_ (dk okd_X12_payOff 14 rfl) (fun a21 (t22 : tT C a21 14) => ?_)
                refine s_run X ok_X12_payOff 31 1 (pc' := 87) (vs' := [some (.ref p0), none, some (.long p2), none, some (.long x17), none, some (.int x18)]) (st' := [.int 6, .ref a21, .long x17, .long x17]) rfl ?_
                refine s_lald X t22 (dk okd_X12_payOff 15 rfl) (fun v23 => ?_)
                refine s_callS (rest := [.long x17]) X E ms_X12_187 (c_X12_rated o11.2 x17 v23) (ta0) rfl rfl (Nat.le_of_ble_eq_true rfl) (Nat.le_of_ble_eq_true rfl) (Nat.le_of_ble_eq_true rfl) (dk okd_X12_payOff 16 rfl) (st' := fun v24 => [.long v24, .long x17]) (fun _ => rfl) (fun v24 => ?_)
                refine s_run X ok_X12_payOff 32 3 (pc' := 94) (vs' := [some (.ref p0), none, some (.long p2), none, some (.long x17), none, some (.int x18)]) (st' := [.long (x17 + (v24 - p2))]) rfl ?_
                refine s_nmJ (fun v25 => ?_)
                refine s_run X ok_X12_payOff 35 3 (pc' := 63) (vs' := [some (.ref p0), none, some (.long p2), none, some (.long v25), none, some (.int (x18 + 1))]) (st' := []) rfl ?_
                exact h20 v25 (x18 + 1)
        · refine s_run X ok_X12_payOff 16 1 (pc' := 51) (vs' := [some (.ref p0), some (.int p1), some (.long p2), none, none, none, none]) (st' := [.int 0]) rfl ?_
          exact s_iret X hr (dk okd_X12_payOff 10 rfl) rfl rfl
      · refine s_if_ne (tgt := 42) X (dk okd_X12_payOff 7 rfl) (by decide) ?_ ?_
        · refine s_run X ok_X12_payOff 14 1 (pc' := 43) (vs' := [some (.ref p0), some (.int p1), some (.long p2), none, none, none, none]) (st' := [.int 0, .ref p0]) rfl ?_
          exact h10 0
        · refine s_run X ok_X12_payOff 12 2 (pc' := 43) (vs' := [some (.ref p0), some (.int p1), some (.long p2), none, none, none, none]) (st' := [.int 1, .ref p0]) rfl ?_
          exact h10 1
  · refine s_if_ne (tgt := 18) X (dk okd_X12_payOff 2 rfl) (by decide) ?_ ?_
    · refine s_run X ok_X12_payOff 7 1 (pc' := 19) (vs' := [some (.ref p0), some (.int p1), some (.long p2), none, none, none, none]) (st' := [.int 0, .ref p0]) rfl ?_
      exact h5 0
    · refine s_run X ok_X12_payOff 5 2 (pc' := 19) (vs' := [some (.ref p0), some (.int p1), some (.long p2), none, none, none, none]) (st' := [.int 1, .ref p0]) rfl ?_
      exact h5 1
def tab_X12_monthsOverdue : List En := [(0, 8, 0, 0), (1, 0, 0, 0), (5, 8, 0, 0), (6, 8, 0, 0), (7, 4, 1, 0), (14, 0, 0, 1), (15, 41, 19, 0), (18, 0, 0, 0), (19, 0, 0, 1), (26, 0, 0, 0), (27, 41, 38, 0), (30, 8, 0, 0), (31, 4, 1, 0), (32, 1, 0, 6), (37, 32, 0, 0)]
theorem ok_X12_monthsOverdue : tab_X12_monthsOverdue.all (okE cX12_monthsOverdue) = true := by decide +kernel
def ed_X12_monthsOverdue : List (Nat × Instr × Nat) := [(2, .putfield 50, 3), (8, .invokevirtual 85, 3), (11, .ifCond .ne 7, 3), (20, .invokevirtual 81, 3), (23, .ifCond .eq 7, 3), (34, .invokevirtual 63, 3), (38, .ireturn, 1)]
theorem okd_X12_monthsOverdue : ed_X12_monthsOverdue.all (okD cX12_monthsOverdue) = true := by decide +kernel
def f_X12_monthsOverdue (S : St) (p0 : Nat) (p1 : Int32) : Option (Int32 × St) := lt (uI S p0 2 0) fun (S1 : St) => cl (f_X12_isFranchisee S1 p0 p1) fun (v2 : Int32) => jn (κ := Int32 → Option (Int32 × St)) (fun x3 => cl (f_X12_throwsIf S1 p0 x3 1) fun (o6 : Int32 × St) => if o6.1 = 0 then (cl (f_X12_of o6.2 p0 p1 6) fun (v7 : Int64) => some ((Int64.toInt32 v7), o6.2)) else (some (0, o6.2))) fun k4 => if v2 = 0 then (k4 1) else (k4 0)
set_option maxHeartbeats 4000000 in
set_option maxRecDepth 100000 in
theorem c_X12_monthsOverdue (S : St) (p0 : Nat) (p1 : Int32) : Ct yX12_monthsOverdue cX12_monthsOverdue 2 (some .int) 2 46 [.ref p0, .int p1] [(p0, 11)] S (f_X12_monthsOverdue S p0 p1) oIS sS := by
  refine Ct_of RX12 rfl (by decide) (Nat.le_of_ble_eq_true rfl) 0 (vs := [some (.ref p0), some (.int p1)]) rfl (fun C X E hr ht => ?_)
  have t0_ : tT C p0 11 := ht (p0, 11) (by simp)
  unfold f_X12_monthsOverdue
  refine s_run X ok_X12_monthsOverdue 0 2 (pc' := 2) (vs' := [some (.ref p0), some (.int p1)]) (st' := [.int 0, .ref p0]) rfl ?_
  refine s_putI X fp_X12_50 t0_ (dk okd_X12_monthsOverdue 0 rfl) (fun S1 => ?_)
  refine s_run X ok_X12_monthsOverdue 2 3 (pc' := 8) (vs' := [some (.ref p0), some (.int p1)]) (st' := [.int p1, .ref p0, .ref p0]) rfl ?_
  refine s_callV (rest := [.ref p0]) X E mv_X12_85 (c_X12_isFranchisee S1 p0 p1) (ta1 t0_) rfl (by decide) t0_ rfl rfl (Nat.le_of_ble_eq_true rfl) (Nat.le_of_ble_eq_true rfl) (Nat.le_of_ble_eq_true rfl) (dk okd_X12_monthsOverdue 1 rfl) (st' := fun v2 => [.int v2, .ref p0]) (fun _ => rfl) (fun v2 => ?_)
  refine s_jn (κ := Int32 → Option (Int32 × St)) (fun k4 => ∀ (x3 : Int32), Jd C 2 (QJ C oIS sS) S1 19 [some (.ref p0), some (.int p1)] [.int x3, .ref p0] (k4 x3)) (fun x3 => ?_) (fun k4 h5 => ?_)
  · refine s_run X ok_X12_monthsOverdue 8 1 (pc' := 20) (vs' := [some (.ref p0), some (.int p1)]) (st' := [.int 1, .int x3, .ref p0]) rfl ?_
    refine s_callV (rest := []) X E mv_X12_81 (c_X12_throwsIf S1 p0 x3 1) (ta1 t0_) rfl (by decide) t0_ rfl rfl (Nat.le_of_ble_eq_true rfl) (Nat.le_of_ble_eq_true rfl) (Nat.le_of_ble_eq_true rfl) (dk okd_X12_monthsOverdue 3 rfl) (st' := fun o6 => [.int o6.1]) (fun _ => rfl) (fun o6 => ?_)
    refine s_if_eq (tgt := 30) X (dk okd_X12_monthsOverdue 4 rfl) (by decide) ?_ ?_
    · refine s_run X ok_X12_monthsOverdue 11 3 (pc' := 34) (vs' := [some (.ref p0), some (.int p1)]) (st' := [.int 6, .int p1, .ref p0]) rfl ?_
      refine s_callV (rest := []) X E mv_X12_63 (c_X12_of o6.2 p0 p1 6) (ta1 t0_) rfl (by decide) t0_ rfl rfl (Nat.le_of_ble_eq_true rfl) (Nat.le_of_ble_eq_true rfl) (Nat.le_of_ble_eq_true rfl) (dk okd_X12_monthsOverdue 5 rfl) (st' := fun v7 => [.long v7]) (fun _ => rfl) (fun v7 => ?_)
      refine s_run X ok_X12_monthsOverdue 14 1 (pc' := 38) (vs' := [some (.ref p0), some (.int p1)]) (st' := [.int (Int64.toInt32 v7)]) rfl ?_
      exact s_iret X hr (dk okd_X12_monthsOverdue 6 rfl) rfl rfl
    · refine s_run X ok_X12_monthsOverdue 9 2 (pc' := 38) (vs' := [some (.ref p0), some (.int p1)]) (st' := [.int 0]) rfl ?_
      exact s_iret X hr (dk okd_X12_monthsOverdue 6 rfl) rfl rfl
  · refine s_if_ne (tgt := 18) X (dk okd_X12_monthsOverdue 2 rfl) (by decide) ?_ ?_
    · refine s_run X ok_X12_monthsOverdue 7 1 (pc' := 19) (vs' := [some (.ref p0), some (.int p1)]) (st' := [.int 0, .ref p0]) rfl ?_
      exact h5 0
    · refine s_run X ok_X12_monthsOverdue 5 2 (pc' := 19) (vs' := [some (.ref p0), some (.int p1)]) (st' := [.int 1, .ref p0]) rfl ?_
      exact h5 1
def tab_X12_terminate : List En := [(0, 8, 0, 0), (1, 0, 0, 0), (5, 8, 0, 0), (6, 8, 0, 0), (7, 4, 1, 0), (14, 0, 0, 1), (15, 41, 19, 0), (18, 0, 0, 0), (19, 0, 0, 1), (26, 8, 0, 0), (27, 4, 1, 0), (34, 8, 0, 0), (35, 4, 1, 0), (36, 1, 0, 6), (44, 40, 0, 0), (48, 0, 0, 0), (50, 8, 0, 0), (51, 4, 1, 0), (52, 0, 0, 3), (53, 3, 1, 0), (57, 0, 0, 0), (58, 10, 2, 0), (59, 4, 2, 0), (60, 31, 0, 0), (61, 8, 0, 0), (65, 0, 0, 3), (67, 40, 0, 0), (71, 8, 0, 0), (72, 4, 2, 0), (73, 0, 0, 0), (77, 4, 1, 0), (78, 31, 0, 0), (79, 40, 0, 0), (83, 8, 0, 0), (87, 2, 0, 186), (90, 0, 0, 4), (91, 4, 2, 0), (92, 19, 0, 0), (93, 17, 0, 0), (94, 0, 0, 0), (95, 17, 0, 0), (100, 16, 2, 1), (103, 41, 59, 0), (106, 0, 0, 0), (107, 10, 2, 0), (108, 4, 2, 0), (109, 2, 0, 900), (115, 8, 0, 0), (119, 2, 0, 250), (122, 4, 2, 0), (123, 17, 0, 0), (125, 4, 1, 0), (126, 31, 0, 0), (127, 40, 0, 0), (131, 8, 0, 0), (135, 2, 0, 250), (138, 4, 2, 0), (139, 17, 0, 0), (144, 16, 2, 1), (147, 41, 108, 0), (150, 8, 0, 0), (151, 4, 1, 0), (158, 8, 0, 0), (159, 4, 1, 0), (160, 1, 0, 9), (168, 0, 0, 1)]
theorem ok_X12_terminate : tab_X12_terminate.all (okE cX12_terminate) = true := by decide +kernel
def ed_X12_terminate : List (Nat × Instr × Nat) := [(2, .putfield 50, 3), (8, .invokevirtual 85, 3), (11, .ifCond .ne 7, 3), (20, .invokevirtual 81, 3), (23, .ifCond .ne 25, 3), (28, .invokevirtual 128, 3), (31, .ifCond .eq 17, 3), (38, .invokevirtual 63, 3), (41, .ldc2_w 244, 3), (45, .ifCond .ge 5, 3), (49, .ireturn, 1), (54, .invokevirtual 183, 3), (62, .getfield 9, 3), (66, .laload, 1), (68, .ifCond .ge 38, 3), (74, .invokevirtual 113, 3), (80, .ifCond .ne 20, 3), (84, .getfield 9, 3), (96, .ldc2_w 48, 3), (99, .lastore, 1), (112, .if_icmp .ge 38, 3), (116, .getfield 9, 3), (124, .laload, 1), (128, .ifCond .ne 16, 3), (132, .getfield 9, 3), (140, .ldc2_w 48, 3), (143, .lastore, 1), (152, .invokevirtual 246, 3), (155, .ifCond .eq 13, 3), (162, .ldc2_w 244, 3), (165, .invokevirtual 183, 3), (169, .ireturn, 1)]
theorem okd_X12_terminate : ed_X12_terminate.all (okD cX12_terminate) = true := by decide +kernel
def f_X12_terminate (S : St) (p0 : Nat) (p1 : Int32) : Option (Int32 × St) := lt (uI S p0 2 0) fun (S1 : St) => cl (f_X12_isFranchisee S1 p0 p1) fun (v2 : Int32) => jn (κ := Int32 → Option (Int32 × St)) (fun x3 => cl (f_X12_throwsIf S1 p0 x3 1) fun (o6 : Int32 × St) => if o6.1 = 0 then (cl (f_X12_isActive o6.2 p0 p1) fun (v7 : Int32) => if v7 = 0 then (some (0, o6.2)) else (cl (f_X12_of o6.2 p0 p1 6) fun (v8 : Int64) => if 3 ≤ v8 then (cl (f_X12_set o6.2 p0 p1 3 1) fun (S9 : St) => jn (κ := St → Option (Int32 × St)) (fun S10 => jn (κ := St → Option (Int32 × St)) (fun S13 => cl (f_X12_isOpenTransfer S13 p0 p1) fun (v16 : Int32) => if v16 = 0 then (some (1, S13)) else (cl (f_X12_set S13 p0 p1 9 3) fun (S17 : St) => some (1, S17))) fun k14 => lp (κ := Int32 → St → Option (Int32 × St)) (fun _ _ => none) (fun k20 x18 S19 => if 900 ≤ x18 then (k14 S19) else (lt (gR S19 p0 0) fun (a22 : Nat) => ldJ S19 a22 (250 + x18) fun (v24 : Int64) => jn (κ := St → Option (Int32 × St)) (fun S25 => k20 (x18 + 1) S25) fun k26 => if v24 = (Int32.toInt64 p1) then (lt (gR S19 p0 0) fun (a28 : Nat) => stJ S19 a28 (250 + x18) (-1) fun (S30 : St) => k26 S30) else (k26 S19))) FU 0 S10) fun k11 => lp (κ := Int32 → St → Option (Int32 × St)) (fun _ _ => none) (fun k33 x31 S32 => lt (gR S32 p0 0) fun (a35 : Nat) => ldJ S32 a35 3 fun (v37 : Int64) => if v37 ≤ (Int32.toInt64 x31) then (k11 S32) else (cl (f_X12_ofOutlet S32 p0 x31 0) fun (v38 : Int64) => jn (κ := St → Option (Int32 × St)) (fun S39 => k33 (x31 + 1) S39) fun k40 => if v38 = (Int32.toInt64 p1) then (lt (gR S32 p0 0) fun (a42 : Nat) => stJ S32 a42 ((186 + (4 * x31)) + 0) (-1) fun (S44 : St) => k40 S44) else (k40 S32))) FU 0 S9) else (some (0, o6.2)))) else (some (0, o6.2))) fun k4 => if v2 = 0 then (k4 1) else (k4 0)
set_option maxHeartbeats 4000000 in
set_option maxRecDepth 100000 in
theorem c_X12_terminate (S : St) (p0 : Nat) (p1 : Int32) : Ct yX12_terminate cX12_terminate 3 (some .boolean) 2 46 [.ref p0, .int p1] [(p0, 11)] S (f_X12_terminate S p0 p1) oIS sS := by
  refine Ct_of RX12 rfl (by decide) (Nat.le_of_ble_eq_true rfl) 1 (vs := [some (.ref p0), some (.int p1), none]) rfl (fun C X E hr ht => ?_)
  have t0_ : tT C p0 11 := ht (p0, 11) (by simp)
  unfold f_X12_terminate
  refine s_run X ok_X12_terminate 0 2 (pc' := 2) (vs' := [some (.ref p0), some (.int p1), none]) (st' := [.int 0, .ref p0]) rfl ?_
  refine s_putI X fp_X12_50 t0_ (dk okd_X12_terminate 0 rfl) (fun S1 => ?_)
  refine s_run X ok_X12_terminate 2 3 (pc' := 8) (vs' := [some (.ref p0), some (.int p1), none]) (st' := [.int p1, .ref p0, .ref p0]) rfl ?_
  refine s_callV (rest := [.ref p0]) X E mv_X12_85 (c_X12_isFranchisee S1 p0 p1) (ta1 t0_) rfl (by decide) t0_ rfl rfl (Nat.le_of_ble_eq_true rfl) (Nat.le_of_ble_eq_true rfl) (Nat.le_of_ble_eq_true rfl) (dk okd_X12_terminate 1 rfl) (st' := fun v2 => [.int v2, .ref p0]) (fun _ => rfl) (fun v2 => ?_)
  refine s_jn (κ := Int32 → Option (Int32 × St)) (fun k4 => ∀ (x3 : Int32), Jd C 3 (QJ C oIS sS) S1 19 [some (.ref p0), some (.int p1), none] [.int x3, .ref p0] (k4 x3)) (fun x3 => ?_) (fun k4 h5 => ?_)
  · refine s_run X ok_X12_terminate 8 1 (pc' := 20) (vs' := [some (.ref p0), some (.int p1), none]) (st' := [.int 1, .int x3, .ref p0]) rfl ?_
    refine s_callV (rest := []) X E mv_X12_81 (c_X12_throwsIf S1 p0 x3 1) (ta1 t0_) rfl (by decide) t0_ rfl rfl (Nat.le_of_ble_eq_true rfl) (Nat.le_of_ble_eq_true rfl) (Nat.le_of_ble_eq_true rfl) (dk okd_X12_terminate 3 rfl) (st' := fun o6 => [.int o6.1]) (fun _ => rfl) (fun o6 => ?_)
    refine s_if_ne (tgt := 48) X (dk okd_X12_terminate 4 rfl) (by decide) ?_ ?_
    · refine s_run X ok_X12_terminate 15 1 (pc' := 49) (vs' := [some (.ref p0), some (.int p1), none]) (st' := [.int 0]) rfl ?_
      exact s_zret0 X hr (dk okd_X12_terminate 10 rfl) (by decide) rfl rfl
    · refine s_run X ok_X12_terminate 9 2 (pc' := 28) (vs' := [some (.ref p0), some (.int p1), none]) (st' := [.int p1, .ref p0]) rfl ?_
      refine s_callV (rest := []) X E mv_X12_128 (c_X12_isActive o6.2 p0 p1) (ta1 t0_) rfl (by decide) t0_ rfl rfl (Nat.le_of_ble_eq_true rfl) (Nat.le_of_ble_eq_true rfl) (Nat.le_of_ble_eq_true rfl) (dk okd_X12_terminate 5 rfl) (st' := fun v7 => [.int v7]) (fun _ => rfl) (fun v7 => ?_)
      refine s_if_eq (tgt := 48) X (dk okd_X12_terminate 6 rfl) (by decide) ?_ ?_
      · refine s_run X ok_X12_terminate 15 1 (pc' := 49) (vs' := [some (.ref p0), some (.int p1), none]) (st' := [.int 0]) rfl ?_
        exact s_zret0 X hr (dk okd_X12_terminate 10 rfl) (by decide) rfl rfl
      · refine s_run X ok_X12_terminate 11 3 (pc' := 38) (vs' := [some (.ref p0), some (.int p1), none]) (st' := [.int 6, .int p1, .ref p0]) rfl ?_
        refine s_callV (rest := []) X E mv_X12_63 (c_X12_of o6.2 p0 p1 6) (ta1 t0_) rfl (by decide) t0_ rfl rfl (Nat.le_of_ble_eq_true rfl) (Nat.le_of_ble_eq_true rfl) (Nat.le_of_ble_eq_true rfl) (dk okd_X12_terminate 7 rfl) (st' := fun v8 => [.long v8]) (fun _ => rfl) (fun v8 => ?_)
        refine s_ldc2 X cl_X12_244 (dk okd_X12_terminate 8 rfl) ?_
        refine s_run X ok_X12_terminate 14 1 (pc' := 45) (vs' := [some (.ref p0), some (.int p1), none]) (st' := [.int (lg_cmp v8 3)]) rfl ?_
        refine s_lif_ge (tgt := 50) X (dk okd_X12_terminate 9 rfl) (by decide) ?_ ?_
        · refine s_run X ok_X12_terminate 16 4 (pc' := 54) (vs' := [some (.ref p0), some (.int p1), none]) (st' := [.long 1, .int 3, .int p1, .ref p0]) rfl ?_
          refine s_callV (rest := []) X E mv_X12_183 (c_X12_set o6.2 p0 p1 3 1) (ta1 t0_) rfl (by decide) t0_ rfl rfl (Nat.le_of_ble_eq_true rfl) (Nat.le_of_ble_eq_true rfl) (Nat.le_of_ble_eq_true rfl) (dk okd_X12_terminate 11 rfl) (st' := fun S9 => []) (fun _ => rfl) (fun S9 => ?_)
          refine s_run X ok_X12_terminate 20 2 (pc' := 59) (vs' := [some (.ref p0), some (.int p1), some (.int 0)]) (st' := []) rfl ?_
          refine s_jn (κ := St → Option (Int32 × St)) (fun k11 => ∀ (S10 : St), Jd C 3 (QJ C oIS sS) S10 106 [some (.ref p0), some (.int p1), none] [] (k11 S10)) (fun S10 => ?_) (fun k11 h12 => ?_)
          · refine s_run X ok_X12_terminate 43 2 (pc' := 108) (vs' := [some (.ref p0), some (.int p1), some (.int 0)]) (st' := []) rfl ?_
            refine s_jn (κ := St → Option (Int32 × St)) (fun k14 => ∀ (S13 : St), Jd C 3 (QJ C oIS sS) S13 150 [some (.ref p0), some (.int p1), none] [] (k14 S13)) (fun S13 => ?_) (fun k14 h15 => ?_)
            · refine s_run X ok_X12_terminate 60 2 (pc' := 152) (vs' := [some (.ref p0), some (.int p1), none]) (st' := [.int p1, .ref p0]) rfl ?_
              refine s_callV (rest := []) X E mv_X12_246 (c_X12_isOpenTransfer S13 p0 p1) (ta1 t0_) rfl (by decide) t0_ rfl rfl (Nat.le_of_ble_eq_true rfl) (Nat.le_of_ble_eq_true rfl) (Nat.le_of_ble_eq_true rfl) (dk okd_X12_terminate 27 rfl) (st' := fun v16 => [.int v16]) (fun _ => rfl) (fun v16 => ?_)
              refine s_if_eq (tgt := 168) X (dk okd_X12_terminate 28 rfl) (by decide) ?_ ?_
              · refine s_run X ok_X12_terminate 65 1 (pc' := 169) (vs' := [some (.ref p0), some (.int p1), none]) (st' := [.int 1]) rfl ?_
                exact s_zret0 X hr (dk okd_X12_terminate 31 rfl) (by decide) rfl rfl
              · refine s_run X ok_X12_terminate 62 3 (pc' := 162) (vs' := [some (.ref p0), some (.int p1), none]) (st' := [.int 9, .int p1, .ref p0]) rfl ?_
                refine s_ldc2 X cl_X12_244 (dk okd_X12_terminate 29 rfl) ?_
                refine s_callV (rest := []) X E mv_X12_183 (c_X12_set S13 p0 p1 9 3) (ta1 t0_) rfl (by decide) t0_ rfl rfl (Nat.le_of_ble_eq_true rfl) (Nat.le_of_ble_eq_true rfl) (Nat.le_of_ble_eq_true rfl) (dk okd_X12_terminate 30 rfl) (st' := fun S17 => []) (fun _ => rfl) (fun S17 => ?_)
                refine s_run X ok_X12_terminate 65 1 (pc' := 169) (vs' := [some (.ref p0), some (.int p1), none]) (st' := [.int 1]) rfl ?_
                exact s_zret0 X hr (dk okd_X12_terminate 31 rfl) (by decide) rfl rfl
            · refine s_lp (κ := Int32 → St → Option (Int32 × St)) (fun k20 => ∀ (x18 : Int32) (S19 : St), Jd C 3 (QJ C oIS sS) S19 108 [some (.ref p0), some (.int p1), some (.int x18)] [] (k20 x18 S19)) (fun _ _ => s_none) (fun k20 h21 x18 S19 => ?_) FU 0 S10
              refine s_run X ok_X12_terminate 45 2 (pc' := 112) (vs' := [some (.ref p0), some (.int p1), some (.int x18)]) (st' := [.int 900, .int x18]) rfl ?_
              refine s_icmp_ge (tgt := 150) X (dk okd_X12_terminate 20 rfl) (by decide) ?_ ?_
              · exact s_less [true, true, false] rfl (h15 S19)
              · refine s_run X ok_X12_terminate 47 1 (pc' := 116) (vs' := [some (.ref p0), some (.int p1), some (.int x18)]) (st' := [.ref p0]) rfl ?_
                refine s_getR X fl_X12_9 t0_ (dk okd_X12_terminate 21 rfl) (fun a22 (t23 : tT C a22 14) => ?_)
                refine s_run X ok_X12_terminate 48 3 (pc' := 124) (vs' := [some (.ref p0), some (.int p1), some (.int x18)]) (st' := [.int (250 + x18), .ref a22]) rfl ?_
                refine s_lald X t23 (dk okd_X12_terminate 22 rfl) (fun v24 => ?_)
                refine s_run X ok_X12_terminate 51 3 (pc' := 128) (vs' := [some (.ref p0), some (.int p1), some (.int x18)]) (st' := [.int (lg_cmp v24 (Int32.toInt64 p1))]) rfl ?_
                refine s_jn (κ := St → Option (Int32 × St)) (fun k26 => ∀ (S25 : St), Jd C 3 (QJ C oIS sS) S25 144 [some (.ref p0), some (.int p1), some (.int x18)] [] (k26 S25)) (fun S25 => ?_) (fun k26 h27 => ?_)
                · refine s_run X ok_X12_terminate 58 2 (pc' := 108) (vs' := [some (.ref p0), some (.int p1), some (.int (x18 + 1))]) (st' := []) rfl ?_
                  exact h21 (x18 + 1) S25
                · refine s_lif_ne (tgt := 144) X (dk okd_X12_terminate 23 rfl) (by decide) ?_ ?_
                  · exact h27 S19
                  · refine s_run X ok_X12_terminate 54 1 (pc' := 132) (vs' := [some (.ref p0), some (.int p1), some (.int x18)]) (st' := [.ref p0]) rfl ?_
                    refine s_getR X fl_X12_9 t0_ (dk okd_X12_terminate 24 rfl) (fun a28 (t29 : tT C a28 14) => ?_)
                    refine s_run X ok_X12_terminate 55 3 (pc' := 140) (vs' := [some (.ref p0), some (.int p1), some (.int x18)]) (st' := [.int (250 + x18), .ref a28]) rfl ?_
                    refine s_ldc2 X cl_X12_48 (dk okd_X12_terminate 25 rfl) ?_
                    refine s_last X t29 (dk okd_X12_terminate 26 rfl) (fun S30 => ?_)
                    exact h27 S30
          · refine s_lp (κ := Int32 → St → Option (Int32 × St)) (fun k33 => ∀ (x31 : Int32) (S32 : St), Jd C 3 (QJ C oIS sS) S32 59 [some (.ref p0), some (.int p1), some (.int x31)] [] (k33 x31 S32)) (fun _ _ => s_none) (fun k33 h34 x31 S32 => ?_) FU 0 S9
            refine s_run X ok_X12_terminate 22 3 (pc' := 62) (vs' := [some (.ref p0), some (.int p1), some (.int x31)]) (st' := [.ref p0, .long (Int32.toInt64 x31)]) rfl ?_
            refine s_getR X fl_X12_9 t0_ (dk okd_X12_terminate 12 rfl) (fun a35 (t36 : tT C a35 14) => ?_)
            refine s_run X ok_X12_terminate 25 1 (pc' := 66) (vs' := [some (.ref p0), some (.int p1), some (.int x31)]) (st' := [.int 3, .ref a35, .long (Int32.toInt64 x31)]) rfl ?_
            refine s_lald X t36 (dk okd_X12_terminate 13 rfl) (fun v37 => ?_)
            refine s_run X ok_X12_terminate 26 1 (pc' := 68) (vs' := [some (.ref p0), some (.int p1), some (.int x31)]) (st' := [.int (lg_cmp (Int32.toInt64 x31) v37)]) rfl ?_
            refine s_lif_ge (tgt := 106) X (dk okd_X12_terminate 14 rfl) (by decide) ?_ ?_
            · exact s_less [true, true, false] rfl (h12 S32)
            · refine s_run X ok_X12_terminate 27 3 (pc' := 74) (vs' := [some (.ref p0), some (.int p1), some (.int x31)]) (st' := [.int 0, .int x31, .ref p0]) rfl ?_
              refine s_callV (rest := []) X E mv_X12_113 (c_X12_ofOutlet S32 p0 x31 0) (ta1 t0_) rfl (by decide) t0_ rfl rfl (Nat.le_of_ble_eq_true rfl) (Nat.le_of_ble_eq_true rfl) (Nat.le_of_ble_eq_true rfl) (dk okd_X12_terminate 15 rfl) (st' := fun v38 => [.long v38]) (fun _ => rfl) (fun v38 => ?_)
              refine s_run X ok_X12_terminate 30 3 (pc' := 80) (vs' := [some (.ref p0), some (.int p1), some (.int x31)]) (st' := [.int (lg_cmp v38 (Int32.toInt64 p1))]) rfl ?_
              refine s_jn (κ := St → Option (Int32 × St)) (fun k40 => ∀ (S39 : St), Jd C 3 (QJ C oIS sS) S39 100 [some (.ref p0), some (.int p1), some (.int x31)] [] (k40 S39)) (fun S39 => ?_) (fun k40 h41 => ?_)
              · refine s_run X ok_X12_terminate 41 2 (pc' := 59) (vs' := [some (.ref p0), some (.int p1), some (.int (x31 + 1))]) (st' := []) rfl ?_
                exact h34 (x31 + 1) S39
              · refine s_lif_ne (tgt := 100) X (dk okd_X12_terminate 16 rfl) (by decide) ?_ ?_
                · exact h41 S32
                · refine s_run X ok_X12_terminate 33 1 (pc' := 84) (vs' := [some (.ref p0), some (.int p1), some (.int x31)]) (st' := [.ref p0]) rfl ?_
                  refine s_getR X fl_X12_9 t0_ (dk okd_X12_terminate 17 rfl) (fun a42 (t43 : tT C a42 14) => ?_)
                  refine s_run X ok_X12_terminate 34 7 (pc' := 96) (vs' := [some (.ref p0), some (.int p1), some (.int x31)]) (st' := [.int ((186 + (4 * x31)) + 0), .ref a42]) rfl ?_
                  refine s_ldc2 X cl_X12_48 (dk okd_X12_terminate 18 rfl) ?_
                  refine s_last X t43 (dk okd_X12_terminate 19 rfl) (fun S44 => ?_)
                  exact h41 S44
        · refine s_run X ok_X12_terminate 15 1 (pc' := 49) (vs' := [some (.ref p0), some (.int p1), none]) (st' := [.int 0]) rfl ?_
          exact s_zret0 X hr (dk okd_X12_terminate 10 rfl) (by decide) rfl rfl
  · refine s_if_ne (tgt := 18) X (dk okd_X12_terminate 2 rfl) (by decide) ?_ ?_
    · refine s_run X ok_X12_terminate 7 1 (pc' := 19) (vs' := [some (.ref p0), some (.int p1), none]) (st' := [.int 0, .ref p0]) rfl ?_
      exact h5 0
    · refine s_run X ok_X12_terminate 5 2 (pc' := 19) (vs' := [some (.ref p0), some (.int p1), none]) (st' := [.int 1, .ref p0]) rfl ?_
      exact h5 1
def tab_X12_status : List En := [(0, 8, 0, 0), (1, 0, 0, 0), (5, 8, 0, 0), (6, 8, 0, 0), (7, 4, 1, 0), (14, 0, 0, 1), (15, 41, 19, 0), (18, 0, 0, 0), (19, 0, 0, 1), (26, 0, 0, 0), (27, 41, 37, 0), (30, 8, 0, 0), (31, 4, 1, 0), (32, 0, 0, 3), (36, 32, 0, 0)]
theorem ok_X12_status : tab_X12_status.all (okE cX12_status) = true := by decide +kernel
def ed_X12_status : List (Nat × Instr × Nat) := [(2, .putfield 50, 3), (8, .invokevirtual 85, 3), (11, .ifCond .ne 7, 3), (20, .invokevirtual 81, 3), (23, .ifCond .eq 7, 3), (33, .invokevirtual 63, 3), (37, .ireturn, 1)]
theorem okd_X12_status : ed_X12_status.all (okD cX12_status) = true := by decide +kernel
def f_X12_status (S : St) (p0 : Nat) (p1 : Int32) : Option (Int32 × St) := lt (uI S p0 2 0) fun (S1 : St) => cl (f_X12_isFranchisee S1 p0 p1) fun (v2 : Int32) => jn (κ := Int32 → Option (Int32 × St)) (fun x3 => cl (f_X12_throwsIf S1 p0 x3 1) fun (o6 : Int32 × St) => if o6.1 = 0 then (cl (f_X12_of o6.2 p0 p1 3) fun (v7 : Int64) => some ((Int64.toInt32 v7), o6.2)) else (some (0, o6.2))) fun k4 => if v2 = 0 then (k4 1) else (k4 0)
set_option maxHeartbeats 4000000 in
set_option maxRecDepth 100000 in
theorem c_X12_status (S : St) (p0 : Nat) (p1 : Int32) : Ct yX12_status cX12_status 2 (some .int) 2 46 [.ref p0, .int p1] [(p0, 11)] S (f_X12_status S p0 p1) oIS sS := by
  refine Ct_of RX12 rfl (by decide) (Nat.le_of_ble_eq_true rfl) 0 (vs := [some (.ref p0), some (.int p1)]) rfl (fun C X E hr ht => ?_)
  have t0_ : tT C p0 11 := ht (p0, 11) (by simp)
  unfold f_X12_status
  refine s_run X ok_X12_status 0 2 (pc' := 2) (vs' := [some (.ref p0), some (.int p1)]) (st' := [.int 0, .ref p0]) rfl ?_
  refine s_putI X fp_X12_50 t0_ (dk okd_X12_status 0 rfl) (fun S1 => ?_)
  refine s_run X ok_X12_status 2 3 (pc' := 8) (vs' := [some (.ref p0), some (.int p1)]) (st' := [.int p1, .ref p0, .ref p0]) rfl ?_
  refine s_callV (rest := [.ref p0]) X E mv_X12_85 (c_X12_isFranchisee S1 p0 p1) (ta1 t0_) rfl (by decide) t0_ rfl rfl (Nat.le_of_ble_eq_true rfl) (Nat.le_of_ble_eq_true rfl) (Nat.le_of_ble_eq_true rfl) (dk okd_X12_status 1 rfl) (st' := fun v2 => [.int v2, .ref p0]) (fun _ => rfl) (fun v2 => ?_)
  refine s_jn (κ := Int32 → Option (Int32 × St)) (fun k4 => ∀ (x3 : Int32), Jd C 2 (QJ C oIS sS) S1 19 [some (.ref p0), some (.int p1)] [.int x3, .ref p0] (k4 x3)) (fun x3 => ?_) (fun k4 h5 => ?_)
  · refine s_run X ok_X12_status 8 1 (pc' := 20) (vs' := [some (.ref p0), some (.int p1)]) (st' := [.int 1, .int x3, .ref p0]) rfl ?_
    refine s_callV (rest := []) X E mv_X12_81 (c_X12_throwsIf S1 p0 x3 1) (ta1 t0_) rfl (by decide) t0_ rfl rfl (Nat.le_of_ble_eq_true rfl) (Nat.le_of_ble_eq_true rfl) (Nat.le_of_ble_eq_true rfl) (dk okd_X12_status 3 rfl) (st' := fun o6 => [.int o6.1]) (fun _ => rfl) (fun o6 => ?_)
    refine s_if_eq (tgt := 30) X (dk okd_X12_status 4 rfl) (by decide) ?_ ?_
    · refine s_run X ok_X12_status 11 3 (pc' := 33) (vs' := [some (.ref p0), some (.int p1)]) (st' := [.int 3, .int p1, .ref p0]) rfl ?_
      refine s_callV (rest := []) X E mv_X12_63 (c_X12_of o6.2 p0 p1 3) (ta1 t0_) rfl (by decide) t0_ rfl rfl (Nat.le_of_ble_eq_true rfl) (Nat.le_of_ble_eq_true rfl) (Nat.le_of_ble_eq_true rfl) (dk okd_X12_status 5 rfl) (st' := fun v7 => [.long v7]) (fun _ => rfl) (fun v7 => ?_)
      refine s_run X ok_X12_status 14 1 (pc' := 37) (vs' := [some (.ref p0), some (.int p1)]) (st' := [.int (Int64.toInt32 v7)]) rfl ?_
      exact s_iret X hr (dk okd_X12_status 6 rfl) rfl rfl
    · refine s_run X ok_X12_status 9 2 (pc' := 37) (vs' := [some (.ref p0), some (.int p1)]) (st' := [.int 0]) rfl ?_
      exact s_iret X hr (dk okd_X12_status 6 rfl) rfl rfl
  · refine s_if_ne (tgt := 18) X (dk okd_X12_status 2 rfl) (by decide) ?_ ?_
    · refine s_run X ok_X12_status 7 1 (pc' := 19) (vs' := [some (.ref p0), some (.int p1)]) (st' := [.int 0, .ref p0]) rfl ?_
      exact h5 0
    · refine s_run X ok_X12_status 5 2 (pc' := 19) (vs' := [some (.ref p0), some (.int p1)]) (st' := [.int 1, .ref p0]) rfl ?_
      exact h5 1
def tab_X12_allContributions : List En := [(0, 3, 0, 0), (1, 12, 1, 0), (2, 0, 0, 0), (3, 10, 3, 0), (4, 4, 3, 0), (5, 31, 0, 0), (6, 8, 0, 0), (10, 0, 0, 2), (12, 40, 0, 0), (16, 6, 1, 0), (17, 8, 0, 0), (18, 4, 3, 0), (19, 1, 0, 7), (24, 23, 0, 0), (25, 12, 1, 0), (26, 16, 3, 1), (29, 41, 4, 0), (32, 6, 1, 0)]
theorem ok_X12_allContributions : tab_X12_allContributions.all (okE cX12_allContributions) = true := by decide +kernel
def ed_X12_allContributions : List (Nat × Instr × Nat) := [(7, .getfield 9, 3), (11, .laload, 1), (13, .ifCond .ge 19, 3), (21, .invokevirtual 63, 3), (33, .lreturn, 1)]
theorem okd_X12_allContributions : ed_X12_allContributions.all (okD cX12_allContributions) = true := by decide +kernel
def f_X12_allContributions (S : St) (p0 : Nat) : Option (Int64) := jn (κ := Int64 → Option (Int64)) (fun x1 => some x1) fun k2 => lp (κ := Int64 → Int32 → Option (Int64)) (fun _ _ => none) (fun k6 x4 x5 => lt (gR S p0 0) fun (a8 : Nat) => ldJ S a8 2 fun (v10 : Int64) => if v10 ≤ (Int32.toInt64 x5) then (k2 x4) else (cl (f_X12_of S p0 x5 7) fun (v11 : Int64) => lt (x4 + v11) fun (v12 : Int64) => k6 v12 (x5 + 1))) FU 0 0
set_option maxHeartbeats 4000000 in
set_option maxRecDepth 100000 in
theorem c_X12_allContributions (S : St) (p0 : Nat) : Ct yX12_allContributions cX12_allContributions 4 (some .long) 1 22 [.ref p0] [(p0, 11)] S (f_X12_allContributions S p0) oL (fun _ => S) := by
  refine Ct_of RX12 rfl (by decide) (Nat.le_of_ble_eq_true rfl) 3 (vs := [some (.ref p0), none, none, none]) rfl (fun C X E hr ht => ?_)
  have t0_ : tT C p0 11 := ht (p0, 11) (by simp)
  unfold f_X12_allContributions
  refine s_run X ok_X12_allContributions 0 4 (pc' := 4) (vs' := [some (.ref p0), some (.long 0), none, some (.int 0)]) (st' := []) rfl ?_
  refine s_jn (κ := Int64 → Option (Int64)) (fun k2 => ∀ (x1 : Int64), Jd C 4 (QJ C oL (fun _ => S)) S 32 [none, some (.long x1), none, none] [] (k2 x1)) (fun x1 => ?_) (fun k2 h3 => ?_)
  · refine s_run X ok_X12_allContributions 17 1 (pc' := 33) (vs' := [none, some (.long x1), none, none]) (st' := [.long x1]) rfl ?_
    exact s_lret X hr (dk okd_X12_allContributions 4 rfl) rfl rfl
  · refine s_lp (κ := Int64 → Int32 → Option (Int64)) (fun k6 => ∀ (x4 : Int64) (x5 : Int32), Jd C 4 (QJ C oL (fun _ => S)) S 4 [some (.ref p0), some (.long x4), none, some (.int x5)] [] (k6 x4 x5)) (fun _ _ => s_none) (fun k6 h7 x4 x5 => ?_) FU 0 0
    refine s_run X ok_X12_allContributions 4 3 (pc' := 7) (vs' := [some (.ref p0), some (.long x4), none, some (.int x5)]) (st' := [.ref p0, .long (Int32.toInt64 x5)]) rfl ?_
    refine s_getR X fl_X12_9 t0_ (dk okd_X12_allContributions 0 rfl) (fun a8 (t9 : tT C a8 14) => ?_)
    refine s_run X ok_X12_allContributions 7 1 (pc' := 11) (vs' := [some (.ref p0), some (.long x4), none, some (.int x5)]) (st' := [.int 2, .ref a8, .long (Int32.toInt64 x5)]) rfl ?_
    refine s_lald X t9 (dk okd_X12_allContributions 1 rfl) (fun v10 => ?_)
    refine s_run X ok_X12_allContributions 8 1 (pc' := 13) (vs' := [some (.ref p0), some (.long x4), none, some (.int x5)]) (st' := [.int (lg_cmp (Int32.toInt64 x5) v10)]) rfl ?_
    refine s_lif_ge (tgt := 32) X (dk okd_X12_allContributions 2 rfl) (by decide) ?_ ?_
    · exact s_less [false, true, false, false] rfl (h3 x4)
    · refine s_run X ok_X12_allContributions 9 4 (pc' := 21) (vs' := [some (.ref p0), some (.long x4), none, some (.int x5)]) (st' := [.int 7, .int x5, .ref p0, .long x4]) rfl ?_
      refine s_callV (rest := [.long x4]) X E mv_X12_63 (c_X12_of S p0 x5 7) (ta1 t0_) rfl (by decide) t0_ rfl rfl (Nat.le_of_ble_eq_true rfl) (Nat.le_of_ble_eq_true rfl) (Nat.le_of_ble_eq_true rfl) (dk okd_X12_allContributions 3 rfl) (st' := fun v11 => [.long v11, .long x4]) (fun _ => rfl) (fun v11 => ?_)
      refine s_run X ok_X12_allContributions 13 1 (pc' := 25) (vs' := [some (.ref p0), some (.long x4), none, some (.int x5)]) (st' := [.long (x4 + v11)]) rfl ?_
      refine s_nmJ (fun v12 => ?_)
      refine s_run X ok_X12_allContributions 14 3 (pc' := 4) (vs' := [some (.ref p0), some (.long v12), none, some (.int (x5 + 1))]) (st' := []) rfl ?_
      exact h7 v12 (x5 + 1)
def tab_X12_fund : List En := [(0, 8, 0, 0), (4, 8, 0, 0), (8, 1, 0, 11), (11, 24, 0, 0), (12, 8, 0, 0), (16, 1, 0, 12), (19, 24, 0, 0), (20, 8, 0, 0), (24, 1, 0, 13), (27, 24, 0, 0)]
theorem ok_X12_fund : tab_X12_fund.all (okE cX12_fund) = true := by decide +kernel
def ed_X12_fund : List (Nat × Instr × Nat) := [(1, .invokevirtual 249, 3), (5, .getfield 9, 3), (10, .laload, 1), (13, .getfield 9, 3), (18, .laload, 1), (21, .getfield 9, 3), (26, .laload, 1), (28, .lreturn, 1)]
theorem okd_X12_fund : ed_X12_fund.all (okD cX12_fund) = true := by decide +kernel
def f_X12_fund (S : St) (p0 : Nat) : Option (Int64) := cl (f_X12_allContributions S p0) fun (v1 : Int64) => lt (gR S p0 0) fun (a2 : Nat) => ldJ S a2 11 fun (v4 : Int64) => lt (gR S p0 0) fun (a5 : Nat) => ldJ S a5 12 fun (v7 : Int64) => lt (gR S p0 0) fun (a8 : Nat) => ldJ S a8 13 fun (v10 : Int64) => some (((v1 - v4) - v7) - v10)
set_option maxHeartbeats 4000000 in
set_option maxRecDepth 100000 in
theorem c_X12_fund (S : St) (p0 : Nat) : Ct yX12_fund cX12_fund 1 (some .long) 2 45 [.ref p0] [(p0, 11)] S (f_X12_fund S p0) oL (fun _ => S) := by
  refine Ct_of RX12 rfl (by decide) (Nat.le_of_ble_eq_true rfl) 0 (vs := [some (.ref p0)]) rfl (fun C X E hr ht => ?_)
  have t0_ : tT C p0 11 := ht (p0, 11) (by simp)
  unfold f_X12_fund
  refine s_run X ok_X12_fund 0 1 (pc' := 1) (vs' := [some (.ref p0)]) (st' := [.ref p0]) rfl ?_
  refine s_callV (rest := []) X E mv_X12_249 (c_X12_allContributions S p0) (ta1 t0_) rfl (by decide) t0_ rfl rfl (Nat.le_of_ble_eq_true rfl) (Nat.le_of_ble_eq_true rfl) (Nat.le_of_ble_eq_true rfl) (dk okd_X12_fund 0 rfl) (st' := fun v1 => [.long v1]) (fun _ => rfl) (fun v1 => ?_)
  refine s_run X ok_X12_fund 1 1 (pc' := 5) (vs' := [some (.ref p0)]) (st' := [.ref p0, .long v1]) rfl ?_
  refine s_getR X fl_X12_9 t0_ (dk okd_X12_fund 1 rfl) (fun a2 (t3 : tT C a2 14) => ?_)
  refine s_run X ok_X12_fund 2 1 (pc' := 10) (vs' := [some (.ref p0)]) (st' := [.int 11, .ref a2, .long v1]) rfl ?_
  refine s_lald X t3 (dk okd_X12_fund 2 rfl) (fun v4 => ?_)
  refine s_run X ok_X12_fund 3 2 (pc' := 13) (vs' := [some (.ref p0)]) (st' := [.ref p0, .long (v1 - v4)]) rfl ?_
  refine s_getR X fl_X12_9 t0_ (dk okd_X12_fund 3 rfl) (fun a5 (t6 : tT C a5 14) => ?_)
  refine s_run X ok_X12_fund 5 1 (pc' := 18) (vs' := [some (.ref p0)]) (st' := [.int 12, .ref a5, .long (v1 - v4)]) rfl ?_
  refine s_lald X t6 (dk okd_X12_fund 4 rfl) (fun v7 => ?_)
  refine s_run X ok_X12_fund 6 2 (pc' := 21) (vs' := [some (.ref p0)]) (st' := [.ref p0, .long ((v1 - v4) - v7)]) rfl ?_
  refine s_getR X fl_X12_9 t0_ (dk okd_X12_fund 5 rfl) (fun a8 (t9 : tT C a8 14) => ?_)
  refine s_run X ok_X12_fund 8 1 (pc' := 26) (vs' := [some (.ref p0)]) (st' := [.int 13, .ref a8, .long ((v1 - v4) - v7)]) rfl ?_
  refine s_lald X t9 (dk okd_X12_fund 6 rfl) (fun v10 => ?_)
  refine s_run X ok_X12_fund 9 1 (pc' := 28) (vs' := [some (.ref p0)]) (st' := [.long (((v1 - v4) - v7) - v10)]) rfl ?_
  exact s_lret X hr (dk okd_X12_fund 7 rfl) rfl rfl
def tab_X12_fundBalance : List En := [(0, 8, 0, 0), (1, 0, 0, 0), (5, 8, 0, 0)]
theorem ok_X12_fundBalance : tab_X12_fundBalance.all (okE cX12_fundBalance) = true := by decide +kernel
def ed_X12_fundBalance : List (Nat × Instr × Nat) := [(2, .putfield 50, 3), (6, .invokevirtual 253, 3), (9, .lreturn, 1)]
theorem okd_X12_fundBalance : ed_X12_fundBalance.all (okD cX12_fundBalance) = true := by decide +kernel
def f_X12_fundBalance (S : St) (p0 : Nat) : Option (Int64 × St) := lt (uI S p0 2 0) fun (S1 : St) => cl (f_X12_fund S1 p0) fun (v2 : Int64) => some (v2, S1)
set_option maxHeartbeats 4000000 in
set_option maxRecDepth 100000 in
theorem c_X12_fundBalance (S : St) (p0 : Nat) : Ct yX12_fundBalance cX12_fundBalance 1 (some .long) 3 65 [.ref p0] [(p0, 11)] S (f_X12_fundBalance S p0) oLS sL := by
  refine Ct_of RX12 rfl (by decide) (Nat.le_of_ble_eq_true rfl) 0 (vs := [some (.ref p0)]) rfl (fun C X E hr ht => ?_)
  have t0_ : tT C p0 11 := ht (p0, 11) (by simp)
  unfold f_X12_fundBalance
  refine s_run X ok_X12_fundBalance 0 2 (pc' := 2) (vs' := [some (.ref p0)]) (st' := [.int 0, .ref p0]) rfl ?_
  refine s_putI X fp_X12_50 t0_ (dk okd_X12_fundBalance 0 rfl) (fun S1 => ?_)
  refine s_run X ok_X12_fundBalance 2 1 (pc' := 6) (vs' := [some (.ref p0)]) (st' := [.ref p0]) rfl ?_
  refine s_callV (rest := []) X E mv_X12_253 (c_X12_fund S1 p0) (ta1 t0_) rfl (by decide) t0_ rfl rfl (Nat.le_of_ble_eq_true rfl) (Nat.le_of_ble_eq_true rfl) (Nat.le_of_ble_eq_true rfl) (dk okd_X12_fundBalance 1 rfl) (st' := fun v2 => [.long v2]) (fun _ => rfl) (fun v2 => ?_)
  exact s_lret X hr (dk okd_X12_fundBalance 2 rfl) rfl rfl
def tab_X12_contributions : List En := [(0, 8, 0, 0), (1, 0, 0, 0), (5, 8, 0, 0), (6, 8, 0, 0), (7, 4, 1, 0), (14, 0, 0, 1), (15, 41, 19, 0), (18, 0, 0, 0), (19, 0, 0, 1), (26, 3, 0, 0), (27, 41, 37, 0), (30, 8, 0, 0), (31, 4, 1, 0), (32, 1, 0, 7)]
theorem ok_X12_contributions : tab_X12_contributions.all (okE cX12_contributions) = true := by decide +kernel
def ed_X12_contributions : List (Nat × Instr × Nat) := [(2, .putfield 50, 3), (8, .invokevirtual 85, 3), (11, .ifCond .ne 7, 3), (20, .invokevirtual 81, 3), (23, .ifCond .eq 7, 3), (34, .invokevirtual 63, 3), (37, .lreturn, 1)]
theorem okd_X12_contributions : ed_X12_contributions.all (okD cX12_contributions) = true := by decide +kernel
def f_X12_contributions (S : St) (p0 : Nat) (p1 : Int32) : Option (Int64 × St) := lt (uI S p0 2 0) fun (S1 : St) => cl (f_X12_isFranchisee S1 p0 p1) fun (v2 : Int32) => jn (κ := Int32 → Option (Int64 × St)) (fun x3 => cl (f_X12_throwsIf S1 p0 x3 1) fun (o6 : Int32 × St) => if o6.1 = 0 then (cl (f_X12_of o6.2 p0 p1 7) fun (v7 : Int64) => some (v7, o6.2)) else (some (0, o6.2))) fun k4 => if v2 = 0 then (k4 1) else (k4 0)
set_option maxHeartbeats 4000000 in
set_option maxRecDepth 100000 in
theorem c_X12_contributions (S : St) (p0 : Nat) (p1 : Int32) : Ct yX12_contributions cX12_contributions 2 (some .long) 2 46 [.ref p0, .int p1] [(p0, 11)] S (f_X12_contributions S p0 p1) oLS sL := by
  refine Ct_of RX12 rfl (by decide) (Nat.le_of_ble_eq_true rfl) 0 (vs := [some (.ref p0), some (.int p1)]) rfl (fun C X E hr ht => ?_)
  have t0_ : tT C p0 11 := ht (p0, 11) (by simp)
  unfold f_X12_contributions
  refine s_run X ok_X12_contributions 0 2 (pc' := 2) (vs' := [some (.ref p0), some (.int p1)]) (st' := [.int 0, .ref p0]) rfl ?_
  refine s_putI X fp_X12_50 t0_ (dk okd_X12_contributions 0 rfl) (fun S1 => ?_)
  refine s_run X ok_X12_contributions 2 3 (pc' := 8) (vs' := [some (.ref p0), some (.int p1)]) (st' := [.int p1, .ref p0, .ref p0]) rfl ?_
  refine s_callV (rest := [.ref p0]) X E mv_X12_85 (c_X12_isFranchisee S1 p0 p1) (ta1 t0_) rfl (by decide) t0_ rfl rfl (Nat.le_of_ble_eq_true rfl) (Nat.le_of_ble_eq_true rfl) (Nat.le_of_ble_eq_true rfl) (dk okd_X12_contributions 1 rfl) (st' := fun v2 => [.int v2, .ref p0]) (fun _ => rfl) (fun v2 => ?_)
  refine s_jn (κ := Int32 → Option (Int64 × St)) (fun k4 => ∀ (x3 : Int32), Jd C 2 (QJ C oLS sL) S1 19 [some (.ref p0), some (.int p1)] [.int x3, .ref p0] (k4 x3)) (fun x3 => ?_) (fun k4 h5 => ?_)
  · refine s_run X ok_X12_contributions 8 1 (pc' := 20) (vs' := [some (.ref p0), some (.int p1)]) (st' := [.int 1, .int x3, .ref p0]) rfl ?_
    refine s_callV (rest := []) X E mv_X12_81 (c_X12_throwsIf S1 p0 x3 1) (ta1 t0_) rfl (by decide) t0_ rfl rfl (Nat.le_of_ble_eq_true rfl) (Nat.le_of_ble_eq_true rfl) (Nat.le_of_ble_eq_true rfl) (dk okd_X12_contributions 3 rfl) (st' := fun o6 => [.int o6.1]) (fun _ => rfl) (fun o6 => ?_)
    refine s_if_eq (tgt := 30) X (dk okd_X12_contributions 4 rfl) (by decide) ?_ ?_
    · refine s_run X ok_X12_contributions 11 3 (pc' := 34) (vs' := [some (.ref p0), some (.int p1)]) (st' := [.int 7, .int p1, .ref p0]) rfl ?_
      refine s_callV (rest := []) X E mv_X12_63 (c_X12_of o6.2 p0 p1 7) (ta1 t0_) rfl (by decide) t0_ rfl rfl (Nat.le_of_ble_eq_true rfl) (Nat.le_of_ble_eq_true rfl) (Nat.le_of_ble_eq_true rfl) (dk okd_X12_contributions 5 rfl) (st' := fun v7 => [.long v7]) (fun _ => rfl) (fun v7 => ?_)
      exact s_lret X hr (dk okd_X12_contributions 6 rfl) rfl rfl
    · refine s_run X ok_X12_contributions 9 2 (pc' := 37) (vs' := [some (.ref p0), some (.int p1)]) (st' := [.long 0]) rfl ?_
      exact s_lret X hr (dk okd_X12_contributions 6 rfl) rfl rfl
  · refine s_if_ne (tgt := 18) X (dk okd_X12_contributions 2 rfl) (by decide) ?_ ?_
    · refine s_run X ok_X12_contributions 7 1 (pc' := 19) (vs' := [some (.ref p0), some (.int p1)]) (st' := [.int 0, .ref p0]) rfl ?_
      exact h5 0
    · refine s_run X ok_X12_contributions 5 2 (pc' := 19) (vs' := [some (.ref p0), some (.int p1)]) (st' := [.int 1, .ref p0]) rfl ?_
      exact h5 1
def tab_X12_spent : List En := [(0, 8, 0, 0), (1, 0, 0, 0), (5, 8, 0, 0), (6, 4, 1, 0), (7, 31, 0, 0), (8, 3, 0, 0), (18, 0, 0, 1), (19, 41, 23, 0), (22, 0, 0, 0), (23, 0, 0, 1), (30, 3, 0, 0), (31, 41, 43, 0), (34, 8, 0, 0), (38, 1, 0, 11), (40, 4, 1, 0), (41, 17, 0, 0)]
theorem ok_X12_spent : tab_X12_spent.all (okE cX12_spent) = true := by decide +kernel
def ed_X12_spent : List (Nat × Instr × Nat) := [(2, .putfield 50, 3), (9, .ldc2_w 220, 3), (12, .invokestatic 53, 3), (15, .ifCond .ne 7, 3), (24, .invokevirtual 81, 3), (27, .ifCond .eq 7, 3), (35, .getfield 9, 3), (42, .laload, 1), (43, .lreturn, 1)]
theorem okd_X12_spent : ed_X12_spent.all (okD cX12_spent) = true := by decide +kernel
def f_X12_spent (S : St) (p0 : Nat) (p1 : Int32) : Option (Int64 × St) := lt (uI S p0 2 0) fun (S1 : St) => cl (f_X12_inRange S1 (Int32.toInt64 p1) 0 2) fun (v2 : Int32) => jn (κ := Int32 → Option (Int64 × St)) (fun x3 => cl (f_X12_throwsIf S1 p0 x3 1) fun (o6 : Int32 × St) => if o6.1 = 0 then (lt (gR o6.2 p0 0) fun (a7 : Nat) => ldJ o6.2 a7 (11 + p1) fun (v9 : Int64) => some (v9, o6.2)) else (some (0, o6.2))) fun k4 => if v2 = 0 then (k4 1) else (k4 0)
set_option maxHeartbeats 4000000 in
set_option maxRecDepth 100000 in
theorem c_X12_spent (S : St) (p0 : Nat) (p1 : Int32) : Ct yX12_spent cX12_spent 2 (some .long) 1 25 [.ref p0, .int p1] [(p0, 11)] S (f_X12_spent S p0 p1) oLS sL := by
  refine Ct_of RX12 rfl (by decide) (Nat.le_of_ble_eq_true rfl) 0 (vs := [some (.ref p0), some (.int p1)]) rfl (fun C X E hr ht => ?_)
  have t0_ : tT C p0 11 := ht (p0, 11) (by simp)
  unfold f_X12_spent
  refine s_run X ok_X12_spent 0 2 (pc' := 2) (vs' := [some (.ref p0), some (.int p1)]) (st' := [.int 0, .ref p0]) rfl ?_
  refine s_putI X fp_X12_50 t0_ (dk okd_X12_spent 0 rfl) (fun S1 => ?_)
  refine s_run X ok_X12_spent 2 4 (pc' := 9) (vs' := [some (.ref p0), some (.int p1)]) (st' := [.long 0, .long (Int32.toInt64 p1), .ref p0]) rfl ?_
  refine s_ldc2 X cl_X12_220 (dk okd_X12_spent 1 rfl) ?_
  refine s_callS (rest := [.ref p0]) X E ms_X12_53 (c_X12_inRange S1 (Int32.toInt64 p1) 0 2) (ta0) rfl rfl (Nat.le_of_ble_eq_true rfl) (Nat.le_of_ble_eq_true rfl) (Nat.le_of_ble_eq_true rfl) (dk okd_X12_spent 2 rfl) (st' := fun v2 => [.int v2, .ref p0]) (fun _ => rfl) (fun v2 => ?_)
  refine s_jn (κ := Int32 → Option (Int64 × St)) (fun k4 => ∀ (x3 : Int32), Jd C 2 (QJ C oLS sL) S1 23 [some (.ref p0), some (.int p1)] [.int x3, .ref p0] (k4 x3)) (fun x3 => ?_) (fun k4 h5 => ?_)
  · refine s_run X ok_X12_spent 9 1 (pc' := 24) (vs' := [some (.ref p0), some (.int p1)]) (st' := [.int 1, .int x3, .ref p0]) rfl ?_
    refine s_callV (rest := []) X E mv_X12_81 (c_X12_throwsIf S1 p0 x3 1) (ta1 t0_) rfl (by decide) t0_ rfl rfl (Nat.le_of_ble_eq_true rfl) (Nat.le_of_ble_eq_true rfl) (Nat.le_of_ble_eq_true rfl) (dk okd_X12_spent 4 rfl) (st' := fun o6 => [.int o6.1]) (fun _ => rfl) (fun o6 => ?_)
    refine s_if_eq (tgt := 34) X (dk okd_X12_spent 5 rfl) (by decide) ?_ ?_
    · refine s_run X ok_X12_spent 12 1 (pc' := 35) (vs' := [some (.ref p0), some (.int p1)]) (st' := [.ref p0]) rfl ?_
      refine s_getR X fl_X12_9 t0_ (dk okd_X12_spent 6 rfl) (fun a7 (t8 : tT C a7 14) => ?_)
      refine s_run X ok_X12_spent 13 3 (pc' := 42) (vs' := [some (.ref p0), some (.int p1)]) (st' := [.int (11 + p1), .ref a7]) rfl ?_
      refine s_lald X t8 (dk okd_X12_spent 7 rfl) (fun v9 => ?_)
      exact s_lret X hr (dk okd_X12_spent 8 rfl) rfl rfl
    · refine s_run X ok_X12_spent 10 2 (pc' := 43) (vs' := [some (.ref p0), some (.int p1)]) (st' := [.long 0]) rfl ?_
      exact s_lret X hr (dk okd_X12_spent 8 rfl) rfl rfl
  · refine s_if_ne (tgt := 22) X (dk okd_X12_spent 3 rfl) (by decide) ?_ ?_
    · refine s_run X ok_X12_spent 8 1 (pc' := 23) (vs' := [some (.ref p0), some (.int p1)]) (st' := [.int 0, .ref p0]) rfl ?_
      exact h5 0
    · refine s_run X ok_X12_spent 6 2 (pc' := 23) (vs' := [some (.ref p0), some (.int p1)]) (st' := [.int 1, .ref p0]) rfl ?_
      exact h5 1
def tab_X12_campaign : List En := [(0, 8, 0, 0), (1, 0, 0, 0), (5, 8, 0, 0), (6, 6, 1, 0), (7, 3, 1, 0), (17, 0, 0, 1), (18, 41, 22, 0), (21, 0, 0, 0), (22, 0, 0, 1), (29, 6, 1, 0), (30, 8, 0, 0), (34, 40, 0, 0), (38, 0, 0, 0), (40, 8, 0, 0), (44, 1, 0, 12), (46, 37, 0, 0), (48, 6, 1, 0), (49, 23, 0, 0), (51, 0, 0, 1)]
theorem ok_X12_campaign : tab_X12_campaign.all (okE cX12_campaign) = true := by decide +kernel
def ed_X12_campaign : List (Nat × Instr × Nat) := [(2, .putfield 50, 3), (8, .ldc2_w 174, 3), (11, .invokestatic 53, 3), (14, .ifCond .ne 7, 3), (23, .invokevirtual 81, 3), (26, .ifCond .ne 12, 3), (31, .invokevirtual 253, 3), (35, .ifCond .le 5, 3), (39, .ireturn, 1), (41, .getfield 9, 3), (47, .laload, 1), (50, .lastore, 1), (52, .ireturn, 1)]
theorem okd_X12_campaign : ed_X12_campaign.all (okD cX12_campaign) = true := by decide +kernel
def f_X12_campaign (S : St) (p0 : Nat) (p1 : Int64) : Option (Int32 × St) := lt (uI S p0 2 0) fun (S1 : St) => cl (f_X12_inRange S1 p1 1 1000000000) fun (v2 : Int32) => jn (κ := Int32 → Option (Int32 × St)) (fun x3 => cl (f_X12_throwsIf S1 p0 x3 1) fun (o6 : Int32 × St) => if o6.1 = 0 then (cl (f_X12_fund o6.2 p0) fun (v7 : Int64) => if p1 ≤ v7 then (lt (gR o6.2 p0 0) fun (a8 : Nat) => ldJ o6.2 a8 12 fun (v10 : Int64) => stJ o6.2 a8 12 (v10 + p1) fun (S11 : St) => some (1, S11)) else (some (0, o6.2))) else (some (0, o6.2))) fun k4 => if v2 = 0 then (k4 1) else (k4 0)
set_option maxHeartbeats 4000000 in
set_option maxRecDepth 100000 in
theorem c_X12_campaign (S : St) (p0 : Nat) (p1 : Int64) : Ct yX12_campaign cX12_campaign 3 (some .boolean) 3 65 [.ref p0, .long p1] [(p0, 11)] S (f_X12_campaign S p0 p1) oIS sS := by
  refine Ct_of RX12 rfl (by decide) (Nat.le_of_ble_eq_true rfl) 0 (vs := [some (.ref p0), some (.long p1), none]) rfl (fun C X E hr ht => ?_)
  have t0_ : tT C p0 11 := ht (p0, 11) (by simp)
  unfold f_X12_campaign
  refine s_run X ok_X12_campaign 0 2 (pc' := 2) (vs' := [some (.ref p0), some (.long p1), none]) (st' := [.int 0, .ref p0]) rfl ?_
  refine s_putI X fp_X12_50 t0_ (dk okd_X12_campaign 0 rfl) (fun S1 => ?_)
  refine s_run X ok_X12_campaign 2 3 (pc' := 8) (vs' := [some (.ref p0), some (.long p1), none]) (st' := [.long 1, .long p1, .ref p0]) rfl ?_
  refine s_ldc2 X cl_X12_174 (dk okd_X12_campaign 1 rfl) ?_
  refine s_callS (rest := [.ref p0]) X E ms_X12_53 (c_X12_inRange S1 p1 1 1000000000) (ta0) rfl rfl (Nat.le_of_ble_eq_true rfl) (Nat.le_of_ble_eq_true rfl) (Nat.le_of_ble_eq_true rfl) (dk okd_X12_campaign 2 rfl) (st' := fun v2 => [.int v2, .ref p0]) (fun _ => rfl) (fun v2 => ?_)
  refine s_jn (κ := Int32 → Option (Int32 × St)) (fun k4 => ∀ (x3 : Int32), Jd C 3 (QJ C oIS sS) S1 22 [some (.ref p0), some (.long p1), none] [.int x3, .ref p0] (k4 x3)) (fun x3 => ?_) (fun k4 h5 => ?_)
  · refine s_run X ok_X12_campaign 8 1 (pc' := 23) (vs' := [some (.ref p0), some (.long p1), none]) (st' := [.int 1, .int x3, .ref p0]) rfl ?_
    refine s_callV (rest := []) X E mv_X12_81 (c_X12_throwsIf S1 p0 x3 1) (ta1 t0_) rfl (by decide) t0_ rfl rfl (Nat.le_of_ble_eq_true rfl) (Nat.le_of_ble_eq_true rfl) (Nat.le_of_ble_eq_true rfl) (dk okd_X12_campaign 4 rfl) (st' := fun o6 => [.int o6.1]) (fun _ => rfl) (fun o6 => ?_)
    refine s_if_ne (tgt := 38) X (dk okd_X12_campaign 5 rfl) (by decide) ?_ ?_
    · refine s_run X ok_X12_campaign 12 1 (pc' := 39) (vs' := [some (.ref p0), some (.long p1), none]) (st' := [.int 0]) rfl ?_
      exact s_zret0 X hr (dk okd_X12_campaign 8 rfl) (by decide) rfl rfl
    · refine s_run X ok_X12_campaign 9 2 (pc' := 31) (vs' := [some (.ref p0), some (.long p1), none]) (st' := [.ref p0, .long p1]) rfl ?_
      refine s_callV (rest := [.long p1]) X E mv_X12_253 (c_X12_fund o6.2 p0) (ta1 t0_) rfl (by decide) t0_ rfl rfl (Nat.le_of_ble_eq_true rfl) (Nat.le_of_ble_eq_true rfl) (Nat.le_of_ble_eq_true rfl) (dk okd_X12_campaign 6 rfl) (st' := fun v7 => [.long v7, .long p1]) (fun _ => rfl) (fun v7 => ?_)
      refine s_run X ok_X12_campaign 11 1 (pc' := 35) (vs' := [some (.ref p0), some (.long p1), none]) (st' := [.int (lg_cmp p1 v7)]) rfl ?_
      refine s_lif_le (tgt := 40) X (dk okd_X12_campaign 7 rfl) (by decide) ?_ ?_
      · refine s_run X ok_X12_campaign 13 1 (pc' := 41) (vs' := [some (.ref p0), some (.long p1), none]) (st' := [.ref p0]) rfl ?_
        refine s_getR X fl_X12_9 t0_ (dk okd_X12_campaign 9 rfl) (fun a8 (t9 : tT C a8 14) => ?_)
        refine s_run X ok_X12_campaign 14 2 (pc' := 47) (vs' := [some (.ref p0), some (.long p1), none]) (st' := [.int 12, .ref a8, .int 12, .ref a8]) rfl ?_
        refine s_lald X t9 (dk okd_X12_campaign 10 rfl) (fun v10 => ?_)
        refine s_run X ok_X12_campaign 16 2 (pc' := 50) (vs' := [some (.ref p0), some (.long p1), none]) (st' := [.long (v10 + p1), .int 12, .ref a8]) rfl ?_
        refine s_last X t9 (dk okd_X12_campaign 11 rfl) (fun S11 => ?_)
        refine s_run X ok_X12_campaign 18 1 (pc' := 52) (vs' := [some (.ref p0), some (.long p1), none]) (st' := [.int 1]) rfl ?_
        exact s_zret0 X hr (dk okd_X12_campaign 12 rfl) (by decide) rfl rfl
      · refine s_run X ok_X12_campaign 12 1 (pc' := 39) (vs' := [some (.ref p0), some (.long p1), none]) (st' := [.int 0]) rfl ?_
        exact s_zret0 X hr (dk okd_X12_campaign 8 rfl) (by decide) rfl rfl
  · refine s_if_ne (tgt := 21) X (dk okd_X12_campaign 3 rfl) (by decide) ?_ ?_
    · refine s_run X ok_X12_campaign 7 1 (pc' := 22) (vs' := [some (.ref p0), some (.long p1), none]) (st' := [.int 0, .ref p0]) rfl ?_
      exact h5 0
    · refine s_run X ok_X12_campaign 5 2 (pc' := 22) (vs' := [some (.ref p0), some (.long p1), none]) (st' := [.int 1, .ref p0]) rfl ?_
      exact h5 1
def tab_X12_allowanceOf : List En := [(0, 8, 0, 0), (1, 4, 1, 0), (2, 1, 0, 7), (11, 8, 0, 0), (12, 4, 1, 0), (13, 1, 0, 8), (18, 24, 0, 0)]
theorem ok_X12_allowanceOf : tab_X12_allowanceOf.all (okE cX12_allowanceOf) = true := by decide +kernel
def ed_X12_allowanceOf : List (Nat × Instr × Nat) := [(4, .invokevirtual 63, 3), (7, .ldc2_w 220, 3), (10, .ldiv, 1), (15, .invokevirtual 63, 3), (19, .lreturn, 1)]
theorem okd_X12_allowanceOf : ed_X12_allowanceOf.all (okD cX12_allowanceOf) = true := by decide +kernel
def f_X12_allowanceOf (S : St) (p0 : Nat) (p1 : Int32) : Option (Int64) := cl (f_X12_of S p0 p1 7) fun (v1 : Int64) => cl (f_X12_of S p0 p1 8) fun (v2 : Int64) => some ((v1 / 2) - v2)
set_option maxHeartbeats 4000000 in
set_option maxRecDepth 100000 in
theorem c_X12_allowanceOf (S : St) (p0 : Nat) (p1 : Int32) : Ct yX12_allowanceOf cX12_allowanceOf 2 (some .long) 1 22 [.ref p0, .int p1] [(p0, 11)] S (f_X12_allowanceOf S p0 p1) oL (fun _ => S) := by
  refine Ct_of RX12 rfl (by decide) (Nat.le_of_ble_eq_true rfl) 0 (vs := [some (.ref p0), some (.int p1)]) rfl (fun C X E hr ht => ?_)
  have t0_ : tT C p0 11 := ht (p0, 11) (by simp)
  unfold f_X12_allowanceOf
  refine s_run X ok_X12_allowanceOf 0 3 (pc' := 4) (vs' := [some (.ref p0), some (.int p1)]) (st' := [.int 7, .int p1, .ref p0]) rfl ?_
  refine s_callV (rest := []) X E mv_X12_63 (c_X12_of S p0 p1 7) (ta1 t0_) rfl (by decide) t0_ rfl rfl (Nat.le_of_ble_eq_true rfl) (Nat.le_of_ble_eq_true rfl) (Nat.le_of_ble_eq_true rfl) (dk okd_X12_allowanceOf 0 rfl) (st' := fun v1 => [.long v1]) (fun _ => rfl) (fun v1 => ?_)
  refine s_ldc2 X cl_X12_220 (dk okd_X12_allowanceOf 1 rfl) ?_
  refine s_ldiv0 X (dk okd_X12_allowanceOf 2 rfl) (by decide) ?_
  refine s_run X ok_X12_allowanceOf 3 3 (pc' := 15) (vs' := [some (.ref p0), some (.int p1)]) (st' := [.int 8, .int p1, .ref p0, .long (v1 / 2)]) rfl ?_
  refine s_callV (rest := [.long (v1 / 2)]) X E mv_X12_63 (c_X12_of S p0 p1 8) (ta1 t0_) rfl (by decide) t0_ rfl rfl (Nat.le_of_ble_eq_true rfl) (Nat.le_of_ble_eq_true rfl) (Nat.le_of_ble_eq_true rfl) (dk okd_X12_allowanceOf 3 rfl) (st' := fun v2 => [.long v2, .long (v1 / 2)]) (fun _ => rfl) (fun v2 => ?_)
  refine s_run X ok_X12_allowanceOf 6 1 (pc' := 19) (vs' := [some (.ref p0), some (.int p1)]) (st' := [.long ((v1 / 2) - v2)]) rfl ?_
  exact s_lret X hr (dk okd_X12_allowanceOf 4 rfl) rfl rfl
def tab_X12_grant : List En := [(0, 8, 0, 0), (1, 0, 0, 0), (5, 8, 0, 0), (6, 8, 0, 0), (7, 4, 1, 0), (14, 0, 0, 1), (15, 41, 19, 0), (18, 0, 0, 0), (19, 0, 0, 1), (26, 8, 0, 0), (27, 6, 2, 0), (28, 3, 1, 0), (38, 0, 0, 1), (39, 41, 43, 0), (42, 0, 0, 0), (43, 0, 0, 2), (50, 0, 0, 0), (52, 8, 0, 0), (53, 4, 1, 0), (60, 6, 2, 0), (61, 8, 0, 0), (62, 4, 1, 0), (66, 40, 0, 0), (70, 6, 2, 0), (71, 8, 0, 0), (75, 40, 0, 0), (79, 0, 0, 0), (81, 8, 0, 0), (85, 1, 0, 13), (87, 37, 0, 0), (89, 6, 2, 0), (90, 23, 0, 0), (92, 8, 0, 0), (93, 4, 1, 0), (94, 1, 0, 8), (96, 6, 2, 0), (100, 8, 0, 0), (101, 4, 1, 0), (102, 0, 0, 4), (103, 6, 2, 0), (104, 28, 0, 0), (108, 0, 0, 1)]
theorem ok_X12_grant : tab_X12_grant.all (okE cX12_grant) = true := by decide +kernel
def ed_X12_grant : List (Nat × Instr × Nat) := [(2, .putfield 50, 3), (8, .invokevirtual 85, 3), (11, .ifCond .ne 7, 3), (20, .invokevirtual 81, 3), (23, .ifCond .ne 27, 3), (29, .ldc2_w 174, 3), (32, .invokestatic 53, 3), (35, .ifCond .ne 7, 3), (44, .invokevirtual 81, 3), (47, .ifCond .eq 5, 3), (51, .ireturn, 1), (54, .invokevirtual 128, 3), (57, .ifCond .eq 22, 3), (63, .invokevirtual 256, 3), (67, .ifCond .gt 12, 3), (72, .invokevirtual 253, 3), (76, .ifCond .le 5, 3), (80, .ireturn, 1), (82, .getfield 9, 3), (88, .laload, 1), (91, .lastore, 1), (97, .invokevirtual 224, 3), (105, .invokevirtual 224, 3), (109, .ireturn, 1)]
theorem okd_X12_grant : ed_X12_grant.all (okD cX12_grant) = true := by decide +kernel
def f_X12_grant (S : St) (p0 : Nat) (p1 : Int32) (p2 : Int64) : Option (Int32 × St) := lt (uI S p0 2 0) fun (S1 : St) => cl (f_X12_isFranchisee S1 p0 p1) fun (v2 : Int32) => jn (κ := Int32 → Option (Int32 × St)) (fun x3 => cl (f_X12_throwsIf S1 p0 x3 1) fun (o6 : Int32 × St) => if o6.1 = 0 then (cl (f_X12_inRange o6.2 p2 1 1000000000) fun (v7 : Int32) => jn (κ := Int32 → Option (Int32 × St)) (fun x8 => cl (f_X12_throwsIf o6.2 p0 x8 2) fun (o11 : Int32 × St) => if o11.1 = 0 then (cl (f_X12_isActive o11.2 p0 p1) fun (v12 : Int32) => if v12 = 0 then (some (0, o11.2)) else (cl (f_X12_allowanceOf o11.2 p0 p1) fun (v13 : Int64) => if v13 < p2 then (some (0, o11.2)) else (cl (f_X12_fund o11.2 p0) fun (v14 : Int64) => if p2 ≤ v14 then (lt (gR o11.2 p0 0) fun (a15 : Nat) => ldJ o11.2 a15 13 fun (v17 : Int64) => stJ o11.2 a15 13 (v17 + p2) fun (S18 : St) => cl (f_X12_add S18 p0 p1 8 p2) fun (S19 : St) => cl (f_X12_add S19 p0 p1 4 (-p2)) fun (S20 : St) => some (1, S20)) else (some (0, o11.2))))) else (some (0, o11.2))) fun k9 => if v7 = 0 then (k9 1) else (k9 0)) else (some (0, o6.2))) fun k4 => if v2 = 0 then (k4 1) else (k4 0)
set_option maxHeartbeats 4000000 in
set_option maxRecDepth 100000 in
theorem c_X12_grant (S : St) (p0 : Nat) (p1 : Int32) (p2 : Int64) : Ct yX12_grant cX12_grant 4 (some .boolean) 3 65 [.ref p0, .int p1, .long p2] [(p0, 11)] S (f_X12_grant S p0 p1 p2) oIS sS := by
  refine Ct_of RX12 rfl (by decide) (Nat.le_of_ble_eq_true rfl) 0 (vs := [some (.ref p0), some (.int p1), some (.long p2), none]) rfl (fun C X E hr ht => ?_)
  have t0_ : tT C p0 11 := ht (p0, 11) (by simp)
  unfold f_X12_grant
  refine s_run X ok_X12_grant 0 2 (pc' := 2) (vs' := [some (.ref p0), some (.int p1), some (.long p2), none]) (st' := [.int 0, .ref p0]) rfl ?_
  refine s_putI X fp_X12_50 t0_ (dk okd_X12_grant 0 rfl) (fun S1 => ?_)
  refine s_run X ok_X12_grant 2 3 (pc' := 8) (vs' := [some (.ref p0), some (.int p1), some (.long p2), none]) (st' := [.int p1, .ref p0, .ref p0]) rfl ?_
  refine s_callV (rest := [.ref p0]) X E mv_X12_85 (c_X12_isFranchisee S1 p0 p1) (ta1 t0_) rfl (by decide) t0_ rfl rfl (Nat.le_of_ble_eq_true rfl) (Nat.le_of_ble_eq_true rfl) (Nat.le_of_ble_eq_true rfl) (dk okd_X12_grant 1 rfl) (st' := fun v2 => [.int v2, .ref p0]) (fun _ => rfl) (fun v2 => ?_)
  refine s_jn (κ := Int32 → Option (Int32 × St)) (fun k4 => ∀ (x3 : Int32), Jd C 4 (QJ C oIS sS) S1 19 [some (.ref p0), some (.int p1), some (.long p2), none] [.int x3, .ref p0] (k4 x3)) (fun x3 => ?_) (fun k4 h5 => ?_)
  · refine s_run X ok_X12_grant 8 1 (pc' := 20) (vs' := [some (.ref p0), some (.int p1), some (.long p2), none]) (st' := [.int 1, .int x3, .ref p0]) rfl ?_
    refine s_callV (rest := []) X E mv_X12_81 (c_X12_throwsIf S1 p0 x3 1) (ta1 t0_) rfl (by decide) t0_ rfl rfl (Nat.le_of_ble_eq_true rfl) (Nat.le_of_ble_eq_true rfl) (Nat.le_of_ble_eq_true rfl) (dk okd_X12_grant 3 rfl) (st' := fun o6 => [.int o6.1]) (fun _ => rfl) (fun o6 => ?_)
    refine s_if_ne (tgt := 50) X (dk okd_X12_grant 4 rfl) (by decide) ?_ ?_
    · refine s_run X ok_X12_grant 16 1 (pc' := 51) (vs' := [some (.ref p0), some (.int p1), some (.long p2), none]) (st' := [.int 0]) rfl ?_
      exact s_zret0 X hr (dk okd_X12_grant 10 rfl) (by decide) rfl rfl
    · refine s_run X ok_X12_grant 9 3 (pc' := 29) (vs' := [some (.ref p0), some (.int p1), some (.long p2), none]) (st' := [.long 1, .long p2, .ref p0]) rfl ?_
      refine s_ldc2 X cl_X12_174 (dk okd_X12_grant 5 rfl) ?_
      refine s_callS (rest := [.ref p0]) X E ms_X12_53 (c_X12_inRange o6.2 p2 1 1000000000) (ta0) rfl rfl (Nat.le_of_ble_eq_true rfl) (Nat.le_of_ble_eq_true rfl) (Nat.le_of_ble_eq_true rfl) (dk okd_X12_grant 6 rfl) (st' := fun v7 => [.int v7, .ref p0]) (fun _ => rfl) (fun v7 => ?_)
      refine s_jn (κ := Int32 → Option (Int32 × St)) (fun k9 => ∀ (x8 : Int32), Jd C 4 (QJ C oIS sS) o6.2 43 [some (.ref p0), some (.int p1), some (.long p2), none] [.int x8, .ref p0] (k9 x8)) (fun x8 => ?_) (fun k9 h10 => ?_)
      · refine s_run X ok_X12_grant 15 1 (pc' := 44) (vs' := [some (.ref p0), some (.int p1), some (.long p2), none]) (st' := [.int 2, .int x8, .ref p0]) rfl ?_
        refine s_callV (rest := []) X E mv_X12_81 (c_X12_throwsIf o6.2 p0 x8 2) (ta1 t0_) rfl (by decide) t0_ rfl rfl (Nat.le_of_ble_eq_true rfl) (Nat.le_of_ble_eq_true rfl) (Nat.le_of_ble_eq_true rfl) (dk okd_X12_grant 8 rfl) (st' := fun o11 => [.int o11.1]) (fun _ => rfl) (fun o11 => ?_)
        refine s_if_eq (tgt := 52) X (dk okd_X12_grant 9 rfl) (by decide) ?_ ?_
        · refine s_run X ok_X12_grant 17 2 (pc' := 54) (vs' := [some (.ref p0), some (.int p1), some (.long p2), none]) (st' := [.int p1, .ref p0]) rfl ?_
          refine s_callV (rest := []) X E mv_X12_128 (c_X12_isActive o11.2 p0 p1) (ta1 t0_) rfl (by decide) t0_ rfl rfl (Nat.le_of_ble_eq_true rfl) (Nat.le_of_ble_eq_true rfl) (Nat.le_of_ble_eq_true rfl) (dk okd_X12_grant 11 rfl) (st' := fun v12 => [.int v12]) (fun _ => rfl) (fun v12 => ?_)
          refine s_if_eq (tgt := 79) X (dk okd_X12_grant 12 rfl) (by decide) ?_ ?_
          · refine s_run X ok_X12_grant 26 1 (pc' := 80) (vs' := [some (.ref p0), some (.int p1), some (.long p2), none]) (st' := [.int 0]) rfl ?_
            exact s_zret0 X hr (dk okd_X12_grant 17 rfl) (by decide) rfl rfl
          · refine s_run X ok_X12_grant 19 3 (pc' := 63) (vs' := [some (.ref p0), some (.int p1), some (.long p2), none]) (st' := [.int p1, .ref p0, .long p2]) rfl ?_
            refine s_callV (rest := [.long p2]) X E mv_X12_256 (c_X12_allowanceOf o11.2 p0 p1) (ta1 t0_) rfl (by decide) t0_ rfl rfl (Nat.le_of_ble_eq_true rfl) (Nat.le_of_ble_eq_true rfl) (Nat.le_of_ble_eq_true rfl) (dk okd_X12_grant 13 rfl) (st' := fun v13 => [.long v13, .long p2]) (fun _ => rfl) (fun v13 => ?_)
            refine s_run X ok_X12_grant 22 1 (pc' := 67) (vs' := [some (.ref p0), some (.int p1), some (.long p2), none]) (st' := [.int (lg_cmp p2 v13)]) rfl ?_
            refine s_lif_gt (tgt := 79) X (dk okd_X12_grant 14 rfl) (by decide) ?_ ?_
            · refine s_run X ok_X12_grant 26 1 (pc' := 80) (vs' := [some (.ref p0), some (.int p1), some (.long p2), none]) (st' := [.int 0]) rfl ?_
              exact s_zret0 X hr (dk okd_X12_grant 17 rfl) (by decide) rfl rfl
            · refine s_run X ok_X12_grant 23 2 (pc' := 72) (vs' := [some (.ref p0), some (.int p1), some (.long p2), none]) (st' := [.ref p0, .long p2]) rfl ?_
              refine s_callV (rest := [.long p2]) X E mv_X12_253 (c_X12_fund o11.2 p0) (ta1 t0_) rfl (by decide) t0_ rfl rfl (Nat.le_of_ble_eq_true rfl) (Nat.le_of_ble_eq_true rfl) (Nat.le_of_ble_eq_true rfl) (dk okd_X12_grant 15 rfl) (st' := fun v14 => [.long v14, .long p2]) (fun _ => rfl) (fun v14 => ?_)
              refine s_run X ok_X12_grant 25 1 (pc' := 76) (vs' := [some (.ref p0), some (.int p1), some (.long p2), none]) (st' := [.int (lg_cmp p2 v14)]) rfl ?_
              refine s_lif_le (tgt := 81) X (dk okd_X12_grant 16 rfl) (by decide) ?_ ?_
              · refine s_run X ok_X12_grant 27 1 (pc' := 82) (vs' := [some (.ref p0), some (.int p1), some (.long p2), none]) (st' := [.ref p0]) rfl ?_
                refine s_getR X fl_X12_9 t0_ (dk okd_X12_grant 18 rfl) (fun a15 (t16 : tT C a15 14) => ?_)
                refine s_run X ok_X12_grant 28 2 (pc' := 88) (vs' := [some (.ref p0), some (.int p1), some (.long p2), none]) (st' := [.int 13, .ref a15, .int 13, .ref a15]) rfl ?_
                refine s_lald X t16 (dk okd_X12_grant 19 rfl) (fun v17 => ?_)
                refine s_run X ok_X12_grant 30 2 (pc' := 91) (vs' := [some (.ref p0), some (.int p1), some (.long p2), none]) (st' := [.long (v17 + p2), .int 13, .ref a15]) rfl ?_
                refine s_last X t16 (dk okd_X12_grant 20 rfl) (fun S18 => ?_)
                refine s_run X ok_X12_grant 32 4 (pc' := 97) (vs' := [some (.ref p0), some (.int p1), some (.long p2), none]) (st' := [.long p2, .int 8, .int p1, .ref p0]) rfl ?_
                refine s_callV (rest := []) X E mv_X12_224 (c_X12_add S18 p0 p1 8 p2) (ta1 t0_) rfl (by decide) t0_ rfl rfl (Nat.le_of_ble_eq_true rfl) (Nat.le_of_ble_eq_true rfl) (Nat.le_of_ble_eq_true rfl) (dk okd_X12_grant 21 rfl) (st' := fun S19 => []) (fun _ => rfl) (fun S19 => ?_)
                refine s_run X ok_X12_grant 36 5 (pc' := 105) (vs' := [some (.ref p0), some (.int p1), some (.long p2), none]) (st' := [.long (-p2), .int 4, .int p1, .ref p0]) rfl ?_
                refine s_callV (rest := []) X E mv_X12_224 (c_X12_add S19 p0 p1 4 (-p2)) (ta1 t0_) rfl (by decide) t0_ rfl rfl (Nat.le_of_ble_eq_true rfl) (Nat.le_of_ble_eq_true rfl) (Nat.le_of_ble_eq_true rfl) (dk okd_X12_grant 22 rfl) (st' := fun S20 => []) (fun _ => rfl) (fun S20 => ?_)
                refine s_run X ok_X12_grant 41 1 (pc' := 109) (vs' := [some (.ref p0), some (.int p1), some (.long p2), none]) (st' := [.int 1]) rfl ?_
                exact s_zret0 X hr (dk okd_X12_grant 23 rfl) (by decide) rfl rfl
              · refine s_run X ok_X12_grant 26 1 (pc' := 80) (vs' := [some (.ref p0), some (.int p1), some (.long p2), none]) (st' := [.int 0]) rfl ?_
                exact s_zret0 X hr (dk okd_X12_grant 17 rfl) (by decide) rfl rfl
        · refine s_run X ok_X12_grant 16 1 (pc' := 51) (vs' := [some (.ref p0), some (.int p1), some (.long p2), none]) (st' := [.int 0]) rfl ?_
          exact s_zret0 X hr (dk okd_X12_grant 10 rfl) (by decide) rfl rfl
      · refine s_if_ne (tgt := 42) X (dk okd_X12_grant 7 rfl) (by decide) ?_ ?_
        · refine s_run X ok_X12_grant 14 1 (pc' := 43) (vs' := [some (.ref p0), some (.int p1), some (.long p2), none]) (st' := [.int 0, .ref p0]) rfl ?_
          exact h10 0
        · refine s_run X ok_X12_grant 12 2 (pc' := 43) (vs' := [some (.ref p0), some (.int p1), some (.long p2), none]) (st' := [.int 1, .ref p0]) rfl ?_
          exact h10 1
  · refine s_if_ne (tgt := 18) X (dk okd_X12_grant 2 rfl) (by decide) ?_ ?_
    · refine s_run X ok_X12_grant 7 1 (pc' := 19) (vs' := [some (.ref p0), some (.int p1), some (.long p2), none]) (st' := [.int 0, .ref p0]) rfl ?_
      exact h5 0
    · refine s_run X ok_X12_grant 5 2 (pc' := 19) (vs' := [some (.ref p0), some (.int p1), some (.long p2), none]) (st' := [.int 1, .ref p0]) rfl ?_
      exact h5 1
def tab_X12_allowance : List En := [(0, 8, 0, 0), (1, 0, 0, 0), (5, 8, 0, 0), (6, 8, 0, 0), (7, 4, 1, 0), (14, 0, 0, 1), (15, 41, 19, 0), (18, 0, 0, 0), (19, 0, 0, 1), (26, 3, 0, 0), (27, 41, 35, 0), (30, 8, 0, 0), (31, 4, 1, 0)]
theorem ok_X12_allowance : tab_X12_allowance.all (okE cX12_allowance) = true := by decide +kernel
def ed_X12_allowance : List (Nat × Instr × Nat) := [(2, .putfield 50, 3), (8, .invokevirtual 85, 3), (11, .ifCond .ne 7, 3), (20, .invokevirtual 81, 3), (23, .ifCond .eq 7, 3), (32, .invokevirtual 256, 3), (35, .lreturn, 1)]
theorem okd_X12_allowance : ed_X12_allowance.all (okD cX12_allowance) = true := by decide +kernel
def f_X12_allowance (S : St) (p0 : Nat) (p1 : Int32) : Option (Int64 × St) := lt (uI S p0 2 0) fun (S1 : St) => cl (f_X12_isFranchisee S1 p0 p1) fun (v2 : Int32) => jn (κ := Int32 → Option (Int64 × St)) (fun x3 => cl (f_X12_throwsIf S1 p0 x3 1) fun (o6 : Int32 × St) => if o6.1 = 0 then (cl (f_X12_allowanceOf o6.2 p0 p1) fun (v7 : Int64) => some (v7, o6.2)) else (some (0, o6.2))) fun k4 => if v2 = 0 then (k4 1) else (k4 0)
set_option maxHeartbeats 4000000 in
set_option maxRecDepth 100000 in
theorem c_X12_allowance (S : St) (p0 : Nat) (p1 : Int32) : Ct yX12_allowance cX12_allowance 2 (some .long) 2 46 [.ref p0, .int p1] [(p0, 11)] S (f_X12_allowance S p0 p1) oLS sL := by
  refine Ct_of RX12 rfl (by decide) (Nat.le_of_ble_eq_true rfl) 0 (vs := [some (.ref p0), some (.int p1)]) rfl (fun C X E hr ht => ?_)
  have t0_ : tT C p0 11 := ht (p0, 11) (by simp)
  unfold f_X12_allowance
  refine s_run X ok_X12_allowance 0 2 (pc' := 2) (vs' := [some (.ref p0), some (.int p1)]) (st' := [.int 0, .ref p0]) rfl ?_
  refine s_putI X fp_X12_50 t0_ (dk okd_X12_allowance 0 rfl) (fun S1 => ?_)
  refine s_run X ok_X12_allowance 2 3 (pc' := 8) (vs' := [some (.ref p0), some (.int p1)]) (st' := [.int p1, .ref p0, .ref p0]) rfl ?_
  refine s_callV (rest := [.ref p0]) X E mv_X12_85 (c_X12_isFranchisee S1 p0 p1) (ta1 t0_) rfl (by decide) t0_ rfl rfl (Nat.le_of_ble_eq_true rfl) (Nat.le_of_ble_eq_true rfl) (Nat.le_of_ble_eq_true rfl) (dk okd_X12_allowance 1 rfl) (st' := fun v2 => [.int v2, .ref p0]) (fun _ => rfl) (fun v2 => ?_)
  refine s_jn (κ := Int32 → Option (Int64 × St)) (fun k4 => ∀ (x3 : Int32), Jd C 2 (QJ C oLS sL) S1 19 [some (.ref p0), some (.int p1)] [.int x3, .ref p0] (k4 x3)) (fun x3 => ?_) (fun k4 h5 => ?_)
  · refine s_run X ok_X12_allowance 8 1 (pc' := 20) (vs' := [some (.ref p0), some (.int p1)]) (st' := [.int 1, .int x3, .ref p0]) rfl ?_
    refine s_callV (rest := []) X E mv_X12_81 (c_X12_throwsIf S1 p0 x3 1) (ta1 t0_) rfl (by decide) t0_ rfl rfl (Nat.le_of_ble_eq_true rfl) (Nat.le_of_ble_eq_true rfl) (Nat.le_of_ble_eq_true rfl) (dk okd_X12_allowance 3 rfl) (st' := fun o6 => [.int o6.1]) (fun _ => rfl) (fun o6 => ?_)
    refine s_if_eq (tgt := 30) X (dk okd_X12_allowance 4 rfl) (by decide) ?_ ?_
    · refine s_run X ok_X12_allowance 11 2 (pc' := 32) (vs' := [some (.ref p0), some (.int p1)]) (st' := [.int p1, .ref p0]) rfl ?_
      refine s_callV (rest := []) X E mv_X12_256 (c_X12_allowanceOf o6.2 p0 p1) (ta1 t0_) rfl (by decide) t0_ rfl rfl (Nat.le_of_ble_eq_true rfl) (Nat.le_of_ble_eq_true rfl) (Nat.le_of_ble_eq_true rfl) (dk okd_X12_allowance 5 rfl) (st' := fun v7 => [.long v7]) (fun _ => rfl) (fun v7 => ?_)
      exact s_lret X hr (dk okd_X12_allowance 6 rfl) rfl rfl
    · refine s_run X ok_X12_allowance 9 2 (pc' := 35) (vs' := [some (.ref p0), some (.int p1)]) (st' := [.long 0]) rfl ?_
      exact s_lret X hr (dk okd_X12_allowance 6 rfl) rfl rfl
  · refine s_if_ne (tgt := 18) X (dk okd_X12_allowance 2 rfl) (by decide) ?_ ?_
    · refine s_run X ok_X12_allowance 7 1 (pc' := 19) (vs' := [some (.ref p0), some (.int p1)]) (st' := [.int 0, .ref p0]) rfl ?_
      exact h5 0
    · refine s_run X ok_X12_allowance 5 2 (pc' := 19) (vs' := [some (.ref p0), some (.int p1)]) (st' := [.int 1, .ref p0]) rfl ?_
      exact h5 1
def tab_X12_product : List En := [(0, 8, 0, 0), (4, 1, 0, 12), (7, 8, 0, 0), (8, 4, 1, 0), (9, 1, 0, 7), (14, 25, 0, 0)]
theorem ok_X12_product : tab_X12_product.all (okE cX12_product) = true := by decide +kernel
def ed_X12_product : List (Nat × Instr × Nat) := [(1, .getfield 9, 3), (6, .laload, 1), (11, .invokevirtual 63, 3), (15, .lreturn, 1)]
theorem okd_X12_product : ed_X12_product.all (okD cX12_product) = true := by decide +kernel
def f_X12_product (S : St) (p0 : Nat) (p1 : Int32) : Option (Int64) := lt (gR S p0 0) fun (a1 : Nat) => ldJ S a1 12 fun (v3 : Int64) => cl (f_X12_of S p0 p1 7) fun (v4 : Int64) => some (v3 * v4)
set_option maxHeartbeats 4000000 in
set_option maxRecDepth 100000 in
theorem c_X12_product (S : St) (p0 : Nat) (p1 : Int32) : Ct yX12_product cX12_product 2 (some .long) 1 22 [.ref p0, .int p1] [(p0, 11)] S (f_X12_product S p0 p1) oL (fun _ => S) := by
  refine Ct_of RX12 rfl (by decide) (Nat.le_of_ble_eq_true rfl) 0 (vs := [some (.ref p0), some (.int p1)]) rfl (fun C X E hr ht => ?_)
  have t0_ : tT C p0 11 := ht (p0, 11) (by simp)
  unfold f_X12_product
  refine s_run X ok_X12_product 0 1 (pc' := 1) (vs' := [some (.ref p0), some (.int p1)]) (st' := [.ref p0]) rfl ?_
  refine s_getR X fl_X12_9 t0_ (dk okd_X12_product 0 rfl) (fun a1 (t2 : tT C a1 14) => ?_)
  refine s_run X ok_X12_product 1 1 (pc' := 6) (vs' := [some (.ref p0), some (.int p1)]) (st' := [.int 12, .ref a1]) rfl ?_
  refine s_lald X t2 (dk okd_X12_product 1 rfl) (fun v3 => ?_)
  refine s_run X ok_X12_product 2 3 (pc' := 11) (vs' := [some (.ref p0), some (.int p1)]) (st' := [.int 7, .int p1, .ref p0, .long v3]) rfl ?_
  refine s_callV (rest := [.long v3]) X E mv_X12_63 (c_X12_of S p0 p1 7) (ta1 t0_) rfl (by decide) t0_ rfl rfl (Nat.le_of_ble_eq_true rfl) (Nat.le_of_ble_eq_true rfl) (Nat.le_of_ble_eq_true rfl) (dk okd_X12_product 2 rfl) (st' := fun v4 => [.long v4, .long v3]) (fun _ => rfl) (fun v4 => ?_)
  refine s_run X ok_X12_product 5 1 (pc' := 15) (vs' := [some (.ref p0), some (.int p1)]) (st' := [.long (v3 * v4)]) rfl ?_
  exact s_lret X hr (dk okd_X12_product 3 rfl) rfl rfl
def tab_X12_nationalShare : List En := [(0, 8, 0, 0), (1, 0, 0, 0), (5, 8, 0, 0), (6, 8, 0, 0), (7, 4, 1, 0), (14, 0, 0, 1), (15, 41, 19, 0), (18, 0, 0, 0), (19, 0, 0, 1), (26, 8, 0, 0), (30, 3, 0, 0), (31, 40, 0, 0), (35, 3, 0, 0), (37, 8, 0, 0), (41, 12, 2, 0), (42, 8, 0, 0), (46, 1, 0, 12), (49, 13, 4, 0), (51, 3, 0, 0), (52, 13, 6, 0), (54, 0, 0, 0), (55, 11, 8, 0), (57, 5, 8, 0), (59, 31, 0, 0), (60, 8, 0, 0), (64, 0, 0, 2), (66, 40, 0, 0), (70, 7, 4, 0), (72, 8, 0, 0), (73, 5, 8, 0), (78, 6, 2, 0), (80, 24, 0, 0), (81, 13, 4, 0), (83, 8, 0, 0), (84, 5, 8, 0), (89, 6, 2, 0), (91, 8, 0, 0), (92, 4, 1, 0), (96, 6, 2, 0), (98, 24, 0, 0), (99, 13, 9, 0), (101, 7, 6, 0), (103, 7, 9, 0), (105, 3, 0, 0), (106, 40, 0, 0), (110, 7, 9, 0), (112, 3, 0, 0), (113, 40, 0, 0), (117, 5, 8, 0), (119, 4, 1, 0), (123, 3, 1, 0), (124, 41, 128, 0), (127, 3, 0, 0), (128, 23, 0, 0), (129, 13, 6, 0), (131, 16, 8, 1), (134, 41, 57, 0), (137, 8, 0, 0), (138, 4, 1, 0), (142, 6, 2, 0), (144, 7, 6, 0), (146, 7, 4, 0), (148, 40, 0, 0), (152, 3, 1, 0), (153, 41, 157, 0), (156, 3, 0, 0), (157, 23, 0, 0)]
theorem ok_X12_nationalShare : tab_X12_nationalShare.all (okE cX12_nationalShare) = true := by decide +kernel
def ed_X12_nationalShare : List (Nat × Instr × Nat) := [(2, .putfield 50, 3), (8, .invokevirtual 85, 3), (11, .ifCond .ne 7, 3), (20, .invokevirtual 81, 3), (23, .ifCond .ne 12, 3), (27, .invokevirtual 249, 3), (32, .ifCond .ne 5, 3), (36, .lreturn, 1), (38, .invokevirtual 249, 3), (43, .getfield 9, 3), (48, .laload, 1), (61, .getfield 9, 3), (65, .laload, 1), (67, .ifCond .ge 70, 3), (75, .invokevirtual 259, 3), (79, .ldiv, 1), (86, .invokevirtual 259, 3), (90, .lrem, 1), (93, .invokevirtual 259, 3), (97, .lrem, 1), (107, .ifCond .gt 16, 3), (114, .ifCond .ne 13, 3), (120, .if_icmp .ge 7, 3), (139, .invokevirtual 259, 3), (143, .ldiv, 1), (149, .ifCond .ge 7, 3), (158, .lreturn, 1)]
theorem okd_X12_nationalShare : ed_X12_nationalShare.all (okD cX12_nationalShare) = true := by decide +kernel
def f_X12_nationalShare (S : St) (p0 : Nat) (p1 : Int32) : Option (Int64 × St) := lt (uI S p0 2 0) fun (S1 : St) => cl (f_X12_isFranchisee S1 p0 p1) fun (v2 : Int32) => jn (κ := Int32 → Option (Int64 × St)) (fun x3 => cl (f_X12_throwsIf S1 p0 x3 1) fun (o6 : Int32 × St) => if o6.1 = 0 then (cl (f_X12_allContributions o6.2 p0) fun (v7 : Int64) => if v7 = 0 then (some (0, o6.2)) else (cl (f_X12_allContributions o6.2 p0) fun (v8 : Int64) => lt (gR o6.2 p0 0) fun (a9 : Nat) => ldJ o6.2 a9 12 fun (v11 : Int64) => jn (κ := Int64 → Int64 → Option (Int64 × St)) (fun x12 x13 => cl (f_X12_product o6.2 p0 p1) fun (v16 : Int64) => nzL v8 <| jn (κ := Int64 → Option (Int64 × St)) (fun x17 => some (((v16 / v8) + x17), o6.2)) fun k18 => if x12 ≤ x13 then (k18 0) else (k18 1)) fun k14 => lp (κ := Int64 → Int64 → Int32 → Option (Int64 × St)) (fun _ _ _ => none) (fun k23 x20 x21 x22 => lt (gR o6.2 p0 0) fun (a25 : Nat) => ldJ o6.2 a25 2 fun (v27 : Int64) => if v27 ≤ (Int32.toInt64 x22) then (k14 x20 x21) else (cl (f_X12_product o6.2 p0 x22) fun (v28 : Int64) => nzL v8 <| lt (x20 - (v28 / v8)) fun (v29 : Int64) => cl (f_X12_product o6.2 p0 x22) fun (v30 : Int64) => nzL v8 <| cl (f_X12_product o6.2 p0 p1) fun (v31 : Int64) => nzL v8 <| lt ((v30 - v30 / v8 * v8) - (v31 - v31 / v8 * v8)) fun (v32 : Int64) => jn (κ := Int64 → Option (Int64 × St)) (fun x33 => lt (x21 + x33) fun (v36 : Int64) => k23 v29 v36 (x22 + 1)) fun k34 => jn (κ := Option (Int64 × St)) (k34 1) fun k37 => if 0 < v32 then (k37) else (jn (κ := Option (Int64 × St)) (k34 0) fun k39 => if v32 = 0 then (if p1 ≤ x22 then (k39) else (k37)) else (k39)))) FU v11 0 0)) else (some (0, o6.2))) fun k4 => if v2 = 0 then (k4 1) else (k4 0)
set_option maxHeartbeats 4000000 in
set_option maxRecDepth 100000 in
theorem c_X12_nationalShare (S : St) (p0 : Nat) (p1 : Int32) : Ct yX12_nationalShare cX12_nationalShare 11 (some .long) 2 46 [.ref p0, .int p1] [(p0, 11)] S (f_X12_nationalShare S p0 p1) oLS sL := by
  refine Ct_of RX12 rfl (by decide) (Nat.le_of_ble_eq_true rfl) 9 (vs := [some (.ref p0), some (.int p1), none, none, none, none, none, none, none, none, none]) rfl (fun C X E hr ht => ?_)
  have t0_ : tT C p0 11 := ht (p0, 11) (by simp)
  unfold f_X12_nationalShare
  refine s_run X ok_X12_nationalShare 0 2 (pc' := 2) (vs' := [some (.ref p0), some (.int p1), none, none, none, none, none, none, none, none, none]) (st' := [.int 0, .ref p0]) rfl ?_
  refine s_putI X fp_X12_50 t0_ (dk okd_X12_nationalShare 0 rfl) (fun S1 => ?_)
  refine s_run X ok_X12_nationalShare 2 3 (pc' := 8) (vs' := [some (.ref p0), some (.int p1), none, none, none, none, none, none, none, none, none]) (st' := [.int p1, .ref p0, .ref p0]) rfl ?_
  refine s_callV (rest := [.ref p0]) X E mv_X12_85 (c_X12_isFranchisee S1 p0 p1) (ta1 t0_) rfl (by decide) t0_ rfl rfl (Nat.le_of_ble_eq_true rfl) (Nat.le_of_ble_eq_true rfl) (Nat.le_of_ble_eq_true rfl) (dk okd_X12_nationalShare 1 rfl) (st' := fun v2 => [.int v2, .ref p0]) (fun _ => rfl) (fun v2 => ?_)
  refine s_jn (κ := Int32 → Option (Int64 × St)) (fun k4 => ∀ (x3 : Int32), Jd C 11 (QJ C oLS sL) S1 19 [some (.ref p0), some (.int p1), none, none, none, none, none, none, none, none, none] [.int x3, .ref p0] (k4 x3)) (fun x3 => ?_) (fun k4 h5 => ?_)
  · refine s_run X ok_X12_nationalShare 8 1 (pc' := 20) (vs' := [some (.ref p0), some (.int p1), none, none, none, none, none, none, none, none, none]) (st' := [.int 1, .int x3, .ref p0]) rfl ?_
    refine s_callV (rest := []) X E mv_X12_81 (c_X12_throwsIf S1 p0 x3 1) (ta1 t0_) rfl (by decide) t0_ rfl rfl (Nat.le_of_ble_eq_true rfl) (Nat.le_of_ble_eq_true rfl) (Nat.le_of_ble_eq_true rfl) (dk okd_X12_nationalShare 3 rfl) (st' := fun o6 => [.int o6.1]) (fun _ => rfl) (fun o6 => ?_)
    refine s_if_ne (tgt := 35) X (dk okd_X12_nationalShare 4 rfl) (by decide) ?_ ?_
    · refine s_run X ok_X12_nationalShare 12 1 (pc' := 36) (vs' := [some (.ref p0), some (.int p1), none, none, none, none, none, none, none, none, none]) (st' := [.long 0]) rfl ?_
      exact s_lret X hr (dk okd_X12_nationalShare 7 rfl) rfl rfl
    · refine s_run X ok_X12_nationalShare 9 1 (pc' := 27) (vs' := [some (.ref p0), some (.int p1), none, none, none, none, none, none, none, none, none]) (st' := [.ref p0]) rfl ?_
      refine s_callV (rest := []) X E mv_X12_249 (c_X12_allContributions o6.2 p0) (ta1 t0_) rfl (by decide) t0_ rfl rfl (Nat.le_of_ble_eq_true rfl) (Nat.le_of_ble_eq_true rfl) (Nat.le_of_ble_eq_true rfl) (dk okd_X12_nationalShare 5 rfl) (st' := fun v7 => [.long v7]) (fun _ => rfl) (fun v7 => ?_)
      refine s_run X ok_X12_nationalShare 10 2 (pc' := 32) (vs' := [some (.ref p0), some (.int p1), none, none, none, none, none, none, none, none, none]) (st' := [.int (lg_cmp v7 0)]) rfl ?_
      refine s_lif_ne (tgt := 37) X (dk okd_X12_nationalShare 6 rfl) (by decide) ?_ ?_
      · refine s_run X ok_X12_nationalShare 13 1 (pc' := 38) (vs' := [some (.ref p0), some (.int p1), none, none, none, none, none, none, none, none, none]) (st' := [.ref p0]) rfl ?_
        refine s_callV (rest := []) X E mv_X12_249 (c_X12_allContributions o6.2 p0) (ta1 t0_) rfl (by decide) t0_ rfl rfl (Nat.le_of_ble_eq_true rfl) (Nat.le_of_ble_eq_true rfl) (Nat.le_of_ble_eq_true rfl) (dk okd_X12_nationalShare 8 rfl) (st' := fun v8 => [.long v8]) (fun _ => rfl) (fun v8 => ?_)
        refine s_run X ok_X12_nationalShare 14 2 (pc' := 43) (vs' := [some (.ref p0), some (.int p1), some (.long v8), none, none, none, none, none, none, none, none]) (st' := [.ref p0]) rfl ?_
        refine s_getR X fl_X12_9 t0_ (dk okd_X12_nationalShare 9 rfl) (fun a9 (t10 : tT C a9 14) => ?_)
        refine s_run X ok_X12_nationalShare 16 1 (pc' := 48) (vs' := [some (.ref p0), some (.int p1), some (.long v8), none, none, none, none, none, none, none, none]) (st' := [.int 12, .ref a9]) rfl ?_
        refine s_lald X t10 (dk okd_X12_nationalShare 10 rfl) (fun v11 => ?_)
        refine s_run X ok_X12_nationalShare 17 5 (pc' := 57) (vs' := [some (.ref p0), some (.int p1), some (.long v8), none, some (.long v11), none, some (.long 0), none, some (.int 0), none, none]) (st' := []) rfl ?_
        refine s_jn (κ := Int64 → Int64 → Option (Int64 × St)) (fun k14 => ∀ (x12 : Int64) (x13 : Int64), Jd C 11 (QJ C oLS sL) o6.2 137 [some (.ref p0), some (.int p1), some (.long v8), none, some (.long x12), none, some (.long x13), none, none, none, none] [] (k14 x12 x13)) (fun x12 x13 => ?_) (fun k14 h15 => ?_)
        · refine s_run X ok_X12_nationalShare 57 2 (pc' := 139) (vs' := [some (.ref p0), some (.int p1), some (.long v8), none, some (.long x12), none, some (.long x13), none, none, none, none]) (st' := [.int p1, .ref p0]) rfl ?_
          refine s_callV (rest := []) X E mv_X12_259 (c_X12_product o6.2 p0 p1) (ta1 t0_) rfl (by decide) t0_ rfl rfl (Nat.le_of_ble_eq_true rfl) (Nat.le_of_ble_eq_true rfl) (Nat.le_of_ble_eq_true rfl) (dk okd_X12_nationalShare 23 rfl) (st' := fun v16 => [.long v16]) (fun _ => rfl) (fun v16 => ?_)
          refine s_run X ok_X12_nationalShare 59 1 (pc' := 143) (vs' := [some (.ref p0), some (.int p1), some (.long v8), none, some (.long x12), none, some (.long x13), none, none, none, none]) (st' := [.long v8, .long v16]) rfl ?_
          refine s_ldiv X (dk okd_X12_nationalShare 24 rfl) ?_
          refine s_run X ok_X12_nationalShare 60 3 (pc' := 149) (vs' := [some (.ref p0), some (.int p1), some (.long v8), none, some (.long x12), none, some (.long x13), none, none, none, none]) (st' := [.int (lg_cmp x13 x12), .long (v16 / v8)]) rfl ?_
          refine s_jn (κ := Int64 → Option (Int64 × St)) (fun k18 => ∀ (x17 : Int64), Jd C 11 (QJ C oLS sL) o6.2 157 [none, none, none, none, none, none, none, none, none, none, none] [.long x17, .long (v16 / v8)] (k18 x17)) (fun x17 => ?_) (fun k18 h19 => ?_)
          · refine s_run X ok_X12_nationalShare 66 1 (pc' := 158) (vs' := [none, none, none, none, none, none, none, none, none, none, none]) (st' := [.long ((v16 / v8) + x17)]) rfl ?_
            exact s_lret X hr (dk okd_X12_nationalShare 26 rfl) rfl rfl
          · refine s_lif_ge (tgt := 156) X (dk okd_X12_nationalShare 25 rfl) (by decide) ?_ ?_
            · refine s_run X ok_X12_nationalShare 65 1 (pc' := 157) (vs' := [some (.ref p0), some (.int p1), some (.long v8), none, some (.long x12), none, some (.long x13), none, none, none, none]) (st' := [.long 0, .long (v16 / v8)]) rfl ?_
              exact s_less [false, false, false, false, false, false, false, false, false, false, false] rfl (h19 0)
            · refine s_run X ok_X12_nationalShare 63 2 (pc' := 157) (vs' := [some (.ref p0), some (.int p1), some (.long v8), none, some (.long x12), none, some (.long x13), none, none, none, none]) (st' := [.long 1, .long (v16 / v8)]) rfl ?_
              exact s_less [false, false, false, false, false, false, false, false, false, false, false] rfl (h19 1)
        · refine s_lp (κ := Int64 → Int64 → Int32 → Option (Int64 × St)) (fun k23 => ∀ (x20 : Int64) (x21 : Int64) (x22 : Int32), Jd C 11 (QJ C oLS sL) o6.2 57 [some (.ref p0), some (.int p1), some (.long v8), none, some (.long x20), none, some (.long x21), none, some (.int x22), none, none] [] (k23 x20 x21 x22)) (fun _ _ _ => s_none) (fun k23 h24 x20 x21 x22 => ?_) FU v11 0 0
          refine s_run X ok_X12_nationalShare 22 3 (pc' := 61) (vs' := [some (.ref p0), some (.int p1), some (.long v8), none, some (.long x20), none, some (.long x21), none, some (.int x22), none, none]) (st' := [.ref p0, .long (Int32.toInt64 x22)]) rfl ?_
          refine s_getR X fl_X12_9 t0_ (dk okd_X12_nationalShare 11 rfl) (fun a25 (t26 : tT C a25 14) => ?_)
          refine s_run X ok_X12_nationalShare 25 1 (pc' := 65) (vs' := [some (.ref p0), some (.int p1), some (.long v8), none, some (.long x20), none, some (.long x21), none, some (.int x22), none, none]) (st' := [.int 2, .ref a25, .long (Int32.toInt64 x22)]) rfl ?_
          refine s_lald X t26 (dk okd_X12_nationalShare 12 rfl) (fun v27 => ?_)
          refine s_run X ok_X12_nationalShare 26 1 (pc' := 67) (vs' := [some (.ref p0), some (.int p1), some (.long v8), none, some (.long x20), none, some (.long x21), none, some (.int x22), none, none]) (st' := [.int (lg_cmp (Int32.toInt64 x22) v27)]) rfl ?_
          refine s_lif_ge (tgt := 137) X (dk okd_X12_nationalShare 13 rfl) (by decide) ?_ ?_
          · exact s_less [true, true, true, false, true, false, true, false, false, false, false] rfl (h15 x20 x21)
          · refine s_run X ok_X12_nationalShare 27 3 (pc' := 75) (vs' := [some (.ref p0), some (.int p1), some (.long v8), none, some (.long x20), none, some (.long x21), none, some (.int x22), none, none]) (st' := [.int x22, .ref p0, .long x20]) rfl ?_
            refine s_callV (rest := [.long x20]) X E mv_X12_259 (c_X12_product o6.2 p0 x22) (ta1 t0_) rfl (by decide) t0_ rfl rfl (Nat.le_of_ble_eq_true rfl) (Nat.le_of_ble_eq_true rfl) (Nat.le_of_ble_eq_true rfl) (dk okd_X12_nationalShare 14 rfl) (st' := fun v28 => [.long v28, .long x20]) (fun _ => rfl) (fun v28 => ?_)
            refine s_run X ok_X12_nationalShare 30 1 (pc' := 79) (vs' := [some (.ref p0), some (.int p1), some (.long v8), none, some (.long x20), none, some (.long x21), none, some (.int x22), none, none]) (st' := [.long v8, .long v28, .long x20]) rfl ?_
            refine s_ldiv X (dk okd_X12_nationalShare 15 rfl) ?_
            refine s_run X ok_X12_nationalShare 31 1 (pc' := 81) (vs' := [some (.ref p0), some (.int p1), some (.long v8), none, some (.long x20), none, some (.long x21), none, some (.int x22), none, none]) (st' := [.long (x20 - (v28 / v8))]) rfl ?_
            refine s_nmJ (fun v29 => ?_)
            refine s_run X ok_X12_nationalShare 32 3 (pc' := 86) (vs' := [some (.ref p0), some (.int p1), some (.long v8), none, some (.long v29), none, some (.long x21), none, some (.int x22), none, none]) (st' := [.int x22, .ref p0]) rfl ?_
            refine s_callV (rest := []) X E mv_X12_259 (c_X12_product o6.2 p0 x22) (ta1 t0_) rfl (by decide) t0_ rfl rfl (Nat.le_of_ble_eq_true rfl) (Nat.le_of_ble_eq_true rfl) (Nat.le_of_ble_eq_true rfl) (dk okd_X12_nationalShare 16 rfl) (st' := fun v30 => [.long v30]) (fun _ => rfl) (fun v30 => ?_)
            refine s_run X ok_X12_nationalShare 35 1 (pc' := 90) (vs' := [some (.ref p0), some (.int p1), some (.long v8), none, some (.long v29), none, some (.long x21), none, some (.int x22), none, none]) (st' := [.long v8, .long v30]) rfl ?_
            refine s_lrem X (dk okd_X12_nationalShare 17 rfl) ?_
            refine s_run X ok_X12_nationalShare 36 2 (pc' := 93) (vs' := [some (.ref p0), some (.int p1), some (.long v8), none, some (.long v29), none, some (.long x21), none, some (.int x22), none, none]) (st' := [.int p1, .ref p0, .long (v30 - v30 / v8 * v8)]) rfl ?_
            refine s_callV (rest := [.long (v30 - v30 / v8 * v8)]) X E mv_X12_259 (c_X12_product o6.2 p0 p1) (ta1 t0_) rfl (by decide) t0_ rfl rfl (Nat.le_of_ble_eq_true rfl) (Nat.le_of_ble_eq_true rfl) (Nat.le_of_ble_eq_true rfl) (dk okd_X12_nationalShare 18 rfl) (st' := fun v31 => [.long v31, .long (v30 - v30 / v8 * v8)]) (fun _ => rfl) (fun v31 => ?_)
            refine s_run X ok_X12_nationalShare 38 1 (pc' := 97) (vs' := [some (.ref p0), some (.int p1), some (.long v8), none, some (.long v29), none, some (.long x21), none, some (.int x22), none, none]) (st' := [.long v8, .long v31, .long (v30 - v30 / v8 * v8)]) rfl ?_
            refine s_lrem X (dk okd_X12_nationalShare 19 rfl) ?_
            refine s_run X ok_X12_nationalShare 39 1 (pc' := 99) (vs' := [some (.ref p0), some (.int p1), some (.long v8), none, some (.long v29), none, some (.long x21), none, some (.int x22), none, none]) (st' := [.long ((v30 - v30 / v8 * v8) - (v31 - v31 / v8 * v8))]) rfl ?_
            refine s_nmJ (fun v32 => ?_)
            refine s_run X ok_X12_nationalShare 40 5 (pc' := 107) (vs' := [some (.ref p0), some (.int p1), some (.long v8), none, some (.long v29), none, some (.long x21), none, some (.int x22), some (.long v32), none]) (st' := [.int (lg_cmp v32 0), .long x21]) rfl ?_
            refine s_jn (κ := Int64 → Option (Int64 × St)) (fun k34 => ∀ (x33 : Int64), Jd C 11 (QJ C oLS sL) o6.2 128 [some (.ref p0), some (.int p1), some (.long v8), none, some (.long v29), none, none, none, some (.int x22), none, none] [.long x33, .long x21] (k34 x33)) (fun x33 => ?_) (fun k34 h35 => ?_)
            · refine s_run X ok_X12_nationalShare 53 1 (pc' := 129) (vs' := [some (.ref p0), some (.int p1), some (.long v8), none, some (.long v29), none, none, none, some (.int x22), none, none]) (st' := [.long (x21 + x33)]) rfl ?_
              refine s_nmJ (fun v36 => ?_)
              refine s_run X ok_X12_nationalShare 54 3 (pc' := 57) (vs' := [some (.ref p0), some (.int p1), some (.long v8), none, some (.long v29), none, some (.long v36), none, some (.int (x22 + 1)), none, none]) (st' := []) rfl ?_
              exact h24 v29 v36 (x22 + 1)
            · refine s_jn (κ := Option (Int64 × St)) (fun k37 => Jd C 11 (QJ C oLS sL) o6.2 123 [some (.ref p0), some (.int p1), some (.long v8), none, some (.long v29), none, none, none, some (.int x22), none, none] [.long x21] k37) ?_ (fun k37 h38 => ?_)
              · refine s_run X ok_X12_nationalShare 50 2 (pc' := 128) (vs' := [some (.ref p0), some (.int p1), some (.long v8), none, some (.long v29), none, none, none, some (.int x22), none, none]) (st' := [.long 1, .long x21]) rfl ?_
                exact h35 1
              · refine s_lif_gt (tgt := 123) X (dk okd_X12_nationalShare 20 rfl) (by decide) ?_ ?_
                · exact s_less [true, true, true, false, true, false, false, false, true, false, false] rfl (h38)
                · refine s_run X ok_X12_nationalShare 45 3 (pc' := 114) (vs' := [some (.ref p0), some (.int p1), some (.long v8), none, some (.long v29), none, some (.long x21), none, some (.int x22), some (.long v32), none]) (st' := [.int (lg_cmp v32 0), .long x21]) rfl ?_
                  refine s_jn (κ := Option (Int64 × St)) (fun k39 => Jd C 11 (QJ C oLS sL) o6.2 127 [some (.ref p0), some (.int p1), some (.long v8), none, some (.long v29), none, none, none, some (.int x22), none, none] [.long x21] k39) ?_ (fun k39 h40 => ?_)
                  · refine s_run X ok_X12_nationalShare 52 1 (pc' := 128) (vs' := [some (.ref p0), some (.int p1), some (.long v8), none, some (.long v29), none, none, none, some (.int x22), none, none]) (st' := [.long 0, .long x21]) rfl ?_
                    exact h35 0
                  · refine s_lif_ne (tgt := 127) X (dk okd_X12_nationalShare 21 rfl) (by decide) ?_ ?_
                    · exact s_less [true, true, true, false, true, false, false, false, true, false, false] rfl (h40)
                    · refine s_run X ok_X12_nationalShare 48 2 (pc' := 120) (vs' := [some (.ref p0), some (.int p1), some (.long v8), none, some (.long v29), none, some (.long x21), none, some (.int x22), some (.long v32), none]) (st' := [.int p1, .int x22, .long x21]) rfl ?_
                      refine s_icmp_ge (tgt := 127) X (dk okd_X12_nationalShare 22 rfl) (by decide) ?_ ?_
                      · exact s_less [true, true, true, false, true, false, false, false, true, false, false] rfl (h40)
                      · exact s_less [true, true, true, false, true, false, false, false, true, false, false] rfl (h38)
      · refine s_run X ok_X12_nationalShare 12 1 (pc' := 36) (vs' := [some (.ref p0), some (.int p1), none, none, none, none, none, none, none, none, none]) (st' := [.long 0]) rfl ?_
        exact s_lret X hr (dk okd_X12_nationalShare 7 rfl) rfl rfl
  · refine s_if_ne (tgt := 18) X (dk okd_X12_nationalShare 2 rfl) (by decide) ?_ ?_
    · refine s_run X ok_X12_nationalShare 7 1 (pc' := 19) (vs' := [some (.ref p0), some (.int p1), none, none, none, none, none, none, none, none, none]) (st' := [.int 0, .ref p0]) rfl ?_
      exact h5 0
    · refine s_run X ok_X12_nationalShare 5 2 (pc' := 19) (vs' := [some (.ref p0), some (.int p1), none, none, none, none, none, none, none, none, none]) (st' := [.int 1, .ref p0]) rfl ?_
      exact h5 1
def tab_X12_requestTransfer : List En := [(0, 8, 0, 0), (1, 0, 0, 0), (5, 8, 0, 0), (6, 8, 0, 0), (7, 4, 1, 0), (14, 0, 0, 1), (15, 41, 19, 0), (18, 0, 0, 0), (19, 0, 0, 1), (26, 8, 0, 0), (27, 4, 2, 0), (28, 31, 0, 0), (29, 3, 0, 0), (39, 6, 3, 0), (40, 3, 0, 0), (50, 0, 0, 1), (51, 41, 55, 0), (54, 0, 0, 0), (55, 0, 0, 2), (62, 0, 0, 0), (64, 8, 0, 0), (65, 4, 1, 0), (72, 8, 0, 0), (73, 4, 1, 0), (80, 8, 0, 0), (81, 4, 1, 0), (82, 0, 0, 4), (86, 3, 0, 0), (87, 40, 0, 0), (91, 4, 2, 0), (92, 31, 0, 0), (93, 8, 0, 0), (97, 1, 0, 10), (100, 40, 0, 0), (104, 0, 0, 0), (106, 8, 0, 0), (107, 4, 1, 0), (108, 1, 0, 9), (110, 3, 1, 0), (114, 8, 0, 0), (115, 4, 1, 0), (116, 1, 0, 10), (118, 4, 2, 0), (119, 31, 0, 0), (123, 8, 0, 0), (124, 4, 1, 0), (125, 1, 0, 11), (127, 6, 3, 0), (131, 8, 0, 0), (132, 4, 1, 0), (133, 1, 0, 12), (135, 8, 0, 0), (139, 0, 0, 0), (144, 8, 0, 0), (145, 4, 1, 0), (146, 1, 0, 13), (148, 3, 0, 0), (152, 8, 0, 0), (153, 4, 1, 0), (154, 1, 0, 14), (156, 3, 0, 0), (160, 8, 0, 0), (161, 4, 1, 0), (162, 1, 0, 15), (164, 3, 0, 0), (168, 0, 0, 1)]
theorem ok_X12_requestTransfer : tab_X12_requestTransfer.all (okE cX12_requestTransfer) = true := by decide +kernel
def ed_X12_requestTransfer : List (Nat × Instr × Nat) := [(2, .putfield 50, 3), (8, .invokevirtual 85, 3), (11, .ifCond .ne 7, 3), (20, .invokevirtual 81, 3), (23, .ifCond .ne 39, 3), (30, .ldc2_w 262, 3), (33, .invokestatic 53, 3), (36, .ifCond .eq 14, 3), (41, .ldc2_w 174, 3), (44, .invokestatic 53, 3), (47, .ifCond .ne 7, 3), (56, .invokevirtual 81, 3), (59, .ifCond .eq 5, 3), (63, .ireturn, 1), (66, .invokevirtual 128, 3), (69, .ifCond .eq 35, 3), (74, .invokevirtual 246, 3), (77, .ifCond .ne 27, 3), (83, .invokevirtual 63, 3), (88, .ifCond .gt 16, 3), (94, .getfield 9, 3), (99, .laload, 1), (101, .ifCond .ge 5, 3), (105, .ireturn, 1), (111, .invokevirtual 183, 3), (120, .invokevirtual 183, 3), (128, .invokevirtual 183, 3), (136, .getfield 9, 3), (140, .laload, 1), (141, .invokevirtual 183, 3), (149, .invokevirtual 183, 3), (157, .invokevirtual 183, 3), (165, .invokevirtual 183, 3), (169, .ireturn, 1)]
theorem okd_X12_requestTransfer : ed_X12_requestTransfer.all (okD cX12_requestTransfer) = true := by decide +kernel
def f_X12_requestTransfer (S : St) (p0 : Nat) (p1 : Int32) (p2 : Int32) (p3 : Int64) : Option (Int32 × St) := lt (uI S p0 2 0) fun (S1 : St) => cl (f_X12_isFranchisee S1 p0 p1) fun (v2 : Int32) => jn (κ := Int32 → Option (Int32 × St)) (fun x3 => cl (f_X12_throwsIf S1 p0 x3 1) fun (o6 : Int32 × St) => if o6.1 = 0 then (cl (f_X12_inRange o6.2 (Int32.toInt64 p2) 0 999) fun (v7 : Int32) => jn (κ := Int32 → Option (Int32 × St)) (fun x8 => cl (f_X12_throwsIf o6.2 p0 x8 2) fun (o11 : Int32 × St) => if o11.1 = 0 then (cl (f_X12_isActive o11.2 p0 p1) fun (v12 : Int32) => if v12 = 0 then (some (0, o11.2)) else (cl (f_X12_isOpenTransfer o11.2 p0 p1) fun (v13 : Int32) => if v13 = 0 then (cl (f_X12_of o11.2 p0 p1 4) fun (v14 : Int64) => if 0 < v14 then (some (0, o11.2)) else (lt (gR o11.2 p0 0) fun (a15 : Nat) => ldJ o11.2 a15 10 fun (v17 : Int64) => if v17 ≤ (Int32.toInt64 p2) then (cl (f_X12_set o11.2 p0 p1 9 1) fun (S18 : St) => cl (f_X12_set S18 p0 p1 10 (Int32.toInt64 p2)) fun (S19 : St) => cl (f_X12_set S19 p0 p1 11 p3) fun (S20 : St) => lt (gR S20 p0 0) fun (a21 : Nat) => ldJ S20 a21 0 fun (v23 : Int64) => cl (f_X12_set S20 p0 p1 12 v23) fun (S24 : St) => cl (f_X12_set S24 p0 p1 13 0) fun (S25 : St) => cl (f_X12_set S25 p0 p1 14 0) fun (S26 : St) => cl (f_X12_set S26 p0 p1 15 0) fun (S27 : St) => some (1, S27)) else (some (0, o11.2)))) else (some (0, o11.2)))) else (some (0, o11.2))) fun k9 => jn (κ := Option (Int32 × St)) (k9 1) fun k28 => if v7 = 0 then (k28) else (cl (f_X12_inRange o6.2 p3 0 1000000000) fun (v30 : Int32) => if v30 = 0 then (k28) else (k9 0))) else (some (0, o6.2))) fun k4 => if v2 = 0 then (k4 1) else (k4 0)
set_option maxHeartbeats 4000000 in
set_option maxRecDepth 100000 in
theorem c_X12_requestTransfer (S : St) (p0 : Nat) (p1 : Int32) (p2 : Int32) (p3 : Int64) : Ct yX12_requestTransfer cX12_requestTransfer 5 (some .boolean) 2 46 [.ref p0, .int p1, .int p2, .long p3] [(p0, 11)] S (f_X12_requestTransfer S p0 p1 p2 p3) oIS sS := by
  refine Ct_of RX12 rfl (by decide) (Nat.le_of_ble_eq_true rfl) 0 (vs := [some (.ref p0), some (.int p1), some (.int p2), some (.long p3), none]) rfl (fun C X E hr ht => ?_)
  have t0_ : tT C p0 11 := ht (p0, 11) (by simp)
  unfold f_X12_requestTransfer
  refine s_run X ok_X12_requestTransfer 0 2 (pc' := 2) (vs' := [some (.ref p0), some (.int p1), some (.int p2), some (.long p3), none]) (st' := [.int 0, .ref p0]) rfl ?_
  refine s_putI X fp_X12_50 t0_ (dk okd_X12_requestTransfer 0 rfl) (fun S1 => ?_)
  refine s_run X ok_X12_requestTransfer 2 3 (pc' := 8) (vs' := [some (.ref p0), some (.int p1), some (.int p2), some (.long p3), none]) (st' := [.int p1, .ref p0, .ref p0]) rfl ?_
  refine s_callV (rest := [.ref p0]) X E mv_X12_85 (c_X12_isFranchisee S1 p0 p1) (ta1 t0_) rfl (by decide) t0_ rfl rfl (Nat.le_of_ble_eq_true rfl) (Nat.le_of_ble_eq_true rfl) (Nat.le_of_ble_eq_true rfl) (dk okd_X12_requestTransfer 1 rfl) (st' := fun v2 => [.int v2, .ref p0]) (fun _ => rfl) (fun v2 => ?_)
  refine s_jn (κ := Int32 → Option (Int32 × St)) (fun k4 => ∀ (x3 : Int32), Jd C 5 (QJ C oIS sS) S1 19 [some (.ref p0), some (.int p1), some (.int p2), some (.long p3), none] [.int x3, .ref p0] (k4 x3)) (fun x3 => ?_) (fun k4 h5 => ?_)
  · refine s_run X ok_X12_requestTransfer 8 1 (pc' := 20) (vs' := [some (.ref p0), some (.int p1), some (.int p2), some (.long p3), none]) (st' := [.int 1, .int x3, .ref p0]) rfl ?_
    refine s_callV (rest := []) X E mv_X12_81 (c_X12_throwsIf S1 p0 x3 1) (ta1 t0_) rfl (by decide) t0_ rfl rfl (Nat.le_of_ble_eq_true rfl) (Nat.le_of_ble_eq_true rfl) (Nat.le_of_ble_eq_true rfl) (dk okd_X12_requestTransfer 3 rfl) (st' := fun o6 => [.int o6.1]) (fun _ => rfl) (fun o6 => ?_)
    refine s_if_ne (tgt := 62) X (dk okd_X12_requestTransfer 4 rfl) (by decide) ?_ ?_
    · refine s_run X ok_X12_requestTransfer 19 1 (pc' := 63) (vs' := [some (.ref p0), some (.int p1), some (.int p2), some (.long p3), none]) (st' := [.int 0]) rfl ?_
      exact s_zret0 X hr (dk okd_X12_requestTransfer 13 rfl) (by decide) rfl rfl
    · refine s_run X ok_X12_requestTransfer 9 4 (pc' := 30) (vs' := [some (.ref p0), some (.int p1), some (.int p2), some (.long p3), none]) (st' := [.long 0, .long (Int32.toInt64 p2), .ref p0]) rfl ?_
      refine s_ldc2 X cl_X12_262 (dk okd_X12_requestTransfer 5 rfl) ?_
      refine s_callS (rest := [.ref p0]) X E ms_X12_53 (c_X12_inRange o6.2 (Int32.toInt64 p2) 0 999) (ta0) rfl rfl (Nat.le_of_ble_eq_true rfl) (Nat.le_of_ble_eq_true rfl) (Nat.le_of_ble_eq_true rfl) (dk okd_X12_requestTransfer 6 rfl) (st' := fun v7 => [.int v7, .ref p0]) (fun _ => rfl) (fun v7 => ?_)
      refine s_jn (κ := Int32 → Option (Int32 × St)) (fun k9 => ∀ (x8 : Int32), Jd C 5 (QJ C oIS sS) o6.2 55 [some (.ref p0), some (.int p1), some (.int p2), some (.long p3), none] [.int x8, .ref p0] (k9 x8)) (fun x8 => ?_) (fun k9 h10 => ?_)
      · refine s_run X ok_X12_requestTransfer 18 1 (pc' := 56) (vs' := [some (.ref p0), some (.int p1), some (.int p2), some (.long p3), none]) (st' := [.int 2, .int x8, .ref p0]) rfl ?_
        refine s_callV (rest := []) X E mv_X12_81 (c_X12_throwsIf o6.2 p0 x8 2) (ta1 t0_) rfl (by decide) t0_ rfl rfl (Nat.le_of_ble_eq_true rfl) (Nat.le_of_ble_eq_true rfl) (Nat.le_of_ble_eq_true rfl) (dk okd_X12_requestTransfer 11 rfl) (st' := fun o11 => [.int o11.1]) (fun _ => rfl) (fun o11 => ?_)
        refine s_if_eq (tgt := 64) X (dk okd_X12_requestTransfer 12 rfl) (by decide) ?_ ?_
        · refine s_run X ok_X12_requestTransfer 20 2 (pc' := 66) (vs' := [some (.ref p0), some (.int p1), some (.int p2), some (.long p3), none]) (st' := [.int p1, .ref p0]) rfl ?_
          refine s_callV (rest := []) X E mv_X12_128 (c_X12_isActive o11.2 p0 p1) (ta1 t0_) rfl (by decide) t0_ rfl rfl (Nat.le_of_ble_eq_true rfl) (Nat.le_of_ble_eq_true rfl) (Nat.le_of_ble_eq_true rfl) (dk okd_X12_requestTransfer 14 rfl) (st' := fun v12 => [.int v12]) (fun _ => rfl) (fun v12 => ?_)
          refine s_if_eq (tgt := 104) X (dk okd_X12_requestTransfer 15 rfl) (by decide) ?_ ?_
          · refine s_run X ok_X12_requestTransfer 34 1 (pc' := 105) (vs' := [some (.ref p0), some (.int p1), some (.int p2), some (.long p3), none]) (st' := [.int 0]) rfl ?_
            exact s_zret0 X hr (dk okd_X12_requestTransfer 23 rfl) (by decide) rfl rfl
          · refine s_run X ok_X12_requestTransfer 22 2 (pc' := 74) (vs' := [some (.ref p0), some (.int p1), some (.int p2), some (.long p3), none]) (st' := [.int p1, .ref p0]) rfl ?_
            refine s_callV (rest := []) X E mv_X12_246 (c_X12_isOpenTransfer o11.2 p0 p1) (ta1 t0_) rfl (by decide) t0_ rfl rfl (Nat.le_of_ble_eq_true rfl) (Nat.le_of_ble_eq_true rfl) (Nat.le_of_ble_eq_true rfl) (dk okd_X12_requestTransfer 16 rfl) (st' := fun v13 => [.int v13]) (fun _ => rfl) (fun v13 => ?_)
            refine s_if_ne (tgt := 104) X (dk okd_X12_requestTransfer 17 rfl) (by decide) ?_ ?_
            · refine s_run X ok_X12_requestTransfer 34 1 (pc' := 105) (vs' := [some (.ref p0), some (.int p1), some (.int p2), some (.long p3), none]) (st' := [.int 0]) rfl ?_
              exact s_zret0 X hr (dk okd_X12_requestTransfer 23 rfl) (by decide) rfl rfl
            · refine s_run X ok_X12_requestTransfer 24 3 (pc' := 83) (vs' := [some (.ref p0), some (.int p1), some (.int p2), some (.long p3), none]) (st' := [.int 4, .int p1, .ref p0]) rfl ?_
              refine s_callV (rest := []) X E mv_X12_63 (c_X12_of o11.2 p0 p1 4) (ta1 t0_) rfl (by decide) t0_ rfl rfl (Nat.le_of_ble_eq_true rfl) (Nat.le_of_ble_eq_true rfl) (Nat.le_of_ble_eq_true rfl) (dk okd_X12_requestTransfer 18 rfl) (st' := fun v14 => [.long v14]) (fun _ => rfl) (fun v14 => ?_)
              refine s_run X ok_X12_requestTransfer 27 2 (pc' := 88) (vs' := [some (.ref p0), some (.int p1), some (.int p2), some (.long p3), none]) (st' := [.int (lg_cmp v14 0)]) rfl ?_
              refine s_lif_gt (tgt := 104) X (dk okd_X12_requestTransfer 19 rfl) (by decide) ?_ ?_
              · refine s_run X ok_X12_requestTransfer 34 1 (pc' := 105) (vs' := [some (.ref p0), some (.int p1), some (.int p2), some (.long p3), none]) (st' := [.int 0]) rfl ?_
                exact s_zret0 X hr (dk okd_X12_requestTransfer 23 rfl) (by decide) rfl rfl
              · refine s_run X ok_X12_requestTransfer 29 3 (pc' := 94) (vs' := [some (.ref p0), some (.int p1), some (.int p2), some (.long p3), none]) (st' := [.ref p0, .long (Int32.toInt64 p2)]) rfl ?_
                refine s_getR X fl_X12_9 t0_ (dk okd_X12_requestTransfer 20 rfl) (fun a15 (t16 : tT C a15 14) => ?_)
                refine s_run X ok_X12_requestTransfer 32 1 (pc' := 99) (vs' := [some (.ref p0), some (.int p1), some (.int p2), some (.long p3), none]) (st' := [.int 10, .ref a15, .long (Int32.toInt64 p2)]) rfl ?_
                refine s_lald X t16 (dk okd_X12_requestTransfer 21 rfl) (fun v17 => ?_)
                refine s_run X ok_X12_requestTransfer 33 1 (pc' := 101) (vs' := [some (.ref p0), some (.int p1), some (.int p2), some (.long p3), none]) (st' := [.int (lg_cmp (Int32.toInt64 p2) v17)]) rfl ?_
                refine s_lif_ge (tgt := 106) X (dk okd_X12_requestTransfer 22 rfl) (by decide) ?_ ?_
                · refine s_run X ok_X12_requestTransfer 35 4 (pc' := 111) (vs' := [some (.ref p0), some (.int p1), some (.int p2), some (.long p3), none]) (st' := [.long 1, .int 9, .int p1, .ref p0]) rfl ?_
                  refine s_callV (rest := []) X E mv_X12_183 (c_X12_set o11.2 p0 p1 9 1) (ta1 t0_) rfl (by decide) t0_ rfl rfl (Nat.le_of_ble_eq_true rfl) (Nat.le_of_ble_eq_true rfl) (Nat.le_of_ble_eq_true rfl) (dk okd_X12_requestTransfer 24 rfl) (st' := fun S18 => []) (fun _ => rfl) (fun S18 => ?_)
                  refine s_run X ok_X12_requestTransfer 39 5 (pc' := 120) (vs' := [some (.ref p0), some (.int p1), some (.int p2), some (.long p3), none]) (st' := [.long (Int32.toInt64 p2), .int 10, .int p1, .ref p0]) rfl ?_
                  refine s_callV (rest := []) X E mv_X12_183 (c_X12_set S18 p0 p1 10 (Int32.toInt64 p2)) (ta1 t0_) rfl (by decide) t0_ rfl rfl (Nat.le_of_ble_eq_true rfl) (Nat.le_of_ble_eq_true rfl) (Nat.le_of_ble_eq_true rfl) (dk okd_X12_requestTransfer 25 rfl) (st' := fun S19 => []) (fun _ => rfl) (fun S19 => ?_)
                  refine s_run X ok_X12_requestTransfer 44 4 (pc' := 128) (vs' := [some (.ref p0), some (.int p1), some (.int p2), some (.long p3), none]) (st' := [.long p3, .int 11, .int p1, .ref p0]) rfl ?_
                  refine s_callV (rest := []) X E mv_X12_183 (c_X12_set S19 p0 p1 11 p3) (ta1 t0_) rfl (by decide) t0_ rfl rfl (Nat.le_of_ble_eq_true rfl) (Nat.le_of_ble_eq_true rfl) (Nat.le_of_ble_eq_true rfl) (dk okd_X12_requestTransfer 26 rfl) (st' := fun S20 => []) (fun _ => rfl) (fun S20 => ?_)
                  refine s_run X ok_X12_requestTransfer 48 4 (pc' := 136) (vs' := [some (.ref p0), some (.int p1), some (.int p2), some (.long p3), none]) (st' := [.ref p0, .int 12, .int p1, .ref p0]) rfl ?_
                  refine s_getR X fl_X12_9 t0_ (dk okd_X12_requestTransfer 27 rfl) (fun a21 (t22 : tT C a21 14) => ?_)
                  refine s_run X ok_X12_requestTransfer 52 1 (pc' := 140) (vs' := [some (.ref p0), some (.int p1), some (.int p2), some (.long p3), none]) (st' := [.int 0, .ref a21, .int 12, .int p1, .ref p0]) rfl ?_
                  refine s_lald X t22 (dk okd_X12_requestTransfer 28 rfl) (fun v23 => ?_)
                  refine s_callV (rest := []) X E mv_X12_183 (c_X12_set S20 p0 p1 12 v23) (ta1 t0_) rfl (by decide) t0_ rfl rfl (Nat.le_of_ble_eq_true rfl) (Nat.le_of_ble_eq_true rfl) (Nat.le_of_ble_eq_true rfl) (dk okd_X12_requestTransfer 29 rfl) (st' := fun S24 => []) (fun _ => rfl) (fun S24 => ?_)
                  refine s_run X ok_X12_requestTransfer 53 4 (pc' := 149) (vs' := [some (.ref p0), some (.int p1), some (.int p2), some (.long p3), none]) (st' := [.long 0, .int 13, .int p1, .ref p0]) rfl ?_
                  refine s_callV (rest := []) X E mv_X12_183 (c_X12_set S24 p0 p1 13 0) (ta1 t0_) rfl (by decide) t0_ rfl rfl (Nat.le_of_ble_eq_true rfl) (Nat.le_of_ble_eq_true rfl) (Nat.le_of_ble_eq_true rfl) (dk okd_X12_requestTransfer 30 rfl) (st' := fun S25 => []) (fun _ => rfl) (fun S25 => ?_)
                  refine s_run X ok_X12_requestTransfer 57 4 (pc' := 157) (vs' := [some (.ref p0), some (.int p1), some (.int p2), some (.long p3), none]) (st' := [.long 0, .int 14, .int p1, .ref p0]) rfl ?_
                  refine s_callV (rest := []) X E mv_X12_183 (c_X12_set S25 p0 p1 14 0) (ta1 t0_) rfl (by decide) t0_ rfl rfl (Nat.le_of_ble_eq_true rfl) (Nat.le_of_ble_eq_true rfl) (Nat.le_of_ble_eq_true rfl) (dk okd_X12_requestTransfer 31 rfl) (st' := fun S26 => []) (fun _ => rfl) (fun S26 => ?_)
                  refine s_run X ok_X12_requestTransfer 61 4 (pc' := 165) (vs' := [some (.ref p0), some (.int p1), some (.int p2), some (.long p3), none]) (st' := [.long 0, .int 15, .int p1, .ref p0]) rfl ?_
                  refine s_callV (rest := []) X E mv_X12_183 (c_X12_set S26 p0 p1 15 0) (ta1 t0_) rfl (by decide) t0_ rfl rfl (Nat.le_of_ble_eq_true rfl) (Nat.le_of_ble_eq_true rfl) (Nat.le_of_ble_eq_true rfl) (dk okd_X12_requestTransfer 32 rfl) (st' := fun S27 => []) (fun _ => rfl) (fun S27 => ?_)
                  refine s_run X ok_X12_requestTransfer 65 1 (pc' := 169) (vs' := [some (.ref p0), some (.int p1), some (.int p2), some (.long p3), none]) (st' := [.int 1]) rfl ?_
                  exact s_zret0 X hr (dk okd_X12_requestTransfer 33 rfl) (by decide) rfl rfl
                · refine s_run X ok_X12_requestTransfer 34 1 (pc' := 105) (vs' := [some (.ref p0), some (.int p1), some (.int p2), some (.long p3), none]) (st' := [.int 0]) rfl ?_
                  exact s_zret0 X hr (dk okd_X12_requestTransfer 23 rfl) (by decide) rfl rfl
        · refine s_run X ok_X12_requestTransfer 19 1 (pc' := 63) (vs' := [some (.ref p0), some (.int p1), some (.int p2), some (.long p3), none]) (st' := [.int 0]) rfl ?_
          exact s_zret0 X hr (dk okd_X12_requestTransfer 13 rfl) (by decide) rfl rfl
      · refine s_jn (κ := Option (Int32 × St)) (fun k28 => Jd C 5 (QJ C oIS sS) o6.2 50 [some (.ref p0), some (.int p1), some (.int p2), some (.long p3), none] [.ref p0] k28) ?_ (fun k28 h29 => ?_)
        · refine s_run X ok_X12_requestTransfer 15 2 (pc' := 55) (vs' := [some (.ref p0), some (.int p1), some (.int p2), some (.long p3), none]) (st' := [.int 1, .ref p0]) rfl ?_
          exact h10 1
        · refine s_if_eq (tgt := 50) X (dk okd_X12_requestTransfer 7 rfl) (by decide) ?_ ?_
          · exact h29
          · refine s_run X ok_X12_requestTransfer 13 2 (pc' := 41) (vs' := [some (.ref p0), some (.int p1), some (.int p2), some (.long p3), none]) (st' := [.long 0, .long p3, .ref p0]) rfl ?_
            refine s_ldc2 X cl_X12_174 (dk okd_X12_requestTransfer 8 rfl) ?_
            refine s_callS (rest := [.ref p0]) X E ms_X12_53 (c_X12_inRange o6.2 p3 0 1000000000) (ta0) rfl rfl (Nat.le_of_ble_eq_true rfl) (Nat.le_of_ble_eq_true rfl) (Nat.le_of_ble_eq_true rfl) (dk okd_X12_requestTransfer 9 rfl) (st' := fun v30 => [.int v30, .ref p0]) (fun _ => rfl) (fun v30 => ?_)
            refine s_if_ne (tgt := 54) X (dk okd_X12_requestTransfer 10 rfl) (by decide) ?_ ?_
            · refine s_run X ok_X12_requestTransfer 17 1 (pc' := 55) (vs' := [some (.ref p0), some (.int p1), some (.int p2), some (.long p3), none]) (st' := [.int 0, .ref p0]) rfl ?_
              exact h10 0
            · exact h29
  · refine s_if_ne (tgt := 18) X (dk okd_X12_requestTransfer 2 rfl) (by decide) ?_ ?_
    · refine s_run X ok_X12_requestTransfer 7 1 (pc' := 19) (vs' := [some (.ref p0), some (.int p1), some (.int p2), some (.long p3), none]) (st' := [.int 0, .ref p0]) rfl ?_
      exact h5 0
    · refine s_run X ok_X12_requestTransfer 5 2 (pc' := 19) (vs' := [some (.ref p0), some (.int p1), some (.int p2), some (.long p3), none]) (st' := [.int 1, .ref p0]) rfl ?_
      exact h5 1
