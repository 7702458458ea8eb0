theorem cl_X12_242 : Cond.constantLong RX12 242 300 ∈ TT := TT_9 (i := 126) rfl rfl
theorem cl_X12_244 : Cond.constantLong RX12 244 3 ∈ TT := TT_9 (i := 151) rfl rfl
theorem cl_X12_262 : Cond.constantLong RX12 262 999 ∈ TT := TT_9 (i := 208) rfl rfl
theorem cl_X12_264 : Cond.constantLong RX12 264 5 ∈ TT := TT_9 (i := 217) rfl rfl
theorem cl_X12_269 : Cond.constantLong RX12 269 31 ∈ TT := TT_10 (i := 20) rfl rfl
theorem cl_X12_274 : Cond.constantLong RX12 274 9 ∈ TT := TT_10 (i := 25) rfl rfl
theorem cl_X12_276 : Cond.constantLong RX12 276 10 ∈ TT := TT_10 (i := 26) rfl rfl
theorem cl_X12_305 : Cond.constantLong RX12 305 97 ∈ TT := TT_10 (i := 70) rfl rfl
theorem cl_X12_307 : Cond.constantLong RX12 307 122 ∈ TT := TT_10 (i := 71) rfl rfl
theorem cl_X12_309 : Cond.constantLong RX12 309 48 ∈ TT := TT_10 (i := 75) rfl rfl
theorem cl_X12_311 : Cond.constantLong RX12 311 57 ∈ TT := TT_10 (i := 76) rfl rfl
theorem cl_X12_335 : Cond.constantLong RX12 335 32 ∈ TT := TT_10 (i := 13) rfl rfl
theorem cl_X12_337 : Cond.constantLong RX12 337 96 ∈ TT := TT_10 (i := 12) rfl rfl
theorem fl_X12_26 : FL RX12 26 11 6 2 := ⟨RX12, TX12, 22, rfl, by decide, uw_X12, TT_7 (i := 231) rfl rfl, rfl, rfl, by decide⟩
theorem fl_X12_266 : FL RX12 266 11 7 0 := ⟨RX12, TX12, 22, rfl, by decide, uw_X12, TT_7 (i := 232) rfl rfl, rfl, rfl, by decide⟩
theorem fl_X12_296 : FL RX12 296 11 9 0 := ⟨RX12, TX12, 22, rfl, by decide, uw_X12, TT_7 (i := 234) rfl rfl, rfl, rfl, by decide⟩
theorem fl_X12_30 : FL RX12 30 11 8 2 := ⟨RX12, TX12, 22, rfl, by decide, uw_X12, TT_7 (i := 233) rfl rfl, rfl, rfl, by decide⟩
theorem fl_X12_302 : FL RX12 302 11 11 0 := ⟨RX12, TX12, 22, rfl, by decide, uw_X12, TT_7 (i := 236) rfl rfl, rfl, rfl, by decide⟩
theorem fl_X12_313 : FL RX12 313 11 10 0 := ⟨RX12, TX12, 22, rfl, by decide, uw_X12, TT_7 (i := 235) rfl rfl, rfl, rfl, by decide⟩
theorem fl_X12_319 : FL RX12 319 11 14 0 := ⟨RX12, TX12, 22, rfl, by decide, uw_X12, TT_7 (i := 239) rfl rfl, rfl, rfl, by decide⟩
theorem fl_X12_322 : FL RX12 322 11 16 1 := ⟨RX12, TX12, 22, rfl, by decide, uw_X12, TT_8 (i := 1) rfl rfl, rfl, rfl, by decide⟩
theorem fl_X12_33 : FL RX12 33 11 12 0 := ⟨RX12, TX12, 22, rfl, by decide, uw_X12, TT_7 (i := 237) rfl rfl, rfl, rfl, by decide⟩
theorem fl_X12_332 : FL RX12 332 11 13 0 := ⟨RX12, TX12, 22, rfl, by decide, uw_X12, TT_7 (i := 238) rfl rfl, rfl, rfl, by decide⟩
theorem fp_X12_266 : FP RX12 266 11 7 0 := ⟨RX12, TX12, 22, tyX12, tyX12 7, rfl, by decide, uw_X12, TT_7 (i := 232) rfl rfl, rfl, rfl, by decide, tyX12_ok, nmX12, rfl, tyX12_ok 7 (by decide), fun h => rfl, fun h => absurd h (by decide), fun h => absurd h (by decide)⟩
theorem fp_X12_296 : FP RX12 296 11 9 0 := ⟨RX12, TX12, 22, tyX12, tyX12 9, rfl, by decide, uw_X12, TT_7 (i := 234) rfl rfl, rfl, rfl, by decide, tyX12_ok, nmX12, rfl, tyX12_ok 9 (by decide), fun h => rfl, fun h => absurd h (by decide), fun h => absurd h (by decide)⟩
theorem fp_X12_313 : FP RX12 313 11 10 0 := ⟨RX12, TX12, 22, tyX12, tyX12 10, rfl, by decide, uw_X12, TT_7 (i := 235) rfl rfl, rfl, rfl, by decide, tyX12_ok, nmX12, rfl, tyX12_ok 10 (by decide), fun h => rfl, fun h => absurd h (by decide), fun h => absurd h (by decide)⟩
theorem fp_X12_319 : FP RX12 319 11 14 0 := ⟨RX12, TX12, 22, tyX12, tyX12 14, rfl, by decide, uw_X12, TT_7 (i := 239) rfl rfl, rfl, rfl, by decide, tyX12_ok, nmX12, rfl, tyX12_ok 14 (by decide), fun h => rfl, fun h => absurd h (by decide), fun h => absurd h (by decide)⟩
theorem fp_X12_322 : FP RX12 322 11 16 1 := ⟨RX12, TX12, 22, tyX12, tyX12 16, rfl, by decide, uw_X12, TT_8 (i := 1) rfl rfl, rfl, rfl, by decide, tyX12_ok, nmX12, rfl, tyX12_ok 16 (by decide), fun h => absurd h (by decide), fun h => rfl, fun h => absurd h (by decide)⟩
theorem fp_X12_332 : FP RX12 332 11 13 0 := ⟨RX12, TX12, 22, tyX12, tyX12 13, rfl, by decide, uw_X12, TT_7 (i := 238) rfl rfl, rfl, rfl, by decide, tyX12_ok, nmX12, rfl, tyX12_ok 13 (by decide), fun h => rfl, fun h => absurd h (by decide), fun h => absurd h (by decide)⟩
theorem ms_X12_326 : MS RX12 326 yX12_isLetter cX12_isLetter 1 (some .boolean) 1 := ⟨TT_10 (i := 67) rfl rfl, TT_10 (i := 68) rfl rfl, TT_1 (i := 13) rfl rfl, TT_10 (i := 69) rfl rfl, ⟨by decide, by decide, by decide +kernel⟩⟩
theorem ms_X12_329 : MS RX12 329 yX12_isDigit cX12_isDigit 1 (some .boolean) 1 := ⟨TT_10 (i := 72) rfl rfl, TT_10 (i := 73) rfl rfl, TT_1 (i := 13) rfl rfl, TT_10 (i := 74) rfl rfl, ⟨by decide, by decide, by decide +kernel⟩⟩
theorem mv_X12_246 : MV RX12 246 yX12_isOpenTransfer cX12_isOpenTransfer 2 (some .boolean) 1 := ⟨TT_9 (i := 152) rfl rfl, TT_9 (i := 154) rfl rfl, TT_s (i := 68) (by decide +kernel) (by decide +kernel), TT_1 (i := 13) rfl rfl, TT_9 (i := 155) rfl rfl, ⟨by decide, by decide, by decide +kernel⟩⟩
theorem mv_X12_249 : MV RX12 249 yX12_allContributions cX12_allContributions 4 (some .long) 0 := ⟨TT_9 (i := 168) rfl rfl, TT_9 (i := 170) rfl rfl, TT_s (i := 70) (by decide +kernel) (by decide +kernel), TT_1 (i := 13) rfl rfl, TT_9 (i := 171) rfl rfl, ⟨by decide, by decide, by decide +kernel⟩⟩
theorem mv_X12_253 : MV RX12 253 yX12_fund cX12_fund 1 (some .long) 0 := ⟨TT_9 (i := 164) rfl rfl, TT_9 (i := 166) rfl rfl, TT_s (i := 69) (by decide +kernel) (by decide +kernel), TT_1 (i := 13) rfl rfl, TT_9 (i := 167) rfl rfl, ⟨by decide, by decide, by decide +kernel⟩⟩
theorem mv_X12_256 : MV RX12 256 yX12_allowanceOf cX12_allowanceOf 2 (some .long) 1 := ⟨TT_9 (i := 188) rfl rfl, TT_9 (i := 190) rfl rfl, TT_s (i := 71) (by decide +kernel) (by decide +kernel), TT_1 (i := 13) rfl rfl, TT_9 (i := 191) rfl rfl, ⟨by decide, by decide, by decide +kernel⟩⟩
theorem mv_X12_259 : MV RX12 259 yX12_product cX12_product 2 (some .long) 1 := ⟨TT_9 (i := 200) rfl rfl, TT_9 (i := 202) rfl rfl, TT_s (i := 72) (by decide +kernel) (by decide +kernel), TT_1 (i := 13) rfl rfl, TT_9 (i := 203) rfl rfl, ⟨by decide, by decide, by decide +kernel⟩⟩
theorem mv_X12_271 : MV RX12 271 yX12_append cX12_append 2 none 1 := ⟨TT_10 (i := 2) rfl rfl, TT_10 (i := 4) rfl rfl, TT_s (i := 73) (by decide +kernel) (by decide +kernel), TT_1 (i := 13) rfl rfl, TT_10 (i := 5) rfl rfl, ⟨by decide, by decide, by decide +kernel⟩⟩
theorem mv_X12_299 : MV RX12 299 yX12_appendBytes cX12_appendBytes 3 none 1 := ⟨TT_10 (i := 35) rfl rfl, TT_10 (i := 37) rfl rfl, TT_s (i := 76) (by decide +kernel) (by decide +kernel), TT_1 (i := 13) rfl rfl, TT_10 (i := 38) rfl rfl, ⟨by decide, by decide, by decide +kernel⟩⟩
theorem mv_X12_316 : MV RX12 316 yX12_byteAt cX12_byteAt 2 (some .int) 1 := ⟨TT_10 (i := 63) rfl rfl, TT_10 (i := 65) rfl rfl, TT_s (i := 79) (by decide +kernel) (by decide +kernel), TT_1 (i := 13) rfl rfl, TT_10 (i := 66) rfl rfl, ⟨by decide, by decide, by decide +kernel⟩⟩
def tab_X12_predictDue : List En := [(0, 8, 0, 0), (1, 0, 0, 0), (5, 8, 0, 0), (6, 8, 0, 0), (7, 4, 1, 0), (14, 0, 0, 1), (15, 41, 19, 0), (18, 0, 0, 0), (19, 0, 0, 1), (26, 8, 0, 0), (27, 4, 2, 0), (28, 31, 0, 0), (29, 3, 0, 0), (39, 0, 0, 1), (40, 41, 44, 0), (43, 0, 0, 0), (44, 0, 0, 2), (51, 3, 0, 0), (53, 8, 0, 0), (54, 4, 1, 0), (55, 8, 0, 0), (56, 4, 1, 0), (57, 4, 2, 0), (64, 8, 0, 0), (68, 0, 0, 5)]
theorem ok_X12_predictDue : tab_X12_predictDue.all (okE cX12_predictDue) = true := by decide +kernel
def ed_X12_predictDue : List (Nat × Instr × Nat) := [(2, .putfield 50, 3), (8, .invokevirtual 85, 3), (11, .ifCond .ne 7, 3), (20, .invokevirtual 81, 3), (23, .ifCond .ne 28, 3), (30, .ldc2_w 242, 3), (33, .invokestatic 53, 3), (36, .ifCond .ne 7, 3), (45, .invokevirtual 81, 3), (48, .ifCond .eq 5, 3), (52, .lreturn, 1), (58, .invokevirtual 191, 3), (61, .invokevirtual 227, 3), (65, .getfield 23, 3), (69, .laload, 1), (70, .lreturn, 1)]
theorem okd_X12_predictDue : ed_X12_predictDue.all (okD cX12_predictDue) = true := by decide +kernel
def f_X12_predictDue (S : St) (p0 : Nat) (p1 : Int32) (p2 : Int32) : Option (Int64 × St) := lt (uI S p0 2 0) fun (S1 : St) => cl (f_X12_isFranchisee S1 p0 p1) fun (v2 : Int32) => jn (κ := Int32 → Option (Int64 × St)) (fun x3 => cl (f_X12_throwsIf S1 p0 x3 1) fun (o6 : Int32 × St) => if o6.1 = 0 then (cl (f_X12_inRange o6.2 (Int32.toInt64 p2) 0 300) fun (v7 : Int32) => jn (κ := Int32 → Option (Int64 × St)) (fun x8 => cl (f_X12_throwsIf o6.2 p0 x8 2) fun (o11 : Int32 × St) => if o11.1 = 0 then (cl (f_X12_salesNow o11.2 p0 p1 p2) fun (v12 : Int64) => cl (f_X12_calculate o11.2 p0 p1 v12) fun (S13 : St) => lt (gR S13 p0 5) fun (a14 : Nat) => ldJ S13 a14 5 fun (v16 : Int64) => some (v16, S13)) else (some (0, o11.2))) fun k9 => if v7 = 0 then (k9 1) else (k9 0)) else (some (0, o6.2))) fun k4 => if v2 = 0 then (k4 1) else (k4 0)
set_option maxHeartbeats 4000000 in
set_option maxRecDepth 100000 in
theorem c_X12_predictDue (S : St) (p0 : Nat) (p1 : Int32) (p2 : Int32) : Ct yX12_predictDue cX12_predictDue 3 (some .long) 4 92 (fun _ => [.ref p0, .int p1, .int p2]) [(p0, 11)] S (f_X12_predictDue S p0 p1 p2) oLS sL := by
  refine Ct_of RX12 rfl (by decide) (fun _ => Nat.le_of_ble_eq_true rfl) 0 (vs := fun _ => [some (.ref p0), some (.int p1), some (.int p2)]) (fun _ => rfl) (fun C X E hr ht => ?_)
  have t0_ : tT C p0 11 := ht (p0, 11) (by simp)
  show Jd C 3 (QJ C oLS sL) S 0 [some (.ref p0), some (.int p1), some (.int p2)] [] (f_X12_predictDue S p0 p1 p2)
  unfold f_X12_predictDue
  refine s_run X ok_X12_predictDue 0 2 (pc' := 2) (vs' := [some (.ref p0), some (.int p1), some (.int p2)]) (st' := [.int 0, .ref p0]) rfl ?_
  refine s_putI X fp_X12_50 t0_ (dk okd_X12_predictDue 0 rfl) (fun S1 => ?_)
  refine s_run X ok_X12_predictDue 2 3 (pc' := 8) (vs' := [some (.ref p0), some (.int p1), some (.int p2)]) (st' := [.int p1, .ref p0, .ref p0]) rfl ?_
  refine s_callV (b := p0) (As := [.int p1]) (rest := [.ref p0]) X E mv_X12_85 (c_X12_isFranchisee S1 p0 p1) rfl (ta1 t0_) rfl (by decide) t0_ rfl rfl (Nat.le_of_ble_eq_true rfl) (Nat.le_of_ble_eq_true rfl) (Nat.le_of_ble_eq_true rfl) (dk okd_X12_predictDue 1 rfl) (st' := fun v2 => [.int v2, .ref p0]) (fun _ => rfl) (fun v2 => ?_)
  refine s_jn (κ := Int32 → Option (Int64 × St)) (fun k4 => ∀ (x3 : Int32), Jd C 3 (QJ C oLS sL) S1 19 [some (.ref p0), some (.int p1), some (.int p2)] [.int x3, .ref p0] (k4 x3)) (fun x3 => ?_) (fun k4 h5 => ?_)
  · refine s_run X ok_X12_predictDue 8 1 (pc' := 20) (vs' := [some (.ref p0), some (.int p1), some (.int p2)]) (st' := [.int 1, .int x3, .ref p0]) rfl ?_
    refine s_callV (b := p0) (As := [.int x3, .int 1]) (rest := []) X E mv_X12_81 (c_X12_throwsIf S1 p0 x3 1) rfl (ta1 t0_) rfl (by decide) t0_ rfl rfl (Nat.le_of_ble_eq_true rfl) (Nat.le_of_ble_eq_true rfl) (Nat.le_of_ble_eq_true rfl) (dk okd_X12_predictDue 3 rfl) (st' := fun o6 => [.int o6.1]) (fun _ => rfl) (fun o6 => ?_)
    refine s_if_ne (tgt := 51) X (dk okd_X12_predictDue 4 rfl) (by decide) ?_ ?_
    · refine s_run X ok_X12_predictDue 17 1 (pc' := 52) (vs' := [some (.ref p0), some (.int p1), some (.int p2)]) (st' := [.long 0]) rfl ?_
      exact s_lret X hr (dk okd_X12_predictDue 10 rfl) rfl rfl
    · refine s_run X ok_X12_predictDue 9 4 (pc' := 30) (vs' := [some (.ref p0), some (.int p1), some (.int p2)]) (st' := [.long 0, .long (Int32.toInt64 p2), .ref p0]) rfl ?_
      refine s_ldc2 X cl_X12_242 (dk okd_X12_predictDue 5 rfl) ?_
      refine s_callS (As := [.long (Int32.toInt64 p2), .long 0, .long 300]) (rest := [.ref p0]) X E ms_X12_53 (c_X12_inRange o6.2 (Int32.toInt64 p2) 0 300) rfl (ta0) rfl rfl (Nat.le_of_ble_eq_true rfl) (Nat.le_of_ble_eq_true rfl) (Nat.le_of_ble_eq_true rfl) (dk okd_X12_predictDue 6 rfl) (st' := fun v7 => [.int v7, .ref p0]) (fun _ => rfl) (fun v7 => ?_)
      refine s_jn (κ := Int32 → Option (Int64 × St)) (fun k9 => ∀ (x8 : Int32), Jd C 3 (QJ C oLS sL) o6.2 44 [some (.ref p0), some (.int p1), some (.int p2)] [.int x8, .ref p0] (k9 x8)) (fun x8 => ?_) (fun k9 h10 => ?_)
      · refine s_run X ok_X12_predictDue 16 1 (pc' := 45) (vs' := [some (.ref p0), some (.int p1), some (.int p2)]) (st' := [.int 2, .int x8, .ref p0]) rfl ?_
        refine s_callV (b := p0) (As := [.int x8, .int 2]) (rest := []) X E mv_X12_81 (c_X12_throwsIf o6.2 p0 x8 2) rfl (ta1 t0_) rfl (by decide) t0_ rfl rfl (Nat.le_of_ble_eq_true rfl) (Nat.le_of_ble_eq_true rfl) (Nat.le_of_ble_eq_true rfl) (dk okd_X12_predictDue 8 rfl) (st' := fun o11 => [.int o11.1]) (fun _ => rfl) (fun o11 => ?_)
        refine s_if_eq (tgt := 53) X (dk okd_X12_predictDue 9 rfl) (by decide) ?_ ?_
        · refine s_run X ok_X12_predictDue 18 5 (pc' := 58) (vs' := [some (.ref p0), some (.int p1), some (.int p2)]) (st' := [.int p2, .int p1, .ref p0, .int p1, .ref p0]) rfl ?_
          refine s_callV (b := p0) (As := [.int p1, .int p2]) (rest := [.int p1, .ref p0]) X E mv_X12_191 (c_X12_salesNow o11.2 p0 p1 p2) rfl (ta1 t0_) rfl (by decide) t0_ rfl rfl (Nat.le_of_ble_eq_true rfl) (Nat.le_of_ble_eq_true rfl) (Nat.le_of_ble_eq_true rfl) (dk okd_X12_predictDue 11 rfl) (st' := fun v12 => [.long v12, .int p1, .ref p0]) (fun _ => rfl) (fun v12 => ?_)
          refine s_callV (b := p0) (As := [.int p1, .long v12]) (rest := []) X E mv_X12_227 (c_X12_calculate o11.2 p0 p1 v12) rfl (ta1 t0_) rfl (by decide) t0_ rfl rfl (Nat.le_of_ble_eq_true rfl) (Nat.le_of_ble_eq_true rfl) (Nat.le_of_ble_eq_true rfl) (dk okd_X12_predictDue 12 rfl) (st' := fun S13 => []) (fun _ => rfl) (fun S13 => ?_)
          refine s_run X ok_X12_predictDue 23 1 (pc' := 65) (vs' := [some (.ref p0), some (.int p1), some (.int p2)]) (st' := [.ref p0]) rfl ?_
          refine s_getR X fl_X12_23 t0_ (dk okd_X12_predictDue 13 rfl) (fun a14 (t15 : tT C a14 14) => ?_)
          refine s_run X ok_X12_predictDue 24 1 (pc' := 69) (vs' := [some (.ref p0), some (.int p1), some (.int p2)]) (st' := [.int 5, .ref a14]) rfl ?_
          refine s_lald X t15 (dk okd_X12_predictDue 14 rfl) (fun v16 => ?_)
          exact s_lret X hr (dk okd_X12_predictDue 15 rfl) rfl rfl
        · refine s_run X ok_X12_predictDue 17 1 (pc' := 52) (vs' := [some (.ref p0), some (.int p1), some (.int p2)]) (st' := [.long 0]) rfl ?_
          exact s_lret X hr (dk okd_X12_predictDue 10 rfl) rfl rfl
      · refine s_if_ne (tgt := 43) X (dk okd_X12_predictDue 7 rfl) (by decide) ?_ ?_
        · refine s_run X ok_X12_predictDue 15 1 (pc' := 44) (vs' := [some (.ref p0), some (.int p1), some (.int p2)]) (st' := [.int 0, .ref p0]) rfl ?_
          exact h10 0
        · refine s_run X ok_X12_predictDue 13 2 (pc' := 44) (vs' := [some (.ref p0), some (.int p1), some (.int p2)]) (st' := [.int 1, .ref p0]) rfl ?_
          exact h10 1
  · refine s_if_ne (tgt := 18) X (dk okd_X12_predictDue 2 rfl) (by decide) ?_ ?_
    · refine s_run X ok_X12_predictDue 7 1 (pc' := 19) (vs' := [some (.ref p0), some (.int p1), some (.int p2)]) (st' := [.int 0, .ref p0]) rfl ?_
      exact h5 0
    · refine s_run X ok_X12_predictDue 5 2 (pc' := 19) (vs' := [some (.ref p0), some (.int p1), some (.int p2)]) (st' := [.int 1, .ref p0]) rfl ?_
      exact h5 1
def tab_X12_balance : List En := [(0, 8, 0, 0), (1, 0, 0, 0), (5, 8, 0, 0), (6, 8, 0, 0), (7, 4, 1, 0), (14, 0, 0, 1), (15, 41, 19, 0), (18, 0, 0, 0), (19, 0, 0, 1), (26, 3, 0, 0), (27, 41, 36, 0), (30, 8, 0, 0), (31, 4, 1, 0), (32, 0, 0, 4)]
theorem ok_X12_balance : tab_X12_balance.all (okE cX12_balance) = true := by decide +kernel
def ed_X12_balance : List (Nat × Instr × Nat) := [(2, .putfield 50, 3), (8, .invokevirtual 85, 3), (11, .ifCond .ne 7, 3), (20, .invokevirtual 81, 3), (23, .ifCond .eq 7, 3), (33, .invokevirtual 63, 3), (36, .lreturn, 1)]
theorem okd_X12_balance : ed_X12_balance.all (okD cX12_balance) = true := by decide +kernel
def f_X12_balance (S : St) (p0 : Nat) (p1 : Int32) : Option (Int64 × St) := lt (uI S p0 2 0) fun (S1 : St) => cl (f_X12_isFranchisee S1 p0 p1) fun (v2 : Int32) => jn (κ := Int32 → Option (Int64 × St)) (fun x3 => cl (f_X12_throwsIf S1 p0 x3 1) fun (o6 : Int32 × St) => if o6.1 = 0 then (cl (f_X12_of o6.2 p0 p1 4) fun (v7 : Int64) => some (v7, o6.2)) else (some (0, o6.2))) fun k4 => if v2 = 0 then (k4 1) else (k4 0)
set_option maxHeartbeats 4000000 in
set_option maxRecDepth 100000 in
theorem c_X12_balance (S : St) (p0 : Nat) (p1 : Int32) : Ct yX12_balance cX12_balance 2 (some .long) 2 46 (fun _ => [.ref p0, .int p1]) [(p0, 11)] S (f_X12_balance S p0 p1) oLS sL := by
  refine Ct_of RX12 rfl (by decide) (fun _ => Nat.le_of_ble_eq_true rfl) 0 (vs := fun _ => [some (.ref p0), some (.int p1)]) (fun _ => rfl) (fun C X E hr ht => ?_)
  have t0_ : tT C p0 11 := ht (p0, 11) (by simp)
  show Jd C 2 (QJ C oLS sL) S 0 [some (.ref p0), some (.int p1)] [] (f_X12_balance S p0 p1)
  unfold f_X12_balance
  refine s_run X ok_X12_balance 0 2 (pc' := 2) (vs' := [some (.ref p0), some (.int p1)]) (st' := [.int 0, .ref p0]) rfl ?_
  refine s_putI X fp_X12_50 t0_ (dk okd_X12_balance 0 rfl) (fun S1 => ?_)
  refine s_run X ok_X12_balance 2 3 (pc' := 8) (vs' := [some (.ref p0), some (.int p1)]) (st' := [.int p1, .ref p0, .ref p0]) rfl ?_
  refine s_callV (b := p0) (As := [.int p1]) (rest := [.ref p0]) X E mv_X12_85 (c_X12_isFranchisee S1 p0 p1) rfl (ta1 t0_) rfl (by decide) t0_ rfl rfl (Nat.le_of_ble_eq_true rfl) (Nat.le_of_ble_eq_true rfl) (Nat.le_of_ble_eq_true rfl) (dk okd_X12_balance 1 rfl) (st' := fun v2 => [.int v2, .ref p0]) (fun _ => rfl) (fun v2 => ?_)
  refine s_jn (κ := Int32 → Option (Int64 × St)) (fun k4 => ∀ (x3 : Int32), Jd C 2 (QJ C oLS sL) S1 19 [some (.ref p0), some (.int p1)] [.int x3, .ref p0] (k4 x3)) (fun x3 => ?_) (fun k4 h5 => ?_)
  · refine s_run X ok_X12_balance 8 1 (pc' := 20) (vs' := [some (.ref p0), some (.int p1)]) (st' := [.int 1, .int x3, .ref p0]) rfl ?_
    refine s_callV (b := p0) (As := [.int x3, .int 1]) (rest := []) X E mv_X12_81 (c_X12_throwsIf S1 p0 x3 1) rfl (ta1 t0_) rfl (by decide) t0_ rfl rfl (Nat.le_of_ble_eq_true rfl) (Nat.le_of_ble_eq_true rfl) (Nat.le_of_ble_eq_true rfl) (dk okd_X12_balance 3 rfl) (st' := fun o6 => [.int o6.1]) (fun _ => rfl) (fun o6 => ?_)
    refine s_if_eq (tgt := 30) X (dk okd_X12_balance 4 rfl) (by decide) ?_ ?_
    · refine s_run X ok_X12_balance 11 3 (pc' := 33) (vs' := [some (.ref p0), some (.int p1)]) (st' := [.int 4, .int p1, .ref p0]) rfl ?_
      refine s_callV (b := p0) (As := [.int p1, .int 4]) (rest := []) X E mv_X12_63 (c_X12_of o6.2 p0 p1 4) rfl (ta1 t0_) rfl (by decide) t0_ rfl rfl (Nat.le_of_ble_eq_true rfl) (Nat.le_of_ble_eq_true rfl) (Nat.le_of_ble_eq_true rfl) (dk okd_X12_balance 5 rfl) (st' := fun v7 => [.long v7]) (fun _ => rfl) (fun v7 => ?_)
      exact s_lret X hr (dk okd_X12_balance 6 rfl) rfl rfl
    · refine s_run X ok_X12_balance 9 2 (pc' := 36) (vs' := [some (.ref p0), some (.int p1)]) (st' := [.long 0]) rfl ?_
      exact s_lret X hr (dk okd_X12_balance 6 rfl) rfl rfl
  · refine s_if_ne (tgt := 18) X (dk okd_X12_balance 2 rfl) (by decide) ?_ ?_
    · refine s_run X ok_X12_balance 7 1 (pc' := 19) (vs' := [some (.ref p0), some (.int p1)]) (st' := [.int 0, .ref p0]) rfl ?_
      exact h5 0
    · refine s_run X ok_X12_balance 5 2 (pc' := 19) (vs' := [some (.ref p0), some (.int p1)]) (st' := [.int 1, .ref p0]) rfl ?_
      exact h5 1
def tab_X12_totalOwed : List En := [(0, 8, 0, 0), (1, 0, 0, 0), (5, 3, 0, 0), (6, 12, 1, 0), (7, 0, 0, 0), (8, 10, 3, 0), (9, 4, 3, 0), (10, 31, 0, 0), (11, 8, 0, 0), (15, 0, 0, 2), (17, 40, 0, 0), (21, 6, 1, 0), (22, 8, 0, 0), (23, 4, 3, 0), (24, 0, 0, 4), (28, 3, 0, 0), (29, 40, 0, 0), (33, 8, 0, 0), (34, 4, 3, 0), (35, 0, 0, 4), (39, 41, 43, 0), (42, 3, 0, 0), (43, 23, 0, 0), (44, 12, 1, 0), (45, 16, 3, 1), (48, 41, 9, 0), (51, 6, 1, 0)]
theorem ok_X12_totalOwed : tab_X12_totalOwed.all (okE cX12_totalOwed) = true := by decide +kernel
def ed_X12_totalOwed : List (Nat × Instr × Nat) := [(2, .putfield 50, 3), (12, .getfield 9, 3), (16, .laload, 1), (18, .ifCond .ge 33, 3), (25, .invokevirtual 63, 3), (30, .ifCond .le 12, 3), (36, .invokevirtual 63, 3), (52, .lreturn, 1)]
theorem okd_X12_totalOwed : ed_X12_totalOwed.all (okD cX12_totalOwed) = true := by decide +kernel
def f_X12_totalOwed (S : St) (p0 : Nat) : Option (Int64 × St) := lt (uI S p0 2 0) fun (S1 : St) => jn (κ := Int64 → Option (Int64 × St)) (fun x2 => some (x2, S1)) fun k3 => lp (κ := Int64 → Int32 → Option (Int64 × St)) (fun _ _ => none) (fun k7 x5 x6 => lt (gR S1 p0 0) fun (a9 : Nat) => ldJ S1 a9 2 fun (v11 : Int64) => if v11 ≤ (Int32.toInt64 x6) then (k3 x5) else (cl (f_X12_of S1 p0 x6 4) fun (v12 : Int64) => jn (κ := Int64 → Option (Int64 × St)) (fun x13 => lt (x5 + x13) fun (v16 : Int64) => k7 v16 (x6 + 1)) fun k14 => if v12 ≤ 0 then (k14 0) else (cl (f_X12_of S1 p0 x6 4) fun (v17 : Int64) => k14 v17))) FU 0 0
set_option maxHeartbeats 4000000 in
set_option maxRecDepth 100000 in
theorem c_X12_totalOwed (S : St) (p0 : Nat) : Ct yX12_totalOwed cX12_totalOwed 4 (some .long) 1 22 (fun _ => [.ref p0]) [(p0, 11)] S (f_X12_totalOwed S p0) oLS sL := by
  refine Ct_of RX12 rfl (by decide) (fun _ => Nat.le_of_ble_eq_true rfl) 3 (vs := fun _ => [some (.ref p0), none, none, none]) (fun _ => rfl) (fun C X E hr ht => ?_)
  have t0_ : tT C p0 11 := ht (p0, 11) (by simp)
  show Jd C 4 (QJ C oLS sL) S 0 [some (.ref p0), none, none, none] [] (f_X12_totalOwed S p0)
  unfold f_X12_totalOwed
  refine s_run X ok_X12_totalOwed 0 2 (pc' := 2) (vs' := [some (.ref p0), none, none, none]) (st' := [.int 0, .ref p0]) rfl ?_
  refine s_putI X fp_X12_50 t0_ (dk okd_X12_totalOwed 0 rfl) (fun S1 => ?_)
  refine s_run X ok_X12_totalOwed 2 4 (pc' := 9) (vs' := [some (.ref p0), some (.long 0), none, some (.int 0)]) (st' := []) rfl ?_
  refine s_jn (κ := Int64 → Option (Int64 × St)) (fun k3 => ∀ (x2 : Int64), Jd C 4 (QJ C oLS sL) S1 51 [none, some (.long x2), none, none] [] (k3 x2)) (fun x2 => ?_) (fun k3 h4 => ?_)
  · refine s_run X ok_X12_totalOwed 26 1 (pc' := 52) (vs' := [none, some (.long x2), none, none]) (st' := [.long x2]) rfl ?_
    exact s_lret X hr (dk okd_X12_totalOwed 7 rfl) rfl rfl
  · refine s_lp (κ := Int64 → Int32 → Option (Int64 × St)) (fun k7 => ∀ (x5 : Int64) (x6 : Int32), Jd C 4 (QJ C oLS sL) S1 9 [some (.ref p0), some (.long x5), none, some (.int x6)] [] (k7 x5 x6)) (fun _ _ => s_none) (fun k7 h8 x5 x6 => ?_) FU 0 0
    refine s_run X ok_X12_totalOwed 6 3 (pc' := 12) (vs' := [some (.ref p0), some (.long x5), none, some (.int x6)]) (st' := [.ref p0, .long (Int32.toInt64 x6)]) rfl ?_
    refine s_getR X fl_X12_9 t0_ (dk okd_X12_totalOwed 1 rfl) (fun a9 (t10 : tT C a9 14) => ?_)
    refine s_run X ok_X12_totalOwed 9 1 (pc' := 16) (vs' := [some (.ref p0), some (.long x5), none, some (.int x6)]) (st' := [.int 2, .ref a9, .long (Int32.toInt64 x6)]) rfl ?_
    refine s_lald X t10 (dk okd_X12_totalOwed 2 rfl) (fun v11 => ?_)
    refine s_run X ok_X12_totalOwed 10 1 (pc' := 18) (vs' := [some (.ref p0), some (.long x5), none, some (.int x6)]) (st' := [.int (lg_cmp (Int32.toInt64 x6) v11)]) rfl ?_
    refine s_lif_ge (tgt := 51) X (dk okd_X12_totalOwed 3 rfl) (by decide) ?_ ?_
    · exact s_less [false, true, false, false] rfl (h4 x5)
    · refine s_run X ok_X12_totalOwed 11 4 (pc' := 25) (vs' := [some (.ref p0), some (.long x5), none, some (.int x6)]) (st' := [.int 4, .int x6, .ref p0, .long x5]) rfl ?_
      refine s_callV (b := p0) (As := [.int x6, .int 4]) (rest := [.long x5]) X E mv_X12_63 (c_X12_of S1 p0 x6 4) rfl (ta1 t0_) rfl (by decide) t0_ rfl rfl (Nat.le_of_ble_eq_true rfl) (Nat.le_of_ble_eq_true rfl) (Nat.le_of_ble_eq_true rfl) (dk okd_X12_totalOwed 4 rfl) (st' := fun v12 => [.long v12, .long x5]) (fun _ => rfl) (fun v12 => ?_)
      refine s_run X ok_X12_totalOwed 15 2 (pc' := 30) (vs' := [some (.ref p0), some (.long x5), none, some (.int x6)]) (st' := [.int (lg_cmp v12 0), .long x5]) rfl ?_
      refine s_jn (κ := Int64 → Option (Int64 × St)) (fun k14 => ∀ (x13 : Int64), Jd C 4 (QJ C oLS sL) S1 43 [some (.ref p0), none, none, some (.int x6)] [.long x13, .long x5] (k14 x13)) (fun x13 => ?_) (fun k14 h15 => ?_)
      · refine s_run X ok_X12_totalOwed 22 1 (pc' := 44) (vs' := [some (.ref p0), none, none, some (.int x6)]) (st' := [.long (x5 + x13)]) rfl ?_
        refine s_nmJ (fun v16 => ?_)
        refine s_run X ok_X12_totalOwed 23 3 (pc' := 9) (vs' := [some (.ref p0), some (.long v16), none, some (.int (x6 + 1))]) (st' := []) rfl ?_
        exact h8 v16 (x6 + 1)
      · refine s_lif_le (tgt := 42) X (dk okd_X12_totalOwed 5 rfl) (by decide) ?_ ?_
        · refine s_run X ok_X12_totalOwed 21 1 (pc' := 43) (vs' := [some (.ref p0), some (.long x5), none, some (.int x6)]) (st' := [.long 0, .long x5]) rfl ?_
          exact s_less [true, false, false, true] rfl (h15 0)
        · refine s_run X ok_X12_totalOwed 17 3 (pc' := 36) (vs' := [some (.ref p0), some (.long x5), none, some (.int x6)]) (st' := [.int 4, .int x6, .ref p0, .long x5]) rfl ?_
          refine s_callV (b := p0) (As := [.int x6, .int 4]) (rest := [.long x5]) X E mv_X12_63 (c_X12_of S1 p0 x6 4) rfl (ta1 t0_) rfl (by decide) t0_ rfl rfl (Nat.le_of_ble_eq_true rfl) (Nat.le_of_ble_eq_true rfl) (Nat.le_of_ble_eq_true rfl) (dk okd_X12_totalOwed 6 rfl) (st' := fun v17 => [.long v17, .long x5]) (fun _ => rfl) (fun v17 => ?_)
          refine s_run X ok_X12_totalOwed 20 1 (pc' := 43) (vs' := [some (.ref p0), some (.long x5), none, some (.int x6)]) (st' := [.long v17, .long x5]) rfl ?_
          exact s_less [true, false, false, true] rfl (h15 v17)
def tab_X12_pay : List En := [(0, 8, 0, 0), (1, 0, 0, 0), (5, 8, 0, 0), (6, 8, 0, 0), (7, 4, 1, 0), (14, 0, 0, 1), (15, 41, 19, 0), (18, 0, 0, 0), (19, 0, 0, 1), (26, 8, 0, 0), (27, 6, 2, 0), (28, 3, 1, 0), (38, 0, 0, 1), (39, 41, 43, 0), (42, 0, 0, 0), (43, 0, 0, 2), (50, 3, 0, 0), (52, 8, 0, 0), (53, 4, 1, 0), (54, 0, 0, 4), (55, 6, 2, 0), (56, 28, 0, 0), (60, 8, 0, 0), (61, 4, 1, 0), (62, 0, 0, 4)]
theorem ok_X12_pay : tab_X12_pay.all (okE cX12_pay) = true := by decide +kernel
def ed_X12_pay : List (Nat × Instr × Nat) := [(2, .putfield 50, 3), (8, .invokevirtual 85, 3), (11, .ifCond .ne 7, 3), (20, .invokevirtual 81, 3), (23, .ifCond .ne 27, 3), (29, .ldc2_w 174, 3), (32, .invokestatic 53, 3), (35, .ifCond .ne 7, 3), (44, .invokevirtual 81, 3), (47, .ifCond .eq 5, 3), (51, .lreturn, 1), (57, .invokevirtual 224, 3), (63, .invokevirtual 63, 3), (66, .lreturn, 1)]
theorem okd_X12_pay : ed_X12_pay.all (okD cX12_pay) = true := by decide +kernel
def f_X12_pay (S : St) (p0 : Nat) (p1 : Int32) (p2 : Int64) : Option (Int64 × St) := lt (uI S p0 2 0) fun (S1 : St) => cl (f_X12_isFranchisee S1 p0 p1) fun (v2 : Int32) => jn (κ := Int32 → Option (Int64 × St)) (fun x3 => cl (f_X12_throwsIf S1 p0 x3 1) fun (o6 : Int32 × St) => if o6.1 = 0 then (cl (f_X12_inRange o6.2 p2 1 1000000000) fun (v7 : Int32) => jn (κ := Int32 → Option (Int64 × St)) (fun x8 => cl (f_X12_throwsIf o6.2 p0 x8 2) fun (o11 : Int32 × St) => if o11.1 = 0 then (cl (f_X12_add o11.2 p0 p1 4 (-p2)) fun (S12 : St) => cl (f_X12_of S12 p0 p1 4) fun (v13 : Int64) => some (v13, S12)) else (some (0, o11.2))) fun k9 => if v7 = 0 then (k9 1) else (k9 0)) else (some (0, o6.2))) fun k4 => if v2 = 0 then (k4 1) else (k4 0)
set_option maxHeartbeats 4000000 in
set_option maxRecDepth 100000 in
theorem c_X12_pay (S : St) (p0 : Nat) (p1 : Int32) (p2 : Int64) : Ct yX12_pay cX12_pay 4 (some .long) 2 46 (fun _ => [.ref p0, .int p1, .long p2]) [(p0, 11)] S (f_X12_pay S p0 p1 p2) oLS sL := by
  refine Ct_of RX12 rfl (by decide) (fun _ => Nat.le_of_ble_eq_true rfl) 0 (vs := fun _ => [some (.ref p0), some (.int p1), some (.long p2), none]) (fun _ => rfl) (fun C X E hr ht => ?_)
  have t0_ : tT C p0 11 := ht (p0, 11) (by simp)
  show Jd C 4 (QJ C oLS sL) S 0 [some (.ref p0), some (.int p1), some (.long p2), none] [] (f_X12_pay S p0 p1 p2)
  unfold f_X12_pay
  refine s_run X ok_X12_pay 0 2 (pc' := 2) (vs' := [some (.ref p0), some (.int p1), some (.long p2), none]) (st' := [.int 0, .ref p0]) rfl ?_
  refine s_putI X fp_X12_50 t0_ (dk okd_X12_pay 0 rfl) (fun S1 => ?_)
  refine s_run X ok_X12_pay 2 3 (pc' := 8) (vs' := [some (.ref p0), some (.int p1), some (.long p2), none]) (st' := [.int p1, .ref p0, .ref p0]) rfl ?_
  refine s_callV (b := p0) (As := [.int p1]) (rest := [.ref p0]) X E mv_X12_85 (c_X12_isFranchisee S1 p0 p1) rfl (ta1 t0_) rfl (by decide) t0_ rfl rfl (Nat.le_of_ble_eq_true rfl) (Nat.le_of_ble_eq_true rfl) (Nat.le_of_ble_eq_true rfl) (dk okd_X12_pay 1 rfl) (st' := fun v2 => [.int v2, .ref p0]) (fun _ => rfl) (fun v2 => ?_)
  refine s_jn (κ := Int32 → Option (Int64 × St)) (fun k4 => ∀ (x3 : Int32), Jd C 4 (QJ C oLS sL) S1 19 [some (.ref p0), some (.int p1), some (.long p2), none] [.int x3, .ref p0] (k4 x3)) (fun x3 => ?_) (fun k4 h5 => ?_)
  · refine s_run X ok_X12_pay 8 1 (pc' := 20) (vs' := [some (.ref p0), some (.int p1), some (.long p2), none]) (st' := [.int 1, .int x3, .ref p0]) rfl ?_
    refine s_callV (b := p0) (As := [.int x3, .int 1]) (rest := []) X E mv_X12_81 (c_X12_throwsIf S1 p0 x3 1) rfl (ta1 t0_) rfl (by decide) t0_ rfl rfl (Nat.le_of_ble_eq_true rfl) (Nat.le_of_ble_eq_true rfl) (Nat.le_of_ble_eq_true rfl) (dk okd_X12_pay 3 rfl) (st' := fun o6 => [.int o6.1]) (fun _ => rfl) (fun o6 => ?_)
    refine s_if_ne (tgt := 50) X (dk okd_X12_pay 4 rfl) (by decide) ?_ ?_
    · refine s_run X ok_X12_pay 16 1 (pc' := 51) (vs' := [some (.ref p0), some (.int p1), some (.long p2), none]) (st' := [.long 0]) rfl ?_
      exact s_lret X hr (dk okd_X12_pay 10 rfl) rfl rfl
    · refine s_run X ok_X12_pay 9 3 (pc' := 29) (vs' := [some (.ref p0), some (.int p1), some (.long p2), none]) (st' := [.long 1, .long p2, .ref p0]) rfl ?_
      refine s_ldc2 X cl_X12_174 (dk okd_X12_pay 5 rfl) ?_
      refine s_callS (As := [.long p2, .long 1, .long 1000000000]) (rest := [.ref p0]) X E ms_X12_53 (c_X12_inRange o6.2 p2 1 1000000000) rfl (ta0) rfl rfl (Nat.le_of_ble_eq_true rfl) (Nat.le_of_ble_eq_true rfl) (Nat.le_of_ble_eq_true rfl) (dk okd_X12_pay 6 rfl) (st' := fun v7 => [.int v7, .ref p0]) (fun _ => rfl) (fun v7 => ?_)
      refine s_jn (κ := Int32 → Option (Int64 × St)) (fun k9 => ∀ (x8 : Int32), Jd C 4 (QJ C oLS sL) o6.2 43 [some (.ref p0), some (.int p1), some (.long p2), none] [.int x8, .ref p0] (k9 x8)) (fun x8 => ?_) (fun k9 h10 => ?_)
      · refine s_run X ok_X12_pay 15 1 (pc' := 44) (vs' := [some (.ref p0), some (.int p1), some (.long p2), none]) (st' := [.int 2, .int x8, .ref p0]) rfl ?_
        refine s_callV (b := p0) (As := [.int x8, .int 2]) (rest := []) X E mv_X12_81 (c_X12_throwsIf o6.2 p0 x8 2) rfl (ta1 t0_) rfl (by decide) t0_ rfl rfl (Nat.le_of_ble_eq_true rfl) (Nat.le_of_ble_eq_true rfl) (Nat.le_of_ble_eq_true rfl) (dk okd_X12_pay 8 rfl) (st' := fun o11 => [.int o11.1]) (fun _ => rfl) (fun o11 => ?_)
        refine s_if_eq (tgt := 52) X (dk okd_X12_pay 9 rfl) (by decide) ?_ ?_
        · refine s_run X ok_X12_pay 17 5 (pc' := 57) (vs' := [some (.ref p0), some (.int p1), some (.long p2), none]) (st' := [.long (-p2), .int 4, .int p1, .ref p0]) rfl ?_
          refine s_callV (b := p0) (As := [.int p1, .int 4, .long (-p2)]) (rest := []) X E mv_X12_224 (c_X12_add o11.2 p0 p1 4 (-p2)) rfl (ta1 t0_) rfl (by decide) t0_ rfl rfl (Nat.le_of_ble_eq_true rfl) (Nat.le_of_ble_eq_true rfl) (Nat.le_of_ble_eq_true rfl) (dk okd_X12_pay 11 rfl) (st' := fun S12 => []) (fun _ => rfl) (fun S12 => ?_)
          refine s_run X ok_X12_pay 22 3 (pc' := 63) (vs' := [some (.ref p0), some (.int p1), some (.long p2), none]) (st' := [.int 4, .int p1, .ref p0]) rfl ?_
          refine s_callV (b := p0) (As := [.int p1, .int 4]) (rest := []) X E mv_X12_63 (c_X12_of S12 p0 p1 4) rfl (ta1 t0_) rfl (by decide) t0_ rfl rfl (Nat.le_of_ble_eq_true rfl) (Nat.le_of_ble_eq_true rfl) (Nat.le_of_ble_eq_true rfl) (dk okd_X12_pay 12 rfl) (st' := fun v13 => [.long v13]) (fun _ => rfl) (fun v13 => ?_)
          exact s_lret X hr (dk okd_X12_pay 13 rfl) rfl rfl
        · refine s_run X ok_X12_pay 16 1 (pc' := 51) (vs' := [some (.ref p0), some (.int p1), some (.long p2), none]) (st' := [.long 0]) rfl ?_
          exact s_lret X hr (dk okd_X12_pay 10 rfl) rfl rfl
      · refine s_if_ne (tgt := 42) X (dk okd_X12_pay 7 rfl) (by decide) ?_ ?_
        · refine s_run X ok_X12_pay 14 1 (pc' := 43) (vs' := [some (.ref p0), some (.int p1), some (.long p2), none]) (st' := [.int 0, .ref p0]) rfl ?_
          exact h10 0
        · refine s_run X ok_X12_pay 12 2 (pc' := 43) (vs' := [some (.ref p0), some (.int p1), some (.long p2), none]) (st' := [.int 1, .ref p0]) rfl ?_
          exact h10 1
  · refine s_if_ne (tgt := 18) X (dk okd_X12_pay 2 rfl) (by decide) ?_ ?_
    · refine s_run X ok_X12_pay 7 1 (pc' := 19) (vs' := [some (.ref p0), some (.int p1), some (.long p2), none]) (st' := [.int 0, .ref p0]) rfl ?_
      exact h5 0
    · refine s_run X ok_X12_pay 5 2 (pc' := 19) (vs' := [some (.ref p0), some (.int p1), some (.long p2), none]) (st' := [.int 1, .ref p0]) rfl ?_
      exact h5 1
def tab_X12_payOff : List En := [(0, 8, 0, 0), (1, 0, 0, 0), (5, 8, 0, 0), (6, 8, 0, 0), (7, 4, 1, 0), (14, 0, 0, 1), (15, 41, 19, 0), (18, 0, 0, 0), (19, 0, 0, 1), (26, 8, 0, 0), (27, 6, 2, 0), (28, 3, 1, 0), (38, 0, 0, 1), (39, 41, 43, 0), (42, 0, 0, 0), (43, 0, 0, 2), (50, 0, 0, 0), (52, 8, 0, 0), (53, 4, 1, 0), (54, 0, 0, 4), (58, 13, 4, 0), (60, 0, 0, 0), (61, 11, 6, 0), (63, 7, 4, 0), (65, 3, 0, 0), (66, 40, 0, 0), (70, 5, 6, 0), (72, 1, 0, 120), (77, 7, 4, 0), (79, 7, 4, 0), (81, 8, 0, 0), (85, 1, 0, 6), (91, 6, 2, 0), (92, 24, 0, 0), (93, 23, 0, 0), (94, 13, 4, 0), (96, 16, 6, 1), (99, 41, 63, 0), (102, 7, 4, 0), (104, 3, 0, 0), (105, 40, 0, 0), (109, 0, 0, (-1)), (110, 41, 115, 0), (113, 5, 6, 0)]
theorem ok_X12_payOff : tab_X12_payOff.all (okE cX12_payOff) = true := by decide +kernel
def ed_X12_payOff : List (Nat × Instr × Nat) := [(2, .putfield 50, 3), (8, .invokevirtual 85, 3), (11, .ifCond .ne 7, 3), (20, .invokevirtual 81, 3), (23, .ifCond .ne 27, 3), (29, .ldc2_w 174, 3), (32, .invokestatic 53, 3), (35, .ifCond .ne 7, 3), (44, .invokevirtual 81, 3), (47, .ifCond .eq 5, 3), (51, .ireturn, 1), (55, .invokevirtual 63, 3), (67, .ifCond .le 35, 3), (74, .if_icmp .ge 28, 3), (82, .getfield 9, 3), (87, .laload, 1), (88, .invokestatic 187, 3), (106, .ifCond .le 7, 3), (115, .ireturn, 1)]
theorem okd_X12_payOff : ed_X12_payOff.all (okD cX12_payOff) = true := by decide +kernel
def f_X12_payOff (S : St) (p0 : Nat) (p1 : Int32) (p2 : Int64) : Option (Int32 × St) := lt (uI S p0 2 0) fun (S1 : St) => cl (f_X12_isFranchisee S1 p0 p1) fun (v2 : Int32) => jn (κ := Int32 → Option (Int32 × St)) (fun x3 => cl (f_X12_throwsIf S1 p0 x3 1) fun (o6 : Int32 × St) => if o6.1 = 0 then (cl (f_X12_inRange o6.2 p2 1 1000000000) fun (v7 : Int32) => jn (κ := Int32 → Option (Int32 × St)) (fun x8 => cl (f_X12_throwsIf o6.2 p0 x8 2) fun (o11 : Int32 × St) => if o11.1 = 0 then (cl (f_X12_of o11.2 p0 p1 4) fun (v12 : Int64) => jn (κ := Int64 → Int32 → Option (Int32 × St)) (fun x13 x14 => if x13 ≤ 0 then (some (x14, o11.2)) else (some ((-1), o11.2))) fun k15 => lp (κ := Int64 → Int32 → Option (Int32 × St)) (fun _ _ => none) (fun k19 x17 x18 => if x17 ≤ 0 then (k15 x17 x18) else (if 120 ≤ x18 then (k15 x17 x18) else (lt (gR o11.2 p0 0) fun (a21 : Nat) => ldJ o11.2 a21 6 fun (v23 : Int64) => cl (f_X12_rated o11.2 x17 v23) fun (v24 : Int64) => lt (x17 + (v24 - p2)) fun (v25 : Int64) => k19 v25 (x18 + 1)))) FU v12 0) else (some (0, o11.2))) fun k9 => if v7 = 0 then (k9 1) else (k9 0)) else (some (0, o6.2))) fun k4 => if v2 = 0 then (k4 1) else (k4 0)
set_option maxHeartbeats 4000000 in
set_option maxRecDepth 100000 in
theorem c_X12_payOff (S : St) (p0 : Nat) (p1 : Int32) (p2 : Int64) : Ct yX12_payOff cX12_payOff 7 (some .int) 2 46 (fun _ => [.ref p0, .int p1, .long p2]) [(p0, 11)] S (f_X12_payOff S p0 p1 p2) oIS sS := by
  refine Ct_of RX12 rfl (by decide) (fun _ => Nat.le_of_ble_eq_true rfl) 3 (vs := fun _ => [some (.ref p0), some (.int p1), some (.long p2), none, none, none, none]) (fun _ => rfl) (fun C X E hr ht => ?_)
  have t0_ : tT C p0 11 := ht (p0, 11) (by simp)
  show Jd C 7 (QJ C oIS sS) S 0 [some (.ref p0), some (.int p1), some (.long p2), none, none, none, none] [] (f_X12_payOff S p0 p1 p2)
  unfold f_X12_payOff
  refine s_run X ok_X12_payOff 0 2 (pc' := 2) (vs' := [some (.ref p0), some (.int p1), some (.long p2), none, none, none, none]) (st' := [.int 0, .ref p0]) rfl ?_
  refine s_putI X fp_X12_50 t0_ (dk okd_X12_payOff 0 rfl) (fun S1 => ?_)
  refine s_run X ok_X12_payOff 2 3 (pc' := 8) (vs' := [some (.ref p0), some (.int p1), some (.long p2), none, none, none, none]) (st' := [.int p1, .ref p0, .ref p0]) rfl ?_
  refine s_callV (b := p0) (As := [.int p1]) (rest := [.ref p0]) X E mv_X12_85 (c_X12_isFranchisee S1 p0 p1) rfl (ta1 t0_) rfl (by decide) t0_ rfl rfl (Nat.le_of_ble_eq_true rfl) (Nat.le_of_ble_eq_true rfl) (Nat.le_of_ble_eq_true rfl) (dk okd_X12_payOff 1 rfl) (st' := fun v2 => [.int v2, .ref p0]) (fun _ => rfl) (fun v2 => ?_)
  refine s_jn (κ := Int32 → Option (Int32 × St)) (fun k4 => ∀ (x3 : Int32), Jd C 7 (QJ C oIS sS) S1 19 [some (.ref p0), some (.int p1), some (.long p2), none, none, none, none] [.int x3, .ref p0] (k4 x3)) (fun x3 => ?_) (fun k4 h5 => ?_)
  · refine s_run X ok_X12_payOff 8 1 (pc' := 20) (vs' := [some (.ref p0), some (.int p1), some (.long p2), none, none, none, none]) (st' := [.int 1, .int x3, .ref p0]) rfl ?_
    refine s_callV (b := p0) (As := [.int x3, .int 1]) (rest := []) X E mv_X12_81 (c_X12_throwsIf S1 p0 x3 1) rfl (ta1 t0_) rfl (by decide) t0_ rfl rfl (Nat.le_of_ble_eq_true rfl) (Nat.le_of_ble_eq_true rfl) (Nat.le_of_ble_eq_true rfl) (dk okd_X12_payOff 3 rfl) (st' := fun o6 => [.int o6.1]) (fun _ => rfl) (fun o6 => ?_)
    refine s_if_ne (tgt := 50) X (dk okd_X12_payOff 4 rfl) (by decide) ?_ ?_
    · refine s_run X ok_X12_payOff 16 1 (pc' := 51) (vs' := [some (.ref p0), some (.int p1), some (.long p2), none, none, none, none]) (st' := [.int 0]) rfl ?_
      exact s_iret X hr (dk okd_X12_payOff 10 rfl) rfl rfl
    · refine s_run X ok_X12_payOff 9 3 (pc' := 29) (vs' := [some (.ref p0), some (.int p1), some (.long p2), none, none, none, none]) (st' := [.long 1, .long p2, .ref p0]) rfl ?_
      refine s_ldc2 X cl_X12_174 (dk okd_X12_payOff 5 rfl) ?_
      refine s_callS (As := [.long p2, .long 1, .long 1000000000]) (rest := [.ref p0]) X E ms_X12_53 (c_X12_inRange o6.2 p2 1 1000000000) rfl (ta0) rfl rfl (Nat.le_of_ble_eq_true rfl) (Nat.le_of_ble_eq_true rfl) (Nat.le_of_ble_eq_true rfl) (dk okd_X12_payOff 6 rfl) (st' := fun v7 => [.int v7, .ref p0]) (fun _ => rfl) (fun v7 => ?_)
      refine s_jn (κ := Int32 → Option (Int32 × St)) (fun k9 => ∀ (x8 : Int32), Jd C 7 (QJ C oIS sS) o6.2 43 [some (.ref p0), some (.int p1), some (.long p2), none, none, none, none] [.int x8, .ref p0] (k9 x8)) (fun x8 => ?_) (fun k9 h10 => ?_)
      · refine s_run X ok_X12_payOff 15 1 (pc' := 44) (vs' := [some (.ref p0), some (.int p1), some (.long p2), none, none, none, none]) (st' := [.int 2, .int x8, .ref p0]) rfl ?_
        refine s_callV (b := p0) (As := [.int x8, .int 2]) (rest := []) X E mv_X12_81 (c_X12_throwsIf o6.2 p0 x8 2) rfl (ta1 t0_) rfl (by decide) t0_ rfl rfl (Nat.le_of_ble_eq_true rfl) (Nat.le_of_ble_eq_true rfl) (Nat.le_of_ble_eq_true rfl) (dk okd_X12_payOff 8 rfl) (st' := fun o11 => [.int o11.1]) (fun _ => rfl) (fun o11 => ?_)
        refine s_if_eq (tgt := 52) X (dk okd_X12_payOff 9 rfl) (by decide) ?_ ?_
        · refine s_run X ok_X12_payOff 17 3 (pc' := 55) (vs' := [some (.ref p0), some (.int p1), some (.long p2), none, none, none, none]) (st' := [.int 4, .int p1, .ref p0]) rfl ?_
          refine s_callV (b := p0) (As := [.int p1, .int 4]) (rest := []) X E mv_X12_63 (c_X12_of o11.2 p0 p1 4) rfl (ta1 t0_) rfl (by decide) t0_ rfl rfl (Nat.le_of_ble_eq_true rfl) (Nat.le_of_ble_eq_true rfl) (Nat.le_of_ble_eq_true rfl) (dk okd_X12_payOff 11 rfl) (st' := fun v12 => [.long v12]) (fun _ => rfl) (fun v12 => ?_)
          refine s_run X ok_X12_payOff 20 3 (pc' := 63) (vs' := [some (.ref p0), some (.int p1), some (.long p2), none, some (.long v12), none, some (.int 0)]) (st' := []) rfl ?_
          refine s_jn (κ := Int64 → Int32 → Option (Int32 × St)) (fun k15 => ∀ (x13 : Int64) (x14 : Int32), Jd C 7 (QJ C oIS sS) o11.2 102 [none, none, none, none, some (.long x13), none, some (.int x14)] [] (k15 x13 x14)) (fun x13 x14 => ?_) (fun k15 h16 => ?_)
          · refine s_run X ok_X12_payOff 38 3 (pc' := 106) (vs' := [none, none, none, none, some (.long x13), none, some (.int x14)]) (st' := [.int (lg_cmp x13 0)]) rfl ?_
            refine s_lif_le (tgt := 113) X (dk okd_X12_payOff 17 rfl) (by decide) ?_ ?_
            · refine s_run X ok_X12_payOff 43 1 (pc' := 115) (vs' := [none, none, none, none, some (.long x13), none, some (.int x14)]) (st' := [.int x14]) rfl ?_
              exact s_iret X hr (dk okd_X12_payOff 18 rfl) rfl rfl
            · refine s_run X ok_X12_payOff 41 2 (pc' := 115) (vs' := [none, none, none, none, some (.long x13), none, some (.int x14)]) (st' := [.int (-1)]) rfl ?_
              exact s_iret X hr (dk okd_X12_payOff 18 rfl) rfl rfl
          · refine s_less [true, false, true, false, true, false, true] (vs' := [some (.ref p0), none, some (.long p2), none, some (.long v12), none, some (.int 0)]) rfl ?_
            refine s_lp (κ := Int64 → Int32 → Option (Int32 × St)) (fun k19 => ∀ (x17 : Int64) (x18 : Int32), Jd C 7 (QJ C oIS sS) o11.2 63 [some (.ref p0), none, some (.long p2), none, some (.long x17), none, some (.int x18)] [] (k19 x17 x18)) (fun _ _ => s_none) (fun k19 h20 x17 x18 => ?_) FU v12 0
            refine s_run X ok_X12_payOff 23 3 (pc' := 67) (vs' := [some (.ref p0), none, some (.long p2), none, some (.long x17), none, some (.int x18)]) (st' := [.int (lg_cmp x17 0)]) rfl ?_
            refine s_lif_le (tgt := 102) X (dk okd_X12_payOff 12 rfl) (by decide) ?_ ?_
            · exact s_less [false, false, false, false, true, false, true] rfl (h16 x17 x18)
            · refine s_run X ok_X12_payOff 26 2 (pc' := 74) (vs' := [some (.ref p0), none, some (.long p2), none, some (.long x17), none, some (.int x18)]) (st' := [.int 120, .int x18]) rfl ?_
              refine s_icmp_ge (tgt := 102) X (dk okd_X12_payOff 13 rfl) (by decide) ?_ ?_
              · exact s_less [false, false, false, false, true, false, true] rfl (h16 x17 x18)
              · refine s_run X ok_X12_payOff 28 3 (pc' := 82) (vs' := [some (.ref p0), none, some (.long p2), none, some (.long x17), none, some (.int x18)]) (st' := [.ref p0, .long x17, .long x17]) rfl ?_
                refine s_getR X fl_X12_9 t0_ (dk okd_X12_payOff 14 rfl) (fun a21 (t22 : tT C a21 14) => ?_)
                refine s_run X ok_X12_payOff 31 1 (pc' := 87) (vs' := [some (.ref p0), none, some (.long p2), none, some (.long x17), none, some (.int x18)]) (st' := [.int 6, .ref a21, .long x17, .long x17]) rfl ?_
                refine s_lald X t22 (dk okd_X12_payOff 15 rfl) (fun v23 => ?_)
                refine s_callS (As := [.long x17, .long v23]) (rest := [.long x17]) X E ms_X12_187 (c_X12_rated o11.2 x17 v23) rfl (ta0) rfl rfl (Nat.le_of_ble_eq_true rfl) (Nat.le_of_ble_eq_true rfl) (Nat.le_of_ble_eq_true rfl) (dk okd_X12_payOff 16 rfl) (st' := fun v24 => [.long v24, .long x17]) (fun _ => rfl) (fun v24 => ?_)
                refine s_run X ok_X12_payOff 32 3 (pc' := 94) (vs' := [some (.ref p0), none, some (.long p2), none, some (.long x17), none, some (.int x18)]) (st' := [.long (x17 + (v24 - p2))]) rfl ?_
                refine s_nmJ (fun v25 => ?_)
                refine s_run X ok_X12_payOff 35 3 (pc' := 63) (vs' := [some (.ref p0), none, some (.long p2), none, some (.long v25), none, some (.int (x18 + 1))]) (st' := []) rfl ?_
                exact h20 v25 (x18 + 1)
        · refine s_run X ok_X12_payOff 16 1 (pc' := 51) (vs' := [some (.ref p0), some (.int p1), some (.long p2), none, none, none, none]) (st' := [.int 0]) rfl ?_
          exact s_iret X hr (dk okd_X12_payOff 10 rfl) rfl rfl
      · refine s_if_ne (tgt := 42) X (dk okd_X12_payOff 7 rfl) (by decide) ?_ ?_
        · refine s_run X ok_X12_payOff 14 1 (pc' := 43) (vs' := [some (.ref p0), some (.int p1), some (.long p2), none, none, none, none]) (st' := [.int 0, .ref p0]) rfl ?_
          exact h10 0
        · refine s_run X ok_X12_payOff 12 2 (pc' := 43) (vs' := [some (.ref p0), some (.int p1), some (.long p2), none, none, none, none]) (st' := [.int 1, .ref p0]) rfl ?_
          exact h10 1
  · refine s_if_ne (tgt := 18) X (dk okd_X12_payOff 2 rfl) (by decide) ?_ ?_
    · refine s_run X ok_X12_payOff 7 1 (pc' := 19) (vs' := [some (.ref p0), some (.int p1), some (.long p2), none, none, none, none]) (st' := [.int 0, .ref p0]) rfl ?_
      exact h5 0
    · refine s_run X ok_X12_payOff 5 2 (pc' := 19) (vs' := [some (.ref p0), some (.int p1), some (.long p2), none, none, none, none]) (st' := [.int 1, .ref p0]) rfl ?_
      exact h5 1
def tab_X12_monthsOverdue : List En := [(0, 8, 0, 0), (1, 0, 0, 0), (5, 8, 0, 0), (6, 8, 0, 0), (7, 4, 1, 0), (14, 0, 0, 1), (15, 41, 19, 0), (18, 0, 0, 0), (19, 0, 0, 1), (26, 0, 0, 0), (27, 41, 38, 0), (30, 8, 0, 0), (31, 4, 1, 0), (32, 1, 0, 6), (37, 32, 0, 0)]
theorem ok_X12_monthsOverdue : tab_X12_monthsOverdue.all (okE cX12_monthsOverdue) = true := by decide +kernel
def ed_X12_monthsOverdue : List (Nat × Instr × Nat) := [(2, .putfield 50, 3), (8, .invokevirtual 85, 3), (11, .ifCond .ne 7, 3), (20, .invokevirtual 81, 3), (23, .ifCond .eq 7, 3), (34, .invokevirtual 63, 3), (38, .ireturn, 1)]
theorem okd_X12_monthsOverdue : ed_X12_monthsOverdue.all (okD cX12_monthsOverdue) = true := by decide +kernel
def f_X12_monthsOverdue (S : St) (p0 : Nat) (p1 : Int32) : Option (Int32 × St) := lt (uI S p0 2 0) fun (S1 : St) => cl (f_X12_isFranchisee S1 p0 p1) fun (v2 : Int32) => jn (κ := Int32 → Option (Int32 × St)) (fun x3 => cl (f_X12_throwsIf S1 p0 x3 1) fun (o6 : Int32 × St) => if o6.1 = 0 then (cl (f_X12_of o6.2 p0 p1 6) fun (v7 : Int64) => some ((Int64.toInt32 v7), o6.2)) else (some (0, o6.2))) fun k4 => if v2 = 0 then (k4 1) else (k4 0)
set_option maxHeartbeats 4000000 in
set_option maxRecDepth 100000 in
theorem c_X12_monthsOverdue (S : St) (p0 : Nat) (p1 : Int32) : Ct yX12_monthsOverdue cX12_monthsOverdue 2 (some .int) 2 46 (fun _ => [.ref p0, .int p1]) [(p0, 11)] S (f_X12_monthsOverdue S p0 p1) oIS sS := by
  refine Ct_of RX12 rfl (by decide) (fun _ => Nat.le_of_ble_eq_true rfl) 0 (vs := fun _ => [some (.ref p0), some (.int p1)]) (fun _ => rfl) (fun C X E hr ht => ?_)
  have t0_ : tT C p0 11 := ht (p0, 11) (by simp)
  show Jd C 2 (QJ C oIS sS) S 0 [some (.ref p0), some (.int p1)] [] (f_X12_monthsOverdue S p0 p1)
  unfold f_X12_monthsOverdue
  refine s_run X ok_X12_monthsOverdue 0 2 (pc' := 2) (vs' := [some (.ref p0), some (.int p1)]) (st' := [.int 0, .ref p0]) rfl ?_
  refine s_putI X fp_X12_50 t0_ (dk okd_X12_monthsOverdue 0 rfl) (fun S1 => ?_)
  refine s_run X ok_X12_monthsOverdue 2 3 (pc' := 8) (vs' := [some (.ref p0), some (.int p1)]) (st' := [.int p1, .ref p0, .ref p0]) rfl ?_
  refine s_callV (b := p0) (As := [.int p1]) (rest := [.ref p0]) X E mv_X12_85 (c_X12_isFranchisee S1 p0 p1) rfl (ta1 t0_) rfl (by decide) t0_ rfl rfl (Nat.le_of_ble_eq_true rfl) (Nat.le_of_ble_eq_true rfl) (Nat.le_of_ble_eq_true rfl) (dk okd_X12_monthsOverdue 1 rfl) (st' := fun v2 => [.int v2, .ref p0]) (fun _ => rfl) (fun v2 => ?_)
  refine s_jn (κ := Int32 → Option (Int32 × St)) (fun k4 => ∀ (x3 : Int32), Jd C 2 (QJ C oIS sS) S1 19 [some (.ref p0), some (.int p1)] [.int x3, .ref p0] (k4 x3)) (fun x3 => ?_) (fun k4 h5 => ?_)
  · refine s_run X ok_X12_monthsOverdue 8 1 (pc' := 20) (vs' := [some (.ref p0), some (.int p1)]) (st' := [.int 1, .int x3, .ref p0]) rfl ?_
    refine s_callV (b := p0) (As := [.int x3, .int 1]) (rest := []) X E mv_X12_81 (c_X12_throwsIf S1 p0 x3 1) rfl (ta1 t0_) rfl (by decide) t0_ rfl rfl (Nat.le_of_ble_eq_true rfl) (Nat.le_of_ble_eq_true rfl) (Nat.le_of_ble_eq_true rfl) (dk okd_X12_monthsOverdue 3 rfl) (st' := fun o6 => [.int o6.1]) (fun _ => rfl) (fun o6 => ?_)
    refine s_if_eq (tgt := 30) X (dk okd_X12_monthsOverdue 4 rfl) (by decide) ?_ ?_
    · refine s_run X ok_X12_monthsOverdue 11 3 (pc' := 34) (vs' := [some (.ref p0), some (.int p1)]) (st' := [.int 6, .int p1, .ref p0]) rfl ?_
      refine s_callV (b := p0) (As := [.int p1, .int 6]) (rest := []) X E mv_X12_63 (c_X12_of o6.2 p0 p1 6) rfl (ta1 t0_) rfl (by decide) t0_ rfl rfl (Nat.le_of_ble_eq_true rfl) (Nat.le_of_ble_eq_true rfl) (Nat.le_of_ble_eq_true rfl) (dk okd_X12_monthsOverdue 5 rfl) (st' := fun v7 => [.long v7]) (fun _ => rfl) (fun v7 => ?_)
      refine s_run X ok_X12_monthsOverdue 14 1 (pc' := 38) (vs' := [some (.ref p0), some (.int p1)]) (st' := [.int (Int64.toInt32 v7)]) rfl ?_
      exact s_iret X hr (dk okd_X12_monthsOverdue 6 rfl) rfl rfl
    · refine s_run X ok_X12_monthsOverdue 9 2 (pc' := 38) (vs' := [some (.ref p0), some (.int p1)]) (st' := [.int 0]) rfl ?_
      exact s_iret X hr (dk okd_X12_monthsOverdue 6 rfl) rfl rfl
  · refine s_if_ne (tgt := 18) X (dk okd_X12_monthsOverdue 2 rfl) (by decide) ?_ ?_
    · refine s_run X ok_X12_monthsOverdue 7 1 (pc' := 19) (vs' := [some (.ref p0), some (.int p1)]) (st' := [.int 0, .ref p0]) rfl ?_
      exact h5 0
    · refine s_run X ok_X12_monthsOverdue 5 2 (pc' := 19) (vs' := [some (.ref p0), some (.int p1)]) (st' := [.int 1, .ref p0]) rfl ?_
      exact h5 1
def tab_X12_terminate : List En := [(0, 8, 0, 0), (1, 0, 0, 0), (5, 8, 0, 0), (6, 8, 0, 0), (7, 4, 1, 0), (14, 0, 0, 1), (15, 41, 19, 0), (18, 0, 0, 0), (19, 0, 0, 1), (26, 8, 0, 0), (27, 4, 1, 0), (34, 8, 0, 0), (35, 4, 1, 0), (36, 1, 0, 6), (44, 40, 0, 0), (48, 0, 0, 0), (50, 8, 0, 0), (51, 4, 1, 0), (52, 0, 0, 3), (53, 3, 1, 0), (57, 0, 0, 0), (58, 10, 2, 0), (59, 4, 2, 0), (60, 31, 0, 0), (61, 8, 0, 0), (65, 0, 0, 3), (67, 40, 0, 0), (71, 8, 0, 0), (72, 4, 2, 0), (73, 0, 0, 0), (77, 4, 1, 0), (78, 31, 0, 0), (79, 40, 0, 0), (83, 8, 0, 0), (87, 2, 0, 186), (90, 0, 0, 4), (91, 4, 2, 0), (92, 19, 0, 0), (93, 17, 0, 0), (94, 0, 0, 0), (95, 17, 0, 0), (100, 16, 2, 1), (103, 41, 59, 0), (106, 0, 0, 0), (107, 10, 2, 0), (108, 4, 2, 0), (109, 2, 0, 900), (115, 8, 0, 0), (119, 2, 0, 250), (122, 4, 2, 0), (123, 17, 0, 0), (125, 4, 1, 0), (126, 31, 0, 0), (127, 40, 0, 0), (131, 8, 0, 0), (135, 2, 0, 250), (138, 4, 2, 0), (139, 17, 0, 0), (144, 16, 2, 1), (147, 41, 108, 0), (150, 8, 0, 0), (151, 4, 1, 0), (158, 8, 0, 0), (159, 4, 1, 0), (160, 1, 0, 9), (168, 0, 0, 1)]
theorem ok_X12_terminate : tab_X12_terminate.all (okE cX12_terminate) = true := by decide +kernel
def ed_X12_terminate : List (Nat × Instr × Nat) := [(2, .putfield 50, 3), (8, .invokevirtual 85, 3), (11, .ifCond .ne 7, 3), (20, .invokevirtual 81, 3), (23, .ifCond .ne 25, 3), (28, .invokevirtual 128, 3), (31, .ifCond .eq 17, 3), (38, .invokevirtual 63, 3), (41, .ldc2_w 244, 3), (45, .ifCond .ge 5, 3), (49, .ireturn, 1), (54, .invokevirtual 183, 3), (62, .getfield 9, 3), (66, .laload, 1), (68, .ifCond .ge 38, 3), (74, .invokevirtual 113, 3), (80, .ifCond .ne 20, 3), (84, .getfield 9, 3), (96, .ldc2_w 48, 3), (99, .lastore, 1), (112, .if_icmp .ge 38, 3), (116, .getfield 9, 3), (124, .laload, 1), (128, .ifCond .ne 16, 3), (132, .getfield 9, 3), (140, .ldc2_w 48, 3), (143, .lastore, 1), (152, .invokevirtual 246, 3), (155, .ifCond .eq 13, 3), (162, .ldc2_w 244, 3), (165, .invokevirtual 183, 3), (169, .ireturn, 1)]
theorem okd_X12_terminate : ed_X12_terminate.all (okD cX12_terminate) = true := by decide +kernel
def f_X12_terminate (S : St) (p0 : Nat) (p1 : Int32) : Option (Int32 × St) := lt (uI S p0 2 0) fun (S1 : St) => cl (f_X12_isFranchisee S1 p0 p1) fun (v2 : Int32) => jn (κ := Int32 → Option (Int32 × St)) (fun x3 => cl (f_X12_throwsIf S1 p0 x3 1) fun (o6 : Int32 × St) => if o6.1 = 0 then (cl (f_X12_isActive o6.2 p0 p1) fun (v7 : Int32) => if v7 = 0 then (some (0, o6.2)) else (cl (f_X12_of o6.2 p0 p1 6) fun (v8 : Int64) => if 3 ≤ v8 then (cl (f_X12_set o6.2 p0 p1 3 1) fun (S9 : St) => jn (κ := St → Option (Int32 × St)) (fun S10 => jn (κ := St → Option (Int32 × St)) (fun S13 => cl (f_X12_isOpenTransfer S13 p0 p1) fun (v16 : Int32) => if v16 = 0 then (some (1, S13)) else (cl (f_X12_set S13 p0 p1 9 3) fun (S17 : St) => some (1, S17))) fun k14 => lp (κ := Int32 → St → Option (Int32 × St)) (fun _ _ => none) (fun k20 x18 S19 => if 900 ≤ x18 then (k14 S19) else (lt (gR S19 p0 0) fun (a22 : Nat) => ldJ S19 a22 (250 + x18) fun (v24 : Int64) => jn (κ := St → Option (Int32 × St)) (fun S25 => k20 (x18 + 1) S25) fun k26 => if v24 = (Int32.toInt64 p1) then (lt (gR S19 p0 0) fun (a28 : Nat) => stJ S19 a28 (250 + x18) (-1) fun (S30 : St) => k26 S30) else (k26 S19))) FU 0 S10) fun k11 => lp (κ := Int32 → St → Option (Int32 × St)) (fun _ _ => none) (fun k33 x31 S32 => lt (gR S32 p0 0) fun (a35 : Nat) => ldJ S32 a35 3 fun (v37 : Int64) => if v37 ≤ (Int32.toInt64 x31) then (k11 S32) else (cl (f_X12_ofOutlet S32 p0 x31 0) fun (v38 : Int64) => jn (κ := St → Option (Int32 × St)) (fun S39 => k33 (x31 + 1) S39) fun k40 => if v38 = (Int32.toInt64 p1) then (lt (gR S32 p0 0) fun (a42 : Nat) => stJ S32 a42 ((186 + (4 * x31)) + 0) (-1) fun (S44 : St) => k40 S44) else (k40 S32))) FU 0 S9) else (some (0, o6.2)))) else (some (0, o6.2))) fun k4 => if v2 = 0 then (k4 1) else (k4 0)
set_option maxHeartbeats 4000000 in
set_option maxRecDepth 100000 in
theorem c_X12_terminate (S : St) (p0 : Nat) (p1 : Int32) : Ct yX12_terminate cX12_terminate 3 (some .boolean) 2 46 (fun _ => [.ref p0, .int p1]) [(p0, 11)] S (f_X12_terminate S p0 p1) oIS sS := by
  refine Ct_of RX12 rfl (by decide) (fun _ => Nat.le_of_ble_eq_true rfl) 1 (vs := fun _ => [some (.ref p0), some (.int p1), none]) (fun _ => rfl) (fun C X E hr ht => ?_)
  have t0_ : tT C p0 11 := ht (p0, 11) (by simp)
  show Jd C 3 (QJ C oIS sS) S 0 [some (.ref p0), some (.int p1), none] [] (f_X12_terminate S p0 p1)
  unfold f_X12_terminate
  refine s_run X ok_X12_terminate 0 2 (pc' := 2) (vs' := [some (.ref p0), some (.int p1), none]) (st' := [.int 0, .ref p0]) rfl ?_
  refine s_putI X fp_X12_50 t0_ (dk okd_X12_terminate 0 rfl) (fun S1 => ?_)
  refine s_run X ok_X12_terminate 2 3 (pc' := 8) (vs' := [some (.ref p0), some (.int p1), none]) (st' := [.int p1, .ref p0, .ref p0]) rfl ?_
  refine s_callV (b := p0) (As := [.int p1]) (rest := [.ref p0]) X E mv_X12_85 (c_X12_isFranchisee S1 p0 p1) rfl (ta1 t0_) rfl (by decide) t0_ rfl rfl (Nat.le_of_ble_eq_true rfl) (Nat.le_of_ble_eq_true rfl) (Nat.le_of_ble_eq_true rfl) (dk okd_X12_terminate 1 rfl) (st' := fun v2 => [.int v2, .ref p0]) (fun _ => rfl) (fun v2 => ?_)
  refine s_jn (κ := Int32 → Option (Int32 × St)) (fun k4 => ∀ (x3 : Int32), Jd C 3 (QJ C oIS sS) S1 19 [some (.ref p0), some (.int p1), none] [.int x3, .ref p0] (k4 x3)) (fun x3 => ?_) (fun k4 h5 => ?_)
  · refine s_run X ok_X12_terminate 8 1 (pc' := 20) (vs' := [some (.ref p0), some (.int p1), none]) (st' := [.int 1, .int x3, .ref p0]) rfl ?_
    refine s_callV (b := p0) (As := [.int x3, .int 1]) (rest := []) X E mv_X12_81 (c_X12_throwsIf S1 p0 x3 1) rfl (ta1 t0_) rfl (by decide) t0_ rfl rfl (Nat.le_of_ble_eq_true rfl) (Nat.le_of_ble_eq_true rfl) (Nat.le_of_ble_eq_true rfl) (dk okd_X12_terminate 3 rfl) (st' := fun o6 => [.int o6.1]) (fun _ => rfl) (fun o6 => ?_)
    refine s_if_ne (tgt := 48) X (dk okd_X12_terminate 4 rfl) (by decide) ?_ ?_
    · refine s_run X ok_X12_terminate 15 1 (pc' := 49) (vs' := [some (.ref p0), some (.int p1), none]) (st' := [.int 0]) rfl ?_
      exact s_zret0 X hr (dk okd_X12_terminate 10 rfl) (by decide) rfl rfl
    · refine s_run X ok_X12_terminate 9 2 (pc' := 28) (vs' := [some (.ref p0), some (.int p1), none]) (st' := [.int p1, .ref p0]) rfl ?_
      refine s_callV (b := p0) (As := [.int p1]) (rest := []) X E mv_X12_128 (c_X12_isActive o6.2 p0 p1) rfl (ta1 t0_) rfl (by decide) t0_ rfl rfl (Nat.le_of_ble_eq_true rfl) (Nat.le_of_ble_eq_true rfl) (Nat.le_of_ble_eq_true rfl) (dk okd_X12_terminate 5 rfl) (st' := fun v7 => [.int v7]) (fun _ => rfl) (fun v7 => ?_)
      refine s_if_eq (tgt := 48) X (dk okd_X12_terminate 6 rfl) (by decide) ?_ ?_
      · refine s_run X ok_X12_terminate 15 1 (pc' := 49) (vs' := [some (.ref p0), some (.int p1), none]) (st' := [.int 0]) rfl ?_
        exact s_zret0 X hr (dk okd_X12_terminate 10 rfl) (by decide) rfl rfl
      · refine s_run X ok_X12_terminate 11 3 (pc' := 38) (vs' := [some (.ref p0), some (.int p1), none]) (st' := [.int 6, .int p1, .ref p0]) rfl ?_
        refine s_callV (b := p0) (As := [.int p1, .int 6]) (rest := []) X E mv_X12_63 (c_X12_of o6.2 p0 p1 6) rfl (ta1 t0_) rfl (by decide) t0_ rfl rfl (Nat.le_of_ble_eq_true rfl) (Nat.le_of_ble_eq_true rfl) (Nat.le_of_ble_eq_true rfl) (dk okd_X12_terminate 7 rfl) (st' := fun v8 => [.long v8]) (fun _ => rfl) (fun v8 => ?_)
        refine s_ldc2 X cl_X12_244 (dk okd_X12_terminate 8 rfl) ?_
        refine s_run X ok_X12_terminate 14 1 (pc' := 45) (vs' := [some (.ref p0), some (.int p1), none]) (st' := [.int (lg_cmp v8 3)]) rfl ?_
        refine s_lif_ge (tgt := 50) X (dk okd_X12_terminate 9 rfl) (by decide) ?_ ?_
        · refine s_run X ok_X12_terminate 16 4 (pc' := 54) (vs' := [some (.ref p0), some (.int p1), none]) (st' := [.long 1, .int 3, .int p1, .ref p0]) rfl ?_
          refine s_callV (b := p0) (As := [.int p1, .int 3, .long 1]) (rest := []) X E mv_X12_183 (c_X12_set o6.2 p0 p1 3 1) rfl (ta1 t0_) rfl (by decide) t0_ rfl rfl (Nat.le_of_ble_eq_true rfl) (Nat.le_of_ble_eq_true rfl) (Nat.le_of_ble_eq_true rfl) (dk okd_X12_terminate 11 rfl) (st' := fun S9 => []) (fun _ => rfl) (fun S9 => ?_)
          refine s_run X ok_X12_terminate 20 2 (pc' := 59) (vs' := [some (.ref p0), some (.int p1), some (.int 0)]) (st' := []) rfl ?_
          refine s_jn (κ := St → Option (Int32 × St)) (fun k11 => ∀ (S10 : St), Jd C 3 (QJ C oIS sS) S10 106 [some (.ref p0), some (.int p1), none] [] (k11 S10)) (fun S10 => ?_) (fun k11 h12 => ?_)
          · refine s_run X ok_X12_terminate 43 2 (pc' := 108) (vs' := [some (.ref p0), some (.int p1), some (.int 0)]) (st' := []) rfl ?_
            refine s_jn (κ := St → Option (Int32 × St)) (fun k14 => ∀ (S13 : St), Jd C 3 (QJ C oIS sS) S13 150 [some (.ref p0), some (.int p1), none] [] (k14 S13)) (fun S13 => ?_) (fun k14 h15 => ?_)
            · refine s_run X ok_X12_terminate 60 2 (pc' := 152) (vs' := [some (.ref p0), some (.int p1), none]) (st' := [.int p1, .ref p0]) rfl ?_
              refine s_callV (b := p0) (As := [.int p1]) (rest := []) X E mv_X12_246 (c_X12_isOpenTransfer S13 p0 p1) rfl (ta1 t0_) rfl (by decide) t0_ rfl rfl (Nat.le_of_ble_eq_true rfl) (Nat.le_of_ble_eq_true rfl) (Nat.le_of_ble_eq_true rfl) (dk okd_X12_terminate 27 rfl) (st' := fun v16 => [.int v16]) (fun _ => rfl) (fun v16 => ?_)
              refine s_if_eq (tgt := 168) X (dk okd_X12_terminate 28 rfl) (by decide) ?_ ?_
              · refine s_run X ok_X12_terminate 65 1 (pc' := 169) (vs' := [some (.ref p0), some (.int p1), none]) (st' := [.int 1]) rfl ?_
                exact s_zret0 X hr (dk okd_X12_terminate 31 rfl) (by decide) rfl rfl
              · refine s_run X ok_X12_terminate 62 3 (pc' := 162) (vs' := [some (.ref p0), some (.int p1), none]) (st' := [.int 9, .int p1, .ref p0]) rfl ?_
                refine s_ldc2 X cl_X12_244 (dk okd_X12_terminate 29 rfl) ?_
                refine s_callV (b := p0) (As := [.int p1, .int 9, .long 3]) (rest := []) X E mv_X12_183 (c_X12_set S13 p0 p1 9 3) rfl (ta1 t0_) rfl (by decide) t0_ rfl rfl (Nat.le_of_ble_eq_true rfl) (Nat.le_of_ble_eq_true rfl) (Nat.le_of_ble_eq_true rfl) (dk okd_X12_terminate 30 rfl) (st' := fun S17 => []) (fun _ => rfl) (fun S17 => ?_)
                refine s_run X ok_X12_terminate 65 1 (pc' := 169) (vs' := [some (.ref p0), some (.int p1), none]) (st' := [.int 1]) rfl ?_
                exact s_zret0 X hr (dk okd_X12_terminate 31 rfl) (by decide) rfl rfl
            · refine s_lp (κ := Int32 → St → Option (Int32 × St)) (fun k20 => ∀ (x18 : Int32) (S19 : St), Jd C 3 (QJ C oIS sS) S19 108 [some (.ref p0), some (.int p1), some (.int x18)] [] (k20 x18 S19)) (fun _ _ => s_none) (fun k20 h21 x18 S19 => ?_) FU 0 S10
              refine s_run X ok_X12_terminate 45 2 (pc' := 112) (vs' := [some (.ref p0), some (.int p1), some (.int x18)]) (st' := [.int 900, .int x18]) rfl ?_
              refine s_icmp_ge (tgt := 150) X (dk okd_X12_terminate 20 rfl) (by decide) ?_ ?_
              · exact s_less [true, true, false] rfl (h15 S19)
              · refine s_run X ok_X12_terminate 47 1 (pc' := 116) (vs' := [some (.ref p0), some (.int p1), some (.int x18)]) (st' := [.ref p0]) rfl ?_
                refine s_getR X fl_X12_9 t0_ (dk okd_X12_terminate 21 rfl) (fun a22 (t23 : tT C a22 14) => ?_)
                refine s_run X ok_X12_terminate 48 3 (pc' := 124) (vs' := [some (.ref p0), some (.int p1), some (.int x18)]) (st' := [.int (250 + x18), .ref a22]) rfl ?_
                refine s_lald X t23 (dk okd_X12_terminate 22 rfl) (fun v24 => ?_)
                refine s_run X ok_X12_terminate 51 3 (pc' := 128) (vs' := [some (.ref p0), some (.int p1), some (.int x18)]) (st' := [.int (lg_cmp v24 (Int32.toInt64 p1))]) rfl ?_
                refine s_jn (κ := St → Option (Int32 × St)) (fun k26 => ∀ (S25 : St), Jd C 3 (QJ C oIS sS) S25 144 [some (.ref p0), some (.int p1), some (.int x18)] [] (k26 S25)) (fun S25 => ?_) (fun k26 h27 => ?_)
                · refine s_run X ok_X12_terminate 58 2 (pc' := 108) (vs' := [some (.ref p0), some (.int p1), some (.int (x18 + 1))]) (st' := []) rfl ?_
                  exact h21 (x18 + 1) S25
                · refine s_lif_ne (tgt := 144) X (dk okd_X12_terminate 23 rfl) (by decide) ?_ ?_
                  · exact h27 S19
                  · refine s_run X ok_X12_terminate 54 1 (pc' := 132) (vs' := [some (.ref p0), some (.int p1), some (.int x18)]) (st' := [.ref p0]) rfl ?_
                    refine s_getR X fl_X12_9 t0_ (dk okd_X12_terminate 24 rfl) (fun a28 (t29 : tT C a28 14) => ?_)
                    refine s_run X ok_X12_terminate 55 3 (pc' := 140) (vs' := [some (.ref p0), some (.int p1), some (.int x18)]) (st' := [.int (250 + x18), .ref a28]) rfl ?_
                    refine s_ldc2 X cl_X12_48 (dk okd_X12_terminate 25 rfl) ?_
                    refine s_last X t29 (dk okd_X12_terminate 26 rfl) (fun S30 => ?_)
                    exact h27 S30
          · refine s_lp (κ := Int32 → St → Option (Int32 × St)) (fun k33 => ∀ (x31 : Int32) (S32 : St), Jd C 3 (QJ C oIS sS) S32 59 [some (.ref p0), some (.int p1), some (.int x31)] [] (k33 x31 S32)) (fun _ _ => s_none) (fun k33 h34 x31 S32 => ?_) FU 0 S9
            refine s_run X ok_X12_terminate 22 3 (pc' := 62) (vs' := [some (.ref p0), some (.int p1), some (.int x31)]) (st' := [.ref p0, .long (Int32.toInt64 x31)]) rfl ?_
            refine s_getR X fl_X12_9 t0_ (dk okd_X12_terminate 12 rfl) (fun a35 (t36 : tT C a35 14) => ?_)
            refine s_run X ok_X12_terminate 25 1 (pc' := 66) (vs' := [some (.ref p0), some (.int p1), some (.int x31)]) (st' := [.int 3, .ref a35, .long (Int32.toInt64 x31)]) rfl ?_
            refine s_lald X t36 (dk okd_X12_terminate 13 rfl) (fun v37 => ?_)
            refine s_run X ok_X12_terminate 26 1 (pc' := 68) (vs' := [some (.ref p0), some (.int p1), some (.int x31)]) (st' := [.int (lg_cmp (Int32.toInt64 x31) v37)]) rfl ?_
            refine s_lif_ge (tgt := 106) X (dk okd_X12_terminate 14 rfl) (by decide) ?_ ?_
            · exact s_less [true, true, false] rfl (h12 S32)
            · refine s_run X ok_X12_terminate 27 3 (pc' := 74) (vs' := [some (.ref p0), some (.int p1), some (.int x31)]) (st' := [.int 0, .int x31, .ref p0]) rfl ?_
              refine s_callV (b := p0) (As := [.int x31, .int 0]) (rest := []) X E mv_X12_113 (c_X12_ofOutlet S32 p0 x31 0) rfl (ta1 t0_) rfl (by decide) t0_ rfl rfl (Nat.le_of_ble_eq_true rfl) (Nat.le_of_ble_eq_true rfl) (Nat.le_of_ble_eq_true rfl) (dk okd_X12_terminate 15 rfl) (st' := fun v38 => [.long v38]) (fun _ => rfl) (fun v38 => ?_)
              refine s_run X ok_X12_terminate 30 3 (pc' := 80) (vs' := [some (.ref p0), some (.int p1), some (.int x31)]) (st' := [.int (lg_cmp v38 (Int32.toInt64 p1))]) rfl ?_
              refine s_jn (κ := St → Option (Int32 × St)) (fun k40 => ∀ (S39 : St), Jd C 3 (QJ C oIS sS) S39 100 [some (.ref p0), some (.int p1), some (.int x31)] [] (k40 S39)) (fun S39 => ?_) (fun k40 h41 => ?_)
              · refine s_run X ok_X12_terminate 41 2 (pc' := 59) (vs' := [some (.ref p0), some (.int p1), some (.int (x31 + 1))]) (st' := []) rfl ?_
                exact h34 (x31 + 1) S39
              · refine s_lif_ne (tgt := 100) X (dk okd_X12_terminate 16 rfl) (by decide) ?_ ?_
                · exact h41 S32
                · refine s_run X ok_X12_terminate 33 1 (pc' := 84) (vs' := [some (.ref p0), some (.int p1), some (.int x31)]) (st' := [.ref p0]) rfl ?_
                  refine s_getR X fl_X12_9 t0_ (dk okd_X12_terminate 17 rfl) (fun a42 (t43 : tT C a42 14) => ?_)
                  refine s_run X ok_X12_terminate 34 7 (pc' := 96) (vs' := [some (.ref p0), some (.int p1), some (.int x31)]) (st' := [.int ((186 + (4 * x31)) + 0), .ref a42]) rfl ?_
                  refine s_ldc2 X cl_X12_48 (dk okd_X12_terminate 18 rfl) ?_
                  refine s_last X t43 (dk okd_X12_terminate 19 rfl) (fun S44 => ?_)
                  exact h41 S44
        · refine s_run X ok_X12_terminate 15 1 (pc' := 49) (vs' := [some (.ref p0), some (.int p1), none]) (st' := [.int 0]) rfl ?_
          exact s_zret0 X hr (dk okd_X12_terminate 10 rfl) (by decide) rfl rfl
  · refine s_if_ne (tgt := 18) X (dk okd_X12_terminate 2 rfl) (by decide) ?_ ?_
    · refine s_run X ok_X12_terminate 7 1 (pc' := 19) (vs' := [some (.ref p0), some (.int p1), none]) (st' := [.int 0, .ref p0]) rfl ?_
      exact h5 0
    · refine s_run X ok_X12_terminate 5 2 (pc' := 19) (vs' := [some (.ref p0), some (.int p1), none]) (st' := [.int 1, .ref p0]) rfl ?_
      exact h5 1
def tab_X12_status : List En := [(0, 8, 0, 0), (1, 0, 0, 0), (5, 8, 0, 0), (6, 8, 0, 0), (7, 4, 1, 0), (14, 0, 0, 1), (15, 41, 19, 0), (18, 0, 0, 0), (19, 0, 0, 1), (26, 0, 0, 0), (27, 41, 37, 0), (30, 8, 0, 0), (31, 4, 1, 0), (32, 0, 0, 3), (36, 32, 0, 0)]
theorem ok_X12_status : tab_X12_status.all (okE cX12_status) = true := by decide +kernel
def ed_X12_status : List (Nat × Instr × Nat) := [(2, .putfield 50, 3), (8, .invokevirtual 85, 3), (11, .ifCond .ne 7, 3), (20, .invokevirtual 81, 3), (23, .ifCond .eq 7, 3), (33, .invokevirtual 63, 3), (37, .ireturn, 1)]
theorem okd_X12_status : ed_X12_status.all (okD cX12_status) = true := by decide +kernel
def f_X12_status (S : St) (p0 : Nat) (p1 : Int32) : Option (Int32 × St) := lt (uI S p0 2 0) fun (S1 : St) => cl (f_X12_isFranchisee S1 p0 p1) fun (v2 : Int32) => jn (κ := Int32 → Option (Int32 × St)) (fun x3 => cl (f_X12_throwsIf S1 p0 x3 1) fun (o6 : Int32 × St) => if o6.1 = 0 then (cl (f_X12_of o6.2 p0 p1 3) fun (v7 : Int64) => some ((Int64.toInt32 v7), o6.2)) else (some (0, o6.2))) fun k4 => if v2 = 0 then (k4 1) else (k4 0)
set_option maxHeartbeats 4000000 in
set_option maxRecDepth 100000 in
theorem c_X12_status (S : St) (p0 : Nat) (p1 : Int32) : Ct yX12_status cX12_status 2 (some .int) 2 46 (fun _ => [.ref p0, .int p1]) [(p0, 11)] S (f_X12_status S p0 p1) oIS sS := by
  refine Ct_of RX12 rfl (by decide) (fun _ => Nat.le_of_ble_eq_true rfl) 0 (vs := fun _ => [some (.ref p0), some (.int p1)]) (fun _ => rfl) (fun C X E hr ht => ?_)
  have t0_ : tT C p0 11 := ht (p0, 11) (by simp)
  show Jd C 2 (QJ C oIS sS) S 0 [some (.ref p0), some (.int p1)] [] (f_X12_status S p0 p1)
  unfold f_X12_status
  refine s_run X ok_X12_status 0 2 (pc' := 2) (vs' := [some (.ref p0), some (.int p1)]) (st' := [.int 0, .ref p0]) rfl ?_
  refine s_putI X fp_X12_50 t0_ (dk okd_X12_status 0 rfl) (fun S1 => ?_)
  refine s_run X ok_X12_status 2 3 (pc' := 8) (vs' := [some (.ref p0), some (.int p1)]) (st' := [.int p1, .ref p0, .ref p0]) rfl ?_
  refine s_callV (b := p0) (As := [.int p1]) (rest := [.ref p0]) X E mv_X12_85 (c_X12_isFranchisee S1 p0 p1) rfl (ta1 t0_) rfl (by decide) t0_ rfl rfl (Nat.le_of_ble_eq_true rfl) (Nat.le_of_ble_eq_true rfl) (Nat.le_of_ble_eq_true rfl) (dk okd_X12_status 1 rfl) (st' := fun v2 => [.int v2, .ref p0]) (fun _ => rfl) (fun v2 => ?_)
  refine s_jn (κ := Int32 → Option (Int32 × St)) (fun k4 => ∀ (x3 : Int32), Jd C 2 (QJ C oIS sS) S1 19 [some (.ref p0), some (.int p1)] [.int x3, .ref p0] (k4 x3)) (fun x3 => ?_) (fun k4 h5 => ?_)
  · refine s_run X ok_X12_status 8 1 (pc' := 20) (vs' := [some (.ref p0), some (.int p1)]) (st' := [.int 1, .int x3, .ref p0]) rfl ?_
    refine s_callV (b := p0) (As := [.int x3, .int 1]) (rest := []) X E mv_X12_81 (c_X12_throwsIf S1 p0 x3 1) rfl (ta1 t0_) rfl (by decide) t0_ rfl rfl (Nat.le_of_ble_eq_true rfl) (Nat.le_of_ble_eq_true rfl) (Nat.le_of_ble_eq_true rfl) (dk okd_X12_status 3 rfl) (st' := fun o6 => [.int o6.1]) (fun _ => rfl) (fun o6 => ?_)
    refine s_if_eq (tgt := 30) X (dk okd_X12_status 4 rfl) (by decide) ?_ ?_
    · refine s_run X ok_X12_status 11 3 (pc' := 33) (vs' := [some (.ref p0), some (.int p1)]) (st' := [.int 3, .int p1, .ref p0]) rfl ?_
      refine s_callV (b := p0) (As := [.int p1, .int 3]) (rest := []) X E mv_X12_63 (c_X12_of o6.2 p0 p1 3) rfl (ta1 t0_) rfl (by decide) t0_ rfl rfl (Nat.le_of_ble_eq_true rfl) (Nat.le_of_ble_eq_true rfl) (Nat.le_of_ble_eq_true rfl) (dk okd_X12_status 5 rfl) (st' := fun v7 => [.long v7]) (fun _ => rfl) (fun v7 => ?_)
      refine s_run X ok_X12_status 14 1 (pc' := 37) (vs' := [some (.ref p0), some (.int p1)]) (st' := [.int (Int64.toInt32 v7)]) rfl ?_
      exact s_iret X hr (dk okd_X12_status 6 rfl) rfl rfl
    · refine s_run X ok_X12_status 9 2 (pc' := 37) (vs' := [some (.ref p0), some (.int p1)]) (st' := [.int 0]) rfl ?_
      exact s_iret X hr (dk okd_X12_status 6 rfl) rfl rfl
  · refine s_if_ne (tgt := 18) X (dk okd_X12_status 2 rfl) (by decide) ?_ ?_
    · refine s_run X ok_X12_status 7 1 (pc' := 19) (vs' := [some (.ref p0), some (.int p1)]) (st' := [.int 0, .ref p0]) rfl ?_
      exact h5 0
    · refine s_run X ok_X12_status 5 2 (pc' := 19) (vs' := [some (.ref p0), some (.int p1)]) (st' := [.int 1, .ref p0]) rfl ?_
      exact h5 1
def tab_X12_allContributions : List En := [(0, 3, 0, 0), (1, 12, 1, 0), (2, 0, 0, 0), (3, 10, 3, 0), (4, 4, 3, 0), (5, 31, 0, 0), (6, 8, 0, 0), (10, 0, 0, 2), (12, 40, 0, 0), (16, 6, 1, 0), (17, 8, 0, 0), (18, 4, 3, 0), (19, 1, 0, 7), (24, 23, 0, 0), (25, 12, 1, 0), (26, 16, 3, 1), (29, 41, 4, 0), (32, 6, 1, 0)]
theorem ok_X12_allContributions : tab_X12_allContributions.all (okE cX12_allContributions) = true := by decide +kernel
def ed_X12_allContributions : List (Nat × Instr × Nat) := [(7, .getfield 9, 3), (11, .laload, 1), (13, .ifCond .ge 19, 3), (21, .invokevirtual 63, 3), (33, .lreturn, 1)]
theorem okd_X12_allContributions : ed_X12_allContributions.all (okD cX12_allContributions) = true := by decide +kernel
def f_X12_allContributions (S : St) (p0 : Nat) : Option (Int64) := jn (κ := Int64 → Option (Int64)) (fun x1 => some x1) fun k2 => lp (κ := Int64 → Int32 → Option (Int64)) (fun _ _ => none) (fun k6 x4 x5 => lt (gR S p0 0) fun (a8 : Nat) => ldJ S a8 2 fun (v10 : Int64) => if v10 ≤ (Int32.toInt64 x5) then (k2 x4) else (cl (f_X12_of S p0 x5 7) fun (v11 : Int64) => lt (x4 + v11) fun (v12 : Int64) => k6 v12 (x5 + 1))) FU 0 0
set_option maxHeartbeats 4000000 in
set_option maxRecDepth 100000 in
theorem c_X12_allContributions (S : St) (p0 : Nat) : Ct yX12_allContributions cX12_allContributions 4 (some .long) 1 22 (fun _ => [.ref p0]) [(p0, 11)] S (f_X12_allContributions S p0) oL (fun _ => S) := by
  refine Ct_of RX12 rfl (by decide) (fun _ => Nat.le_of_ble_eq_true rfl) 3 (vs := fun _ => [some (.ref p0), none, none, none]) (fun _ => rfl) (fun C X E hr ht => ?_)
  have t0_ : tT C p0 11 := ht (p0, 11) (by simp)
  show Jd C 4 (QJ C oL (fun _ => S)) S 0 [some (.ref p0), none, none, none] [] (f_X12_allContributions S p0)
  unfold f_X12_allContributions
  refine s_run X ok_X12_allContributions 0 4 (pc' := 4) (vs' := [some (.ref p0), some (.long 0), none, some (.int 0)]) (st' := []) rfl ?_
  refine s_jn (κ := Int64 → Option (Int64)) (fun k2 => ∀ (x1 : Int64), Jd C 4 (QJ C oL (fun _ => S)) S 32 [none, some (.long x1), none, none] [] (k2 x1)) (fun x1 => ?_) (fun k2 h3 => ?_)
  · refine s_run X ok_X12_allContributions 17 1 (pc' := 33) (vs' := [none, some (.long x1), none, none]) (st' := [.long x1]) rfl ?_
    exact s_lret X hr (dk okd_X12_allContributions 4 rfl) rfl rfl
  · refine s_lp (κ := Int64 → Int32 → Option (Int64)) (fun k6 => ∀ (x4 : Int64) (x5 : Int32), Jd C 4 (QJ C oL (fun _ => S)) S 4 [some (.ref p0), some (.long x4), none, some (.int x5)] [] (k6 x4 x5)) (fun _ _ => s_none) (fun k6 h7 x4 x5 => ?_) FU 0 0
    refine s_run X ok_X12_allContributions 4 3 (pc' := 7) (vs' := [some (.ref p0), some (.long x4), none, some (.int x5)]) (st' := [.ref p0, .long (Int32.toInt64 x5)]) rfl ?_
    refine s_getR X fl_X12_9 t0_ (dk okd_X12_allContributions 0 rfl) (fun a8 (t9 : tT C a8 14) => ?_)
    refine s_run X ok_X12_allContributions 7 1 (pc' := 11) (vs' := [some (.ref p0), some (.long x4), none, some (.int x5)]) (st' := [.int 2, .ref a8, .long (Int32.toInt64 x5)]) rfl ?_
    refine s_lald X t9 (dk okd_X12_allContributions 1 rfl) (fun v10 => ?_)
    refine s_run X ok_X12_allContributions 8 1 (pc' := 13) (vs' := [some (.ref p0), some (.long x4), none, some (.int x5)]) (st' := [.int (lg_cmp (Int32.toInt64 x5) v10)]) rfl ?_
    refine s_lif_ge (tgt := 32) X (dk okd_X12_allContributions 2 rfl) (by decide) ?_ ?_
    · exact s_less [false, true, false, false] rfl (h3 x4)
    · refine s_run X ok_X12_allContributions 9 4 (pc' := 21) (vs' := [some (.ref p0), some (.long x4), none, some (.int x5)]) (st' := [.int 7, .int x5, .ref p0, .long x4]) rfl ?_
      refine s_callV (b := p0) (As := [.int x5, .int 7]) (rest := [.long x4]) X E mv_X12_63 (c_X12_of S p0 x5 7) rfl (ta1 t0_) rfl (by decide) t0_ rfl rfl (Nat.le_of_ble_eq_true rfl) (Nat.le_of_ble_eq_true rfl) (Nat.le_of_ble_eq_true rfl) (dk okd_X12_allContributions 3 rfl) (st' := fun v11 => [.long v11, .long x4]) (fun _ => rfl) (fun v11 => ?_)
      refine s_run X ok_X12_allContributions 13 1 (pc' := 25) (vs' := [some (.ref p0), some (.long x4), none, some (.int x5)]) (st' := [.long (x4 + v11)]) rfl ?_
      refine s_nmJ (fun v12 => ?_)
      refine s_run X ok_X12_allContributions 14 3 (pc' := 4) (vs' := [some (.ref p0), some (.long v12), none, some (.int (x5 + 1))]) (st' := []) rfl ?_
      exact h7 v12 (x5 + 1)
def tab_X12_fund : List En := [(0, 8, 0, 0), (4, 8, 0, 0), (8, 1, 0, 11), (11, 24, 0, 0), (12, 8, 0, 0), (16, 1, 0, 12), (19, 24, 0, 0), (20, 8, 0, 0), (24, 1, 0, 13), (27, 24, 0, 0)]
theorem ok_X12_fund : tab_X12_fund.all (okE cX12_fund) = true := by decide +kernel
def ed_X12_fund : List (Nat × Instr × Nat) := [(1, .invokevirtual 249, 3), (5, .getfield 9, 3), (10, .laload, 1), (13, .getfield 9, 3), (18, .laload, 1), (21, .getfield 9, 3), (26, .laload, 1), (28, .lreturn, 1)]
theorem okd_X12_fund : ed_X12_fund.all (okD cX12_fund) = true := by decide +kernel
def f_X12_fund (S : St) (p0 : Nat) : Option (Int64) := cl (f_X12_allContributions S p0) fun (v1 : Int64) => lt (gR S p0 0) fun (a2 : Nat) => ldJ S a2 11 fun (v4 : Int64) => lt (gR S p0 0) fun (a5 : Nat) => ldJ S a5 12 fun (v7 : Int64) => lt (gR S p0 0) fun (a8 : Nat) => ldJ S a8 13 fun (v10 : Int64) => some (((v1 - v4) - v7) - v10)
set_option maxHeartbeats 4000000 in
set_option maxRecDepth 100000 in
theorem c_X12_fund (S : St) (p0 : Nat) : Ct yX12_fund cX12_fund 1 (some .long) 2 45 (fun _ => [.ref p0]) [(p0, 11)] S (f_X12_fund S p0) oL (fun _ => S) := by
  refine Ct_of RX12 rfl (by decide) (fun _ => Nat.le_of_ble_eq_true rfl) 0 (vs := fun _ => [some (.ref p0)]) (fun _ => rfl) (fun C X E hr ht => ?_)
  have t0_ : tT C p0 11 := ht (p0, 11) (by simp)
  show Jd C 1 (QJ C oL (fun _ => S)) S 0 [some (.ref p0)] [] (f_X12_fund S p0)
  unfold f_X12_fund
  refine s_run X ok_X12_fund 0 1 (pc' := 1) (vs' := [some (.ref p0)]) (st' := [.ref p0]) rfl ?_
  refine s_callV (b := p0) (As := []) (rest := []) X E mv_X12_249 (c_X12_allContributions S p0) rfl (ta1 t0_) rfl (by decide) t0_ rfl rfl (Nat.le_of_ble_eq_true rfl) (Nat.le_of_ble_eq_true rfl) (Nat.le_of_ble_eq_true rfl) (dk okd_X12_fund 0 rfl) (st' := fun v1 => [.long v1]) (fun _ => rfl) (fun v1 => ?_)
  refine s_run X ok_X12_fund 1 1 (pc' := 5) (vs' := [some (.ref p0)]) (st' := [.ref p0, .long v1]) rfl ?_
  refine s_getR X fl_X12_9 t0_ (dk okd_X12_fund 1 rfl) (fun a2 (t3 : tT C a2 14) => ?_)
  refine s_run X ok_X12_fund 2 1 (pc' := 10) (vs' := [some (.ref p0)]) (st' := [.int 11, .ref a2, .long v1]) rfl ?_
  refine s_lald X t3 (dk okd_X12_fund 2 rfl) (fun v4 => ?_)
  refine s_run X ok_X12_fund 3 2 (pc' := 13) (vs' := [some (.ref p0)]) (st' := [.ref p0, .long (v1 - v4)]) rfl ?_
  refine s_getR X fl_X12_9 t0_ (dk okd_X12_fund 3 rfl) (fun a5 (t6 : tT C a5 14) => ?_)
  refine s_run X ok_X12_fund 5 1 (pc' := 18) (vs' := [some (.ref p0)]) (st' := [.int 12, .ref a5, .long (v1 - v4)]) rfl ?_
  refine s_lald X t6 (dk okd_X12_fund 4 rfl) (fun v7 => ?_)
  refine s_run X ok_X12_fund 6 2 (pc' := 21) (vs' := [some (.ref p0)]) (st' := [.ref p0, .long ((v1 - v4) - v7)]) rfl ?_
  refine s_getR X fl_X12_9 t0_ (dk okd_X12_fund 5 rfl) (fun a8 (t9 : tT C a8 14) => ?_)
  refine s_run X ok_X12_fund 8 1 (pc' := 26) (vs' := [some (.ref p0)]) (st' := [.int 13, .ref a8, .long ((v1 - v4) - v7)]) rfl ?_
  refine s_lald X t9 (dk okd_X12_fund 6 rfl) (fun v10 => ?_)
  refine s_run X ok_X12_fund 9 1 (pc' := 28) (vs' := [some (.ref p0)]) (st' := [.long (((v1 - v4) - v7) - v10)]) rfl ?_
  exact s_lret X hr (dk okd_X12_fund 7 rfl) rfl rfl
def tab_X12_fundBalance : List En := [(0, 8, 0, 0), (1, 0, 0, 0), (5, 8, 0, 0)]
theorem ok_X12_fundBalance : tab_X12_fundBalance.all (okE cX12_fundBalance) = true := by decide +kernel
def ed_X12_fundBalance : List (Nat × Instr × Nat) := [(2, .putfield 50, 3), (6, .invokevirtual 253, 3), (9, .lreturn, 1)]
theorem okd_X12_fundBalance : ed_X12_fundBalance.all (okD cX12_fundBalance) = true := by decide +kernel
def f_X12_fundBalance (S : St) (p0 : Nat) : Option (Int64 × St) := lt (uI S p0 2 0) fun (S1 : St) => cl (f_X12_fund S1 p0) fun (v2 : Int64) => some (v2, S1)
set_option maxHeartbeats 4000000 in
set_option maxRecDepth 100000 in
theorem c_X12_fundBalance (S : St) (p0 : Nat) : Ct yX12_fundBalance cX12_fundBalance 1 (some .long) 3 65 (fun _ => [.ref p0]) [(p0, 11)] S (f_X12_fundBalance S p0) oLS sL := by
  refine Ct_of RX12 rfl (by decide) (fun _ => Nat.le_of_ble_eq_true rfl) 0 (vs := fun _ => [some (.ref p0)]) (fun _ => rfl) (fun C X E hr ht => ?_)
  have t0_ : tT C p0 11 := ht (p0, 11) (by simp)
  show Jd C 1 (QJ C oLS sL) S 0 [some (.ref p0)] [] (f_X12_fundBalance S p0)
  unfold f_X12_fundBalance
  refine s_run X ok_X12_fundBalance 0 2 (pc' := 2) (vs' := [some (.ref p0)]) (st' := [.int 0, .ref p0]) rfl ?_
  refine s_putI X fp_X12_50 t0_ (dk okd_X12_fundBalance 0 rfl) (fun S1 => ?_)
  refine s_run X ok_X12_fundBalance 2 1 (pc' := 6) (vs' := [some (.ref p0)]) (st' := [.ref p0]) rfl ?_
  refine s_callV (b := p0) (As := []) (rest := []) X E mv_X12_253 (c_X12_fund S1 p0) rfl (ta1 t0_) rfl (by decide) t0_ rfl rfl (Nat.le_of_ble_eq_true rfl) (Nat.le_of_ble_eq_true rfl) (Nat.le_of_ble_eq_true rfl) (dk okd_X12_fundBalance 1 rfl) (st' := fun v2 => [.long v2]) (fun _ => rfl) (fun v2 => ?_)
  exact s_lret X hr (dk okd_X12_fundBalance 2 rfl) rfl rfl
def tab_X12_contributions : List En := [(0, 8, 0, 0), (1, 0, 0, 0), (5, 8, 0, 0), (6, 8, 0, 0), (7, 4, 1, 0), (14, 0, 0, 1), (15, 41, 19, 0), (18, 0, 0, 0), (19, 0, 0, 1), (26, 3, 0, 0), (27, 41, 37, 0), (30, 8, 0, 0), (31, 4, 1, 0), (32, 1, 0, 7)]
theorem ok_X12_contributions : tab_X12_contributions.all (okE cX12_contributions) = true := by decide +kernel
def ed_X12_contributions : List (Nat × Instr × Nat) := [(2, .putfield 50, 3), (8, .invokevirtual 85, 3), (11, .ifCond .ne 7, 3), (20, .invokevirtual 81, 3), (23, .ifCond .eq 7, 3), (34, .invokevirtual 63, 3), (37, .lreturn, 1)]
theorem okd_X12_contributions : ed_X12_contributions.all (okD cX12_contributions) = true := by decide +kernel
def f_X12_contributions (S : St) (p0 : Nat) (p1 : Int32) : Option (Int64 × St) := lt (uI S p0 2 0) fun (S1 : St) => cl (f_X12_isFranchisee S1 p0 p1) fun (v2 : Int32) => jn (κ := Int32 → Option (Int64 × St)) (fun x3 => cl (f_X12_throwsIf S1 p0 x3 1) fun (o6 : Int32 × St) => if o6.1 = 0 then (cl (f_X12_of o6.2 p0 p1 7) fun (v7 : Int64) => some (v7, o6.2)) else (some (0, o6.2))) fun k4 => if v2 = 0 then (k4 1) else (k4 0)
set_option maxHeartbeats 4000000 in
set_option maxRecDepth 100000 in
theorem c_X12_contributions (S : St) (p0 : Nat) (p1 : Int32) : Ct yX12_contributions cX12_contributions 2 (some .long) 2 46 (fun _ => [.ref p0, .int p1]) [(p0, 11)] S (f_X12_contributions S p0 p1) oLS sL := by
  refine Ct_of RX12 rfl (by decide) (fun _ => Nat.le_of_ble_eq_true rfl) 0 (vs := fun _ => [some (.ref p0), some (.int p1)]) (fun _ => rfl) (fun C X E hr ht => ?_)
  have t0_ : tT C p0 11 := ht (p0, 11) (by simp)
  show Jd C 2 (QJ C oLS sL) S 0 [some (.ref p0), some (.int p1)] [] (f_X12_contributions S p0 p1)
  unfold f_X12_contributions
  refine s_run X ok_X12_contributions 0 2 (pc' := 2) (vs' := [some (.ref p0), some (.int p1)]) (st' := [.int 0, .ref p0]) rfl ?_
  refine s_putI X fp_X12_50 t0_ (dk okd_X12_contributions 0 rfl) (fun S1 => ?_)
  refine s_run X ok_X12_contributions 2 3 (pc' := 8) (vs' := [some (.ref p0), some (.int p1)]) (st' := [.int p1, .ref p0, .ref p0]) rfl ?_
  refine s_callV (b := p0) (As := [.int p1]) (rest := [.ref p0]) X E mv_X12_85 (c_X12_isFranchisee S1 p0 p1) rfl (ta1 t0_) rfl (by decide) t0_ rfl rfl (Nat.le_of_ble_eq_true rfl) (Nat.le_of_ble_eq_true rfl) (Nat.le_of_ble_eq_true rfl) (dk okd_X12_contributions 1 rfl) (st' := fun v2 => [.int v2, .ref p0]) (fun _ => rfl) (fun v2 => ?_)
  refine s_jn (κ := Int32 → Option (Int64 × St)) (fun k4 => ∀ (x3 : Int32), Jd C 2 (QJ C oLS sL) S1 19 [some (.ref p0), some (.int p1)] [.int x3, .ref p0] (k4 x3)) (fun x3 => ?_) (fun k4 h5 => ?_)
  · refine s_run X ok_X12_contributions 8 1 (pc' := 20) (vs' := [some (.ref p0), some (.int p1)]) (st' := [.int 1, .int x3, .ref p0]) rfl ?_
    refine s_callV (b := p0) (As := [.int x3, .int 1]) (rest := []) X E mv_X12_81 (c_X12_throwsIf S1 p0 x3 1) rfl (ta1 t0_) rfl (by decide) t0_ rfl rfl (Nat.le_of_ble_eq_true rfl) (Nat.le_of_ble_eq_true rfl) (Nat.le_of_ble_eq_true rfl) (dk okd_X12_contributions 3 rfl) (st' := fun o6 => [.int o6.1]) (fun _ => rfl) (fun o6 => ?_)
    refine s_if_eq (tgt := 30) X (dk okd_X12_contributions 4 rfl) (by decide) ?_ ?_
    · refine s_run X ok_X12_contributions 11 3 (pc' := 34) (vs' := [some (.ref p0), some (.int p1)]) (st' := [.int 7, .int p1, .ref p0]) rfl ?_
      refine s_callV (b := p0) (As := [.int p1, .int 7]) (rest := []) X E mv_X12_63 (c_X12_of o6.2 p0 p1 7) rfl (ta1 t0_) rfl (by decide) t0_ rfl rfl (Nat.le_of_ble_eq_true rfl) (Nat.le_of_ble_eq_true rfl) (Nat.le_of_ble_eq_true rfl) (dk okd_X12_contributions 5 rfl) (st' := fun v7 => [.long v7]) (fun _ => rfl) (fun v7 => ?_)
      exact s_lret X hr (dk okd_X12_contributions 6 rfl) rfl rfl
    · refine s_run X ok_X12_contributions 9 2 (pc' := 37) (vs' := [some (.ref p0), some (.int p1)]) (st' := [.long 0]) rfl ?_
      exact s_lret X hr (dk okd_X12_contributions 6 rfl) rfl rfl
  · refine s_if_ne (tgt := 18) X (dk okd_X12_contributions 2 rfl) (by decide) ?_ ?_
    · refine s_run X ok_X12_contributions 7 1 (pc' := 19) (vs' := [some (.ref p0), some (.int p1)]) (st' := [.int 0, .ref p0]) rfl ?_
      exact h5 0
    · refine s_run X ok_X12_contributions 5 2 (pc' := 19) (vs' := [some (.ref p0), some (.int p1)]) (st' := [.int 1, .ref p0]) rfl ?_
      exact h5 1
def tab_X12_spent : List En := [(0, 8, 0, 0), (1, 0, 0, 0), (5, 8, 0, 0), (6, 4, 1, 0), (7, 31, 0, 0), (8, 3, 0, 0), (18, 0, 0, 1), (19, 41, 23, 0), (22, 0, 0, 0), (23, 0, 0, 1), (30, 3, 0, 0), (31, 41, 43, 0), (34, 8, 0, 0), (38, 1, 0, 11), (40, 4, 1, 0), (41, 17, 0, 0)]
theorem ok_X12_spent : tab_X12_spent.all (okE cX12_spent) = true := by decide +kernel
def ed_X12_spent : List (Nat × Instr × Nat) := [(2, .putfield 50, 3), (9, .ldc2_w 220, 3), (12, .invokestatic 53, 3), (15, .ifCond .ne 7, 3), (24, .invokevirtual 81, 3), (27, .ifCond .eq 7, 3), (35, .getfield 9, 3), (42, .laload, 1), (43, .lreturn, 1)]
theorem okd_X12_spent : ed_X12_spent.all (okD cX12_spent) = true := by decide +kernel
def f_X12_spent (S : St) (p0 : Nat) (p1 : Int32) : Option (Int64 × St) := lt (uI S p0 2 0) fun (S1 : St) => cl (f_X12_inRange S1 (Int32.toInt64 p1) 0 2) fun (v2 : Int32) => jn (κ := Int32 → Option (Int64 × St)) (fun x3 => cl (f_X12_throwsIf S1 p0 x3 1) fun (o6 : Int32 × St) => if o6.1 = 0 then (lt (gR o6.2 p0 0) fun (a7 : Nat) => ldJ o6.2 a7 (11 + p1) fun (v9 : Int64) => some (v9, o6.2)) else (some (0, o6.2))) fun k4 => if v2 = 0 then (k4 1) else (k4 0)
set_option maxHeartbeats 4000000 in
set_option maxRecDepth 100000 in
theorem c_X12_spent (S : St) (p0 : Nat) (p1 : Int32) : Ct yX12_spent cX12_spent 2 (some .long) 1 25 (fun _ => [.ref p0, .int p1]) [(p0, 11)] S (f_X12_spent S p0 p1) oLS sL := by
  refine Ct_of RX12 rfl (by decide) (fun _ => Nat.le_of_ble_eq_true rfl) 0 (vs := fun _ => [some (.ref p0), some (.int p1)]) (fun _ => rfl) (fun C X E hr ht => ?_)
  have t0_ : tT C p0 11 := ht (p0, 11) (by simp)
  show Jd C 2 (QJ C oLS sL) S 0 [some (.ref p0), some (.int p1)] [] (f_X12_spent S p0 p1)
  unfold f_X12_spent
  refine s_run X ok_X12_spent 0 2 (pc' := 2) (vs' := [some (.ref p0), some (.int p1)]) (st' := [.int 0, .ref p0]) rfl ?_
  refine s_putI X fp_X12_50 t0_ (dk okd_X12_spent 0 rfl) (fun S1 => ?_)
  refine s_run X ok_X12_spent 2 4 (pc' := 9) (vs' := [some (.ref p0), some (.int p1)]) (st' := [.long 0, .long (Int32.toInt64 p1), .ref p0]) rfl ?_
  refine s_ldc2 X cl_X12_220 (dk okd_X12_spent 1 rfl) ?_
  refine s_callS (As := [.long (Int32.toInt64 p1), .long 0, .long 2]) (rest := [.ref p0]) X E ms_X12_53 (c_X12_inRange S1 (Int32.toInt64 p1) 0 2) rfl (ta0) rfl rfl (Nat.le_of_ble_eq_true rfl) (Nat.le_of_ble_eq_true rfl) (Nat.le_of_ble_eq_true rfl) (dk okd_X12_spent 2 rfl) (st' := fun v2 => [.int v2, .ref p0]) (fun _ => rfl) (fun v2 => ?_)
  refine s_jn (κ := Int32 → Option (Int64 × St)) (fun k4 => ∀ (x3 : Int32), Jd C 2 (QJ C oLS sL) S1 23 [some (.ref p0), some (.int p1)] [.int x3, .ref p0] (k4 x3)) (fun x3 => ?_) (fun k4 h5 => ?_)
  · refine s_run X ok_X12_spent 9 1 (pc' := 24) (vs' := [some (.ref p0), some (.int p1)]) (st' := [.int 1, .int x3, .ref p0]) rfl ?_
    refine s_callV (b := p0) (As := [.int x3, .int 1]) (rest := []) X E mv_X12_81 (c_X12_throwsIf S1 p0 x3 1) rfl (ta1 t0_) rfl (by decide) t0_ rfl rfl (Nat.le_of_ble_eq_true rfl) (Nat.le_of_ble_eq_true rfl) (Nat.le_of_ble_eq_true rfl) (dk okd_X12_spent 4 rfl) (st' := fun o6 => [.int o6.1]) (fun _ => rfl) (fun o6 => ?_)
    refine s_if_eq (tgt := 34) X (dk okd_X12_spent 5 rfl) (by decide) ?_ ?_
    · refine s_run X ok_X12_spent 12 1 (pc' := 35) (vs' := [some (.ref p0), some (.int p1)]) (st' := [.ref p0]) rfl ?_
      refine s_getR X fl_X12_9 t0_ (dk okd_X12_spent 6 rfl) (fun a7 (t8 : tT C a7 14) => ?_)
      refine s_run X ok_X12_spent 13 3 (pc' := 42) (vs' := [some (.ref p0), some (.int p1)]) (st' := [.int (11 + p1), .ref a7]) rfl ?_
      refine s_lald X t8 (dk okd_X12_spent 7 rfl) (fun v9 => ?_)
      exact s_lret X hr (dk okd_X12_spent 8 rfl) rfl rfl
    · refine s_run X ok_X12_spent 10 2 (pc' := 43) (vs' := [some (.ref p0), some (.int p1)]) (st' := [.long 0]) rfl ?_
      exact s_lret X hr (dk okd_X12_spent 8 rfl) rfl rfl
  · refine s_if_ne (tgt := 22) X (dk okd_X12_spent 3 rfl) (by decide) ?_ ?_
    · refine s_run X ok_X12_spent 8 1 (pc' := 23) (vs' := [some (.ref p0), some (.int p1)]) (st' := [.int 0, .ref p0]) rfl ?_
      exact h5 0
    · refine s_run X ok_X12_spent 6 2 (pc' := 23) (vs' := [some (.ref p0), some (.int p1)]) (st' := [.int 1, .ref p0]) rfl ?_
      exact h5 1
def tab_X12_campaign : List En := [(0, 8, 0, 0), (1, 0, 0, 0), (5, 8, 0, 0), (6, 6, 1, 0), (7, 3, 1, 0), (17, 0, 0, 1), (18, 41, 22, 0), (21, 0, 0, 0), (22, 0, 0, 1), (29, 6, 1, 0), (30, 8, 0, 0), (34, 40, 0, 0), (38, 0, 0, 0), (40, 8, 0, 0), (44, 1, 0, 12), (46, 37, 0, 0), (48, 6, 1, 0), (49, 23, 0, 0), (51, 0, 0, 1)]
theorem ok_X12_campaign : tab_X12_campaign.all (okE cX12_campaign) = true := by decide +kernel
def ed_X12_campaign : List (Nat × Instr × Nat) := [(2, .putfield 50, 3), (8, .ldc2_w 174, 3), (11, .invokestatic 53, 3), (14, .ifCond .ne 7, 3), (23, .invokevirtual 81, 3), (26, .ifCond .ne 12, 3), (31, .invokevirtual 253, 3), (35, .ifCond .le 5, 3), (39, .ireturn, 1), (41, .getfield 9, 3), (47, .laload, 1), (50, .lastore, 1), (52, .ireturn, 1)]
theorem okd_X12_campaign : ed_X12_campaign.all (okD cX12_campaign) = true := by decide +kernel
def f_X12_campaign (S : St) (p0 : Nat) (p1 : Int64) : Option (Int32 × St) := lt (uI S p0 2 0) fun (S1 : St) => cl (f_X12_inRange S1 p1 1 1000000000) fun (v2 : Int32) => jn (κ := Int32 → Option (Int32 × St)) (fun x3 => cl (f_X12_throwsIf S1 p0 x3 1) fun (o6 : Int32 × St) => if o6.1 = 0 then (cl (f_X12_fund o6.2 p0) fun (v7 : Int64) => if p1 ≤ v7 then (lt (gR o6.2 p0 0) fun (a8 : Nat) => ldJ o6.2 a8 12 fun (v10 : Int64) => stJ o6.2 a8 12 (v10 + p1) fun (S11 : St) => some (1, S11)) else (some (0, o6.2))) else (some (0, o6.2))) fun k4 => if v2 = 0 then (k4 1) else (k4 0)
set_option maxHeartbeats 4000000 in
set_option maxRecDepth 100000 in
theorem c_X12_campaign (S : St) (p0 : Nat) (p1 : Int64) : Ct yX12_campaign cX12_campaign 3 (some .boolean) 3 65 (fun _ => [.ref p0, .long p1]) [(p0, 11)] S (f_X12_campaign S p0 p1) oIS sS := by
  refine Ct_of RX12 rfl (by decide) (fun _ => Nat.le_of_ble_eq_true rfl) 0 (vs := fun _ => [some (.ref p0), some (.long p1), none]) (fun _ => rfl) (fun C X E hr ht => ?_)
  have t0_ : tT C p0 11 := ht (p0, 11) (by simp)
  show Jd C 3 (QJ C oIS sS) S 0 [some (.ref p0), some (.long p1), none] [] (f_X12_campaign S p0 p1)
  unfold f_X12_campaign
  refine s_run X ok_X12_campaign 0 2 (pc' := 2) (vs' := [some (.ref p0), some (.long p1), none]) (st' := [.int 0, .ref p0]) rfl ?_
  refine s_putI X fp_X12_50 t0_ (dk okd_X12_campaign 0 rfl) (fun S1 => ?_)
  refine s_run X ok_X12_campaign 2 3 (pc' := 8) (vs' := [some (.ref p0), some (.long p1), none]) (st' := [.long 1, .long p1, .ref p0]) rfl ?_
  refine s_ldc2 X cl_X12_174 (dk okd_X12_campaign 1 rfl) ?_
  refine s_callS (As := [.long p1, .long 1, .long 1000000000]) (rest := [.ref p0]) X E ms_X12_53 (c_X12_inRange S1 p1 1 1000000000) rfl (ta0) rfl rfl (Nat.le_of_ble_eq_true rfl) (Nat.le_of_ble_eq_true rfl) (Nat.le_of_ble_eq_true rfl) (dk okd_X12_campaign 2 rfl) (st' := fun v2 => [.int v2, .ref p0]) (fun _ => rfl) (fun v2 => ?_)
  refine s_jn (κ := Int32 → Option (Int32 × St)) (fun k4 => ∀ (x3 : Int32), Jd C 3 (QJ C oIS sS) S1 22 [some (.ref p0), some (.long p1), none] [.int x3, .ref p0] (k4 x3)) (fun x3 => ?_) (fun k4 h5 => ?_)
  · refine s_run X ok_X12_campaign 8 1 (pc' := 23) (vs' := [some (.ref p0), some (.long p1), none]) (st' := [.int 1, .int x3, .ref p0]) rfl ?_
    refine s_callV (b := p0) (As := [.int x3, .int 1]) (rest := []) X E mv_X12_81 (c_X12_throwsIf S1 p0 x3 1) rfl (ta1 t0_) rfl (by decide) t0_ rfl rfl (Nat.le_of_ble_eq_true rfl) (Nat.le_of_ble_eq_true rfl) (Nat.le_of_ble_eq_true rfl) (dk okd_X12_campaign 4 rfl) (st' := fun o6 => [.int o6.1]) (fun _ => rfl) (fun o6 => ?_)
    refine s_if_ne (tgt := 38) X (dk okd_X12_campaign 5 rfl) (by decide) ?_ ?_
    · refine s_run X ok_X12_campaign 12 1 (pc' := 39) (vs' := [some (.ref p0), some (.long p1), none]) (st' := [.int 0]) rfl ?_
      exact s_zret0 X hr (dk okd_X12_campaign 8 rfl) (by decide) rfl rfl
    · refine s_run X ok_X12_campaign 9 2 (pc' := 31) (vs' := [some (.ref p0), some (.long p1), none]) (st' := [.ref p0, .long p1]) rfl ?_
      refine s_callV (b := p0) (As := []) (rest := [.long p1]) X E mv_X12_253 (c_X12_fund o6.2 p0) rfl (ta1 t0_) rfl (by decide) t0_ rfl rfl (Nat.le_of_ble_eq_true rfl) (Nat.le_of_ble_eq_true rfl) (Nat.le_of_ble_eq_true rfl) (dk okd_X12_campaign 6 rfl) (st' := fun v7 => [.long v7, .long p1]) (fun _ => rfl) (fun v7 => ?_)
      refine s_run X ok_X12_campaign 11 1 (pc' := 35) (vs' := [some (.ref p0), some (.long p1), none]) (st' := [.int (lg_cmp p1 v7)]) rfl ?_
      refine s_lif_le (tgt := 40) X (dk okd_X12_campaign 7 rfl) (by decide) ?_ ?_
      · refine s_run X ok_X12_campaign 13 1 (pc' := 41) (vs' := [some (.ref p0), some (.long p1), none]) (st' := [.ref p0]) rfl ?_
        refine s_getR X fl_X12_9 t0_ (dk okd_X12_campaign 9 rfl) (fun a8 (t9 : tT C a8 14) => ?_)
        refine s_run X ok_X12_campaign 14 2 (pc' := 47) (vs' := [some (.ref p0), some (.long p1), none]) (st' := [.int 12, .ref a8, .int 12, .ref a8]) rfl ?_
        refine s_lald X t9 (dk okd_X12_campaign 10 rfl) (fun v10 => ?_)
        refine s_run X ok_X12_campaign 16 2 (pc' := 50) (vs' := [some (.ref p0), some (.long p1), none]) (st' := [.long (v10 + p1), .int 12, .ref a8]) rfl ?_
        refine s_last X t9 (dk okd_X12_campaign 11 rfl) (fun S11 => ?_)
        refine s_run X ok_X12_campaign 18 1 (pc' := 52) (vs' := [some (.ref p0), some (.long p1), none]) (st' := [.int 1]) rfl ?_
        exact s_zret0 X hr (dk okd_X12_campaign 12 rfl) (by decide) rfl rfl
      · refine s_run X ok_X12_campaign 12 1 (pc' := 39) (vs' := [some (.ref p0), some (.long p1), none]) (st' := [.int 0]) rfl ?_
        exact s_zret0 X hr (dk okd_X12_campaign 8 rfl) (by decide) rfl rfl
  · refine s_if_ne (tgt := 21) X (dk okd_X12_campaign 3 rfl) (by decide) ?_ ?_
    · refine s_run X ok_X12_campaign 7 1 (pc' := 22) (vs' := [some (.ref p0), some (.long p1), none]) (st' := [.int 0, .ref p0]) rfl ?_
      exact h5 0
    · refine s_run X ok_X12_campaign 5 2 (pc' := 22) (vs' := [some (.ref p0), some (.long p1), none]) (st' := [.int 1, .ref p0]) rfl ?_
      exact h5 1
def tab_X12_allowanceOf : List En := [(0, 8, 0, 0), (1, 4, 1, 0), (2, 1, 0, 7), (11, 8, 0, 0), (12, 4, 1, 0), (13, 1, 0, 8), (18, 24, 0, 0)]
theorem ok_X12_allowanceOf : tab_X12_allowanceOf.all (okE cX12_allowanceOf) = true := by decide +kernel
def ed_X12_allowanceOf : List (Nat × Instr × Nat) := [(4, .invokevirtual 63, 3), (7, .ldc2_w 220, 3), (10, .ldiv, 1), (15, .invokevirtual 63, 3), (19, .lreturn, 1)]
theorem okd_X12_allowanceOf : ed_X12_allowanceOf.all (okD cX12_allowanceOf) = true := by decide +kernel
def f_X12_allowanceOf (S : St) (p0 : Nat) (p1 : Int32) : Option (Int64) := cl (f_X12_of S p0 p1 7) fun (v1 : Int64) => cl (f_X12_of S p0 p1 8) fun (v2 : Int64) => some ((v1 / 2) - v2)
set_option maxHeartbeats 4000000 in
set_option maxRecDepth 100000 in
theorem c_X12_allowanceOf (S : St) (p0 : Nat) (p1 : Int32) : Ct yX12_allowanceOf cX12_allowanceOf 2 (some .long) 1 22 (fun _ => [.ref p0, .int p1]) [(p0, 11)] S (f_X12_allowanceOf S p0 p1) oL (fun _ => S) := by
  refine Ct_of RX12 rfl (by decide) (fun _ => Nat.le_of_ble_eq_true rfl) 0 (vs := fun _ => [some (.ref p0), some (.int p1)]) (fun _ => rfl) (fun C X E hr ht => ?_)
  have t0_ : tT C p0 11 := ht (p0, 11) (by simp)
  show Jd C 2 (QJ C oL (fun _ => S)) S 0 [some (.ref p0), some (.int p1)] [] (f_X12_allowanceOf S p0 p1)
  unfold f_X12_allowanceOf
  refine s_run X ok_X12_allowanceOf 0 3 (pc' := 4) (vs' := [some (.ref p0), some (.int p1)]) (st' := [.int 7, .int p1, .ref p0]) rfl ?_
  refine s_callV (b := p0) (As := [.int p1, .int 7]) (rest := []) X E mv_X12_63 (c_X12_of S p0 p1 7) rfl (ta1 t0_) rfl (by decide) t0_ rfl rfl (Nat.le_of_ble_eq_true rfl) (Nat.le_of_ble_eq_true rfl) (Nat.le_of_ble_eq_true rfl) (dk okd_X12_allowanceOf 0 rfl) (st' := fun v1 => [.long v1]) (fun _ => rfl) (fun v1 => ?_)
  refine s_ldc2 X cl_X12_220 (dk okd_X12_allowanceOf 1 rfl) ?_
  refine s_ldiv0 X (dk okd_X12_allowanceOf 2 rfl) (by decide) ?_
  refine s_run X ok_X12_allowanceOf 3 3 (pc' := 15) (vs' := [some (.ref p0), some (.int p1)]) (st' := [.int 8, .int p1, .ref p0, .long (v1 / 2)]) rfl ?_
  refine s_callV (b := p0) (As := [.int p1, .int 8]) (rest := [.long (v1 / 2)]) X E mv_X12_63 (c_X12_of S p0 p1 8) rfl (ta1 t0_) rfl (by decide) t0_ rfl rfl (Nat.le_of_ble_eq_true rfl) (Nat.le_of_ble_eq_true rfl) (Nat.le_of_ble_eq_true rfl) (dk okd_X12_allowanceOf 3 rfl) (st' := fun v2 => [.long v2, .long (v1 / 2)]) (fun _ => rfl) (fun v2 => ?_)
  refine s_run X ok_X12_allowanceOf 6 1 (pc' := 19) (vs' := [some (.ref p0), some (.int p1)]) (st' := [.long ((v1 / 2) - v2)]) rfl ?_
  exact s_lret X hr (dk okd_X12_allowanceOf 4 rfl) rfl rfl
def tab_X12_grant : List En := [(0, 8, 0, 0), (1, 0, 0, 0), (5, 8, 0, 0), (6, 8, 0, 0), (7, 4, 1, 0), (14, 0, 0, 1), (15, 41, 19, 0), (18, 0, 0, 0), (19, 0, 0, 1), (26, 8, 0, 0), (27, 6, 2, 0), (28, 3, 1, 0), (38, 0, 0, 1), (39, 41, 43, 0), (42, 0, 0, 0), (43, 0, 0, 2), (50, 0, 0, 0), (52, 8, 0, 0), (53, 4, 1, 0), (60, 6, 2, 0), (61, 8, 0, 0), (62, 4, 1, 0), (66, 40, 0, 0), (70, 6, 2, 0), (71, 8, 0, 0), (75, 40, 0, 0), (79, 0, 0, 0), (81, 8, 0, 0), (85, 1, 0, 13), (87, 37, 0, 0), (89, 6, 2, 0), (90, 23, 0, 0), (92, 8, 0, 0), (93, 4, 1, 0), (94, 1, 0, 8), (96, 6, 2, 0), (100, 8, 0, 0), (101, 4, 1, 0), (102, 0, 0, 4), (103, 6, 2, 0), (104, 28, 0, 0), (108, 0, 0, 1)]
theorem ok_X12_grant : tab_X12_grant.all (okE cX12_grant) = true := by decide +kernel
def ed_X12_grant : List (Nat × Instr × Nat) := [(2, .putfield 50, 3), (8, .invokevirtual 85, 3), (11, .ifCond .ne 7, 3), (20, .invokevirtual 81, 3), (23, .ifCond .ne 27, 3), (29, .ldc2_w 174, 3), (32, .invokestatic 53, 3), (35, .ifCond .ne 7, 3), (44, .invokevirtual 81, 3), (47, .ifCond .eq 5, 3), (51, .ireturn, 1), (54, .invokevirtual 128, 3), (57, .ifCond .eq 22, 3), (63, .invokevirtual 256, 3), (67, .ifCond .gt 12, 3), (72, .invokevirtual 253, 3), (76, .ifCond .le 5, 3), (80, .ireturn, 1), (82, .getfield 9, 3), (88, .laload, 1), (91, .lastore, 1), (97, .invokevirtual 224, 3), (105, .invokevirtual 224, 3), (109, .ireturn, 1)]
theorem okd_X12_grant : ed_X12_grant.all (okD cX12_grant) = true := by decide +kernel
def f_X12_grant (S : St) (p0 : Nat) (p1 : Int32) (p2 : Int64) : Option (Int32 × St) := lt (uI S p0 2 0) fun (S1 : St) => cl (f_X12_isFranchisee S1 p0 p1) fun (v2 : Int32) => jn (κ := Int32 → Option (Int32 × St)) (fun x3 => cl (f_X12_throwsIf S1 p0 x3 1) fun (o6 : Int32 × St) => if o6.1 = 0 then (cl (f_X12_inRange o6.2 p2 1 1000000000) fun (v7 : Int32) => jn (κ := Int32 → Option (Int32 × St)) (fun x8 => cl (f_X12_throwsIf o6.2 p0 x8 2) fun (o11 : Int32 × St) => if o11.1 = 0 then (cl (f_X12_isActive o11.2 p0 p1) fun (v12 : Int32) => if v12 = 0 then (some (0, o11.2)) else (cl (f_X12_allowanceOf o11.2 p0 p1) fun (v13 : Int64) => if v13 < p2 then (some (0, o11.2)) else (cl (f_X12_fund o11.2 p0) fun (v14 : Int64) => if p2 ≤ v14 then (lt (gR o11.2 p0 0) fun (a15 : Nat) => ldJ o11.2 a15 13 fun (v17 : Int64) => stJ o11.2 a15 13 (v17 + p2) fun (S18 : St) => cl (f_X12_add S18 p0 p1 8 p2) fun (S19 : St) => cl (f_X12_add S19 p0 p1 4 (-p2)) fun (S20 : St) => some (1, S20)) else (some (0, o11.2))))) else (some (0, o11.2))) fun k9 => if v7 = 0 then (k9 1) else (k9 0)) else (some (0, o6.2))) fun k4 => if v2 = 0 then (k4 1) else (k4 0)
set_option maxHeartbeats 4000000 in
set_option maxRecDepth 100000 in
theorem c_X12_grant (S : St) (p0 : Nat) (p1 : Int32) (p2 : Int64) : Ct yX12_grant cX12_grant 4 (some .boolean) 3 65 (fun _ => [.ref p0, .int p1, .long p2]) [(p0, 11)] S (f_X12_grant S p0 p1 p2) oIS sS := by
  refine Ct_of RX12 rfl (by decide) (fun _ => Nat.le_of_ble_eq_true rfl) 0 (vs := fun _ => [some (.ref p0), some (.int p1), some (.long p2), none]) (fun _ => rfl) (fun C X E hr ht => ?_)
  have t0_ : tT C p0 11 := ht (p0, 11) (by simp)
  show Jd C 4 (QJ C oIS sS) S 0 [some (.ref p0), some (.int p1), some (.long p2), none] [] (f_X12_grant S p0 p1 p2)
  unfold f_X12_grant
  refine s_run X ok_X12_grant 0 2 (pc' := 2) (vs' := [some (.ref p0), some (.int p1), some (.long p2), none]) (st' := [.int 0, .ref p0]) rfl ?_
  refine s_putI X fp_X12_50 t0_ (dk okd_X12_grant 0 rfl) (fun S1 => ?_)
  refine s_run X ok_X12_grant 2 3 (pc' := 8) (vs' := [some (.ref p0), some (.int p1), some (.long p2), none]) (st' := [.int p1, .ref p0, .ref p0]) rfl ?_
  refine s_callV (b := p0) (As := [.int p1]) (rest := [.ref p0]) X E mv_X12_85 (c_X12_isFranchisee S1 p0 p1) rfl (ta1 t0_) rfl (by decide) t0_ rfl rfl (Nat.le_of_ble_eq_true rfl) (Nat.le_of_ble_eq_true rfl) (Nat.le_of_ble_eq_true rfl) (dk okd_X12_grant 1 rfl) (st' := fun v2 => [.int v2, .ref p0]) (fun _ => rfl) (fun v2 => ?_)
  refine s_jn (κ := Int32 → Option (Int32 × St)) (fun k4 => ∀ (x3 : Int32), Jd C 4 (QJ C oIS sS) S1 19 [some (.ref p0), some (.int p1), some (.long p2), none] [.int x3, .ref p0] (k4 x3)) (fun x3 => ?_) (fun k4 h5 => ?_)
  · refine s_run X ok_X12_grant 8 1 (pc' := 20) (vs' := [some (.ref p0), some (.int p1), some (.long p2), none]) (st' := [.int 1, .int x3, .ref p0]) rfl ?_
    refine s_callV (b := p0) (As := [.int x3, .int 1]) (rest := []) X E mv_X12_81 (c_X12_throwsIf S1 p0 x3 1) rfl (ta1 t0_) rfl (by decide) t0_ rfl rfl (Nat.le_of_ble_eq_true rfl) (Nat.le_of_ble_eq_true rfl) (Nat.le_of_ble_eq_true rfl) (dk okd_X12_grant 3 rfl) (st' := fun o6 => [.int o6.1]) (fun _ => rfl) (fun o6 => ?_)
    refine s_if_ne (tgt := 50) X (dk okd_X12_grant 4 rfl) (by decide) ?_ ?_
    · refine s_run X ok_X12_grant 16 1 (pc' := 51) (vs' := [some (.ref p0), some (.int p1), some (.long p2), none]) (st' := [.int 0]) rfl ?_
      exact s_zret0 X hr (dk okd_X12_grant 10 rfl) (by decide) rfl rfl
    · refine s_run X ok_X12_grant 9 3 (pc' := 29) (vs' := [some (.ref p0), some (.int p1), some (.long p2), none]) (st' := [.long 1, .long p2, .ref p0]) rfl ?_
      refine s_ldc2 X cl_X12_174 (dk okd_X12_grant 5 rfl) ?_
      refine s_callS (As := [.long p2, .long 1, .long 1000000000]) (rest := [.ref p0]) X E ms_X12_53 (c_X12_inRange o6.2 p2 1 1000000000) rfl (ta0) rfl rfl (Nat.le_of_ble_eq_true rfl) (Nat.le_of_ble_eq_true rfl) (Nat.le_of_ble_eq_true rfl) (dk okd_X12_grant 6 rfl) (st' := fun v7 => [.int v7, .ref p0]) (fun _ => rfl) (fun v7 => ?_)
      refine s_jn (κ := Int32 → Option (Int32 × St)) (fun k9 => ∀ (x8 : Int32), Jd C 4 (QJ C oIS sS) o6.2 43 [some (.ref p0), some (.int p1), some (.long p2), none] [.int x8, .ref p0] (k9 x8)) (fun x8 => ?_) (fun k9 h10 => ?_)
      · refine s_run X ok_X12_grant 15 1 (pc' := 44) (vs' := [some (.ref p0), some (.int p1), some (.long p2), none]) (st' := [.int 2, .int x8, .ref p0]) rfl ?_
        refine s_callV (b := p0) (As := [.int x8, .int 2]) (rest := []) X E mv_X12_81 (c_X12_throwsIf o6.2 p0 x8 2) rfl (ta1 t0_) rfl (by decide) t0_ rfl rfl (Nat.le_of_ble_eq_true rfl) (Nat.le_of_ble_eq_true rfl) (Nat.le_of_ble_eq_true rfl) (dk okd_X12_grant 8 rfl) (st' := fun o11 => [.int o11.1]) (fun _ => rfl) (fun o11 => ?_)
        refine s_if_eq (tgt := 52) X (dk okd_X12_grant 9 rfl) (by decide) ?_ ?_
        · refine s_run X ok_X12_grant 17 2 (pc' := 54) (vs' := [some (.ref p0), some (.int p1), some (.long p2), none]) (st' := [.int p1, .ref p0]) rfl ?_
          refine s_callV (b := p0) (As := [.int p1]) (rest := []) X E mv_X12_128 (c_X12_isActive o11.2 p0 p1) rfl (ta1 t0_) rfl (by decide) t0_ rfl rfl (Nat.le_of_ble_eq_true rfl) (Nat.le_of_ble_eq_true rfl) (Nat.le_of_ble_eq_true rfl) (dk okd_X12_grant 11 rfl) (st' := fun v12 => [.int v12]) (fun _ => rfl) (fun v12 => ?_)
          refine s_if_eq (tgt := 79) X (dk okd_X12_grant 12 rfl) (by decide) ?_ ?_
          · refine s_run X ok_X12_grant 26 1 (pc' := 80) (vs' := [some (.ref p0), some (.int p1), some (.long p2), none]) (st' := [.int 0]) rfl ?_
            exact s_zret0 X hr (dk okd_X12_grant 17 rfl) (by decide) rfl rfl
          · refine s_run X ok_X12_grant 19 3 (pc' := 63) (vs' := [some (.ref p0), some (.int p1), some (.long p2), none]) (st' := [.int p1, .ref p0, .long p2]) rfl ?_
            refine s_callV (b := p0) (As := [.int p1]) (rest := [.long p2]) X E mv_X12_256 (c_X12_allowanceOf o11.2 p0 p1) rfl (ta1 t0_) rfl (by decide) t0_ rfl rfl (Nat.le_of_ble_eq_true rfl) (Nat.le_of_ble_eq_true rfl) (Nat.le_of_ble_eq_true rfl) (dk okd_X12_grant 13 rfl) (st' := fun v13 => [.long v13, .long p2]) (fun _ => rfl) (fun v13 => ?_)
            refine s_run X ok_X12_grant 22 1 (pc' := 67) (vs' := [some (.ref p0), some (.int p1), some (.long p2), none]) (st' := [.int (lg_cmp p2 v13)]) rfl ?_
            refine s_lif_gt (tgt := 79) X (dk okd_X12_grant 14 rfl) (by decide) ?_ ?_
            · refine s_run X ok_X12_grant 26 1 (pc' := 80) (vs' := [some (.ref p0), some (.int p1), some (.long p2), none]) (st' := [.int 0]) rfl ?_
              exact s_zret0 X hr (dk okd_X12_grant 17 rfl) (by decide) rfl rfl
            · refine s_run X ok_X12_grant 23 2 (pc' := 72) (vs' := [some (.ref p0), some (.int p1), some (.long p2), none]) (st' := [.ref p0, .long p2]) rfl ?_
              refine s_callV (b := p0) (As := []) (rest := [.long p2]) X E mv_X12_253 (c_X12_fund o11.2 p0) rfl (ta1 t0_) rfl (by decide) t0_ rfl rfl (Nat.le_of_ble_eq_true rfl) (Nat.le_of_ble_eq_true rfl) (Nat.le_of_ble_eq_true rfl) (dk okd_X12_grant 15 rfl) (st' := fun v14 => [.long v14, .long p2]) (fun _ => rfl) (fun v14 => ?_)
              refine s_run X ok_X12_grant 25 1 (pc' := 76) (vs' := [some (.ref p0), some (.int p1), some (.long p2), none]) (st' := [.int (lg_cmp p2 v14)]) rfl ?_
              refine s_lif_le (tgt := 81) X (dk okd_X12_grant 16 rfl) (by decide) ?_ ?_
              · refine s_run X ok_X12_grant 27 1 (pc' := 82) (vs' := [some (.ref p0), some (.int p1), some (.long p2), none]) (st' := [.ref p0]) rfl ?_
                refine s_getR X fl_X12_9 t0_ (dk okd_X12_grant 18 rfl) (fun a15 (t16 : tT C a15 14) => ?_)
                refine s_run X ok_X12_grant 28 2 (pc' := 88) (vs' := [some (.ref p0), some (.int p1), some (.long p2), none]) (st' := [.int 13, .ref a15, .int 13, .ref a15]) rfl ?_
                refine s_lald X t16 (dk okd_X12_grant 19 rfl) (fun v17 => ?_)
                refine s_run X ok_X12_grant 30 2 (pc' := 91) (vs' := [some (.ref p0), some (.int p1), some (.long p2), none]) (st' := [.long (v17 + p2), .int 13, .ref a15]) rfl ?_
                refine s_last X t16 (dk okd_X12_grant 20 rfl) (fun S18 => ?_)
                refine s_run X ok_X12_grant 32 4 (pc' := 97) (vs' := [some (.ref p0), some (.int p1), some (.long p2), none]) (st' := [.long p2, .int 8, .int p1, .ref p0]) rfl ?_
                refine s_callV (b := p0) (As := [.int p1, .int 8, .long p2]) (rest := []) X E mv_X12_224 (c_X12_add S18 p0 p1 8 p2) rfl (ta1 t0_) rfl (by decide) t0_ rfl rfl (Nat.le_of_ble_eq_true rfl) (Nat.le_of_ble_eq_true rfl) (Nat.le_of_ble_eq_true rfl) (dk okd_X12_grant 21 rfl) (st' := fun S19 => []) (fun _ => rfl) (fun S19 => ?_)
                refine s_run X ok_X12_grant 36 5 (pc' := 105) (vs' := [some (.ref p0), some (.int p1), some (.long p2), none]) (st' := [.long (-p2), .int 4, .int p1, .ref p0]) rfl ?_
                refine s_callV (b := p0) (As := [.int p1, .int 4, .long (-p2)]) (rest := []) X E mv_X12_224 (c_X12_add S19 p0 p1 4 (-p2)) rfl (ta1 t0_) rfl (by decide) t0_ rfl rfl (Nat.le_of_ble_eq_true rfl) (Nat.le_of_ble_eq_true rfl) (Nat.le_of_ble_eq_true rfl) (dk okd_X12_grant 22 rfl) (st' := fun S20 => []) (fun _ => rfl) (fun S20 => ?_)
                refine s_run X ok_X12_grant 41 1 (pc' := 109) (vs' := [some (.ref p0), some (.int p1), some (.long p2), none]) (st' := [.int 1]) rfl ?_
                exact s_zret0 X hr (dk okd_X12_grant 23 rfl) (by decide) rfl rfl
              · refine s_run X ok_X12_grant 26 1 (pc' := 80) (vs' := [some (.ref p0), some (.int p1), some (.long p2), none]) (st' := [.int 0]) rfl ?_
                exact s_zret0 X hr (dk okd_X12_grant 17 rfl) (by decide) rfl rfl
        · refine s_run X ok_X12_grant 16 1 (pc' := 51) (vs' := [some (.ref p0), some (.int p1), some (.long p2), none]) (st' := [.int 0]) rfl ?_
          exact s_zret0 X hr (dk okd_X12_grant 10 rfl) (by decide) rfl rfl
      · refine s_if_ne (tgt := 42) X (dk okd_X12_grant 7 rfl) (by decide) ?_ ?_
        · refine s_run X ok_X12_grant 14 1 (pc' := 43) (vs' := [some (.ref p0), some (.int p1), some (.long p2), none]) (st' := [.int 0, .ref p0]) rfl ?_
          exact h10 0
        · refine s_run X ok_X12_grant 12 2 (pc' := 43) (vs' := [some (.ref p0), some (.int p1), some (.long p2), none]) (st' := [.int 1, .ref p0]) rfl ?_
          exact h10 1
  · refine s_if_ne (tgt := 18) X (dk okd_X12_grant 2 rfl) (by decide) ?_ ?_
    · refine s_run X ok_X12_grant 7 1 (pc' := 19) (vs' := [some (.ref p0), some (.int p1), some (.long p2), none]) (st' := [.int 0, .ref p0]) rfl ?_
      exact h5 0
    · refine s_run X ok_X12_grant 5 2 (pc' := 19) (vs' := [some (.ref p0), some (.int p1), some (.long p2), none]) (st' := [.int 1, .ref p0]) rfl ?_
      exact h5 1
def tab_X12_allowance : List En := [(0, 8, 0, 0), (1, 0, 0, 0), (5, 8, 0, 0), (6, 8, 0, 0), (7, 4, 1, 0), (14, 0, 0, 1), (15, 41, 19, 0), (18, 0, 0, 0), (19, 0, 0, 1), (26, 3, 0, 0), (27, 41, 35, 0), (30, 8, 0, 0), (31, 4, 1, 0)]
theorem ok_X12_allowance : tab_X12_allowance.all (okE cX12_allowance) = true := by decide +kernel
def ed_X12_allowance : List (Nat × Instr × Nat) := [(2, .putfield 50, 3), (8, .invokevirtual 85, 3), (11, .ifCond .ne 7, 3), (20, .invokevirtual 81, 3), (23, .ifCond .eq 7, 3), (32, .invokevirtual 256, 3), (35, .lreturn, 1)]
theorem okd_X12_allowance : ed_X12_allowance.all (okD cX12_allowance) = true := by decide +kernel
def f_X12_allowance (S : St) (p0 : Nat) (p1 : Int32) : Option (Int64 × St) := lt (uI S p0 2 0) fun (S1 : St) => cl (f_X12_isFranchisee S1 p0 p1) fun (v2 : Int32) => jn (κ := Int32 → Option (Int64 × St)) (fun x3 => cl (f_X12_throwsIf S1 p0 x3 1) fun (o6 : Int32 × St) => if o6.1 = 0 then (cl (f_X12_allowanceOf o6.2 p0 p1) fun (v7 : Int64) => some (v7, o6.2)) else (some (0, o6.2))) fun k4 => if v2 = 0 then (k4 1) else (k4 0)
set_option maxHeartbeats 4000000 in
set_option maxRecDepth 100000 in
theorem c_X12_allowance (S : St) (p0 : Nat) (p1 : Int32) : Ct yX12_allowance cX12_allowance 2 (some .long) 2 46 (fun _ => [.ref p0, .int p1]) [(p0, 11)] S (f_X12_allowance S p0 p1) oLS sL := by
  refine Ct_of RX12 rfl (by decide) (fun _ => Nat.le_of_ble_eq_true rfl) 0 (vs := fun _ => [some (.ref p0), some (.int p1)]) (fun _ => rfl) (fun C X E hr ht => ?_)
  have t0_ : tT C p0 11 := ht (p0, 11) (by simp)
  show Jd C 2 (QJ C oLS sL) S 0 [some (.ref p0), some (.int p1)] [] (f_X12_allowance S p0 p1)
  unfold f_X12_allowance
  refine s_run X ok_X12_allowance 0 2 (pc' := 2) (vs' := [some (.ref p0), some (.int p1)]) (st' := [.int 0, .ref p0]) rfl ?_
  refine s_putI X fp_X12_50 t0_ (dk okd_X12_allowance 0 rfl) (fun S1 => ?_)
  refine s_run X ok_X12_allowance 2 3 (pc' := 8) (vs' := [some (.ref p0), some (.int p1)]) (st' := [.int p1, .ref p0, .ref p0]) rfl ?_
  refine s_callV (b := p0) (As := [.int p1]) (rest := [.ref p0]) X E mv_X12_85 (c_X12_isFranchisee S1 p0 p1) rfl (ta1 t0_) rfl (by decide) t0_ rfl rfl (Nat.le_of_ble_eq_true rfl) (Nat.le_of_ble_eq_true rfl) (Nat.le_of_ble_eq_true rfl) (dk okd_X12_allowance 1 rfl) (st' := fun v2 => [.int v2, .ref p0]) (fun _ => rfl) (fun v2 => ?_)
  refine s_jn (κ := Int32 → Option (Int64 × St)) (fun k4 => ∀ (x3 : Int32), Jd C 2 (QJ C oLS sL) S1 19 [some (.ref p0), some (.int p1)] [.int x3, .ref p0] (k4 x3)) (fun x3 => ?_) (fun k4 h5 => ?_)
  · refine s_run X ok_X12_allowance 8 1 (pc' := 20) (vs' := [some (.ref p0), some (.int p1)]) (st' := [.int 1, .int x3, .ref p0]) rfl ?_
    refine s_callV (b := p0) (As := [.int x3, .int 1]) (rest := []) X E mv_X12_81 (c_X12_throwsIf S1 p0 x3 1) rfl (ta1 t0_) rfl (by decide) t0_ rfl rfl (Nat.le_of_ble_eq_true rfl) (Nat.le_of_ble_eq_true rfl) (Nat.le_of_ble_eq_true rfl) (dk okd_X12_allowance 3 rfl) (st' := fun o6 => [.int o6.1]) (fun _ => rfl) (fun o6 => ?_)
    refine s_if_eq (tgt := 30) X (dk okd_X12_allowance 4 rfl) (by decide) ?_ ?_
    · refine s_run X ok_X12_allowance 11 2 (pc' := 32) (vs' := [some (.ref p0), some (.int p1)]) (st' := [.int p1, .ref p0]) rfl ?_
      refine s_callV (b := p0) (As := [.int p1]) (rest := []) X E mv_X12_256 (c_X12_allowanceOf o6.2 p0 p1) rfl (ta1 t0_) rfl (by decide) t0_ rfl rfl (Nat.le_of_ble_eq_true rfl) (Nat.le_of_ble_eq_true rfl) (Nat.le_of_ble_eq_true rfl) (dk okd_X12_allowance 5 rfl) (st' := fun v7 => [.long v7]) (fun _ => rfl) (fun v7 => ?_)
      exact s_lret X hr (dk okd_X12_allowance 6 rfl) rfl rfl
    · refine s_run X ok_X12_allowance 9 2 (pc' := 35) (vs' := [some (.ref p0), some (.int p1)]) (st' := [.long 0]) rfl ?_
      exact s_lret X hr (dk okd_X12_allowance 6 rfl) rfl rfl
  · refine s_if_ne (tgt := 18) X (dk okd_X12_allowance 2 rfl) (by decide) ?_ ?_
    · refine s_run X ok_X12_allowance 7 1 (pc' := 19) (vs' := [some (.ref p0), some (.int p1)]) (st' := [.int 0, .ref p0]) rfl ?_
      exact h5 0
    · refine s_run X ok_X12_allowance 5 2 (pc' := 19) (vs' := [some (.ref p0), some (.int p1)]) (st' := [.int 1, .ref p0]) rfl ?_
      exact h5 1
def tab_X12_product : List En := [(0, 8, 0, 0), (4, 1, 0, 12), (7, 8, 0, 0), (8, 4, 1, 0), (9, 1, 0, 7), (14, 25, 0, 0)]
theorem ok_X12_product : tab_X12_product.all (okE cX12_product) = true := by decide +kernel
def ed_X12_product : List (Nat × Instr × Nat) := [(1, .getfield 9, 3), (6, .laload, 1), (11, .invokevirtual 63, 3), (15, .lreturn, 1)]
theorem okd_X12_product : ed_X12_product.all (okD cX12_product) = true := by decide +kernel
def f_X12_product (S : St) (p0 : Nat) (p1 : Int32) : Option (Int64) := lt (gR S p0 0) fun (a1 : Nat) => ldJ S a1 12 fun (v3 : Int64) => cl (f_X12_of S p0 p1 7) fun (v4 : Int64) => some (v3 * v4)
set_option maxHeartbeats 4000000 in
set_option maxRecDepth 100000 in
theorem c_X12_product (S : St) (p0 : Nat) (p1 : Int32) : Ct yX12_product cX12_product 2 (some .long) 1 22 (fun _ => [.ref p0, .int p1]) [(p0, 11)] S (f_X12_product S p0 p1) oL (fun _ => S) := by
  refine Ct_of RX12 rfl (by decide) (fun _ => Nat.le_of_ble_eq_true rfl) 0 (vs := fun _ => [some (.ref p0), some (.int p1)]) (fun _ => rfl) (fun C X E hr ht => ?_)
  have t0_ : tT C p0 11 := ht (p0, 11) (by simp)
  show Jd C 2 (QJ C oL (fun _ => S)) S 0 [some (.ref p0), some (.int p1)] [] (f_X12_product S p0 p1)
  unfold f_X12_product
  refine s_run X ok_X12_product 0 1 (pc' := 1) (vs' := [some (.ref p0), some (.int p1)]) (st' := [.ref p0]) rfl ?_
  refine s_getR X fl_X12_9 t0_ (dk okd_X12_product 0 rfl) (fun a1 (t2 : tT C a1 14) => ?_)
  refine s_run X ok_X12_product 1 1 (pc' := 6) (vs' := [some (.ref p0), some (.int p1)]) (st' := [.int 12, .ref a1]) rfl ?_
  refine s_lald X t2 (dk okd_X12_product 1 rfl) (fun v3 => ?_)
  refine s_run X ok_X12_product 2 3 (pc' := 11) (vs' := [some (.ref p0), some (.int p1)]) (st' := [.int 7, .int p1, .ref p0, .long v3]) rfl ?_
  refine s_callV (b := p0) (As := [.int p1, .int 7]) (rest := [.long v3]) X E mv_X12_63 (c_X12_of S p0 p1 7) rfl (ta1 t0_) rfl (by decide) t0_ rfl rfl (Nat.le_of_ble_eq_true rfl) (Nat.le_of_ble_eq_true rfl) (Nat.le_of_ble_eq_true rfl) (dk okd_X12_product 2 rfl) (st' := fun v4 => [.long v4, .long v3]) (fun _ => rfl) (fun v4 => ?_)
  refine s_run X ok_X12_product 5 1 (pc' := 15) (vs' := [some (.ref p0), some (.int p1)]) (st' := [.long (v3 * v4)]) rfl ?_
  exact s_lret X hr (dk okd_X12_product 3 rfl) rfl rfl
def tab_X12_nationalShare : List En := [(0, 8, 0, 0), (1, 0, 0, 0), (5, 8, 0, 0), (6, 8, 0, 0), (7, 4, 1, 0), (14, 0, 0, 1), (15, 41, 19, 0), (18, 0, 0, 0), (19, 0, 0, 1), (26, 8, 0, 0), (30, 3, 0, 0), (31, 40, 0, 0), (35, 3, 0, 0), (37, 8, 0, 0), (41, 12, 2, 0), (42, 8, 0, 0), (46, 1, 0, 12), (49, 13, 4, 0), (51, 3, 0, 0), (52, 13, 6, 0), (54, 0, 0, 0), (55, 11, 8, 0), (57, 5, 8, 0), (59, 31, 0, 0), (60, 8, 0, 0), (64, 0, 0, 2), (66, 40, 0, 0), (70, 7, 4, 0), (72, 8, 0, 0), (73, 5, 8, 0), (78, 6, 2, 0), (80, 24, 0, 0), (81, 13, 4, 0), (83, 8, 0, 0), (84, 5, 8, 0), (89, 6, 2, 0), (91, 8, 0, 0), (92, 4, 1, 0), (96, 6, 2, 0), (98, 24, 0, 0), (99, 13, 9, 0), (101, 7, 6, 0), (103, 7, 9, 0), (105, 3, 0, 0), (106, 40, 0, 0), (110, 7, 9, 0), (112, 3, 0, 0), (113, 40, 0, 0), (117, 5, 8, 0), (119, 4, 1, 0), (123, 3, 1, 0), (124, 41, 128, 0), (127, 3, 0, 0), (128, 23, 0, 0), (129, 13, 6, 0), (131, 16, 8, 1), (134, 41, 57, 0), (137, 8, 0, 0), (138, 4, 1, 0), (142, 6, 2, 0), (144, 7, 6, 0), (146, 7, 4, 0), (148, 40, 0, 0), (152, 3, 1, 0), (153, 41, 157, 0), (156, 3, 0, 0), (157, 23, 0, 0)]
theorem ok_X12_nationalShare : tab_X12_nationalShare.all (okE cX12_nationalShare) = true := by decide +kernel
def ed_X12_nationalShare : List (Nat × Instr × Nat) := [(2, .putfield 50, 3), (8, .invokevirtual 85, 3), (11, .ifCond .ne 7, 3), (20, .invokevirtual 81, 3), (23, .ifCond .ne 12, 3), (27, .invokevirtual 249, 3), (32, .ifCond .ne 5, 3), (36, .lreturn, 1), (38, .invokevirtual 249, 3), (43, .getfield 9, 3), (48, .laload, 1), (61, .getfield 9, 3), (65, .laload, 1), (67, .ifCond .ge 70, 3), (75, .invokevirtual 259, 3), (79, .ldiv, 1), (86, .invokevirtual 259, 3), (90, .lrem, 1), (93, .invokevirtual 259, 3), (97, .lrem, 1), (107, .ifCond .gt 16, 3), (114, .ifCond .ne 13, 3), (120, .if_icmp .ge 7, 3), (139, .invokevirtual 259, 3), (143, .ldiv, 1), (149, .ifCond .ge 7, 3), (158, .lreturn, 1)]
theorem okd_X12_nationalShare : ed_X12_nationalShare.all (okD cX12_nationalShare) = true := by decide +kernel
def f_X12_nationalShare (S : St) (p0 : Nat) (p1 : Int32) : Option (Int64 × St) := lt (uI S p0 2 0) fun (S1 : St) => cl (f_X12_isFranchisee S1 p0 p1) fun (v2 : Int32) => jn (κ := Int32 → Option (Int64 × St)) (fun x3 => cl (f_X12_throwsIf S1 p0 x3 1) fun (o6 : Int32 × St) => if o6.1 = 0 then (cl (f_X12_allContributions o6.2 p0) fun (v7 : Int64) => if v7 = 0 then (some (0, o6.2)) else (cl (f_X12_allContributions o6.2 p0) fun (v8 : Int64) => lt (gR o6.2 p0 0) fun (a9 : Nat) => ldJ o6.2 a9 12 fun (v11 : Int64) => jn (κ := Int64 → Int64 → Option (Int64 × St)) (fun x12 x13 => cl (f_X12_product o6.2 p0 p1) fun (v16 : Int64) => nzL v8 <| jn (κ := Int64 → Option (Int64 × St)) (fun x17 => some (((v16 / v8) + x17), o6.2)) fun k18 => if x12 ≤ x13 then (k18 0) else (k18 1)) fun k14 => lp (κ := Int64 → Int64 → Int32 → Option (Int64 × St)) (fun _ _ _ => none) (fun k23 x20 x21 x22 => lt (gR o6.2 p0 0) fun (a25 : Nat) => ldJ o6.2 a25 2 fun (v27 : Int64) => if v27 ≤ (Int32.toInt64 x22) then (k14 x20 x21) else (cl (f_X12_product o6.2 p0 x22) fun (v28 : Int64) => nzL v8 <| lt (x20 - (v28 / v8)) fun (v29 : Int64) => cl (f_X12_product o6.2 p0 x22) fun (v30 : Int64) => nzL v8 <| cl (f_X12_product o6.2 p0 p1) fun (v31 : Int64) => nzL v8 <| lt ((v30 - v30 / v8 * v8) - (v31 - v31 / v8 * v8)) fun (v32 : Int64) => jn (κ := Int64 → Option (Int64 × St)) (fun x33 => lt (x21 + x33) fun (v36 : Int64) => k23 v29 v36 (x22 + 1)) fun k34 => jn (κ := Option (Int64 × St)) (k34 1) fun k37 => if 0 < v32 then (k37) else (jn (κ := Option (Int64 × St)) (k34 0) fun k39 => if v32 = 0 then (if p1 ≤ x22 then (k39) else (k37)) else (k39)))) FU v11 0 0)) else (some (0, o6.2))) fun k4 => if v2 = 0 then (k4 1) else (k4 0)
set_option maxHeartbeats 4000000 in
set_option maxRecDepth 100000 in
theorem c_X12_nationalShare (S : St) (p0 : Nat) (p1 : Int32) : Ct yX12_nationalShare cX12_nationalShare 11 (some .long) 2 46 (fun _ => [.ref p0, .int p1]) [(p0, 11)] S (f_X12_nationalShare S p0 p1) oLS sL := by
  refine Ct_of RX12 rfl (by decide) (fun _ => Nat.le_of_ble_eq_true rfl) 9 (vs := fun _ => [some (.ref p0), some (.int p1), none, none, none, none, none, none, none, none, none]) (fun _ => rfl) (fun C X E hr ht => ?_)
  have t0_ : tT C p0 11 := ht (p0, 11) (by simp)
  show Jd C 11 (QJ C oLS sL) S 0 [some (.ref p0), some (.int p1), none, none, none, none, none, none, none, none, none] [] (f_X12_nationalShare S p0 p1)
  unfold f_X12_nationalShare
  refine s_run X ok_X12_nationalShare 0 2 (pc' := 2) (vs' := [some (.ref p0), some (.int p1), none, none, none, none, none, none, none, none, none]) (st' := [.int 0, .ref p0]) rfl ?_
  refine s_putI X fp_X12_50 t0_ (dk okd_X12_nationalShare 0 rfl) (fun S1 => ?_)
  refine s_run X ok_X12_nationalShare 2 3 (pc' := 8) (vs' := [some (.ref p0), some (.int p1), none, none, none, none, none, none, none, none, none]) (st' := [.int p1, .ref p0, .ref p0]) rfl ?_
  refine s_callV (b := p0) (As := [.int p1]) (rest := [.ref p0]) X E mv_X12_85 (c_X12_isFranchisee S1 p0 p1) rfl (ta1 t0_) rfl (by decide) t0_ rfl rfl (Nat.le_of_ble_eq_true rfl) (Nat.le_of_ble_eq_true rfl) (Nat.le_of_ble_eq_true rfl) (dk okd_X12_nationalShare 1 rfl) (st' := fun v2 => [.int v2, .ref p0]) (fun _ => rfl) (fun v2 => ?_)
  refine s_jn (κ := Int32 → Option (Int64 × St)) (fun k4 => ∀ (x3 : Int32), Jd C 11 (QJ C oLS sL) S1 19 [some (.ref p0), some (.int p1), none, none, none, none, none, none, none, none, none] [.int x3, .ref p0] (k4 x3)) (fun x3 => ?_) (fun k4 h5 => ?_)
  · refine s_run X ok_X12_nationalShare 8 1 (pc' := 20) (vs' := [some (.ref p0), some (.int p1), none, none, none, none, none, none, none, none, none]) (st' := [.int 1, .int x3, .ref p0]) rfl ?_
    refine s_callV (b := p0) (As := [.int x3, .int 1]) (rest := []) X E mv_X12_81 (c_X12_throwsIf S1 p0 x3 1) rfl (ta1 t0_) rfl (by decide) t0_ rfl rfl (Nat.le_of_ble_eq_true rfl) (Nat.le_of_ble_eq_true rfl) (Nat.le_of_ble_eq_true rfl) (dk okd_X12_nationalShare 3 rfl) (st' := fun o6 => [.int o6.1]) (fun _ => rfl) (fun o6 => ?_)
    refine s_if_ne (tgt := 35) X (dk okd_X12_nationalShare 4 rfl) (by decide) ?_ ?_
    · refine s_run X ok_X12_nationalShare 12 1 (pc' := 36) (vs' := [some (.ref p0), some (.int p1), none, none, none, none, none, none, none, none, none]) (st' := [.long 0]) rfl ?_
      exact s_lret X hr (dk okd_X12_nationalShare 7 rfl) rfl rfl
    · refine s_run X ok_X12_nationalShare 9 1 (pc' := 27) (vs' := [some (.ref p0), some (.int p1), none, none, none, none, none, none, none, none, none]) (st' := [.ref p0]) rfl ?_
      refine s_callV (b := p0) (As := []) (rest := []) X E mv_X12_249 (c_X12_allContributions o6.2 p0) rfl (ta1 t0_) rfl (by decide) t0_ rfl rfl (Nat.le_of_ble_eq_true rfl) (Nat.le_of_ble_eq_true rfl) (Nat.le_of_ble_eq_true rfl) (dk okd_X12_nationalShare 5 rfl) (st' := fun v7 => [.long v7]) (fun _ => rfl) (fun v7 => ?_)
      refine s_run X ok_X12_nationalShare 10 2 (pc' := 32) (vs' := [some (.ref p0), some (.int p1), none, none, none, none, none, none, none, none, none]) (st' := [.int (lg_cmp v7 0)]) rfl ?_
      refine s_lif_ne (tgt := 37) X (dk okd_X12_nationalShare 6 rfl) (by decide) ?_ ?_
      · refine s_run X ok_X12_nationalShare 13 1 (pc' := 38) (vs' := [some (.ref p0), some (.int p1), none, none, none, none, none, none, none, none, none]) (st' := [.ref p0]) rfl ?_
        refine s_callV (b := p0) (As := []) (rest := []) X E mv_X12_249 (c_X12_allContributions o6.2 p0) rfl (ta1 t0_) rfl (by decide) t0_ rfl rfl (Nat.le_of_ble_eq_true rfl) (Nat.le_of_ble_eq_true rfl) (Nat.le_of_ble_eq_true rfl) (dk okd_X12_nationalShare 8 rfl) (st' := fun v8 => [.long v8]) (fun _ => rfl) (fun v8 => ?_)
        refine s_run X ok_X12_nationalShare 14 2 (pc' := 43) (vs' := [some (.ref p0), some (.int p1), some (.long v8), none, none, none, none, none, none, none, none]) (st' := [.ref p0]) rfl ?_
        refine s_getR X fl_X12_9 t0_ (dk okd_X12_nationalShare 9 rfl) (fun a9 (t10 : tT C a9 14) => ?_)
        refine s_run X ok_X12_nationalShare 16 1 (pc' := 48) (vs' := [some (.ref p0), some (.int p1), some (.long v8), none, none, none, none, none, none, none, none]) (st' := [.int 12, .ref a9]) rfl ?_
        refine s_lald X t10 (dk okd_X12_nationalShare 10 rfl) (fun v11 => ?_)
        refine s_run X ok_X12_nationalShare 17 5 (pc' := 57) (vs' := [some (.ref p0), some (.int p1), some (.long v8), none, some (.long v11), none, some (.long 0), none, some (.int 0), none, none]) (st' := []) rfl ?_
        refine s_jn (κ := Int64 → Int64 → Option (Int64 × St)) (fun k14 => ∀ (x12 : Int64) (x13 : Int64), Jd C 11 (QJ C oLS sL) o6.2 137 [some (.ref p0), some (.int p1), some (.long v8), none, some (.long x12), none, some (.long x13), none, none, none, none] [] (k14 x12 x13)) (fun x12 x13 => ?_) (fun k14 h15 => ?_)
        · refine s_run X ok_X12_nationalShare 57 2 (pc' := 139) (vs' := [some (.ref p0), some (.int p1), some (.long v8), none, some (.long x12), none, some (.long x13), none, none, none, none]) (st' := [.int p1, .ref p0]) rfl ?_
          refine s_callV (b := p0) (As := [.int p1]) (rest := []) X E mv_X12_259 (c_X12_product o6.2 p0 p1) rfl (ta1 t0_) rfl (by decide) t0_ rfl rfl (Nat.le_of_ble_eq_true rfl) (Nat.le_of_ble_eq_true rfl) (Nat.le_of_ble_eq_true rfl) (dk okd_X12_nationalShare 23 rfl) (st' := fun v16 => [.long v16]) (fun _ => rfl) (fun v16 => ?_)
          refine s_run X ok_X12_nationalShare 59 1 (pc' := 143) (vs' := [some (.ref p0), some (.int p1), some (.long v8), none, some (.long x12), none, some (.long x13), none, none, none, none]) (st' := [.long v8, .long v16]) rfl ?_
          refine s_ldiv X (dk okd_X12_nationalShare 24 rfl) ?_
          refine s_run X ok_X12_nationalShare 60 3 (pc' := 149) (vs' := [some (.ref p0), some (.int p1), some (.long v8), none, some (.long x12), none, some (.long x13), none, none, none, none]) (st' := [.int (lg_cmp x13 x12), .long (v16 / v8)]) rfl ?_
          refine s_jn (κ := Int64 → Option (Int64 × St)) (fun k18 => ∀ (x17 : Int64), Jd C 11 (QJ C oLS sL) o6.2 157 [none, none, none, none, none, none, none, none, none, none, none] [.long x17, .long (v16 / v8)] (k18 x17)) (fun x17 => ?_) (fun k18 h19 => ?_)
          · refine s_run X ok_X12_nationalShare 66 1 (pc' := 158) (vs' := [none, none, none, none, none, none, none, none, none, none, none]) (st' := [.long ((v16 / v8) + x17)]) rfl ?_
            exact s_lret X hr (dk okd_X12_nationalShare 26 rfl) rfl rfl
          · refine s_lif_ge (tgt := 156) X (dk okd_X12_nationalShare 25 rfl) (by decide) ?_ ?_
            · refine s_run X ok_X12_nationalShare 65 1 (pc' := 157) (vs' := [some (.ref p0), some (.int p1), some (.long v8), none, some (.long x12), none, some (.long x13), none, none, none, none]) (st' := [.long 0, .long (v16 / v8)]) rfl ?_
              exact s_less [false, false, false, false, false, false, false, false, false, false, false] rfl (h19 0)
            · refine s_run X ok_X12_nationalShare 63 2 (pc' := 157) (vs' := [some (.ref p0), some (.int p1), some (.long v8), none, some (.long x12), none, some (.long x13), none, none, none, none]) (st' := [.long 1, .long (v16 / v8)]) rfl ?_
              exact s_less [false, false, false, false, false, false, false, false, false, false, false] rfl (h19 1)
        · refine s_lp (κ := Int64 → Int64 → Int32 → Option (Int64 × St)) (fun k23 => ∀ (x20 : Int64) (x21 : Int64) (x22 : Int32), Jd C 11 (QJ C oLS sL) o6.2 57 [some (.ref p0), some (.int p1), some (.long v8), none, some (.long x20), none, some (.long x21), none, some (.int x22), none, none] [] (k23 x20 x21 x22)) (fun _ _ _ => s_none) (fun k23 h24 x20 x21 x22 => ?_) FU v11 0 0
          refine s_run X ok_X12_nationalShare 22 3 (pc' := 61) (vs' := [some (.ref p0), some (.int p1), some (.long v8), none, some (.long x20), none, some (.long x21), none, some (.int x22), none, none]) (st' := [.ref p0, .long (Int32.toInt64 x22)]) rfl ?_
          refine s_getR X fl_X12_9 t0_ (dk okd_X12_nationalShare 11 rfl) (fun a25 (t26 : tT C a25 14) => ?_)
          refine s_run X ok_X12_nationalShare 25 1 (pc' := 65) (vs' := [some (.ref p0), some (.int p1), some (.long v8), none, some (.long x20), none, some (.long x21), none, some (.int x22), none, none]) (st' := [.int 2, .ref a25, .long (Int32.toInt64 x22)]) rfl ?_
          refine s_lald X t26 (dk okd_X12_nationalShare 12 rfl) (fun v27 => ?_)
          refine s_run X ok_X12_nationalShare 26 1 (pc' := 67) (vs' := [some (.ref p0), some (.int p1), some (.long v8), none, some (.long x20), none, some (.long x21), none, some (.int x22), none, none]) (st' := [.int (lg_cmp (Int32.toInt64 x22) v27)]) rfl ?_
          refine s_lif_ge (tgt := 137) X (dk okd_X12_nationalShare 13 rfl) (by decide) ?_ ?_
          · exact s_less [true, true, true, false, true, false, true, false, false, false, false] rfl (h15 x20 x21)
          · refine s_run X ok_X12_nationalShare 27 3 (pc' := 75) (vs' := [some (.ref p0), some (.int p1), some (.long v8), none, some (.long x20), none, some (.long x21), none, some (.int x22), none, none]) (st' := [.int x22, .ref p0, .long x20]) rfl ?_
            refine s_callV (b := p0) (As := [.int x22]) (rest := [.long x20]) X E mv_X12_259 (c_X12_product o6.2 p0 x22) rfl (ta1 t0_) rfl (by decide) t0_ rfl rfl (Nat.le_of_ble_eq_true rfl) (Nat.le_of_ble_eq_true rfl) (Nat.le_of_ble_eq_true rfl) (dk okd_X12_nationalShare 14 rfl) (st' := fun v28 => [.long v28, .long x20]) (fun _ => rfl) (fun v28 => ?_)
            refine s_run X ok_X12_nationalShare 30 1 (pc' := 79) (vs' := [some (.ref p0), some (.int p1), some (.long v8), none, some (.long x20), none, some (.long x21), none, some (.int x22), none, none]) (st' := [.long v8, .long v28, .long x20]) rfl ?_
            refine s_ldiv X (dk okd_X12_nationalShare 15 rfl) ?_
            refine s_run X ok_X12_nationalShare 31 1 (pc' := 81) (vs' := [some (.ref p0), some (.int p1), some (.long v8), none, some (.long x20), none, some (.long x21), none, some (.int x22), none, none]) (st' := [.long (x20 - (v28 / v8))]) rfl ?_
            refine s_nmJ (fun v29 => ?_)
            refine s_run X ok_X12_nationalShare 32 3 (pc' := 86) (vs' := [some (.ref p0), some (.int p1), some (.long v8), none, some (.long v29), none, some (.long x21), none, some (.int x22), none, none]) (st' := [.int x22, .ref p0]) rfl ?_
            refine s_callV (b := p0) (As := [.int x22]) (rest := []) X E mv_X12_259 (c_X12_product o6.2 p0 x22) rfl (ta1 t0_) rfl (by decide) t0_ rfl rfl (Nat.le_of_ble_eq_true rfl) (Nat.le_of_ble_eq_true rfl) (Nat.le_of_ble_eq_true rfl) (dk okd_X12_nationalShare 16 rfl) (st' := fun v30 => [.long v30]) (fun _ => rfl) (fun v30 => ?_)
            refine s_run X ok_X12_nationalShare 35 1 (pc' := 90) (vs' := [some (.ref p0), some (.int p1), some (.long v8), none, some (.long v29), none, some (.long x21), none, some (.int x22), none, none]) (st' := [.long v8, .long v30]) rfl ?_
            refine s_lrem X (dk okd_X12_nationalShare 17 rfl) ?_
            refine s_run X ok_X12_nationalShare 36 2 (pc' := 93) (vs' := [some (.ref p0), some (.int p1), some (.long v8), none, some (.long v29), none, some (.long x21), none, some (.int x22), none, none]) (st' := [.int p1, .ref p0, .long (v30 - v30 / v8 * v8)]) rfl ?_
            refine s_callV (b := p0) (As := [.int p1]) (rest := [.long (v30 - v30 / v8 * v8)]) X E mv_X12_259 (c_X12_product o6.2 p0 p1) rfl (ta1 t0_) rfl (by decide) t0_ rfl rfl (Nat.le_of_ble_eq_true rfl) (Nat.le_of_ble_eq_true rfl) (Nat.le_of_ble_eq_true rfl) (dk okd_X12_nationalShare 18 rfl) (st' := fun v31 => [.long v31, .long (v30 - v30 / v8 * v8)]) (fun _ => rfl) (fun v31 => ?_)
            refine s_run X ok_X12_nationalShare 38 1 (pc' := 97) (vs' := [some (.ref p0), some (.int p1), some (.long v8), none, some (.long v29), none, some (.long x21), none, some (.int x22), none, none]) (st' := [.long v8, .long v31, .long (v30 - v30 / v8 * v8)]) rfl ?_
            refine s_lrem X (dk okd_X12_nationalShare 19 rfl) ?_
            refine s_run X ok_X12_nationalShare 39 1 (pc' := 99) (vs' := [some (.ref p0), some (.int p1), some (.long v8), none, some (.long v29), none, some (.long x21), none, some (.int x22), none, none]) (st' := [.long ((v30 - v30 / v8 * v8) - (v31 - v31 / v8 * v8))]) rfl ?_
            refine s_nmJ (fun v32 => ?_)
            refine s_run X ok_X12_nationalShare 40 5 (pc' := 107) (vs' := [some (.ref p0), some (.int p1), some (.long v8), none, some (.long v29), none, some (.long x21), none, some (.int x22), some (.long v32), none]) (st' := [.int (lg_cmp v32 0), .long x21]) rfl ?_
            refine s_jn (κ := Int64 → Option (Int64 × St)) (fun k34 => ∀ (x33 : Int64), Jd C 11 (QJ C oLS sL) o6.2 128 [some (.ref p0), some (.int p1), some (.long v8), none, some (.long v29), none, none, none, some (.int x22), none, none] [.long x33, .long x21] (k34 x33)) (fun x33 => ?_) (fun k34 h35 => ?_)
            · refine s_run X ok_X12_nationalShare 53 1 (pc' := 129) (vs' := [some (.ref p0), some (.int p1), some (.long v8), none, some (.long v29), none, none, none, some (.int x22), none, none]) (st' := [.long (x21 + x33)]) rfl ?_
              refine s_nmJ (fun v36 => ?_)
              refine s_run X ok_X12_nationalShare 54 3 (pc' := 57) (vs' := [some (.ref p0), some (.int p1), some (.long v8), none, some (.long v29), none, some (.long v36), none, some (.int (x22 + 1)), none, none]) (st' := []) rfl ?_
              exact h24 v29 v36 (x22 + 1)
            · refine s_jn (κ := Option (Int64 × St)) (fun k37 => Jd C 11 (QJ C oLS sL) o6.2 123 [some (.ref p0), some (.int p1), some (.long v8), none, some (.long v29), none, none, none, some (.int x22), none, none] [.long x21] k37) ?_ (fun k37 h38 => ?_)
              · refine s_run X ok_X12_nationalShare 50 2 (pc' := 128) (vs' := [some (.ref p0), some (.int p1), some (.long v8), none, some (.long v29), none, none, none, some (.int x22), none, none]) (st' := [.long 1, .long x21]) rfl ?_
                exact h35 1
              · refine s_lif_gt (tgt := 123) X (dk okd_X12_nationalShare 20 rfl) (by decide) ?_ ?_
                · exact s_less [true, true, true, false, true, false, false, false, true, false, false] rfl (h38)
                · refine s_run X ok_X12_nationalShare 45 3 (pc' := 114) (vs' := [some (.ref p0), some (.int p1), some (.long v8), none, some (.long v29), none, some (.long x21), none, some (.int x22), some (.long v32), none]) (st' := [.int (lg_cmp v32 0), .long x21]) rfl ?_
                  refine s_jn (κ := Option (Int64 × St)) (fun k39 => Jd C 11 (QJ C oLS sL) o6.2 127 [some (.ref p0), some (.int p1), some (.long v8), none, some (.long v29), none, none, none, some (.int x22), none, none] [.long x21] k39) ?_ (fun k39 h40 => ?_)
                  · refine s_run X ok_X12_nationalShare 52 1 (pc' := 128) (vs' := [some (.ref p0), some (.int p1), some (.long v8), none, some (.long v29), none, none, none, some (.int x22), none, none]) (st' := [.long 0, .long x21]) rfl ?_
                    exact h35 0
                  · refine s_lif_ne (tgt := 127) X (dk okd_X12_nationalShare 21 rfl) (by decide) ?_ ?_
                    · exact s_less [true, true, true, false, true, false, false, false, true, false, false] rfl (h40)
                    · refine s_run X ok_X12_nationalShare 48 2 (pc' := 120) (vs' := [some (.ref p0), some (.int p1), some (.long v8), none, some (.long v29), none, some (.long x21), none, some (.int x22), some (.long v32), none]) (st' := [.int p1, .int x22, .long x21]) rfl ?_
                      refine s_icmp_ge (tgt := 127) X (dk okd_X12_nationalShare 22 rfl) (by decide) ?_ ?_
                      · exact s_less [true, true, true, false, true, false, false, false, true, false, false] rfl (h40)
                      · exact s_less [true, true, true, false, true, false, false, false, true, false, false] rfl (h38)
      · refine s_run X ok_X12_nationalShare 12 1 (pc' := 36) (vs' := [some (.ref p0), some (.int p1), none, none, none, none, none, none, none, none, none]) (st' := [.long 0]) rfl ?_
        exact s_lret X hr (dk okd_X12_nationalShare 7 rfl) rfl rfl
  · refine s_if_ne (tgt := 18) X (dk okd_X12_nationalShare 2 rfl) (by decide) ?_ ?_
    · refine s_run X ok_X12_nationalShare 7 1 (pc' := 19) (vs' := [some (.ref p0), some (.int p1), none, none, none, none, none, none, none, none, none]) (st' := [.int 0, .ref p0]) rfl ?_
      exact h5 0
    · refine s_run X ok_X12_nationalShare 5 2 (pc' := 19) (vs' := [some (.ref p0), some (.int p1), none, none, none, none, none, none, none, none, none]) (st' := [.int 1, .ref p0]) rfl ?_
      exact h5 1
def tab_X12_requestTransfer : List En := [(0, 8, 0, 0), (1, 0, 0, 0), (5, 8, 0, 0), (6, 8, 0, 0), (7, 4, 1, 0), (14, 0, 0, 1), (15, 41, 19, 0), (18, 0, 0, 0), (19, 0, 0, 1), (26, 8, 0, 0), (27, 4, 2, 0), (28, 31, 0, 0), (29, 3, 0, 0), (39, 6, 3, 0), (40, 3, 0, 0), (50, 0, 0, 1), (51, 41, 55, 0), (54, 0, 0, 0), (55, 0, 0, 2), (62, 0, 0, 0), (64, 8, 0, 0), (65, 4, 1, 0), (72, 8, 0, 0), (73, 4, 1, 0), (80, 8, 0, 0), (81, 4, 1, 0), (82, 0, 0, 4), (86, 3, 0, 0), (87, 40, 0, 0), (91, 4, 2, 0), (92, 31, 0, 0), (93, 8, 0, 0), (97, 1, 0, 10), (100, 40, 0, 0), (104, 0, 0, 0), (106, 8, 0, 0), (107, 4, 1, 0), (108, 1, 0, 9), (110, 3, 1, 0), (114, 8, 0, 0), (115, 4, 1, 0), (116, 1, 0, 10), (118, 4, 2, 0), (119, 31, 0, 0), (123, 8, 0, 0), (124, 4, 1, 0), (125, 1, 0, 11), (127, 6, 3, 0), (131, 8, 0, 0), (132, 4, 1, 0), (133, 1, 0, 12), (135, 8, 0, 0), (139, 0, 0, 0), (144, 8, 0, 0), (145, 4, 1, 0), (146, 1, 0, 13), (148, 3, 0, 0), (152, 8, 0, 0), (153, 4, 1, 0), (154, 1, 0, 14), (156, 3, 0, 0), (160, 8, 0, 0), (161, 4, 1, 0), (162, 1, 0, 15), (164, 3, 0, 0), (168, 0, 0, 1)]
theorem ok_X12_requestTransfer : tab_X12_requestTransfer.all (okE cX12_requestTransfer) = true := by decide +kernel
def ed_X12_requestTransfer : List (Nat × Instr × Nat) := [(2, .putfield 50, 3), (8, .invokevirtual 85, 3), (11, .ifCond .ne 7, 3), (20, .invokevirtual 81, 3), (23, .ifCond .ne 39, 3), (30, .ldc2_w 262, 3), (33, .invokestatic 53, 3), (36, .ifCond .eq 14, 3), (41, .ldc2_w 174, 3), (44, .invokestatic 53, 3), (47, .ifCond .ne 7, 3), (56, .invokevirtual 81, 3), (59, .ifCond .eq 5, 3), (63, .ireturn, 1), (66, .invokevirtual 128, 3), (69, .ifCond .eq 35, 3), (74, .invokevirtual 246, 3), (77, .ifCond .ne 27, 3), (83, .invokevirtual 63, 3), (88, .ifCond .gt 16, 3), (94, .getfield 9, 3), (99, .laload, 1), (101, .ifCond .ge 5, 3), (105, .ireturn, 1), (111, .invokevirtual 183, 3), (120, .invokevirtual 183, 3), (128, .invokevirtual 183, 3), (136, .getfield 9, 3), (140, .laload, 1), (141, .invokevirtual 183, 3), (149, .invokevirtual 183, 3), (157, .invokevirtual 183, 3), (165, .invokevirtual 183, 3), (169, .ireturn, 1)]
theorem okd_X12_requestTransfer : ed_X12_requestTransfer.all (okD cX12_requestTransfer) = true := by decide +kernel
def f_X12_requestTransfer (S : St) (p0 : Nat) (p1 : Int32) (p2 : Int32) (p3 : Int64) : Option (Int32 × St) := lt (uI S p0 2 0) fun (S1 : St) => cl (f_X12_isFranchisee S1 p0 p1) fun (v2 : Int32) => jn (κ := Int32 → Option (Int32 × St)) (fun x3 => cl (f_X12_throwsIf S1 p0 x3 1) fun (o6 : Int32 × St) => if o6.1 = 0 then (cl (f_X12_inRange o6.2 (Int32.toInt64 p2) 0 999) fun (v7 : Int32) => jn (κ := Int32 → Option (Int32 × St)) (fun x8 => cl (f_X12_throwsIf o6.2 p0 x8 2) fun (o11 : Int32 × St) => if o11.1 = 0 then (cl (f_X12_isActive o11.2 p0 p1) fun (v12 : Int32) => if v12 = 0 then (some (0, o11.2)) else (cl (f_X12_isOpenTransfer o11.2 p0 p1) fun (v13 : Int32) => if v13 = 0 then (cl (f_X12_of o11.2 p0 p1 4) fun (v14 : Int64) => if 0 < v14 then (some (0, o11.2)) else (lt (gR o11.2 p0 0) fun (a15 : Nat) => ldJ o11.2 a15 10 fun (v17 : Int64) => if v17 ≤ (Int32.toInt64 p2) then (cl (f_X12_set o11.2 p0 p1 9 1) fun (S18 : St) => cl (f_X12_set S18 p0 p1 10 (Int32.toInt64 p2)) fun (S19 : St) => cl (f_X12_set S19 p0 p1 11 p3) fun (S20 : St) => lt (gR S20 p0 0) fun (a21 : Nat) => ldJ S20 a21 0 fun (v23 : Int64) => cl (f_X12_set S20 p0 p1 12 v23) fun (S24 : St) => cl (f_X12_set S24 p0 p1 13 0) fun (S25 : St) => cl (f_X12_set S25 p0 p1 14 0) fun (S26 : St) => cl (f_X12_set S26 p0 p1 15 0) fun (S27 : St) => some (1, S27)) else (some (0, o11.2)))) else (some (0, o11.2)))) else (some (0, o11.2))) fun k9 => jn (κ := Option (Int32 × St)) (k9 1) fun k28 => if v7 = 0 then (k28) else (cl (f_X12_inRange o6.2 p3 0 1000000000) fun (v30 : Int32) => if v30 = 0 then (k28) else (k9 0))) else (some (0, o6.2))) fun k4 => if v2 = 0 then (k4 1) else (k4 0)
set_option maxHeartbeats 4000000 in
set_option maxRecDepth 100000 in
theorem c_X12_requestTransfer (S : St) (p0 : Nat) (p1 : Int32) (p2 : Int32) (p3 : Int64) : Ct yX12_requestTransfer cX12_requestTransfer 5 (some .boolean) 2 46 (fun _ => [.ref p0, .int p1, .int p2, .long p3]) [(p0, 11)] S (f_X12_requestTransfer S p0 p1 p2 p3) oIS sS := by
  refine Ct_of RX12 rfl (by decide) (fun _ => Nat.le_of_ble_eq_true rfl) 0 (vs := fun _ => [some (.ref p0), some (.int p1), some (.int p2), some (.long p3), none]) (fun _ => rfl) (fun C X E hr ht => ?_)
  have t0_ : tT C p0 11 := ht (p0, 11) (by simp)
  show Jd C 5 (QJ C oIS sS) S 0 [some (.ref p0), some (.int p1), some (.int p2), some (.long p3), none] [] (f_X12_requestTransfer S p0 p1 p2 p3)
  unfold f_X12_requestTransfer
  refine s_run X ok_X12_requestTransfer 0 2 (pc' := 2) (vs' := [some (.ref p0), some (.int p1), some (.int p2), some (.long p3), none]) (st' := [.int 0, .ref p0]) rfl ?_
  refine s_putI X fp_X12_50 t0_ (dk okd_X12_requestTransfer 0 rfl) (fun S1 => ?_)
  refine s_run X ok_X12_requestTransfer 2 3 (pc' := 8) (vs' := [some (.ref p0), some (.int p1), some (.int p2), some (.long p3), none]) (st' := [.int p1, .ref p0, .ref p0]) rfl ?_
  refine s_callV (b := p0) (As := [.int p1]) (rest := [.ref p0]) X E mv_X12_85 (c_X12_isFranchisee S1 p0 p1) rfl (ta1 t0_) rfl (by decide) t0_ rfl rfl (Nat.le_of_ble_eq_true rfl) (Nat.le_of_ble_eq_true rfl) (Nat.le_of_ble_eq_true rfl) (dk okd_X12_requestTransfer 1 rfl) (st' := fun v2 => [.int v2, .ref p0]) (fun _ => rfl) (fun v2 => ?_)
  refine s_jn (κ := Int32 → Option (Int32 × St)) (fun k4 => ∀ (x3 : Int32), Jd C 5 (QJ C oIS sS) S1 19 [some (.ref p0), some (.int p1), some (.int p2), some (.long p3), none] [.int x3, .ref p0] (k4 x3)) (fun x3 => ?_) (fun k4 h5 => ?_)
  · refine s_run X ok_X12_requestTransfer 8 1 (pc' := 20) (vs' := [some (.ref p0), some (.int p1), some (.int p2), some (.long p3), none]) (st' := [.int 1, .int x3, .ref p0]) rfl ?_
    refine s_callV (b := p0) (As := [.int x3, .int 1]) (rest := []) X E mv_X12_81 (c_X12_throwsIf S1 p0 x3 1) rfl (ta1 t0_) rfl (by decide) t0_ rfl rfl (Nat.le_of_ble_eq_true rfl) (Nat.le_of_ble_eq_true rfl) (Nat.le_of_ble_eq_true rfl) (dk okd_X12_requestTransfer 3 rfl) (st' := fun o6 => [.int o6.1]) (fun _ => rfl) (fun o6 => ?_)
    refine s_if_ne (tgt := 62) X (dk okd_X12_requestTransfer 4 rfl) (by decide) ?_ ?_
    · refine s_run X ok_X12_requestTransfer 19 1 (pc' := 63) (vs' := [some (.ref p0), some (.int p1), some (.int p2), some (.long p3), none]) (st' := [.int 0]) rfl ?_
      exact s_zret0 X hr (dk okd_X12_requestTransfer 13 rfl) (by decide) rfl rfl
    · refine s_run X ok_X12_requestTransfer 9 4 (pc' := 30) (vs' := [some (.ref p0), some (.int p1), some (.int p2), some (.long p3), none]) (st' := [.long 0, .long (Int32.toInt64 p2), .ref p0]) rfl ?_
      refine s_ldc2 X cl_X12_262 (dk okd_X12_requestTransfer 5 rfl) ?_
      refine s_callS (As := [.long (Int32.toInt64 p2), .long 0, .long 999]) (rest := [.ref p0]) X E ms_X12_53 (c_X12_inRange o6.2 (Int32.toInt64 p2) 0 999) rfl (ta0) rfl rfl (Nat.le_of_ble_eq_true rfl) (Nat.le_of_ble_eq_true rfl) (Nat.le_of_ble_eq_true rfl) (dk okd_X12_requestTransfer 6 rfl) (st' := fun v7 => [.int v7, .ref p0]) (fun _ => rfl) (fun v7 => ?_)
      refine s_jn (κ := Int32 → Option (Int32 × St)) (fun k9 => ∀ (x8 : Int32), Jd C 5 (QJ C oIS sS) o6.2 55 [some (.ref p0), some (.int p1), some (.int p2), some (.long p3), none] [.int x8, .ref p0] (k9 x8)) (fun x8 => ?_) (fun k9 h10 => ?_)
      · refine s_run X ok_X12_requestTransfer 18 1 (pc' := 56) (vs' := [some (.ref p0), some (.int p1), some (.int p2), some (.long p3), none]) (st' := [.int 2, .int x8, .ref p0]) rfl ?_
        refine s_callV (b := p0) (As := [.int x8, .int 2]) (rest := []) X E mv_X12_81 (c_X12_throwsIf o6.2 p0 x8 2) rfl (ta1 t0_) rfl (by decide) t0_ rfl rfl (Nat.le_of_ble_eq_true rfl) (Nat.le_of_ble_eq_true rfl) (Nat.le_of_ble_eq_true rfl) (dk okd_X12_requestTransfer 11 rfl) (st' := fun o11 => [.int o11.1]) (fun _ => rfl) (fun o11 => ?_)
        refine s_if_eq (tgt := 64) X (dk okd_X12_requestTransfer 12 rfl) (by decide) ?_ ?_
        · refine s_run X ok_X12_requestTransfer 20 2 (pc' := 66) (vs' := [some (.ref p0), some (.int p1), some (.int p2), some (.long p3), none]) (st' := [.int p1, .ref p0]) rfl ?_
          refine s_callV (b := p0) (As := [.int p1]) (rest := []) X E mv_X12_128 (c_X12_isActive o11.2 p0 p1) rfl (ta1 t0_) rfl (by decide) t0_ rfl rfl (Nat.le_of_ble_eq_true rfl) (Nat.le_of_ble_eq_true rfl) (Nat.le_of_ble_eq_true rfl) (dk okd_X12_requestTransfer 14 rfl) (st' := fun v12 => [.int v12]) (fun _ => rfl) (fun v12 => ?_)
          refine s_if_eq (tgt := 104) X (dk okd_X12_requestTransfer 15 rfl) (by decide) ?_ ?_
          · refine s_run X ok_X12_requestTransfer 34 1 (pc' := 105) (vs' := [some (.ref p0), some (.int p1), some (.int p2), some (.long p3), none]) (st' := [.int 0]) rfl ?_
            exact s_zret0 X hr (dk okd_X12_requestTransfer 23 rfl) (by decide) rfl rfl
          · refine s_run X ok_X12_requestTransfer 22 2 (pc' := 74) (vs' := [some (.ref p0), some (.int p1), some (.int p2), some (.long p3), none]) (st' := [.int p1, .ref p0]) rfl ?_
            refine s_callV (b := p0) (As := [.int p1]) (rest := []) X E mv_X12_246 (c_X12_isOpenTransfer o11.2 p0 p1) rfl (ta1 t0_) rfl (by decide) t0_ rfl rfl (Nat.le_of_ble_eq_true rfl) (Nat.le_of_ble_eq_true rfl) (Nat.le_of_ble_eq_true rfl) (dk okd_X12_requestTransfer 16 rfl) (st' := fun v13 => [.int v13]) (fun _ => rfl) (fun v13 => ?_)
            refine s_if_ne (tgt := 104) X (dk okd_X12_requestTransfer 17 rfl) (by decide) ?_ ?_
            · refine s_run X ok_X12_requestTransfer 34 1 (pc' := 105) (vs' := [some (.ref p0), some (.int p1), some (.int p2), some (.long p3), none]) (st' := [.int 0]) rfl ?_
              exact s_zret0 X hr (dk okd_X12_requestTransfer 23 rfl) (by decide) rfl rfl
            · refine s_run X ok_X12_requestTransfer 24 3 (pc' := 83) (vs' := [some (.ref p0), some (.int p1), some (.int p2), some (.long p3), none]) (st' := [.int 4, .int p1, .ref p0]) rfl ?_
              refine s_callV (b := p0) (As := [.int p1, .int 4]) (rest := []) X E mv_X12_63 (c_X12_of o11.2 p0 p1 4) rfl (ta1 t0_) rfl (by decide) t0_ rfl rfl (Nat.le_of_ble_eq_true rfl) (Nat.le_of_ble_eq_true rfl) (Nat.le_of_ble_eq_true rfl) (dk okd_X12_requestTransfer 18 rfl) (st' := fun v14 => [.long v14]) (fun _ => rfl) (fun v14 => ?_)
              refine s_run X ok_X12_requestTransfer 27 2 (pc' := 88) (vs' := [some (.ref p0), some (.int p1), some (.int p2), some (.long p3), none]) (st' := [.int (lg_cmp v14 0)]) rfl ?_
              refine s_lif_gt (tgt := 104) X (dk okd_X12_requestTransfer 19 rfl) (by decide) ?_ ?_
              · refine s_run X ok_X12_requestTransfer 34 1 (pc' := 105) (vs' := [some (.ref p0), some (.int p1), some (.int p2), some (.long p3), none]) (st' := [.int 0]) rfl ?_
                exact s_zret0 X hr (dk okd_X12_requestTransfer 23 rfl) (by decide) rfl rfl
              · refine s_run X ok_X12_requestTransfer 29 3 (pc' := 94) (vs' := [some (.ref p0), some (.int p1), some (.int p2), some (.long p3), none]) (st' := [.ref p0, .long (Int32.toInt64 p2)]) rfl ?_
                refine s_getR X fl_X12_9 t0_ (dk okd_X12_requestTransfer 20 rfl) (fun a15 (t16 : tT C a15 14) => ?_)
                refine s_run X ok_X12_requestTransfer 32 1 (pc' := 99) (vs' := [some (.ref p0), some (.int p1), some (.int p2), some (.long p3), none]) (st' := [.int 10, .ref a15, .long (Int32.toInt64 p2)]) rfl ?_
                refine s_lald X t16 (dk okd_X12_requestTransfer 21 rfl) (fun v17 => ?_)
                refine s_run X ok_X12_requestTransfer 33 1 (pc' := 101) (vs' := [some (.ref p0), some (.int p1), some (.int p2), some (.long p3), none]) (st' := [.int (lg_cmp (Int32.toInt64 p2) v17)]) rfl ?_
                refine s_lif_ge (tgt := 106) X (dk okd_X12_requestTransfer 22 rfl) (by decide) ?_ ?_
                · refine s_run X ok_X12_requestTransfer 35 4 (pc' := 111) (vs' := [some (.ref p0), some (.int p1), some (.int p2), some (.long p3), none]) (st' := [.long 1, .int 9, .int p1, .ref p0]) rfl ?_
                  refine s_callV (b := p0) (As := [.int p1, .int 9, .long 1]) (rest := []) X E mv_X12_183 (c_X12_set o11.2 p0 p1 9 1) rfl (ta1 t0_) rfl (by decide) t0_ rfl rfl (Nat.le_of_ble_eq_true rfl) (Nat.le_of_ble_eq_true rfl) (Nat.le_of_ble_eq_true rfl) (dk okd_X12_requestTransfer 24 rfl) (st' := fun S18 => []) (fun _ => rfl) (fun S18 => ?_)
                  refine s_run X ok_X12_requestTransfer 39 5 (pc' := 120) (vs' := [some (.ref p0), some (.int p1), some (.int p2), some (.long p3), none]) (st' := [.long (Int32.toInt64 p2), .int 10, .int p1, .ref p0]) rfl ?_
                  refine s_callV (b := p0) (As := [.int p1, .int 10, .long (Int32.toInt64 p2)]) (rest := []) X E mv_X12_183 (c_X12_set S18 p0 p1 10 (Int32.toInt64 p2)) rfl (ta1 t0_) rfl (by decide) t0_ rfl rfl (Nat.le_of_ble_eq_true rfl) (Nat.le_of_ble_eq_true rfl) (Nat.le_of_ble_eq_true rfl) (dk okd_X12_requestTransfer 25 rfl) (st' := fun S19 => []) (fun _ => rfl) (fun S19 => ?_)
                  refine s_run X ok_X12_requestTransfer 44 4 (pc' := 128) (vs' := [some (.ref p0), some (.int p1), some (.int p2), some (.long p3), none]) (st' := [.long p3, .int 11, .int p1, .ref p0]) rfl ?_
                  refine s_callV (b := p0) (As := [.int p1, .int 11, .long p3]) (rest := []) X E mv_X12_183 (c_X12_set S19 p0 p1 11 p3) rfl (ta1 t0_) rfl (by decide) t0_ rfl rfl (Nat.le_of_ble_eq_true rfl) (Nat.le_of_ble_eq_true rfl) (Nat.le_of_ble_eq_true rfl) (dk okd_X12_requestTransfer 26 rfl) (st' := fun S20 => []) (fun _ => rfl) (fun S20 => ?_)
                  refine s_run X ok_X12_requestTransfer 48 4 (pc' := 136) (vs' := [some (.ref p0), some (.int p1), some (.int p2), some (.long p3), none]) (st' := [.ref p0, .int 12, .int p1, .ref p0]) rfl ?_
                  refine s_getR X fl_X12_9 t0_ (dk okd_X12_requestTransfer 27 rfl) (fun a21 (t22 : tT C a21 14) => ?_)
                  refine s_run X ok_X12_requestTransfer 52 1 (pc' := 140) (vs' := [some (.ref p0), some (.int p1), some (.int p2), some (.long p3), none]) (st' := [.int 0, .ref a21, .int 12, .int p1, .ref p0]) rfl ?_
                  refine s_lald X t22 (dk okd_X12_requestTransfer 28 rfl) (fun v23 => ?_)
                  refine s_callV (b := p0) (As := [.int p1, .int 12, .long v23]) (rest := []) X E mv_X12_183 (c_X12_set S20 p0 p1 12 v23) rfl (ta1 t0_) rfl (by decide) t0_ rfl rfl (Nat.le_of_ble_eq_true rfl) (Nat.le_of_ble_eq_true rfl) (Nat.le_of_ble_eq_true rfl) (dk okd_X12_requestTransfer 29 rfl) (st' := fun S24 => []) (fun _ => rfl) (fun S24 => ?_)
                  refine s_run X ok_X12_requestTransfer 53 4 (pc' := 149) (vs' := [some (.ref p0), some (.int p1), some (.int p2), some (.long p3), none]) (st' := [.long 0, .int 13, .int p1, .ref p0]) rfl ?_
                  refine s_callV (b := p0) (As := [.int p1, .int 13, .long 0]) (rest := []) X E mv_X12_183 (c_X12_set S24 p0 p1 13 0) rfl (ta1 t0_) rfl (by decide) t0_ rfl rfl (Nat.le_of_ble_eq_true rfl) (Nat.le_of_ble_eq_true rfl) (Nat.le_of_ble_eq_true rfl) (dk okd_X12_requestTransfer 30 rfl) (st' := fun S25 => []) (fun _ => rfl) (fun S25 => ?_)
                  refine s_run X ok_X12_requestTransfer 57 4 (pc' := 157) (vs' := [some (.ref p0), some (.int p1), some (.int p2), some (.long p3), none]) (st' := [.long 0, .int 14, .int p1, .ref p0]) rfl ?_
                  refine s_callV (b := p0) (As := [.int p1, .int 14, .long 0]) (rest := []) X E mv_X12_183 (c_X12_set S25 p0 p1 14 0) rfl (ta1 t0_) rfl (by decide) t0_ rfl rfl (Nat.le_of_ble_eq_true rfl) (Nat.le_of_ble_eq_true rfl) (Nat.le_of_ble_eq_true rfl) (dk okd_X12_requestTransfer 31 rfl) (st' := fun S26 => []) (fun _ => rfl) (fun S26 => ?_)
                  refine s_run X ok_X12_requestTransfer 61 4 (pc' := 165) (vs' := [some (.ref p0), some (.int p1), some (.int p2), some (.long p3), none]) (st' := [.long 0, .int 15, .int p1, .ref p0]) rfl ?_
                  refine s_callV (b := p0) (As := [.int p1, .int 15, .long 0]) (rest := []) X E mv_X12_183 (c_X12_set S26 p0 p1 15 0) rfl (ta1 t0_) rfl (by decide) t0_ rfl rfl (Nat.le_of_ble_eq_true rfl) (Nat.le_of_ble_eq_true rfl) (Nat.le_of_ble_eq_true rfl) (dk okd_X12_requestTransfer 32 rfl) (st' := fun S27 => []) (fun _ => rfl) (fun S27 => ?_)
                  refine s_run X ok_X12_requestTransfer 65 1 (pc' := 169) (vs' := [some (.ref p0), some (.int p1), some (.int p2), some (.long p3), none]) (st' := [.int 1]) rfl ?_
                  exact s_zret0 X hr (dk okd_X12_requestTransfer 33 rfl) (by decide) rfl rfl
                · refine s_run X ok_X12_requestTransfer 34 1 (pc' := 105) (vs' := [some (.ref p0), some (.int p1), some (.int p2), some (.long p3), none]) (st' := [.int 0]) rfl ?_
                  exact s_zret0 X hr (dk okd_X12_requestTransfer 23 rfl) (by decide) rfl rfl
        · refine s_run X ok_X12_requestTransfer 19 1 (pc' := 63) (vs' := [some (.ref p0), some (.int p1), some (.int p2), some (.long p3), none]) (st' := [.int 0]) rfl ?_
          exact s_zret0 X hr (dk okd_X12_requestTransfer 13 rfl) (by decide) rfl rfl
      · refine s_jn (κ := Option (Int32 × St)) (fun k28 => Jd C 5 (QJ C oIS sS) o6.2 50 [some (.ref p0), some (.int p1), some (.int p2), some (.long p3), none] [.ref p0] k28) ?_ (fun k28 h29 => ?_)
        · refine s_run X ok_X12_requestTransfer 15 2 (pc' := 55) (vs' := [some (.ref p0), some (.int p1), some (.int p2), some (.long p3), none]) (st' := [.int 1, .ref p0]) rfl ?_
          exact h10 1
        · refine s_if_eq (tgt := 50) X (dk okd_X12_requestTransfer 7 rfl) (by decide) ?_ ?_
          · exact h29
          · refine s_run X ok_X12_requestTransfer 13 2 (pc' := 41) (vs' := [some (.ref p0), some (.int p1), some (.int p2), some (.long p3), none]) (st' := [.long 0, .long p3, .ref p0]) rfl ?_
            refine s_ldc2 X cl_X12_174 (dk okd_X12_requestTransfer 8 rfl) ?_
            refine s_callS (As := [.long p3, .long 0, .long 1000000000]) (rest := [.ref p0]) X E ms_X12_53 (c_X12_inRange o6.2 p3 0 1000000000) rfl (ta0) rfl rfl (Nat.le_of_ble_eq_true rfl) (Nat.le_of_ble_eq_true rfl) (Nat.le_of_ble_eq_true rfl) (dk okd_X12_requestTransfer 9 rfl) (st' := fun v30 => [.int v30, .ref p0]) (fun _ => rfl) (fun v30 => ?_)
            refine s_if_ne (tgt := 54) X (dk okd_X12_requestTransfer 10 rfl) (by decide) ?_ ?_
            · refine s_run X ok_X12_requestTransfer 17 1 (pc' := 55) (vs' := [some (.ref p0), some (.int p1), some (.int p2), some (.long p3), none]) (st' := [.int 0, .ref p0]) rfl ?_
              exact h10 0
            · exact h29
  · refine s_if_ne (tgt := 18) X (dk okd_X12_requestTransfer 2 rfl) (by decide) ?_ ?_
    · refine s_run X ok_X12_requestTransfer 7 1 (pc' := 19) (vs' := [some (.ref p0), some (.int p1), some (.int p2), some (.long p3), none]) (st' := [.int 0, .ref p0]) rfl ?_
      exact h5 0
    · refine s_run X ok_X12_requestTransfer 5 2 (pc' := 19) (vs' := [some (.ref p0), some (.int p1), some (.int p2), some (.long p3), none]) (st' := [.int 1, .ref p0]) rfl ?_
      exact h5 1
def tab_X12_vote : List En := [(0, 8, 0, 0), (1, 0, 0, 0), (5, 8, 0, 0), (6, 8, 0, 0), (7, 4, 1, 0), (14, 0, 0, 1), (15, 41, 19, 0), (18, 0, 0, 0), (19, 0, 0, 1), (26, 8, 0, 0), (27, 4, 2, 0), (28, 31, 0, 0), (29, 3, 0, 0), (39, 0, 0, 1), (40, 41, 44, 0), (43, 0, 0, 0), (44, 0, 0, 2), (51, 0, 0, 0), (53, 8, 0, 0), (54, 4, 1, 0), (55, 1, 0, 9), (60, 3, 1, 0), (61, 40, 0, 0), (65, 8, 0, 0), (66, 4, 1, 0), (67, 1, 0, 13), (72, 4, 2, 0), (73, 35, 0, 0), (74, 3, 1, 0), (75, 26, 0, 0), (76, 3, 1, 0), (77, 40, 0, 0), (81, 0, 0, (-1)), (83, 8, 0, 0), (84, 4, 1, 0), (85, 1, 0, 13), (87, 3, 1, 0), (88, 4, 2, 0), (89, 34, 0, 0), (93, 8, 0, 0), (94, 4, 1, 0), (95, 4, 3, 0), (99, 1, 0, 14), (101, 41, 106, 0), (104, 1, 0, 15), (106, 3, 1, 0), (110, 8, 0, 0), (111, 4, 1, 0), (112, 1, 0, 14), (120, 40, 0, 0), (124, 8, 0, 0), (125, 4, 1, 0), (126, 1, 0, 9), (134, 8, 0, 0), (135, 4, 1, 0), (136, 1, 0, 15), (144, 40, 0, 0), (148, 8, 0, 0), (149, 4, 1, 0), (150, 1, 0, 9), (158, 8, 0, 0), (159, 4, 1, 0), (160, 1, 0, 9), (165, 32, 0, 0)]
theorem ok_X12_vote : tab_X12_vote.all (okE cX12_vote) = true := by decide +kernel
def ed_X12_vote : List (Nat × Instr × Nat) := [(2, .putfield 50, 3), (8, .invokevirtual 85, 3), (11, .ifCond .ne 7, 3), (20, .invokevirtual 81, 3), (23, .ifCond .ne 28, 3), (30, .ldc2_w 222, 3), (33, .invokestatic 53, 3), (36, .ifCond .ne 7, 3), (45, .invokevirtual 81, 3), (48, .ifCond .eq 5, 3), (52, .ireturn, 1), (57, .invokevirtual 63, 3), (62, .ifCond .ne 19, 3), (69, .invokevirtual 63, 3), (78, .ifCond .ne 5, 3), (82, .ireturn, 1), (90, .invokevirtual 224, 3), (96, .ifCond .eq 8, 3), (107, .invokevirtual 224, 3), (114, .invokevirtual 63, 3), (117, .ldc2_w 244, 3), (121, .ifCond .ne 13, 3), (128, .ldc2_w 220, 3), (131, .invokevirtual 183, 3), (138, .invokevirtual 63, 3), (141, .ldc2_w 244, 3), (145, .ifCond .ne 13, 3), (152, .ldc2_w 244, 3), (155, .invokevirtual 183, 3), (162, .invokevirtual 63, 3), (166, .ireturn, 1)]
theorem okd_X12_vote : ed_X12_vote.all (okD cX12_vote) = true := by decide +kernel
def f_X12_vote (S : St) (p0 : Nat) (p1 : Int32) (p2 : Int32) (p3 : Int32) : Option (Int32 × St) := lt (uI S p0 2 0) fun (S1 : St) => cl (f_X12_isFranchisee S1 p0 p1) fun (v2 : Int32) => jn (κ := Int32 → Option (Int32 × St)) (fun x3 => cl (f_X12_throwsIf S1 p0 x3 1) fun (o6 : Int32 × St) => if o6.1 = 0 then (cl (f_X12_inRange o6.2 (Int32.toInt64 p2) 0 4) fun (v7 : Int32) => jn (κ := Int32 → Option (Int32 × St)) (fun x8 => cl (f_X12_throwsIf o6.2 p0 x8 2) fun (o11 : Int32 × St) => if o11.1 = 0 then (cl (f_X12_of o11.2 p0 p1 9) fun (v12 : Int64) => if v12 = 1 then (cl (f_X12_of o11.2 p0 p1 13) fun (v13 : Int64) => if ((v13 >>> ((Int32.toInt64 p2) &&& 63)) &&& 1) = 1 then (some ((-1), o11.2)) else (cl (f_X12_add o11.2 p0 p1 13 (1 <<< ((Int32.toInt64 p2) &&& 63))) fun (S14 : St) => jn (κ := Int32 → Option (Int32 × St)) (fun x15 => cl (f_X12_add S14 p0 p1 x15 1) fun (S18 : St) => cl (f_X12_of S18 p0 p1 14) fun (v19 : Int64) => jn (κ := St → Option (Int32 × St)) (fun S20 => cl (f_X12_of S20 p0 p1 15) fun (v23 : Int64) => jn (κ := St → Option (Int32 × St)) (fun S24 => cl (f_X12_of S24 p0 p1 9) fun (v27 : Int64) => some ((Int64.toInt32 v27), S24)) fun k25 => if v23 = 3 then (cl (f_X12_set S20 p0 p1 9 3) fun (S28 : St) => k25 S28) else (k25 S20)) fun k21 => if v19 = 3 then (cl (f_X12_set S18 p0 p1 9 2) fun (S29 : St) => k21 S29) else (k21 S18)) fun k16 => if p3 = 0 then (k16 15) else (k16 14))) else (some ((-1), o11.2))) else (some (0, o11.2))) fun k9 => if v7 = 0 then (k9 1) else (k9 0)) else (some (0, o6.2))) fun k4 => if v2 = 0 then (k4 1) else (k4 0)
set_option maxHeartbeats 4000000 in
set_option maxRecDepth 100000 in
theorem c_X12_vote (S : St) (p0 : Nat) (p1 : Int32) (p2 : Int32) (p3 : Int32) : Ct yX12_vote cX12_vote 4 (some .int) 2 46 (fun _ => [.ref p0, .int p1, .int p2, .int p3]) [(p0, 11)] S (f_X12_vote S p0 p1 p2 p3) oIS sS := by
  refine Ct_of RX12 rfl (by decide) (fun _ => Nat.le_of_ble_eq_true rfl) 0 (vs := fun _ => [some (.ref p0), some (.int p1), some (.int p2), some (.int p3)]) (fun _ => rfl) (fun C X E hr ht => ?_)
  have t0_ : tT C p0 11 := ht (p0, 11) (by simp)
  show Jd C 4 (QJ C oIS sS) S 0 [some (.ref p0), some (.int p1), some (.int p2), some (.int p3)] [] (f_X12_vote S p0 p1 p2 p3)
  unfold f_X12_vote
  refine s_run X ok_X12_vote 0 2 (pc' := 2) (vs' := [some (.ref p0), some (.int p1), some (.int p2), some (.int p3)]) (st' := [.int 0, .ref p0]) rfl ?_
  refine s_putI X fp_X12_50 t0_ (dk okd_X12_vote 0 rfl) (fun S1 => ?_)
  refine s_run X ok_X12_vote 2 3 (pc' := 8) (vs' := [some (.ref p0), some (.int p1), some (.int p2), some (.int p3)]) (st' := [.int p1, .ref p0, .ref p0]) rfl ?_
  refine s_callV (b := p0) (As := [.int p1]) (rest := [.ref p0]) X E mv_X12_85 (c_X12_isFranchisee S1 p0 p1) rfl (ta1 t0_) rfl (by decide) t0_ rfl rfl (Nat.le_of_ble_eq_true rfl) (Nat.le_of_ble_eq_true rfl) (Nat.le_of_ble_eq_true rfl) (dk okd_X12_vote 1 rfl) (st' := fun v2 => [.int v2, .ref p0]) (fun _ => rfl) (fun v2 => ?_)
  refine s_jn (κ := Int32 → Option (Int32 × St)) (fun k4 => ∀ (x3 : Int32), Jd C 4 (QJ C oIS sS) S1 19 [some (.ref p0), some (.int p1), some (.int p2), some (.int p3)] [.int x3, .ref p0] (k4 x3)) (fun x3 => ?_) (fun k4 h5 => ?_)
  · refine s_run X ok_X12_vote 8 1 (pc' := 20) (vs' := [some (.ref p0), some (.int p1), some (.int p2), some (.int p3)]) (st' := [.int 1, .int x3, .ref p0]) rfl ?_
    refine s_callV (b := p0) (As := [.int x3, .int 1]) (rest := []) X E mv_X12_81 (c_X12_throwsIf S1 p0 x3 1) rfl (ta1 t0_) rfl (by decide) t0_ rfl rfl (Nat.le_of_ble_eq_true rfl) (Nat.le_of_ble_eq_true rfl) (Nat.le_of_ble_eq_true rfl) (dk okd_X12_vote 3 rfl) (st' := fun o6 => [.int o6.1]) (fun _ => rfl) (fun o6 => ?_)
    refine s_if_ne (tgt := 51) X (dk okd_X12_vote 4 rfl) (by decide) ?_ ?_
    · refine s_run X ok_X12_vote 17 1 (pc' := 52) (vs' := [some (.ref p0), some (.int p1), some (.int p2), some (.int p3)]) (st' := [.int 0]) rfl ?_
      exact s_iret X hr (dk okd_X12_vote 10 rfl) rfl rfl
    · refine s_run X ok_X12_vote 9 4 (pc' := 30) (vs' := [some (.ref p0), some (.int p1), some (.int p2), some (.int p3)]) (st' := [.long 0, .long (Int32.toInt64 p2), .ref p0]) rfl ?_
      refine s_ldc2 X cl_X12_222 (dk okd_X12_vote 5 rfl) ?_
      refine s_callS (As := [.long (Int32.toInt64 p2), .long 0, .long 4]) (rest := [.ref p0]) X E ms_X12_53 (c_X12_inRange o6.2 (Int32.toInt64 p2) 0 4) rfl (ta0) rfl rfl (Nat.le_of_ble_eq_true rfl) (Nat.le_of_ble_eq_true rfl) (Nat.le_of_ble_eq_true rfl) (dk okd_X12_vote 6 rfl) (st' := fun v7 => [.int v7, .ref p0]) (fun _ => rfl) (fun v7 => ?_)
      refine s_jn (κ := Int32 → Option (Int32 × St)) (fun k9 => ∀ (x8 : Int32), Jd C 4 (QJ C oIS sS) o6.2 44 [some (.ref p0), some (.int p1), some (.int p2), some (.int p3)] [.int x8, .ref p0] (k9 x8)) (fun x8 => ?_) (fun k9 h10 => ?_)
      · refine s_run X ok_X12_vote 16 1 (pc' := 45) (vs' := [some (.ref p0), some (.int p1), some (.int p2), some (.int p3)]) (st' := [.int 2, .int x8, .ref p0]) rfl ?_
        refine s_callV (b := p0) (As := [.int x8, .int 2]) (rest := []) X E mv_X12_81 (c_X12_throwsIf o6.2 p0 x8 2) rfl (ta1 t0_) rfl (by decide) t0_ rfl rfl (Nat.le_of_ble_eq_true rfl) (Nat.le_of_ble_eq_true rfl) (Nat.le_of_ble_eq_true rfl) (dk okd_X12_vote 8 rfl) (st' := fun o11 => [.int o11.1]) (fun _ => rfl) (fun o11 => ?_)
        refine s_if_eq (tgt := 53) X (dk okd_X12_vote 9 rfl) (by decide) ?_ ?_
        · refine s_run X ok_X12_vote 18 3 (pc' := 57) (vs' := [some (.ref p0), some (.int p1), some (.int p2), some (.int p3)]) (st' := [.int 9, .int p1, .ref p0]) rfl ?_
          refine s_callV (b := p0) (As := [.int p1, .int 9]) (rest := []) X E mv_X12_63 (c_X12_of o11.2 p0 p1 9) rfl (ta1 t0_) rfl (by decide) t0_ rfl rfl (Nat.le_of_ble_eq_true rfl) (Nat.le_of_ble_eq_true rfl) (Nat.le_of_ble_eq_true rfl) (dk okd_X12_vote 11 rfl) (st' := fun v12 => [.long v12]) (fun _ => rfl) (fun v12 => ?_)
          refine s_run X ok_X12_vote 21 2 (pc' := 62) (vs' := [some (.ref p0), some (.int p1), some (.int p2), some (.int p3)]) (st' := [.int (lg_cmp v12 1)]) rfl ?_
          refine s_lif_ne (tgt := 81) X (dk okd_X12_vote 12 rfl) (by decide) ?_ ?_
          · refine s_run X ok_X12_vote 32 1 (pc' := 82) (vs' := [some (.ref p0), some (.int p1), some (.int p2), some (.int p3)]) (st' := [.int (-1)]) rfl ?_
            exact s_iret X hr (dk okd_X12_vote 15 rfl) rfl rfl
          · refine s_run X ok_X12_vote 23 3 (pc' := 69) (vs' := [some (.ref p0), some (.int p1), some (.int p2), some (.int p3)]) (st' := [.int 13, .int p1, .ref p0]) rfl ?_
            refine s_callV (b := p0) (As := [.int p1, .int 13]) (rest := []) X E mv_X12_63 (c_X12_of o11.2 p0 p1 13) rfl (ta1 t0_) rfl (by decide) t0_ rfl rfl (Nat.le_of_ble_eq_true rfl) (Nat.le_of_ble_eq_true rfl) (Nat.le_of_ble_eq_true rfl) (dk okd_X12_vote 13 rfl) (st' := fun v13 => [.long v13]) (fun _ => rfl) (fun v13 => ?_)
            refine s_run X ok_X12_vote 26 6 (pc' := 78) (vs' := [some (.ref p0), some (.int p1), some (.int p2), some (.int p3)]) (st' := [.int (lg_cmp ((v13 >>> ((Int32.toInt64 p2) &&& 63)) &&& 1) 1)]) rfl ?_
            refine s_lif_ne (tgt := 83) X (dk okd_X12_vote 14 rfl) (by decide) ?_ ?_
            · refine s_run X ok_X12_vote 33 6 (pc' := 90) (vs' := [some (.ref p0), some (.int p1), some (.int p2), some (.int p3)]) (st' := [.long (1 <<< ((Int32.toInt64 p2) &&& 63)), .int 13, .int p1, .ref p0]) rfl ?_
              refine s_callV (b := p0) (As := [.int p1, .int 13, .long (1 <<< ((Int32.toInt64 p2) &&& 63))]) (rest := []) X E mv_X12_224 (c_X12_add o11.2 p0 p1 13 (1 <<< ((Int32.toInt64 p2) &&& 63))) rfl (ta1 t0_) rfl (by decide) t0_ rfl rfl (Nat.le_of_ble_eq_true rfl) (Nat.le_of_ble_eq_true rfl) (Nat.le_of_ble_eq_true rfl) (dk okd_X12_vote 16 rfl) (st' := fun S14 => []) (fun _ => rfl) (fun S14 => ?_)
              refine s_run X ok_X12_vote 39 3 (pc' := 96) (vs' := [some (.ref p0), some (.int p1), some (.int p2), some (.int p3)]) (st' := [.int p3, .int p1, .ref p0]) rfl ?_
              refine s_jn (κ := Int32 → Option (Int32 × St)) (fun k16 => ∀ (x15 : Int32), Jd C 4 (QJ C oIS sS) S14 106 [some (.ref p0), some (.int p1), none, none] [.int x15, .int p1, .ref p0] (k16 x15)) (fun x15 => ?_) (fun k16 h17 => ?_)
              · refine s_run X ok_X12_vote 45 1 (pc' := 107) (vs' := [some (.ref p0), some (.int p1), none, none]) (st' := [.long 1, .int x15, .int p1, .ref p0]) rfl ?_
                refine s_callV (b := p0) (As := [.int p1, .int x15, .long 1]) (rest := []) X E mv_X12_224 (c_X12_add S14 p0 p1 x15 1) rfl (ta1 t0_) rfl (by decide) t0_ rfl rfl (Nat.le_of_ble_eq_true rfl) (Nat.le_of_ble_eq_true rfl) (Nat.le_of_ble_eq_true rfl) (dk okd_X12_vote 18 rfl) (st' := fun S18 => []) (fun _ => rfl) (fun S18 => ?_)
                refine s_run X ok_X12_vote 46 3 (pc' := 114) (vs' := [some (.ref p0), some (.int p1), none, none]) (st' := [.int 14, .int p1, .ref p0]) rfl ?_
                refine s_callV (b := p0) (As := [.int p1, .int 14]) (rest := []) X E mv_X12_63 (c_X12_of S18 p0 p1 14) rfl (ta1 t0_) rfl (by decide) t0_ rfl rfl (Nat.le_of_ble_eq_true rfl) (Nat.le_of_ble_eq_true rfl) (Nat.le_of_ble_eq_true rfl) (dk okd_X12_vote 19 rfl) (st' := fun v19 => [.long v19]) (fun _ => rfl) (fun v19 => ?_)
                refine s_ldc2 X cl_X12_244 (dk okd_X12_vote 20 rfl) ?_
                refine s_run X ok_X12_vote 49 1 (pc' := 121) (vs' := [some (.ref p0), some (.int p1), none, none]) (st' := [.int (lg_cmp v19 3)]) rfl ?_
                refine s_jn (κ := St → Option (Int32 × St)) (fun k21 => ∀ (S20 : St), Jd C 4 (QJ C oIS sS) S20 134 [some (.ref p0), some (.int p1), none, none] [] (k21 S20)) (fun S20 => ?_) (fun k21 h22 => ?_)
                · refine s_run X ok_X12_vote 53 3 (pc' := 138) (vs' := [some (.ref p0), some (.int p1), none, none]) (st' := [.int 15, .int p1, .ref p0]) rfl ?_
                  refine s_callV (b := p0) (As := [.int p1, .int 15]) (rest := []) X E mv_X12_63 (c_X12_of S20 p0 p1 15) rfl (ta1 t0_) rfl (by decide) t0_ rfl rfl (Nat.le_of_ble_eq_true rfl) (Nat.le_of_ble_eq_true rfl) (Nat.le_of_ble_eq_true rfl) (dk okd_X12_vote 24 rfl) (st' := fun v23 => [.long v23]) (fun _ => rfl) (fun v23 => ?_)
                  refine s_ldc2 X cl_X12_244 (dk okd_X12_vote 25 rfl) ?_
                  refine s_run X ok_X12_vote 56 1 (pc' := 145) (vs' := [some (.ref p0), some (.int p1), none, none]) (st' := [.int (lg_cmp v23 3)]) rfl ?_
                  refine s_jn (κ := St → Option (Int32 × St)) (fun k25 => ∀ (S24 : St), Jd C 4 (QJ C oIS sS) S24 158 [some (.ref p0), some (.int p1), none, none] [] (k25 S24)) (fun S24 => ?_) (fun k25 h26 => ?_)
                  · refine s_run X ok_X12_vote 60 3 (pc' := 162) (vs' := [some (.ref p0), some (.int p1), none, none]) (st' := [.int 9, .int p1, .ref p0]) rfl ?_
                    refine s_callV (b := p0) (As := [.int p1, .int 9]) (rest := []) X E mv_X12_63 (c_X12_of S24 p0 p1 9) rfl (ta1 t0_) rfl (by decide) t0_ rfl rfl (Nat.le_of_ble_eq_true rfl) (Nat.le_of_ble_eq_true rfl) (Nat.le_of_ble_eq_true rfl) (dk okd_X12_vote 29 rfl) (st' := fun v27 => [.long v27]) (fun _ => rfl) (fun v27 => ?_)
                    refine s_run X ok_X12_vote 63 1 (pc' := 166) (vs' := [some (.ref p0), some (.int p1), none, none]) (st' := [.int (Int64.toInt32 v27)]) rfl ?_
                    exact s_iret X hr (dk okd_X12_vote 30 rfl) rfl rfl
                  · refine s_lif_ne (tgt := 158) X (dk okd_X12_vote 26 rfl) (by decide) ?_ ?_
                    · exact h26 S20
                    · refine s_run X ok_X12_vote 57 3 (pc' := 152) (vs' := [some (.ref p0), some (.int p1), none, none]) (st' := [.int 9, .int p1, .ref p0]) rfl ?_
                      refine s_ldc2 X cl_X12_244 (dk okd_X12_vote 27 rfl) ?_
                      refine s_callV (b := p0) (As := [.int p1, .int 9, .long 3]) (rest := []) X E mv_X12_183 (c_X12_set S20 p0 p1 9 3) rfl (ta1 t0_) rfl (by decide) t0_ rfl rfl (Nat.le_of_ble_eq_true rfl) (Nat.le_of_ble_eq_true rfl) (Nat.le_of_ble_eq_true rfl) (dk okd_X12_vote 28 rfl) (st' := fun S28 => []) (fun _ => rfl) (fun S28 => ?_)
                      exact h26 S28
                · refine s_lif_ne (tgt := 134) X (dk okd_X12_vote 21 rfl) (by decide) ?_ ?_
                  · exact h22 S18
                  · refine s_run X ok_X12_vote 50 3 (pc' := 128) (vs' := [some (.ref p0), some (.int p1), none, none]) (st' := [.int 9, .int p1, .ref p0]) rfl ?_
                    refine s_ldc2 X cl_X12_220 (dk okd_X12_vote 22 rfl) ?_
                    refine s_callV (b := p0) (As := [.int p1, .int 9, .long 2]) (rest := []) X E mv_X12_183 (c_X12_set S18 p0 p1 9 2) rfl (ta1 t0_) rfl (by decide) t0_ rfl rfl (Nat.le_of_ble_eq_true rfl) (Nat.le_of_ble_eq_true rfl) (Nat.le_of_ble_eq_true rfl) (dk okd_X12_vote 23 rfl) (st' := fun S29 => []) (fun _ => rfl) (fun S29 => ?_)
                    exact h22 S29
              · refine s_if_eq (tgt := 104) X (dk okd_X12_vote 17 rfl) (by decide) ?_ ?_
                · refine s_run X ok_X12_vote 44 1 (pc' := 106) (vs' := [some (.ref p0), some (.int p1), some (.int p2), some (.int p3)]) (st' := [.int 15, .int p1, .ref p0]) rfl ?_
                  exact s_less [true, true, false, false] rfl (h17 15)
                · refine s_run X ok_X12_vote 42 2 (pc' := 106) (vs' := [some (.ref p0), some (.int p1), some (.int p2), some (.int p3)]) (st' := [.int 14, .int p1, .ref p0]) rfl ?_
                  exact s_less [true, true, false, false] rfl (h17 14)
            · refine s_run X ok_X12_vote 32 1 (pc' := 82) (vs' := [some (.ref p0), some (.int p1), some (.int p2), some (.int p3)]) (st' := [.int (-1)]) rfl ?_
              exact s_iret X hr (dk okd_X12_vote 15 rfl) rfl rfl
        · refine s_run X ok_X12_vote 17 1 (pc' := 52) (vs' := [some (.ref p0), some (.int p1), some (.int p2), some (.int p3)]) (st' := [.int 0]) rfl ?_
          exact s_iret X hr (dk okd_X12_vote 10 rfl) rfl rfl
      · refine s_if_ne (tgt := 43) X (dk okd_X12_vote 7 rfl) (by decide) ?_ ?_
        · refine s_run X ok_X12_vote 15 1 (pc' := 44) (vs' := [some (.ref p0), some (.int p1), some (.int p2), some (.int p3)]) (st' := [.int 0, .ref p0]) rfl ?_
          exact h10 0
        · refine s_run X ok_X12_vote 13 2 (pc' := 44) (vs' := [some (.ref p0), some (.int p1), some (.int p2), some (.int p3)]) (st' := [.int 1, .ref p0]) rfl ?_
          exact h10 1
  · refine s_if_ne (tgt := 18) X (dk okd_X12_vote 2 rfl) (by decide) ?_ ?_
    · refine s_run X ok_X12_vote 7 1 (pc' := 19) (vs' := [some (.ref p0), some (.int p1), some (.int p2), some (.int p3)]) (st' := [.int 0, .ref p0]) rfl ?_
      exact h5 0
    · refine s_run X ok_X12_vote 5 2 (pc' := 19) (vs' := [some (.ref p0), some (.int p1), some (.int p2), some (.int p3)]) (st' := [.int 1, .ref p0]) rfl ?_
      exact h5 1
def tab_X12_exercise : List En := [(0, 8, 0, 0), (1, 0, 0, 0), (5, 8, 0, 0), (6, 8, 0, 0), (7, 4, 1, 0), (14, 0, 0, 1), (15, 41, 19, 0), (18, 0, 0, 0), (19, 0, 0, 1), (26, 8, 0, 0), (27, 4, 1, 0), (34, 8, 0, 0), (35, 4, 1, 0), (42, 0, 0, 0), (44, 8, 0, 0), (45, 4, 1, 0), (46, 0, 0, 3), (53, 8, 0, 0), (54, 4, 1, 0), (55, 1, 0, 9), (63, 8, 0, 0), (64, 4, 1, 0), (65, 0, 0, 4), (66, 8, 0, 0), (67, 4, 1, 0), (68, 1, 0, 11), (73, 28, 0, 0), (77, 0, 0, 1)]
theorem ok_X12_exercise : tab_X12_exercise.all (okE cX12_exercise) = true := by decide +kernel
def ed_X12_exercise : List (Nat × Instr × Nat) := [(2, .putfield 50, 3), (8, .invokevirtual 85, 3), (11, .ifCond .ne 7, 3), (20, .invokevirtual 81, 3), (23, .ifCond .ne 19, 3), (28, .invokevirtual 246, 3), (31, .ifCond .eq 11, 3), (36, .invokevirtual 234, 3), (39, .ifCond .eq 5, 3), (43, .ireturn, 1), (47, .ldc2_w 220, 3), (50, .invokevirtual 183, 3), (57, .ldc2_w 264, 3), (60, .invokevirtual 183, 3), (70, .invokevirtual 63, 3), (74, .invokevirtual 224, 3), (78, .ireturn, 1)]
theorem okd_X12_exercise : ed_X12_exercise.all (okD cX12_exercise) = true := by decide +kernel
def f_X12_exercise (S : St) (p0 : Nat) (p1 : Int32) : Option (Int32 × St) := lt (uI S p0 2 0) fun (S1 : St) => cl (f_X12_isFranchisee S1 p0 p1) fun (v2 : Int32) => jn (κ := Int32 → Option (Int32 × St)) (fun x3 => cl (f_X12_throwsIf S1 p0 x3 1) fun (o6 : Int32 × St) => if o6.1 = 0 then (cl (f_X12_isOpenTransfer o6.2 p0 p1) fun (v7 : Int32) => if v7 = 0 then (some (0, o6.2)) else (cl (f_X12_isDelayOver o6.2 p0 p1) fun (v8 : Int32) => if v8 = 0 then (cl (f_X12_set o6.2 p0 p1 3 2) fun (S9 : St) => cl (f_X12_set S9 p0 p1 9 5) fun (S10 : St) => cl (f_X12_of S10 p0 p1 11) fun (v11 : Int64) => cl (f_X12_add S10 p0 p1 4 (-v11)) fun (S12 : St) => some (1, S12)) else (some (0, o6.2)))) else (some (0, o6.2))) fun k4 => if v2 = 0 then (k4 1) else (k4 0)
set_option maxHeartbeats 4000000 in
set_option maxRecDepth 100000 in
theorem c_X12_exercise (S : St) (p0 : Nat) (p1 : Int32) : Ct yX12_exercise cX12_exercise 2 (some .boolean) 2 46 (fun _ => [.ref p0, .int p1]) [(p0, 11)] S (f_X12_exercise S p0 p1) oIS sS := by
  refine Ct_of RX12 rfl (by decide) (fun _ => Nat.le_of_ble_eq_true rfl) 0 (vs := fun _ => [some (.ref p0), some (.int p1)]) (fun _ => rfl) (fun C X E hr ht => ?_)
  have t0_ : tT C p0 11 := ht (p0, 11) (by simp)
  show Jd C 2 (QJ C oIS sS) S 0 [some (.ref p0), some (.int p1)] [] (f_X12_exercise S p0 p1)
  unfold f_X12_exercise
  refine s_run X ok_X12_exercise 0 2 (pc' := 2) (vs' := [some (.ref p0), some (.int p1)]) (st' := [.int 0, .ref p0]) rfl ?_
  refine s_putI X fp_X12_50 t0_ (dk okd_X12_exercise 0 rfl) (fun S1 => ?_)
  refine s_run X ok_X12_exercise 2 3 (pc' := 8) (vs' := [some (.ref p0), some (.int p1)]) (st' := [.int p1, .ref p0, .ref p0]) rfl ?_
  refine s_callV (b := p0) (As := [.int p1]) (rest := [.ref p0]) X E mv_X12_85 (c_X12_isFranchisee S1 p0 p1) rfl (ta1 t0_) rfl (by decide) t0_ rfl rfl (Nat.le_of_ble_eq_true rfl) (Nat.le_of_ble_eq_true rfl) (Nat.le_of_ble_eq_true rfl) (dk okd_X12_exercise 1 rfl) (st' := fun v2 => [.int v2, .ref p0]) (fun _ => rfl) (fun v2 => ?_)
  refine s_jn (κ := Int32 → Option (Int32 × St)) (fun k4 => ∀ (x3 : Int32), Jd C 2 (QJ C oIS sS) S1 19 [some (.ref p0), some (.int p1)] [.int x3, .ref p0] (k4 x3)) (fun x3 => ?_) (fun k4 h5 => ?_)
  · refine s_run X ok_X12_exercise 8 1 (pc' := 20) (vs' := [some (.ref p0), some (.int p1)]) (st' := [.int 1, .int x3, .ref p0]) rfl ?_
    refine s_callV (b := p0) (As := [.int x3, .int 1]) (rest := []) X E mv_X12_81 (c_X12_throwsIf S1 p0 x3 1) rfl (ta1 t0_) rfl (by decide) t0_ rfl rfl (Nat.le_of_ble_eq_true rfl) (Nat.le_of_ble_eq_true rfl) (Nat.le_of_ble_eq_true rfl) (dk okd_X12_exercise 3 rfl) (st' := fun o6 => [.int o6.1]) (fun _ => rfl) (fun o6 => ?_)
    refine s_if_ne (tgt := 42) X (dk okd_X12_exercise 4 rfl) (by decide) ?_ ?_
    · refine s_run X ok_X12_exercise 13 1 (pc' := 43) (vs' := [some (.ref p0), some (.int p1)]) (st' := [.int 0]) rfl ?_
      exact s_zret0 X hr (dk okd_X12_exercise 9 rfl) (by decide) rfl rfl
    · refine s_run X ok_X12_exercise 9 2 (pc' := 28) (vs' := [some (.ref p0), some (.int p1)]) (st' := [.int p1, .ref p0]) rfl ?_
      refine s_callV (b := p0) (As := [.int p1]) (rest := []) X E mv_X12_246 (c_X12_isOpenTransfer o6.2 p0 p1) rfl (ta1 t0_) rfl (by decide) t0_ rfl rfl (Nat.le_of_ble_eq_true rfl) (Nat.le_of_ble_eq_true rfl) (Nat.le_of_ble_eq_true rfl) (dk okd_X12_exercise 5 rfl) (st' := fun v7 => [.int v7]) (fun _ => rfl) (fun v7 => ?_)
      refine s_if_eq (tgt := 42) X (dk okd_X12_exercise 6 rfl) (by decide) ?_ ?_
      · refine s_run X ok_X12_exercise 13 1 (pc' := 43) (vs' := [some (.ref p0), some (.int p1)]) (st' := [.int 0]) rfl ?_
        exact s_zret0 X hr (dk okd_X12_exercise 9 rfl) (by decide) rfl rfl
      · refine s_run X ok_X12_exercise 11 2 (pc' := 36) (vs' := [some (.ref p0), some (.int p1)]) (st' := [.int p1, .ref p0]) rfl ?_
        refine s_callV (b := p0) (As := [.int p1]) (rest := []) X E mv_X12_234 (c_X12_isDelayOver o6.2 p0 p1) rfl (ta1 t0_) rfl (by decide) t0_ rfl rfl (Nat.le_of_ble_eq_true rfl) (Nat.le_of_ble_eq_true rfl) (Nat.le_of_ble_eq_true rfl) (dk okd_X12_exercise 7 rfl) (st' := fun v8 => [.int v8]) (fun _ => rfl) (fun v8 => ?_)
        refine s_if_eq (tgt := 44) X (dk okd_X12_exercise 8 rfl) (by decide) ?_ ?_
        · refine s_run X ok_X12_exercise 14 3 (pc' := 47) (vs' := [some (.ref p0), some (.int p1)]) (st' := [.int 3, .int p1, .ref p0]) rfl ?_
          refine s_ldc2 X cl_X12_220 (dk okd_X12_exercise 10 rfl) ?_
          refine s_callV (b := p0) (As := [.int p1, .int 3, .long 2]) (rest := []) X E mv_X12_183 (c_X12_set o6.2 p0 p1 3 2) rfl (ta1 t0_) rfl (by decide) t0_ rfl rfl (Nat.le_of_ble_eq_true rfl) (Nat.le_of_ble_eq_true rfl) (Nat.le_of_ble_eq_true rfl) (dk okd_X12_exercise 11 rfl) (st' := fun S9 => []) (fun _ => rfl) (fun S9 => ?_)
          refine s_run X ok_X12_exercise 17 3 (pc' := 57) (vs' := [some (.ref p0), some (.int p1)]) (st' := [.int 9, .int p1, .ref p0]) rfl ?_
          refine s_ldc2 X cl_X12_264 (dk okd_X12_exercise 12 rfl) ?_
          refine s_callV (b := p0) (As := [.int p1, .int 9, .long 5]) (rest := []) X E mv_X12_183 (c_X12_set S9 p0 p1 9 5) rfl (ta1 t0_) rfl (by decide) t0_ rfl rfl (Nat.le_of_ble_eq_true rfl) (Nat.le_of_ble_eq_true rfl) (Nat.le_of_ble_eq_true rfl) (dk okd_X12_exercise 13 rfl) (st' := fun S10 => []) (fun _ => rfl) (fun S10 => ?_)
          refine s_run X ok_X12_exercise 20 6 (pc' := 70) (vs' := [some (.ref p0), some (.int p1)]) (st' := [.int 11, .int p1, .ref p0, .int 4, .int p1, .ref p0]) rfl ?_
          refine s_callV (b := p0) (As := [.int p1, .int 11]) (rest := [.int 4, .int p1, .ref p0]) X E mv_X12_63 (c_X12_of S10 p0 p1 11) rfl (ta1 t0_) rfl (by decide) t0_ rfl rfl (Nat.le_of_ble_eq_true rfl) (Nat.le_of_ble_eq_true rfl) (Nat.le_of_ble_eq_true rfl) (dk okd_X12_exercise 14 rfl) (st' := fun v11 => [.long v11, .int 4, .int p1, .ref p0]) (fun _ => rfl) (fun v11 => ?_)
          refine s_run X ok_X12_exercise 26 1 (pc' := 74) (vs' := [some (.ref p0), some (.int p1)]) (st' := [.long (-v11), .int 4, .int p1, .ref p0]) rfl ?_
          refine s_callV (b := p0) (As := [.int p1, .int 4, .long (-v11)]) (rest := []) X E mv_X12_224 (c_X12_add S10 p0 p1 4 (-v11)) rfl (ta1 t0_) rfl (by decide) t0_ rfl rfl (Nat.le_of_ble_eq_true rfl) (Nat.le_of_ble_eq_true rfl) (Nat.le_of_ble_eq_true rfl) (dk okd_X12_exercise 15 rfl) (st' := fun S12 => []) (fun _ => rfl) (fun S12 => ?_)
          refine s_run X ok_X12_exercise 27 1 (pc' := 78) (vs' := [some (.ref p0), some (.int p1)]) (st' := [.int 1]) rfl ?_
          exact s_zret0 X hr (dk okd_X12_exercise 16 rfl) (by decide) rfl rfl
        · refine s_run X ok_X12_exercise 13 1 (pc' := 43) (vs' := [some (.ref p0), some (.int p1)]) (st' := [.int 0]) rfl ?_
          exact s_zret0 X hr (dk okd_X12_exercise 9 rfl) (by decide) rfl rfl
  · refine s_if_ne (tgt := 18) X (dk okd_X12_exercise 2 rfl) (by decide) ?_ ?_
    · refine s_run X ok_X12_exercise 7 1 (pc' := 19) (vs' := [some (.ref p0), some (.int p1)]) (st' := [.int 0, .ref p0]) rfl ?_
      exact h5 0
    · refine s_run X ok_X12_exercise 5 2 (pc' := 19) (vs' := [some (.ref p0), some (.int p1)]) (st' := [.int 1, .ref p0]) rfl ?_
      exact h5 1
def tab_X12_withdraw : List En := [(0, 8, 0, 0), (1, 0, 0, 0), (5, 8, 0, 0), (6, 8, 0, 0), (7, 4, 1, 0), (14, 0, 0, 1), (15, 41, 19, 0), (18, 0, 0, 0), (19, 0, 0, 1), (26, 8, 0, 0), (27, 4, 1, 0), (34, 0, 0, 0), (36, 8, 0, 0), (37, 4, 1, 0), (38, 1, 0, 9), (40, 3, 0, 0), (44, 0, 0, 1)]
theorem ok_X12_withdraw : tab_X12_withdraw.all (okE cX12_withdraw) = true := by decide +kernel
def ed_X12_withdraw : List (Nat × Instr × Nat) := [(2, .putfield 50, 3), (8, .invokevirtual 85, 3), (11, .ifCond .ne 7, 3), (20, .invokevirtual 81, 3), (23, .ifCond .ne 11, 3), (28, .invokevirtual 246, 3), (31, .ifCond .ne 5, 3), (35, .ireturn, 1), (41, .invokevirtual 183, 3), (45, .ireturn, 1)]
theorem okd_X12_withdraw : ed_X12_withdraw.all (okD cX12_withdraw) = true := by decide +kernel
def f_X12_withdraw (S : St) (p0 : Nat) (p1 : Int32) : Option (Int32 × St) := lt (uI S p0 2 0) fun (S1 : St) => cl (f_X12_isFranchisee S1 p0 p1) fun (v2 : Int32) => jn (κ := Int32 → Option (Int32 × St)) (fun x3 => cl (f_X12_throwsIf S1 p0 x3 1) fun (o6 : Int32 × St) => if o6.1 = 0 then (cl (f_X12_isOpenTransfer o6.2 p0 p1) fun (v7 : Int32) => if v7 = 0 then (some (0, o6.2)) else (cl (f_X12_set o6.2 p0 p1 9 0) fun (S8 : St) => some (1, S8))) else (some (0, o6.2))) fun k4 => if v2 = 0 then (k4 1) else (k4 0)
set_option maxHeartbeats 4000000 in
set_option maxRecDepth 100000 in
theorem c_X12_withdraw (S : St) (p0 : Nat) (p1 : Int32) : Ct yX12_withdraw cX12_withdraw 2 (some .boolean) 2 46 (fun _ => [.ref p0, .int p1]) [(p0, 11)] S (f_X12_withdraw S p0 p1) oIS sS := by
  refine Ct_of RX12 rfl (by decide) (fun _ => Nat.le_of_ble_eq_true rfl) 0 (vs := fun _ => [some (.ref p0), some (.int p1)]) (fun _ => rfl) (fun C X E hr ht => ?_)
  have t0_ : tT C p0 11 := ht (p0, 11) (by simp)
  show Jd C 2 (QJ C oIS sS) S 0 [some (.ref p0), some (.int p1)] [] (f_X12_withdraw S p0 p1)
  unfold f_X12_withdraw
  refine s_run X ok_X12_withdraw 0 2 (pc' := 2) (vs' := [some (.ref p0), some (.int p1)]) (st' := [.int 0, .ref p0]) rfl ?_
  refine s_putI X fp_X12_50 t0_ (dk okd_X12_withdraw 0 rfl) (fun S1 => ?_)
  refine s_run X ok_X12_withdraw 2 3 (pc' := 8) (vs' := [some (.ref p0), some (.int p1)]) (st' := [.int p1, .ref p0, .ref p0]) rfl ?_
  refine s_callV (b := p0) (As := [.int p1]) (rest := [.ref p0]) X E mv_X12_85 (c_X12_isFranchisee S1 p0 p1) rfl (ta1 t0_) rfl (by decide) t0_ rfl rfl (Nat.le_of_ble_eq_true rfl) (Nat.le_of_ble_eq_true rfl) (Nat.le_of_ble_eq_true rfl) (dk okd_X12_withdraw 1 rfl) (st' := fun v2 => [.int v2, .ref p0]) (fun _ => rfl) (fun v2 => ?_)
  refine s_jn (κ := Int32 → Option (Int32 × St)) (fun k4 => ∀ (x3 : Int32), Jd C 2 (QJ C oIS sS) S1 19 [some (.ref p0), some (.int p1)] [.int x3, .ref p0] (k4 x3)) (fun x3 => ?_) (fun k4 h5 => ?_)
  · refine s_run X ok_X12_withdraw 8 1 (pc' := 20) (vs' := [some (.ref p0), some (.int p1)]) (st' := [.int 1, .int x3, .ref p0]) rfl ?_
    refine s_callV (b := p0) (As := [.int x3, .int 1]) (rest := []) X E mv_X12_81 (c_X12_throwsIf S1 p0 x3 1) rfl (ta1 t0_) rfl (by decide) t0_ rfl rfl (Nat.le_of_ble_eq_true rfl) (Nat.le_of_ble_eq_true rfl) (Nat.le_of_ble_eq_true rfl) (dk okd_X12_withdraw 3 rfl) (st' := fun o6 => [.int o6.1]) (fun _ => rfl) (fun o6 => ?_)
    refine s_if_ne (tgt := 34) X (dk okd_X12_withdraw 4 rfl) (by decide) ?_ ?_
    · refine s_run X ok_X12_withdraw 11 1 (pc' := 35) (vs' := [some (.ref p0), some (.int p1)]) (st' := [.int 0]) rfl ?_
      exact s_zret0 X hr (dk okd_X12_withdraw 7 rfl) (by decide) rfl rfl
    · refine s_run X ok_X12_withdraw 9 2 (pc' := 28) (vs' := [some (.ref p0), some (.int p1)]) (st' := [.int p1, .ref p0]) rfl ?_
      refine s_callV (b := p0) (As := [.int p1]) (rest := []) X E mv_X12_246 (c_X12_isOpenTransfer o6.2 p0 p1) rfl (ta1 t0_) rfl (by decide) t0_ rfl rfl (Nat.le_of_ble_eq_true rfl) (Nat.le_of_ble_eq_true rfl) (Nat.le_of_ble_eq_true rfl) (dk okd_X12_withdraw 5 rfl) (st' := fun v7 => [.int v7]) (fun _ => rfl) (fun v7 => ?_)
      refine s_if_ne (tgt := 36) X (dk okd_X12_withdraw 6 rfl) (by decide) ?_ ?_
      · refine s_run X ok_X12_withdraw 12 4 (pc' := 41) (vs' := [some (.ref p0), some (.int p1)]) (st' := [.long 0, .int 9, .int p1, .ref p0]) rfl ?_
        refine s_callV (b := p0) (As := [.int p1, .int 9, .long 0]) (rest := []) X E mv_X12_183 (c_X12_set o6.2 p0 p1 9 0) rfl (ta1 t0_) rfl (by decide) t0_ rfl rfl (Nat.le_of_ble_eq_true rfl) (Nat.le_of_ble_eq_true rfl) (Nat.le_of_ble_eq_true rfl) (dk okd_X12_withdraw 8 rfl) (st' := fun S8 => []) (fun _ => rfl) (fun S8 => ?_)
        refine s_run X ok_X12_withdraw 16 1 (pc' := 45) (vs' := [some (.ref p0), some (.int p1)]) (st' := [.int 1]) rfl ?_
        exact s_zret0 X hr (dk okd_X12_withdraw 9 rfl) (by decide) rfl rfl
      · refine s_run X ok_X12_withdraw 11 1 (pc' := 35) (vs' := [some (.ref p0), some (.int p1)]) (st' := [.int 0]) rfl ?_
        exact s_zret0 X hr (dk okd_X12_withdraw 7 rfl) (by decide) rfl rfl
  · refine s_if_ne (tgt := 18) X (dk okd_X12_withdraw 2 rfl) (by decide) ?_ ?_
    · refine s_run X ok_X12_withdraw 7 1 (pc' := 19) (vs' := [some (.ref p0), some (.int p1)]) (st' := [.int 0, .ref p0]) rfl ?_
      exact h5 0
    · refine s_run X ok_X12_withdraw 5 2 (pc' := 19) (vs' := [some (.ref p0), some (.int p1)]) (st' := [.int 1, .ref p0]) rfl ?_
      exact h5 1
def tab_X12_transferState : List En := [(0, 8, 0, 0), (1, 0, 0, 0), (5, 8, 0, 0), (6, 8, 0, 0), (7, 4, 1, 0), (14, 0, 0, 1), (15, 41, 19, 0), (18, 0, 0, 0), (19, 0, 0, 1), (26, 0, 0, 0), (27, 41, 38, 0), (30, 8, 0, 0), (31, 4, 1, 0), (32, 1, 0, 9), (37, 32, 0, 0)]
theorem ok_X12_transferState : tab_X12_transferState.all (okE cX12_transferState) = true := by decide +kernel
def ed_X12_transferState : List (Nat × Instr × Nat) := [(2, .putfield 50, 3), (8, .invokevirtual 85, 3), (11, .ifCond .ne 7, 3), (20, .invokevirtual 81, 3), (23, .ifCond .eq 7, 3), (34, .invokevirtual 63, 3), (38, .ireturn, 1)]
theorem okd_X12_transferState : ed_X12_transferState.all (okD cX12_transferState) = true := by decide +kernel
def f_X12_transferState (S : St) (p0 : Nat) (p1 : Int32) : Option (Int32 × St) := lt (uI S p0 2 0) fun (S1 : St) => cl (f_X12_isFranchisee S1 p0 p1) fun (v2 : Int32) => jn (κ := Int32 → Option (Int32 × St)) (fun x3 => cl (f_X12_throwsIf S1 p0 x3 1) fun (o6 : Int32 × St) => if o6.1 = 0 then (cl (f_X12_of o6.2 p0 p1 9) fun (v7 : Int64) => some ((Int64.toInt32 v7), o6.2)) else (some (0, o6.2))) fun k4 => if v2 = 0 then (k4 1) else (k4 0)
set_option maxHeartbeats 4000000 in
set_option maxRecDepth 100000 in
theorem c_X12_transferState (S : St) (p0 : Nat) (p1 : Int32) : Ct yX12_transferState cX12_transferState 2 (some .int) 2 46 (fun _ => [.ref p0, .int p1]) [(p0, 11)] S (f_X12_transferState S p0 p1) oIS sS := by
  refine Ct_of RX12 rfl (by decide) (fun _ => Nat.le_of_ble_eq_true rfl) 0 (vs := fun _ => [some (.ref p0), some (.int p1)]) (fun _ => rfl) (fun C X E hr ht => ?_)
  have t0_ : tT C p0 11 := ht (p0, 11) (by simp)
  show Jd C 2 (QJ C oIS sS) S 0 [some (.ref p0), some (.int p1)] [] (f_X12_transferState S p0 p1)
  unfold f_X12_transferState
  refine s_run X ok_X12_transferState 0 2 (pc' := 2) (vs' := [some (.ref p0), some (.int p1)]) (st' := [.int 0, .ref p0]) rfl ?_
  refine s_putI X fp_X12_50 t0_ (dk okd_X12_transferState 0 rfl) (fun S1 => ?_)
  refine s_run X ok_X12_transferState 2 3 (pc' := 8) (vs' := [some (.ref p0), some (.int p1)]) (st' := [.int p1, .ref p0, .ref p0]) rfl ?_
  refine s_callV (b := p0) (As := [.int p1]) (rest := [.ref p0]) X E mv_X12_85 (c_X12_isFranchisee S1 p0 p1) rfl (ta1 t0_) rfl (by decide) t0_ rfl rfl (Nat.le_of_ble_eq_true rfl) (Nat.le_of_ble_eq_true rfl) (Nat.le_of_ble_eq_true rfl) (dk okd_X12_transferState 1 rfl) (st' := fun v2 => [.int v2, .ref p0]) (fun _ => rfl) (fun v2 => ?_)
  refine s_jn (κ := Int32 → Option (Int32 × St)) (fun k4 => ∀ (x3 : Int32), Jd C 2 (QJ C oIS sS) S1 19 [some (.ref p0), some (.int p1)] [.int x3, .ref p0] (k4 x3)) (fun x3 => ?_) (fun k4 h5 => ?_)
  · refine s_run X ok_X12_transferState 8 1 (pc' := 20) (vs' := [some (.ref p0), some (.int p1)]) (st' := [.int 1, .int x3, .ref p0]) rfl ?_
    refine s_callV (b := p0) (As := [.int x3, .int 1]) (rest := []) X E mv_X12_81 (c_X12_throwsIf S1 p0 x3 1) rfl (ta1 t0_) rfl (by decide) t0_ rfl rfl (Nat.le_of_ble_eq_true rfl) (Nat.le_of_ble_eq_true rfl) (Nat.le_of_ble_eq_true rfl) (dk okd_X12_transferState 3 rfl) (st' := fun o6 => [.int o6.1]) (fun _ => rfl) (fun o6 => ?_)
    refine s_if_eq (tgt := 30) X (dk okd_X12_transferState 4 rfl) (by decide) ?_ ?_
    · refine s_run X ok_X12_transferState 11 3 (pc' := 34) (vs' := [some (.ref p0), some (.int p1)]) (st' := [.int 9, .int p1, .ref p0]) rfl ?_
      refine s_callV (b := p0) (As := [.int p1, .int 9]) (rest := []) X E mv_X12_63 (c_X12_of o6.2 p0 p1 9) rfl (ta1 t0_) rfl (by decide) t0_ rfl rfl (Nat.le_of_ble_eq_true rfl) (Nat.le_of_ble_eq_true rfl) (Nat.le_of_ble_eq_true rfl) (dk okd_X12_transferState 5 rfl) (st' := fun v7 => [.long v7]) (fun _ => rfl) (fun v7 => ?_)
      refine s_run X ok_X12_transferState 14 1 (pc' := 38) (vs' := [some (.ref p0), some (.int p1)]) (st' := [.int (Int64.toInt32 v7)]) rfl ?_
      exact s_iret X hr (dk okd_X12_transferState 6 rfl) rfl rfl
    · refine s_run X ok_X12_transferState 9 2 (pc' := 38) (vs' := [some (.ref p0), some (.int p1)]) (st' := [.int 0]) rfl ?_
      exact s_iret X hr (dk okd_X12_transferState 6 rfl) rfl rfl
  · refine s_if_ne (tgt := 18) X (dk okd_X12_transferState 2 rfl) (by decide) ?_ ?_
    · refine s_run X ok_X12_transferState 7 1 (pc' := 19) (vs' := [some (.ref p0), some (.int p1)]) (st' := [.int 0, .ref p0]) rfl ?_
      exact h5 0
    · refine s_run X ok_X12_transferState 5 2 (pc' := 19) (vs' := [some (.ref p0), some (.int p1)]) (st' := [.int 1, .ref p0]) rfl ?_
      exact h5 1
def tab_X12_transferWait : List En := [(0, 8, 0, 0), (1, 0, 0, 0), (5, 8, 0, 0), (6, 8, 0, 0), (7, 4, 1, 0), (14, 0, 0, 1), (15, 41, 19, 0), (18, 0, 0, 0), (19, 0, 0, 1), (26, 0, 0, 0), (28, 8, 0, 0), (29, 4, 1, 0), (36, 0, 0, (-1)), (38, 8, 0, 0), (39, 4, 1, 0), (46, 0, 0, 0), (47, 41, 73, 0), (50, 8, 0, 0), (54, 1, 0, 9), (57, 8, 0, 0), (61, 0, 0, 0), (63, 24, 0, 0), (64, 8, 0, 0), (65, 4, 1, 0), (66, 1, 0, 12), (71, 23, 0, 0), (72, 32, 0, 0)]
theorem ok_X12_transferWait : tab_X12_transferWait.all (okE cX12_transferWait) = true := by decide +kernel
def ed_X12_transferWait : List (Nat × Instr × Nat) := [(2, .putfield 50, 3), (8, .invokevirtual 85, 3), (11, .ifCond .ne 7, 3), (20, .invokevirtual 81, 3), (23, .ifCond .eq 5, 3), (27, .ireturn, 1), (30, .invokevirtual 246, 3), (33, .ifCond .ne 5, 3), (37, .ireturn, 1), (40, .invokevirtual 234, 3), (43, .ifCond .eq 7, 3), (51, .getfield 9, 3), (56, .laload, 1), (58, .getfield 9, 3), (62, .laload, 1), (68, .invokevirtual 63, 3), (73, .ireturn, 1)]
theorem okd_X12_transferWait : ed_X12_transferWait.all (okD cX12_transferWait) = true := by decide +kernel
def f_X12_transferWait (S : St) (p0 : Nat) (p1 : Int32) : Option (Int32 × St) := lt (uI S p0 2 0) fun (S1 : St) => cl (f_X12_isFranchisee S1 p0 p1) fun (v2 : Int32) => jn (κ := Int32 → Option (Int32 × St)) (fun x3 => cl (f_X12_throwsIf S1 p0 x3 1) fun (o6 : Int32 × St) => if o6.1 = 0 then (cl (f_X12_isOpenTransfer o6.2 p0 p1) fun (v7 : Int32) => if v7 = 0 then (some ((-1), o6.2)) else (cl (f_X12_isDelayOver o6.2 p0 p1) fun (v8 : Int32) => if v8 = 0 then (lt (gR o6.2 p0 0) fun (a9 : Nat) => ldJ o6.2 a9 9 fun (v11 : Int64) => lt (gR o6.2 p0 0) fun (a12 : Nat) => ldJ o6.2 a12 0 fun (v14 : Int64) => cl (f_X12_of o6.2 p0 p1 12) fun (v15 : Int64) => some ((Int64.toInt32 ((v11 - v14) + v15)), o6.2)) else (some (0, o6.2)))) else (some (0, o6.2))) fun k4 => if v2 = 0 then (k4 1) else (k4 0)
set_option maxHeartbeats 4000000 in
set_option maxRecDepth 100000 in
theorem c_X12_transferWait (S : St) (p0 : Nat) (p1 : Int32) : Ct yX12_transferWait cX12_transferWait 2 (some .int) 2 46 (fun _ => [.ref p0, .int p1]) [(p0, 11)] S (f_X12_transferWait S p0 p1) oIS sS := by
  refine Ct_of RX12 rfl (by decide) (fun _ => Nat.le_of_ble_eq_true rfl) 0 (vs := fun _ => [some (.ref p0), some (.int p1)]) (fun _ => rfl) (fun C X E hr ht => ?_)
  have t0_ : tT C p0 11 := ht (p0, 11) (by simp)
  show Jd C 2 (QJ C oIS sS) S 0 [some (.ref p0), some (.int p1)] [] (f_X12_transferWait S p0 p1)
  unfold f_X12_transferWait
  refine s_run X ok_X12_transferWait 0 2 (pc' := 2) (vs' := [some (.ref p0), some (.int p1)]) (st' := [.int 0, .ref p0]) rfl ?_
  refine s_putI X fp_X12_50 t0_ (dk okd_X12_transferWait 0 rfl) (fun S1 => ?_)
  refine s_run X ok_X12_transferWait 2 3 (pc' := 8) (vs' := [some (.ref p0), some (.int p1)]) (st' := [.int p1, .ref p0, .ref p0]) rfl ?_
  refine s_callV (b := p0) (As := [.int p1]) (rest := [.ref p0]) X E mv_X12_85 (c_X12_isFranchisee S1 p0 p1) rfl (ta1 t0_) rfl (by decide) t0_ rfl rfl (Nat.le_of_ble_eq_true rfl) (Nat.le_of_ble_eq_true rfl) (Nat.le_of_ble_eq_true rfl) (dk okd_X12_transferWait 1 rfl) (st' := fun v2 => [.int v2, .ref p0]) (fun _ => rfl) (fun v2 => ?_)
  refine s_jn (κ := Int32 → Option (Int32 × St)) (fun k4 => ∀ (x3 : Int32), Jd C 2 (QJ C oIS sS) S1 19 [some (.ref p0), some (.int p1)] [.int x3, .ref p0] (k4 x3)) (fun x3 => ?_) (fun k4 h5 => ?_)
  · refine s_run X ok_X12_transferWait 8 1 (pc' := 20) (vs' := [some (.ref p0), some (.int p1)]) (st' := [.int 1, .int x3, .ref p0]) rfl ?_
    refine s_callV (b := p0) (As := [.int x3, .int 1]) (rest := []) X E mv_X12_81 (c_X12_throwsIf S1 p0 x3 1) rfl (ta1 t0_) rfl (by decide) t0_ rfl rfl (Nat.le_of_ble_eq_true rfl) (Nat.le_of_ble_eq_true rfl) (Nat.le_of_ble_eq_true rfl) (dk okd_X12_transferWait 3 rfl) (st' := fun o6 => [.int o6.1]) (fun _ => rfl) (fun o6 => ?_)
    refine s_if_eq (tgt := 28) X (dk okd_X12_transferWait 4 rfl) (by decide) ?_ ?_
    · refine s_run X ok_X12_transferWait 10 2 (pc' := 30) (vs' := [some (.ref p0), some (.int p1)]) (st' := [.int p1, .ref p0]) rfl ?_
      refine s_callV (b := p0) (As := [.int p1]) (rest := []) X E mv_X12_246 (c_X12_isOpenTransfer o6.2 p0 p1) rfl (ta1 t0_) rfl (by decide) t0_ rfl rfl (Nat.le_of_ble_eq_true rfl) (Nat.le_of_ble_eq_true rfl) (Nat.le_of_ble_eq_true rfl) (dk okd_X12_transferWait 6 rfl) (st' := fun v7 => [.int v7]) (fun _ => rfl) (fun v7 => ?_)
      refine s_if_ne (tgt := 38) X (dk okd_X12_transferWait 7 rfl) (by decide) ?_ ?_
      · refine s_run X ok_X12_transferWait 13 2 (pc' := 40) (vs' := [some (.ref p0), some (.int p1)]) (st' := [.int p1, .ref p0]) rfl ?_
        refine s_callV (b := p0) (As := [.int p1]) (rest := []) X E mv_X12_234 (c_X12_isDelayOver o6.2 p0 p1) rfl (ta1 t0_) rfl (by decide) t0_ rfl rfl (Nat.le_of_ble_eq_true rfl) (Nat.le_of_ble_eq_true rfl) (Nat.le_of_ble_eq_true rfl) (dk okd_X12_transferWait 9 rfl) (st' := fun v8 => [.int v8]) (fun _ => rfl) (fun v8 => ?_)
        refine s_if_eq (tgt := 50) X (dk okd_X12_transferWait 10 rfl) (by decide) ?_ ?_
        · refine s_run X ok_X12_transferWait 17 1 (pc' := 51) (vs' := [some (.ref p0), some (.int p1)]) (st' := [.ref p0]) rfl ?_
          refine s_getR X fl_X12_9 t0_ (dk okd_X12_transferWait 11 rfl) (fun a9 (t10 : tT C a9 14) => ?_)
          refine s_run X ok_X12_transferWait 18 1 (pc' := 56) (vs' := [some (.ref p0), some (.int p1)]) (st' := [.int 9, .ref a9]) rfl ?_
          refine s_lald X t10 (dk okd_X12_transferWait 12 rfl) (fun v11 => ?_)
          refine s_run X ok_X12_transferWait 19 1 (pc' := 58) (vs' := [some (.ref p0), some (.int p1)]) (st' := [.ref p0, .long v11]) rfl ?_
          refine s_getR X fl_X12_9 t0_ (dk okd_X12_transferWait 13 rfl) (fun a12 (t13 : tT C a12 14) => ?_)
          refine s_run X ok_X12_transferWait 20 1 (pc' := 62) (vs' := [some (.ref p0), some (.int p1)]) (st' := [.int 0, .ref a12, .long v11]) rfl ?_
          refine s_lald X t13 (dk okd_X12_transferWait 14 rfl) (fun v14 => ?_)
          refine s_run X ok_X12_transferWait 21 4 (pc' := 68) (vs' := [some (.ref p0), some (.int p1)]) (st' := [.int 12, .int p1, .ref p0, .long (v11 - v14)]) rfl ?_
          refine s_callV (b := p0) (As := [.int p1, .int 12]) (rest := [.long (v11 - v14)]) X E mv_X12_63 (c_X12_of o6.2 p0 p1 12) rfl (ta1 t0_) rfl (by decide) t0_ rfl rfl (Nat.le_of_ble_eq_true rfl) (Nat.le_of_ble_eq_true rfl) (Nat.le_of_ble_eq_true rfl) (dk okd_X12_transferWait 15 rfl) (st' := fun v15 => [.long v15, .long (v11 - v14)]) (fun _ => rfl) (fun v15 => ?_)
          refine s_run X ok_X12_transferWait 25 2 (pc' := 73) (vs' := [some (.ref p0), some (.int p1)]) (st' := [.int (Int64.toInt32 ((v11 - v14) + v15))]) rfl ?_
          exact s_iret X hr (dk okd_X12_transferWait 16 rfl) rfl rfl
        · refine s_run X ok_X12_transferWait 15 2 (pc' := 73) (vs' := [some (.ref p0), some (.int p1)]) (st' := [.int 0]) rfl ?_
          exact s_iret X hr (dk okd_X12_transferWait 16 rfl) rfl rfl
      · refine s_run X ok_X12_transferWait 12 1 (pc' := 37) (vs' := [some (.ref p0), some (.int p1)]) (st' := [.int (-1)]) rfl ?_
        exact s_iret X hr (dk okd_X12_transferWait 8 rfl) rfl rfl
    · refine s_run X ok_X12_transferWait 9 1 (pc' := 27) (vs' := [some (.ref p0), some (.int p1)]) (st' := [.int 0]) rfl ?_
      exact s_iret X hr (dk okd_X12_transferWait 5 rfl) rfl rfl
  · refine s_if_ne (tgt := 18) X (dk okd_X12_transferWait 2 rfl) (by decide) ?_ ?_
    · refine s_run X ok_X12_transferWait 7 1 (pc' := 19) (vs' := [some (.ref p0), some (.int p1)]) (st' := [.int 0, .ref p0]) rfl ?_
      exact h5 0
    · refine s_run X ok_X12_transferWait 5 2 (pc' := 19) (vs' := [some (.ref p0), some (.int p1)]) (st' := [.int 1, .ref p0]) rfl ?_
      exact h5 1
def tab_X12_generation : List En := [(0, 8, 0, 0), (1, 0, 0, 0), (5, 8, 0, 0), (6, 8, 0, 0), (7, 4, 1, 0), (14, 0, 0, 1), (15, 41, 19, 0), (18, 0, 0, 0), (19, 0, 0, 1), (26, 0, 0, 0), (27, 41, 37, 0), (30, 8, 0, 0), (31, 4, 1, 0), (32, 0, 0, 5), (36, 32, 0, 0)]
theorem ok_X12_generation : tab_X12_generation.all (okE cX12_generation) = true := by decide +kernel
def ed_X12_generation : List (Nat × Instr × Nat) := [(2, .putfield 50, 3), (8, .invokevirtual 85, 3), (11, .ifCond .ne 7, 3), (20, .invokevirtual 81, 3), (23, .ifCond .eq 7, 3), (33, .invokevirtual 63, 3), (37, .ireturn, 1)]
theorem okd_X12_generation : ed_X12_generation.all (okD cX12_generation) = true := by decide +kernel
def f_X12_generation (S : St) (p0 : Nat) (p1 : Int32) : Option (Int32 × St) := lt (uI S p0 2 0) fun (S1 : St) => cl (f_X12_isFranchisee S1 p0 p1) fun (v2 : Int32) => jn (κ := Int32 → Option (Int32 × St)) (fun x3 => cl (f_X12_throwsIf S1 p0 x3 1) fun (o6 : Int32 × St) => if o6.1 = 0 then (cl (f_X12_of o6.2 p0 p1 5) fun (v7 : Int64) => some ((Int64.toInt32 v7), o6.2)) else (some (0, o6.2))) fun k4 => if v2 = 0 then (k4 1) else (k4 0)
set_option maxHeartbeats 4000000 in
set_option maxRecDepth 100000 in
theorem c_X12_generation (S : St) (p0 : Nat) (p1 : Int32) : Ct yX12_generation cX12_generation 2 (some .int) 2 46 (fun _ => [.ref p0, .int p1]) [(p0, 11)] S (f_X12_generation S p0 p1) oIS sS := by
  refine Ct_of RX12 rfl (by decide) (fun _ => Nat.le_of_ble_eq_true rfl) 0 (vs := fun _ => [some (.ref p0), some (.int p1)]) (fun _ => rfl) (fun C X E hr ht => ?_)
  have t0_ : tT C p0 11 := ht (p0, 11) (by simp)
  show Jd C 2 (QJ C oIS sS) S 0 [some (.ref p0), some (.int p1)] [] (f_X12_generation S p0 p1)
  unfold f_X12_generation
  refine s_run X ok_X12_generation 0 2 (pc' := 2) (vs' := [some (.ref p0), some (.int p1)]) (st' := [.int 0, .ref p0]) rfl ?_
  refine s_putI X fp_X12_50 t0_ (dk okd_X12_generation 0 rfl) (fun S1 => ?_)
  refine s_run X ok_X12_generation 2 3 (pc' := 8) (vs' := [some (.ref p0), some (.int p1)]) (st' := [.int p1, .ref p0, .ref p0]) rfl ?_
  refine s_callV (b := p0) (As := [.int p1]) (rest := [.ref p0]) X E mv_X12_85 (c_X12_isFranchisee S1 p0 p1) rfl (ta1 t0_) rfl (by decide) t0_ rfl rfl (Nat.le_of_ble_eq_true rfl) (Nat.le_of_ble_eq_true rfl) (Nat.le_of_ble_eq_true rfl) (dk okd_X12_generation 1 rfl) (st' := fun v2 => [.int v2, .ref p0]) (fun _ => rfl) (fun v2 => ?_)
  refine s_jn (κ := Int32 → Option (Int32 × St)) (fun k4 => ∀ (x3 : Int32), Jd C 2 (QJ C oIS sS) S1 19 [some (.ref p0), some (.int p1)] [.int x3, .ref p0] (k4 x3)) (fun x3 => ?_) (fun k4 h5 => ?_)
  · refine s_run X ok_X12_generation 8 1 (pc' := 20) (vs' := [some (.ref p0), some (.int p1)]) (st' := [.int 1, .int x3, .ref p0]) rfl ?_
    refine s_callV (b := p0) (As := [.int x3, .int 1]) (rest := []) X E mv_X12_81 (c_X12_throwsIf S1 p0 x3 1) rfl (ta1 t0_) rfl (by decide) t0_ rfl rfl (Nat.le_of_ble_eq_true rfl) (Nat.le_of_ble_eq_true rfl) (Nat.le_of_ble_eq_true rfl) (dk okd_X12_generation 3 rfl) (st' := fun o6 => [.int o6.1]) (fun _ => rfl) (fun o6 => ?_)
    refine s_if_eq (tgt := 30) X (dk okd_X12_generation 4 rfl) (by decide) ?_ ?_
    · refine s_run X ok_X12_generation 11 3 (pc' := 33) (vs' := [some (.ref p0), some (.int p1)]) (st' := [.int 5, .int p1, .ref p0]) rfl ?_
      refine s_callV (b := p0) (As := [.int p1, .int 5]) (rest := []) X E mv_X12_63 (c_X12_of o6.2 p0 p1 5) rfl (ta1 t0_) rfl (by decide) t0_ rfl rfl (Nat.le_of_ble_eq_true rfl) (Nat.le_of_ble_eq_true rfl) (Nat.le_of_ble_eq_true rfl) (dk okd_X12_generation 5 rfl) (st' := fun v7 => [.long v7]) (fun _ => rfl) (fun v7 => ?_)
      refine s_run X ok_X12_generation 14 1 (pc' := 37) (vs' := [some (.ref p0), some (.int p1)]) (st' := [.int (Int64.toInt32 v7)]) rfl ?_
      exact s_iret X hr (dk okd_X12_generation 6 rfl) rfl rfl
    · refine s_run X ok_X12_generation 9 2 (pc' := 37) (vs' := [some (.ref p0), some (.int p1)]) (st' := [.int 0]) rfl ?_
      exact s_iret X hr (dk okd_X12_generation 6 rfl) rfl rfl
  · refine s_if_ne (tgt := 18) X (dk okd_X12_generation 2 rfl) (by decide) ?_ ?_
    · refine s_run X ok_X12_generation 7 1 (pc' := 19) (vs' := [some (.ref p0), some (.int p1)]) (st' := [.int 0, .ref p0]) rfl ?_
      exact h5 0
    · refine s_run X ok_X12_generation 5 2 (pc' := 19) (vs' := [some (.ref p0), some (.int p1)]) (st' := [.int 1, .ref p0]) rfl ?_
      exact h5 1
def tab_X12_worth : List En := [(0, 8, 0, 0), (1, 0, 0, 0), (5, 8, 0, 0), (6, 8, 0, 0), (7, 4, 1, 0), (14, 0, 0, 1), (15, 41, 19, 0), (18, 0, 0, 0), (19, 0, 0, 1), (26, 0, 0, 0), (27, 41, 37, 0), (30, 8, 0, 0), (31, 4, 1, 0), (32, 0, 0, 2), (36, 32, 0, 0)]
theorem ok_X12_worth : tab_X12_worth.all (okE cX12_worth) = true := by decide +kernel
def ed_X12_worth : List (Nat × Instr × Nat) := [(2, .putfield 50, 3), (8, .invokevirtual 85, 3), (11, .ifCond .ne 7, 3), (20, .invokevirtual 81, 3), (23, .ifCond .eq 7, 3), (33, .invokevirtual 63, 3), (37, .ireturn, 1)]
theorem okd_X12_worth : ed_X12_worth.all (okD cX12_worth) = true := by decide +kernel
def f_X12_worth (S : St) (p0 : Nat) (p1 : Int32) : Option (Int32 × St) := lt (uI S p0 2 0) fun (S1 : St) => cl (f_X12_isFranchisee S1 p0 p1) fun (v2 : Int32) => jn (κ := Int32 → Option (Int32 × St)) (fun x3 => cl (f_X12_throwsIf S1 p0 x3 1) fun (o6 : Int32 × St) => if o6.1 = 0 then (cl (f_X12_of o6.2 p0 p1 2) fun (v7 : Int64) => some ((Int64.toInt32 v7), o6.2)) else (some (0, o6.2))) fun k4 => if v2 = 0 then (k4 1) else (k4 0)
set_option maxHeartbeats 4000000 in
set_option maxRecDepth 100000 in
theorem c_X12_worth (S : St) (p0 : Nat) (p1 : Int32) : Ct yX12_worth cX12_worth 2 (some .int) 2 46 (fun _ => [.ref p0, .int p1]) [(p0, 11)] S (f_X12_worth S p0 p1) oIS sS := by
  refine Ct_of RX12 rfl (by decide) (fun _ => Nat.le_of_ble_eq_true rfl) 0 (vs := fun _ => [some (.ref p0), some (.int p1)]) (fun _ => rfl) (fun C X E hr ht => ?_)
  have t0_ : tT C p0 11 := ht (p0, 11) (by simp)
  show Jd C 2 (QJ C oIS sS) S 0 [some (.ref p0), some (.int p1)] [] (f_X12_worth S p0 p1)
  unfold f_X12_worth
  refine s_run X ok_X12_worth 0 2 (pc' := 2) (vs' := [some (.ref p0), some (.int p1)]) (st' := [.int 0, .ref p0]) rfl ?_
  refine s_putI X fp_X12_50 t0_ (dk okd_X12_worth 0 rfl) (fun S1 => ?_)
  refine s_run X ok_X12_worth 2 3 (pc' := 8) (vs' := [some (.ref p0), some (.int p1)]) (st' := [.int p1, .ref p0, .ref p0]) rfl ?_
  refine s_callV (b := p0) (As := [.int p1]) (rest := [.ref p0]) X E mv_X12_85 (c_X12_isFranchisee S1 p0 p1) rfl (ta1 t0_) rfl (by decide) t0_ rfl rfl (Nat.le_of_ble_eq_true rfl) (Nat.le_of_ble_eq_true rfl) (Nat.le_of_ble_eq_true rfl) (dk okd_X12_worth 1 rfl) (st' := fun v2 => [.int v2, .ref p0]) (fun _ => rfl) (fun v2 => ?_)
  refine s_jn (κ := Int32 → Option (Int32 × St)) (fun k4 => ∀ (x3 : Int32), Jd C 2 (QJ C oIS sS) S1 19 [some (.ref p0), some (.int p1)] [.int x3, .ref p0] (k4 x3)) (fun x3 => ?_) (fun k4 h5 => ?_)
  · refine s_run X ok_X12_worth 8 1 (pc' := 20) (vs' := [some (.ref p0), some (.int p1)]) (st' := [.int 1, .int x3, .ref p0]) rfl ?_
    refine s_callV (b := p0) (As := [.int x3, .int 1]) (rest := []) X E mv_X12_81 (c_X12_throwsIf S1 p0 x3 1) rfl (ta1 t0_) rfl (by decide) t0_ rfl rfl (Nat.le_of_ble_eq_true rfl) (Nat.le_of_ble_eq_true rfl) (Nat.le_of_ble_eq_true rfl) (dk okd_X12_worth 3 rfl) (st' := fun o6 => [.int o6.1]) (fun _ => rfl) (fun o6 => ?_)
    refine s_if_eq (tgt := 30) X (dk okd_X12_worth 4 rfl) (by decide) ?_ ?_
    · refine s_run X ok_X12_worth 11 3 (pc' := 33) (vs' := [some (.ref p0), some (.int p1)]) (st' := [.int 2, .int p1, .ref p0]) rfl ?_
      refine s_callV (b := p0) (As := [.int p1, .int 2]) (rest := []) X E mv_X12_63 (c_X12_of o6.2 p0 p1 2) rfl (ta1 t0_) rfl (by decide) t0_ rfl rfl (Nat.le_of_ble_eq_true rfl) (Nat.le_of_ble_eq_true rfl) (Nat.le_of_ble_eq_true rfl) (dk okd_X12_worth 5 rfl) (st' := fun v7 => [.long v7]) (fun _ => rfl) (fun v7 => ?_)
      refine s_run X ok_X12_worth 14 1 (pc' := 37) (vs' := [some (.ref p0), some (.int p1)]) (st' := [.int (Int64.toInt32 v7)]) rfl ?_
      exact s_iret X hr (dk okd_X12_worth 6 rfl) rfl rfl
    · refine s_run X ok_X12_worth 9 2 (pc' := 37) (vs' := [some (.ref p0), some (.int p1)]) (st' := [.int 0]) rfl ?_
      exact s_iret X hr (dk okd_X12_worth 6 rfl) rfl rfl
  · refine s_if_ne (tgt := 18) X (dk okd_X12_worth 2 rfl) (by decide) ?_ ?_
    · refine s_run X ok_X12_worth 7 1 (pc' := 19) (vs' := [some (.ref p0), some (.int p1)]) (st' := [.int 0, .ref p0]) rfl ?_
      exact h5 0
    · refine s_run X ok_X12_worth 5 2 (pc' := 19) (vs' := [some (.ref p0), some (.int p1)]) (st' := [.int 1, .ref p0]) rfl ?_
      exact h5 1
def tab_X12_append : List En := [(0, 8, 0, 0), (4, 8, 0, 0), (8, 4, 1, 0), (9, 33, 0, 0), (11, 8, 0, 0), (12, 36, 0, 0), (16, 0, 0, 1), (17, 17, 0, 0)]
theorem ok_X12_append : tab_X12_append.all (okE cX12_append) = true := by decide +kernel
def ed_X12_append : List (Nat × Instr × Nat) := [(1, .getfield 26, 3), (5, .getfield 266, 3), (10, .bastore, 1), (13, .getfield 266, 3), (18, .putfield 266, 3), (21, .return_, 1)]
theorem okd_X12_append : ed_X12_append.all (okD cX12_append) = true := by decide +kernel
def f_X12_append (S : St) (p0 : Nat) (p1 : Int32) : Option (St) := lt (gR S p0 6) fun (a1 : Nat) => lt (gI S p0 7) fun (v3 : Int32) => stI S a1 v3 (vp_nar .byte (Int8.toInt32 (Int32.toInt8 p1))) fun (S4 : St) => lt (gI S4 p0 7) fun (v5 : Int32) => lt (uI S4 p0 7 (v5 + 1)) fun (S6 : St) => some S6
set_option maxHeartbeats 4000000 in
set_option maxRecDepth 100000 in
theorem c_X12_append (S : St) (p0 : Nat) (p1 : Int32) : Ct yX12_append cX12_append 2 none 0 0 (fun _ => [.ref p0, .int p1]) [(p0, 11)] S (f_X12_append S p0 p1) oV sV := by
  refine Ct_of RX12 rfl (by decide) (fun _ => Nat.le_of_ble_eq_true rfl) 0 (vs := fun _ => [some (.ref p0), some (.int p1)]) (fun _ => rfl) (fun C X E hr ht => ?_)
  have t0_ : tT C p0 11 := ht (p0, 11) (by simp)
  show Jd C 2 (QJ C oV sV) S 0 [some (.ref p0), some (.int p1)] [] (f_X12_append S p0 p1)
  unfold f_X12_append
  refine s_run X ok_X12_append 0 1 (pc' := 1) (vs' := [some (.ref p0), some (.int p1)]) (st' := [.ref p0]) rfl ?_
  refine s_getR X fl_X12_26 t0_ (dk okd_X12_append 0 rfl) (fun a1 (t2 : tT C a1 12) => ?_)
  refine s_run X ok_X12_append 1 1 (pc' := 5) (vs' := [some (.ref p0), some (.int p1)]) (st' := [.ref p0, .ref a1]) rfl ?_
  refine s_getI X fl_X12_266 t0_ (dk okd_X12_append 1 rfl) (fun v3 => ?_)
  refine s_run X ok_X12_append 2 2 (pc' := 10) (vs' := [some (.ref p0), some (.int p1)]) (st' := [.int (Int8.toInt32 (Int32.toInt8 p1)), .int v3, .ref a1]) rfl ?_
  refine s_bast X t2 (dk okd_X12_append 2 rfl) (fun S4 => ?_)
  refine s_run X ok_X12_append 4 2 (pc' := 13) (vs' := [some (.ref p0), some (.int p1)]) (st' := [.ref p0, .ref p0]) rfl ?_
  refine s_getI X fl_X12_266 t0_ (dk okd_X12_append 3 rfl) (fun v5 => ?_)
  refine s_run X ok_X12_append 6 2 (pc' := 18) (vs' := [some (.ref p0), some (.int p1)]) (st' := [.int (v5 + 1), .ref p0]) rfl ?_
  refine s_putI X fp_X12_266 t0_ (dk okd_X12_append 4 rfl) (fun S6 => ?_)
  exact s_vret X hr (dk okd_X12_append 5 rfl) rfl rfl
def tab_X12_appendWord : List En := [(0, 1, 0, 45), (2, 10, 3, 0), (3, 4, 3, 0), (7, 6, 1, 0), (8, 4, 3, 0), (9, 35, 0, 0), (13, 26, 0, 0), (14, 3, 0, 0), (15, 40, 0, 0), (19, 8, 0, 0), (20, 1, 0, 96), (22, 6, 1, 0), (23, 4, 3, 0), (24, 35, 0, 0), (28, 26, 0, 0), (29, 32, 0, 0), (30, 17, 0, 0), (34, 16, 3, (-5)), (37, 41, 3, 0), (40, 8, 0, 0), (41, 1, 0, 32)]
theorem ok_X12_appendWord : tab_X12_appendWord.all (okE cX12_appendWord) = true := by decide +kernel
def ed_X12_appendWord : List (Nat × Instr × Nat) := [(4, .ifCond .lt 36, 3), (10, .ldc2_w 269, 3), (16, .ifCond .le 18, 3), (25, .ldc2_w 269, 3), (31, .invokevirtual 271, 3), (43, .invokevirtual 271, 3), (46, .return_, 1)]
theorem okd_X12_appendWord : ed_X12_appendWord.all (okD cX12_appendWord) = true := by decide +kernel
def f_X12_appendWord (S : St) (p0 : Nat) (p1 : Int64) : Option (St) := jn (κ := St → Option (St)) (fun S1 => cl (f_X12_append S1 p0 32) fun (S4 : St) => some S4) fun k2 => lp (κ := Int32 → St → Option (St)) (fun _ _ => none) (fun k7 x5 S6 => if x5 < 0 then (k2 S6) else (jn (κ := St → Option (St)) (fun S9 => k7 (x5 + (-5)) S9) fun k10 => if ((p1 >>> ((Int32.toInt64 x5) &&& 63)) &&& 31) ≤ 0 then (k10 S6) else (cl (f_X12_append S6 p0 (96 + (Int64.toInt32 ((p1 >>> ((Int32.toInt64 x5) &&& 63)) &&& 31)))) fun (S12 : St) => k10 S12))) FU 45 S
set_option maxHeartbeats 4000000 in
set_option maxRecDepth 100000 in
theorem c_X12_appendWord (S : St) (p0 : Nat) (p1 : Int64) : Ct yX12_appendWord cX12_appendWord 4 none 1 21 (fun _ => [.ref p0, .long p1]) [(p0, 11)] S (f_X12_appendWord S p0 p1) oV sV := by
  refine Ct_of RX12 rfl (by decide) (fun _ => Nat.le_of_ble_eq_true rfl) 1 (vs := fun _ => [some (.ref p0), some (.long p1), none, none]) (fun _ => rfl) (fun C X E hr ht => ?_)
  have t0_ : tT C p0 11 := ht (p0, 11) (by simp)
  show Jd C 4 (QJ C oV sV) S 0 [some (.ref p0), some (.long p1), none, none] [] (f_X12_appendWord S p0 p1)
  unfold f_X12_appendWord
  refine s_run X ok_X12_appendWord 0 2 (pc' := 3) (vs' := [some (.ref p0), some (.long p1), none, some (.int 45)]) (st' := []) rfl ?_
  refine s_jn (κ := St → Option (St)) (fun k2 => ∀ (S1 : St), Jd C 4 (QJ C oV sV) S1 40 [some (.ref p0), none, none, none] [] (k2 S1)) (fun S1 => ?_) (fun k2 h3 => ?_)
  · refine s_run X ok_X12_appendWord 19 2 (pc' := 43) (vs' := [some (.ref p0), none, none, none]) (st' := [.int 32, .ref p0]) rfl ?_
    refine s_callV (b := p0) (As := [.int 32]) (rest := []) X E mv_X12_271 (c_X12_append S1 p0 32) rfl (ta1 t0_) rfl (by decide) t0_ rfl rfl (Nat.le_of_ble_eq_true rfl) (Nat.le_of_ble_eq_true rfl) (Nat.le_of_ble_eq_true rfl) (dk okd_X12_appendWord 5 rfl) (st' := fun S4 => []) (fun _ => rfl) (fun S4 => ?_)
    exact s_vret X hr (dk okd_X12_appendWord 6 rfl) rfl rfl
  · refine s_lp (κ := Int32 → St → Option (St)) (fun k7 => ∀ (x5 : Int32) (S6 : St), Jd C 4 (QJ C oV sV) S6 3 [some (.ref p0), some (.long p1), none, some (.int x5)] [] (k7 x5 S6)) (fun _ _ => s_none) (fun k7 h8 x5 S6 => ?_) FU 45 S
    refine s_run X ok_X12_appendWord 2 1 (pc' := 4) (vs' := [some (.ref p0), some (.long p1), none, some (.int x5)]) (st' := [.int x5]) rfl ?_
    refine s_if_lt (tgt := 40) X (dk okd_X12_appendWord 0 rfl) (by decide) ?_ ?_
    · exact s_less [true, false, false, false] rfl (h3 S6)
    · refine s_run X ok_X12_appendWord 3 3 (pc' := 10) (vs' := [some (.ref p0), some (.long p1), none, some (.int x5)]) (st' := [.long (p1 >>> ((Int32.toInt64 x5) &&& 63))]) rfl ?_
      refine s_ldc2 X cl_X12_269 (dk okd_X12_appendWord 1 rfl) ?_
      refine s_run X ok_X12_appendWord 6 3 (pc' := 16) (vs' := [some (.ref p0), some (.long p1), none, some (.int x5)]) (st' := [.int (lg_cmp ((p1 >>> ((Int32.toInt64 x5) &&& 63)) &&& 31) 0)]) rfl ?_
      refine s_jn (κ := St → Option (St)) (fun k10 => ∀ (S9 : St), Jd C 4 (QJ C oV sV) S9 34 [some (.ref p0), some (.long p1), none, some (.int x5)] [] (k10 S9)) (fun S9 => ?_) (fun k10 h11 => ?_)
      · refine s_run X ok_X12_appendWord 17 2 (pc' := 3) (vs' := [some (.ref p0), some (.long p1), none, some (.int (x5 + (-5)))]) (st' := []) rfl ?_
        exact h8 (x5 + (-5)) S9
      · refine s_lif_le (tgt := 34) X (dk okd_X12_appendWord 2 rfl) (by decide) ?_ ?_
        · exact h11 S6
        · refine s_run X ok_X12_appendWord 9 5 (pc' := 25) (vs' := [some (.ref p0), some (.long p1), none, some (.int x5)]) (st' := [.long (p1 >>> ((Int32.toInt64 x5) &&& 63)), .int 96, .ref p0]) rfl ?_
          refine s_ldc2 X cl_X12_269 (dk okd_X12_appendWord 3 rfl) ?_
          refine s_run X ok_X12_appendWord 14 3 (pc' := 31) (vs' := [some (.ref p0), some (.long p1), none, some (.int x5)]) (st' := [.int (96 + (Int64.toInt32 ((p1 >>> ((Int32.toInt64 x5) &&& 63)) &&& 31))), .ref p0]) rfl ?_
          refine s_callV (b := p0) (As := [.int (96 + (Int64.toInt32 ((p1 >>> ((Int32.toInt64 x5) &&& 63)) &&& 31)))]) (rest := []) X E mv_X12_271 (c_X12_append S6 p0 (96 + (Int64.toInt32 ((p1 >>> ((Int32.toInt64 x5) &&& 63)) &&& 31)))) rfl (ta1 t0_) rfl (by decide) t0_ rfl rfl (Nat.le_of_ble_eq_true rfl) (Nat.le_of_ble_eq_true rfl) (Nat.le_of_ble_eq_true rfl) (dk okd_X12_appendWord 4 rfl) (st' := fun S12 => []) (fun _ => rfl) (fun S12 => ?_)
          exact h11 S12
def tab_X12_appendAmount : List En := [(0, 6, 1, 0), (1, 3, 0, 0), (2, 40, 0, 0), (6, 8, 0, 0), (7, 1, 0, 45), (12, 6, 1, 0), (13, 3, 0, 0), (14, 40, 0, 0), (18, 6, 1, 0), (19, 28, 0, 0), (20, 41, 24, 0), (23, 6, 1, 0), (24, 12, 3, 0), (28, 13, 5, 0), (30, 6, 3, 0), (31, 7, 5, 0), (37, 40, 0, 0), (41, 7, 5, 0), (46, 25, 0, 0), (47, 13, 5, 0), (49, 41, 30, 0), (52, 7, 5, 0), (54, 3, 0, 0), (55, 40, 0, 0), (59, 8, 0, 0), (60, 1, 0, 48), (62, 6, 3, 0), (63, 7, 5, 0), (70, 32, 0, 0), (71, 17, 0, 0), (75, 7, 5, 0), (80, 40, 0, 0), (84, 8, 0, 0), (85, 1, 0, 46), (90, 7, 5, 0), (96, 13, 5, 0), (98, 41, 52, 0)]
theorem ok_X12_appendAmount : tab_X12_appendAmount.all (okE cX12_appendAmount) = true := by decide +kernel
def ed_X12_appendAmount : List (Nat × Instr × Nat) := [(3, .ifCond .ge 9, 3), (9, .invokevirtual 271, 3), (15, .ifCond .ge 8, 3), (25, .ldc2_w 144, 3), (33, .ldiv, 1), (34, .ldc2_w 274, 3), (38, .ifCond .le 14, 3), (43, .ldc2_w 276, 3), (56, .ifCond .le 45, 3), (65, .ldiv, 1), (66, .ldc2_w 276, 3), (69, .lrem, 1), (72, .invokevirtual 271, 3), (77, .ldc2_w 144, 3), (81, .ifCond .ne 9, 3), (87, .invokevirtual 271, 3), (92, .ldc2_w 276, 3), (95, .ldiv, 1), (101, .return_, 1)]
theorem okd_X12_appendAmount : ed_X12_appendAmount.all (okD cX12_appendAmount) = true := by decide +kernel
def f_X12_appendAmount (S : St) (p0 : Nat) (p1 : Int64) : Option (St) := jn (κ := St → Option (St)) (fun S1 => jn (κ := Int64 → Option (St)) (fun x4 => jn (κ := Int64 → Option (St)) (fun x7 => lp (κ := Int64 → St → Option (St)) (fun _ _ => none) (fun k12 x10 S11 => if x10 ≤ 0 then (some S11) else (nzL x10 <| cl (f_X12_append S11 p0 (48 + (Int64.toInt32 ((x4 / x10) - (x4 / x10) / 10 * 10)))) fun (S14 : St) => jn (κ := St → Option (St)) (fun S15 => lt (x10 / 10) fun (v18 : Int64) => k12 v18 S15) fun k16 => if x10 = 100 then (cl (f_X12_append S14 p0 46) fun (S19 : St) => k16 S19) else (k16 S14))) FU x7 S1) fun k8 => lp (κ := Int64 → Option (St)) (fun _ => none) (fun k21 x20 => nzL x20 <| if (x4 / x20) ≤ 9 then (k8 x20) else (lt (x20 * 10) fun (v23 : Int64) => k21 v23)) FU 100) fun k5 => if 0 ≤ p1 then (k5 p1) else (k5 (-p1))) fun k2 => if 0 ≤ p1 then (k2 S) else (cl (f_X12_append S p0 45) fun (S24 : St) => k2 S24)
set_option maxHeartbeats 4000000 in
set_option maxRecDepth 100000 in
theorem c_X12_appendAmount (S : St) (p0 : Nat) (p1 : Int64) : Ct yX12_appendAmount cX12_appendAmount 7 none 1 21 (fun _ => [.ref p0, .long p1]) [(p0, 11)] S (f_X12_appendAmount S p0 p1) oV sV := by
  refine Ct_of RX12 rfl (by decide) (fun _ => Nat.le_of_ble_eq_true rfl) 4 (vs := fun _ => [some (.ref p0), some (.long p1), none, none, none, none, none]) (fun _ => rfl) (fun C X E hr ht => ?_)
  have t0_ : tT C p0 11 := ht (p0, 11) (by simp)
  show Jd C 7 (QJ C oV sV) S 0 [some (.ref p0), some (.long p1), none, none, none, none, none] [] (f_X12_appendAmount S p0 p1)
  unfold f_X12_appendAmount
  refine s_run X ok_X12_appendAmount 0 3 (pc' := 3) (vs' := [some (.ref p0), some (.long p1), none, none, none, none, none]) (st' := [.int (lg_cmp p1 0)]) rfl ?_
  refine s_jn (κ := St → Option (St)) (fun k2 => ∀ (S1 : St), Jd C 7 (QJ C oV sV) S1 12 [some (.ref p0), some (.long p1), none, none, none, none, none] [] (k2 S1)) (fun S1 => ?_) (fun k2 h3 => ?_)
  · refine s_run X ok_X12_appendAmount 5 3 (pc' := 15) (vs' := [some (.ref p0), some (.long p1), none, none, none, none, none]) (st' := [.int (lg_cmp p1 0)]) rfl ?_
    refine s_jn (κ := Int64 → Option (St)) (fun k5 => ∀ (x4 : Int64), Jd C 7 (QJ C oV sV) S1 24 [some (.ref p0), none, none, none, none, none, none] [.long x4] (k5 x4)) (fun x4 => ?_) (fun k5 h6 => ?_)
    · refine s_run X ok_X12_appendAmount 12 1 (pc' := 25) (vs' := [some (.ref p0), none, none, some (.long x4), none, none, none]) (st' := []) rfl ?_
      refine s_ldc2 X cl_X12_144 (dk okd_X12_appendAmount 3 rfl) ?_
      refine s_run X ok_X12_appendAmount 13 1 (pc' := 30) (vs' := [some (.ref p0), none, none, some (.long x4), none, some (.long 100), none]) (st' := []) rfl ?_
      refine s_jn (κ := Int64 → Option (St)) (fun k8 => ∀ (x7 : Int64), Jd C 7 (QJ C oV sV) S1 52 [some (.ref p0), none, none, some (.long x4), none, some (.long x7), none] [] (k8 x7)) (fun x7 => ?_) (fun k8 h9 => ?_)
      · refine s_lp (κ := Int64 → St → Option (St)) (fun k12 => ∀ (x10 : Int64) (S11 : St), Jd C 7 (QJ C oV sV) S11 52 [some (.ref p0), none, none, some (.long x4), none, some (.long x10), none] [] (k12 x10 S11)) (fun _ _ => s_none) (fun k12 h13 x10 S11 => ?_) FU x7 S1
        refine s_run X ok_X12_appendAmount 21 3 (pc' := 56) (vs' := [some (.ref p0), none, none, some (.long x4), none, some (.long x10), none]) (st' := [.int (lg_cmp x10 0)]) rfl ?_
        refine s_lif_le (tgt := 101) X (dk okd_X12_appendAmount 8 rfl) (by decide) ?_ ?_
        · exact s_vret X hr (dk okd_X12_appendAmount 18 rfl) rfl rfl
        · refine s_run X ok_X12_appendAmount 24 4 (pc' := 65) (vs' := [some (.ref p0), none, none, some (.long x4), none, some (.long x10), none]) (st' := [.long x10, .long x4, .int 48, .ref p0]) rfl ?_
          refine s_ldiv X (dk okd_X12_appendAmount 9 rfl) ?_
          refine s_ldc2 X cl_X12_276 (dk okd_X12_appendAmount 10 rfl) ?_
          refine s_lrem0 X (dk okd_X12_appendAmount 11 rfl) (by decide) ?_
          refine s_run X ok_X12_appendAmount 28 2 (pc' := 72) (vs' := [some (.ref p0), none, none, some (.long x4), none, some (.long x10), none]) (st' := [.int (48 + (Int64.toInt32 ((x4 / x10) - (x4 / x10) / 10 * 10))), .ref p0]) rfl ?_
          refine s_callV (b := p0) (As := [.int (48 + (Int64.toInt32 ((x4 / x10) - (x4 / x10) / 10 * 10)))]) (rest := []) X E mv_X12_271 (c_X12_append S11 p0 (48 + (Int64.toInt32 ((x4 / x10) - (x4 / x10) / 10 * 10)))) rfl (ta1 t0_) rfl (by decide) t0_ rfl rfl (Nat.le_of_ble_eq_true rfl) (Nat.le_of_ble_eq_true rfl) (Nat.le_of_ble_eq_true rfl) (dk okd_X12_appendAmount 12 rfl) (st' := fun S14 => []) (fun _ => rfl) (fun S14 => ?_)
          refine s_run X ok_X12_appendAmount 30 1 (pc' := 77) (vs' := [some (.ref p0), none, none, some (.long x4), none, some (.long x10), none]) (st' := [.long x10]) rfl ?_
          refine s_ldc2 X cl_X12_144 (dk okd_X12_appendAmount 13 rfl) ?_
          refine s_run X ok_X12_appendAmount 31 1 (pc' := 81) (vs' := [some (.ref p0), none, none, some (.long x4), none, some (.long x10), none]) (st' := [.int (lg_cmp x10 100)]) rfl ?_
          refine s_jn (κ := St → Option (St)) (fun k16 => ∀ (S15 : St), Jd C 7 (QJ C oV sV) S15 90 [some (.ref p0), none, none, some (.long x4), none, some (.long x10), none] [] (k16 S15)) (fun S15 => ?_) (fun k16 h17 => ?_)
          · refine s_run X ok_X12_appendAmount 34 1 (pc' := 92) (vs' := [some (.ref p0), none, none, some (.long x4), none, some (.long x10), none]) (st' := [.long x10]) rfl ?_
            refine s_ldc2 X cl_X12_276 (dk okd_X12_appendAmount 16 rfl) ?_
            refine s_ldiv0 X (dk okd_X12_appendAmount 17 rfl) (by decide) ?_
            refine s_nmJ (fun v18 => ?_)
            refine s_run X ok_X12_appendAmount 35 2 (pc' := 52) (vs' := [some (.ref p0), none, none, some (.long x4), none, some (.long v18), none]) (st' := []) rfl ?_
            exact h13 v18 S15
          · refine s_lif_ne (tgt := 90) X (dk okd_X12_appendAmount 14 rfl) (by decide) ?_ ?_
            · exact h17 S14
            · refine s_run X ok_X12_appendAmount 32 2 (pc' := 87) (vs' := [some (.ref p0), none, none, some (.long x4), none, some (.long x10), none]) (st' := [.int 46, .ref p0]) rfl ?_
              refine s_callV (b := p0) (As := [.int 46]) (rest := []) X E mv_X12_271 (c_X12_append S14 p0 46) rfl (ta1 t0_) rfl (by decide) t0_ rfl rfl (Nat.le_of_ble_eq_true rfl) (Nat.le_of_ble_eq_true rfl) (Nat.le_of_ble_eq_true rfl) (dk okd_X12_appendAmount 15 rfl) (st' := fun S19 => []) (fun _ => rfl) (fun S19 => ?_)
              exact h17 S19
      · refine s_lp (κ := Int64 → Option (St)) (fun k21 => ∀ (x20 : Int64), Jd C 7 (QJ C oV sV) S1 30 [some (.ref p0), none, none, some (.long x4), none, some (.long x20), none] [] (k21 x20)) (fun _ => s_none) (fun k21 h22 x20 => ?_) FU 100
        refine s_run X ok_X12_appendAmount 14 2 (pc' := 33) (vs' := [some (.ref p0), none, none, some (.long x4), none, some (.long x20), none]) (st' := [.long x20, .long x4]) rfl ?_
        refine s_ldiv X (dk okd_X12_appendAmount 4 rfl) ?_
        refine s_ldc2 X cl_X12_274 (dk okd_X12_appendAmount 5 rfl) ?_
        refine s_run X ok_X12_appendAmount 16 1 (pc' := 38) (vs' := [some (.ref p0), none, none, some (.long x4), none, some (.long x20), none]) (st' := [.int (lg_cmp (x4 / x20) 9)]) rfl ?_
        refine s_lif_le (tgt := 52) X (dk okd_X12_appendAmount 6 rfl) (by decide) ?_ ?_
        · exact h9 x20
        · refine s_run X ok_X12_appendAmount 17 1 (pc' := 43) (vs' := [some (.ref p0), none, none, some (.long x4), none, some (.long x20), none]) (st' := [.long x20]) rfl ?_
          refine s_ldc2 X cl_X12_276 (dk okd_X12_appendAmount 7 rfl) ?_
          refine s_run X ok_X12_appendAmount 18 1 (pc' := 47) (vs' := [some (.ref p0), none, none, some (.long x4), none, some (.long x20), none]) (st' := [.long (x20 * 10)]) rfl ?_
          refine s_nmJ (fun v23 => ?_)
          refine s_run X ok_X12_appendAmount 19 2 (pc' := 30) (vs' := [some (.ref p0), none, none, some (.long x4), none, some (.long v23), none]) (st' := []) rfl ?_
          exact h22 v23
    · refine s_lif_ge (tgt := 23) X (dk okd_X12_appendAmount 2 rfl) (by decide) ?_ ?_
      · refine s_run X ok_X12_appendAmount 11 1 (pc' := 24) (vs' := [some (.ref p0), some (.long p1), none, none, none, none, none]) (st' := [.long p1]) rfl ?_
        exact s_less [true, false, false, false, false, false, false] rfl (h6 p1)
      · refine s_run X ok_X12_appendAmount 8 3 (pc' := 24) (vs' := [some (.ref p0), some (.long p1), none, none, none, none, none]) (st' := [.long (-p1)]) rfl ?_
        exact s_less [true, false, false, false, false, false, false] rfl (h6 (-p1))
  · refine s_lif_ge (tgt := 12) X (dk okd_X12_appendAmount 0 rfl) (by decide) ?_ ?_
    · exact h3 S
    · refine s_run X ok_X12_appendAmount 3 2 (pc' := 9) (vs' := [some (.ref p0), some (.long p1), none, none, none, none, none]) (st' := [.int 45, .ref p0]) rfl ?_
      refine s_callV (b := p0) (As := [.int 45]) (rest := []) X E mv_X12_271 (c_X12_append S p0 45) rfl (ta1 t0_) rfl (by decide) t0_ rfl rfl (Nat.le_of_ble_eq_true rfl) (Nat.le_of_ble_eq_true rfl) (Nat.le_of_ble_eq_true rfl) (dk okd_X12_appendAmount 1 rfl) (st' := fun S24 => []) (fun _ => rfl) (fun S24 => ?_)
      exact h3 S24
def tab_X12_formattedByte : List En := [(0, 8, 0, 0), (1, 0, 0, 0), (5, 4, 1, 0), (6, 31, 0, 0), (7, 3, 0, 0), (8, 8, 0, 0), (12, 0, 0, 1), (13, 18, 0, 0), (14, 31, 0, 0), (21, 8, 0, 0), (25, 4, 1, 0), (27, 41, 31, 0), (30, 0, 0, (-1))]
theorem ok_X12_formattedByte : tab_X12_formattedByte.all (okE cX12_formattedByte) = true := by decide +kernel
def ed_X12_formattedByte : List (Nat × Instr × Nat) := [(2, .putfield 50, 3), (9, .getfield 266, 3), (15, .invokestatic 53, 3), (18, .ifCond .eq 12, 3), (22, .getfield 26, 3), (26, .baload, 1), (31, .ireturn, 1)]
theorem okd_X12_formattedByte : ed_X12_formattedByte.all (okD cX12_formattedByte) = true := by decide +kernel
def f_X12_formattedByte (S : St) (p0 : Nat) (p1 : Int32) : Option (Int32 × St) := lt (uI S p0 2 0) fun (S1 : St) => lt (gI S1 p0 7) fun (v2 : Int32) => cl (f_X12_inRange S1 (Int32.toInt64 p1) 0 (Int32.toInt64 (v2 - 1))) fun (v3 : Int32) => if v3 = 0 then (some ((-1), S1)) else (lt (gR S1 p0 6) fun (a4 : Nat) => ldI S1 a4 p1 fun (v6 : Int32) => some (v6, S1))
set_option maxHeartbeats 4000000 in
set_option maxRecDepth 100000 in
theorem c_X12_formattedByte (S : St) (p0 : Nat) (p1 : Int32) : Ct yX12_formattedByte cX12_formattedByte 2 (some .int) 1 25 (fun _ => [.ref p0, .int p1]) [(p0, 11)] S (f_X12_formattedByte S p0 p1) oIS sS := by
  refine Ct_of RX12 rfl (by decide) (fun _ => Nat.le_of_ble_eq_true rfl) 0 (vs := fun _ => [some (.ref p0), some (.int p1)]) (fun _ => rfl) (fun C X E hr ht => ?_)
  have t0_ : tT C p0 11 := ht (p0, 11) (by simp)
  show Jd C 2 (QJ C oIS sS) S 0 [some (.ref p0), some (.int p1)] [] (f_X12_formattedByte S p0 p1)
  unfold f_X12_formattedByte
  refine s_run X ok_X12_formattedByte 0 2 (pc' := 2) (vs' := [some (.ref p0), some (.int p1)]) (st' := [.int 0, .ref p0]) rfl ?_
  refine s_putI X fp_X12_50 t0_ (dk okd_X12_formattedByte 0 rfl) (fun S1 => ?_)
  refine s_run X ok_X12_formattedByte 2 4 (pc' := 9) (vs' := [some (.ref p0), some (.int p1)]) (st' := [.ref p0, .long 0, .long (Int32.toInt64 p1)]) rfl ?_
  refine s_getI X fl_X12_266 t0_ (dk okd_X12_formattedByte 1 rfl) (fun v2 => ?_)
  refine s_run X ok_X12_formattedByte 6 3 (pc' := 15) (vs' := [some (.ref p0), some (.int p1)]) (st' := [.long (Int32.toInt64 (v2 - 1)), .long 0, .long (Int32.toInt64 p1)]) rfl ?_
  refine s_callS (As := [.long (Int32.toInt64 p1), .long 0, .long (Int32.toInt64 (v2 - 1))]) (rest := []) X E ms_X12_53 (c_X12_inRange S1 (Int32.toInt64 p1) 0 (Int32.toInt64 (v2 - 1))) rfl (ta0) rfl rfl (Nat.le_of_ble_eq_true rfl) (Nat.le_of_ble_eq_true rfl) (Nat.le_of_ble_eq_true rfl) (dk okd_X12_formattedByte 2 rfl) (st' := fun v3 => [.int v3]) (fun _ => rfl) (fun v3 => ?_)
  refine s_if_eq (tgt := 30) X (dk okd_X12_formattedByte 3 rfl) (by decide) ?_ ?_
  · refine s_run X ok_X12_formattedByte 12 1 (pc' := 31) (vs' := [some (.ref p0), some (.int p1)]) (st' := [.int (-1)]) rfl ?_
    exact s_iret X hr (dk okd_X12_formattedByte 6 rfl) rfl rfl
  · refine s_run X ok_X12_formattedByte 9 1 (pc' := 22) (vs' := [some (.ref p0), some (.int p1)]) (st' := [.ref p0]) rfl ?_
    refine s_getR X fl_X12_26 t0_ (dk okd_X12_formattedByte 4 rfl) (fun a4 (t5 : tT C a4 12) => ?_)
    refine s_run X ok_X12_formattedByte 10 1 (pc' := 26) (vs' := [some (.ref p0), some (.int p1)]) (st' := [.int p1, .ref a4]) rfl ?_
    refine s_bald X t5 (dk okd_X12_formattedByte 5 rfl) (fun v6 => ?_)
    refine s_run X ok_X12_formattedByte 11 1 (pc' := 31) (vs' := [some (.ref p0), some (.int p1)]) (st' := [.int v6]) rfl ?_
    exact s_iret X hr (dk okd_X12_formattedByte 6 rfl) rfl rfl
def tab_X12_appendBytes : List En := [(0, 1, 0, 24), (2, 10, 2, 0), (3, 4, 2, 0), (7, 8, 0, 0), (11, 8, 0, 0), (15, 4, 1, 0), (16, 4, 2, 0), (17, 30, 0, 0), (18, 33, 0, 0), (20, 8, 0, 0), (21, 36, 0, 0), (25, 0, 0, 1), (26, 17, 0, 0), (30, 16, 2, (-8)), (33, 41, 3, 0)]
theorem ok_X12_appendBytes : tab_X12_appendBytes.all (okE cX12_appendBytes) = true := by decide +kernel
def ed_X12_appendBytes : List (Nat × Instr × Nat) := [(4, .ifCond .lt 32, 3), (8, .getfield 30, 3), (12, .getfield 296, 3), (19, .bastore, 1), (22, .getfield 296, 3), (27, .putfield 296, 3), (36, .return_, 1)]
theorem okd_X12_appendBytes : ed_X12_appendBytes.all (okD cX12_appendBytes) = true := by decide +kernel
def f_X12_appendBytes (S : St) (p0 : Nat) (p1 : Int32) : Option (St) := lp (κ := Int32 → St → Option (St)) (fun _ _ => none) (fun k3 x1 S2 => if x1 < 0 then (some S2) else (lt (gR S2 p0 8) fun (a5 : Nat) => lt (gI S2 p0 9) fun (v7 : Int32) => stI S2 a5 v7 (vp_nar .byte (Int8.toInt32 (Int32.toInt8 (p1 >>> (x1 &&& 31))))) fun (S8 : St) => lt (gI S8 p0 9) fun (v9 : Int32) => lt (uI S8 p0 9 (v9 + 1)) fun (S10 : St) => k3 (x1 + (-8)) S10)) FU 24 S
set_option maxHeartbeats 4000000 in
set_option maxRecDepth 100000 in
theorem c_X12_appendBytes (S : St) (p0 : Nat) (p1 : Int32) : Ct yX12_appendBytes cX12_appendBytes 3 none 0 0 (fun _ => [.ref p0, .int p1]) [(p0, 11)] S (f_X12_appendBytes S p0 p1) oV sV := by
  refine Ct_of RX12 rfl (by decide) (fun _ => Nat.le_of_ble_eq_true rfl) 1 (vs := fun _ => [some (.ref p0), some (.int p1), none]) (fun _ => rfl) (fun C X E hr ht => ?_)
  have t0_ : tT C p0 11 := ht (p0, 11) (by simp)
  show Jd C 3 (QJ C oV sV) S 0 [some (.ref p0), some (.int p1), none] [] (f_X12_appendBytes S p0 p1)
  unfold f_X12_appendBytes
  refine s_run X ok_X12_appendBytes 0 2 (pc' := 3) (vs' := [some (.ref p0), some (.int p1), some (.int 24)]) (st' := []) rfl ?_
  refine s_lp (κ := Int32 → St → Option (St)) (fun k3 => ∀ (x1 : Int32) (S2 : St), Jd C 3 (QJ C oV sV) S2 3 [some (.ref p0), some (.int p1), some (.int x1)] [] (k3 x1 S2)) (fun _ _ => s_none) (fun k3 h4 x1 S2 => ?_) FU 24 S
  refine s_run X ok_X12_appendBytes 2 1 (pc' := 4) (vs' := [some (.ref p0), some (.int p1), some (.int x1)]) (st' := [.int x1]) rfl ?_
  refine s_if_lt (tgt := 36) X (dk okd_X12_appendBytes 0 rfl) (by decide) ?_ ?_
  · exact s_vret X hr (dk okd_X12_appendBytes 6 rfl) rfl rfl
  · refine s_run X ok_X12_appendBytes 3 1 (pc' := 8) (vs' := [some (.ref p0), some (.int p1), some (.int x1)]) (st' := [.ref p0]) rfl ?_
    refine s_getR X fl_X12_30 t0_ (dk okd_X12_appendBytes 1 rfl) (fun a5 (t6 : tT C a5 12) => ?_)
    refine s_run X ok_X12_appendBytes 4 1 (pc' := 12) (vs' := [some (.ref p0), some (.int p1), some (.int x1)]) (st' := [.ref p0, .ref a5]) rfl ?_
    refine s_getI X fl_X12_296 t0_ (dk okd_X12_appendBytes 2 rfl) (fun v7 => ?_)
    refine s_run X ok_X12_appendBytes 5 4 (pc' := 19) (vs' := [some (.ref p0), some (.int p1), some (.int x1)]) (st' := [.int (Int8.toInt32 (Int32.toInt8 (p1 >>> (x1 &&& 31)))), .int v7, .ref a5]) rfl ?_
    refine s_bast X t6 (dk okd_X12_appendBytes 3 rfl) (fun S8 => ?_)
    refine s_run X ok_X12_appendBytes 9 2 (pc' := 22) (vs' := [some (.ref p0), some (.int p1), some (.int x1)]) (st' := [.ref p0, .ref p0]) rfl ?_
    refine s_getI X fl_X12_296 t0_ (dk okd_X12_appendBytes 4 rfl) (fun v9 => ?_)
    refine s_run X ok_X12_appendBytes 11 2 (pc' := 27) (vs' := [some (.ref p0), some (.int p1), some (.int x1)]) (st' := [.int (v9 + 1), .ref p0]) rfl ?_
    refine s_putI X fp_X12_296 t0_ (dk okd_X12_appendBytes 5 rfl) (fun S10 => ?_)
    refine s_run X ok_X12_appendBytes 13 2 (pc' := 3) (vs' := [some (.ref p0), some (.int p1), some (.int (x1 + (-8)))]) (st' := []) rfl ?_
    exact h4 (x1 + (-8)) S10
def tab_X12_appendInput : List En := [(0, 8, 0, 0), (1, 0, 0, 0), (5, 8, 0, 0), (9, 1, 0, 20), (11, 17, 0, 0), (12, 2, 0, 1500), (18, 0, 0, (-1)), (20, 8, 0, 0), (21, 4, 1, 0), (25, 8, 0, 0), (26, 4, 2, 0), (30, 8, 0, 0), (31, 4, 3, 0), (35, 8, 0, 0), (36, 5, 4, 0), (41, 8, 0, 0), (42, 5, 5, 0), (47, 8, 0, 0)]
theorem ok_X12_appendInput : tab_X12_appendInput.all (okE cX12_appendInput) = true := by decide +kernel
def ed_X12_appendInput : List (Nat × Instr × Nat) := [(2, .putfield 50, 3), (6, .getfield 296, 3), (15, .if_icmp .le 5, 3), (19, .ireturn, 1), (22, .invokevirtual 299, 3), (27, .invokevirtual 299, 3), (32, .invokevirtual 299, 3), (38, .invokevirtual 299, 3), (44, .invokevirtual 299, 3), (48, .getfield 296, 3), (51, .ireturn, 1)]
theorem okd_X12_appendInput : ed_X12_appendInput.all (okD cX12_appendInput) = true := by decide +kernel
def f_X12_appendInput (S : St) (p0 : Nat) (p1 : Int32) (p2 : Int32) (p3 : Int32) (p4 : Int32) (p5 : Int32) : Option (Int32 × St) := lt (uI S p0 2 0) fun (S1 : St) => lt (gI S1 p0 9) fun (v2 : Int32) => if (v2 + 20) ≤ 1500 then (cl (f_X12_appendBytes S1 p0 p1) fun (S3 : St) => cl (f_X12_appendBytes S3 p0 p2) fun (S4 : St) => cl (f_X12_appendBytes S4 p0 p3) fun (S5 : St) => cl (f_X12_appendBytes S5 p0 p4) fun (S6 : St) => cl (f_X12_appendBytes S6 p0 p5) fun (S7 : St) => lt (gI S7 p0 9) fun (v8 : Int32) => some (v8, S7)) else (some ((-1), S1))
set_option maxHeartbeats 4000000 in
set_option maxRecDepth 100000 in
theorem c_X12_appendInput (S : St) (p0 : Nat) (p1 : Int32) (p2 : Int32) (p3 : Int32) (p4 : Int32) (p5 : Int32) : Ct yX12_appendInput cX12_appendInput 6 (some .int) 1 22 (fun _ => [.ref p0, .int p1, .int p2, .int p3, .int p4, .int p5]) [(p0, 11)] S (f_X12_appendInput S p0 p1 p2 p3 p4 p5) oIS sS := by
  refine Ct_of RX12 rfl (by decide) (fun _ => Nat.le_of_ble_eq_true rfl) 0 (vs := fun _ => [some (.ref p0), some (.int p1), some (.int p2), some (.int p3), some (.int p4), some (.int p5)]) (fun _ => rfl) (fun C X E hr ht => ?_)
  have t0_ : tT C p0 11 := ht (p0, 11) (by simp)
  show Jd C 6 (QJ C oIS sS) S 0 [some (.ref p0), some (.int p1), some (.int p2), some (.int p3), some (.int p4), some (.int p5)] [] (f_X12_appendInput S p0 p1 p2 p3 p4 p5)
  unfold f_X12_appendInput
  refine s_run X ok_X12_appendInput 0 2 (pc' := 2) (vs' := [some (.ref p0), some (.int p1), some (.int p2), some (.int p3), some (.int p4), some (.int p5)]) (st' := [.int 0, .ref p0]) rfl ?_
  refine s_putI X fp_X12_50 t0_ (dk okd_X12_appendInput 0 rfl) (fun S1 => ?_)
  refine s_run X ok_X12_appendInput 2 1 (pc' := 6) (vs' := [some (.ref p0), some (.int p1), some (.int p2), some (.int p3), some (.int p4), some (.int p5)]) (st' := [.ref p0]) rfl ?_
  refine s_getI X fl_X12_296 t0_ (dk okd_X12_appendInput 1 rfl) (fun v2 => ?_)
  refine s_run X ok_X12_appendInput 3 3 (pc' := 15) (vs' := [some (.ref p0), some (.int p1), some (.int p2), some (.int p3), some (.int p4), some (.int p5)]) (st' := [.int 1500, .int (v2 + 20)]) rfl ?_
  refine s_icmp_le (tgt := 20) X (dk okd_X12_appendInput 2 rfl) (by decide) ?_ ?_
  · refine s_run X ok_X12_appendInput 7 2 (pc' := 22) (vs' := [some (.ref p0), some (.int p1), some (.int p2), some (.int p3), some (.int p4), some (.int p5)]) (st' := [.int p1, .ref p0]) rfl ?_
    refine s_callV (b := p0) (As := [.int p1]) (rest := []) X E mv_X12_299 (c_X12_appendBytes S1 p0 p1) rfl (ta1 t0_) rfl (by decide) t0_ rfl rfl (Nat.le_of_ble_eq_true rfl) (Nat.le_of_ble_eq_true rfl) (Nat.le_of_ble_eq_true rfl) (dk okd_X12_appendInput 4 rfl) (st' := fun S3 => []) (fun _ => rfl) (fun S3 => ?_)
    refine s_run X ok_X12_appendInput 9 2 (pc' := 27) (vs' := [some (.ref p0), some (.int p1), some (.int p2), some (.int p3), some (.int p4), some (.int p5)]) (st' := [.int p2, .ref p0]) rfl ?_
    refine s_callV (b := p0) (As := [.int p2]) (rest := []) X E mv_X12_299 (c_X12_appendBytes S3 p0 p2) rfl (ta1 t0_) rfl (by decide) t0_ rfl rfl (Nat.le_of_ble_eq_true rfl) (Nat.le_of_ble_eq_true rfl) (Nat.le_of_ble_eq_true rfl) (dk okd_X12_appendInput 5 rfl) (st' := fun S4 => []) (fun _ => rfl) (fun S4 => ?_)
    refine s_run X ok_X12_appendInput 11 2 (pc' := 32) (vs' := [some (.ref p0), some (.int p1), some (.int p2), some (.int p3), some (.int p4), some (.int p5)]) (st' := [.int p3, .ref p0]) rfl ?_
    refine s_callV (b := p0) (As := [.int p3]) (rest := []) X E mv_X12_299 (c_X12_appendBytes S4 p0 p3) rfl (ta1 t0_) rfl (by decide) t0_ rfl rfl (Nat.le_of_ble_eq_true rfl) (Nat.le_of_ble_eq_true rfl) (Nat.le_of_ble_eq_true rfl) (dk okd_X12_appendInput 6 rfl) (st' := fun S5 => []) (fun _ => rfl) (fun S5 => ?_)
    refine s_run X ok_X12_appendInput 13 2 (pc' := 38) (vs' := [some (.ref p0), some (.int p1), some (.int p2), some (.int p3), some (.int p4), some (.int p5)]) (st' := [.int p4, .ref p0]) rfl ?_
    refine s_callV (b := p0) (As := [.int p4]) (rest := []) X E mv_X12_299 (c_X12_appendBytes S5 p0 p4) rfl (ta1 t0_) rfl (by decide) t0_ rfl rfl (Nat.le_of_ble_eq_true rfl) (Nat.le_of_ble_eq_true rfl) (Nat.le_of_ble_eq_true rfl) (dk okd_X12_appendInput 7 rfl) (st' := fun S6 => []) (fun _ => rfl) (fun S6 => ?_)
    refine s_run X ok_X12_appendInput 15 2 (pc' := 44) (vs' := [some (.ref p0), some (.int p1), some (.int p2), some (.int p3), some (.int p4), some (.int p5)]) (st' := [.int p5, .ref p0]) rfl ?_
    refine s_callV (b := p0) (As := [.int p5]) (rest := []) X E mv_X12_299 (c_X12_appendBytes S6 p0 p5) rfl (ta1 t0_) rfl (by decide) t0_ rfl rfl (Nat.le_of_ble_eq_true rfl) (Nat.le_of_ble_eq_true rfl) (Nat.le_of_ble_eq_true rfl) (dk okd_X12_appendInput 8 rfl) (st' := fun S7 => []) (fun _ => rfl) (fun S7 => ?_)
    refine s_run X ok_X12_appendInput 17 1 (pc' := 48) (vs' := [some (.ref p0), some (.int p1), some (.int p2), some (.int p3), some (.int p4), some (.int p5)]) (st' := [.ref p0]) rfl ?_
    refine s_getI X fl_X12_296 t0_ (dk okd_X12_appendInput 9 rfl) (fun v8 => ?_)
    exact s_iret X hr (dk okd_X12_appendInput 10 rfl) rfl rfl
  · refine s_run X ok_X12_appendInput 6 1 (pc' := 19) (vs' := [some (.ref p0), some (.int p1), some (.int p2), some (.int p3), some (.int p4), some (.int p5)]) (st' := [.int (-1)]) rfl ?_
    exact s_iret X hr (dk okd_X12_appendInput 3 rfl) rfl rfl
def tab_X12_truncateInput : List En := [(0, 8, 0, 0), (1, 0, 0, 0), (5, 4, 1, 0), (6, 31, 0, 0), (7, 3, 0, 0), (8, 8, 0, 0), (12, 31, 0, 0), (19, 0, 0, (-1)), (21, 8, 0, 0), (22, 4, 1, 0), (26, 4, 1, 0)]
theorem ok_X12_truncateInput : tab_X12_truncateInput.all (okE cX12_truncateInput) = true := by decide +kernel
def ed_X12_truncateInput : List (Nat × Instr × Nat) := [(2, .putfield 50, 3), (9, .getfield 296, 3), (13, .invokestatic 53, 3), (16, .ifCond .ne 5, 3), (20, .ireturn, 1), (23, .putfield 296, 3), (27, .ireturn, 1)]
theorem okd_X12_truncateInput : ed_X12_truncateInput.all (okD cX12_truncateInput) = true := by decide +kernel
def f_X12_truncateInput (S : St) (p0 : Nat) (p1 : Int32) : Option (Int32 × St) := lt (uI S p0 2 0) fun (S1 : St) => lt (gI S1 p0 9) fun (v2 : Int32) => cl (f_X12_inRange S1 (Int32.toInt64 p1) 0 (Int32.toInt64 v2)) fun (v3 : Int32) => if v3 = 0 then (some ((-1), S1)) else (lt (uI S1 p0 9 p1) fun (S4 : St) => some (p1, S4))
set_option maxHeartbeats 4000000 in
set_option maxRecDepth 100000 in
theorem c_X12_truncateInput (S : St) (p0 : Nat) (p1 : Int32) : Ct yX12_truncateInput cX12_truncateInput 2 (some .int) 1 25 (fun _ => [.ref p0, .int p1]) [(p0, 11)] S (f_X12_truncateInput S p0 p1) oIS sS := by
  refine Ct_of RX12 rfl (by decide) (fun _ => Nat.le_of_ble_eq_true rfl) 0 (vs := fun _ => [some (.ref p0), some (.int p1)]) (fun _ => rfl) (fun C X E hr ht => ?_)
  have t0_ : tT C p0 11 := ht (p0, 11) (by simp)
  show Jd C 2 (QJ C oIS sS) S 0 [some (.ref p0), some (.int p1)] [] (f_X12_truncateInput S p0 p1)
  unfold f_X12_truncateInput
  refine s_run X ok_X12_truncateInput 0 2 (pc' := 2) (vs' := [some (.ref p0), some (.int p1)]) (st' := [.int 0, .ref p0]) rfl ?_
  refine s_putI X fp_X12_50 t0_ (dk okd_X12_truncateInput 0 rfl) (fun S1 => ?_)
  refine s_run X ok_X12_truncateInput 2 4 (pc' := 9) (vs' := [some (.ref p0), some (.int p1)]) (st' := [.ref p0, .long 0, .long (Int32.toInt64 p1)]) rfl ?_
  refine s_getI X fl_X12_296 t0_ (dk okd_X12_truncateInput 1 rfl) (fun v2 => ?_)
  refine s_run X ok_X12_truncateInput 6 1 (pc' := 13) (vs' := [some (.ref p0), some (.int p1)]) (st' := [.long (Int32.toInt64 v2), .long 0, .long (Int32.toInt64 p1)]) rfl ?_
  refine s_callS (As := [.long (Int32.toInt64 p1), .long 0, .long (Int32.toInt64 v2)]) (rest := []) X E ms_X12_53 (c_X12_inRange S1 (Int32.toInt64 p1) 0 (Int32.toInt64 v2)) rfl (ta0) rfl rfl (Nat.le_of_ble_eq_true rfl) (Nat.le_of_ble_eq_true rfl) (Nat.le_of_ble_eq_true rfl) (dk okd_X12_truncateInput 2 rfl) (st' := fun v3 => [.int v3]) (fun _ => rfl) (fun v3 => ?_)
  refine s_if_ne (tgt := 21) X (dk okd_X12_truncateInput 3 rfl) (by decide) ?_ ?_
  · refine s_run X ok_X12_truncateInput 8 2 (pc' := 23) (vs' := [some (.ref p0), some (.int p1)]) (st' := [.int p1, .ref p0]) rfl ?_
    refine s_putI X fp_X12_296 t0_ (dk okd_X12_truncateInput 5 rfl) (fun S4 => ?_)
    refine s_run X ok_X12_truncateInput 10 1 (pc' := 27) (vs' := [some (.ref p0), some (.int p1)]) (st' := [.int p1]) rfl ?_
    exact s_iret X hr (dk okd_X12_truncateInput 6 rfl) rfl rfl
  · refine s_run X ok_X12_truncateInput 7 1 (pc' := 20) (vs' := [some (.ref p0), some (.int p1)]) (st' := [.int (-1)]) rfl ?_
    exact s_iret X hr (dk okd_X12_truncateInput 4 rfl) rfl rfl
def tab_X12_errorCode : List En := [(0, 8, 0, 0), (1, 0, 0, 0), (5, 8, 0, 0)]
theorem ok_X12_errorCode : tab_X12_errorCode.all (okE cX12_errorCode) = true := by decide +kernel
def ed_X12_errorCode : List (Nat × Instr × Nat) := [(2, .putfield 50, 3), (6, .getfield 302, 3), (9, .ireturn, 1)]
theorem okd_X12_errorCode : ed_X12_errorCode.all (okD cX12_errorCode) = true := by decide +kernel
def f_X12_errorCode (S : St) (p0 : Nat) : Option (Int32 × St) := lt (uI S p0 2 0) fun (S1 : St) => lt (gI S1 p0 11) fun (v2 : Int32) => some (v2, S1)
set_option maxHeartbeats 4000000 in
set_option maxRecDepth 100000 in
theorem c_X12_errorCode (S : St) (p0 : Nat) : Ct yX12_errorCode cX12_errorCode 1 (some .int) 0 0 (fun _ => [.ref p0]) [(p0, 11)] S (f_X12_errorCode S p0) oIS sS := by
  refine Ct_of RX12 rfl (by decide) (fun _ => Nat.le_of_ble_eq_true rfl) 0 (vs := fun _ => [some (.ref p0)]) (fun _ => rfl) (fun C X E hr ht => ?_)
  have t0_ : tT C p0 11 := ht (p0, 11) (by simp)
  show Jd C 1 (QJ C oIS sS) S 0 [some (.ref p0)] [] (f_X12_errorCode S p0)
  unfold f_X12_errorCode
  refine s_run X ok_X12_errorCode 0 2 (pc' := 2) (vs' := [some (.ref p0)]) (st' := [.int 0, .ref p0]) rfl ?_
  refine s_putI X fp_X12_50 t0_ (dk okd_X12_errorCode 0 rfl) (fun S1 => ?_)
  refine s_run X ok_X12_errorCode 2 1 (pc' := 6) (vs' := [some (.ref p0)]) (st' := [.ref p0]) rfl ?_
  refine s_getI X fl_X12_302 t0_ (dk okd_X12_errorCode 1 rfl) (fun v2 => ?_)
  exact s_iret X hr (dk okd_X12_errorCode 2 rfl) rfl rfl
def tab_X12_errorPosition : List En := [(0, 8, 0, 0), (1, 0, 0, 0), (5, 8, 0, 0)]
theorem ok_X12_errorPosition : tab_X12_errorPosition.all (okE cX12_errorPosition) = true := by decide +kernel
def ed_X12_errorPosition : List (Nat × Instr × Nat) := [(2, .putfield 50, 3), (6, .getfield 33, 3), (9, .ireturn, 1)]
theorem okd_X12_errorPosition : ed_X12_errorPosition.all (okD cX12_errorPosition) = true := by decide +kernel
def f_X12_errorPosition (S : St) (p0 : Nat) : Option (Int32 × St) := lt (uI S p0 2 0) fun (S1 : St) => lt (gI S1 p0 12) fun (v2 : Int32) => some (v2, S1)
set_option maxHeartbeats 4000000 in
set_option maxRecDepth 100000 in
theorem c_X12_errorPosition (S : St) (p0 : Nat) : Ct yX12_errorPosition cX12_errorPosition 1 (some .int) 0 0 (fun _ => [.ref p0]) [(p0, 11)] S (f_X12_errorPosition S p0) oIS sS := by
  refine Ct_of RX12 rfl (by decide) (fun _ => Nat.le_of_ble_eq_true rfl) 0 (vs := fun _ => [some (.ref p0)]) (fun _ => rfl) (fun C X E hr ht => ?_)
  have t0_ : tT C p0 11 := ht (p0, 11) (by simp)
  show Jd C 1 (QJ C oIS sS) S 0 [some (.ref p0)] [] (f_X12_errorPosition S p0)
  unfold f_X12_errorPosition
  refine s_run X ok_X12_errorPosition 0 2 (pc' := 2) (vs' := [some (.ref p0)]) (st' := [.int 0, .ref p0]) rfl ?_
  refine s_putI X fp_X12_50 t0_ (dk okd_X12_errorPosition 0 rfl) (fun S1 => ?_)
  refine s_run X ok_X12_errorPosition 2 1 (pc' := 6) (vs' := [some (.ref p0)]) (st' := [.ref p0]) rfl ?_
  refine s_getI X fl_X12_33 t0_ (dk okd_X12_errorPosition 1 rfl) (fun v2 => ?_)
  exact s_iret X hr (dk okd_X12_errorPosition 2 rfl) rfl rfl
def tab_X12_byteAt : List En := [(0, 4, 1, 0), (1, 8, 0, 0), (8, 8, 0, 0), (12, 4, 1, 0), (14, 2, 0, 255), (17, 20, 0, 0), (18, 41, 22, 0), (21, 0, 0, (-1))]
theorem ok_X12_byteAt : tab_X12_byteAt.all (okE cX12_byteAt) = true := by decide +kernel
def ed_X12_byteAt : List (Nat × Instr × Nat) := [(2, .getfield 296, 3), (5, .if_icmp .ge 16, 3), (9, .getfield 30, 3), (13, .baload, 1), (22, .ireturn, 1)]
theorem okd_X12_byteAt : ed_X12_byteAt.all (okD cX12_byteAt) = true := by decide +kernel
def f_X12_byteAt (S : St) (p0 : Nat) (p1 : Int32) : Option (Int32) := lt (gI S p0 9) fun (v1 : Int32) => if v1 ≤ p1 then (some (-1)) else (lt (gR S p0 8) fun (a2 : Nat) => ldI S a2 p1 fun (v4 : Int32) => some (v4 &&& 255))
set_option maxHeartbeats 4000000 in
set_option maxRecDepth 100000 in
theorem c_X12_byteAt (S : St) (p0 : Nat) (p1 : Int32) : Ct yX12_byteAt cX12_byteAt 2 (some .int) 0 0 (fun _ => [.ref p0, .int p1]) [(p0, 11)] S (f_X12_byteAt S p0 p1) oI (fun _ => S) := by
  refine Ct_of RX12 rfl (by decide) (fun _ => Nat.le_of_ble_eq_true rfl) 0 (vs := fun _ => [some (.ref p0), some (.int p1)]) (fun _ => rfl) (fun C X E hr ht => ?_)
  have t0_ : tT C p0 11 := ht (p0, 11) (by simp)
  show Jd C 2 (QJ C oI (fun _ => S)) S 0 [some (.ref p0), some (.int p1)] [] (f_X12_byteAt S p0 p1)
  unfold f_X12_byteAt
  refine s_run X ok_X12_byteAt 0 2 (pc' := 2) (vs' := [some (.ref p0), some (.int p1)]) (st' := [.ref p0, .int p1]) rfl ?_
  refine s_getI X fl_X12_296 t0_ (dk okd_X12_byteAt 0 rfl) (fun v1 => ?_)
  refine s_icmp_ge (tgt := 21) X (dk okd_X12_byteAt 1 rfl) (by decide) ?_ ?_
  · refine s_run X ok_X12_byteAt 7 1 (pc' := 22) (vs' := [some (.ref p0), some (.int p1)]) (st' := [.int (-1)]) rfl ?_
    exact s_iret X hr (dk okd_X12_byteAt 4 rfl) rfl rfl
  · refine s_run X ok_X12_byteAt 2 1 (pc' := 9) (vs' := [some (.ref p0), some (.int p1)]) (st' := [.ref p0]) rfl ?_
    refine s_getR X fl_X12_30 t0_ (dk okd_X12_byteAt 2 rfl) (fun a2 (t3 : tT C a2 12) => ?_)
    refine s_run X ok_X12_byteAt 3 1 (pc' := 13) (vs' := [some (.ref p0), some (.int p1)]) (st' := [.int p1, .ref a2]) rfl ?_
    refine s_bald X t3 (dk okd_X12_byteAt 3 rfl) (fun v4 => ?_)
    refine s_run X ok_X12_byteAt 4 3 (pc' := 22) (vs' := [some (.ref p0), some (.int p1)]) (st' := [.int (v4 &&& 255)]) rfl ?_
    exact s_iret X hr (dk okd_X12_byteAt 4 rfl) rfl rfl
def tab_X12_isLetter : List En := [(0, 4, 0, 0), (1, 31, 0, 0)]
theorem ok_X12_isLetter : tab_X12_isLetter.all (okE cX12_isLetter) = true := by decide +kernel
def ed_X12_isLetter : List (Nat × Instr × Nat) := [(2, .ldc2_w 305, 3), (5, .ldc2_w 307, 3), (8, .invokestatic 53, 3), (11, .ireturn, 1)]
theorem okd_X12_isLetter : ed_X12_isLetter.all (okD cX12_isLetter) = true := by decide +kernel
def f_X12_isLetter (S : St) (p0 : Int32) : Option (Int32) := cl (f_X12_inRange S (Int32.toInt64 p0) 97 122) fun (v1 : Int32) => zc v1 (some v1)
set_option maxHeartbeats 4000000 in
set_option maxRecDepth 100000 in
theorem c_X12_isLetter (S : St) (p0 : Int32) : Ct yX12_isLetter cX12_isLetter 1 (some .boolean) 1 25 (fun _ => [.int p0]) [] S (f_X12_isLetter S p0) oI (fun _ => S) := by
  refine Ct_of RX12 rfl (by decide) (fun _ => Nat.le_of_ble_eq_true rfl) 0 (vs := fun _ => [some (.int p0)]) (fun _ => rfl) (fun C X E hr ht => ?_)
  show Jd C 1 (QJ C oI (fun _ => S)) S 0 [some (.int p0)] [] (f_X12_isLetter S p0)
  unfold f_X12_isLetter
  refine s_run X ok_X12_isLetter 0 2 (pc' := 2) (vs' := [some (.int p0)]) (st' := [.long (Int32.toInt64 p0)]) rfl ?_
  refine s_ldc2 X cl_X12_305 (dk okd_X12_isLetter 0 rfl) ?_
  refine s_ldc2 X cl_X12_307 (dk okd_X12_isLetter 1 rfl) ?_
  refine s_callS (As := [.long (Int32.toInt64 p0), .long 97, .long 122]) (rest := []) X E ms_X12_53 (c_X12_inRange S (Int32.toInt64 p0) 97 122) rfl (ta0) rfl rfl (Nat.le_of_ble_eq_true rfl) (Nat.le_of_ble_eq_true rfl) (Nat.le_of_ble_eq_true rfl) (dk okd_X12_isLetter 2 rfl) (st' := fun v1 => [.int v1]) (fun _ => rfl) (fun v1 => ?_)
  exact s_zret X hr (dk okd_X12_isLetter 3 rfl) rfl rfl
def tab_X12_isDigit : List En := [(0, 4, 0, 0), (1, 31, 0, 0)]
theorem ok_X12_isDigit : tab_X12_isDigit.all (okE cX12_isDigit) = true := by decide +kernel
def ed_X12_isDigit : List (Nat × Instr × Nat) := [(2, .ldc2_w 309, 3), (5, .ldc2_w 311, 3), (8, .invokestatic 53, 3), (11, .ireturn, 1)]
theorem okd_X12_isDigit : ed_X12_isDigit.all (okD cX12_isDigit) = true := by decide +kernel
def f_X12_isDigit (S : St) (p0 : Int32) : Option (Int32) := cl (f_X12_inRange S (Int32.toInt64 p0) 48 57) fun (v1 : Int32) => zc v1 (some v1)
set_option maxHeartbeats 4000000 in
set_option maxRecDepth 100000 in
theorem c_X12_isDigit (S : St) (p0 : Int32) : Ct yX12_isDigit cX12_isDigit 1 (some .boolean) 1 25 (fun _ => [.int p0]) [] S (f_X12_isDigit S p0) oI (fun _ => S) := by
  refine Ct_of RX12 rfl (by decide) (fun _ => Nat.le_of_ble_eq_true rfl) 0 (vs := fun _ => [some (.int p0)]) (fun _ => rfl) (fun C X E hr ht => ?_)
  show Jd C 1 (QJ C oI (fun _ => S)) S 0 [some (.int p0)] [] (f_X12_isDigit S p0)
  unfold f_X12_isDigit
  refine s_run X ok_X12_isDigit 0 2 (pc' := 2) (vs' := [some (.int p0)]) (st' := [.long (Int32.toInt64 p0)]) rfl ?_
  refine s_ldc2 X cl_X12_309 (dk okd_X12_isDigit 0 rfl) ?_
  refine s_ldc2 X cl_X12_311 (dk okd_X12_isDigit 1 rfl) ?_
  refine s_callS (As := [.long (Int32.toInt64 p0), .long 48, .long 57]) (rest := []) X E ms_X12_53 (c_X12_inRange S (Int32.toInt64 p0) 48 57) rfl (ta0) rfl rfl (Nat.le_of_ble_eq_true rfl) (Nat.le_of_ble_eq_true rfl) (Nat.le_of_ble_eq_true rfl) (dk okd_X12_isDigit 2 rfl) (st' := fun v1 => [.int v1]) (fun _ => rfl) (fun v1 => ?_)
  exact s_zret X hr (dk okd_X12_isDigit 3 rfl) rfl rfl
def tab_X12_advance : List En := [(0, 8, 0, 0), (1, 8, 0, 0), (8, 1, 0, 32), (13, 8, 0, 0), (14, 8, 0, 0), (21, 1, 0, 10), (26, 8, 0, 0), (27, 36, 0, 0), (31, 0, 0, 1), (32, 17, 0, 0), (36, 41, 0, 0), (39, 8, 0, 0), (40, 8, 0, 0), (47, 8, 0, 0), (48, 3, 0, 0), (52, 8, 0, 0), (53, 8, 0, 0), (60, 10, 1, 0), (61, 8, 0, 0), (62, 4, 1, 0), (63, 0, 0, (-1)), (67, 0, 0, 0), (68, 41, 104, 0), (71, 4, 1, 0), (78, 0, 0, 1), (79, 41, 104, 0), (82, 4, 1, 0), (89, 0, 0, 2), (90, 41, 104, 0), (93, 4, 1, 0), (94, 1, 0, 59), (99, 0, 0, 3), (100, 41, 104, 0), (103, 0, 0, 4), (107, 8, 0, 0), (111, 0, 0, 3), (115, 8, 0, 0), (119, 0, 0, 4), (123, 8, 0, 0), (124, 36, 0, 0), (128, 0, 0, 1), (129, 17, 0, 0), (133, 8, 0, 0), (137, 0, 0, 1), (141, 8, 0, 0), (142, 8, 0, 0), (155, 8, 0, 0), (159, 8, 0, 0), (163, 18, 0, 0), (164, 1, 0, 10), (169, 8, 0, 0), (170, 8, 0, 0), (177, 25, 0, 0), (178, 8, 0, 0), (179, 8, 0, 0), (186, 31, 0, 0), (187, 23, 0, 0), (191, 24, 0, 0), (195, 8, 0, 0), (196, 36, 0, 0), (200, 0, 0, 1), (201, 17, 0, 0), (205, 41, 133, 0), (208, 8, 0, 0), (212, 0, 0, 2), (216, 8, 0, 0), (217, 8, 0, 0), (230, 8, 0, 0), (234, 8, 0, 0), (238, 18, 0, 0), (239, 1, 0, 6), (244, 8, 0, 0), (245, 8, 0, 0), (252, 25, 0, 0), (253, 8, 0, 0), (254, 8, 0, 0), (261, 31, 0, 0), (262, 23, 0, 0), (266, 24, 0, 0), (270, 8, 0, 0), (271, 36, 0, 0), (275, 0, 0, 1), (276, 17, 0, 0), (280, 41, 208, 0), (283, 8, 0, 0), (287, 0, 0, 1), (291, 8, 0, 0), (295, 8, 0, 0), (299, 18, 0, 0), (300, 1, 0, 10), (305, 8, 0, 0), (309, 0, 0, 2), (313, 8, 0, 0), (317, 8, 0, 0), (321, 18, 0, 0), (322, 1, 0, 6), (327, 8, 0, 0), (328, 0, 0, 4)]
theorem ok_X12_advance : tab_X12_advance.all (okE cX12_advance) = true := by decide +kernel
def ed_X12_advance : List (Nat × Instr × Nat) := [(2, .getfield 313, 3), (5, .invokevirtual 316, 3), (10, .if_icmp .eq 16, 3), (15, .getfield 313, 3), (18, .invokevirtual 316, 3), (23, .if_icmp .ne 16, 3), (28, .getfield 313, 3), (33, .putfield 313, 3), (41, .getfield 313, 3), (44, .putfield 319, 3), (49, .putfield 322, 3), (54, .getfield 319, 3), (57, .invokevirtual 316, 3), (64, .if_icmp .ne 7, 3), (72, .invokestatic 326, 3), (75, .ifCond .eq 7, 3), (83, .invokestatic 329, 3), (86, .ifCond .eq 7, 3), (96, .if_icmp .ne 7, 3), (104, .putfield 332, 3), (108, .getfield 332, 3), (112, .if_icmp .eq 11, 3), (116, .getfield 332, 3), (120, .if_icmp .ne 13, 3), (125, .getfield 313, 3), (130, .putfield 313, 3), (134, .getfield 332, 3), (138, .if_icmp .ne 70, 3), (143, .getfield 313, 3), (146, .invokevirtual 316, 3), (149, .invokestatic 326, 3), (152, .ifCond .eq 56, 3), (156, .getfield 313, 3), (160, .getfield 319, 3), (166, .if_icmp .ge 29, 3), (171, .getfield 322, 3), (174, .ldc2_w 335, 3), (180, .getfield 313, 3), (183, .invokevirtual 316, 3), (188, .ldc2_w 337, 3), (192, .putfield 322, 3), (197, .getfield 313, 3), (202, .putfield 313, 3), (209, .getfield 332, 3), (213, .if_icmp .ne 70, 3), (218, .getfield 313, 3), (221, .invokevirtual 316, 3), (224, .invokestatic 329, 3), (227, .ifCond .eq 56, 3), (231, .getfield 313, 3), (235, .getfield 319, 3), (241, .if_icmp .ge 29, 3), (246, .getfield 322, 3), (249, .ldc2_w 276, 3), (255, .getfield 313, 3), (258, .invokevirtual 316, 3), (263, .ldc2_w 309, 3), (267, .putfield 322, 3), (272, .getfield 313, 3), (277, .putfield 313, 3), (284, .getfield 332, 3), (288, .if_icmp .ne 17, 3), (292, .getfield 313, 3), (296, .getfield 319, 3), (302, .if_icmp .gt 25, 3), (306, .getfield 332, 3), (310, .if_icmp .ne 22, 3), (314, .getfield 313, 3), (318, .getfield 319, 3), (324, .if_icmp .le 8, 3), (329, .putfield 332, 3), (332, .return_, 1)]
theorem okd_X12_advance : ed_X12_advance.all (okD cX12_advance) = true := by decide +kernel
def f_X12_advance (S : St) (p0 : Nat) : Option (St) := jn (κ := St → Option (St)) (fun S1 => lt (gI S1 p0 10) fun (v4 : Int32) => lt (uI S1 p0 14 v4) fun (S5 : St) => lt (uJ S5 p0 16 0) fun (S6 : St) => lt (gI S6 p0 14) fun (v7 : Int32) => cl (f_X12_byteAt S6 p0 v7) fun (v8 : Int32) => jn (κ := Int32 → Option (St)) (fun x9 => lt (uI S6 p0 13 x9) fun (S12 : St) => lt (gI S12 p0 13) fun (v13 : Int32) => jn (κ := St → Option (St)) (fun S14 => jn (κ := St → Option (St)) (fun S17 => jn (κ := St → Option (St)) (fun S20 => lt (gI S20 p0 13) fun (v23 : Int32) => jn (κ := Option (St)) (lt (uI S20 p0 13 4) fun (S26 : St) => some S26) fun k24 => jn (κ := Option (St)) (lt (gI S20 p0 13) fun (v29 : Int32) => if v29 = 2 then (lt (gI S20 p0 10) fun (v30 : Int32) => lt (gI S20 p0 14) fun (v31 : Int32) => if (v30 - v31) ≤ 6 then (some S20) else (k24)) else (some S20)) fun k27 => if v23 = 1 then (lt (gI S20 p0 10) fun (v32 : Int32) => lt (gI S20 p0 14) fun (v33 : Int32) => if 10 < (v32 - v33) then (k24) else (k27)) else (k27)) fun k21 => lp (κ := St → Option (St)) (fun _ => none) (fun k35 S34 => lt (gI S34 p0 13) fun (v37 : Int32) => if v37 = 2 then (lt (gI S34 p0 10) fun (v38 : Int32) => cl (f_X12_byteAt S34 p0 v38) fun (v39 : Int32) => cl (f_X12_isDigit S34 v39) fun (v40 : Int32) => if v40 = 0 then (k21 S34) else (lt (gI S34 p0 10) fun (v41 : Int32) => lt (gI S34 p0 14) fun (v42 : Int32) => jn (κ := St → Option (St)) (fun S43 => lt (gI S43 p0 10) fun (v46 : Int32) => lt (uI S43 p0 10 (v46 + 1)) fun (S47 : St) => k35 S47) fun k44 => if 6 ≤ (v41 - v42) then (k44 S34) else (lt (gJ S34 p0 16) fun (v48 : Int64) => lt (gI S34 p0 10) fun (v49 : Int32) => cl (f_X12_byteAt S34 p0 v49) fun (v50 : Int32) => lt (uJ S34 p0 16 (((v48 * 10) + (Int32.toInt64 v50)) - 48)) fun (S51 : St) => k44 S51))) else (k21 S34)) FU S17) fun k18 => lp (κ := St → Option (St)) (fun _ => none) (fun k53 S52 => lt (gI S52 p0 13) fun (v55 : Int32) => if v55 = 1 then (lt (gI S52 p0 10) fun (v56 : Int32) => cl (f_X12_byteAt S52 p0 v56) fun (v57 : Int32) => cl (f_X12_isLetter S52 v57) fun (v58 : Int32) => if v58 = 0 then (k18 S52) else (lt (gI S52 p0 10) fun (v59 : Int32) => lt (gI S52 p0 14) fun (v60 : Int32) => jn (κ := St → Option (St)) (fun S61 => lt (gI S61 p0 10) fun (v64 : Int32) => lt (uI S61 p0 10 (v64 + 1)) fun (S65 : St) => k53 S65) fun k62 => if 10 ≤ (v59 - v60) then (k62 S52) else (lt (gJ S52 p0 16) fun (v66 : Int64) => lt (gI S52 p0 10) fun (v67 : Int32) => cl (f_X12_byteAt S52 p0 v67) fun (v68 : Int32) => lt (uJ S52 p0 16 (((v66 * 32) + (Int32.toInt64 v68)) - 96)) fun (S69 : St) => k62 S69))) else (k18 S52)) FU S14) fun k15 => jn (κ := Option (St)) (lt (gI S12 p0 10) fun (v72 : Int32) => lt (uI S12 p0 10 (v72 + 1)) fun (S73 : St) => k15 S73) fun k70 => if v13 = 3 then (k70) else (lt (gI S12 p0 13) fun (v74 : Int32) => if v74 = 4 then (k70) else (k15 S12))) fun k10 => if v8 = (-1) then (k10 0) else (cl (f_X12_isLetter S6 v8) fun (v75 : Int32) => if v75 = 0 then (cl (f_X12_isDigit S6 v8) fun (v76 : Int32) => if v76 = 0 then (if v8 = 59 then (k10 3) else (k10 4)) else (k10 2)) else (k10 1))) fun k2 => lp (κ := St → Option (St)) (fun _ => none) (fun k78 S77 => lt (gI S77 p0 10) fun (v80 : Int32) => cl (f_X12_byteAt S77 p0 v80) fun (v81 : Int32) => jn (κ := Option (St)) (lt (gI S77 p0 10) fun (v84 : Int32) => lt (uI S77 p0 10 (v84 + 1)) fun (S85 : St) => k78 S85) fun k82 => if v81 = 32 then (k82) else (lt (gI S77 p0 10) fun (v86 : Int32) => cl (f_X12_byteAt S77 p0 v86) fun (v87 : Int32) => if v87 = 10 then (k82) else (k2 S77))) FU S
set_option maxHeartbeats 4000000 in
set_option maxRecDepth 100000 in
theorem c_X12_advance (S : St) (p0 : Nat) : Ct yX12_advance cX12_advance 2 none 2 45 (fun _ => [.ref p0]) [(p0, 11)] S (f_X12_advance S p0) oV sV := by
  refine Ct_of RX12 rfl (by decide) (fun _ => Nat.le_of_ble_eq_true rfl) 1 (vs := fun _ => [some (.ref p0), none]) (fun _ => rfl) (fun C X E hr ht => ?_)
  have t0_ : tT C p0 11 := ht (p0, 11) (by simp)
  show Jd C 2 (QJ C oV sV) S 0 [some (.ref p0), none] [] (f_X12_advance S p0)
  unfold f_X12_advance
  refine s_jn (κ := St → Option (St)) (fun k2 => ∀ (S1 : St), Jd C 2 (QJ C oV sV) S1 39 [some (.ref p0), none] [] (k2 S1)) (fun S1 => ?_) (fun k2 h3 => ?_)
  · refine s_run X ok_X12_advance 11 2 (pc' := 41) (vs' := [some (.ref p0), none]) (st' := [.ref p0, .ref p0]) rfl ?_
    refine s_getI X fl_X12_313 t0_ (dk okd_X12_advance 8 rfl) (fun v4 => ?_)
    refine s_putI X fp_X12_319 t0_ (dk okd_X12_advance 9 rfl) (fun S5 => ?_)
    refine s_run X ok_X12_advance 13 2 (pc' := 49) (vs' := [some (.ref p0), none]) (st' := [.long 0, .ref p0]) rfl ?_
    refine s_putJ X fp_X12_322 t0_ (dk okd_X12_advance 10 rfl) (fun S6 => ?_)
    refine s_run X ok_X12_advance 15 2 (pc' := 54) (vs' := [some (.ref p0), none]) (st' := [.ref p0, .ref p0]) rfl ?_
    refine s_getI X fl_X12_319 t0_ (dk okd_X12_advance 11 rfl) (fun v7 => ?_)
    refine s_callV (b := p0) (As := [.int v7]) (rest := []) X E mv_X12_316 (c_X12_byteAt S6 p0 v7) rfl (ta1 t0_) rfl (by decide) t0_ rfl rfl (Nat.le_of_ble_eq_true rfl) (Nat.le_of_ble_eq_true rfl) (Nat.le_of_ble_eq_true rfl) (dk okd_X12_advance 12 rfl) (st' := fun v8 => [.int v8]) (fun _ => rfl) (fun v8 => ?_)
    refine s_run X ok_X12_advance 17 4 (pc' := 64) (vs' := [some (.ref p0), some (.int v8)]) (st' := [.int (-1), .int v8, .ref p0]) rfl ?_
    refine s_jn (κ := Int32 → Option (St)) (fun k10 => ∀ (x9 : Int32), Jd C 2 (QJ C oV sV) S6 104 [some (.ref p0), none] [.int x9, .ref p0] (k10 x9)) (fun x9 => ?_) (fun k10 h11 => ?_)
    · refine s_putI X fp_X12_332 t0_ (dk okd_X12_advance 19 rfl) (fun S12 => ?_)
      refine s_run X ok_X12_advance 34 1 (pc' := 108) (vs' := [some (.ref p0), none]) (st' := [.ref p0]) rfl ?_
      refine s_getI X fl_X12_332 t0_ (dk okd_X12_advance 20 rfl) (fun v13 => ?_)
      refine s_run X ok_X12_advance 35 1 (pc' := 112) (vs' := [some (.ref p0), none]) (st' := [.int 3, .int v13]) rfl ?_
      refine s_jn (κ := St → Option (St)) (fun k15 => ∀ (S14 : St), Jd C 2 (QJ C oV sV) S14 133 [some (.ref p0), none] [] (k15 S14)) (fun S14 => ?_) (fun k15 h16 => ?_)
      · refine s_jn (κ := St → Option (St)) (fun k18 => ∀ (S17 : St), Jd C 2 (QJ C oV sV) S17 208 [some (.ref p0), none] [] (k18 S17)) (fun S17 => ?_) (fun k18 h19 => ?_)
        · refine s_jn (κ := St → Option (St)) (fun k21 => ∀ (S20 : St), Jd C 2 (QJ C oV sV) S20 283 [some (.ref p0), none] [] (k21 S20)) (fun S20 => ?_) (fun k21 h22 => ?_)
          · refine s_run X ok_X12_advance 84 1 (pc' := 284) (vs' := [some (.ref p0), none]) (st' := [.ref p0]) rfl ?_
            refine s_getI X fl_X12_332 t0_ (dk okd_X12_advance 60 rfl) (fun v23 => ?_)
            refine s_run X ok_X12_advance 85 1 (pc' := 288) (vs' := [some (.ref p0), none]) (st' := [.int 1, .int v23]) rfl ?_
            refine s_jn (κ := Option (St)) (fun k24 => Jd C 2 (QJ C oV sV) S20 327 [some (.ref p0), none] [] k24) ?_ (fun k24 h25 => ?_)
            · refine s_run X ok_X12_advance 96 2 (pc' := 329) (vs' := [some (.ref p0), none]) (st' := [.int 4, .ref p0]) rfl ?_
              refine s_putI X fp_X12_332 t0_ (dk okd_X12_advance 70 rfl) (fun S26 => ?_)
              exact s_vret X hr (dk okd_X12_advance 71 rfl) rfl rfl
            · refine s_jn (κ := Option (St)) (fun k27 => Jd C 2 (QJ C oV sV) S20 305 [some (.ref p0), none] [] k27) ?_ (fun k27 h28 => ?_)
              · refine s_run X ok_X12_advance 90 1 (pc' := 306) (vs' := [some (.ref p0), none]) (st' := [.ref p0]) rfl ?_
                refine s_getI X fl_X12_332 t0_ (dk okd_X12_advance 65 rfl) (fun v29 => ?_)
                refine s_run X ok_X12_advance 91 1 (pc' := 310) (vs' := [some (.ref p0), none]) (st' := [.int 2, .int v29]) rfl ?_
                refine s_icmp_ne (tgt := 332) X (dk okd_X12_advance 66 rfl) (by decide) ?_ ?_
                · exact s_vret X hr (dk okd_X12_advance 71 rfl) rfl rfl
                · refine s_run X ok_X12_advance 92 1 (pc' := 314) (vs' := [some (.ref p0), none]) (st' := [.ref p0]) rfl ?_
                  refine s_getI X fl_X12_313 t0_ (dk okd_X12_advance 67 rfl) (fun v30 => ?_)
                  refine s_run X ok_X12_advance 93 1 (pc' := 318) (vs' := [some (.ref p0), none]) (st' := [.ref p0, .int v30]) rfl ?_
                  refine s_getI X fl_X12_319 t0_ (dk okd_X12_advance 68 rfl) (fun v31 => ?_)
                  refine s_run X ok_X12_advance 94 2 (pc' := 324) (vs' := [some (.ref p0), none]) (st' := [.int 6, .int (v30 - v31)]) rfl ?_
                  refine s_icmp_le (tgt := 332) X (dk okd_X12_advance 69 rfl) (by decide) ?_ ?_
                  · exact s_vret X hr (dk okd_X12_advance 71 rfl) rfl rfl
                  · exact h25
              · refine s_icmp_ne (tgt := 305) X (dk okd_X12_advance 61 rfl) (by decide) ?_ ?_
                · exact h28
                · refine s_run X ok_X12_advance 86 1 (pc' := 292) (vs' := [some (.ref p0), none]) (st' := [.ref p0]) rfl ?_
                  refine s_getI X fl_X12_313 t0_ (dk okd_X12_advance 62 rfl) (fun v32 => ?_)
                  refine s_run X ok_X12_advance 87 1 (pc' := 296) (vs' := [some (.ref p0), none]) (st' := [.ref p0, .int v32]) rfl ?_
                  refine s_getI X fl_X12_319 t0_ (dk okd_X12_advance 63 rfl) (fun v33 => ?_)
                  refine s_run X ok_X12_advance 88 2 (pc' := 302) (vs' := [some (.ref p0), none]) (st' := [.int 10, .int (v32 - v33)]) rfl ?_
                  refine s_icmp_gt (tgt := 327) X (dk okd_X12_advance 64 rfl) (by decide) ?_ ?_
                  · exact h25
                  · exact h28
          · refine s_lp (κ := St → Option (St)) (fun k35 => ∀ (S34 : St), Jd C 2 (QJ C oV sV) S34 208 [some (.ref p0), none] [] (k35 S34)) (fun _ => s_none) (fun k35 h36 S34 => ?_) FU S17
            refine s_run X ok_X12_advance 63 1 (pc' := 209) (vs' := [some (.ref p0), none]) (st' := [.ref p0]) rfl ?_
            refine s_getI X fl_X12_332 t0_ (dk okd_X12_advance 43 rfl) (fun v37 => ?_)
            refine s_run X ok_X12_advance 64 1 (pc' := 213) (vs' := [some (.ref p0), none]) (st' := [.int 2, .int v37]) rfl ?_
            refine s_icmp_ne (tgt := 283) X (dk okd_X12_advance 44 rfl) (by decide) ?_ ?_
            · exact h22 S34
            · refine s_run X ok_X12_advance 65 2 (pc' := 218) (vs' := [some (.ref p0), none]) (st' := [.ref p0, .ref p0]) rfl ?_
              refine s_getI X fl_X12_313 t0_ (dk okd_X12_advance 45 rfl) (fun v38 => ?_)
              refine s_callV (b := p0) (As := [.int v38]) (rest := []) X E mv_X12_316 (c_X12_byteAt S34 p0 v38) rfl (ta1 t0_) rfl (by decide) t0_ rfl rfl (Nat.le_of_ble_eq_true rfl) (Nat.le_of_ble_eq_true rfl) (Nat.le_of_ble_eq_true rfl) (dk okd_X12_advance 46 rfl) (st' := fun v39 => [.int v39]) (fun _ => rfl) (fun v39 => ?_)
              refine s_callS (As := [.int v39]) (rest := []) X E ms_X12_329 (c_X12_isDigit S34 v39) rfl (ta0) rfl rfl (Nat.le_of_ble_eq_true rfl) (Nat.le_of_ble_eq_true rfl) (Nat.le_of_ble_eq_true rfl) (dk okd_X12_advance 47 rfl) (st' := fun v40 => [.int v40]) (fun _ => rfl) (fun v40 => ?_)
              refine s_if_eq (tgt := 283) X (dk okd_X12_advance 48 rfl) (by decide) ?_ ?_
              · exact h22 S34
              · refine s_run X ok_X12_advance 67 1 (pc' := 231) (vs' := [some (.ref p0), none]) (st' := [.ref p0]) rfl ?_
                refine s_getI X fl_X12_313 t0_ (dk okd_X12_advance 49 rfl) (fun v41 => ?_)
                refine s_run X ok_X12_advance 68 1 (pc' := 235) (vs' := [some (.ref p0), none]) (st' := [.ref p0, .int v41]) rfl ?_
                refine s_getI X fl_X12_319 t0_ (dk okd_X12_advance 50 rfl) (fun v42 => ?_)
                refine s_run X ok_X12_advance 69 2 (pc' := 241) (vs' := [some (.ref p0), none]) (st' := [.int 6, .int (v41 - v42)]) rfl ?_
                refine s_jn (κ := St → Option (St)) (fun k44 => ∀ (S43 : St), Jd C 2 (QJ C oV sV) S43 270 [some (.ref p0), none] [] (k44 S43)) (fun S43 => ?_) (fun k44 h45 => ?_)
                · refine s_run X ok_X12_advance 79 2 (pc' := 272) (vs' := [some (.ref p0), none]) (st' := [.ref p0, .ref p0]) rfl ?_
                  refine s_getI X fl_X12_313 t0_ (dk okd_X12_advance 58 rfl) (fun v46 => ?_)
                  refine s_run X ok_X12_advance 81 2 (pc' := 277) (vs' := [some (.ref p0), none]) (st' := [.int (v46 + 1), .ref p0]) rfl ?_
                  refine s_putI X fp_X12_313 t0_ (dk okd_X12_advance 59 rfl) (fun S47 => ?_)
                  refine s_run X ok_X12_advance 83 1 (pc' := 208) (vs' := [some (.ref p0), none]) (st' := []) rfl ?_
                  exact h36 S47
                · refine s_icmp_ge (tgt := 270) X (dk okd_X12_advance 51 rfl) (by decide) ?_ ?_
                  · exact h45 S34
                  · refine s_run X ok_X12_advance 71 2 (pc' := 246) (vs' := [some (.ref p0), none]) (st' := [.ref p0, .ref p0]) rfl ?_
                    refine s_getJ X fl_X12_322 t0_ (dk okd_X12_advance 52 rfl) (fun v48 => ?_)
                    refine s_ldc2 X cl_X12_276 (dk okd_X12_advance 53 rfl) ?_
                    refine s_run X ok_X12_advance 73 3 (pc' := 255) (vs' := [some (.ref p0), none]) (st' := [.ref p0, .ref p0, .long (v48 * 10), .ref p0]) rfl ?_
                    refine s_getI X fl_X12_313 t0_ (dk okd_X12_advance 54 rfl) (fun v49 => ?_)
                    refine s_callV (b := p0) (As := [.int v49]) (rest := [.long (v48 * 10), .ref p0]) X E mv_X12_316 (c_X12_byteAt S34 p0 v49) rfl (ta1 t0_) rfl (by decide) t0_ rfl rfl (Nat.le_of_ble_eq_true rfl) (Nat.le_of_ble_eq_true rfl) (Nat.le_of_ble_eq_true rfl) (dk okd_X12_advance 55 rfl) (st' := fun v50 => [.int v50, .long (v48 * 10), .ref p0]) (fun _ => rfl) (fun v50 => ?_)
                    refine s_run X ok_X12_advance 76 2 (pc' := 263) (vs' := [some (.ref p0), none]) (st' := [.long ((v48 * 10) + (Int32.toInt64 v50)), .ref p0]) rfl ?_
                    refine s_ldc2 X cl_X12_309 (dk okd_X12_advance 56 rfl) ?_
                    refine s_run X ok_X12_advance 78 1 (pc' := 267) (vs' := [some (.ref p0), none]) (st' := [.long (((v48 * 10) + (Int32.toInt64 v50)) - 48), .ref p0]) rfl ?_
                    refine s_putJ X fp_X12_322 t0_ (dk okd_X12_advance 57 rfl) (fun S51 => ?_)
                    exact h45 S51
        · refine s_lp (κ := St → Option (St)) (fun k53 => ∀ (S52 : St), Jd C 2 (QJ C oV sV) S52 133 [some (.ref p0), none] [] (k53 S52)) (fun _ => s_none) (fun k53 h54 S52 => ?_) FU S14
          refine s_run X ok_X12_advance 42 1 (pc' := 134) (vs' := [some (.ref p0), none]) (st' := [.ref p0]) rfl ?_
          refine s_getI X fl_X12_332 t0_ (dk okd_X12_advance 26 rfl) (fun v55 => ?_)
          refine s_run X ok_X12_advance 43 1 (pc' := 138) (vs' := [some (.ref p0), none]) (st' := [.int 1, .int v55]) rfl ?_
          refine s_icmp_ne (tgt := 208) X (dk okd_X12_advance 27 rfl) (by decide) ?_ ?_
          · exact h19 S52
          · refine s_run X ok_X12_advance 44 2 (pc' := 143) (vs' := [some (.ref p0), none]) (st' := [.ref p0, .ref p0]) rfl ?_
            refine s_getI X fl_X12_313 t0_ (dk okd_X12_advance 28 rfl) (fun v56 => ?_)
            refine s_callV (b := p0) (As := [.int v56]) (rest := []) X E mv_X12_316 (c_X12_byteAt S52 p0 v56) rfl (ta1 t0_) rfl (by decide) t0_ rfl rfl (Nat.le_of_ble_eq_true rfl) (Nat.le_of_ble_eq_true rfl) (Nat.le_of_ble_eq_true rfl) (dk okd_X12_advance 29 rfl) (st' := fun v57 => [.int v57]) (fun _ => rfl) (fun v57 => ?_)
            refine s_callS (As := [.int v57]) (rest := []) X E ms_X12_326 (c_X12_isLetter S52 v57) rfl (ta0) rfl rfl (Nat.le_of_ble_eq_true rfl) (Nat.le_of_ble_eq_true rfl) (Nat.le_of_ble_eq_true rfl) (dk okd_X12_advance 30 rfl) (st' := fun v58 => [.int v58]) (fun _ => rfl) (fun v58 => ?_)
            refine s_if_eq (tgt := 208) X (dk okd_X12_advance 31 rfl) (by decide) ?_ ?_
            · exact h19 S52
            · refine s_run X ok_X12_advance 46 1 (pc' := 156) (vs' := [some (.ref p0), none]) (st' := [.ref p0]) rfl ?_
              refine s_getI X fl_X12_313 t0_ (dk okd_X12_advance 32 rfl) (fun v59 => ?_)
              refine s_run X ok_X12_advance 47 1 (pc' := 160) (vs' := [some (.ref p0), none]) (st' := [.ref p0, .int v59]) rfl ?_
              refine s_getI X fl_X12_319 t0_ (dk okd_X12_advance 33 rfl) (fun v60 => ?_)
              refine s_run X ok_X12_advance 48 2 (pc' := 166) (vs' := [some (.ref p0), none]) (st' := [.int 10, .int (v59 - v60)]) rfl ?_
              refine s_jn (κ := St → Option (St)) (fun k62 => ∀ (S61 : St), Jd C 2 (QJ C oV sV) S61 195 [some (.ref p0), none] [] (k62 S61)) (fun S61 => ?_) (fun k62 h63 => ?_)
              · refine s_run X ok_X12_advance 58 2 (pc' := 197) (vs' := [some (.ref p0), none]) (st' := [.ref p0, .ref p0]) rfl ?_
                refine s_getI X fl_X12_313 t0_ (dk okd_X12_advance 41 rfl) (fun v64 => ?_)
                refine s_run X ok_X12_advance 60 2 (pc' := 202) (vs' := [some (.ref p0), none]) (st' := [.int (v64 + 1), .ref p0]) rfl ?_
                refine s_putI X fp_X12_313 t0_ (dk okd_X12_advance 42 rfl) (fun S65 => ?_)
                refine s_run X ok_X12_advance 62 1 (pc' := 133) (vs' := [some (.ref p0), none]) (st' := []) rfl ?_
                exact h54 S65
              · refine s_icmp_ge (tgt := 195) X (dk okd_X12_advance 34 rfl) (by decide) ?_ ?_
                · exact h63 S52
                · refine s_run X ok_X12_advance 50 2 (pc' := 171) (vs' := [some (.ref p0), none]) (st' := [.ref p0, .ref p0]) rfl ?_
                  refine s_getJ X fl_X12_322 t0_ (dk okd_X12_advance 35 rfl) (fun v66 => ?_)
                  refine s_ldc2 X cl_X12_335 (dk okd_X12_advance 36 rfl) ?_
                  refine s_run X ok_X12_advance 52 3 (pc' := 180) (vs' := [some (.ref p0), none]) (st' := [.ref p0, .ref p0, .long (v66 * 32), .ref p0]) rfl ?_
                  refine s_getI X fl_X12_313 t0_ (dk okd_X12_advance 37 rfl) (fun v67 => ?_)
                  refine s_callV (b := p0) (As := [.int v67]) (rest := [.long (v66 * 32), .ref p0]) X E mv_X12_316 (c_X12_byteAt S52 p0 v67) rfl (ta1 t0_) rfl (by decide) t0_ rfl rfl (Nat.le_of_ble_eq_true rfl) (Nat.le_of_ble_eq_true rfl) (Nat.le_of_ble_eq_true rfl) (dk okd_X12_advance 38 rfl) (st' := fun v68 => [.int v68, .long (v66 * 32), .ref p0]) (fun _ => rfl) (fun v68 => ?_)
                  refine s_run X ok_X12_advance 55 2 (pc' := 188) (vs' := [some (.ref p0), none]) (st' := [.long ((v66 * 32) + (Int32.toInt64 v68)), .ref p0]) rfl ?_
                  refine s_ldc2 X cl_X12_337 (dk okd_X12_advance 39 rfl) ?_
                  refine s_run X ok_X12_advance 57 1 (pc' := 192) (vs' := [some (.ref p0), none]) (st' := [.long (((v66 * 32) + (Int32.toInt64 v68)) - 96), .ref p0]) rfl ?_
                  refine s_putJ X fp_X12_322 t0_ (dk okd_X12_advance 40 rfl) (fun S69 => ?_)
                  exact h63 S69
      · refine s_jn (κ := Option (St)) (fun k70 => Jd C 2 (QJ C oV sV) S12 123 [some (.ref p0), none] [] k70) ?_ (fun k70 h71 => ?_)
        · refine s_run X ok_X12_advance 38 2 (pc' := 125) (vs' := [some (.ref p0), none]) (st' := [.ref p0, .ref p0]) rfl ?_
          refine s_getI X fl_X12_313 t0_ (dk okd_X12_advance 24 rfl) (fun v72 => ?_)
          refine s_run X ok_X12_advance 40 2 (pc' := 130) (vs' := [some (.ref p0), none]) (st' := [.int (v72 + 1), .ref p0]) rfl ?_
          refine s_putI X fp_X12_313 t0_ (dk okd_X12_advance 25 rfl) (fun S73 => ?_)
          exact h16 S73
        · refine s_icmp_eq (tgt := 123) X (dk okd_X12_advance 21 rfl) (by decide) ?_ ?_
          · exact h71
          · refine s_run X ok_X12_advance 36 1 (pc' := 116) (vs' := [some (.ref p0), none]) (st' := [.ref p0]) rfl ?_
            refine s_getI X fl_X12_332 t0_ (dk okd_X12_advance 22 rfl) (fun v74 => ?_)
            refine s_run X ok_X12_advance 37 1 (pc' := 120) (vs' := [some (.ref p0), none]) (st' := [.int 4, .int v74]) rfl ?_
            refine s_icmp_ne (tgt := 133) X (dk okd_X12_advance 23 rfl) (by decide) ?_ ?_
            · exact h16 S12
            · exact h71
    · refine s_icmp_ne (tgt := 71) X (dk okd_X12_advance 13 rfl) (by decide) ?_ ?_
      · refine s_run X ok_X12_advance 23 1 (pc' := 72) (vs' := [some (.ref p0), some (.int v8)]) (st' := [.int v8, .ref p0]) rfl ?_
        refine s_callS (As := [.int v8]) (rest := [.ref p0]) X E ms_X12_326 (c_X12_isLetter S6 v8) rfl (ta0) rfl rfl (Nat.le_of_ble_eq_true rfl) (Nat.le_of_ble_eq_true rfl) (Nat.le_of_ble_eq_true rfl) (dk okd_X12_advance 14 rfl) (st' := fun v75 => [.int v75, .ref p0]) (fun _ => rfl) (fun v75 => ?_)
        refine s_if_eq (tgt := 82) X (dk okd_X12_advance 15 rfl) (by decide) ?_ ?_
        · refine s_run X ok_X12_advance 26 1 (pc' := 83) (vs' := [some (.ref p0), some (.int v8)]) (st' := [.int v8, .ref p0]) rfl ?_
          refine s_callS (As := [.int v8]) (rest := [.ref p0]) X E ms_X12_329 (c_X12_isDigit S6 v8) rfl (ta0) rfl rfl (Nat.le_of_ble_eq_true rfl) (Nat.le_of_ble_eq_true rfl) (Nat.le_of_ble_eq_true rfl) (dk okd_X12_advance 16 rfl) (st' := fun v76 => [.int v76, .ref p0]) (fun _ => rfl) (fun v76 => ?_)
          refine s_if_eq (tgt := 93) X (dk okd_X12_advance 17 rfl) (by decide) ?_ ?_
          · refine s_run X ok_X12_advance 29 2 (pc' := 96) (vs' := [some (.ref p0), some (.int v8)]) (st' := [.int 59, .int v8, .ref p0]) rfl ?_
            refine s_icmp_ne (tgt := 103) X (dk okd_X12_advance 18 rfl) (by decide) ?_ ?_
            · refine s_run X ok_X12_advance 33 1 (pc' := 104) (vs' := [some (.ref p0), some (.int v8)]) (st' := [.int 4, .ref p0]) rfl ?_
              exact s_less [true, false] rfl (h11 4)
            · refine s_run X ok_X12_advance 31 2 (pc' := 104) (vs' := [some (.ref p0), some (.int v8)]) (st' := [.int 3, .ref p0]) rfl ?_
              exact s_less [true, false] rfl (h11 3)
          · refine s_run X ok_X12_advance 27 2 (pc' := 104) (vs' := [some (.ref p0), some (.int v8)]) (st' := [.int 2, .ref p0]) rfl ?_
            exact s_less [true, false] rfl (h11 2)
        · refine s_run X ok_X12_advance 24 2 (pc' := 104) (vs' := [some (.ref p0), some (.int v8)]) (st' := [.int 1, .ref p0]) rfl ?_
          exact s_less [true, false] rfl (h11 1)
      · refine s_run X ok_X12_advance 21 2 (pc' := 104) (vs' := [some (.ref p0), some (.int v8)]) (st' := [.int 0, .ref p0]) rfl ?_
        exact s_less [true, false] rfl (h11 0)
  · refine s_lp (κ := St → Option (St)) (fun k78 => ∀ (S77 : St), Jd C 2 (QJ C oV sV) S77 0 [some (.ref p0), none] [] (k78 S77)) (fun _ => s_none) (fun k78 h79 S77 => ?_) FU S
    refine s_run X ok_X12_advance 0 2 (pc' := 2) (vs' := [some (.ref p0), none]) (st' := [.ref p0, .ref p0]) rfl ?_
    refine s_getI X fl_X12_313 t0_ (dk okd_X12_advance 0 rfl) (fun v80 => ?_)
    refine s_callV (b := p0) (As := [.int v80]) (rest := []) X E mv_X12_316 (c_X12_byteAt S77 p0 v80) rfl (ta1 t0_) rfl (by decide) t0_ rfl rfl (Nat.le_of_ble_eq_true rfl) (Nat.le_of_ble_eq_true rfl) (Nat.le_of_ble_eq_true rfl) (dk okd_X12_advance 1 rfl) (st' := fun v81 => [.int v81]) (fun _ => rfl) (fun v81 => ?_)
    refine s_run X ok_X12_advance 2 1 (pc' := 10) (vs' := [some (.ref p0), none]) (st' := [.int 32, .int v81]) rfl ?_
    refine s_jn (κ := Option (St)) (fun k82 => Jd C 2 (QJ C oV sV) S77 26 [some (.ref p0), none] [] k82) ?_ (fun k82 h83 => ?_)
    · refine s_run X ok_X12_advance 6 2 (pc' := 28) (vs' := [some (.ref p0), none]) (st' := [.ref p0, .ref p0]) rfl ?_
      refine s_getI X fl_X12_313 t0_ (dk okd_X12_advance 6 rfl) (fun v84 => ?_)
      refine s_run X ok_X12_advance 8 2 (pc' := 33) (vs' := [some (.ref p0), none]) (st' := [.int (v84 + 1), .ref p0]) rfl ?_
      refine s_putI X fp_X12_313 t0_ (dk okd_X12_advance 7 rfl) (fun S85 => ?_)
      refine s_run X ok_X12_advance 10 1 (pc' := 0) (vs' := [some (.ref p0), none]) (st' := []) rfl ?_
      exact h79 S85
    · refine s_icmp_eq (tgt := 26) X (dk okd_X12_advance 2 rfl) (by decide) ?_ ?_
      · exact h83
      · refine s_run X ok_X12_advance 3 2 (pc' := 15) (vs' := [some (.ref p0), none]) (st' := [.ref p0, .ref p0]) rfl ?_
        refine s_getI X fl_X12_313 t0_ (dk okd_X12_advance 3 rfl) (fun v86 => ?_)
        refine s_callV (b := p0) (As := [.int v86]) (rest := []) X E mv_X12_316 (c_X12_byteAt S77 p0 v86) rfl (ta1 t0_) rfl (by decide) t0_ rfl rfl (Nat.le_of_ble_eq_true rfl) (Nat.le_of_ble_eq_true rfl) (Nat.le_of_ble_eq_true rfl) (dk okd_X12_advance 4 rfl) (st' := fun v87 => [.int v87]) (fun _ => rfl) (fun v87 => ?_)
        refine s_run X ok_X12_advance 5 1 (pc' := 23) (vs' := [some (.ref p0), none]) (st' := [.int 10, .int v87]) rfl ?_
        refine s_icmp_ne (tgt := 39) X (dk okd_X12_advance 5 rfl) (by decide) ?_ ?_
        · exact h3 S77
        · exact h83
