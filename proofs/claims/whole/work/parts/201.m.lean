theorem cl_X11_430 : Cond.constantLong RX11 430 5000 ∈ TT := TT_5 (i := 42) rfl rfl
theorem cl_X11_432 : Cond.constantLong RX11 432 10000 ∈ TT := TT_5 (i := 43) rfl rfl
theorem cl_X12_48 : Cond.constantLong RX12 48 (-1) ∈ TT := TT_7 (i := 224) rfl rfl
theorem cl_X12_61 : Cond.constantLong RX12 61 29 ∈ TT := TT_8 (i := 86) rfl rfl
theorem fl_X10_9 : FL RX10 9 9 0 2 := ⟨RX10, TX10, 6, rfl, by decide, uw_X10, TT_2 (i := 27) rfl rfl, rfl, rfl, by decide⟩
theorem fl_X10_15 : FL RX10 15 9 1 2 := ⟨RX10, TX10, 6, rfl, by decide, uw_X10, TT_2 (i := 30) rfl rfl, rfl, rfl, by decide⟩
theorem fl_X10_18 : FL RX10 18 9 2 2 := ⟨RX10, TX10, 6, rfl, by decide, uw_X10, TT_2 (i := 32) rfl rfl, rfl, rfl, by decide⟩
theorem fl_X10_21 : FL RX10 21 9 3 2 := ⟨RX10, TX10, 6, rfl, by decide, uw_X10, TT_2 (i := 34) rfl rfl, rfl, rfl, by decide⟩
theorem fl_X10_25 : FL RX10 25 9 4 2 := ⟨RX10, TX10, 6, rfl, by decide, uw_X10, TT_2 (i := 36) rfl rfl, rfl, rfl, by decide⟩
theorem fl_X10_28 : FL RX10 28 9 5 2 := ⟨RX10, TX10, 6, rfl, by decide, uw_X10, TT_2 (i := 37) rfl rfl, rfl, rfl, by decide⟩
theorem fl_X11_12 : FL RX11 12 10 0 2 := ⟨RX11, TX11, 11, rfl, by decide, uw_X11, TT_2 (i := 184) rfl rfl, rfl, rfl, by decide⟩
theorem fl_X11_19 : FL RX11 19 10 1 2 := ⟨RX11, TX11, 11, rfl, by decide, uw_X11, TT_2 (i := 185) rfl rfl, rfl, rfl, by decide⟩
theorem fl_X11_41 : FL RX11 41 10 5 2 := ⟨RX11, TX11, 11, rfl, by decide, uw_X11, TT_2 (i := 189) rfl rfl, rfl, rfl, by decide⟩
theorem fl_X11_54 : FL RX11 54 10 7 2 := ⟨RX11, TX11, 11, rfl, by decide, uw_X11, TT_2 (i := 191) rfl rfl, rfl, rfl, by decide⟩
theorem fl_X11_61 : FL RX11 61 10 9 0 := ⟨RX11, TX11, 11, rfl, by decide, uw_X11, TT_2 (i := 193) rfl rfl, rfl, rfl, by decide⟩
theorem fl_X11_65 : FL RX11 65 10 10 0 := ⟨RX11, TX11, 11, rfl, by decide, uw_X11, TT_2 (i := 194) rfl rfl, rfl, rfl, by decide⟩
theorem fl_X11_68 : FL RX11 68 8 1 0 := ⟨RX9, TX9, 8, rfl, by decide, uw_X9, TT_1 (i := 45) rfl rfl, rfl, rfl, by decide⟩
theorem fl_X11_85 : FL RX11 85 1 3 2 := ⟨RX1, TX1, 7, rfl, by decide, uw_X1, TT_2 (i := 97) rfl rfl, rfl, rfl, by decide⟩
theorem fl_X11_121 : FL RX11 121 1 0 2 := ⟨RX1, TX1, 7, rfl, by decide, uw_X1, TT_2 (i := 87) rfl rfl, rfl, rfl, by decide⟩
theorem fl_X11_125 : FL RX11 125 7 4 0 := ⟨RX8, TX8, 12, rfl, by decide, uw_X8, TT_1 (i := 131) rfl rfl, rfl, rfl, by decide⟩
theorem fl_X11_130 : FL RX11 130 2 8 0 := ⟨RX2, TX2, 9, rfl, by decide, uw_X2, TT_2 (i := 1) rfl rfl, rfl, rfl, by decide⟩
theorem fl_X11_133 : FL RX11 133 1 2 2 := ⟨RX1, TX1, 7, rfl, by decide, uw_X1, TT_2 (i := 94) rfl rfl, rfl, rfl, by decide⟩
theorem fl_X11_137 : FL RX11 137 6 4 0 := ⟨RX6, TX6, 5, rfl, by decide, uw_X6, TT_1 (i := 200) rfl rfl, rfl, rfl, by decide⟩
theorem fl_X11_140 : FL RX11 140 1 5 2 := ⟨RX1, TX1, 7, rfl, by decide, uw_X1, TT_2 (i := 104) rfl rfl, rfl, rfl, by decide⟩
theorem fl_X11_144 : FL RX11 144 0 6 0 := ⟨RX0, TX0, 7, rfl, by decide, uw_X0, TT_2 (i := 68) rfl rfl, rfl, rfl, by decide⟩
theorem fl_X11_392 : FL RX11 392 4 1 0 := ⟨RX4, TX4, 2, rfl, by decide, uw_X4, TT_1 (i := 86) rfl rfl, rfl, rfl, by decide⟩
theorem fl_X11_393 : FL RX11 393 4 0 2 := ⟨RX4, TX4, 2, rfl, by decide, uw_X4, TT_1 (i := 84) rfl rfl, rfl, rfl, by decide⟩
theorem fl_X11_394 : FL RX11 394 8 5 0 := ⟨RX9, TX9, 8, rfl, by decide, uw_X9, TT_1 (i := 55) rfl rfl, rfl, rfl, by decide⟩
theorem fl_X11_397 : FL RX11 397 8 6 0 := ⟨RX9, TX9, 8, rfl, by decide, uw_X9, TT_1 (i := 57) rfl rfl, rfl, rfl, by decide⟩
theorem fl_X12_9 : FL RX12 9 11 0 2 := ⟨RX12, TX12, 22, rfl, by decide, uw_X12, TT_7 (i := 225) rfl rfl, rfl, rfl, by decide⟩
theorem fl_X12_13 : FL RX12 13 11 1 2 := ⟨RX12, TX12, 22, rfl, by decide, uw_X12, TT_7 (i := 226) rfl rfl, rfl, rfl, by decide⟩
theorem fl_X12_50 : FL RX12 50 11 2 0 := ⟨RX12, TX12, 22, rfl, by decide, uw_X12, TT_7 (i := 227) rfl rfl, rfl, rfl, by decide⟩
theorem fl_X9_19 : FL RX9 19 8 4 0 := ⟨RX9, TX9, 8, rfl, by decide, uw_X9, TT_1 (i := 52) rfl rfl, rfl, rfl, by decide⟩
theorem fl_X9_22 : FL RX9 22 8 5 0 := ⟨RX9, TX9, 8, rfl, by decide, uw_X9, TT_1 (i := 54) rfl rfl, rfl, rfl, by decide⟩
theorem fl_X9_32 : FL RX9 32 8 3 0 := ⟨RX9, TX9, 8, rfl, by decide, uw_X9, TT_1 (i := 50) rfl rfl, rfl, rfl, by decide⟩
theorem fl_X9_39 : FL RX9 39 8 2 0 := ⟨RX9, TX9, 8, rfl, by decide, uw_X9, TT_1 (i := 49) rfl rfl, rfl, rfl, by decide⟩
theorem fl_X9_42 : FL RX9 42 8 7 0 := ⟨RX9, TX9, 8, rfl, by decide, uw_X9, TT_1 (i := 58) rfl rfl, rfl, rfl, by decide⟩
theorem fp_X11_61 : FP RX11 61 10 9 0 := ⟨RX11, TX11, 11, tyX11, tyX11 9, rfl, by decide, uw_X11, TT_2 (i := 193) rfl rfl, rfl, rfl, by decide, tyX11_ok, nmX11, rfl, tyX11_ok 9 (by decide), fun h => rfl, fun h => absurd h (by decide), fun h => absurd h (by decide)⟩
theorem fp_X11_65 : FP RX11 65 10 10 0 := ⟨RX11, TX11, 11, tyX11, tyX11 10, rfl, by decide, uw_X11, TT_2 (i := 194) rfl rfl, rfl, rfl, by decide, tyX11_ok, nmX11, rfl, tyX11_ok 10 (by decide), fun h => rfl, fun h => absurd h (by decide), fun h => absurd h (by decide)⟩
theorem fp_X11_68 : FP RX11 68 8 1 0 := ⟨RX9, TX9, 8, tyX9, tyX9 1, rfl, by decide, uw_X9, TT_1 (i := 45) rfl rfl, rfl, rfl, by decide, tyX9_ok, nmX9, rfl, tyX9_ok 1 (by decide), fun h => rfl, fun h => absurd h (by decide), fun h => absurd h (by decide)⟩
theorem fp_X12_50 : FP RX12 50 11 2 0 := ⟨RX12, TX12, 22, tyX12, tyX12 2, rfl, by decide, uw_X12, TT_7 (i := 227) rfl rfl, rfl, rfl, by decide, tyX12_ok, nmX12, rfl, tyX12_ok 2 (by decide), fun h => rfl, fun h => absurd h (by decide), fun h => absurd h (by decide)⟩
theorem fp_X9_19 : FP RX9 19 8 4 0 := ⟨RX9, TX9, 8, tyX9, tyX9 4, rfl, by decide, uw_X9, TT_1 (i := 52) rfl rfl, rfl, rfl, by decide, tyX9_ok, nmX9, rfl, tyX9_ok 4 (by decide), fun h => rfl, fun h => absurd h (by decide), fun h => absurd h (by decide)⟩
theorem fp_X9_22 : FP RX9 22 8 5 0 := ⟨RX9, TX9, 8, tyX9, tyX9 5, rfl, by decide, uw_X9, TT_1 (i := 54) rfl rfl, rfl, rfl, by decide, tyX9_ok, nmX9, rfl, tyX9_ok 5 (by decide), fun h => rfl, fun h => absurd h (by decide), fun h => absurd h (by decide)⟩
theorem fp_X9_25 : FP RX9 25 8 6 0 := ⟨RX9, TX9, 8, tyX9, tyX9 6, rfl, by decide, uw_X9, TT_1 (i := 56) rfl rfl, rfl, rfl, by decide, tyX9_ok, nmX9, rfl, tyX9_ok 6 (by decide), fun h => rfl, fun h => absurd h (by decide), fun h => absurd h (by decide)⟩
theorem fp_X9_32 : FP RX9 32 8 3 0 := ⟨RX9, TX9, 8, tyX9, tyX9 3, rfl, by decide, uw_X9, TT_1 (i := 50) rfl rfl, rfl, rfl, by decide, tyX9_ok, nmX9, rfl, tyX9_ok 3 (by decide), fun h => rfl, fun h => absurd h (by decide), fun h => absurd h (by decide)⟩
theorem fp_X9_39 : FP RX9 39 8 2 0 := ⟨RX9, TX9, 8, tyX9, tyX9 2, rfl, by decide, uw_X9, TT_1 (i := 49) rfl rfl, rfl, rfl, by decide, tyX9_ok, nmX9, rfl, tyX9_ok 2 (by decide), fun h => rfl, fun h => absurd h (by decide), fun h => absurd h (by decide)⟩
theorem fp_X9_42 : FP RX9 42 8 7 0 := ⟨RX9, TX9, 8, tyX9, tyX9 7, rfl, by decide, uw_X9, TT_1 (i := 58) rfl rfl, rfl, rfl, by decide, tyX9_ok, nmX9, rfl, tyX9_ok 7 (by decide), fun h => rfl, fun h => absurd h (by decide), fun h => absurd h (by decide)⟩
theorem ms_X12_53 : MS RX12 53 yX12_inRange cX12_inRange 6 (some .boolean) 3 := ⟨TT_8 (i := 60) rfl rfl, TT_8 (i := 61) rfl rfl, TT_1 (i := 13) rfl rfl, TT_8 (i := 62) rfl rfl, ⟨by decide, by decide, by decide +kernel⟩⟩
theorem ms_X12_67 : MS RX12 67 yX12_isCell cX12_isCell 2 (some .boolean) 2 := ⟨TT_8 (i := 83) rfl rfl, TT_8 (i := 84) rfl rfl, TT_1 (i := 13) rfl rfl, TT_8 (i := 85) rfl rfl, ⟨by decide, by decide, by decide +kernel⟩⟩
theorem mv_X10_43 : MV RX10 43 yX10_isOpen cX10_isOpen 2 (some .boolean) 1 := ⟨TT_7 (i := 39) rfl rfl, TT_7 (i := 40) rfl rfl, TT_7 (i := 41) rfl rfl, TT_1 (i := 9) rfl rfl, TT_7 (i := 42) rfl rfl, ⟨by decide, by decide, by decide +kernel⟩⟩
theorem mv_X11_71 : MV RX11 71 yX9_addFourBytes cX9_addFourBytes 3 none 1 := ⟨TT_2 (i := 222) rfl rfl, TT_2 (i := 223) rfl rfl, TT_2 (i := 224) rfl rfl, TT_1 (i := 2) rfl rfl, TT_2 (i := 225) rfl rfl, ⟨by decide, by decide, by decide +kernel⟩⟩
theorem mv_X11_103 : MV RX11 103 yX5_left cX5_left 1 (some .int) 0 := ⟨TT_4 (i := 23) rfl rfl, TT_4 (i := 24) rfl rfl, TT_4 (i := 25) rfl rfl, TT_1 (i := 12) rfl rfl, TT_4 (i := 26) rfl rfl, ⟨by decide, by decide, by decide +kernel⟩⟩
theorem mv_X11_324 : MV RX11 324 yX0_fundLeft cX0_fundLeft 1 (some .long) 0 := ⟨TT_4 (i := 77) rfl rfl, TT_4 (i := 78) rfl rfl, TT_4 (i := 79) rfl rfl, TT_1 (i := 10) rfl rfl, TT_4 (i := 80) rfl rfl, ⟨by decide, by decide, by decide +kernel⟩⟩
theorem mv_X12_57 : MV RX12 57 yX12_copyBlock cX12_copyBlock 4 none 2 := ⟨TT_8 (i := 63) rfl rfl, TT_8 (i := 65) rfl rfl, TT_s (i := 31) (by decide +kernel) (by decide +kernel), TT_1 (i := 13) rfl rfl, TT_8 (i := 66) rfl rfl, ⟨by decide, by decide, by decide +kernel⟩⟩
theorem mv_X12_63 : MV RX12 63 yX12_of cX12_of 3 (some .long) 2 := ⟨TT_8 (i := 157) rfl rfl, TT_8 (i := 159) rfl rfl, TT_s (i := 41) (by decide +kernel) (by decide +kernel), TT_1 (i := 13) rfl rfl, TT_8 (i := 160) rfl rfl, ⟨by decide, by decide, by decide +kernel⟩⟩
theorem mv_X12_71 : MV RX12 71 yX12_ownerOf cX12_ownerOf 3 (some .int) 2 := ⟨TT_8 (i := 91) rfl rfl, TT_8 (i := 93) rfl rfl, TT_s (i := 33) (by decide +kernel) (by decide +kernel), TT_1 (i := 13) rfl rfl, TT_8 (i := 94) rfl rfl, ⟨by decide, by decide, by decide +kernel⟩⟩
theorem mv_X9_28 : MV RX9 28 yX9_failed cX9_failed 1 (some .boolean) 0 := ⟨TT_3 (i := 76) rfl rfl, TT_3 (i := 2) rfl rfl, TT_3 (i := 3) rfl rfl, TT_1 (i := 2) rfl rfl, TT_3 (i := 4) rfl rfl, ⟨by decide, by decide, by decide +kernel⟩⟩
theorem mv_X9_35 : MV RX9 35 yX9_kindAt cX9_kindAt 3 (some .int) 1 := ⟨TT_3 (i := 9) rfl rfl, TT_3 (i := 11) rfl rfl, TT_s (i := 0) (by decide +kernel) (by decide +kernel), TT_1 (i := 2) rfl rfl, TT_3 (i := 12) rfl rfl, ⟨by decide, by decide, by decide +kernel⟩⟩
theorem mv_X9_78 : MV RX9 78 yX9_advance cX9_advance 2 none 0 := ⟨TT_3 (i := 81) rfl rfl, TT_3 (i := 6) rfl rfl, TT_3 (i := 7) rfl rfl, TT_1 (i := 2) rfl rfl, TT_3 (i := 8) rfl rfl, ⟨by decide, by decide, by decide +kernel⟩⟩
theorem mv_X9_81 : MV RX9 81 yX9_fail cX9_fail 2 none 1 := ⟨TT_3 (i := 82) rfl rfl, TT_3 (i := 73) rfl rfl, TT_3 (i := 74) rfl rfl, TT_1 (i := 2) rfl rfl, TT_3 (i := 75) rfl rfl, ⟨by decide, by decide, by decide +kernel⟩⟩
def tab_X9_begin : List En := [(0, 8, 0, 0), (1, 0, 0, 0), (5, 8, 0, 0), (6, 0, 0, 0), (10, 8, 0, 0), (11, 0, 0, (-1))]
theorem ok_X9_begin : tab_X9_begin.all (okE cX9_begin) = true := by decide +kernel
def ed_X9_begin : List (Nat × Instr × Nat) := [(2, .putfield 19, 3), (7, .putfield 22, 3), (12, .putfield 25, 3), (15, .return_, 1)]
theorem okd_X9_begin : ed_X9_begin.all (okD cX9_begin) = true := by decide +kernel
def f_X9_begin (S : St) (p0 : Nat) : Option (St) := lt (uI S p0 4 0) fun (S1 : St) => lt (uI S1 p0 5 0) fun (S2 : St) => lt (uI S2 p0 6 (-1)) fun (S3 : St) => some S3
set_option maxHeartbeats 4000000 in
set_option maxRecDepth 100000 in
theorem c_X9_begin (S : St) (p0 : Nat) : Ct yX9_begin cX9_begin 1 none 0 0 [.ref p0] [(p0, 8)] S (f_X9_begin S p0) oV sV := by
  refine Ct_of RX9 rfl (by decide) (Nat.le_of_ble_eq_true rfl) 0 (vs := [some (.ref p0)]) rfl (fun C X E hr ht => ?_)
  have t0_ : tT C p0 8 := ht (p0, 8) (by simp)
  unfold f_X9_begin
  refine s_run X ok_X9_begin 0 2 (pc' := 2) (vs' := [some (.ref p0)]) (st' := [.int 0, .ref p0]) rfl ?_
  refine s_putI X fp_X9_19 t0_ (dk okd_X9_begin 0 rfl) (fun S1 => ?_)
  refine s_run X ok_X9_begin 2 2 (pc' := 7) (vs' := [some (.ref p0)]) (st' := [.int 0, .ref p0]) rfl ?_
  refine s_putI X fp_X9_22 t0_ (dk okd_X9_begin 1 rfl) (fun S2 => ?_)
  refine s_run X ok_X9_begin 4 2 (pc' := 12) (vs' := [some (.ref p0)]) (st' := [.int (-1), .ref p0]) rfl ?_
  refine s_putI X fp_X9_25 t0_ (dk okd_X9_begin 2 rfl) (fun S3 => ?_)
  exact s_vret X hr (dk okd_X9_begin 3 rfl) rfl rfl
def tab_X9_failed : List En := [(0, 8, 0, 0), (7, 0, 0, 1), (8, 41, 12, 0), (11, 0, 0, 0)]
theorem ok_X9_failed : tab_X9_failed.all (okE cX9_failed) = true := by decide +kernel
def ed_X9_failed : List (Nat × Instr × Nat) := [(1, .getfield 22, 3), (4, .ifCond .eq 7, 3), (12, .ireturn, 1)]
theorem okd_X9_failed : ed_X9_failed.all (okD cX9_failed) = true := by decide +kernel
def f_X9_failed (S : St) (p0 : Nat) : Option (Int32) := lt (gI S p0 5) fun (v1 : Int32) => if v1 = 0 then (some 0) else (some 1)
set_option maxHeartbeats 4000000 in
set_option maxRecDepth 100000 in
theorem c_X9_failed (S : St) (p0 : Nat) : Ct yX9_failed cX9_failed 1 (some .boolean) 0 0 [.ref p0] [(p0, 8)] S (f_X9_failed S p0) oI (fun _ => S) := by
  refine Ct_of RX9 rfl (by decide) (Nat.le_of_ble_eq_true rfl) 0 (vs := [some (.ref p0)]) rfl (fun C X E hr ht => ?_)
  have t0_ : tT C p0 8 := ht (p0, 8) (by simp)
  unfold f_X9_failed
  refine s_run X ok_X9_failed 0 1 (pc' := 1) (vs' := [some (.ref p0)]) (st' := [.ref p0]) rfl ?_
  refine s_getI X fl_X9_22 t0_ (dk okd_X9_failed 0 rfl) (fun v1 => ?_)
  refine s_if_eq (tgt := 11) X (dk okd_X9_failed 1 rfl) (by decide) ?_ ?_
  · refine s_run X ok_X9_failed 3 1 (pc' := 12) (vs' := [some (.ref p0)]) (st' := [.int 0]) rfl ?_
    exact s_zret0 X hr (dk okd_X9_failed 2 rfl) (by decide) rfl rfl
  · refine s_run X ok_X9_failed 1 2 (pc' := 12) (vs' := [some (.ref p0)]) (st' := [.int 1]) rfl ?_
    exact s_zret0 X hr (dk okd_X9_failed 2 rfl) (by decide) rfl rfl
def tab_X9_fail : List En := [(0, 8, 0, 0), (7, 8, 0, 0), (8, 4, 1, 0), (12, 8, 0, 0), (13, 8, 0, 0)]
theorem ok_X9_fail : tab_X9_fail.all (okE cX9_fail) = true := by decide +kernel
def ed_X9_fail : List (Nat × Instr × Nat) := [(1, .invokevirtual 28, 3), (4, .ifCond .ne 16, 3), (9, .putfield 22, 3), (14, .getfield 32, 3), (17, .putfield 25, 3), (20, .return_, 1)]
theorem okd_X9_fail : ed_X9_fail.all (okD cX9_fail) = true := by decide +kernel
def f_X9_fail (S : St) (p0 : Nat) (p1 : Int32) : Option (St) := cl (f_X9_failed S p0) fun (v1 : Int32) => if v1 = 0 then (lt (uI S p0 5 p1) fun (S2 : St) => lt (gI S2 p0 3) fun (v3 : Int32) => lt (uI S2 p0 6 v3) fun (S4 : St) => some S4) else (some S)
set_option maxHeartbeats 4000000 in
set_option maxRecDepth 100000 in
theorem c_X9_fail (S : St) (p0 : Nat) (p1 : Int32) : Ct yX9_fail cX9_fail 2 none 1 20 [.ref p0, .int p1] [(p0, 8)] S (f_X9_fail S p0 p1) oV sV := by
  refine Ct_of RX9 rfl (by decide) (Nat.le_of_ble_eq_true rfl) 0 (vs := [some (.ref p0), some (.int p1)]) rfl (fun C X E hr ht => ?_)
  have t0_ : tT C p0 8 := ht (p0, 8) (by simp)
  unfold f_X9_fail
  refine s_run X ok_X9_fail 0 1 (pc' := 1) (vs' := [some (.ref p0), some (.int p1)]) (st' := [.ref p0]) rfl ?_
  refine s_callV (rest := []) X E mv_X9_28 (c_X9_failed S p0) (ta1 t0_) rfl (by decide) t0_ rfl rfl (Nat.le_of_ble_eq_true rfl) (Nat.le_of_ble_eq_true rfl) (Nat.le_of_ble_eq_true rfl) (dk okd_X9_fail 0 rfl) (st' := fun v1 => [.int v1]) (fun _ => rfl) (fun v1 => ?_)
  refine s_if_ne (tgt := 20) X (dk okd_X9_fail 1 rfl) (by decide) ?_ ?_
  · exact s_vret X hr (dk okd_X9_fail 5 rfl) rfl rfl
  · refine s_run X ok_X9_fail 1 2 (pc' := 9) (vs' := [some (.ref p0), some (.int p1)]) (st' := [.int p1, .ref p0]) rfl ?_
    refine s_putI X fp_X9_22 t0_ (dk okd_X9_fail 2 rfl) (fun S2 => ?_)
    refine s_run X ok_X9_fail 3 2 (pc' := 14) (vs' := [some (.ref p0), some (.int p1)]) (st' := [.ref p0, .ref p0]) rfl ?_
    refine s_getI X fl_X9_32 t0_ (dk okd_X9_fail 3 rfl) (fun v3 => ?_)
    refine s_putI X fp_X9_25 t0_ (dk okd_X9_fail 4 rfl) (fun S4 => ?_)
    exact s_vret X hr (dk okd_X9_fail 5 rfl) rfl rfl
def tab_X9_kindAt : List En := [(0, 4, 1, 0), (4, 4, 1, 0), (5, 8, 0, 0), (12, 4, 1, 0), (13, 2, 0, 1500), (19, 0, 0, 0), (21, 8, 0, 0), (25, 4, 1, 0), (27, 10, 2, 0), (28, 4, 2, 0), (29, 1, 0, 97), (34, 4, 2, 0), (35, 1, 0, 122), (40, 0, 0, 1), (42, 4, 2, 0), (43, 1, 0, 48), (48, 4, 2, 0), (49, 1, 0, 57), (54, 0, 0, 2), (56, 4, 2, 0), (57, 1, 0, 32), (62, 4, 2, 0), (63, 1, 0, 10), (68, 0, 0, 4), (70, 4, 2, 0), (71, 1, 0, 59), (76, 0, 0, 3), (77, 41, 81, 0), (80, 0, 0, 5)]
theorem ok_X9_kindAt : tab_X9_kindAt.all (okE cX9_kindAt) = true := by decide +kernel
def ed_X9_kindAt : List (Nat × Instr × Nat) := [(1, .ifCond .lt 18, 3), (6, .getfield 15, 3), (9, .if_icmp .ge 10, 3), (16, .if_icmp .lt 5, 3), (20, .ireturn, 1), (22, .getfield 9, 3), (26, .baload, 1), (31, .if_icmp .lt 11, 3), (37, .if_icmp .gt 5, 3), (41, .ireturn, 1), (45, .if_icmp .lt 11, 3), (51, .if_icmp .gt 5, 3), (55, .ireturn, 1), (59, .if_icmp .eq 9, 3), (65, .if_icmp .ne 5, 3), (69, .ireturn, 1), (73, .if_icmp .ne 7, 3), (81, .ireturn, 1)]
theorem okd_X9_kindAt : ed_X9_kindAt.all (okD cX9_kindAt) = true := by decide +kernel
def f_X9_kindAt (S : St) (p0 : Nat) (p1 : Int32) : Option (Int32) := if p1 < 0 then (some 0) else (lt (gI S p0 1) fun (v1 : Int32) => if v1 ≤ p1 then (some 0) else (if p1 < 1500 then (lt (gR S p0 0) fun (a2 : Nat) => ldI S a2 p1 fun (v4 : Int32) => jn (κ := Option (Int32)) (jn (κ := Option (Int32)) (if v4 = 32 then (some 4) else (if v4 = 10 then (some 4) else (if v4 = 59 then (some 3) else (some 5)))) fun k7 => if v4 < 48 then (k7) else (if 57 < v4 then (k7) else (some 2))) fun k5 => if v4 < 97 then (k5) else (if 122 < v4 then (k5) else (some 1))) else (some 0)))
set_option maxHeartbeats 4000000 in
set_option maxRecDepth 100000 in
theorem c_X9_kindAt (S : St) (p0 : Nat) (p1 : Int32) : Ct yX9_kindAt cX9_kindAt 3 (some .int) 0 0 [.ref p0, .int p1] [(p0, 8)] S (f_X9_kindAt S p0 p1) oI (fun _ => S) := by
  refine Ct_of RX9 rfl (by decide) (Nat.le_of_ble_eq_true rfl) 1 (vs := [some (.ref p0), some (.int p1), none]) rfl (fun C X E hr ht => ?_)
  have t0_ : tT C p0 8 := ht (p0, 8) (by simp)
  unfold f_X9_kindAt
  refine s_run X ok_X9_kindAt 0 1 (pc' := 1) (vs' := [some (.ref p0), some (.int p1), none]) (st' := [.int p1]) rfl ?_
  refine s_if_lt (tgt := 19) X (dk okd_X9_kindAt 0 rfl) (by decide) ?_ ?_
  · refine s_run X ok_X9_kindAt 5 1 (pc' := 20) (vs' := [some (.ref p0), some (.int p1), none]) (st' := [.int 0]) rfl ?_
    exact s_iret X hr (dk okd_X9_kindAt 4 rfl) rfl rfl
  · refine s_run X ok_X9_kindAt 1 2 (pc' := 6) (vs' := [some (.ref p0), some (.int p1), none]) (st' := [.ref p0, .int p1]) rfl ?_
    refine s_getI X fl_X9_15 t0_ (dk okd_X9_kindAt 1 rfl) (fun v1 => ?_)
    refine s_icmp_ge (tgt := 19) X (dk okd_X9_kindAt 2 rfl) (by decide) ?_ ?_
    · refine s_run X ok_X9_kindAt 5 1 (pc' := 20) (vs' := [some (.ref p0), some (.int p1), none]) (st' := [.int 0]) rfl ?_
      exact s_iret X hr (dk okd_X9_kindAt 4 rfl) rfl rfl
    · refine s_run X ok_X9_kindAt 3 2 (pc' := 16) (vs' := [some (.ref p0), some (.int p1), none]) (st' := [.int 1500, .int p1]) rfl ?_
      refine s_icmp_lt (tgt := 21) X (dk okd_X9_kindAt 3 rfl) (by decide) ?_ ?_
      · refine s_run X ok_X9_kindAt 6 1 (pc' := 22) (vs' := [some (.ref p0), some (.int p1), none]) (st' := [.ref p0]) rfl ?_
        refine s_getR X fl_X9_9 t0_ (dk okd_X9_kindAt 5 rfl) (fun a2 (t3 : tT C a2 12) => ?_)
        refine s_run X ok_X9_kindAt 7 1 (pc' := 26) (vs' := [some (.ref p0), some (.int p1), none]) (st' := [.int p1, .ref a2]) rfl ?_
        refine s_bald X t3 (dk okd_X9_kindAt 6 rfl) (fun v4 => ?_)
        refine s_run X ok_X9_kindAt 8 3 (pc' := 31) (vs' := [some (.ref p0), some (.int p1), some (.int v4)]) (st' := [.int 97, .int v4]) rfl ?_
        refine s_jn (κ := Option (Int32)) (fun k5 => Jd C 3 (QJ C oI (fun _ => S)) S 42 [none, none, some (.int v4)] [] k5) ?_ (fun k5 h6 => ?_)
        · refine s_run X ok_X9_kindAt 14 2 (pc' := 45) (vs' := [none, none, some (.int v4)]) (st' := [.int 48, .int v4]) rfl ?_
          refine s_jn (κ := Option (Int32)) (fun k7 => Jd C 3 (QJ C oI (fun _ => S)) S 56 [none, none, some (.int v4)] [] k7) ?_ (fun k7 h8 => ?_)
          · refine s_run X ok_X9_kindAt 19 2 (pc' := 59) (vs' := [none, none, some (.int v4)]) (st' := [.int 32, .int v4]) rfl ?_
            refine s_icmp_eq (tgt := 68) X (dk okd_X9_kindAt 13 rfl) (by decide) ?_ ?_
            · refine s_run X ok_X9_kindAt 23 1 (pc' := 69) (vs' := [none, none, some (.int v4)]) (st' := [.int 4]) rfl ?_
              exact s_iret X hr (dk okd_X9_kindAt 15 rfl) rfl rfl
            · refine s_run X ok_X9_kindAt 21 2 (pc' := 65) (vs' := [none, none, some (.int v4)]) (st' := [.int 10, .int v4]) rfl ?_
              refine s_icmp_ne (tgt := 70) X (dk okd_X9_kindAt 14 rfl) (by decide) ?_ ?_
              · refine s_run X ok_X9_kindAt 24 2 (pc' := 73) (vs' := [none, none, some (.int v4)]) (st' := [.int 59, .int v4]) rfl ?_
                refine s_icmp_ne (tgt := 80) X (dk okd_X9_kindAt 16 rfl) (by decide) ?_ ?_
                · refine s_run X ok_X9_kindAt 28 1 (pc' := 81) (vs' := [none, none, some (.int v4)]) (st' := [.int 5]) rfl ?_
                  exact s_iret X hr (dk okd_X9_kindAt 17 rfl) rfl rfl
                · refine s_run X ok_X9_kindAt 26 2 (pc' := 81) (vs' := [none, none, some (.int v4)]) (st' := [.int 3]) rfl ?_
                  exact s_iret X hr (dk okd_X9_kindAt 17 rfl) rfl rfl
              · refine s_run X ok_X9_kindAt 23 1 (pc' := 69) (vs' := [none, none, some (.int v4)]) (st' := [.int 4]) rfl ?_
                exact s_iret X hr (dk okd_X9_kindAt 15 rfl) rfl rfl
          · refine s_icmp_lt (tgt := 56) X (dk okd_X9_kindAt 10 rfl) (by decide) ?_ ?_
            · exact h8
            · refine s_run X ok_X9_kindAt 16 2 (pc' := 51) (vs' := [none, none, some (.int v4)]) (st' := [.int 57, .int v4]) rfl ?_
              refine s_icmp_gt (tgt := 56) X (dk okd_X9_kindAt 11 rfl) (by decide) ?_ ?_
              · exact h8
              · refine s_run X ok_X9_kindAt 18 1 (pc' := 55) (vs' := [none, none, some (.int v4)]) (st' := [.int 2]) rfl ?_
                exact s_iret X hr (dk okd_X9_kindAt 12 rfl) rfl rfl
        · refine s_icmp_lt (tgt := 42) X (dk okd_X9_kindAt 7 rfl) (by decide) ?_ ?_
          · exact s_less [false, false, true] rfl (h6)
          · refine s_run X ok_X9_kindAt 11 2 (pc' := 37) (vs' := [some (.ref p0), some (.int p1), some (.int v4)]) (st' := [.int 122, .int v4]) rfl ?_
            refine s_icmp_gt (tgt := 42) X (dk okd_X9_kindAt 8 rfl) (by decide) ?_ ?_
            · exact s_less [false, false, true] rfl (h6)
            · refine s_run X ok_X9_kindAt 13 1 (pc' := 41) (vs' := [some (.ref p0), some (.int p1), some (.int v4)]) (st' := [.int 1]) rfl ?_
              exact s_iret X hr (dk okd_X9_kindAt 9 rfl) rfl rfl
      · refine s_run X ok_X9_kindAt 5 1 (pc' := 20) (vs' := [some (.ref p0), some (.int p1), none]) (st' := [.int 0]) rfl ?_
        exact s_iret X hr (dk okd_X9_kindAt 4 rfl) rfl rfl
def tab_X9_advance : List En := [(0, 8, 0, 0), (4, 8, 0, 0), (11, 8, 0, 0), (12, 8, 0, 0), (19, 0, 0, 4), (23, 8, 0, 0), (24, 36, 0, 0), (28, 0, 0, 1), (29, 17, 0, 0), (33, 41, 0, 0), (36, 8, 0, 0), (37, 8, 0, 0), (44, 8, 0, 0), (45, 8, 0, 0), (46, 8, 0, 0), (56, 8, 0, 0), (57, 0, 0, 0), (61, 8, 0, 0), (65, 0, 0, 1), (69, 8, 0, 0), (73, 0, 0, 2), (77, 0, 0, 1), (78, 41, 82, 0), (81, 0, 0, 0), (82, 10, 1, 0), (83, 4, 1, 0), (87, 8, 0, 0), (91, 8, 0, 0), (98, 8, 0, 0), (99, 8, 0, 0), (106, 8, 0, 0), (113, 8, 0, 0), (114, 8, 0, 0), (118, 1, 0, 10), (120, 19, 0, 0), (121, 8, 0, 0), (125, 8, 0, 0), (130, 17, 0, 0), (131, 1, 0, 48), (133, 18, 0, 0), (137, 8, 0, 0), (138, 36, 0, 0), (142, 0, 0, 1), (143, 17, 0, 0), (147, 41, 83, 0), (150, 8, 0, 0), (154, 0, 0, 3), (158, 8, 0, 0), (159, 36, 0, 0), (163, 0, 0, 1), (164, 17, 0, 0), (168, 41, 207, 0), (171, 4, 1, 0), (175, 8, 0, 0), (179, 8, 0, 0), (183, 18, 0, 0), (184, 8, 0, 0), (188, 0, 0, 1), (192, 1, 0, 10), (194, 41, 199, 0), (197, 1, 0, 6), (202, 8, 0, 0), (203, 0, 0, 5)]
theorem ok_X9_advance : tab_X9_advance.all (okE cX9_advance) = true := by decide +kernel
def ed_X9_advance : List (Nat × Instr × Nat) := [(1, .getfield 19, 3), (5, .getfield 15, 3), (8, .if_icmp .ge 28, 3), (13, .getfield 19, 3), (16, .invokevirtual 35, 3), (20, .if_icmp .ne 16, 3), (25, .getfield 19, 3), (30, .putfield 19, 3), (38, .getfield 19, 3), (41, .putfield 32, 3), (47, .getfield 32, 3), (50, .invokevirtual 35, 3), (53, .putfield 39, 3), (58, .putfield 42, 3), (62, .getfield 39, 3), (66, .if_icmp .eq 11, 3), (70, .getfield 39, 3), (74, .if_icmp .ne 7, 3), (84, .ifCond .eq 66, 3), (88, .getfield 19, 3), (92, .getfield 15, 3), (95, .if_icmp .ge 55, 3), (100, .getfield 19, 3), (103, .invokevirtual 35, 3), (107, .getfield 39, 3), (110, .if_icmp .ne 40, 3), (115, .getfield 42, 3), (122, .getfield 9, 3), (126, .getfield 19, 3), (129, .baload, 1), (134, .putfield 42, 3), (139, .getfield 19, 3), (144, .putfield 19, 3), (151, .getfield 39, 3), (155, .if_icmp .ne 16, 3), (160, .getfield 19, 3), (165, .putfield 19, 3), (172, .ifCond .eq 35, 3), (176, .getfield 19, 3), (180, .getfield 32, 3), (185, .getfield 39, 3), (189, .if_icmp .ne 8, 3), (199, .if_icmp .le 8, 3), (204, .putfield 39, 3), (207, .return_, 1)]
theorem okd_X9_advance : ed_X9_advance.all (okD cX9_advance) = true := by decide +kernel
def f_X9_advance (S : St) (p0 : Nat) : Option (St) := jn (κ := St → Option (St)) (fun S1 => lt (gI S1 p0 4) fun (v4 : Int32) => lt (uI S1 p0 3 v4) fun (S5 : St) => lt (gI S5 p0 3) fun (v6 : Int32) => cl (f_X9_kindAt S5 p0 v6) fun (v7 : Int32) => lt (uI S5 p0 2 v7) fun (S8 : St) => lt (uI S8 p0 7 0) fun (S9 : St) => lt (gI S9 p0 2) fun (v10 : Int32) => jn (κ := Int32 → Option (St)) (fun x11 => jn (κ := St → Option (St)) (fun S14 => lt (gI S14 p0 2) fun (v17 : Int32) => if v17 = 3 then (lt (gI S14 p0 4) fun (v25 : Int32) => lt (uI S14 p0 4 (v25 + 1)) fun (S26 : St) => some S26) else (if x11 = 0 then (some S14) else (lt (gI S14 p0 4) fun (v18 : Int32) => lt (gI S14 p0 3) fun (v19 : Int32) => lt (gI S14 p0 2) fun (v20 : Int32) => jn (κ := Int32 → Option (St)) (fun x21 => if (v18 - v19) ≤ x21 then (some S14) else (lt (uI S14 p0 2 5) fun (S24 : St) => some S24)) fun k22 => if v20 = 1 then (k22 10) else (k22 6)))) fun k15 => lp (κ := St → Option (St)) (fun _ => none) (fun k28 S27 => if x11 = 0 then (k15 S27) else (lt (gI S27 p0 4) fun (v30 : Int32) => lt (gI S27 p0 1) fun (v31 : Int32) => if v31 ≤ v30 then (k15 S27) else (lt (gI S27 p0 4) fun (v32 : Int32) => cl (f_X9_kindAt S27 p0 v32) fun (v33 : Int32) => lt (gI S27 p0 2) fun (v34 : Int32) => if v33 = v34 then (lt (gI S27 p0 7) fun (v35 : Int32) => lt (gR S27 p0 0) fun (a36 : Nat) => lt (gI S27 p0 4) fun (v38 : Int32) => ldI S27 a36 v38 fun (v39 : Int32) => lt (uI S27 p0 7 (((v35 * 10) + v39) - 48)) fun (S40 : St) => lt (gI S40 p0 4) fun (v41 : Int32) => lt (uI S40 p0 4 (v41 + 1)) fun (S42 : St) => k28 S42) else (k15 S27)))) FU S9) fun k12 => jn (κ := Option (St)) (k12 1) fun k43 => if v10 = 1 then (k43) else (lt (gI S9 p0 2) fun (v45 : Int32) => if v45 = 2 then (k43) else (k12 0))) fun k2 => lp (κ := St → Option (St)) (fun _ => none) (fun k47 S46 => lt (gI S46 p0 4) fun (v49 : Int32) => lt (gI S46 p0 1) fun (v50 : Int32) => if v50 ≤ v49 then (k2 S46) else (lt (gI S46 p0 4) fun (v51 : Int32) => cl (f_X9_kindAt S46 p0 v51) fun (v52 : Int32) => if v52 = 4 then (lt (gI S46 p0 4) fun (v53 : Int32) => lt (uI S46 p0 4 (v53 + 1)) fun (S54 : St) => k47 S54) else (k2 S46))) FU S
set_option maxHeartbeats 4000000 in
set_option maxRecDepth 100000 in
theorem c_X9_advance (S : St) (p0 : Nat) : Ct yX9_advance cX9_advance 2 none 1 22 [.ref p0] [(p0, 8)] S (f_X9_advance S p0) oV sV := by
  refine Ct_of RX9 rfl (by decide) (Nat.le_of_ble_eq_true rfl) 1 (vs := [some (.ref p0), none]) rfl (fun C X E hr ht => ?_)
  have t0_ : tT C p0 8 := ht (p0, 8) (by simp)
  unfold f_X9_advance
  refine s_jn (κ := St → Option (St)) (fun k2 => ∀ (S1 : St), Jd C 2 (QJ C oV sV) S1 36 [some (.ref p0), none] [] (k2 S1)) (fun S1 => ?_) (fun k2 h3 => ?_)
  · refine s_run X ok_X9_advance 10 2 (pc' := 38) (vs' := [some (.ref p0), none]) (st' := [.ref p0, .ref p0]) rfl ?_
    refine s_getI X fl_X9_19 t0_ (dk okd_X9_advance 8 rfl) (fun v4 => ?_)
    refine s_putI X fp_X9_32 t0_ (dk okd_X9_advance 9 rfl) (fun S5 => ?_)
    refine s_run X ok_X9_advance 12 3 (pc' := 47) (vs' := [some (.ref p0), none]) (st' := [.ref p0, .ref p0, .ref p0]) rfl ?_
    refine s_getI X fl_X9_32 t0_ (dk okd_X9_advance 10 rfl) (fun v6 => ?_)
    refine s_callV (rest := [.ref p0]) X E mv_X9_35 (c_X9_kindAt S5 p0 v6) (ta1 t0_) rfl (by decide) t0_ rfl rfl (Nat.le_of_ble_eq_true rfl) (Nat.le_of_ble_eq_true rfl) (Nat.le_of_ble_eq_true rfl) (dk okd_X9_advance 11 rfl) (st' := fun v7 => [.int v7, .ref p0]) (fun _ => rfl) (fun v7 => ?_)
    refine s_putI X fp_X9_39 t0_ (dk okd_X9_advance 12 rfl) (fun S8 => ?_)
    refine s_run X ok_X9_advance 15 2 (pc' := 58) (vs' := [some (.ref p0), none]) (st' := [.int 0, .ref p0]) rfl ?_
    refine s_putI X fp_X9_42 t0_ (dk okd_X9_advance 13 rfl) (fun S9 => ?_)
    refine s_run X ok_X9_advance 17 1 (pc' := 62) (vs' := [some (.ref p0), none]) (st' := [.ref p0]) rfl ?_
    refine s_getI X fl_X9_39 t0_ (dk okd_X9_advance 14 rfl) (fun v10 => ?_)
    refine s_run X ok_X9_advance 18 1 (pc' := 66) (vs' := [some (.ref p0), none]) (st' := [.int 1, .int v10]) rfl ?_
    refine s_jn (κ := Int32 → Option (St)) (fun k12 => ∀ (x11 : Int32), Jd C 2 (QJ C oV sV) S9 82 [some (.ref p0), none] [.int x11] (k12 x11)) (fun x11 => ?_) (fun k12 h13 => ?_)
    · refine s_run X ok_X9_advance 24 1 (pc' := 83) (vs' := [some (.ref p0), some (.int x11)]) (st' := []) rfl ?_
      refine s_jn (κ := St → Option (St)) (fun k15 => ∀ (S14 : St), Jd C 2 (QJ C oV sV) S14 150 [some (.ref p0), some (.int x11)] [] (k15 S14)) (fun S14 => ?_) (fun k15 h16 => ?_)
      · refine s_run X ok_X9_advance 45 1 (pc' := 151) (vs' := [some (.ref p0), some (.int x11)]) (st' := [.ref p0]) rfl ?_
        refine s_getI X fl_X9_39 t0_ (dk okd_X9_advance 33 rfl) (fun v17 => ?_)
        refine s_run X ok_X9_advance 46 1 (pc' := 155) (vs' := [some (.ref p0), some (.int x11)]) (st' := [.int 3, .int v17]) rfl ?_
        refine s_icmp_ne (tgt := 171) X (dk okd_X9_advance 34 rfl) (by decide) ?_ ?_
        · refine s_run X ok_X9_advance 52 1 (pc' := 172) (vs' := [some (.ref p0), some (.int x11)]) (st' := [.int x11]) rfl ?_
          refine s_if_eq (tgt := 207) X (dk okd_X9_advance 37 rfl) (by decide) ?_ ?_
          · exact s_vret X hr (dk okd_X9_advance 44 rfl) rfl rfl
          · refine s_run X ok_X9_advance 53 1 (pc' := 176) (vs' := [some (.ref p0), some (.int x11)]) (st' := [.ref p0]) rfl ?_
            refine s_getI X fl_X9_19 t0_ (dk okd_X9_advance 38 rfl) (fun v18 => ?_)
            refine s_run X ok_X9_advance 54 1 (pc' := 180) (vs' := [some (.ref p0), some (.int x11)]) (st' := [.ref p0, .int v18]) rfl ?_
            refine s_getI X fl_X9_32 t0_ (dk okd_X9_advance 39 rfl) (fun v19 => ?_)
            refine s_run X ok_X9_advance 55 2 (pc' := 185) (vs' := [some (.ref p0), some (.int x11)]) (st' := [.ref p0, .int (v18 - v19)]) rfl ?_
            refine s_getI X fl_X9_39 t0_ (dk okd_X9_advance 40 rfl) (fun v20 => ?_)
            refine s_run X ok_X9_advance 57 1 (pc' := 189) (vs' := [some (.ref p0), some (.int x11)]) (st' := [.int 1, .int v20, .int (v18 - v19)]) rfl ?_
            refine s_jn (κ := Int32 → Option (St)) (fun k22 => ∀ (x21 : Int32), Jd C 2 (QJ C oV sV) S14 199 [some (.ref p0), none] [.int x21, .int (v18 - v19)] (k22 x21)) (fun x21 => ?_) (fun k22 h23 => ?_)
            · refine s_icmp_le (tgt := 207) X (dk okd_X9_advance 42 rfl) (by decide) ?_ ?_
              · exact s_vret X hr (dk okd_X9_advance 44 rfl) rfl rfl
              · refine s_run X ok_X9_advance 61 2 (pc' := 204) (vs' := [some (.ref p0), none]) (st' := [.int 5, .ref p0]) rfl ?_
                refine s_putI X fp_X9_39 t0_ (dk okd_X9_advance 43 rfl) (fun S24 => ?_)
                exact s_vret X hr (dk okd_X9_advance 44 rfl) rfl rfl
            · refine s_icmp_ne (tgt := 197) X (dk okd_X9_advance 41 rfl) (by decide) ?_ ?_
              · refine s_run X ok_X9_advance 60 1 (pc' := 199) (vs' := [some (.ref p0), some (.int x11)]) (st' := [.int 6, .int (v18 - v19)]) rfl ?_
                exact s_less [true, false] rfl (h23 6)
              · refine s_run X ok_X9_advance 58 2 (pc' := 199) (vs' := [some (.ref p0), some (.int x11)]) (st' := [.int 10, .int (v18 - v19)]) rfl ?_
                exact s_less [true, false] rfl (h23 10)
        · refine s_run X ok_X9_advance 47 2 (pc' := 160) (vs' := [some (.ref p0), some (.int x11)]) (st' := [.ref p0, .ref p0]) rfl ?_
          refine s_getI X fl_X9_19 t0_ (dk okd_X9_advance 35 rfl) (fun v25 => ?_)
          refine s_run X ok_X9_advance 49 2 (pc' := 165) (vs' := [some (.ref p0), some (.int x11)]) (st' := [.int (v25 + 1), .ref p0]) rfl ?_
          refine s_putI X fp_X9_19 t0_ (dk okd_X9_advance 36 rfl) (fun S26 => ?_)
          refine s_run X ok_X9_advance 51 1 (pc' := 207) (vs' := [some (.ref p0), some (.int x11)]) (st' := []) rfl ?_
          exact s_vret X hr (dk okd_X9_advance 44 rfl) rfl rfl
      · refine s_lp (κ := St → Option (St)) (fun k28 => ∀ (S27 : St), Jd C 2 (QJ C oV sV) S27 83 [some (.ref p0), some (.int x11)] [] (k28 S27)) (fun _ => s_none) (fun k28 h29 S27 => ?_) FU S9
        refine s_run X ok_X9_advance 25 1 (pc' := 84) (vs' := [some (.ref p0), some (.int x11)]) (st' := [.int x11]) rfl ?_
        refine s_if_eq (tgt := 150) X (dk okd_X9_advance 18 rfl) (by decide) ?_ ?_
        · exact h16 S27
        · refine s_run X ok_X9_advance 26 1 (pc' := 88) (vs' := [some (.ref p0), some (.int x11)]) (st' := [.ref p0]) rfl ?_
          refine s_getI X fl_X9_19 t0_ (dk okd_X9_advance 19 rfl) (fun v30 => ?_)
          refine s_run X ok_X9_advance 27 1 (pc' := 92) (vs' := [some (.ref p0), some (.int x11)]) (st' := [.ref p0, .int v30]) rfl ?_
          refine s_getI X fl_X9_15 t0_ (dk okd_X9_advance 20 rfl) (fun v31 => ?_)
          refine s_icmp_ge (tgt := 150) X (dk okd_X9_advance 21 rfl) (by decide) ?_ ?_
          · exact h16 S27
          · refine s_run X ok_X9_advance 28 2 (pc' := 100) (vs' := [some (.ref p0), some (.int x11)]) (st' := [.ref p0, .ref p0]) rfl ?_
            refine s_getI X fl_X9_19 t0_ (dk okd_X9_advance 22 rfl) (fun v32 => ?_)
            refine s_callV (rest := []) X E mv_X9_35 (c_X9_kindAt S27 p0 v32) (ta1 t0_) rfl (by decide) t0_ rfl rfl (Nat.le_of_ble_eq_true rfl) (Nat.le_of_ble_eq_true rfl) (Nat.le_of_ble_eq_true rfl) (dk okd_X9_advance 23 rfl) (st' := fun v33 => [.int v33]) (fun _ => rfl) (fun v33 => ?_)
            refine s_run X ok_X9_advance 30 1 (pc' := 107) (vs' := [some (.ref p0), some (.int x11)]) (st' := [.ref p0, .int v33]) rfl ?_
            refine s_getI X fl_X9_39 t0_ (dk okd_X9_advance 24 rfl) (fun v34 => ?_)
            refine s_icmp_ne (tgt := 150) X (dk okd_X9_advance 25 rfl) (by decide) ?_ ?_
            · exact h16 S27
            · refine s_run X ok_X9_advance 31 2 (pc' := 115) (vs' := [some (.ref p0), some (.int x11)]) (st' := [.ref p0, .ref p0]) rfl ?_
              refine s_getI X fl_X9_42 t0_ (dk okd_X9_advance 26 rfl) (fun v35 => ?_)
              refine s_run X ok_X9_advance 33 3 (pc' := 122) (vs' := [some (.ref p0), some (.int x11)]) (st' := [.ref p0, .int (v35 * 10), .ref p0]) rfl ?_
              refine s_getR X fl_X9_9 t0_ (dk okd_X9_advance 27 rfl) (fun a36 (t37 : tT C a36 12) => ?_)
              refine s_run X ok_X9_advance 36 1 (pc' := 126) (vs' := [some (.ref p0), some (.int x11)]) (st' := [.ref p0, .ref a36, .int (v35 * 10), .ref p0]) rfl ?_
              refine s_getI X fl_X9_19 t0_ (dk okd_X9_advance 28 rfl) (fun v38 => ?_)
              refine s_bald X t37 (dk okd_X9_advance 29 rfl) (fun v39 => ?_)
              refine s_run X ok_X9_advance 37 3 (pc' := 134) (vs' := [some (.ref p0), some (.int x11)]) (st' := [.int (((v35 * 10) + v39) - 48), .ref p0]) rfl ?_
              refine s_putI X fp_X9_42 t0_ (dk okd_X9_advance 30 rfl) (fun S40 => ?_)
              refine s_run X ok_X9_advance 40 2 (pc' := 139) (vs' := [some (.ref p0), some (.int x11)]) (st' := [.ref p0, .ref p0]) rfl ?_
              refine s_getI X fl_X9_19 t0_ (dk okd_X9_advance 31 rfl) (fun v41 => ?_)
              refine s_run X ok_X9_advance 42 2 (pc' := 144) (vs' := [some (.ref p0), some (.int x11)]) (st' := [.int (v41 + 1), .ref p0]) rfl ?_
              refine s_putI X fp_X9_19 t0_ (dk okd_X9_advance 32 rfl) (fun S42 => ?_)
              refine s_run X ok_X9_advance 44 1 (pc' := 83) (vs' := [some (.ref p0), some (.int x11)]) (st' := []) rfl ?_
              exact h29 S42
    · refine s_jn (κ := Option (St)) (fun k43 => Jd C 2 (QJ C oV sV) S9 77 [some (.ref p0), none] [] k43) ?_ (fun k43 h44 => ?_)
      · refine s_run X ok_X9_advance 21 2 (pc' := 82) (vs' := [some (.ref p0), none]) (st' := [.int 1]) rfl ?_
        exact h13 1
      · refine s_icmp_eq (tgt := 77) X (dk okd_X9_advance 15 rfl) (by decide) ?_ ?_
        · exact h44
        · refine s_run X ok_X9_advance 19 1 (pc' := 70) (vs' := [some (.ref p0), none]) (st' := [.ref p0]) rfl ?_
          refine s_getI X fl_X9_39 t0_ (dk okd_X9_advance 16 rfl) (fun v45 => ?_)
          refine s_run X ok_X9_advance 20 1 (pc' := 74) (vs' := [some (.ref p0), none]) (st' := [.int 2, .int v45]) rfl ?_
          refine s_icmp_ne (tgt := 81) X (dk okd_X9_advance 17 rfl) (by decide) ?_ ?_
          · refine s_run X ok_X9_advance 23 1 (pc' := 82) (vs' := [some (.ref p0), none]) (st' := [.int 0]) rfl ?_
            exact h13 0
          · exact h44
  · refine s_lp (κ := St → Option (St)) (fun k47 => ∀ (S46 : St), Jd C 2 (QJ C oV sV) S46 0 [some (.ref p0), none] [] (k47 S46)) (fun _ => s_none) (fun k47 h48 S46 => ?_) FU S
    refine s_run X ok_X9_advance 0 1 (pc' := 1) (vs' := [some (.ref p0), none]) (st' := [.ref p0]) rfl ?_
    refine s_getI X fl_X9_19 t0_ (dk okd_X9_advance 0 rfl) (fun v49 => ?_)
    refine s_run X ok_X9_advance 1 1 (pc' := 5) (vs' := [some (.ref p0), none]) (st' := [.ref p0, .int v49]) rfl ?_
    refine s_getI X fl_X9_15 t0_ (dk okd_X9_advance 1 rfl) (fun v50 => ?_)
    refine s_icmp_ge (tgt := 36) X (dk okd_X9_advance 2 rfl) (by decide) ?_ ?_
    · exact h3 S46
    · refine s_run X ok_X9_advance 2 2 (pc' := 13) (vs' := [some (.ref p0), none]) (st' := [.ref p0, .ref p0]) rfl ?_
      refine s_getI X fl_X9_19 t0_ (dk okd_X9_advance 3 rfl) (fun v51 => ?_)
      refine s_callV (rest := []) X E mv_X9_35 (c_X9_kindAt S46 p0 v51) (ta1 t0_) rfl (by decide) t0_ rfl rfl (Nat.le_of_ble_eq_true rfl) (Nat.le_of_ble_eq_true rfl) (Nat.le_of_ble_eq_true rfl) (dk okd_X9_advance 4 rfl) (st' := fun v52 => [.int v52]) (fun _ => rfl) (fun v52 => ?_)
      refine s_run X ok_X9_advance 4 1 (pc' := 20) (vs' := [some (.ref p0), none]) (st' := [.int 4, .int v52]) rfl ?_
      refine s_icmp_ne (tgt := 36) X (dk okd_X9_advance 5 rfl) (by decide) ?_ ?_
      · exact h3 S46
      · refine s_run X ok_X9_advance 5 2 (pc' := 25) (vs' := [some (.ref p0), none]) (st' := [.ref p0, .ref p0]) rfl ?_
        refine s_getI X fl_X9_19 t0_ (dk okd_X9_advance 6 rfl) (fun v53 => ?_)
        refine s_run X ok_X9_advance 7 2 (pc' := 30) (vs' := [some (.ref p0), none]) (st' := [.int (v53 + 1), .ref p0]) rfl ?_
        refine s_putI X fp_X9_19 t0_ (dk okd_X9_advance 7 rfl) (fun S54 => ?_)
        refine s_run X ok_X9_advance 9 1 (pc' := 0) (vs' := [some (.ref p0), none]) (st' := []) rfl ?_
        exact h48 S54
def tab_X9_semicolonAhead : List En := [(0, 8, 0, 0), (4, 8, 0, 0), (5, 8, 0, 0), (12, 8, 0, 0), (16, 0, 0, 3), (20, 0, 0, 1), (21, 41, 25, 0), (24, 0, 0, 0)]
theorem ok_X9_semicolonAhead : tab_X9_semicolonAhead.all (okE cX9_semicolonAhead) = true := by decide +kernel
def ed_X9_semicolonAhead : List (Nat × Instr × Nat) := [(1, .invokevirtual 78, 3), (6, .getfield 32, 3), (9, .putfield 19, 3), (13, .getfield 39, 3), (17, .if_icmp .ne 7, 3), (25, .ireturn, 1)]
theorem okd_X9_semicolonAhead : ed_X9_semicolonAhead.all (okD cX9_semicolonAhead) = true := by decide +kernel
def f_X9_semicolonAhead (S : St) (p0 : Nat) : Option (Int32 × St) := cl (f_X9_advance S p0) fun (S1 : St) => lt (gI S1 p0 3) fun (v2 : Int32) => lt (uI S1 p0 4 v2) fun (S3 : St) => lt (gI S3 p0 2) fun (v4 : Int32) => if v4 = 3 then (some (1, S3)) else (some (0, S3))
set_option maxHeartbeats 4000000 in
set_option maxRecDepth 100000 in
theorem c_X9_semicolonAhead (S : St) (p0 : Nat) : Ct yX9_semicolonAhead cX9_semicolonAhead 1 (some .boolean) 2 43 [.ref p0] [(p0, 8)] S (f_X9_semicolonAhead S p0) oIS sS := by
  refine Ct_of RX9 rfl (by decide) (Nat.le_of_ble_eq_true rfl) 0 (vs := [some (.ref p0)]) rfl (fun C X E hr ht => ?_)
  have t0_ : tT C p0 8 := ht (p0, 8) (by simp)
  unfold f_X9_semicolonAhead
  refine s_run X ok_X9_semicolonAhead 0 1 (pc' := 1) (vs' := [some (.ref p0)]) (st' := [.ref p0]) rfl ?_
  refine s_callV (rest := []) X E mv_X9_78 (c_X9_advance S p0) (ta1 t0_) rfl (by decide) t0_ rfl rfl (Nat.le_of_ble_eq_true rfl) (Nat.le_of_ble_eq_true rfl) (Nat.le_of_ble_eq_true rfl) (dk okd_X9_semicolonAhead 0 rfl) (st' := fun S1 => []) (fun _ => rfl) (fun S1 => ?_)
  refine s_run X ok_X9_semicolonAhead 1 2 (pc' := 6) (vs' := [some (.ref p0)]) (st' := [.ref p0, .ref p0]) rfl ?_
  refine s_getI X fl_X9_32 t0_ (dk okd_X9_semicolonAhead 1 rfl) (fun v2 => ?_)
  refine s_putI X fp_X9_19 t0_ (dk okd_X9_semicolonAhead 2 rfl) (fun S3 => ?_)
  refine s_run X ok_X9_semicolonAhead 3 1 (pc' := 13) (vs' := [some (.ref p0)]) (st' := [.ref p0]) rfl ?_
  refine s_getI X fl_X9_39 t0_ (dk okd_X9_semicolonAhead 3 rfl) (fun v4 => ?_)
  refine s_run X ok_X9_semicolonAhead 4 1 (pc' := 17) (vs' := [some (.ref p0)]) (st' := [.int 3, .int v4]) rfl ?_
  refine s_icmp_ne (tgt := 24) X (dk okd_X9_semicolonAhead 4 rfl) (by decide) ?_ ?_
  · refine s_run X ok_X9_semicolonAhead 7 1 (pc' := 25) (vs' := [some (.ref p0)]) (st' := [.int 0]) rfl ?_
    exact s_zret0 X hr (dk okd_X9_semicolonAhead 5 rfl) (by decide) rfl rfl
  · refine s_run X ok_X9_semicolonAhead 5 2 (pc' := 25) (vs' := [some (.ref p0)]) (st' := [.int 1]) rfl ?_
    exact s_zret0 X hr (dk okd_X9_semicolonAhead 5 rfl) (by decide) rfl rfl
def tab_X9_endStatement : List En := [(0, 8, 0, 0), (4, 8, 0, 0), (8, 0, 0, 3), (12, 8, 0, 0), (13, 0, 0, 1)]
theorem ok_X9_endStatement : tab_X9_endStatement.all (okE cX9_endStatement) = true := by decide +kernel
def ed_X9_endStatement : List (Nat × Instr × Nat) := [(1, .invokevirtual 78, 3), (5, .getfield 39, 3), (9, .if_icmp .eq 8, 3), (14, .invokevirtual 81, 3), (17, .return_, 1)]
theorem okd_X9_endStatement : ed_X9_endStatement.all (okD cX9_endStatement) = true := by decide +kernel
def f_X9_endStatement (S : St) (p0 : Nat) : Option (St) := cl (f_X9_advance S p0) fun (S1 : St) => lt (gI S1 p0 2) fun (v2 : Int32) => if v2 = 3 then (some S1) else (cl (f_X9_fail S1 p0 1) fun (S3 : St) => some S3)
set_option maxHeartbeats 4000000 in
set_option maxRecDepth 100000 in
theorem c_X9_endStatement (S : St) (p0 : Nat) : Ct yX9_endStatement cX9_endStatement 1 none 2 43 [.ref p0] [(p0, 8)] S (f_X9_endStatement S p0) oV sV := by
  refine Ct_of RX9 rfl (by decide) (Nat.le_of_ble_eq_true rfl) 0 (vs := [some (.ref p0)]) rfl (fun C X E hr ht => ?_)
  have t0_ : tT C p0 8 := ht (p0, 8) (by simp)
  unfold f_X9_endStatement
  refine s_run X ok_X9_endStatement 0 1 (pc' := 1) (vs' := [some (.ref p0)]) (st' := [.ref p0]) rfl ?_
  refine s_callV (rest := []) X E mv_X9_78 (c_X9_advance S p0) (ta1 t0_) rfl (by decide) t0_ rfl rfl (Nat.le_of_ble_eq_true rfl) (Nat.le_of_ble_eq_true rfl) (Nat.le_of_ble_eq_true rfl) (dk okd_X9_endStatement 0 rfl) (st' := fun S1 => []) (fun _ => rfl) (fun S1 => ?_)
  refine s_run X ok_X9_endStatement 1 1 (pc' := 5) (vs' := [some (.ref p0)]) (st' := [.ref p0]) rfl ?_
  refine s_getI X fl_X9_39 t0_ (dk okd_X9_endStatement 1 rfl) (fun v2 => ?_)
  refine s_run X ok_X9_endStatement 2 1 (pc' := 9) (vs' := [some (.ref p0)]) (st' := [.int 3, .int v2]) rfl ?_
  refine s_icmp_eq (tgt := 17) X (dk okd_X9_endStatement 2 rfl) (by decide) ?_ ?_
  · exact s_vret X hr (dk okd_X9_endStatement 4 rfl) rfl rfl
  · refine s_run X ok_X9_endStatement 3 2 (pc' := 14) (vs' := [some (.ref p0)]) (st' := [.int 1, .ref p0]) rfl ?_
    refine s_callV (rest := []) X E mv_X9_81 (c_X9_fail S1 p0 1) (ta1 t0_) rfl (by decide) t0_ rfl rfl (Nat.le_of_ble_eq_true rfl) (Nat.le_of_ble_eq_true rfl) (Nat.le_of_ble_eq_true rfl) (dk okd_X9_endStatement 3 rfl) (st' := fun S3 => []) (fun _ => rfl) (fun S3 => ?_)
    exact s_vret X hr (dk okd_X9_endStatement 4 rfl) rfl rfl
def tab_X9_readNumber : List En := [(0, 8, 0, 0), (4, 8, 0, 0), (8, 0, 0, 2), (12, 8, 0, 0), (13, 0, 0, 1), (17, 4, 1, 0), (19, 8, 0, 0), (23, 4, 1, 0), (27, 8, 0, 0), (31, 4, 2, 0), (35, 8, 0, 0), (36, 0, 0, 2), (40, 4, 1, 0), (42, 8, 0, 0)]
theorem ok_X9_readNumber : tab_X9_readNumber.all (okE cX9_readNumber) = true := by decide +kernel
def ed_X9_readNumber : List (Nat × Instr × Nat) := [(1, .invokevirtual 78, 3), (5, .getfield 39, 3), (9, .if_icmp .eq 10, 3), (14, .invokevirtual 81, 3), (18, .ireturn, 1), (20, .getfield 42, 3), (24, .if_icmp .lt 11, 3), (28, .getfield 42, 3), (32, .if_icmp .le 10, 3), (37, .invokevirtual 81, 3), (41, .ireturn, 1), (43, .getfield 42, 3), (46, .ireturn, 1)]
theorem okd_X9_readNumber : ed_X9_readNumber.all (okD cX9_readNumber) = true := by decide +kernel
def f_X9_readNumber (S : St) (p0 : Nat) (p1 : Int32) (p2 : Int32) : Option (Int32 × St) := cl (f_X9_advance S p0) fun (S1 : St) => lt (gI S1 p0 2) fun (v2 : Int32) => if v2 = 2 then (lt (gI S1 p0 7) fun (v3 : Int32) => jn (κ := Option (Int32 × St)) (cl (f_X9_fail S1 p0 2) fun (S6 : St) => some (p1, S6)) fun k4 => if v3 < p1 then (k4) else (lt (gI S1 p0 7) fun (v7 : Int32) => if v7 ≤ p2 then (lt (gI S1 p0 7) fun (v8 : Int32) => some (v8, S1)) else (k4))) else (cl (f_X9_fail S1 p0 1) fun (S9 : St) => some (p1, S9))
set_option maxHeartbeats 4000000 in
set_option maxRecDepth 100000 in
theorem c_X9_readNumber (S : St) (p0 : Nat) (p1 : Int32) (p2 : Int32) : Ct yX9_readNumber cX9_readNumber 3 (some .int) 2 43 [.ref p0, .int p1, .int p2] [(p0, 8)] S (f_X9_readNumber S p0 p1 p2) oIS sS := by
  refine Ct_of RX9 rfl (by decide) (Nat.le_of_ble_eq_true rfl) 0 (vs := [some (.ref p0), some (.int p1), some (.int p2)]) rfl (fun C X E hr ht => ?_)
  have t0_ : tT C p0 8 := ht (p0, 8) (by simp)
  unfold f_X9_readNumber
  refine s_run X ok_X9_readNumber 0 1 (pc' := 1) (vs' := [some (.ref p0), some (.int p1), some (.int p2)]) (st' := [.ref p0]) rfl ?_
  refine s_callV (rest := []) X E mv_X9_78 (c_X9_advance S p0) (ta1 t0_) rfl (by decide) t0_ rfl rfl (Nat.le_of_ble_eq_true rfl) (Nat.le_of_ble_eq_true rfl) (Nat.le_of_ble_eq_true rfl) (dk okd_X9_readNumber 0 rfl) (st' := fun S1 => []) (fun _ => rfl) (fun S1 => ?_)
  refine s_run X ok_X9_readNumber 1 1 (pc' := 5) (vs' := [some (.ref p0), some (.int p1), some (.int p2)]) (st' := [.ref p0]) rfl ?_
  refine s_getI X fl_X9_39 t0_ (dk okd_X9_readNumber 1 rfl) (fun v2 => ?_)
  refine s_run X ok_X9_readNumber 2 1 (pc' := 9) (vs' := [some (.ref p0), some (.int p1), some (.int p2)]) (st' := [.int 2, .int v2]) rfl ?_
  refine s_icmp_eq (tgt := 19) X (dk okd_X9_readNumber 2 rfl) (by decide) ?_ ?_
  · refine s_run X ok_X9_readNumber 6 1 (pc' := 20) (vs' := [some (.ref p0), some (.int p1), some (.int p2)]) (st' := [.ref p0]) rfl ?_
    refine s_getI X fl_X9_42 t0_ (dk okd_X9_readNumber 5 rfl) (fun v3 => ?_)
    refine s_run X ok_X9_readNumber 7 1 (pc' := 24) (vs' := [some (.ref p0), some (.int p1), some (.int p2)]) (st' := [.int p1, .int v3]) rfl ?_
    refine s_jn (κ := Option (Int32 × St)) (fun k4 => Jd C 3 (QJ C oIS sS) S1 35 [some (.ref p0), some (.int p1), none] [] k4) ?_ (fun k4 h5 => ?_)
    · refine s_run X ok_X9_readNumber 10 2 (pc' := 37) (vs' := [some (.ref p0), some (.int p1), none]) (st' := [.int 2, .ref p0]) rfl ?_
      refine s_callV (rest := []) X E mv_X9_81 (c_X9_fail S1 p0 2) (ta1 t0_) rfl (by decide) t0_ rfl rfl (Nat.le_of_ble_eq_true rfl) (Nat.le_of_ble_eq_true rfl) (Nat.le_of_ble_eq_true rfl) (dk okd_X9_readNumber 9 rfl) (st' := fun S6 => []) (fun _ => rfl) (fun S6 => ?_)
      refine s_run X ok_X9_readNumber 12 1 (pc' := 41) (vs' := [some (.ref p0), some (.int p1), none]) (st' := [.int p1]) rfl ?_
      exact s_iret X hr (dk okd_X9_readNumber 10 rfl) rfl rfl
    · refine s_icmp_lt (tgt := 35) X (dk okd_X9_readNumber 6 rfl) (by decide) ?_ ?_
      · exact s_less [true, true, false] rfl (h5)
      · refine s_run X ok_X9_readNumber 8 1 (pc' := 28) (vs' := [some (.ref p0), some (.int p1), some (.int p2)]) (st' := [.ref p0]) rfl ?_
        refine s_getI X fl_X9_42 t0_ (dk okd_X9_readNumber 7 rfl) (fun v7 => ?_)
        refine s_run X ok_X9_readNumber 9 1 (pc' := 32) (vs' := [some (.ref p0), some (.int p1), some (.int p2)]) (st' := [.int p2, .int v7]) rfl ?_
        refine s_icmp_le (tgt := 42) X (dk okd_X9_readNumber 8 rfl) (by decide) ?_ ?_
        · refine s_run X ok_X9_readNumber 13 1 (pc' := 43) (vs' := [some (.ref p0), some (.int p1), some (.int p2)]) (st' := [.ref p0]) rfl ?_
          refine s_getI X fl_X9_42 t0_ (dk okd_X9_readNumber 11 rfl) (fun v8 => ?_)
          exact s_iret X hr (dk okd_X9_readNumber 12 rfl) rfl rfl
        · exact s_less [true, true, false] rfl (h5)
  · refine s_run X ok_X9_readNumber 3 2 (pc' := 14) (vs' := [some (.ref p0), some (.int p1), some (.int p2)]) (st' := [.int 1, .ref p0]) rfl ?_
    refine s_callV (rest := []) X E mv_X9_81 (c_X9_fail S1 p0 1) (ta1 t0_) rfl (by decide) t0_ rfl rfl (Nat.le_of_ble_eq_true rfl) (Nat.le_of_ble_eq_true rfl) (Nat.le_of_ble_eq_true rfl) (dk okd_X9_readNumber 3 rfl) (st' := fun S9 => []) (fun _ => rfl) (fun S9 => ?_)
    refine s_run X ok_X9_readNumber 5 1 (pc' := 18) (vs' := [some (.ref p0), some (.int p1), some (.int p2)]) (st' := [.int p1]) rfl ?_
    exact s_iret X hr (dk okd_X9_readNumber 4 rfl) rfl rfl
def tab_X10_isOpen : List En := [(0, 8, 0, 0), (4, 4, 1, 0), (6, 0, 0, 1), (10, 8, 0, 0), (14, 4, 1, 0), (16, 0, 0, 2), (20, 0, 0, 1), (21, 41, 25, 0), (24, 0, 0, 0)]
theorem ok_X10_isOpen : tab_X10_isOpen.all (okE cX10_isOpen) = true := by decide +kernel
def ed_X10_isOpen : List (Nat × Instr × Nat) := [(1, .getfield 9, 3), (5, .iaload, 1), (7, .if_icmp .eq 13, 3), (11, .getfield 9, 3), (15, .iaload, 1), (17, .if_icmp .ne 7, 3), (25, .ireturn, 1)]
theorem okd_X10_isOpen : ed_X10_isOpen.all (okD cX10_isOpen) = true := by decide +kernel
def f_X10_isOpen (S : St) (p0 : Nat) (p1 : Int32) : Option (Int32) := lt (gR S p0 0) fun (a1 : Nat) => ldI S a1 p1 fun (v3 : Int32) => jn (κ := Option (Int32)) (some 1) fun k4 => if v3 = 1 then (k4) else (lt (gR S p0 0) fun (a6 : Nat) => ldI S a6 p1 fun (v8 : Int32) => if v8 = 2 then (k4) else (some 0))
set_option maxHeartbeats 4000000 in
set_option maxRecDepth 100000 in
theorem c_X10_isOpen (S : St) (p0 : Nat) (p1 : Int32) : Ct yX10_isOpen cX10_isOpen 2 (some .boolean) 0 0 [.ref p0, .int p1] [(p0, 9)] S (f_X10_isOpen S p0 p1) oI (fun _ => S) := by
  refine Ct_of RX10 rfl (by decide) (Nat.le_of_ble_eq_true rfl) 0 (vs := [some (.ref p0), some (.int p1)]) rfl (fun C X E hr ht => ?_)
  have t0_ : tT C p0 9 := ht (p0, 9) (by simp)
  unfold f_X10_isOpen
  refine s_run X ok_X10_isOpen 0 1 (pc' := 1) (vs' := [some (.ref p0), some (.int p1)]) (st' := [.ref p0]) rfl ?_
  refine s_getR X fl_X10_9 t0_ (dk okd_X10_isOpen 0 rfl) (fun a1 (t2 : tT C a1 13) => ?_)
  refine s_run X ok_X10_isOpen 1 1 (pc' := 5) (vs' := [some (.ref p0), some (.int p1)]) (st' := [.int p1, .ref a1]) rfl ?_
  refine s_iald X t2 (dk okd_X10_isOpen 1 rfl) (fun v3 => ?_)
  refine s_run X ok_X10_isOpen 2 1 (pc' := 7) (vs' := [some (.ref p0), some (.int p1)]) (st' := [.int 1, .int v3]) rfl ?_
  refine s_jn (κ := Option (Int32)) (fun k4 => Jd C 2 (QJ C oI (fun _ => S)) S 20 [none, none] [] k4) ?_ (fun k4 h5 => ?_)
  · refine s_run X ok_X10_isOpen 6 2 (pc' := 25) (vs' := [none, none]) (st' := [.int 1]) rfl ?_
    exact s_zret0 X hr (dk okd_X10_isOpen 6 rfl) (by decide) rfl rfl
  · refine s_icmp_eq (tgt := 20) X (dk okd_X10_isOpen 2 rfl) (by decide) ?_ ?_
    · exact s_less [false, false] rfl (h5)
    · refine s_run X ok_X10_isOpen 3 1 (pc' := 11) (vs' := [some (.ref p0), some (.int p1)]) (st' := [.ref p0]) rfl ?_
      refine s_getR X fl_X10_9 t0_ (dk okd_X10_isOpen 3 rfl) (fun a6 (t7 : tT C a6 13) => ?_)
      refine s_run X ok_X10_isOpen 4 1 (pc' := 15) (vs' := [some (.ref p0), some (.int p1)]) (st' := [.int p1, .ref a6]) rfl ?_
      refine s_iald X t7 (dk okd_X10_isOpen 4 rfl) (fun v8 => ?_)
      refine s_run X ok_X10_isOpen 5 1 (pc' := 17) (vs' := [some (.ref p0), some (.int p1)]) (st' := [.int 2, .int v8]) rfl ?_
      refine s_icmp_ne (tgt := 24) X (dk okd_X10_isOpen 5 rfl) (by decide) ?_ ?_
      · refine s_run X ok_X10_isOpen 8 1 (pc' := 25) (vs' := [some (.ref p0), some (.int p1)]) (st' := [.int 0]) rfl ?_
        exact s_zret0 X hr (dk okd_X10_isOpen 6 rfl) (by decide) rfl rfl
      · exact s_less [false, false] rfl (h5)
def tab_X10_begin : List En := [(0, 8, 0, 0), (4, 4, 1, 0), (5, 0, 0, 1), (7, 8, 0, 0), (11, 4, 1, 0), (12, 4, 2, 0), (14, 8, 0, 0), (18, 4, 1, 0), (19, 4, 3, 0), (21, 8, 0, 0), (25, 4, 1, 0), (26, 7, 4, 0), (29, 8, 0, 0), (33, 4, 1, 0), (34, 0, 0, 0), (36, 8, 0, 0), (40, 4, 1, 0), (41, 0, 0, 0)]
theorem ok_X10_begin : tab_X10_begin.all (okE cX10_begin) = true := by decide +kernel
def ed_X10_begin : List (Nat × Instr × Nat) := [(1, .getfield 9, 3), (6, .iastore, 1), (8, .getfield 15, 3), (13, .iastore, 1), (15, .getfield 18, 3), (20, .iastore, 1), (22, .getfield 21, 3), (28, .lastore, 1), (30, .getfield 25, 3), (35, .iastore, 1), (37, .getfield 28, 3), (42, .iastore, 1), (43, .return_, 1)]
theorem okd_X10_begin : ed_X10_begin.all (okD cX10_begin) = true := by decide +kernel
def f_X10_begin (S : St) (p0 : Nat) (p1 : Int32) (p2 : Int32) (p3 : Int32) (p4 : Int64) : Option (St) := lt (gR S p0 0) fun (a1 : Nat) => stI S a1 p1 1 fun (S3 : St) => lt (gR S3 p0 1) fun (a4 : Nat) => stI S3 a4 p1 p2 fun (S6 : St) => lt (gR S6 p0 2) fun (a7 : Nat) => stI S6 a7 p1 p3 fun (S9 : St) => lt (gR S9 p0 3) fun (a10 : Nat) => stJ S9 a10 p1 p4 fun (S12 : St) => lt (gR S12 p0 4) fun (a13 : Nat) => stI S12 a13 p1 0 fun (S15 : St) => lt (gR S15 p0 5) fun (a16 : Nat) => stI S15 a16 p1 0 fun (S18 : St) => some S18
set_option maxHeartbeats 4000000 in
set_option maxRecDepth 100000 in
theorem c_X10_begin (S : St) (p0 : Nat) (p1 : Int32) (p2 : Int32) (p3 : Int32) (p4 : Int64) : Ct yX10_begin cX10_begin 6 none 0 0 [.ref p0, .int p1, .int p2, .int p3, .long p4] [(p0, 9)] S (f_X10_begin S p0 p1 p2 p3 p4) oV sV := by
  refine Ct_of RX10 rfl (by decide) (Nat.le_of_ble_eq_true rfl) 0 (vs := [some (.ref p0), some (.int p1), some (.int p2), some (.int p3), some (.long p4), none]) rfl (fun C X E hr ht => ?_)
  have t0_ : tT C p0 9 := ht (p0, 9) (by simp)
  unfold f_X10_begin
  refine s_run X ok_X10_begin 0 1 (pc' := 1) (vs' := [some (.ref p0), some (.int p1), some (.int p2), some (.int p3), some (.long p4), none]) (st' := [.ref p0]) rfl ?_
  refine s_getR X fl_X10_9 t0_ (dk okd_X10_begin 0 rfl) (fun a1 (t2 : tT C a1 13) => ?_)
  refine s_run X ok_X10_begin 1 2 (pc' := 6) (vs' := [some (.ref p0), some (.int p1), some (.int p2), some (.int p3), some (.long p4), none]) (st' := [.int 1, .int p1, .ref a1]) rfl ?_
  refine s_iast X t2 (dk okd_X10_begin 1 rfl) (fun S3 => ?_)
  refine s_run X ok_X10_begin 3 1 (pc' := 8) (vs' := [some (.ref p0), some (.int p1), some (.int p2), some (.int p3), some (.long p4), none]) (st' := [.ref p0]) rfl ?_
  refine s_getR X fl_X10_15 t0_ (dk okd_X10_begin 2 rfl) (fun a4 (t5 : tT C a4 13) => ?_)
  refine s_run X ok_X10_begin 4 2 (pc' := 13) (vs' := [some (.ref p0), some (.int p1), some (.int p2), some (.int p3), some (.long p4), none]) (st' := [.int p2, .int p1, .ref a4]) rfl ?_
  refine s_iast X t5 (dk okd_X10_begin 3 rfl) (fun S6 => ?_)
  refine s_run X ok_X10_begin 6 1 (pc' := 15) (vs' := [some (.ref p0), some (.int p1), some (.int p2), some (.int p3), some (.long p4), none]) (st' := [.ref p0]) rfl ?_
  refine s_getR X fl_X10_18 t0_ (dk okd_X10_begin 4 rfl) (fun a7 (t8 : tT C a7 13) => ?_)
  refine s_run X ok_X10_begin 7 2 (pc' := 20) (vs' := [some (.ref p0), some (.int p1), some (.int p2), some (.int p3), some (.long p4), none]) (st' := [.int p3, .int p1, .ref a7]) rfl ?_
  refine s_iast X t8 (dk okd_X10_begin 5 rfl) (fun S9 => ?_)
  refine s_run X ok_X10_begin 9 1 (pc' := 22) (vs' := [some (.ref p0), some (.int p1), some (.int p2), some (.int p3), some (.long p4), none]) (st' := [.ref p0]) rfl ?_
  refine s_getR X fl_X10_21 t0_ (dk okd_X10_begin 6 rfl) (fun a10 (t11 : tT C a10 14) => ?_)
  refine s_run X ok_X10_begin 10 2 (pc' := 28) (vs' := [some (.ref p0), some (.int p1), some (.int p2), some (.int p3), some (.long p4), none]) (st' := [.long p4, .int p1, .ref a10]) rfl ?_
  refine s_last X t11 (dk okd_X10_begin 7 rfl) (fun S12 => ?_)
  refine s_run X ok_X10_begin 12 1 (pc' := 30) (vs' := [some (.ref p0), some (.int p1), some (.int p2), some (.int p3), some (.long p4), none]) (st' := [.ref p0]) rfl ?_
  refine s_getR X fl_X10_25 t0_ (dk okd_X10_begin 8 rfl) (fun a13 (t14 : tT C a13 13) => ?_)
  refine s_run X ok_X10_begin 13 2 (pc' := 35) (vs' := [some (.ref p0), some (.int p1), some (.int p2), some (.int p3), some (.long p4), none]) (st' := [.int 0, .int p1, .ref a13]) rfl ?_
  refine s_iast X t14 (dk okd_X10_begin 9 rfl) (fun S15 => ?_)
  refine s_run X ok_X10_begin 15 1 (pc' := 37) (vs' := [some (.ref p0), some (.int p1), some (.int p2), some (.int p3), some (.long p4), none]) (st' := [.ref p0]) rfl ?_
  refine s_getR X fl_X10_28 t0_ (dk okd_X10_begin 10 rfl) (fun a16 (t17 : tT C a16 13) => ?_)
  refine s_run X ok_X10_begin 16 2 (pc' := 42) (vs' := [some (.ref p0), some (.int p1), some (.int p2), some (.int p3), some (.long p4), none]) (st' := [.int 0, .int p1, .ref a16]) rfl ?_
  refine s_iast X t17 (dk okd_X10_begin 11 rfl) (fun S18 => ?_)
  exact s_vret X hr (dk okd_X10_begin 12 rfl) rfl rfl
def tab_X10_endOpen : List En := [(0, 8, 0, 0), (1, 4, 1, 0), (8, 0, 0, 0), (10, 8, 0, 0), (14, 4, 1, 0), (15, 4, 2, 0), (17, 0, 0, 1)]
theorem ok_X10_endOpen : tab_X10_endOpen.all (okE cX10_endOpen) = true := by decide +kernel
def ed_X10_endOpen : List (Nat × Instr × Nat) := [(2, .invokevirtual 43, 3), (5, .ifCond .ne 5, 3), (9, .ireturn, 1), (11, .getfield 9, 3), (16, .iastore, 1), (18, .ireturn, 1)]
theorem okd_X10_endOpen : ed_X10_endOpen.all (okD cX10_endOpen) = true := by decide +kernel
def f_X10_endOpen (S : St) (p0 : Nat) (p1 : Int32) (p2 : Int32) : Option (Int32 × St) := cl (f_X10_isOpen S p0 p1) fun (v1 : Int32) => if v1 = 0 then (some (0, S)) else (lt (gR S p0 0) fun (a2 : Nat) => stI S a2 p1 p2 fun (S4 : St) => some (1, S4))
set_option maxHeartbeats 4000000 in
set_option maxRecDepth 100000 in
theorem c_X10_endOpen (S : St) (p0 : Nat) (p1 : Int32) (p2 : Int32) : Ct yX10_endOpen cX10_endOpen 3 (some .boolean) 1 21 [.ref p0, .int p1, .int p2] [(p0, 9)] S (f_X10_endOpen S p0 p1 p2) oIS sS := by
  refine Ct_of RX10 rfl (by decide) (Nat.le_of_ble_eq_true rfl) 0 (vs := [some (.ref p0), some (.int p1), some (.int p2)]) rfl (fun C X E hr ht => ?_)
  have t0_ : tT C p0 9 := ht (p0, 9) (by simp)
  unfold f_X10_endOpen
  refine s_run X ok_X10_endOpen 0 2 (pc' := 2) (vs' := [some (.ref p0), some (.int p1), some (.int p2)]) (st' := [.int p1, .ref p0]) rfl ?_
  refine s_callV (rest := []) X E mv_X10_43 (c_X10_isOpen S p0 p1) (ta1 t0_) rfl (by decide) t0_ rfl rfl (Nat.le_of_ble_eq_true rfl) (Nat.le_of_ble_eq_true rfl) (Nat.le_of_ble_eq_true rfl) (dk okd_X10_endOpen 0 rfl) (st' := fun v1 => [.int v1]) (fun _ => rfl) (fun v1 => ?_)
  refine s_if_ne (tgt := 10) X (dk okd_X10_endOpen 1 rfl) (by decide) ?_ ?_
  · refine s_run X ok_X10_endOpen 3 1 (pc' := 11) (vs' := [some (.ref p0), some (.int p1), some (.int p2)]) (st' := [.ref p0]) rfl ?_
    refine s_getR X fl_X10_9 t0_ (dk okd_X10_endOpen 3 rfl) (fun a2 (t3 : tT C a2 13) => ?_)
    refine s_run X ok_X10_endOpen 4 2 (pc' := 16) (vs' := [some (.ref p0), some (.int p1), some (.int p2)]) (st' := [.int p2, .int p1, .ref a2]) rfl ?_
    refine s_iast X t3 (dk okd_X10_endOpen 4 rfl) (fun S4 => ?_)
    refine s_run X ok_X10_endOpen 6 1 (pc' := 18) (vs' := [some (.ref p0), some (.int p1), some (.int p2)]) (st' := [.int 1]) rfl ?_
    exact s_zret0 X hr (dk okd_X10_endOpen 5 rfl) (by decide) rfl rfl
  · refine s_run X ok_X10_endOpen 2 1 (pc' := 9) (vs' := [some (.ref p0), some (.int p1), some (.int p2)]) (st' := [.int 0]) rfl ?_
    exact s_zret0 X hr (dk okd_X10_endOpen 2 rfl) (by decide) rfl rfl
def tab_X11_appendInput : List En := [(0, 8, 0, 0), (7, 2, 0, 1480), (13, 0, 0, (-1)), (15, 8, 0, 0), (19, 4, 1, 0), (23, 8, 0, 0), (27, 4, 2, 0), (31, 8, 0, 0), (35, 4, 3, 0), (39, 8, 0, 0), (43, 5, 4, 0), (48, 8, 0, 0), (52, 5, 5, 0), (57, 8, 0, 0)]
theorem ok_X11_appendInput : tab_X11_appendInput.all (okE cX11_appendInput) = true := by decide +kernel
def ed_X11_appendInput : List (Nat × Instr × Nat) := [(1, .getfield 12, 3), (4, .getfield 68, 3), (10, .if_icmp .le 5, 3), (14, .ireturn, 1), (16, .getfield 12, 3), (20, .invokevirtual 71, 3), (24, .getfield 12, 3), (28, .invokevirtual 71, 3), (32, .getfield 12, 3), (36, .invokevirtual 71, 3), (40, .getfield 12, 3), (45, .invokevirtual 71, 3), (49, .getfield 12, 3), (54, .invokevirtual 71, 3), (58, .getfield 12, 3), (61, .getfield 68, 3), (64, .ireturn, 1)]
theorem okd_X11_appendInput : ed_X11_appendInput.all (okD cX11_appendInput) = true := by decide +kernel
def f_X11_appendInput (S : St) (p0 : Nat) (p1 : Int32) (p2 : Int32) (p3 : Int32) (p4 : Int32) (p5 : Int32) : Option (Int32 × St) := lt (gR S p0 0) fun (a1 : Nat) => lt (gI S a1 1) fun (v3 : Int32) => if v3 ≤ 1480 then (lt (gR S p0 0) fun (a4 : Nat) => cl (f_X9_addFourBytes S a4 p1) fun (S6 : St) => lt (gR S6 p0 0) fun (a7 : Nat) => cl (f_X9_addFourBytes S6 a7 p2) fun (S9 : St) => lt (gR S9 p0 0) fun (a10 : Nat) => cl (f_X9_addFourBytes S9 a10 p3) fun (S12 : St) => lt (gR S12 p0 0) fun (a13 : Nat) => cl (f_X9_addFourBytes S12 a13 p4) fun (S15 : St) => lt (gR S15 p0 0) fun (a16 : Nat) => cl (f_X9_addFourBytes S15 a16 p5) fun (S18 : St) => lt (gR S18 p0 0) fun (a19 : Nat) => lt (gI S18 a19 1) fun (v21 : Int32) => some (v21, S18)) else (some ((-1), S))
set_option maxHeartbeats 4000000 in
set_option maxRecDepth 100000 in
theorem c_X11_appendInput (S : St) (p0 : Nat) (p1 : Int32) (p2 : Int32) (p3 : Int32) (p4 : Int32) (p5 : Int32) : Ct yX11_appendInput cX11_appendInput 6 (some .int) 1 22 [.ref p0, .int p1, .int p2, .int p3, .int p4, .int p5] [(p0, 10)] S (f_X11_appendInput S p0 p1 p2 p3 p4 p5) oIS sS := by
  refine Ct_of RX11 rfl (by decide) (Nat.le_of_ble_eq_true rfl) 0 (vs := [some (.ref p0), some (.int p1), some (.int p2), some (.int p3), some (.int p4), some (.int p5)]) rfl (fun C X E hr ht => ?_)
  have t0_ : tT C p0 10 := ht (p0, 10) (by simp)
  unfold f_X11_appendInput
  refine s_run X ok_X11_appendInput 0 1 (pc' := 1) (vs' := [some (.ref p0), some (.int p1), some (.int p2), some (.int p3), some (.int p4), some (.int p5)]) (st' := [.ref p0]) rfl ?_
  refine s_getR X fl_X11_12 t0_ (dk okd_X11_appendInput 0 rfl) (fun a1 (t2 : tT C a1 8) => ?_)
  refine s_getI X fl_X11_68 t2 (dk okd_X11_appendInput 1 rfl) (fun v3 => ?_)
  refine s_run X ok_X11_appendInput 1 1 (pc' := 10) (vs' := [some (.ref p0), some (.int p1), some (.int p2), some (.int p3), some (.int p4), some (.int p5)]) (st' := [.int 1480, .int v3]) rfl ?_
  refine s_icmp_le (tgt := 15) X (dk okd_X11_appendInput 2 rfl) (by decide) ?_ ?_
  · refine s_run X ok_X11_appendInput 3 1 (pc' := 16) (vs' := [some (.ref p0), some (.int p1), some (.int p2), some (.int p3), some (.int p4), some (.int p5)]) (st' := [.ref p0]) rfl ?_
    refine s_getR X fl_X11_12 t0_ (dk okd_X11_appendInput 4 rfl) (fun a4 (t5 : tT C a4 8) => ?_)
    refine s_run X ok_X11_appendInput 4 1 (pc' := 20) (vs' := [some (.ref p0), some (.int p1), some (.int p2), some (.int p3), some (.int p4), some (.int p5)]) (st' := [.int p1, .ref a4]) rfl ?_
    refine s_callV (rest := []) X E mv_X11_71 (c_X9_addFourBytes S a4 p1) (ta1 t5) rfl (by decide) t5 rfl rfl (Nat.le_of_ble_eq_true rfl) (Nat.le_of_ble_eq_true rfl) (Nat.le_of_ble_eq_true rfl) (dk okd_X11_appendInput 5 rfl) (st' := fun S6 => []) (fun _ => rfl) (fun S6 => ?_)
    refine s_run X ok_X11_appendInput 5 1 (pc' := 24) (vs' := [some (.ref p0), some (.int p1), some (.int p2), some (.int p3), some (.int p4), some (.int p5)]) (st' := [.ref p0]) rfl ?_
    refine s_getR X fl_X11_12 t0_ (dk okd_X11_appendInput 6 rfl) (fun a7 (t8 : tT C a7 8) => ?_)
    refine s_run X ok_X11_appendInput 6 1 (pc' := 28) (vs' := [some (.ref p0), some (.int p1), some (.int p2), some (.int p3), some (.int p4), some (.int p5)]) (st' := [.int p2, .ref a7]) rfl ?_
    refine s_callV (rest := []) X E mv_X11_71 (c_X9_addFourBytes S6 a7 p2) (ta1 t8) rfl (by decide) t8 rfl rfl (Nat.le_of_ble_eq_true rfl) (Nat.le_of_ble_eq_true rfl) (Nat.le_of_ble_eq_true rfl) (dk okd_X11_appendInput 7 rfl) (st' := fun S9 => []) (fun _ => rfl) (fun S9 => ?_)
    refine s_run X ok_X11_appendInput 7 1 (pc' := 32) (vs' := [some (.ref p0), some (.int p1), some (.int p2), some (.int p3), some (.int p4), some (.int p5)]) (st' := [.ref p0]) rfl ?_
    refine s_getR X fl_X11_12 t0_ (dk okd_X11_appendInput 8 rfl) (fun a10 (t11 : tT C a10 8) => ?_)
    refine s_run X ok_X11_appendInput 8 1 (pc' := 36) (vs' := [some (.ref p0), some (.int p1), some (.int p2), some (.int p3), some (.int p4), some (.int p5)]) (st' := [.int p3, .ref a10]) rfl ?_
    refine s_callV (rest := []) X E mv_X11_71 (c_X9_addFourBytes S9 a10 p3) (ta1 t11) rfl (by decide) t11 rfl rfl (Nat.le_of_ble_eq_true rfl) (Nat.le_of_ble_eq_true rfl) (Nat.le_of_ble_eq_true rfl) (dk okd_X11_appendInput 9 rfl) (st' := fun S12 => []) (fun _ => rfl) (fun S12 => ?_)
    refine s_run X ok_X11_appendInput 9 1 (pc' := 40) (vs' := [some (.ref p0), some (.int p1), some (.int p2), some (.int p3), some (.int p4), some (.int p5)]) (st' := [.ref p0]) rfl ?_
    refine s_getR X fl_X11_12 t0_ (dk okd_X11_appendInput 10 rfl) (fun a13 (t14 : tT C a13 8) => ?_)
    refine s_run X ok_X11_appendInput 10 1 (pc' := 45) (vs' := [some (.ref p0), some (.int p1), some (.int p2), some (.int p3), some (.int p4), some (.int p5)]) (st' := [.int p4, .ref a13]) rfl ?_
    refine s_callV (rest := []) X E mv_X11_71 (c_X9_addFourBytes S12 a13 p4) (ta1 t14) rfl (by decide) t14 rfl rfl (Nat.le_of_ble_eq_true rfl) (Nat.le_of_ble_eq_true rfl) (Nat.le_of_ble_eq_true rfl) (dk okd_X11_appendInput 11 rfl) (st' := fun S15 => []) (fun _ => rfl) (fun S15 => ?_)
    refine s_run X ok_X11_appendInput 11 1 (pc' := 49) (vs' := [some (.ref p0), some (.int p1), some (.int p2), some (.int p3), some (.int p4), some (.int p5)]) (st' := [.ref p0]) rfl ?_
    refine s_getR X fl_X11_12 t0_ (dk okd_X11_appendInput 12 rfl) (fun a16 (t17 : tT C a16 8) => ?_)
    refine s_run X ok_X11_appendInput 12 1 (pc' := 54) (vs' := [some (.ref p0), some (.int p1), some (.int p2), some (.int p3), some (.int p4), some (.int p5)]) (st' := [.int p5, .ref a16]) rfl ?_
    refine s_callV (rest := []) X E mv_X11_71 (c_X9_addFourBytes S15 a16 p5) (ta1 t17) rfl (by decide) t17 rfl rfl (Nat.le_of_ble_eq_true rfl) (Nat.le_of_ble_eq_true rfl) (Nat.le_of_ble_eq_true rfl) (dk okd_X11_appendInput 13 rfl) (st' := fun S18 => []) (fun _ => rfl) (fun S18 => ?_)
    refine s_run X ok_X11_appendInput 13 1 (pc' := 58) (vs' := [some (.ref p0), some (.int p1), some (.int p2), some (.int p3), some (.int p4), some (.int p5)]) (st' := [.ref p0]) rfl ?_
    refine s_getR X fl_X11_12 t0_ (dk okd_X11_appendInput 14 rfl) (fun a19 (t20 : tT C a19 8) => ?_)
    refine s_getI X fl_X11_68 t20 (dk okd_X11_appendInput 15 rfl) (fun v21 => ?_)
    exact s_iret X hr (dk okd_X11_appendInput 16 rfl) rfl rfl
  · refine s_run X ok_X11_appendInput 2 1 (pc' := 14) (vs' := [some (.ref p0), some (.int p1), some (.int p2), some (.int p3), some (.int p4), some (.int p5)]) (st' := [.int (-1)]) rfl ?_
    exact s_iret X hr (dk okd_X11_appendInput 3 rfl) rfl rfl
def tab_X11_truncateInput : List En := [(0, 4, 1, 0), (4, 4, 1, 0), (5, 8, 0, 0), (15, 0, 0, (-1)), (17, 8, 0, 0), (21, 4, 1, 0), (25, 4, 1, 0)]
theorem ok_X11_truncateInput : tab_X11_truncateInput.all (okE cX11_truncateInput) = true := by decide +kernel
def ed_X11_truncateInput : List (Nat × Instr × Nat) := [(1, .ifCond .lt 14, 3), (6, .getfield 12, 3), (9, .getfield 68, 3), (12, .if_icmp .le 5, 3), (16, .ireturn, 1), (18, .getfield 12, 3), (22, .putfield 68, 3), (26, .ireturn, 1)]
theorem okd_X11_truncateInput : ed_X11_truncateInput.all (okD cX11_truncateInput) = true := by decide +kernel
def f_X11_truncateInput (S : St) (p0 : Nat) (p1 : Int32) : Option (Int32 × St) := if p1 < 0 then (some ((-1), S)) else (lt (gR S p0 0) fun (a1 : Nat) => lt (gI S a1 1) fun (v3 : Int32) => if p1 ≤ v3 then (lt (gR S p0 0) fun (a4 : Nat) => lt (uI S a4 1 p1) fun (S6 : St) => some (p1, S6)) else (some ((-1), S)))
set_option maxHeartbeats 4000000 in
set_option maxRecDepth 100000 in
theorem c_X11_truncateInput (S : St) (p0 : Nat) (p1 : Int32) : Ct yX11_truncateInput cX11_truncateInput 2 (some .int) 0 0 [.ref p0, .int p1] [(p0, 10)] S (f_X11_truncateInput S p0 p1) oIS sS := by
  refine Ct_of RX11 rfl (by decide) (Nat.le_of_ble_eq_true rfl) 0 (vs := [some (.ref p0), some (.int p1)]) rfl (fun C X E hr ht => ?_)
  have t0_ : tT C p0 10 := ht (p0, 10) (by simp)
  unfold f_X11_truncateInput
  refine s_run X ok_X11_truncateInput 0 1 (pc' := 1) (vs' := [some (.ref p0), some (.int p1)]) (st' := [.int p1]) rfl ?_
  refine s_if_lt (tgt := 15) X (dk okd_X11_truncateInput 0 rfl) (by decide) ?_ ?_
  · refine s_run X ok_X11_truncateInput 3 1 (pc' := 16) (vs' := [some (.ref p0), some (.int p1)]) (st' := [.int (-1)]) rfl ?_
    exact s_iret X hr (dk okd_X11_truncateInput 4 rfl) rfl rfl
  · refine s_run X ok_X11_truncateInput 1 2 (pc' := 6) (vs' := [some (.ref p0), some (.int p1)]) (st' := [.ref p0, .int p1]) rfl ?_
    refine s_getR X fl_X11_12 t0_ (dk okd_X11_truncateInput 1 rfl) (fun a1 (t2 : tT C a1 8) => ?_)
    refine s_getI X fl_X11_68 t2 (dk okd_X11_truncateInput 2 rfl) (fun v3 => ?_)
    refine s_icmp_le (tgt := 17) X (dk okd_X11_truncateInput 3 rfl) (by decide) ?_ ?_
    · refine s_run X ok_X11_truncateInput 4 1 (pc' := 18) (vs' := [some (.ref p0), some (.int p1)]) (st' := [.ref p0]) rfl ?_
      refine s_getR X fl_X11_12 t0_ (dk okd_X11_truncateInput 5 rfl) (fun a4 (t5 : tT C a4 8) => ?_)
      refine s_run X ok_X11_truncateInput 5 1 (pc' := 22) (vs' := [some (.ref p0), some (.int p1)]) (st' := [.int p1, .ref a4]) rfl ?_
      refine s_putI X fp_X11_68 t5 (dk okd_X11_truncateInput 6 rfl) (fun S6 => ?_)
      refine s_run X ok_X11_truncateInput 6 1 (pc' := 26) (vs' := [some (.ref p0), some (.int p1)]) (st' := [.int p1]) rfl ?_
      exact s_iret X hr (dk okd_X11_truncateInput 7 rfl) rfl rfl
    · refine s_run X ok_X11_truncateInput 3 1 (pc' := 16) (vs' := [some (.ref p0), some (.int p1)]) (st' := [.int (-1)]) rfl ?_
      exact s_iret X hr (dk okd_X11_truncateInput 4 rfl) rfl rfl
def tab_X11_errorCode : List En := [(0, 8, 0, 0)]
theorem ok_X11_errorCode : tab_X11_errorCode.all (okE cX11_errorCode) = true := by decide +kernel
def ed_X11_errorCode : List (Nat × Instr × Nat) := [(1, .getfield 61, 3), (4, .ireturn, 1)]
theorem okd_X11_errorCode : ed_X11_errorCode.all (okD cX11_errorCode) = true := by decide +kernel
def f_X11_errorCode (S : St) (p0 : Nat) : Option (Int32) := lt (gI S p0 9) fun (v1 : Int32) => some v1
set_option maxHeartbeats 4000000 in
set_option maxRecDepth 100000 in
theorem c_X11_errorCode (S : St) (p0 : Nat) : Ct yX11_errorCode cX11_errorCode 1 (some .int) 0 0 [.ref p0] [(p0, 10)] S (f_X11_errorCode S p0) oI (fun _ => S) := by
  refine Ct_of RX11 rfl (by decide) (Nat.le_of_ble_eq_true rfl) 0 (vs := [some (.ref p0)]) rfl (fun C X E hr ht => ?_)
  have t0_ : tT C p0 10 := ht (p0, 10) (by simp)
  unfold f_X11_errorCode
  refine s_run X ok_X11_errorCode 0 1 (pc' := 1) (vs' := [some (.ref p0)]) (st' := [.ref p0]) rfl ?_
  refine s_getI X fl_X11_61 t0_ (dk okd_X11_errorCode 0 rfl) (fun v1 => ?_)
  exact s_iret X hr (dk okd_X11_errorCode 1 rfl) rfl rfl
def tab_X11_errorPosition : List En := [(0, 8, 0, 0)]
theorem ok_X11_errorPosition : tab_X11_errorPosition.all (okE cX11_errorPosition) = true := by decide +kernel
def ed_X11_errorPosition : List (Nat × Instr × Nat) := [(1, .getfield 65, 3), (4, .ireturn, 1)]
theorem okd_X11_errorPosition : ed_X11_errorPosition.all (okD cX11_errorPosition) = true := by decide +kernel
def f_X11_errorPosition (S : St) (p0 : Nat) : Option (Int32) := lt (gI S p0 10) fun (v1 : Int32) => some v1
set_option maxHeartbeats 4000000 in
set_option maxRecDepth 100000 in
theorem c_X11_errorPosition (S : St) (p0 : Nat) : Ct yX11_errorPosition cX11_errorPosition 1 (some .int) 0 0 [.ref p0] [(p0, 10)] S (f_X11_errorPosition S p0) oI (fun _ => S) := by
  refine Ct_of RX11 rfl (by decide) (Nat.le_of_ble_eq_true rfl) 0 (vs := [some (.ref p0)]) rfl (fun C X E hr ht => ?_)
  have t0_ : tT C p0 10 := ht (p0, 10) (by simp)
  unfold f_X11_errorPosition
  refine s_run X ok_X11_errorPosition 0 1 (pc' := 1) (vs' := [some (.ref p0)]) (st' := [.ref p0]) rfl ?_
  refine s_getI X fl_X11_65 t0_ (dk okd_X11_errorPosition 0 rfl) (fun v1 => ?_)
  exact s_iret X hr (dk okd_X11_errorPosition 1 rfl) rfl rfl
def tab_X11_count : List En := [(0, 4, 1, 0), (32, 8, 0, 0), (43, 8, 0, 0), (54, 8, 0, 0), (65, 8, 0, 0), (73, 0, 0, (-1))]
theorem ok_X11_count : tab_X11_count.all (okE cX11_count) = true := by decide +kernel
def ed_X11_count : List (Nat × Instr × Nat) := [(1, .tableswitch 72 0 3 #[31, 42, 53, 64], 31), (33, .getfield 41, 3), (36, .getfield 121, 3), (39, .getfield 125, 3), (42, .ireturn, 1), (44, .getfield 41, 3), (47, .getfield 85, 3), (50, .getfield 130, 3), (53, .ireturn, 1), (55, .getfield 41, 3), (58, .getfield 133, 3), (61, .getfield 137, 3), (64, .ireturn, 1), (66, .getfield 54, 3), (69, .invokevirtual 103, 3), (72, .ireturn, 1), (74, .ireturn, 1)]
theorem okd_X11_count : ed_X11_count.all (okD cX11_count) = true := by decide +kernel
def f_X11_count (S : St) (p0 : Nat) (p1 : Int32) : Option (Int32) := if p1 = 0 then (lt (gR S p0 5) fun (a1 : Nat) => lt (gR S a1 0) fun (a3 : Nat) => lt (gI S a3 4) fun (v5 : Int32) => some v5) else (if p1 = 1 then (lt (gR S p0 5) fun (a6 : Nat) => lt (gR S a6 3) fun (a8 : Nat) => lt (gI S a8 8) fun (v10 : Int32) => some v10) else (if p1 = 2 then (lt (gR S p0 5) fun (a11 : Nat) => lt (gR S a11 2) fun (a13 : Nat) => lt (gI S a13 4) fun (v15 : Int32) => some v15) else (if p1 = 3 then (lt (gR S p0 7) fun (a16 : Nat) => cl (f_X5_left S a16) fun (v18 : Int32) => some v18) else (some (-1)))))
set_option maxHeartbeats 4000000 in
set_option maxRecDepth 100000 in
theorem c_X11_count (S : St) (p0 : Nat) (p1 : Int32) : Ct yX11_count cX11_count 2 (some .int) 1 20 [.ref p0, .int p1] [(p0, 10)] S (f_X11_count S p0 p1) oI (fun _ => S) := by
  refine Ct_of RX11 rfl (by decide) (Nat.le_of_ble_eq_true rfl) 0 (vs := [some (.ref p0), some (.int p1)]) rfl (fun C X E hr ht => ?_)
  have t0_ : tT C p0 10 := ht (p0, 10) (by simp)
  unfold f_X11_count
  refine s_run X ok_X11_count 0 1 (pc' := 1) (vs' := [some (.ref p0), some (.int p1)]) (st' := [.int p1]) rfl ?_
  refine s_tabc (c := 0) (tgt := 32) X (dk okd_X11_count 0 rfl) (by decide) (by decide) rfl (by decide) ?_ (fun n0 => ?_)
  · refine s_run X ok_X11_count 1 1 (pc' := 33) (vs' := [some (.ref p0), some (.int p1)]) (st' := [.ref p0]) rfl ?_
    refine s_getR X fl_X11_41 t0_ (dk okd_X11_count 1 rfl) (fun a1 (t2 : tT C a1 1) => ?_)
    refine s_getR X fl_X11_121 t2 (dk okd_X11_count 2 rfl) (fun a3 (t4 : tT C a3 7) => ?_)
    refine s_getI X fl_X11_125 t4 (dk okd_X11_count 3 rfl) (fun v5 => ?_)
    exact s_iret X hr (dk okd_X11_count 4 rfl) rfl rfl
  refine s_tabc (c := 1) (tgt := 43) X (dk okd_X11_count 0 rfl) (by decide) (by decide) rfl (by decide) ?_ (fun n1 => ?_)
  · refine s_run X ok_X11_count 2 1 (pc' := 44) (vs' := [some (.ref p0), some (.int p1)]) (st' := [.ref p0]) rfl ?_
    refine s_getR X fl_X11_41 t0_ (dk okd_X11_count 5 rfl) (fun a6 (t7 : tT C a6 1) => ?_)
    refine s_getR X fl_X11_85 t7 (dk okd_X11_count 6 rfl) (fun a8 (t9 : tT C a8 2) => ?_)
    refine s_getI X fl_X11_130 t9 (dk okd_X11_count 7 rfl) (fun v10 => ?_)
    exact s_iret X hr (dk okd_X11_count 8 rfl) rfl rfl
  refine s_tabc (c := 2) (tgt := 54) X (dk okd_X11_count 0 rfl) (by decide) (by decide) rfl (by decide) ?_ (fun n2 => ?_)
  · refine s_run X ok_X11_count 3 1 (pc' := 55) (vs' := [some (.ref p0), some (.int p1)]) (st' := [.ref p0]) rfl ?_
    refine s_getR X fl_X11_41 t0_ (dk okd_X11_count 9 rfl) (fun a11 (t12 : tT C a11 1) => ?_)
    refine s_getR X fl_X11_133 t12 (dk okd_X11_count 10 rfl) (fun a13 (t14 : tT C a13 6) => ?_)
    refine s_getI X fl_X11_137 t14 (dk okd_X11_count 11 rfl) (fun v15 => ?_)
    exact s_iret X hr (dk okd_X11_count 12 rfl) rfl rfl
  refine s_tabc (c := 3) (tgt := 65) X (dk okd_X11_count 0 rfl) (by decide) (by decide) rfl (by decide) ?_ (fun n3 => ?_)
  · refine s_run X ok_X11_count 4 1 (pc' := 66) (vs' := [some (.ref p0), some (.int p1)]) (st' := [.ref p0]) rfl ?_
    refine s_getR X fl_X11_54 t0_ (dk okd_X11_count 13 rfl) (fun a16 (t17 : tT C a16 5) => ?_)
    refine s_callV (rest := []) X E mv_X11_103 (c_X5_left S a16) (ta1 t17) rfl (by decide) t17 rfl rfl (Nat.le_of_ble_eq_true rfl) (Nat.le_of_ble_eq_true rfl) (Nat.le_of_ble_eq_true rfl) (dk okd_X11_count 14 rfl) (st' := fun v18 => [.int v18]) (fun _ => rfl) (fun v18 => ?_)
    exact s_iret X hr (dk okd_X11_count 15 rfl) rfl rfl
  refine s_tabd (tgt := 73) X (dk okd_X11_count 0 rfl) (tabout (n := 4) (by decide) (fun j hj => match j, hj with | 0, _ => n0 | 1, _ => n1 | 2, _ => n2 | 3, _ => n3)) (by decide) ?_
  refine s_run X ok_X11_count 5 1 (pc' := 74) (vs' := [some (.ref p0), some (.int p1)]) (st' := [.int (-1)]) rfl ?_
  exact s_iret X hr (dk okd_X11_count 16 rfl) rfl rfl
def tab_X11_month : List En := [(0, 8, 0, 0)]
theorem ok_X11_month : tab_X11_month.all (okE cX11_month) = true := by decide +kernel
def ed_X11_month : List (Nat × Instr × Nat) := [(1, .getfield 41, 3), (4, .getfield 140, 3), (7, .getfield 144, 3), (10, .ireturn, 1)]
theorem okd_X11_month : ed_X11_month.all (okD cX11_month) = true := by decide +kernel
def f_X11_month (S : St) (p0 : Nat) : Option (Int32) := lt (gR S p0 5) fun (a1 : Nat) => lt (gR S a1 5) fun (a3 : Nat) => lt (gI S a3 6) fun (v5 : Int32) => some v5
set_option maxHeartbeats 4000000 in
set_option maxRecDepth 100000 in
theorem c_X11_month (S : St) (p0 : Nat) : Ct yX11_month cX11_month 1 (some .int) 0 0 [.ref p0] [(p0, 10)] S (f_X11_month S p0) oI (fun _ => S) := by
  refine Ct_of RX11 rfl (by decide) (Nat.le_of_ble_eq_true rfl) 0 (vs := [some (.ref p0)]) rfl (fun C X E hr ht => ?_)
  have t0_ : tT C p0 10 := ht (p0, 10) (by simp)
  unfold f_X11_month
  refine s_run X ok_X11_month 0 1 (pc' := 1) (vs' := [some (.ref p0)]) (st' := [.ref p0]) rfl ?_
  refine s_getR X fl_X11_41 t0_ (dk okd_X11_month 0 rfl) (fun a1 (t2 : tT C a1 1) => ?_)
  refine s_getR X fl_X11_140 t2 (dk okd_X11_month 1 rfl) (fun a3 (t4 : tT C a3 0) => ?_)
  refine s_getI X fl_X11_144 t4 (dk okd_X11_month 2 rfl) (fun v5 => ?_)
  exact s_iret X hr (dk okd_X11_month 3 rfl) rfl rfl
def tab_X11_fundBalance : List En := [(0, 8, 0, 0)]
theorem ok_X11_fundBalance : tab_X11_fundBalance.all (okE cX11_fundBalance) = true := by decide +kernel
def ed_X11_fundBalance : List (Nat × Instr × Nat) := [(1, .getfield 41, 3), (4, .getfield 140, 3), (7, .invokevirtual 324, 3), (10, .lreturn, 1)]
theorem okd_X11_fundBalance : ed_X11_fundBalance.all (okD cX11_fundBalance) = true := by decide +kernel
def f_X11_fundBalance (S : St) (p0 : Nat) : Option (Int64) := lt (gR S p0 5) fun (a1 : Nat) => lt (gR S a1 5) fun (a3 : Nat) => cl (f_X0_fundLeft S a3) fun (v5 : Int64) => some v5
set_option maxHeartbeats 4000000 in
set_option maxRecDepth 100000 in
theorem c_X11_fundBalance (S : St) (p0 : Nat) : Ct yX11_fundBalance cX11_fundBalance 1 (some .long) 2 43 [.ref p0] [(p0, 10)] S (f_X11_fundBalance S p0) oL (fun _ => S) := by
  refine Ct_of RX11 rfl (by decide) (Nat.le_of_ble_eq_true rfl) 0 (vs := [some (.ref p0)]) rfl (fun C X E hr ht => ?_)
  have t0_ : tT C p0 10 := ht (p0, 10) (by simp)
  unfold f_X11_fundBalance
  refine s_run X ok_X11_fundBalance 0 1 (pc' := 1) (vs' := [some (.ref p0)]) (st' := [.ref p0]) rfl ?_
  refine s_getR X fl_X11_41 t0_ (dk okd_X11_fundBalance 0 rfl) (fun a1 (t2 : tT C a1 1) => ?_)
  refine s_getR X fl_X11_140 t2 (dk okd_X11_fundBalance 1 rfl) (fun a3 (t4 : tT C a3 0) => ?_)
  refine s_callV (rest := []) X E mv_X11_324 (c_X0_fundLeft S a3) (ta1 t4) rfl (by decide) t4 rfl rfl (Nat.le_of_ble_eq_true rfl) (Nat.le_of_ble_eq_true rfl) (Nat.le_of_ble_eq_true rfl) (dk okd_X11_fundBalance 2 rfl) (st' := fun v5 => [.long v5]) (fun _ => rfl) (fun v5 => ?_)
  exact s_lret X hr (dk okd_X11_fundBalance 3 rfl) rfl rfl
def tab_X11_formattedByte : List En := [(0, 4, 1, 0), (4, 4, 1, 0), (5, 8, 0, 0), (15, 0, 0, (-1)), (16, 41, 28, 0), (19, 8, 0, 0), (26, 4, 1, 0)]
theorem ok_X11_formattedByte : tab_X11_formattedByte.all (okE cX11_formattedByte) = true := by decide +kernel
def ed_X11_formattedByte : List (Nat × Instr × Nat) := [(1, .ifCond .lt 14, 3), (6, .getfield 19, 3), (9, .getfield 392, 3), (12, .if_icmp .lt 7, 3), (20, .getfield 19, 3), (23, .getfield 393, 3), (27, .baload, 1), (28, .ireturn, 1)]
theorem okd_X11_formattedByte : ed_X11_formattedByte.all (okD cX11_formattedByte) = true := by decide +kernel
def f_X11_formattedByte (S : St) (p0 : Nat) (p1 : Int32) : Option (Int32) := jn (κ := Option (Int32)) (some (-1)) fun k1 => if p1 < 0 then (k1) else (lt (gR S p0 1) fun (a3 : Nat) => lt (gI S a3 1) fun (v5 : Int32) => if p1 < v5 then (lt (gR S p0 1) fun (a6 : Nat) => lt (gR S a6 0) fun (a8 : Nat) => ldI S a8 p1 fun (v10 : Int32) => some v10) else (k1))
set_option maxHeartbeats 4000000 in
set_option maxRecDepth 100000 in
theorem c_X11_formattedByte (S : St) (p0 : Nat) (p1 : Int32) : Ct yX11_formattedByte cX11_formattedByte 2 (some .int) 0 0 [.ref p0, .int p1] [(p0, 10)] S (f_X11_formattedByte S p0 p1) oI (fun _ => S) := by
  refine Ct_of RX11 rfl (by decide) (Nat.le_of_ble_eq_true rfl) 0 (vs := [some (.ref p0), some (.int p1)]) rfl (fun C X E hr ht => ?_)
  have t0_ : tT C p0 10 := ht (p0, 10) (by simp)
  unfold f_X11_formattedByte
  refine s_run X ok_X11_formattedByte 0 1 (pc' := 1) (vs' := [some (.ref p0), some (.int p1)]) (st' := [.int p1]) rfl ?_
  refine s_jn (κ := Option (Int32)) (fun k1 => Jd C 2 (QJ C oI (fun _ => S)) S 15 [none, none] [] k1) ?_ (fun k1 h2 => ?_)
  · refine s_run X ok_X11_formattedByte 3 2 (pc' := 28) (vs' := [none, none]) (st' := [.int (-1)]) rfl ?_
    exact s_iret X hr (dk okd_X11_formattedByte 7 rfl) rfl rfl
  · refine s_if_lt (tgt := 15) X (dk okd_X11_formattedByte 0 rfl) (by decide) ?_ ?_
    · exact s_less [false, false] rfl (h2)
    · refine s_run X ok_X11_formattedByte 1 2 (pc' := 6) (vs' := [some (.ref p0), some (.int p1)]) (st' := [.ref p0, .int p1]) rfl ?_
      refine s_getR X fl_X11_19 t0_ (dk okd_X11_formattedByte 1 rfl) (fun a3 (t4 : tT C a3 4) => ?_)
      refine s_getI X fl_X11_392 t4 (dk okd_X11_formattedByte 2 rfl) (fun v5 => ?_)
      refine s_icmp_lt (tgt := 19) X (dk okd_X11_formattedByte 3 rfl) (by decide) ?_ ?_
      · refine s_run X ok_X11_formattedByte 5 1 (pc' := 20) (vs' := [some (.ref p0), some (.int p1)]) (st' := [.ref p0]) rfl ?_
        refine s_getR X fl_X11_19 t0_ (dk okd_X11_formattedByte 4 rfl) (fun a6 (t7 : tT C a6 4) => ?_)
        refine s_getR X fl_X11_393 t7 (dk okd_X11_formattedByte 5 rfl) (fun a8 (t9 : tT C a8 12) => ?_)
        refine s_run X ok_X11_formattedByte 6 1 (pc' := 27) (vs' := [some (.ref p0), some (.int p1)]) (st' := [.int p1, .ref a8]) rfl ?_
        refine s_bald X t9 (dk okd_X11_formattedByte 6 rfl) (fun v10 => ?_)
        exact s_iret X hr (dk okd_X11_formattedByte 7 rfl) rfl rfl
      · exact s_less [false, false] rfl (h2)
def tab_X11_finishReading : List En := [(0, 8, 0, 0), (1, 8, 0, 0), (11, 8, 0, 0), (12, 8, 0, 0), (22, 8, 0, 0), (26, 0, 0, 0)]
theorem ok_X11_finishReading : tab_X11_finishReading.all (okE cX11_finishReading) = true := by decide +kernel
def ed_X11_finishReading : List (Nat × Instr × Nat) := [(2, .getfield 12, 3), (5, .getfield 394, 3), (8, .putfield 61, 3), (13, .getfield 12, 3), (16, .getfield 397, 3), (19, .putfield 65, 3), (23, .getfield 12, 3), (27, .putfield 68, 3), (30, .return_, 1)]
theorem okd_X11_finishReading : ed_X11_finishReading.all (okD cX11_finishReading) = true := by decide +kernel
def f_X11_finishReading (S : St) (p0 : Nat) : Option (St) := lt (gR S p0 0) fun (a1 : Nat) => lt (gI S a1 5) fun (v3 : Int32) => lt (uI S p0 9 v3) fun (S4 : St) => lt (gR S4 p0 0) fun (a5 : Nat) => lt (gI S4 a5 6) fun (v7 : Int32) => lt (uI S4 p0 10 v7) fun (S8 : St) => lt (gR S8 p0 0) fun (a9 : Nat) => lt (uI S8 a9 1 0) fun (S11 : St) => some S11
set_option maxHeartbeats 4000000 in
set_option maxRecDepth 100000 in
theorem c_X11_finishReading (S : St) (p0 : Nat) : Ct yX11_finishReading cX11_finishReading 1 none 0 0 [.ref p0] [(p0, 10)] S (f_X11_finishReading S p0) oV sV := by
  refine Ct_of RX11 rfl (by decide) (Nat.le_of_ble_eq_true rfl) 0 (vs := [some (.ref p0)]) rfl (fun C X E hr ht => ?_)
  have t0_ : tT C p0 10 := ht (p0, 10) (by simp)
  unfold f_X11_finishReading
  refine s_run X ok_X11_finishReading 0 2 (pc' := 2) (vs' := [some (.ref p0)]) (st' := [.ref p0, .ref p0]) rfl ?_
  refine s_getR X fl_X11_12 t0_ (dk okd_X11_finishReading 0 rfl) (fun a1 (t2 : tT C a1 8) => ?_)
  refine s_getI X fl_X11_394 t2 (dk okd_X11_finishReading 1 rfl) (fun v3 => ?_)
  refine s_putI X fp_X11_61 t0_ (dk okd_X11_finishReading 2 rfl) (fun S4 => ?_)
  refine s_run X ok_X11_finishReading 2 2 (pc' := 13) (vs' := [some (.ref p0)]) (st' := [.ref p0, .ref p0]) rfl ?_
  refine s_getR X fl_X11_12 t0_ (dk okd_X11_finishReading 3 rfl) (fun a5 (t6 : tT C a5 8) => ?_)
  refine s_getI X fl_X11_397 t6 (dk okd_X11_finishReading 4 rfl) (fun v7 => ?_)
  refine s_putI X fp_X11_65 t0_ (dk okd_X11_finishReading 5 rfl) (fun S8 => ?_)
  refine s_run X ok_X11_finishReading 4 1 (pc' := 23) (vs' := [some (.ref p0)]) (st' := [.ref p0]) rfl ?_
  refine s_getR X fl_X11_12 t0_ (dk okd_X11_finishReading 6 rfl) (fun a9 (t10 : tT C a9 8) => ?_)
  refine s_run X ok_X11_finishReading 5 1 (pc' := 27) (vs' := [some (.ref p0)]) (st' := [.int 0, .ref a9]) rfl ?_
  refine s_putI X fp_X11_68 t10 (dk okd_X11_finishReading 7 rfl) (fun S11 => ?_)
  exact s_vret X hr (dk okd_X11_finishReading 8 rfl) rfl rfl
def tab_X11_cellCode : List En := [(0, 1, 0, 100), (2, 4, 1, 0), (3, 19, 0, 0), (4, 4, 0, 0), (5, 17, 0, 0)]
theorem ok_X11_cellCode : tab_X11_cellCode.all (okE cX11_cellCode) = true := by decide +kernel
def ed_X11_cellCode : List (Nat × Instr × Nat) := [(6, .ireturn, 1)]
theorem okd_X11_cellCode : ed_X11_cellCode.all (okD cX11_cellCode) = true := by decide +kernel
def f_X11_cellCode (S : St) (p0 : Int32) (p1 : Int32) : Option (Int32) := some ((100 * p1) + p0)
set_option maxHeartbeats 4000000 in
set_option maxRecDepth 100000 in
theorem c_X11_cellCode (S : St) (p0 : Int32) (p1 : Int32) : Ct yX11_cellCode cX11_cellCode 2 (some .int) 0 0 [.int p0, .int p1] [] S (f_X11_cellCode S p0 p1) oI (fun _ => S) := by
  refine Ct_of RX11 rfl (by decide) (Nat.le_of_ble_eq_true rfl) 0 (vs := [some (.int p0), some (.int p1)]) rfl (fun C X E hr ht => ?_)
  unfold f_X11_cellCode
  refine s_run X ok_X11_cellCode 0 5 (pc' := 6) (vs' := [some (.int p0), some (.int p1)]) (st' := [.int ((100 * p1) + p0)]) rfl ?_
  exact s_iret X hr (dk okd_X11_cellCode 0 rfl) rfl rfl
def tab_X11_rateOf : List En := [(0, 6, 0, 0), (1, 6, 2, 0), (2, 25, 0, 0), (6, 23, 0, 0)]
theorem ok_X11_rateOf : tab_X11_rateOf.all (okE cX11_rateOf) = true := by decide +kernel
def ed_X11_rateOf : List (Nat × Instr × Nat) := [(3, .ldc2_w 430, 3), (7, .ldc2_w 432, 3), (10, .ldiv, 1), (11, .lreturn, 1)]
theorem okd_X11_rateOf : ed_X11_rateOf.all (okD cX11_rateOf) = true := by decide +kernel
def f_X11_rateOf (S : St) (p0 : Int64) (p1 : Int64) : Option (Int64) := some (((p0 * p1) + 5000) / 10000)
set_option maxHeartbeats 4000000 in
set_option maxRecDepth 100000 in
theorem c_X11_rateOf (S : St) (p0 : Int64) (p1 : Int64) : Ct yX11_rateOf cX11_rateOf 4 (some .long) 0 0 [.long p0, .long p1] [] S (f_X11_rateOf S p0 p1) oL (fun _ => S) := by
  refine Ct_of RX11 rfl (by decide) (Nat.le_of_ble_eq_true rfl) 0 (vs := [some (.long p0), none, some (.long p1), none]) rfl (fun C X E hr ht => ?_)
  unfold f_X11_rateOf
  refine s_run X ok_X11_rateOf 0 3 (pc' := 3) (vs' := [some (.long p0), none, some (.long p1), none]) (st' := [.long (p0 * p1)]) rfl ?_
  refine s_ldc2 X cl_X11_430 (dk okd_X11_rateOf 0 rfl) ?_
  refine s_run X ok_X11_rateOf 3 1 (pc' := 7) (vs' := [some (.long p0), none, some (.long p1), none]) (st' := [.long ((p0 * p1) + 5000)]) rfl ?_
  refine s_ldc2 X cl_X11_432 (dk okd_X11_rateOf 1 rfl) ?_
  refine s_ldiv0 X (dk okd_X11_rateOf 2 rfl) (by decide) ?_
  exact s_lret X hr (dk okd_X11_rateOf 3 rfl) rfl rfl
def tab_X12_clearBlock : List En := [(0, 0, 0, 0), (1, 10, 2, 0), (2, 4, 2, 0), (3, 2, 0, 5054), (9, 8, 0, 0), (13, 2, 0, 5054), (16, 4, 1, 0), (17, 19, 0, 0), (18, 4, 2, 0), (19, 17, 0, 0), (20, 3, 0, 0), (22, 16, 2, 1), (25, 41, 2, 0), (28, 0, 0, 0), (29, 10, 2, 0), (30, 4, 2, 0), (31, 2, 0, 900), (37, 8, 0, 0), (41, 2, 0, 5054), (44, 4, 1, 0), (45, 19, 0, 0), (46, 2, 0, 250), (49, 17, 0, 0), (50, 4, 2, 0), (51, 17, 0, 0), (56, 16, 2, 1), (59, 41, 30, 0)]
theorem ok_X12_clearBlock : tab_X12_clearBlock.all (okE cX12_clearBlock) = true := by decide +kernel
def ed_X12_clearBlock : List (Nat × Instr × Nat) := [(6, .if_icmp .ge 22, 3), (10, .getfield 9, 3), (21, .lastore, 1), (34, .if_icmp .ge 28, 3), (38, .getfield 9, 3), (52, .ldc2_w 48, 3), (55, .lastore, 1), (62, .return_, 1)]
theorem okd_X12_clearBlock : ed_X12_clearBlock.all (okD cX12_clearBlock) = true := by decide +kernel
def f_X12_clearBlock (S : St) (p0 : Nat) (p1 : Int32) : Option (St) := jn (κ := St → Option (St)) (fun S1 => lp (κ := Int32 → St → Option (St)) (fun _ _ => none) (fun k6 x4 S5 => if 900 ≤ x4 then (some S5) else (lt (gR S5 p0 0) fun (a8 : Nat) => stJ S5 a8 (((5054 * p1) + 250) + x4) (-1) fun (S10 : St) => k6 (x4 + 1) S10)) FU 0 S1) fun k2 => lp (κ := Int32 → St → Option (St)) (fun _ _ => none) (fun k13 x11 S12 => if 5054 ≤ x11 then (k2 S12) else (lt (gR S12 p0 0) fun (a15 : Nat) => stJ S12 a15 ((5054 * p1) + x11) 0 fun (S17 : St) => k13 (x11 + 1) S17)) FU 0 S
set_option maxHeartbeats 4000000 in
set_option maxRecDepth 100000 in
theorem c_X12_clearBlock (S : St) (p0 : Nat) (p1 : Int32) : Ct yX12_clearBlock cX12_clearBlock 3 none 0 0 [.ref p0, .int p1] [(p0, 11)] S (f_X12_clearBlock S p0 p1) oV sV := by
  refine Ct_of RX12 rfl (by decide) (Nat.le_of_ble_eq_true rfl) 1 (vs := [some (.ref p0), some (.int p1), none]) rfl (fun C X E hr ht => ?_)
  have t0_ : tT C p0 11 := ht (p0, 11) (by simp)
  unfold f_X12_clearBlock
  refine s_run X ok_X12_clearBlock 0 2 (pc' := 2) (vs' := [some (.ref p0), some (.int p1), some (.int 0)]) (st' := []) rfl ?_
  refine s_jn (κ := St → Option (St)) (fun k2 => ∀ (S1 : St), Jd C 3 (QJ C oV sV) S1 28 [some (.ref p0), some (.int p1), none] [] (k2 S1)) (fun S1 => ?_) (fun k2 h3 => ?_)
  · refine s_run X ok_X12_clearBlock 13 2 (pc' := 30) (vs' := [some (.ref p0), some (.int p1), some (.int 0)]) (st' := []) rfl ?_
    refine s_lp (κ := Int32 → St → Option (St)) (fun k6 => ∀ (x4 : Int32) (S5 : St), Jd C 3 (QJ C oV sV) S5 30 [some (.ref p0), some (.int p1), some (.int x4)] [] (k6 x4 S5)) (fun _ _ => s_none) (fun k6 h7 x4 S5 => ?_) FU 0 S1
    refine s_run X ok_X12_clearBlock 15 2 (pc' := 34) (vs' := [some (.ref p0), some (.int p1), some (.int x4)]) (st' := [.int 900, .int x4]) rfl ?_
    refine s_icmp_ge (tgt := 62) X (dk okd_X12_clearBlock 3 rfl) (by decide) ?_ ?_
    · exact s_vret X hr (dk okd_X12_clearBlock 7 rfl) rfl rfl
    · refine s_run X ok_X12_clearBlock 17 1 (pc' := 38) (vs' := [some (.ref p0), some (.int p1), some (.int x4)]) (st' := [.ref p0]) rfl ?_
      refine s_getR X fl_X12_9 t0_ (dk okd_X12_clearBlock 4 rfl) (fun a8 (t9 : tT C a8 14) => ?_)
      refine s_run X ok_X12_clearBlock 18 7 (pc' := 52) (vs' := [some (.ref p0), some (.int p1), some (.int x4)]) (st' := [.int (((5054 * p1) + 250) + x4), .ref a8]) rfl ?_
      refine s_ldc2 X cl_X12_48 (dk okd_X12_clearBlock 5 rfl) ?_
      refine s_last X t9 (dk okd_X12_clearBlock 6 rfl) (fun S10 => ?_)
      refine s_run X ok_X12_clearBlock 25 2 (pc' := 30) (vs' := [some (.ref p0), some (.int p1), some (.int (x4 + 1))]) (st' := []) rfl ?_
      exact h7 (x4 + 1) S10
  · refine s_lp (κ := Int32 → St → Option (St)) (fun k13 => ∀ (x11 : Int32) (S12 : St), Jd C 3 (QJ C oV sV) S12 2 [some (.ref p0), some (.int p1), some (.int x11)] [] (k13 x11 S12)) (fun _ _ => s_none) (fun k13 h14 x11 S12 => ?_) FU 0 S
    refine s_run X ok_X12_clearBlock 2 2 (pc' := 6) (vs' := [some (.ref p0), some (.int p1), some (.int x11)]) (st' := [.int 5054, .int x11]) rfl ?_
    refine s_icmp_ge (tgt := 28) X (dk okd_X12_clearBlock 0 rfl) (by decide) ?_ ?_
    · exact s_less [true, true, false] rfl (h3 S12)
    · refine s_run X ok_X12_clearBlock 4 1 (pc' := 10) (vs' := [some (.ref p0), some (.int p1), some (.int x11)]) (st' := [.ref p0]) rfl ?_
      refine s_getR X fl_X12_9 t0_ (dk okd_X12_clearBlock 1 rfl) (fun a15 (t16 : tT C a15 14) => ?_)
      refine s_run X ok_X12_clearBlock 5 6 (pc' := 21) (vs' := [some (.ref p0), some (.int p1), some (.int x11)]) (st' := [.long 0, .int ((5054 * p1) + x11), .ref a15]) rfl ?_
      refine s_last X t16 (dk okd_X12_clearBlock 2 rfl) (fun S17 => ?_)
      refine s_run X ok_X12_clearBlock 11 2 (pc' := 2) (vs' := [some (.ref p0), some (.int p1), some (.int (x11 + 1))]) (st' := []) rfl ?_
      exact h14 (x11 + 1) S17
def tab_X12_copyBlock : List En := [(0, 0, 0, 0), (1, 10, 3, 0), (2, 4, 3, 0), (3, 2, 0, 5054), (9, 8, 0, 0), (13, 2, 0, 5054), (16, 4, 2, 0), (17, 19, 0, 0), (18, 4, 3, 0), (19, 17, 0, 0), (20, 8, 0, 0), (24, 2, 0, 5054), (27, 4, 1, 0), (28, 19, 0, 0), (29, 4, 3, 0), (30, 17, 0, 0), (33, 16, 3, 1), (36, 41, 2, 0)]
theorem ok_X12_copyBlock : tab_X12_copyBlock.all (okE cX12_copyBlock) = true := by decide +kernel
def ed_X12_copyBlock : List (Nat × Instr × Nat) := [(6, .if_icmp .ge 33, 3), (10, .getfield 9, 3), (21, .getfield 9, 3), (31, .laload, 1), (32, .lastore, 1), (39, .return_, 1)]
theorem okd_X12_copyBlock : ed_X12_copyBlock.all (okD cX12_copyBlock) = true := by decide +kernel
def f_X12_copyBlock (S : St) (p0 : Nat) (p1 : Int32) (p2 : Int32) : Option (St) := lp (κ := Int32 → St → Option (St)) (fun _ _ => none) (fun k3 x1 S2 => if 5054 ≤ x1 then (some S2) else (lt (gR S2 p0 0) fun (a5 : Nat) => lt (gR S2 p0 0) fun (a7 : Nat) => ldJ S2 a7 ((5054 * p1) + x1) fun (v9 : Int64) => stJ S2 a5 ((5054 * p2) + x1) v9 fun (S10 : St) => k3 (x1 + 1) S10)) FU 0 S
set_option maxHeartbeats 4000000 in
set_option maxRecDepth 100000 in
theorem c_X12_copyBlock (S : St) (p0 : Nat) (p1 : Int32) (p2 : Int32) : Ct yX12_copyBlock cX12_copyBlock 4 none 0 0 [.ref p0, .int p1, .int p2] [(p0, 11)] S (f_X12_copyBlock S p0 p1 p2) oV sV := by
  refine Ct_of RX12 rfl (by decide) (Nat.le_of_ble_eq_true rfl) 1 (vs := [some (.ref p0), some (.int p1), some (.int p2), none]) rfl (fun C X E hr ht => ?_)
  have t0_ : tT C p0 11 := ht (p0, 11) (by simp)
  unfold f_X12_copyBlock
  refine s_run X ok_X12_copyBlock 0 2 (pc' := 2) (vs' := [some (.ref p0), some (.int p1), some (.int p2), some (.int 0)]) (st' := []) rfl ?_
  refine s_lp (κ := Int32 → St → Option (St)) (fun k3 => ∀ (x1 : Int32) (S2 : St), Jd C 4 (QJ C oV sV) S2 2 [some (.ref p0), some (.int p1), some (.int p2), some (.int x1)] [] (k3 x1 S2)) (fun _ _ => s_none) (fun k3 h4 x1 S2 => ?_) FU 0 S
  refine s_run X ok_X12_copyBlock 2 2 (pc' := 6) (vs' := [some (.ref p0), some (.int p1), some (.int p2), some (.int x1)]) (st' := [.int 5054, .int x1]) rfl ?_
  refine s_icmp_ge (tgt := 39) X (dk okd_X12_copyBlock 0 rfl) (by decide) ?_ ?_
  · exact s_vret X hr (dk okd_X12_copyBlock 5 rfl) rfl rfl
  · refine s_run X ok_X12_copyBlock 4 1 (pc' := 10) (vs' := [some (.ref p0), some (.int p1), some (.int p2), some (.int x1)]) (st' := [.ref p0]) rfl ?_
    refine s_getR X fl_X12_9 t0_ (dk okd_X12_copyBlock 1 rfl) (fun a5 (t6 : tT C a5 14) => ?_)
    refine s_run X ok_X12_copyBlock 5 6 (pc' := 21) (vs' := [some (.ref p0), some (.int p1), some (.int p2), some (.int x1)]) (st' := [.ref p0, .int ((5054 * p2) + x1), .ref a5]) rfl ?_
    refine s_getR X fl_X12_9 t0_ (dk okd_X12_copyBlock 2 rfl) (fun a7 (t8 : tT C a7 14) => ?_)
    refine s_run X ok_X12_copyBlock 11 5 (pc' := 31) (vs' := [some (.ref p0), some (.int p1), some (.int p2), some (.int x1)]) (st' := [.int ((5054 * p1) + x1), .ref a7, .int ((5054 * p2) + x1), .ref a5]) rfl ?_
    refine s_lald X t8 (dk okd_X12_copyBlock 3 rfl) (fun v9 => ?_)
    refine s_last X t6 (dk okd_X12_copyBlock 4 rfl) (fun S10 => ?_)
    refine s_run X ok_X12_copyBlock 16 2 (pc' := 2) (vs' := [some (.ref p0), some (.int p1), some (.int p2), some (.int (x1 + 1))]) (st' := []) rfl ?_
    exact h4 (x1 + 1) S10
def tab_X12_thrown : List En := [(0, 8, 0, 0)]
theorem ok_X12_thrown : tab_X12_thrown.all (okE cX12_thrown) = true := by decide +kernel
def ed_X12_thrown : List (Nat × Instr × Nat) := [(1, .getfield 50, 3), (4, .ireturn, 1)]
theorem okd_X12_thrown : ed_X12_thrown.all (okD cX12_thrown) = true := by decide +kernel
def f_X12_thrown (S : St) (p0 : Nat) : Option (Int32) := lt (gI S p0 2) fun (v1 : Int32) => some v1
set_option maxHeartbeats 4000000 in
set_option maxRecDepth 100000 in
theorem c_X12_thrown (S : St) (p0 : Nat) : Ct yX12_thrown cX12_thrown 1 (some .int) 0 0 [.ref p0] [(p0, 11)] S (f_X12_thrown S p0) oI (fun _ => S) := by
  refine Ct_of RX12 rfl (by decide) (Nat.le_of_ble_eq_true rfl) 0 (vs := [some (.ref p0)]) rfl (fun C X E hr ht => ?_)
  have t0_ : tT C p0 11 := ht (p0, 11) (by simp)
  unfold f_X12_thrown
  refine s_run X ok_X12_thrown 0 1 (pc' := 1) (vs' := [some (.ref p0)]) (st' := [.ref p0]) rfl ?_
  refine s_getI X fl_X12_50 t0_ (dk okd_X12_thrown 0 rfl) (fun v1 => ?_)
  exact s_iret X hr (dk okd_X12_thrown 1 rfl) rfl rfl
def tab_X12_throwsIf : List En := [(0, 4, 1, 0), (4, 8, 0, 0), (5, 4, 2, 0), (9, 4, 1, 0)]
theorem ok_X12_throwsIf : tab_X12_throwsIf.all (okE cX12_throwsIf) = true := by decide +kernel
def ed_X12_throwsIf : List (Nat × Instr × Nat) := [(1, .ifCond .eq 8, 3), (6, .putfield 50, 3), (10, .ireturn, 1)]
theorem okd_X12_throwsIf : ed_X12_throwsIf.all (okD cX12_throwsIf) = true := by decide +kernel
def f_X12_throwsIf (S : St) (p0 : Nat) (p1 : Int32) (p2 : Int32) : Option (Int32 × St) := jn (κ := St → Option (Int32 × St)) (fun S1 => zc p1 (some (p1, S1))) fun k2 => if p1 = 0 then (k2 S) else (lt (uI S p0 2 p2) fun (S4 : St) => k2 S4)
set_option maxHeartbeats 4000000 in
set_option maxRecDepth 100000 in
theorem c_X12_throwsIf (S : St) (p0 : Nat) (p1 : Int32) (p2 : Int32) : Ct yX12_throwsIf cX12_throwsIf 3 (some .boolean) 0 0 [.ref p0, .int p1, .int p2] [(p0, 11)] S (f_X12_throwsIf S p0 p1 p2) oIS sS := by
  refine Ct_of RX12 rfl (by decide) (Nat.le_of_ble_eq_true rfl) 0 (vs := [some (.ref p0), some (.int p1), some (.int p2)]) rfl (fun C X E hr ht => ?_)
  have t0_ : tT C p0 11 := ht (p0, 11) (by simp)
  unfold f_X12_throwsIf
  refine s_run X ok_X12_throwsIf 0 1 (pc' := 1) (vs' := [some (.ref p0), some (.int p1), some (.int p2)]) (st' := [.int p1]) rfl ?_
  refine s_jn (κ := St → Option (Int32 × St)) (fun k2 => ∀ (S1 : St), Jd C 3 (QJ C oIS sS) S1 9 [none, some (.int p1), none] [] (k2 S1)) (fun S1 => ?_) (fun k2 h3 => ?_)
  · refine s_run X ok_X12_throwsIf 3 1 (pc' := 10) (vs' := [none, some (.int p1), none]) (st' := [.int p1]) rfl ?_
    exact s_zret X hr (dk okd_X12_throwsIf 2 rfl) rfl rfl
  · refine s_if_eq (tgt := 9) X (dk okd_X12_throwsIf 0 rfl) (by decide) ?_ ?_
    · exact s_less [false, true, false] rfl (h3 S)
    · refine s_run X ok_X12_throwsIf 1 2 (pc' := 6) (vs' := [some (.ref p0), some (.int p1), some (.int p2)]) (st' := [.int p2, .ref p0]) rfl ?_
      refine s_putI X fp_X12_50 t0_ (dk okd_X12_throwsIf 1 rfl) (fun S4 => ?_)
      exact s_less [false, true, false] rfl (h3 S4)
def tab_X12_inRange : List En := [(0, 6, 0, 0), (1, 6, 2, 0), (2, 40, 0, 0), (6, 6, 0, 0), (7, 7, 4, 0), (9, 40, 0, 0), (13, 0, 0, 1), (14, 41, 18, 0), (17, 0, 0, 0)]
theorem ok_X12_inRange : tab_X12_inRange.all (okE cX12_inRange) = true := by decide +kernel
def ed_X12_inRange : List (Nat × Instr × Nat) := [(3, .ifCond .lt 14, 3), (10, .ifCond .gt 7, 3), (18, .ireturn, 1)]
theorem okd_X12_inRange : ed_X12_inRange.all (okD cX12_inRange) = true := by decide +kernel
def f_X12_inRange (S : St) (p0 : Int64) (p1 : Int64) (p2 : Int64) : Option (Int32) := jn (κ := Option (Int32)) (some 0) fun k1 => if p0 < p1 then (k1) else (if p2 < p0 then (k1) else (some 1))
set_option maxHeartbeats 4000000 in
set_option maxRecDepth 100000 in
theorem c_X12_inRange (S : St) (p0 : Int64) (p1 : Int64) (p2 : Int64) : Ct yX12_inRange cX12_inRange 6 (some .boolean) 0 0 [.long p0, .long p1, .long p2] [] S (f_X12_inRange S p0 p1 p2) oI (fun _ => S) := by
  refine Ct_of RX12 rfl (by decide) (Nat.le_of_ble_eq_true rfl) 0 (vs := [some (.long p0), none, some (.long p1), none, some (.long p2), none]) rfl (fun C X E hr ht => ?_)
  unfold f_X12_inRange
  refine s_run X ok_X12_inRange 0 3 (pc' := 3) (vs' := [some (.long p0), none, some (.long p1), none, some (.long p2), none]) (st' := [.int (lg_cmp p0 p1)]) rfl ?_
  refine s_jn (κ := Option (Int32)) (fun k1 => Jd C 6 (QJ C oI (fun _ => S)) S 17 [none, none, none, none, none, none] [] k1) ?_ (fun k1 h2 => ?_)
  · refine s_run X ok_X12_inRange 8 1 (pc' := 18) (vs' := [none, none, none, none, none, none]) (st' := [.int 0]) rfl ?_
    exact s_zret0 X hr (dk okd_X12_inRange 2 rfl) (by decide) rfl rfl
  · refine s_lif_lt (tgt := 17) X (dk okd_X12_inRange 0 rfl) (by decide) ?_ ?_
    · exact s_less [false, false, false, false, false, false] rfl (h2)
    · refine s_run X ok_X12_inRange 3 3 (pc' := 10) (vs' := [some (.long p0), none, some (.long p1), none, some (.long p2), none]) (st' := [.int (lg_cmp p0 p2)]) rfl ?_
      refine s_lif_gt (tgt := 17) X (dk okd_X12_inRange 1 rfl) (by decide) ?_ ?_
      · exact s_less [false, false, false, false, false, false] rfl (h2)
      · refine s_run X ok_X12_inRange 6 2 (pc' := 18) (vs' := [some (.long p0), none, some (.long p1), none, some (.long p2), none]) (st' := [.int 1]) rfl ?_
        exact s_zret0 X hr (dk okd_X12_inRange 2 rfl) (by decide) rfl rfl
def tab_X12_saveSnapshot : List En := [(0, 8, 0, 0), (1, 0, 0, 0), (5, 4, 1, 0), (6, 31, 0, 0), (7, 3, 0, 0), (8, 3, 1, 0), (15, 0, 0, 0), (17, 8, 0, 0), (18, 0, 0, 0), (19, 0, 0, 1), (20, 4, 1, 0), (21, 17, 0, 0), (25, 8, 0, 0), (29, 4, 1, 0), (30, 0, 0, 1), (32, 0, 0, 1)]
theorem ok_X12_saveSnapshot : tab_X12_saveSnapshot.all (okE cX12_saveSnapshot) = true := by decide +kernel
def ed_X12_saveSnapshot : List (Nat × Instr × Nat) := [(2, .putfield 50, 3), (9, .invokestatic 53, 3), (12, .ifCond .ne 5, 3), (16, .ireturn, 1), (22, .invokevirtual 57, 3), (26, .getfield 13, 3), (31, .bastore, 1), (33, .ireturn, 1)]
theorem okd_X12_saveSnapshot : ed_X12_saveSnapshot.all (okD cX12_saveSnapshot) = true := by decide +kernel
def f_X12_saveSnapshot (S : St) (p0 : Nat) (p1 : Int32) : Option (Int32 × St) := lt (uI S p0 2 0) fun (S1 : St) => cl (f_X12_inRange S1 (Int32.toInt64 p1) 0 1) fun (v2 : Int32) => if v2 = 0 then (some (0, S1)) else (cl (f_X12_copyBlock S1 p0 0 (1 + p1)) fun (S3 : St) => lt (gR S3 p0 1) fun (a4 : Nat) => stI S3 a4 p1 (vp_nar .boolean 1) fun (S6 : St) => some (1, S6))
set_option maxHeartbeats 4000000 in
set_option maxRecDepth 100000 in
theorem c_X12_saveSnapshot (S : St) (p0 : Nat) (p1 : Int32) : Ct yX12_saveSnapshot cX12_saveSnapshot 2 (some .boolean) 1 25 [.ref p0, .int p1] [(p0, 11)] S (f_X12_saveSnapshot S p0 p1) oIS sS := by
  refine Ct_of RX12 rfl (by decide) (Nat.le_of_ble_eq_true rfl) 0 (vs := [some (.ref p0), some (.int p1)]) rfl (fun C X E hr ht => ?_)
  have t0_ : tT C p0 11 := ht (p0, 11) (by simp)
  unfold f_X12_saveSnapshot
  refine s_run X ok_X12_saveSnapshot 0 2 (pc' := 2) (vs' := [some (.ref p0), some (.int p1)]) (st' := [.int 0, .ref p0]) rfl ?_
  refine s_putI X fp_X12_50 t0_ (dk okd_X12_saveSnapshot 0 rfl) (fun S1 => ?_)
  refine s_run X ok_X12_saveSnapshot 2 4 (pc' := 9) (vs' := [some (.ref p0), some (.int p1)]) (st' := [.long 1, .long 0, .long (Int32.toInt64 p1)]) rfl ?_
  refine s_callS (rest := []) X E ms_X12_53 (c_X12_inRange S1 (Int32.toInt64 p1) 0 1) (ta0) rfl rfl (Nat.le_of_ble_eq_true rfl) (Nat.le_of_ble_eq_true rfl) (Nat.le_of_ble_eq_true rfl) (dk okd_X12_saveSnapshot 1 rfl) (st' := fun v2 => [.int v2]) (fun _ => rfl) (fun v2 => ?_)
  refine s_if_ne (tgt := 17) X (dk okd_X12_saveSnapshot 2 rfl) (by decide) ?_ ?_
  · refine s_run X ok_X12_saveSnapshot 7 5 (pc' := 22) (vs' := [some (.ref p0), some (.int p1)]) (st' := [.int (1 + p1), .int 0, .ref p0]) rfl ?_
    refine s_callV (rest := []) X E mv_X12_57 (c_X12_copyBlock S1 p0 0 (1 + p1)) (ta1 t0_) rfl (by decide) t0_ rfl rfl (Nat.le_of_ble_eq_true rfl) (Nat.le_of_ble_eq_true rfl) (Nat.le_of_ble_eq_true rfl) (dk okd_X12_saveSnapshot 4 rfl) (st' := fun S3 => []) (fun _ => rfl) (fun S3 => ?_)
    refine s_run X ok_X12_saveSnapshot 12 1 (pc' := 26) (vs' := [some (.ref p0), some (.int p1)]) (st' := [.ref p0]) rfl ?_
    refine s_getR X fl_X12_13 t0_ (dk okd_X12_saveSnapshot 5 rfl) (fun a4 (t5 : tT C a4 15) => ?_)
    refine s_run X ok_X12_saveSnapshot 13 2 (pc' := 31) (vs' := [some (.ref p0), some (.int p1)]) (st' := [.int 1, .int p1, .ref a4]) rfl ?_
    refine s_zast X t5 (dk okd_X12_saveSnapshot 6 rfl) (fun S6 => ?_)
    refine s_run X ok_X12_saveSnapshot 15 1 (pc' := 33) (vs' := [some (.ref p0), some (.int p1)]) (st' := [.int 1]) rfl ?_
    exact s_zret0 X hr (dk okd_X12_saveSnapshot 7 rfl) (by decide) rfl rfl
  · refine s_run X ok_X12_saveSnapshot 6 1 (pc' := 16) (vs' := [some (.ref p0), some (.int p1)]) (st' := [.int 0]) rfl ?_
    exact s_zret0 X hr (dk okd_X12_saveSnapshot 3 rfl) (by decide) rfl rfl
def tab_X12_restoreSnapshot : List En := [(0, 8, 0, 0), (1, 0, 0, 0), (5, 4, 1, 0), (6, 31, 0, 0), (7, 3, 0, 0), (8, 3, 1, 0), (15, 8, 0, 0), (19, 4, 1, 0), (24, 0, 0, 0), (26, 8, 0, 0), (27, 0, 0, 1), (28, 4, 1, 0), (29, 17, 0, 0), (30, 0, 0, 0), (34, 0, 0, 1)]
theorem ok_X12_restoreSnapshot : tab_X12_restoreSnapshot.all (okE cX12_restoreSnapshot) = true := by decide +kernel
def ed_X12_restoreSnapshot : List (Nat × Instr × Nat) := [(2, .putfield 50, 3), (9, .invokestatic 53, 3), (12, .ifCond .eq 12, 3), (16, .getfield 13, 3), (20, .baload, 1), (21, .ifCond .ne 5, 3), (25, .ireturn, 1), (31, .invokevirtual 57, 3), (35, .ireturn, 1)]
theorem okd_X12_restoreSnapshot : ed_X12_restoreSnapshot.all (okD cX12_restoreSnapshot) = true := by decide +kernel
def f_X12_restoreSnapshot (S : St) (p0 : Nat) (p1 : Int32) : Option (Int32 × St) := lt (uI S p0 2 0) fun (S1 : St) => cl (f_X12_inRange S1 (Int32.toInt64 p1) 0 1) fun (v2 : Int32) => if v2 = 0 then (some (0, S1)) else (lt (gR S1 p0 1) fun (a3 : Nat) => ldI S1 a3 p1 fun (v5 : Int32) => if v5 = 0 then (some (0, S1)) else (cl (f_X12_copyBlock S1 p0 (1 + p1) 0) fun (S6 : St) => some (1, S6)))
set_option maxHeartbeats 4000000 in
set_option maxRecDepth 100000 in
theorem c_X12_restoreSnapshot (S : St) (p0 : Nat) (p1 : Int32) : Ct yX12_restoreSnapshot cX12_restoreSnapshot 2 (some .boolean) 1 25 [.ref p0, .int p1] [(p0, 11)] S (f_X12_restoreSnapshot S p0 p1) oIS sS := by
  refine Ct_of RX12 rfl (by decide) (Nat.le_of_ble_eq_true rfl) 0 (vs := [some (.ref p0), some (.int p1)]) rfl (fun C X E hr ht => ?_)
  have t0_ : tT C p0 11 := ht (p0, 11) (by simp)
  unfold f_X12_restoreSnapshot
  refine s_run X ok_X12_restoreSnapshot 0 2 (pc' := 2) (vs' := [some (.ref p0), some (.int p1)]) (st' := [.int 0, .ref p0]) rfl ?_
  refine s_putI X fp_X12_50 t0_ (dk okd_X12_restoreSnapshot 0 rfl) (fun S1 => ?_)
  refine s_run X ok_X12_restoreSnapshot 2 4 (pc' := 9) (vs' := [some (.ref p0), some (.int p1)]) (st' := [.long 1, .long 0, .long (Int32.toInt64 p1)]) rfl ?_
  refine s_callS (rest := []) X E ms_X12_53 (c_X12_inRange S1 (Int32.toInt64 p1) 0 1) (ta0) rfl rfl (Nat.le_of_ble_eq_true rfl) (Nat.le_of_ble_eq_true rfl) (Nat.le_of_ble_eq_true rfl) (dk okd_X12_restoreSnapshot 1 rfl) (st' := fun v2 => [.int v2]) (fun _ => rfl) (fun v2 => ?_)
  refine s_if_eq (tgt := 24) X (dk okd_X12_restoreSnapshot 2 rfl) (by decide) ?_ ?_
  · refine s_run X ok_X12_restoreSnapshot 8 1 (pc' := 25) (vs' := [some (.ref p0), some (.int p1)]) (st' := [.int 0]) rfl ?_
    exact s_zret0 X hr (dk okd_X12_restoreSnapshot 6 rfl) (by decide) rfl rfl
  · refine s_run X ok_X12_restoreSnapshot 6 1 (pc' := 16) (vs' := [some (.ref p0), some (.int p1)]) (st' := [.ref p0]) rfl ?_
    refine s_getR X fl_X12_13 t0_ (dk okd_X12_restoreSnapshot 3 rfl) (fun a3 (t4 : tT C a3 15) => ?_)
    refine s_run X ok_X12_restoreSnapshot 7 1 (pc' := 20) (vs' := [some (.ref p0), some (.int p1)]) (st' := [.int p1, .ref a3]) rfl ?_
    refine s_zald X t4 (dk okd_X12_restoreSnapshot 4 rfl) (fun v5 => ?_)
    refine s_if_ne (tgt := 26) X (dk okd_X12_restoreSnapshot 5 rfl) (by decide) ?_ ?_
    · refine s_run X ok_X12_restoreSnapshot 9 5 (pc' := 31) (vs' := [some (.ref p0), some (.int p1)]) (st' := [.int 0, .int (1 + p1), .ref p0]) rfl ?_
      refine s_callV (rest := []) X E mv_X12_57 (c_X12_copyBlock S1 p0 (1 + p1) 0) (ta1 t0_) rfl (by decide) t0_ rfl rfl (Nat.le_of_ble_eq_true rfl) (Nat.le_of_ble_eq_true rfl) (Nat.le_of_ble_eq_true rfl) (dk okd_X12_restoreSnapshot 7 rfl) (st' := fun S6 => []) (fun _ => rfl) (fun S6 => ?_)
      refine s_run X ok_X12_restoreSnapshot 14 1 (pc' := 35) (vs' := [some (.ref p0), some (.int p1)]) (st' := [.int 1]) rfl ?_
      exact s_zret0 X hr (dk okd_X12_restoreSnapshot 8 rfl) (by decide) rfl rfl
    · refine s_run X ok_X12_restoreSnapshot 8 1 (pc' := 25) (vs' := [some (.ref p0), some (.int p1)]) (st' := [.int 0]) rfl ?_
      exact s_zret0 X hr (dk okd_X12_restoreSnapshot 6 rfl) (by decide) rfl rfl
def tab_X12_isPlan : List En := [(0, 4, 1, 0), (1, 31, 0, 0), (2, 3, 0, 0), (3, 8, 0, 0), (7, 0, 0, 1), (9, 3, 1, 0), (10, 24, 0, 0)]
theorem ok_X12_isPlan : tab_X12_isPlan.all (okE cX12_isPlan) = true := by decide +kernel
def ed_X12_isPlan : List (Nat × Instr × Nat) := [(4, .getfield 9, 3), (8, .laload, 1), (11, .invokestatic 53, 3), (14, .ireturn, 1)]
theorem okd_X12_isPlan : ed_X12_isPlan.all (okD cX12_isPlan) = true := by decide +kernel
def f_X12_isPlan (S : St) (p0 : Nat) (p1 : Int32) : Option (Int32) := lt (gR S p0 0) fun (a1 : Nat) => ldJ S a1 1 fun (v3 : Int64) => cl (f_X12_inRange S (Int32.toInt64 p1) 0 (v3 - 1)) fun (v4 : Int32) => zc v4 (some v4)
set_option maxHeartbeats 4000000 in
set_option maxRecDepth 100000 in
theorem c_X12_isPlan (S : St) (p0 : Nat) (p1 : Int32) : Ct yX12_isPlan cX12_isPlan 2 (some .boolean) 1 25 [.ref p0, .int p1] [(p0, 11)] S (f_X12_isPlan S p0 p1) oI (fun _ => S) := by
  refine Ct_of RX12 rfl (by decide) (Nat.le_of_ble_eq_true rfl) 0 (vs := [some (.ref p0), some (.int p1)]) rfl (fun C X E hr ht => ?_)
  have t0_ : tT C p0 11 := ht (p0, 11) (by simp)
  unfold f_X12_isPlan
  refine s_run X ok_X12_isPlan 0 4 (pc' := 4) (vs' := [some (.ref p0), some (.int p1)]) (st' := [.ref p0, .long 0, .long (Int32.toInt64 p1)]) rfl ?_
  refine s_getR X fl_X12_9 t0_ (dk okd_X12_isPlan 0 rfl) (fun a1 (t2 : tT C a1 14) => ?_)
  refine s_run X ok_X12_isPlan 4 1 (pc' := 8) (vs' := [some (.ref p0), some (.int p1)]) (st' := [.int 1, .ref a1, .long 0, .long (Int32.toInt64 p1)]) rfl ?_
  refine s_lald X t2 (dk okd_X12_isPlan 1 rfl) (fun v3 => ?_)
  refine s_run X ok_X12_isPlan 5 2 (pc' := 11) (vs' := [some (.ref p0), some (.int p1)]) (st' := [.long (v3 - 1), .long 0, .long (Int32.toInt64 p1)]) rfl ?_
  refine s_callS (rest := []) X E ms_X12_53 (c_X12_inRange S (Int32.toInt64 p1) 0 (v3 - 1)) (ta0) rfl rfl (Nat.le_of_ble_eq_true rfl) (Nat.le_of_ble_eq_true rfl) (Nat.le_of_ble_eq_true rfl) (dk okd_X12_isPlan 2 rfl) (st' := fun v4 => [.int v4]) (fun _ => rfl) (fun v4 => ?_)
  exact s_zret X hr (dk okd_X12_isPlan 3 rfl) rfl rfl
def tab_X12_isFranchisee : List En := [(0, 4, 1, 0), (1, 31, 0, 0), (2, 3, 0, 0), (3, 8, 0, 0), (7, 0, 0, 2), (9, 3, 1, 0), (10, 24, 0, 0)]
theorem ok_X12_isFranchisee : tab_X12_isFranchisee.all (okE cX12_isFranchisee) = true := by decide +kernel
def ed_X12_isFranchisee : List (Nat × Instr × Nat) := [(4, .getfield 9, 3), (8, .laload, 1), (11, .invokestatic 53, 3), (14, .ireturn, 1)]
theorem okd_X12_isFranchisee : ed_X12_isFranchisee.all (okD cX12_isFranchisee) = true := by decide +kernel
def f_X12_isFranchisee (S : St) (p0 : Nat) (p1 : Int32) : Option (Int32) := lt (gR S p0 0) fun (a1 : Nat) => ldJ S a1 2 fun (v3 : Int64) => cl (f_X12_inRange S (Int32.toInt64 p1) 0 (v3 - 1)) fun (v4 : Int32) => zc v4 (some v4)
set_option maxHeartbeats 4000000 in
set_option maxRecDepth 100000 in
theorem c_X12_isFranchisee (S : St) (p0 : Nat) (p1 : Int32) : Ct yX12_isFranchisee cX12_isFranchisee 2 (some .boolean) 1 25 [.ref p0, .int p1] [(p0, 11)] S (f_X12_isFranchisee S p0 p1) oI (fun _ => S) := by
  refine Ct_of RX12 rfl (by decide) (Nat.le_of_ble_eq_true rfl) 0 (vs := [some (.ref p0), some (.int p1)]) rfl (fun C X E hr ht => ?_)
  have t0_ : tT C p0 11 := ht (p0, 11) (by simp)
  unfold f_X12_isFranchisee
  refine s_run X ok_X12_isFranchisee 0 4 (pc' := 4) (vs' := [some (.ref p0), some (.int p1)]) (st' := [.ref p0, .long 0, .long (Int32.toInt64 p1)]) rfl ?_
  refine s_getR X fl_X12_9 t0_ (dk okd_X12_isFranchisee 0 rfl) (fun a1 (t2 : tT C a1 14) => ?_)
  refine s_run X ok_X12_isFranchisee 4 1 (pc' := 8) (vs' := [some (.ref p0), some (.int p1)]) (st' := [.int 2, .ref a1, .long 0, .long (Int32.toInt64 p1)]) rfl ?_
  refine s_lald X t2 (dk okd_X12_isFranchisee 1 rfl) (fun v3 => ?_)
  refine s_run X ok_X12_isFranchisee 5 2 (pc' := 11) (vs' := [some (.ref p0), some (.int p1)]) (st' := [.long (v3 - 1), .long 0, .long (Int32.toInt64 p1)]) rfl ?_
  refine s_callS (rest := []) X E ms_X12_53 (c_X12_inRange S (Int32.toInt64 p1) 0 (v3 - 1)) (ta0) rfl rfl (Nat.le_of_ble_eq_true rfl) (Nat.le_of_ble_eq_true rfl) (Nat.le_of_ble_eq_true rfl) (dk okd_X12_isFranchisee 2 rfl) (st' := fun v4 => [.int v4]) (fun _ => rfl) (fun v4 => ?_)
  exact s_zret X hr (dk okd_X12_isFranchisee 3 rfl) rfl rfl
def tab_X12_isOutlet : List En := [(0, 4, 1, 0), (1, 31, 0, 0), (2, 3, 0, 0), (3, 8, 0, 0), (7, 0, 0, 3), (9, 3, 1, 0), (10, 24, 0, 0)]
theorem ok_X12_isOutlet : tab_X12_isOutlet.all (okE cX12_isOutlet) = true := by decide +kernel
def ed_X12_isOutlet : List (Nat × Instr × Nat) := [(4, .getfield 9, 3), (8, .laload, 1), (11, .invokestatic 53, 3), (14, .ireturn, 1)]
theorem okd_X12_isOutlet : ed_X12_isOutlet.all (okD cX12_isOutlet) = true := by decide +kernel
def f_X12_isOutlet (S : St) (p0 : Nat) (p1 : Int32) : Option (Int32) := lt (gR S p0 0) fun (a1 : Nat) => ldJ S a1 3 fun (v3 : Int64) => cl (f_X12_inRange S (Int32.toInt64 p1) 0 (v3 - 1)) fun (v4 : Int32) => zc v4 (some v4)
set_option maxHeartbeats 4000000 in
set_option maxRecDepth 100000 in
theorem c_X12_isOutlet (S : St) (p0 : Nat) (p1 : Int32) : Ct yX12_isOutlet cX12_isOutlet 2 (some .boolean) 1 25 [.ref p0, .int p1] [(p0, 11)] S (f_X12_isOutlet S p0 p1) oI (fun _ => S) := by
  refine Ct_of RX12 rfl (by decide) (Nat.le_of_ble_eq_true rfl) 0 (vs := [some (.ref p0), some (.int p1)]) rfl (fun C X E hr ht => ?_)
  have t0_ : tT C p0 11 := ht (p0, 11) (by simp)
  unfold f_X12_isOutlet
  refine s_run X ok_X12_isOutlet 0 4 (pc' := 4) (vs' := [some (.ref p0), some (.int p1)]) (st' := [.ref p0, .long 0, .long (Int32.toInt64 p1)]) rfl ?_
  refine s_getR X fl_X12_9 t0_ (dk okd_X12_isOutlet 0 rfl) (fun a1 (t2 : tT C a1 14) => ?_)
  refine s_run X ok_X12_isOutlet 4 1 (pc' := 8) (vs' := [some (.ref p0), some (.int p1)]) (st' := [.int 3, .ref a1, .long 0, .long (Int32.toInt64 p1)]) rfl ?_
  refine s_lald X t2 (dk okd_X12_isOutlet 1 rfl) (fun v3 => ?_)
  refine s_run X ok_X12_isOutlet 5 2 (pc' := 11) (vs' := [some (.ref p0), some (.int p1)]) (st' := [.long (v3 - 1), .long 0, .long (Int32.toInt64 p1)]) rfl ?_
  refine s_callS (rest := []) X E ms_X12_53 (c_X12_inRange S (Int32.toInt64 p1) 0 (v3 - 1)) (ta0) rfl rfl (Nat.le_of_ble_eq_true rfl) (Nat.le_of_ble_eq_true rfl) (Nat.le_of_ble_eq_true rfl) (dk okd_X12_isOutlet 2 rfl) (st' := fun v4 => [.int v4]) (fun _ => rfl) (fun v4 => ?_)
  exact s_zret X hr (dk okd_X12_isOutlet 3 rfl) rfl rfl
def tab_X12_isCell : List En := [(0, 4, 0, 0), (1, 31, 0, 0), (2, 3, 0, 0), (12, 4, 1, 0), (13, 31, 0, 0), (14, 3, 0, 0), (24, 0, 0, 1), (25, 41, 29, 0), (28, 0, 0, 0)]
theorem ok_X12_isCell : tab_X12_isCell.all (okE cX12_isCell) = true := by decide +kernel
def ed_X12_isCell : List (Nat × Instr × Nat) := [(3, .ldc2_w 61, 3), (6, .invokestatic 53, 3), (9, .ifCond .eq 19, 3), (15, .ldc2_w 61, 3), (18, .invokestatic 53, 3), (21, .ifCond .eq 7, 3), (29, .ireturn, 1)]
theorem okd_X12_isCell : ed_X12_isCell.all (okD cX12_isCell) = true := by decide +kernel
def f_X12_isCell (S : St) (p0 : Int32) (p1 : Int32) : Option (Int32) := cl (f_X12_inRange S (Int32.toInt64 p0) 0 29) fun (v1 : Int32) => jn (κ := Option (Int32)) (some 0) fun k2 => if v1 = 0 then (k2) else (cl (f_X12_inRange S (Int32.toInt64 p1) 0 29) fun (v4 : Int32) => if v4 = 0 then (k2) else (some 1))
set_option maxHeartbeats 4000000 in
set_option maxRecDepth 100000 in
theorem c_X12_isCell (S : St) (p0 : Int32) (p1 : Int32) : Ct yX12_isCell cX12_isCell 2 (some .boolean) 1 25 [.int p0, .int p1] [] S (f_X12_isCell S p0 p1) oI (fun _ => S) := by
  refine Ct_of RX12 rfl (by decide) (Nat.le_of_ble_eq_true rfl) 0 (vs := [some (.int p0), some (.int p1)]) rfl (fun C X E hr ht => ?_)
  unfold f_X12_isCell
  refine s_run X ok_X12_isCell 0 3 (pc' := 3) (vs' := [some (.int p0), some (.int p1)]) (st' := [.long 0, .long (Int32.toInt64 p0)]) rfl ?_
  refine s_ldc2 X cl_X12_61 (dk okd_X12_isCell 0 rfl) ?_
  refine s_callS (rest := []) X E ms_X12_53 (c_X12_inRange S (Int32.toInt64 p0) 0 29) (ta0) rfl rfl (Nat.le_of_ble_eq_true rfl) (Nat.le_of_ble_eq_true rfl) (Nat.le_of_ble_eq_true rfl) (dk okd_X12_isCell 1 rfl) (st' := fun v1 => [.int v1]) (fun _ => rfl) (fun v1 => ?_)
  refine s_jn (κ := Option (Int32)) (fun k2 => Jd C 2 (QJ C oI (fun _ => S)) S 28 [none, none] [] k2) ?_ (fun k2 h3 => ?_)
  · refine s_run X ok_X12_isCell 8 1 (pc' := 29) (vs' := [none, none]) (st' := [.int 0]) rfl ?_
    exact s_zret0 X hr (dk okd_X12_isCell 6 rfl) (by decide) rfl rfl
  · refine s_if_eq (tgt := 28) X (dk okd_X12_isCell 2 rfl) (by decide) ?_ ?_
    · exact s_less [false, false] rfl (h3)
    · refine s_run X ok_X12_isCell 3 3 (pc' := 15) (vs' := [some (.int p0), some (.int p1)]) (st' := [.long 0, .long (Int32.toInt64 p1)]) rfl ?_
      refine s_ldc2 X cl_X12_61 (dk okd_X12_isCell 3 rfl) ?_
      refine s_callS (rest := []) X E ms_X12_53 (c_X12_inRange S (Int32.toInt64 p1) 0 29) (ta0) rfl rfl (Nat.le_of_ble_eq_true rfl) (Nat.le_of_ble_eq_true rfl) (Nat.le_of_ble_eq_true rfl) (dk okd_X12_isCell 4 rfl) (st' := fun v4 => [.int v4]) (fun _ => rfl) (fun v4 => ?_)
      refine s_if_eq (tgt := 28) X (dk okd_X12_isCell 5 rfl) (by decide) ?_ ?_
      · exact s_less [false, false] rfl (h3)
      · refine s_run X ok_X12_isCell 6 2 (pc' := 29) (vs' := [some (.int p0), some (.int p1)]) (st' := [.int 1]) rfl ?_
        exact s_zret0 X hr (dk okd_X12_isCell 6 rfl) (by decide) rfl rfl
def tab_X12_of : List En := [(0, 8, 0, 0), (4, 1, 0, 58), (6, 1, 0, 16), (8, 4, 1, 0), (9, 19, 0, 0), (10, 17, 0, 0), (11, 4, 2, 0), (12, 17, 0, 0)]
theorem ok_X12_of : tab_X12_of.all (okE cX12_of) = true := by decide +kernel
def ed_X12_of : List (Nat × Instr × Nat) := [(1, .getfield 9, 3), (13, .laload, 1), (14, .lreturn, 1)]
theorem okd_X12_of : ed_X12_of.all (okD cX12_of) = true := by decide +kernel
def f_X12_of (S : St) (p0 : Nat) (p1 : Int32) (p2 : Int32) : Option (Int64) := lt (gR S p0 0) fun (a1 : Nat) => ldJ S a1 ((58 + (16 * p1)) + p2) fun (v3 : Int64) => some v3
set_option maxHeartbeats 4000000 in
set_option maxRecDepth 100000 in
theorem c_X12_of (S : St) (p0 : Nat) (p1 : Int32) (p2 : Int32) : Ct yX12_of cX12_of 3 (some .long) 0 0 [.ref p0, .int p1, .int p2] [(p0, 11)] S (f_X12_of S p0 p1 p2) oL (fun _ => S) := by
  refine Ct_of RX12 rfl (by decide) (Nat.le_of_ble_eq_true rfl) 0 (vs := [some (.ref p0), some (.int p1), some (.int p2)]) rfl (fun C X E hr ht => ?_)
  have t0_ : tT C p0 11 := ht (p0, 11) (by simp)
  unfold f_X12_of
  refine s_run X ok_X12_of 0 1 (pc' := 1) (vs' := [some (.ref p0), some (.int p1), some (.int p2)]) (st' := [.ref p0]) rfl ?_
  refine s_getR X fl_X12_9 t0_ (dk okd_X12_of 0 rfl) (fun a1 (t2 : tT C a1 14) => ?_)
  refine s_run X ok_X12_of 1 7 (pc' := 13) (vs' := [some (.ref p0), some (.int p1), some (.int p2)]) (st' := [.int ((58 + (16 * p1)) + p2), .ref a1]) rfl ?_
  refine s_lald X t2 (dk okd_X12_of 1 rfl) (fun v3 => ?_)
  exact s_lret X hr (dk okd_X12_of 2 rfl) rfl rfl
def tab_X12_set : List En := [(0, 8, 0, 0), (4, 1, 0, 58), (6, 1, 0, 16), (8, 4, 1, 0), (9, 19, 0, 0), (10, 17, 0, 0), (11, 4, 2, 0), (12, 17, 0, 0), (13, 6, 3, 0)]
theorem ok_X12_set : tab_X12_set.all (okE cX12_set) = true := by decide +kernel
def ed_X12_set : List (Nat × Instr × Nat) := [(1, .getfield 9, 3), (14, .lastore, 1), (15, .return_, 1)]
theorem okd_X12_set : ed_X12_set.all (okD cX12_set) = true := by decide +kernel
def f_X12_set (S : St) (p0 : Nat) (p1 : Int32) (p2 : Int32) (p3 : Int64) : Option (St) := lt (gR S p0 0) fun (a1 : Nat) => stJ S a1 ((58 + (16 * p1)) + p2) p3 fun (S3 : St) => some S3
set_option maxHeartbeats 4000000 in
set_option maxRecDepth 100000 in
theorem c_X12_set (S : St) (p0 : Nat) (p1 : Int32) (p2 : Int32) (p3 : Int64) : Ct yX12_set cX12_set 5 none 0 0 [.ref p0, .int p1, .int p2, .long p3] [(p0, 11)] S (f_X12_set S p0 p1 p2 p3) oV sV := by
  refine Ct_of RX12 rfl (by decide) (Nat.le_of_ble_eq_true rfl) 0 (vs := [some (.ref p0), some (.int p1), some (.int p2), some (.long p3), none]) rfl (fun C X E hr ht => ?_)
  have t0_ : tT C p0 11 := ht (p0, 11) (by simp)
  unfold f_X12_set
  refine s_run X ok_X12_set 0 1 (pc' := 1) (vs' := [some (.ref p0), some (.int p1), some (.int p2), some (.long p3), none]) (st' := [.ref p0]) rfl ?_
  refine s_getR X fl_X12_9 t0_ (dk okd_X12_set 0 rfl) (fun a1 (t2 : tT C a1 14) => ?_)
  refine s_run X ok_X12_set 1 8 (pc' := 14) (vs' := [some (.ref p0), some (.int p1), some (.int p2), some (.long p3), none]) (st' := [.long p3, .int ((58 + (16 * p1)) + p2), .ref a1]) rfl ?_
  refine s_last X t2 (dk okd_X12_set 1 rfl) (fun S3 => ?_)
  exact s_vret X hr (dk okd_X12_set 2 rfl) rfl rfl
def tab_X12_add : List En := [(0, 8, 0, 0), (4, 1, 0, 58), (6, 1, 0, 16), (8, 4, 1, 0), (9, 19, 0, 0), (10, 17, 0, 0), (11, 4, 2, 0), (12, 17, 0, 0), (13, 37, 0, 0), (15, 6, 3, 0), (16, 23, 0, 0)]
theorem ok_X12_add : tab_X12_add.all (okE cX12_add) = true := by decide +kernel
def ed_X12_add : List (Nat × Instr × Nat) := [(1, .getfield 9, 3), (14, .laload, 1), (17, .lastore, 1), (18, .return_, 1)]
theorem okd_X12_add : ed_X12_add.all (okD cX12_add) = true := by decide +kernel
def f_X12_add (S : St) (p0 : Nat) (p1 : Int32) (p2 : Int32) (p3 : Int64) : Option (St) := lt (gR S p0 0) fun (a1 : Nat) => ldJ S a1 ((58 + (16 * p1)) + p2) fun (v3 : Int64) => stJ S a1 ((58 + (16 * p1)) + p2) (v3 + p3) fun (S4 : St) => some S4
set_option maxHeartbeats 4000000 in
set_option maxRecDepth 100000 in
theorem c_X12_add (S : St) (p0 : Nat) (p1 : Int32) (p2 : Int32) (p3 : Int64) : Ct yX12_add cX12_add 5 none 0 0 [.ref p0, .int p1, .int p2, .long p3] [(p0, 11)] S (f_X12_add S p0 p1 p2 p3) oV sV := by
  refine Ct_of RX12 rfl (by decide) (Nat.le_of_ble_eq_true rfl) 0 (vs := [some (.ref p0), some (.int p1), some (.int p2), some (.long p3), none]) rfl (fun C X E hr ht => ?_)
  have t0_ : tT C p0 11 := ht (p0, 11) (by simp)
  unfold f_X12_add
  refine s_run X ok_X12_add 0 1 (pc' := 1) (vs' := [some (.ref p0), some (.int p1), some (.int p2), some (.long p3), none]) (st' := [.ref p0]) rfl ?_
  refine s_getR X fl_X12_9 t0_ (dk okd_X12_add 0 rfl) (fun a1 (t2 : tT C a1 14) => ?_)
  refine s_run X ok_X12_add 1 8 (pc' := 14) (vs' := [some (.ref p0), some (.int p1), some (.int p2), some (.long p3), none]) (st' := [.int ((58 + (16 * p1)) + p2), .ref a1, .int ((58 + (16 * p1)) + p2), .ref a1]) rfl ?_
  refine s_lald X t2 (dk okd_X12_add 1 rfl) (fun v3 => ?_)
  refine s_run X ok_X12_add 9 2 (pc' := 17) (vs' := [some (.ref p0), some (.int p1), some (.int p2), some (.long p3), none]) (st' := [.long (v3 + p3), .int ((58 + (16 * p1)) + p2), .ref a1]) rfl ?_
  refine s_last X t2 (dk okd_X12_add 2 rfl) (fun S4 => ?_)
  exact s_vret X hr (dk okd_X12_add 3 rfl) rfl rfl
def tab_X12_isActive : List En := [(0, 8, 0, 0), (1, 4, 1, 0), (2, 0, 0, 3), (6, 3, 0, 0), (7, 40, 0, 0), (11, 0, 0, 1), (12, 41, 16, 0), (15, 0, 0, 0)]
theorem ok_X12_isActive : tab_X12_isActive.all (okE cX12_isActive) = true := by decide +kernel
def ed_X12_isActive : List (Nat × Instr × Nat) := [(3, .invokevirtual 63, 3), (8, .ifCond .ne 7, 3), (16, .ireturn, 1)]
theorem okd_X12_isActive : ed_X12_isActive.all (okD cX12_isActive) = true := by decide +kernel
def f_X12_isActive (S : St) (p0 : Nat) (p1 : Int32) : Option (Int32) := cl (f_X12_of S p0 p1 3) fun (v1 : Int64) => if v1 = 0 then (some 1) else (some 0)
set_option maxHeartbeats 4000000 in
set_option maxRecDepth 100000 in
theorem c_X12_isActive (S : St) (p0 : Nat) (p1 : Int32) : Ct yX12_isActive cX12_isActive 2 (some .boolean) 1 22 [.ref p0, .int p1] [(p0, 11)] S (f_X12_isActive S p0 p1) oI (fun _ => S) := by
  refine Ct_of RX12 rfl (by decide) (Nat.le_of_ble_eq_true rfl) 0 (vs := [some (.ref p0), some (.int p1)]) rfl (fun C X E hr ht => ?_)
  have t0_ : tT C p0 11 := ht (p0, 11) (by simp)
  unfold f_X12_isActive
  refine s_run X ok_X12_isActive 0 3 (pc' := 3) (vs' := [some (.ref p0), some (.int p1)]) (st' := [.int 3, .int p1, .ref p0]) rfl ?_
  refine s_callV (rest := []) X E mv_X12_63 (c_X12_of S p0 p1 3) (ta1 t0_) rfl (by decide) t0_ rfl rfl (Nat.le_of_ble_eq_true rfl) (Nat.le_of_ble_eq_true rfl) (Nat.le_of_ble_eq_true rfl) (dk okd_X12_isActive 0 rfl) (st' := fun v1 => [.long v1]) (fun _ => rfl) (fun v1 => ?_)
  refine s_run X ok_X12_isActive 3 2 (pc' := 8) (vs' := [some (.ref p0), some (.int p1)]) (st' := [.int (lg_cmp v1 0)]) rfl ?_
  refine s_lif_ne (tgt := 15) X (dk okd_X12_isActive 1 rfl) (by decide) ?_ ?_
  · refine s_run X ok_X12_isActive 7 1 (pc' := 16) (vs' := [some (.ref p0), some (.int p1)]) (st' := [.int 0]) rfl ?_
    exact s_zret0 X hr (dk okd_X12_isActive 2 rfl) (by decide) rfl rfl
  · refine s_run X ok_X12_isActive 5 2 (pc' := 16) (vs' := [some (.ref p0), some (.int p1)]) (st' := [.int 1]) rfl ?_
    exact s_zret0 X hr (dk okd_X12_isActive 2 rfl) (by decide) rfl rfl
def tab_X12_ofOutlet : List En := [(0, 8, 0, 0), (4, 2, 0, 186), (7, 0, 0, 4), (8, 4, 1, 0), (9, 19, 0, 0), (10, 17, 0, 0), (11, 4, 2, 0), (12, 17, 0, 0)]
theorem ok_X12_ofOutlet : tab_X12_ofOutlet.all (okE cX12_ofOutlet) = true := by decide +kernel
def ed_X12_ofOutlet : List (Nat × Instr × Nat) := [(1, .getfield 9, 3), (13, .laload, 1), (14, .lreturn, 1)]
theorem okd_X12_ofOutlet : ed_X12_ofOutlet.all (okD cX12_ofOutlet) = true := by decide +kernel
def f_X12_ofOutlet (S : St) (p0 : Nat) (p1 : Int32) (p2 : Int32) : Option (Int64) := lt (gR S p0 0) fun (a1 : Nat) => ldJ S a1 ((186 + (4 * p1)) + p2) fun (v3 : Int64) => some v3
set_option maxHeartbeats 4000000 in
set_option maxRecDepth 100000 in
theorem c_X12_ofOutlet (S : St) (p0 : Nat) (p1 : Int32) (p2 : Int32) : Ct yX12_ofOutlet cX12_ofOutlet 3 (some .long) 0 0 [.ref p0, .int p1, .int p2] [(p0, 11)] S (f_X12_ofOutlet S p0 p1 p2) oL (fun _ => S) := by
  refine Ct_of RX12 rfl (by decide) (Nat.le_of_ble_eq_true rfl) 0 (vs := [some (.ref p0), some (.int p1), some (.int p2)]) rfl (fun C X E hr ht => ?_)
  have t0_ : tT C p0 11 := ht (p0, 11) (by simp)
  unfold f_X12_ofOutlet
  refine s_run X ok_X12_ofOutlet 0 1 (pc' := 1) (vs' := [some (.ref p0), some (.int p1), some (.int p2)]) (st' := [.ref p0]) rfl ?_
  refine s_getR X fl_X12_9 t0_ (dk okd_X12_ofOutlet 0 rfl) (fun a1 (t2 : tT C a1 14) => ?_)
  refine s_run X ok_X12_ofOutlet 1 7 (pc' := 13) (vs' := [some (.ref p0), some (.int p1), some (.int p2)]) (st' := [.int ((186 + (4 * p1)) + p2), .ref a1]) rfl ?_
  refine s_lald X t2 (dk okd_X12_ofOutlet 1 rfl) (fun v3 => ?_)
  exact s_lret X hr (dk okd_X12_ofOutlet 2 rfl) rfl rfl
def tab_X12_ownerOf : List En := [(0, 8, 0, 0), (4, 2, 0, 250), (7, 1, 0, 30), (9, 4, 2, 0), (10, 19, 0, 0), (11, 17, 0, 0), (12, 4, 1, 0), (13, 17, 0, 0), (15, 32, 0, 0)]
theorem ok_X12_ownerOf : tab_X12_ownerOf.all (okE cX12_ownerOf) = true := by decide +kernel
def ed_X12_ownerOf : List (Nat × Instr × Nat) := [(1, .getfield 9, 3), (14, .laload, 1), (16, .ireturn, 1)]
theorem okd_X12_ownerOf : ed_X12_ownerOf.all (okD cX12_ownerOf) = true := by decide +kernel
def f_X12_ownerOf (S : St) (p0 : Nat) (p1 : Int32) (p2 : Int32) : Option (Int32) := lt (gR S p0 0) fun (a1 : Nat) => ldJ S a1 ((250 + (30 * p2)) + p1) fun (v3 : Int64) => some (Int64.toInt32 v3)
set_option maxHeartbeats 4000000 in
set_option maxRecDepth 100000 in
theorem c_X12_ownerOf (S : St) (p0 : Nat) (p1 : Int32) (p2 : Int32) : Ct yX12_ownerOf cX12_ownerOf 3 (some .int) 0 0 [.ref p0, .int p1, .int p2] [(p0, 11)] S (f_X12_ownerOf S p0 p1 p2) oI (fun _ => S) := by
  refine Ct_of RX12 rfl (by decide) (Nat.le_of_ble_eq_true rfl) 0 (vs := [some (.ref p0), some (.int p1), some (.int p2)]) rfl (fun C X E hr ht => ?_)
  have t0_ : tT C p0 11 := ht (p0, 11) (by simp)
  unfold f_X12_ownerOf
  refine s_run X ok_X12_ownerOf 0 1 (pc' := 1) (vs' := [some (.ref p0), some (.int p1), some (.int p2)]) (st' := [.ref p0]) rfl ?_
  refine s_getR X fl_X12_9 t0_ (dk okd_X12_ownerOf 0 rfl) (fun a1 (t2 : tT C a1 14) => ?_)
  refine s_run X ok_X12_ownerOf 1 7 (pc' := 14) (vs' := [some (.ref p0), some (.int p1), some (.int p2)]) (st' := [.int ((250 + (30 * p2)) + p1), .ref a1]) rfl ?_
  refine s_lald X t2 (dk okd_X12_ownerOf 1 rfl) (fun v3 => ?_)
  refine s_run X ok_X12_ownerOf 8 1 (pc' := 16) (vs' := [some (.ref p0), some (.int p1), some (.int p2)]) (st' := [.int (Int64.toInt32 v3)]) rfl ?_
  exact s_iret X hr (dk okd_X12_ownerOf 2 rfl) rfl rfl
def tab_X12_owns : List En := [(0, 4, 2, 0), (1, 4, 3, 0), (8, 8, 0, 0), (9, 4, 2, 0), (10, 4, 3, 0), (14, 4, 1, 0), (18, 0, 0, 1), (19, 41, 23, 0), (22, 0, 0, 0)]
theorem ok_X12_owns : tab_X12_owns.all (okE cX12_owns) = true := by decide +kernel
def ed_X12_owns : List (Nat × Instr × Nat) := [(2, .invokestatic 67, 3), (5, .ifCond .eq 17, 3), (11, .invokevirtual 71, 3), (15, .if_icmp .ne 7, 3), (23, .ireturn, 1)]
theorem okd_X12_owns : ed_X12_owns.all (okD cX12_owns) = true := by decide +kernel
def f_X12_owns (S : St) (p0 : Nat) (p1 : Int32) (p2 : Int32) (p3 : Int32) : Option (Int32) := cl (f_X12_isCell S p2 p3) fun (v1 : Int32) => jn (κ := Option (Int32)) (some 0) fun k2 => if v1 = 0 then (k2) else (cl (f_X12_ownerOf S p0 p2 p3) fun (v4 : Int32) => if v4 = p1 then (some 1) else (k2))
set_option maxHeartbeats 4000000 in
set_option maxRecDepth 100000 in
theorem c_X12_owns (S : St) (p0 : Nat) (p1 : Int32) (p2 : Int32) (p3 : Int32) : Ct yX12_owns cX12_owns 4 (some .boolean) 2 46 [.ref p0, .int p1, .int p2, .int p3] [(p0, 11)] S (f_X12_owns S p0 p1 p2 p3) oI (fun _ => S) := by
  refine Ct_of RX12 rfl (by decide) (Nat.le_of_ble_eq_true rfl) 0 (vs := [some (.ref p0), some (.int p1), some (.int p2), some (.int p3)]) rfl (fun C X E hr ht => ?_)
  have t0_ : tT C p0 11 := ht (p0, 11) (by simp)
  unfold f_X12_owns
  refine s_run X ok_X12_owns 0 2 (pc' := 2) (vs' := [some (.ref p0), some (.int p1), some (.int p2), some (.int p3)]) (st' := [.int p3, .int p2]) rfl ?_
  refine s_callS (rest := []) X E ms_X12_67 (c_X12_isCell S p2 p3) (ta0) rfl rfl (Nat.le_of_ble_eq_true rfl) (Nat.le_of_ble_eq_true rfl) (Nat.le_of_ble_eq_true rfl) (dk okd_X12_owns 0 rfl) (st' := fun v1 => [.int v1]) (fun _ => rfl) (fun v1 => ?_)
  refine s_jn (κ := Option (Int32)) (fun k2 => Jd C 4 (QJ C oI (fun _ => S)) S 22 [none, none, none, none] [] k2) ?_ (fun k2 h3 => ?_)
  · refine s_run X ok_X12_owns 8 1 (pc' := 23) (vs' := [none, none, none, none]) (st' := [.int 0]) rfl ?_
    exact s_zret0 X hr (dk okd_X12_owns 4 rfl) (by decide) rfl rfl
  · refine s_if_eq (tgt := 22) X (dk okd_X12_owns 1 rfl) (by decide) ?_ ?_
    · exact s_less [false, false, false, false] rfl (h3)
    · refine s_run X ok_X12_owns 2 3 (pc' := 11) (vs' := [some (.ref p0), some (.int p1), some (.int p2), some (.int p3)]) (st' := [.int p3, .int p2, .ref p0]) rfl ?_
      refine s_callV (rest := []) X E mv_X12_71 (c_X12_ownerOf S p0 p2 p3) (ta1 t0_) rfl (by decide) t0_ rfl rfl (Nat.le_of_ble_eq_true rfl) (Nat.le_of_ble_eq_true rfl) (Nat.le_of_ble_eq_true rfl) (dk okd_X12_owns 2 rfl) (st' := fun v4 => [.int v4]) (fun _ => rfl) (fun v4 => ?_)
      refine s_run X ok_X12_owns 5 1 (pc' := 15) (vs' := [some (.ref p0), some (.int p1), some (.int p2), some (.int p3)]) (st' := [.int p1, .int v4]) rfl ?_
      refine s_icmp_ne (tgt := 22) X (dk okd_X12_owns 3 rfl) (by decide) ?_ ?_
      · exact s_less [false, false, false, false] rfl (h3)
      · refine s_run X ok_X12_owns 6 2 (pc' := 23) (vs' := [some (.ref p0), some (.int p1), some (.int p2), some (.int p3)]) (st' := [.int 1]) rfl ?_
        exact s_zret0 X hr (dk okd_X12_owns 4 rfl) (by decide) rfl rfl
