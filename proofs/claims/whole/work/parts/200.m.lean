theorem cl_X0_74 : Cond.constantLong RX0 74 2 ∈ TT := TT_5 (i := 127) rfl rfl
theorem cl_X6_47 : Cond.constantLong RX6 47 (-1) ∈ TT := TT_4 (i := 228) rfl rfl
theorem cl_X6_53 : Cond.constantLong RX6 53 100 ∈ TT := TT_5 (i := 26) rfl rfl
theorem fl_X0_9 : FL RX0 9 0 0 2 := ⟨RX0, TX0, 7, rfl, by decide, uw_X0, TT_2 (i := 57) rfl rfl, rfl, rfl, by decide⟩
theorem fl_X0_15 : FL RX0 15 0 1 2 := ⟨RX0, TX0, 7, rfl, by decide, uw_X0, TT_2 (i := 58) rfl rfl, rfl, rfl, by decide⟩
theorem fl_X0_18 : FL RX0 18 0 2 2 := ⟨RX0, TX0, 7, rfl, by decide, uw_X0, TT_2 (i := 59) rfl rfl, rfl, rfl, by decide⟩
theorem fl_X0_21 : FL RX0 21 0 3 2 := ⟨RX0, TX0, 7, rfl, by decide, uw_X0, TT_2 (i := 60) rfl rfl, rfl, rfl, by decide⟩
theorem fl_X0_24 : FL RX0 24 0 4 2 := ⟨RX0, TX0, 7, rfl, by decide, uw_X0, TT_2 (i := 63) rfl rfl, rfl, rfl, by decide⟩
theorem fl_X0_27 : FL RX0 27 0 5 2 := ⟨RX0, TX0, 7, rfl, by decide, uw_X0, TT_2 (i := 64) rfl rfl, rfl, rfl, by decide⟩
theorem fl_X0_36 : FL RX0 36 0 6 0 := ⟨RX0, TX0, 7, rfl, by decide, uw_X0, TT_2 (i := 67) rfl rfl, rfl, rfl, by decide⟩
theorem fl_X2_9 : FL RX2 9 2 0 2 := ⟨RX2, TX2, 9, rfl, by decide, uw_X2, TT_1 (i := 218) rfl rfl, rfl, rfl, by decide⟩
theorem fl_X2_15 : FL RX2 15 2 1 2 := ⟨RX2, TX2, 9, rfl, by decide, uw_X2, TT_1 (i := 219) rfl rfl, rfl, rfl, by decide⟩
theorem fl_X2_25 : FL RX2 25 2 4 2 := ⟨RX2, TX2, 9, rfl, by decide, uw_X2, TT_1 (i := 226) rfl rfl, rfl, rfl, by decide⟩
theorem fl_X2_34 : FL RX2 34 2 7 2 := ⟨RX2, TX2, 9, rfl, by decide, uw_X2, TT_1 (i := 235) rfl rfl, rfl, rfl, by decide⟩
theorem fl_X2_44 : FL RX2 44 2 8 0 := ⟨RX2, TX2, 9, rfl, by decide, uw_X2, TT_1 (i := 239) rfl rfl, rfl, rfl, by decide⟩
theorem fl_X3_9 : FL RX3 9 3 0 2 := ⟨RX3, TX3, 4, rfl, by decide, uw_X3, TT_1 (i := 98) rfl rfl, rfl, rfl, by decide⟩
theorem fl_X3_15 : FL RX3 15 3 1 2 := ⟨RX3, TX3, 4, rfl, by decide, uw_X3, TT_1 (i := 99) rfl rfl, rfl, rfl, by decide⟩
theorem fl_X3_18 : FL RX3 18 3 2 2 := ⟨RX3, TX3, 4, rfl, by decide, uw_X3, TT_1 (i := 100) rfl rfl, rfl, rfl, by decide⟩
theorem fl_X3_57 : FL RX3 57 3 3 0 := ⟨RX3, TX3, 4, rfl, by decide, uw_X3, TT_1 (i := 101) rfl rfl, rfl, rfl, by decide⟩
theorem fl_X4_9 : FL RX4 9 4 0 2 := ⟨RX4, TX4, 2, rfl, by decide, uw_X4, TT_1 (i := 83) rfl rfl, rfl, rfl, by decide⟩
theorem fl_X4_15 : FL RX4 15 4 1 0 := ⟨RX4, TX4, 2, rfl, by decide, uw_X4, TT_1 (i := 85) rfl rfl, rfl, rfl, by decide⟩
theorem fl_X5_35 : FL RX5 35 5 7 0 := ⟨RX5, TX5, 9, rfl, by decide, uw_X5, TT_2 (i := 162) rfl rfl, rfl, rfl, by decide⟩
theorem fl_X5_39 : FL RX5 39 5 8 0 := ⟨RX5, TX5, 9, rfl, by decide, uw_X5, TT_2 (i := 163) rfl rfl, rfl, rfl, by decide⟩
theorem fl_X6_9 : FL RX6 9 6 0 2 := ⟨RX6, TX6, 5, rfl, by decide, uw_X6, TT_1 (i := 187) rfl rfl, rfl, rfl, by decide⟩
theorem fl_X6_15 : FL RX6 15 6 1 2 := ⟨RX6, TX6, 5, rfl, by decide, uw_X6, TT_1 (i := 190) rfl rfl, rfl, rfl, by decide⟩
theorem fl_X6_18 : FL RX6 18 6 2 2 := ⟨RX6, TX6, 5, rfl, by decide, uw_X6, TT_1 (i := 192) rfl rfl, rfl, rfl, by decide⟩
theorem fl_X6_21 : FL RX6 21 6 3 2 := ⟨RX6, TX6, 5, rfl, by decide, uw_X6, TT_1 (i := 194) rfl rfl, rfl, rfl, by decide⟩
theorem fl_X6_31 : FL RX6 31 6 4 0 := ⟨RX6, TX6, 5, rfl, by decide, uw_X6, TT_1 (i := 198) rfl rfl, rfl, rfl, by decide⟩
theorem fl_X8_15 : FL RX8 15 7 1 2 := ⟨RX8, TX8, 12, rfl, by decide, uw_X8, TT_1 (i := 126) rfl rfl, rfl, rfl, by decide⟩
theorem fl_X8_18 : FL RX8 18 7 2 2 := ⟨RX8, TX8, 12, rfl, by decide, uw_X8, TT_1 (i := 127) rfl rfl, rfl, rfl, by decide⟩
theorem fl_X8_22 : FL RX8 22 7 3 2 := ⟨RX8, TX8, 12, rfl, by decide, uw_X8, TT_1 (i := 128) rfl rfl, rfl, rfl, by decide⟩
theorem fl_X8_25 : FL RX8 25 7 4 0 := ⟨RX8, TX8, 12, rfl, by decide, uw_X8, TT_1 (i := 129) rfl rfl, rfl, rfl, by decide⟩
theorem fl_X9_9 : FL RX9 9 8 0 2 := ⟨RX9, TX9, 8, rfl, by decide, uw_X9, TT_1 (i := 42) rfl rfl, rfl, rfl, by decide⟩
theorem fl_X9_15 : FL RX9 15 8 1 0 := ⟨RX9, TX9, 8, rfl, by decide, uw_X9, TT_1 (i := 46) rfl rfl, rfl, rfl, by decide⟩
theorem fp_X3_57 : FP RX3 57 3 3 0 := ⟨RX3, TX3, 4, tyX3, tyX3 3, rfl, by decide, uw_X3, TT_1 (i := 101) rfl rfl, rfl, rfl, by decide, tyX3_ok, nmX3, rfl, tyX3_ok 3 (by decide), fun h => rfl, fun h => absurd h (by decide), fun h => absurd h (by decide)⟩
theorem fp_X4_15 : FP RX4 15 4 1 0 := ⟨RX4, TX4, 2, tyX4, tyX4 1, rfl, by decide, uw_X4, TT_1 (i := 85) rfl rfl, rfl, rfl, by decide, tyX4_ok, nmX4, rfl, tyX4_ok 1 (by decide), fun h => rfl, fun h => absurd h (by decide), fun h => absurd h (by decide)⟩
theorem fp_X5_35 : FP RX5 35 5 7 0 := ⟨RX5, TX5, 9, tyX5, tyX5 7, rfl, by decide, uw_X5, TT_2 (i := 162) rfl rfl, rfl, rfl, by decide, tyX5_ok, nmX5, rfl, tyX5_ok 7 (by decide), fun h => rfl, fun h => absurd h (by decide), fun h => absurd h (by decide)⟩
theorem fp_X5_39 : FP RX5 39 5 8 0 := ⟨RX5, TX5, 9, tyX5, tyX5 8, rfl, by decide, uw_X5, TT_2 (i := 163) rfl rfl, rfl, rfl, by decide, tyX5_ok, nmX5, rfl, tyX5_ok 8 (by decide), fun h => rfl, fun h => absurd h (by decide), fun h => absurd h (by decide)⟩
theorem fp_X6_31 : FP RX6 31 6 4 0 := ⟨RX6, TX6, 5, tyX6, tyX6 4, rfl, by decide, uw_X6, TT_1 (i := 198) rfl rfl, rfl, rfl, by decide, tyX6_ok, nmX6, rfl, tyX6_ok 4 (by decide), fun h => rfl, fun h => absurd h (by decide), fun h => absurd h (by decide)⟩
theorem fp_X8_25 : FP RX8 25 7 4 0 := ⟨RX8, TX8, 12, tyX8, tyX8 4, rfl, by decide, uw_X8, TT_1 (i := 129) rfl rfl, rfl, rfl, by decide, tyX8_ok, nmX8, rfl, tyX8_ok 4 (by decide), fun h => rfl, fun h => absurd h (by decide), fun h => absurd h (by decide)⟩
theorem fp_X8_29 : FP RX8 29 7 5 0 := ⟨RX8, TX8, 12, tyX8, tyX8 5, rfl, by decide, uw_X8, TT_1 (i := 132) rfl rfl, rfl, rfl, by decide, tyX8_ok, nmX8, rfl, tyX8_ok 5 (by decide), fun h => rfl, fun h => absurd h (by decide), fun h => absurd h (by decide)⟩
theorem fp_X8_32 : FP RX8 32 7 6 1 := ⟨RX8, TX8, 12, tyX8, tyX8 6, rfl, by decide, uw_X8, TT_1 (i := 135) rfl rfl, rfl, rfl, by decide, tyX8_ok, nmX8, rfl, tyX8_ok 6 (by decide), fun h => absurd h (by decide), fun h => rfl, fun h => absurd h (by decide)⟩
theorem fp_X8_36 : FP RX8 36 7 7 0 := ⟨RX8, TX8, 12, tyX8, tyX8 7, rfl, by decide, uw_X8, TT_1 (i := 138) rfl rfl, rfl, rfl, by decide, tyX8_ok, nmX8, rfl, tyX8_ok 7 (by decide), fun h => rfl, fun h => absurd h (by decide), fun h => absurd h (by decide)⟩
theorem fp_X8_39 : FP RX8 39 7 8 0 := ⟨RX8, TX8, 12, tyX8, tyX8 8, rfl, by decide, uw_X8, TT_1 (i := 141) rfl rfl, rfl, rfl, by decide, tyX8_ok, nmX8, rfl, tyX8_ok 8 (by decide), fun h => rfl, fun h => absurd h (by decide), fun h => absurd h (by decide)⟩
theorem fp_X8_42 : FP RX8 42 7 9 1 := ⟨RX8, TX8, 12, tyX8, tyX8 9, rfl, by decide, uw_X8, TT_1 (i := 144) rfl rfl, rfl, rfl, by decide, tyX8_ok, nmX8, rfl, tyX8_ok 9 (by decide), fun h => absurd h (by decide), fun h => rfl, fun h => absurd h (by decide)⟩
theorem fp_X8_45 : FP RX8 45 7 10 0 := ⟨RX8, TX8, 12, tyX8, tyX8 10, rfl, by decide, uw_X8, TT_1 (i := 147) rfl rfl, rfl, rfl, by decide, tyX8_ok, nmX8, rfl, tyX8_ok 10 (by decide), fun h => rfl, fun h => absurd h (by decide), fun h => absurd h (by decide)⟩
theorem fp_X8_48 : FP RX8 48 7 11 0 := ⟨RX8, TX8, 12, tyX8, tyX8 11, rfl, by decide, uw_X8, TT_1 (i := 150) rfl rfl, rfl, rfl, by decide, tyX8_ok, nmX8, rfl, tyX8_ok 11 (by decide), fun h => rfl, fun h => absurd h (by decide), fun h => absurd h (by decide)⟩
theorem fp_X9_15 : FP RX9 15 8 1 0 := ⟨RX9, TX9, 8, tyX9, tyX9 1, rfl, by decide, uw_X9, TT_1 (i := 46) rfl rfl, rfl, rfl, by decide, tyX9_ok, nmX9, rfl, tyX9_ok 1 (by decide), fun h => rfl, fun h => absurd h (by decide), fun h => absurd h (by decide)⟩
theorem ms_X0_55 : MS RX0 55 yX0_rowOf cX0_rowOf 2 (some .int) 2 := ⟨TT_4 (i := 55) rfl rfl, TT_4 (i := 56) rfl rfl, TT_1 (i := 10) rfl rfl, TT_4 (i := 57) rfl rfl, ⟨by decide, by decide, by decide +kernel⟩⟩
theorem ms_X3_39 : MS RX3 39 yX3_contains cX3_contains 2 (some .boolean) 2 := ⟨TT_3 (i := 148) rfl rfl, TT_3 (i := 149) rfl rfl, TT_1 (i := 4) rfl rfl, TT_3 (i := 150) rfl rfl, ⟨by decide, by decide, by decide +kernel⟩⟩
theorem mv_X0_66 : MV RX0 66 yX0_salesIn cX0_salesIn 3 (some .long) 2 := ⟨TT_4 (i := 51) rfl rfl, TT_4 (i := 52) rfl rfl, TT_4 (i := 53) rfl rfl, TT_1 (i := 10) rfl rfl, TT_4 (i := 54) rfl rfl, ⟨by decide, by decide, by decide +kernel⟩⟩
theorem mv_X0_70 : MV RX0 70 yX0_allContributed cX0_allContributed 4 (some .long) 0 := ⟨TT_4 (i := 81) rfl rfl, TT_4 (i := 83) rfl rfl, TT_s (i := 9) (by decide +kernel) (by decide +kernel), TT_1 (i := 10) rfl rfl, TT_4 (i := 84) rfl rfl, ⟨by decide, by decide, by decide +kernel⟩⟩
theorem mv_X0_76 : MV RX0 76 yX0_fundLeft cX0_fundLeft 1 (some .long) 0 := ⟨TT_5 (i := 12) rfl rfl, TT_4 (i := 78) rfl rfl, TT_4 (i := 79) rfl rfl, TT_1 (i := 10) rfl rfl, TT_4 (i := 80) rfl rfl, ⟨by decide, by decide, by decide +kernel⟩⟩
theorem mv_X0_79 : MV RX0 79 yX0_allowanceLeft cX0_allowanceLeft 2 (some .long) 1 := ⟨TT_5 (i := 123) rfl rfl, TT_5 (i := 124) rfl rfl, TT_5 (i := 125) rfl rfl, TT_1 (i := 10) rfl rfl, TT_5 (i := 126) rfl rfl, ⟨by decide, by decide, by decide +kernel⟩⟩
theorem mv_X2_48 : MV RX2 48 yX2_has cX2_has 2 (some .boolean) 1 := ⟨TT_5 (i := 0) rfl rfl, TT_5 (i := 1) rfl rfl, TT_5 (i := 2) rfl rfl, TT_1 (i := 8) rfl rfl, TT_5 (i := 3) rfl rfl, ⟨by decide, by decide, by decide +kernel⟩⟩
theorem mv_X3_43 : MV RX3 43 yX3_ownerAt cX3_ownerAt 3 (some .int) 2 := ⟨TT_3 (i := 144) rfl rfl, TT_3 (i := 145) rfl rfl, TT_3 (i := 146) rfl rfl, TT_1 (i := 4) rfl rfl, TT_3 (i := 147) rfl rfl, ⟨by decide, by decide, by decide +kernel⟩⟩
theorem mv_X3_47 : MV RX3 47 yX3_belongs cX3_belongs 4 (some .boolean) 3 := ⟨TT_3 (i := 155) rfl rfl, TT_3 (i := 157) rfl rfl, TT_s (i := 3) (by decide +kernel) (by decide +kernel), TT_1 (i := 4) rfl rfl, TT_3 (i := 158) rfl rfl, ⟨by decide, by decide, by decide +kernel⟩⟩
def tab_X0_hasOpenMonth : List En := [(0, 8, 0, 0), (7, 8, 0, 0), (11, 1, 0, 60), (16, 0, 0, 1), (17, 41, 21, 0), (20, 0, 0, 0)]
theorem ok_X0_hasOpenMonth : tab_X0_hasOpenMonth.all (okE cX0_hasOpenMonth) = true := by decide +kernel
def ed_X0_hasOpenMonth : List (Nat × Instr × Nat) := [(1, .getfield 36, 3), (4, .ifCond .lt 16, 3), (8, .getfield 36, 3), (13, .if_icmp .ge 7, 3), (21, .ireturn, 1)]
theorem okd_X0_hasOpenMonth : ed_X0_hasOpenMonth.all (okD cX0_hasOpenMonth) = true := by decide +kernel
def f_X0_hasOpenMonth (S : St) (p0 : Nat) : Option (Int32) := lt (gI S p0 6) fun (v1 : Int32) => jn (κ := Option (Int32)) (some 0) fun k2 => if v1 < 0 then (k2) else (lt (gI S p0 6) fun (v4 : Int32) => if 60 ≤ v4 then (k2) else (some 1))
set_option maxHeartbeats 4000000 in
set_option maxRecDepth 100000 in
theorem c_X0_hasOpenMonth (S : St) (p0 : Nat) : Ct yX0_hasOpenMonth cX0_hasOpenMonth 1 (some .boolean) 0 0 [.ref p0] [(p0, 0)] S (f_X0_hasOpenMonth S p0) oI (fun _ => S) := by
  refine Ct_of RX0 rfl (by decide) (Nat.le_of_ble_eq_true rfl) 0 (vs := [some (.ref p0)]) rfl (fun C X E hr ht => ?_)
  have t0_ : tT C p0 0 := ht (p0, 0) (by simp)
  unfold f_X0_hasOpenMonth
  refine s_run X ok_X0_hasOpenMonth 0 1 (pc' := 1) (vs' := [some (.ref p0)]) (st' := [.ref p0]) rfl ?_
  refine s_getI X fl_X0_36 t0_ (dk okd_X0_hasOpenMonth 0 rfl) (fun v1 => ?_)
  refine s_jn (κ := Option (Int32)) (fun k2 => Jd C 1 (QJ C oI (fun _ => S)) S 20 [none] [] k2) ?_ (fun k2 h3 => ?_)
  · refine s_run X ok_X0_hasOpenMonth 5 1 (pc' := 21) (vs' := [none]) (st' := [.int 0]) rfl ?_
    exact s_zret0 X hr (dk okd_X0_hasOpenMonth 4 rfl) (by decide) rfl rfl
  · refine s_if_lt (tgt := 20) X (dk okd_X0_hasOpenMonth 1 rfl) (by decide) ?_ ?_
    · exact s_less [false] rfl (h3)
    · refine s_run X ok_X0_hasOpenMonth 1 1 (pc' := 8) (vs' := [some (.ref p0)]) (st' := [.ref p0]) rfl ?_
      refine s_getI X fl_X0_36 t0_ (dk okd_X0_hasOpenMonth 2 rfl) (fun v4 => ?_)
      refine s_run X ok_X0_hasOpenMonth 2 1 (pc' := 13) (vs' := [some (.ref p0)]) (st' := [.int 60, .int v4]) rfl ?_
      refine s_icmp_ge (tgt := 20) X (dk okd_X0_hasOpenMonth 3 rfl) (by decide) ?_ ?_
      · exact s_less [false] rfl (h3)
      · refine s_run X ok_X0_hasOpenMonth 3 2 (pc' := 21) (vs' := [some (.ref p0)]) (st' := [.int 1]) rfl ?_
        exact s_zret0 X hr (dk okd_X0_hasOpenMonth 4 rfl) (by decide) rfl rfl
def tab_X0_rowOf : List En := [(0, 4, 1, 0), (1, 1, 0, 8), (3, 19, 0, 0), (4, 4, 0, 0), (5, 17, 0, 0)]
theorem ok_X0_rowOf : tab_X0_rowOf.all (okE cX0_rowOf) = true := by decide +kernel
def ed_X0_rowOf : List (Nat × Instr × Nat) := [(6, .ireturn, 1)]
theorem okd_X0_rowOf : ed_X0_rowOf.all (okD cX0_rowOf) = true := by decide +kernel
def f_X0_rowOf (S : St) (p0 : Int32) (p1 : Int32) : Option (Int32) := some ((p1 * 8) + p0)
set_option maxHeartbeats 4000000 in
set_option maxRecDepth 100000 in
theorem c_X0_rowOf (S : St) (p0 : Int32) (p1 : Int32) : Ct yX0_rowOf cX0_rowOf 2 (some .int) 0 0 [.int p0, .int p1] [] S (f_X0_rowOf S p0 p1) oI (fun _ => S) := by
  refine Ct_of RX0 rfl (by decide) (Nat.le_of_ble_eq_true rfl) 0 (vs := [some (.int p0), some (.int p1)]) rfl (fun C X E hr ht => ?_)
  unfold f_X0_rowOf
  refine s_run X ok_X0_rowOf 0 5 (pc' := 6) (vs' := [some (.int p0), some (.int p1)]) (st' := [.int ((p1 * 8) + p0)]) rfl ?_
  exact s_iret X hr (dk okd_X0_rowOf 0 rfl) rfl rfl
def tab_X0_salesIn : List En := [(0, 8, 0, 0), (4, 4, 1, 0), (5, 4, 2, 0)]
theorem ok_X0_salesIn : tab_X0_salesIn.all (okE cX0_salesIn) = true := by decide +kernel
def ed_X0_salesIn : List (Nat × Instr × Nat) := [(1, .getfield 9, 3), (6, .invokestatic 55, 3), (9, .laload, 1), (10, .lreturn, 1)]
theorem okd_X0_salesIn : ed_X0_salesIn.all (okD cX0_salesIn) = true := by decide +kernel
def f_X0_salesIn (S : St) (p0 : Nat) (p1 : Int32) (p2 : Int32) : Option (Int64) := lt (gR S p0 0) fun (a1 : Nat) => cl (f_X0_rowOf S p1 p2) fun (v3 : Int32) => ldJ S a1 v3 fun (v4 : Int64) => some v4
set_option maxHeartbeats 4000000 in
set_option maxRecDepth 100000 in
theorem c_X0_salesIn (S : St) (p0 : Nat) (p1 : Int32) (p2 : Int32) : Ct yX0_salesIn cX0_salesIn 3 (some .long) 1 21 [.ref p0, .int p1, .int p2] [(p0, 0)] S (f_X0_salesIn S p0 p1 p2) oL (fun _ => S) := by
  refine Ct_of RX0 rfl (by decide) (Nat.le_of_ble_eq_true rfl) 0 (vs := [some (.ref p0), some (.int p1), some (.int p2)]) rfl (fun C X E hr ht => ?_)
  have t0_ : tT C p0 0 := ht (p0, 0) (by simp)
  unfold f_X0_salesIn
  refine s_run X ok_X0_salesIn 0 1 (pc' := 1) (vs' := [some (.ref p0), some (.int p1), some (.int p2)]) (st' := [.ref p0]) rfl ?_
  refine s_getR X fl_X0_9 t0_ (dk okd_X0_salesIn 0 rfl) (fun a1 (t2 : tT C a1 14) => ?_)
  refine s_run X ok_X0_salesIn 1 2 (pc' := 6) (vs' := [some (.ref p0), some (.int p1), some (.int p2)]) (st' := [.int p2, .int p1, .ref a1]) rfl ?_
  refine s_callS (rest := [.ref a1]) X E ms_X0_55 (c_X0_rowOf S p1 p2) (ta0) rfl rfl (Nat.le_of_ble_eq_true rfl) (Nat.le_of_ble_eq_true rfl) (Nat.le_of_ble_eq_true rfl) (dk okd_X0_salesIn 1 rfl) (st' := fun v3 => [.int v3, .ref a1]) (fun _ => rfl) (fun v3 => ?_)
  refine s_lald X t2 (dk okd_X0_salesIn 2 rfl) (fun v4 => ?_)
  exact s_lret X hr (dk okd_X0_salesIn 3 rfl) rfl rfl
def tab_X0_invoicePart : List En := [(0, 8, 0, 0), (4, 4, 1, 0), (5, 4, 2, 0), (9, 1, 0, 7), (11, 19, 0, 0), (12, 4, 3, 0), (13, 17, 0, 0)]
theorem ok_X0_invoicePart : tab_X0_invoicePart.all (okE cX0_invoicePart) = true := by decide +kernel
def ed_X0_invoicePart : List (Nat × Instr × Nat) := [(1, .getfield 15, 3), (6, .invokestatic 55, 3), (14, .laload, 1), (15, .lreturn, 1)]
theorem okd_X0_invoicePart : ed_X0_invoicePart.all (okD cX0_invoicePart) = true := by decide +kernel
def f_X0_invoicePart (S : St) (p0 : Nat) (p1 : Int32) (p2 : Int32) (p3 : Int32) : Option (Int64) := lt (gR S p0 1) fun (a1 : Nat) => cl (f_X0_rowOf S p1 p2) fun (v3 : Int32) => ldJ S a1 ((v3 * 7) + p3) fun (v4 : Int64) => some v4
set_option maxHeartbeats 4000000 in
set_option maxRecDepth 100000 in
theorem c_X0_invoicePart (S : St) (p0 : Nat) (p1 : Int32) (p2 : Int32) (p3 : Int32) : Ct yX0_invoicePart cX0_invoicePart 4 (some .long) 1 21 [.ref p0, .int p1, .int p2, .int p3] [(p0, 0)] S (f_X0_invoicePart S p0 p1 p2 p3) oL (fun _ => S) := by
  refine Ct_of RX0 rfl (by decide) (Nat.le_of_ble_eq_true rfl) 0 (vs := [some (.ref p0), some (.int p1), some (.int p2), some (.int p3)]) rfl (fun C X E hr ht => ?_)
  have t0_ : tT C p0 0 := ht (p0, 0) (by simp)
  unfold f_X0_invoicePart
  refine s_run X ok_X0_invoicePart 0 1 (pc' := 1) (vs' := [some (.ref p0), some (.int p1), some (.int p2), some (.int p3)]) (st' := [.ref p0]) rfl ?_
  refine s_getR X fl_X0_15 t0_ (dk okd_X0_invoicePart 0 rfl) (fun a1 (t2 : tT C a1 14) => ?_)
  refine s_run X ok_X0_invoicePart 1 2 (pc' := 6) (vs' := [some (.ref p0), some (.int p1), some (.int p2), some (.int p3)]) (st' := [.int p2, .int p1, .ref a1]) rfl ?_
  refine s_callS (rest := [.ref a1]) X E ms_X0_55 (c_X0_rowOf S p1 p2) (ta0) rfl rfl (Nat.le_of_ble_eq_true rfl) (Nat.le_of_ble_eq_true rfl) (Nat.le_of_ble_eq_true rfl) (dk okd_X0_invoicePart 1 rfl) (st' := fun v3 => [.int v3, .ref a1]) (fun _ => rfl) (fun v3 => ?_)
  refine s_run X ok_X0_invoicePart 3 4 (pc' := 14) (vs' := [some (.ref p0), some (.int p1), some (.int p2), some (.int p3)]) (st' := [.int ((v3 * 7) + p3), .ref a1]) rfl ?_
  refine s_lald X t2 (dk okd_X0_invoicePart 2 rfl) (fun v4 => ?_)
  exact s_lret X hr (dk okd_X0_invoicePart 3 rfl) rfl rfl
def tab_X0_enterBalance : List En := [(0, 8, 0, 0), (4, 4, 1, 0), (5, 8, 0, 0), (12, 1, 0, 7), (14, 19, 0, 0), (15, 1, 0, 6), (17, 17, 0, 0), (18, 6, 2, 0)]
theorem ok_X0_enterBalance : tab_X0_enterBalance.all (okE cX0_enterBalance) = true := by decide +kernel
def ed_X0_enterBalance : List (Nat × Instr × Nat) := [(1, .getfield 15, 3), (6, .getfield 36, 3), (9, .invokestatic 55, 3), (19, .lastore, 1), (20, .return_, 1)]
theorem okd_X0_enterBalance : ed_X0_enterBalance.all (okD cX0_enterBalance) = true := by decide +kernel
def f_X0_enterBalance (S : St) (p0 : Nat) (p1 : Int32) (p2 : Int64) : Option (St) := lt (gR S p0 1) fun (a1 : Nat) => lt (gI S p0 6) fun (v3 : Int32) => cl (f_X0_rowOf S p1 v3) fun (v4 : Int32) => stJ S a1 ((v4 * 7) + 6) p2 fun (S5 : St) => some S5
set_option maxHeartbeats 4000000 in
set_option maxRecDepth 100000 in
theorem c_X0_enterBalance (S : St) (p0 : Nat) (p1 : Int32) (p2 : Int64) : Ct yX0_enterBalance cX0_enterBalance 4 none 1 21 [.ref p0, .int p1, .long p2] [(p0, 0)] S (f_X0_enterBalance S p0 p1 p2) oV sV := by
  refine Ct_of RX0 rfl (by decide) (Nat.le_of_ble_eq_true rfl) 0 (vs := [some (.ref p0), some (.int p1), some (.long p2), none]) rfl (fun C X E hr ht => ?_)
  have t0_ : tT C p0 0 := ht (p0, 0) (by simp)
  unfold f_X0_enterBalance
  refine s_run X ok_X0_enterBalance 0 1 (pc' := 1) (vs' := [some (.ref p0), some (.int p1), some (.long p2), none]) (st' := [.ref p0]) rfl ?_
  refine s_getR X fl_X0_15 t0_ (dk okd_X0_enterBalance 0 rfl) (fun a1 (t2 : tT C a1 14) => ?_)
  refine s_run X ok_X0_enterBalance 1 2 (pc' := 6) (vs' := [some (.ref p0), some (.int p1), some (.long p2), none]) (st' := [.ref p0, .int p1, .ref a1]) rfl ?_
  refine s_getI X fl_X0_36 t0_ (dk okd_X0_enterBalance 1 rfl) (fun v3 => ?_)
  refine s_callS (rest := [.ref a1]) X E ms_X0_55 (c_X0_rowOf S p1 v3) (ta0) rfl rfl (Nat.le_of_ble_eq_true rfl) (Nat.le_of_ble_eq_true rfl) (Nat.le_of_ble_eq_true rfl) (dk okd_X0_enterBalance 2 rfl) (st' := fun v4 => [.int v4, .ref a1]) (fun _ => rfl) (fun v4 => ?_)
  refine s_run X ok_X0_enterBalance 3 5 (pc' := 19) (vs' := [some (.ref p0), some (.int p1), some (.long p2), none]) (st' := [.long p2, .int ((v4 * 7) + 6), .ref a1]) rfl ?_
  refine s_last X t2 (dk okd_X0_enterBalance 3 rfl) (fun S5 => ?_)
  exact s_vret X hr (dk okd_X0_enterBalance 4 rfl) rfl rfl
def tab_X0_enterSales : List En := [(0, 8, 0, 0), (4, 4, 1, 0), (5, 8, 0, 0), (12, 6, 2, 0)]
theorem ok_X0_enterSales : tab_X0_enterSales.all (okE cX0_enterSales) = true := by decide +kernel
def ed_X0_enterSales : List (Nat × Instr × Nat) := [(1, .getfield 9, 3), (6, .getfield 36, 3), (9, .invokestatic 55, 3), (13, .lastore, 1), (14, .return_, 1)]
theorem okd_X0_enterSales : ed_X0_enterSales.all (okD cX0_enterSales) = true := by decide +kernel
def f_X0_enterSales (S : St) (p0 : Nat) (p1 : Int32) (p2 : Int64) : Option (St) := lt (gR S p0 0) fun (a1 : Nat) => lt (gI S p0 6) fun (v3 : Int32) => cl (f_X0_rowOf S p1 v3) fun (v4 : Int32) => stJ S a1 v4 p2 fun (S5 : St) => some S5
set_option maxHeartbeats 4000000 in
set_option maxRecDepth 100000 in
theorem c_X0_enterSales (S : St) (p0 : Nat) (p1 : Int32) (p2 : Int64) : Ct yX0_enterSales cX0_enterSales 4 none 1 21 [.ref p0, .int p1, .long p2] [(p0, 0)] S (f_X0_enterSales S p0 p1 p2) oV sV := by
  refine Ct_of RX0 rfl (by decide) (Nat.le_of_ble_eq_true rfl) 0 (vs := [some (.ref p0), some (.int p1), some (.long p2), none]) rfl (fun C X E hr ht => ?_)
  have t0_ : tT C p0 0 := ht (p0, 0) (by simp)
  unfold f_X0_enterSales
  refine s_run X ok_X0_enterSales 0 1 (pc' := 1) (vs' := [some (.ref p0), some (.int p1), some (.long p2), none]) (st' := [.ref p0]) rfl ?_
  refine s_getR X fl_X0_9 t0_ (dk okd_X0_enterSales 0 rfl) (fun a1 (t2 : tT C a1 14) => ?_)
  refine s_run X ok_X0_enterSales 1 2 (pc' := 6) (vs' := [some (.ref p0), some (.int p1), some (.long p2), none]) (st' := [.ref p0, .int p1, .ref a1]) rfl ?_
  refine s_getI X fl_X0_36 t0_ (dk okd_X0_enterSales 1 rfl) (fun v3 => ?_)
  refine s_callS (rest := [.ref a1]) X E ms_X0_55 (c_X0_rowOf S p1 v3) (ta0) rfl rfl (Nat.le_of_ble_eq_true rfl) (Nat.le_of_ble_eq_true rfl) (Nat.le_of_ble_eq_true rfl) (dk okd_X0_enterSales 2 rfl) (st' := fun v4 => [.int v4, .ref a1]) (fun _ => rfl) (fun v4 => ?_)
  refine s_run X ok_X0_enterSales 3 1 (pc' := 13) (vs' := [some (.ref p0), some (.int p1), some (.long p2), none]) (st' := [.long p2, .int v4, .ref a1]) rfl ?_
  refine s_last X t2 (dk okd_X0_enterSales 3 rfl) (fun S5 => ?_)
  exact s_vret X hr (dk okd_X0_enterSales 4 rfl) rfl rfl
def tab_X0_salesOfAllMonths : List En := [(0, 3, 0, 0), (1, 12, 2, 0), (2, 0, 0, 0), (3, 11, 4, 0), (5, 5, 4, 0), (7, 8, 0, 0), (14, 6, 2, 0), (15, 8, 0, 0), (16, 4, 1, 0), (17, 5, 4, 0), (22, 23, 0, 0), (23, 12, 2, 0), (24, 16, 4, 1), (27, 41, 5, 0), (30, 6, 2, 0)]
theorem ok_X0_salesOfAllMonths : tab_X0_salesOfAllMonths.all (okE cX0_salesOfAllMonths) = true := by decide +kernel
def ed_X0_salesOfAllMonths : List (Nat × Instr × Nat) := [(8, .getfield 36, 3), (11, .if_icmp .ge 19, 3), (19, .invokevirtual 66, 3), (31, .lreturn, 1)]
theorem okd_X0_salesOfAllMonths : ed_X0_salesOfAllMonths.all (okD cX0_salesOfAllMonths) = true := by decide +kernel
def f_X0_salesOfAllMonths (S : St) (p0 : Nat) (p1 : Int32) : Option (Int64) := jn (κ := Int64 → Option (Int64)) (fun x1 => some x1) fun k2 => lp (κ := Int64 → Int32 → Option (Int64)) (fun _ _ => none) (fun k6 x4 x5 => lt (gI S p0 6) fun (v8 : Int32) => if v8 ≤ x5 then (k2 x4) else (cl (f_X0_salesIn S p0 p1 x5) fun (v9 : Int64) => lt (x4 + v9) fun (v10 : Int64) => k6 v10 (x5 + 1))) FU 0 0
set_option maxHeartbeats 4000000 in
set_option maxRecDepth 100000 in
theorem c_X0_salesOfAllMonths (S : St) (p0 : Nat) (p1 : Int32) : Ct yX0_salesOfAllMonths cX0_salesOfAllMonths 5 (some .long) 2 43 [.ref p0, .int p1] [(p0, 0)] S (f_X0_salesOfAllMonths S p0 p1) oL (fun _ => S) := by
  refine Ct_of RX0 rfl (by decide) (Nat.le_of_ble_eq_true rfl) 3 (vs := [some (.ref p0), some (.int p1), none, none, none]) rfl (fun C X E hr ht => ?_)
  have t0_ : tT C p0 0 := ht (p0, 0) (by simp)
  unfold f_X0_salesOfAllMonths
  refine s_run X ok_X0_salesOfAllMonths 0 4 (pc' := 5) (vs' := [some (.ref p0), some (.int p1), some (.long 0), none, some (.int 0)]) (st' := []) rfl ?_
  refine s_jn (κ := Int64 → Option (Int64)) (fun k2 => ∀ (x1 : Int64), Jd C 5 (QJ C oL (fun _ => S)) S 30 [none, none, some (.long x1), none, none] [] (k2 x1)) (fun x1 => ?_) (fun k2 h3 => ?_)
  · refine s_run X ok_X0_salesOfAllMonths 14 1 (pc' := 31) (vs' := [none, none, some (.long x1), none, none]) (st' := [.long x1]) rfl ?_
    exact s_lret X hr (dk okd_X0_salesOfAllMonths 3 rfl) rfl rfl
  · refine s_lp (κ := Int64 → Int32 → Option (Int64)) (fun k6 => ∀ (x4 : Int64) (x5 : Int32), Jd C 5 (QJ C oL (fun _ => S)) S 5 [some (.ref p0), some (.int p1), some (.long x4), none, some (.int x5)] [] (k6 x4 x5)) (fun _ _ => s_none) (fun k6 h7 x4 x5 => ?_) FU 0 0
    refine s_run X ok_X0_salesOfAllMonths 4 2 (pc' := 8) (vs' := [some (.ref p0), some (.int p1), some (.long x4), none, some (.int x5)]) (st' := [.ref p0, .int x5]) rfl ?_
    refine s_getI X fl_X0_36 t0_ (dk okd_X0_salesOfAllMonths 0 rfl) (fun v8 => ?_)
    refine s_icmp_ge (tgt := 30) X (dk okd_X0_salesOfAllMonths 1 rfl) (by decide) ?_ ?_
    · exact s_less [false, false, true, false, false] rfl (h3 x4)
    · refine s_run X ok_X0_salesOfAllMonths 6 4 (pc' := 19) (vs' := [some (.ref p0), some (.int p1), some (.long x4), none, some (.int x5)]) (st' := [.int x5, .int p1, .ref p0, .long x4]) rfl ?_
      refine s_callV (rest := [.long x4]) X E mv_X0_66 (c_X0_salesIn S p0 p1 x5) (ta1 t0_) rfl (by decide) t0_ rfl rfl (Nat.le_of_ble_eq_true rfl) (Nat.le_of_ble_eq_true rfl) (Nat.le_of_ble_eq_true rfl) (dk okd_X0_salesOfAllMonths 2 rfl) (st' := fun v9 => [.long v9, .long x4]) (fun _ => rfl) (fun v9 => ?_)
      refine s_run X ok_X0_salesOfAllMonths 10 1 (pc' := 23) (vs' := [some (.ref p0), some (.int p1), some (.long x4), none, some (.int x5)]) (st' := [.long (x4 + v9)]) rfl ?_
      refine s_nmJ (fun v10 => ?_)
      refine s_run X ok_X0_salesOfAllMonths 11 3 (pc' := 5) (vs' := [some (.ref p0), some (.int p1), some (.long v10), none, some (.int (x5 + 1))]) (st' := []) rfl ?_
      exact h7 v10 (x5 + 1)
def tab_X0_delivered : List En := [(0, 8, 0, 0), (4, 4, 1, 0), (5, 1, 0, 8), (7, 19, 0, 0), (8, 4, 2, 0), (9, 17, 0, 0)]
theorem ok_X0_delivered : tab_X0_delivered.all (okE cX0_delivered) = true := by decide +kernel
def ed_X0_delivered : List (Nat × Instr × Nat) := [(1, .getfield 18, 3), (10, .laload, 1), (11, .lreturn, 1)]
theorem okd_X0_delivered : ed_X0_delivered.all (okD cX0_delivered) = true := by decide +kernel
def f_X0_delivered (S : St) (p0 : Nat) (p1 : Int32) (p2 : Int32) : Option (Int64) := lt (gR S p0 2) fun (a1 : Nat) => ldJ S a1 ((p1 * 8) + p2) fun (v3 : Int64) => some v3
set_option maxHeartbeats 4000000 in
set_option maxRecDepth 100000 in
theorem c_X0_delivered (S : St) (p0 : Nat) (p1 : Int32) (p2 : Int32) : Ct yX0_delivered cX0_delivered 3 (some .long) 0 0 [.ref p0, .int p1, .int p2] [(p0, 0)] S (f_X0_delivered S p0 p1 p2) oL (fun _ => S) := by
  refine Ct_of RX0 rfl (by decide) (Nat.le_of_ble_eq_true rfl) 0 (vs := [some (.ref p0), some (.int p1), some (.int p2)]) rfl (fun C X E hr ht => ?_)
  have t0_ : tT C p0 0 := ht (p0, 0) (by simp)
  unfold f_X0_delivered
  refine s_run X ok_X0_delivered 0 1 (pc' := 1) (vs' := [some (.ref p0), some (.int p1), some (.int p2)]) (st' := [.ref p0]) rfl ?_
  refine s_getR X fl_X0_18 t0_ (dk okd_X0_delivered 0 rfl) (fun a1 (t2 : tT C a1 14) => ?_)
  refine s_run X ok_X0_delivered 1 5 (pc' := 10) (vs' := [some (.ref p0), some (.int p1), some (.int p2)]) (st' := [.int ((p1 * 8) + p2), .ref a1]) rfl ?_
  refine s_lald X t2 (dk okd_X0_delivered 1 rfl) (fun v3 => ?_)
  exact s_lret X hr (dk okd_X0_delivered 2 rfl) rfl rfl
def tab_X0_addDelivered : List En := [(0, 8, 0, 0), (4, 4, 1, 0), (5, 1, 0, 8), (7, 19, 0, 0), (8, 4, 2, 0), (9, 17, 0, 0), (10, 37, 0, 0), (12, 6, 3, 0), (13, 23, 0, 0)]
theorem ok_X0_addDelivered : tab_X0_addDelivered.all (okE cX0_addDelivered) = true := by decide +kernel
def ed_X0_addDelivered : List (Nat × Instr × Nat) := [(1, .getfield 18, 3), (11, .laload, 1), (14, .lastore, 1), (15, .return_, 1)]
theorem okd_X0_addDelivered : ed_X0_addDelivered.all (okD cX0_addDelivered) = true := by decide +kernel
def f_X0_addDelivered (S : St) (p0 : Nat) (p1 : Int32) (p2 : Int32) (p3 : Int64) : Option (St) := lt (gR S p0 2) fun (a1 : Nat) => ldJ S a1 ((p1 * 8) + p2) fun (v3 : Int64) => stJ S a1 ((p1 * 8) + p2) (v3 + p3) fun (S4 : St) => some S4
set_option maxHeartbeats 4000000 in
set_option maxRecDepth 100000 in
theorem c_X0_addDelivered (S : St) (p0 : Nat) (p1 : Int32) (p2 : Int32) (p3 : Int64) : Ct yX0_addDelivered cX0_addDelivered 5 none 0 0 [.ref p0, .int p1, .int p2, .long p3] [(p0, 0)] S (f_X0_addDelivered S p0 p1 p2 p3) oV sV := by
  refine Ct_of RX0 rfl (by decide) (Nat.le_of_ble_eq_true rfl) 0 (vs := [some (.ref p0), some (.int p1), some (.int p2), some (.long p3), none]) rfl (fun C X E hr ht => ?_)
  have t0_ : tT C p0 0 := ht (p0, 0) (by simp)
  unfold f_X0_addDelivered
  refine s_run X ok_X0_addDelivered 0 1 (pc' := 1) (vs' := [some (.ref p0), some (.int p1), some (.int p2), some (.long p3), none]) (st' := [.ref p0]) rfl ?_
  refine s_getR X fl_X0_18 t0_ (dk okd_X0_addDelivered 0 rfl) (fun a1 (t2 : tT C a1 14) => ?_)
  refine s_run X ok_X0_addDelivered 1 6 (pc' := 11) (vs' := [some (.ref p0), some (.int p1), some (.int p2), some (.long p3), none]) (st' := [.int ((p1 * 8) + p2), .ref a1, .int ((p1 * 8) + p2), .ref a1]) rfl ?_
  refine s_lald X t2 (dk okd_X0_addDelivered 1 rfl) (fun v3 => ?_)
  refine s_run X ok_X0_addDelivered 7 2 (pc' := 14) (vs' := [some (.ref p0), some (.int p1), some (.int p2), some (.long p3), none]) (st' := [.long (v3 + p3), .int ((p1 * 8) + p2), .ref a1]) rfl ?_
  refine s_last X t2 (dk okd_X0_addDelivered 2 rfl) (fun S4 => ?_)
  exact s_vret X hr (dk okd_X0_addDelivered 3 rfl) rfl rfl
def tab_X0_allContributed : List En := [(0, 3, 0, 0), (1, 12, 1, 0), (2, 0, 0, 0), (3, 10, 3, 0), (4, 4, 3, 0), (5, 1, 0, 8), (10, 6, 1, 0), (11, 8, 0, 0), (15, 4, 3, 0), (17, 23, 0, 0), (18, 12, 1, 0), (19, 16, 3, 1), (22, 41, 4, 0), (25, 6, 1, 0)]
theorem ok_X0_allContributed : tab_X0_allContributed.all (okE cX0_allContributed) = true := by decide +kernel
def ed_X0_allContributed : List (Nat × Instr × Nat) := [(7, .if_icmp .ge 18, 3), (12, .getfield 21, 3), (16, .laload, 1), (26, .lreturn, 1)]
theorem okd_X0_allContributed : ed_X0_allContributed.all (okD cX0_allContributed) = true := by decide +kernel
def f_X0_allContributed (S : St) (p0 : Nat) : Option (Int64) := jn (κ := Int64 → Option (Int64)) (fun x1 => some x1) fun k2 => lp (κ := Int64 → Int32 → Option (Int64)) (fun _ _ => none) (fun k6 x4 x5 => if 8 ≤ x5 then (k2 x4) else (lt (gR S p0 3) fun (a8 : Nat) => ldJ S a8 x5 fun (v10 : Int64) => lt (x4 + v10) fun (v11 : Int64) => k6 v11 (x5 + 1))) FU 0 0
set_option maxHeartbeats 4000000 in
set_option maxRecDepth 100000 in
theorem c_X0_allContributed (S : St) (p0 : Nat) : Ct yX0_allContributed cX0_allContributed 4 (some .long) 0 0 [.ref p0] [(p0, 0)] S (f_X0_allContributed S p0) oL (fun _ => S) := by
  refine Ct_of RX0 rfl (by decide) (Nat.le_of_ble_eq_true rfl) 3 (vs := [some (.ref p0), none, none, none]) rfl (fun C X E hr ht => ?_)
  have t0_ : tT C p0 0 := ht (p0, 0) (by simp)
  unfold f_X0_allContributed
  refine s_run X ok_X0_allContributed 0 4 (pc' := 4) (vs' := [some (.ref p0), some (.long 0), none, some (.int 0)]) (st' := []) rfl ?_
  refine s_jn (κ := Int64 → Option (Int64)) (fun k2 => ∀ (x1 : Int64), Jd C 4 (QJ C oL (fun _ => S)) S 25 [none, some (.long x1), none, none] [] (k2 x1)) (fun x1 => ?_) (fun k2 h3 => ?_)
  · refine s_run X ok_X0_allContributed 13 1 (pc' := 26) (vs' := [none, some (.long x1), none, none]) (st' := [.long x1]) rfl ?_
    exact s_lret X hr (dk okd_X0_allContributed 3 rfl) rfl rfl
  · refine s_lp (κ := Int64 → Int32 → Option (Int64)) (fun k6 => ∀ (x4 : Int64) (x5 : Int32), Jd C 4 (QJ C oL (fun _ => S)) S 4 [some (.ref p0), some (.long x4), none, some (.int x5)] [] (k6 x4 x5)) (fun _ _ => s_none) (fun k6 h7 x4 x5 => ?_) FU 0 0
    refine s_run X ok_X0_allContributed 4 2 (pc' := 7) (vs' := [some (.ref p0), some (.long x4), none, some (.int x5)]) (st' := [.int 8, .int x5]) rfl ?_
    refine s_icmp_ge (tgt := 25) X (dk okd_X0_allContributed 0 rfl) (by decide) ?_ ?_
    · exact s_less [false, true, false, false] rfl (h3 x4)
    · refine s_run X ok_X0_allContributed 6 2 (pc' := 12) (vs' := [some (.ref p0), some (.long x4), none, some (.int x5)]) (st' := [.ref p0, .long x4]) rfl ?_
      refine s_getR X fl_X0_21 t0_ (dk okd_X0_allContributed 1 rfl) (fun a8 (t9 : tT C a8 14) => ?_)
      refine s_run X ok_X0_allContributed 8 1 (pc' := 16) (vs' := [some (.ref p0), some (.long x4), none, some (.int x5)]) (st' := [.int x5, .ref a8, .long x4]) rfl ?_
      refine s_lald X t9 (dk okd_X0_allContributed 2 rfl) (fun v10 => ?_)
      refine s_run X ok_X0_allContributed 9 1 (pc' := 18) (vs' := [some (.ref p0), some (.long x4), none, some (.int x5)]) (st' := [.long (x4 + v10)]) rfl ?_
      refine s_nmJ (fun v11 => ?_)
      refine s_run X ok_X0_allContributed 10 3 (pc' := 4) (vs' := [some (.ref p0), some (.long v11), none, some (.int (x5 + 1))]) (st' := []) rfl ?_
      exact h7 v11 (x5 + 1)
def tab_X0_fundLeft : List En := [(0, 8, 0, 0), (4, 8, 0, 0), (8, 0, 0, 0), (10, 24, 0, 0), (11, 8, 0, 0), (15, 0, 0, 1), (17, 24, 0, 0), (18, 8, 0, 0), (22, 0, 0, 2), (24, 24, 0, 0)]
theorem ok_X0_fundLeft : tab_X0_fundLeft.all (okE cX0_fundLeft) = true := by decide +kernel
def ed_X0_fundLeft : List (Nat × Instr × Nat) := [(1, .invokevirtual 70, 3), (5, .getfield 27, 3), (9, .laload, 1), (12, .getfield 27, 3), (16, .laload, 1), (19, .getfield 27, 3), (23, .laload, 1), (25, .lreturn, 1)]
theorem okd_X0_fundLeft : ed_X0_fundLeft.all (okD cX0_fundLeft) = true := by decide +kernel
def f_X0_fundLeft (S : St) (p0 : Nat) : Option (Int64) := cl (f_X0_allContributed S p0) fun (v1 : Int64) => lt (gR S p0 5) fun (a2 : Nat) => ldJ S a2 0 fun (v4 : Int64) => lt (gR S p0 5) fun (a5 : Nat) => ldJ S a5 1 fun (v7 : Int64) => lt (gR S p0 5) fun (a8 : Nat) => ldJ S a8 2 fun (v10 : Int64) => some (((v1 - v4) - v7) - v10)
set_option maxHeartbeats 4000000 in
set_option maxRecDepth 100000 in
theorem c_X0_fundLeft (S : St) (p0 : Nat) : Ct yX0_fundLeft cX0_fundLeft 1 (some .long) 1 23 [.ref p0] [(p0, 0)] S (f_X0_fundLeft S p0) oL (fun _ => S) := by
  refine Ct_of RX0 rfl (by decide) (Nat.le_of_ble_eq_true rfl) 0 (vs := [some (.ref p0)]) rfl (fun C X E hr ht => ?_)
  have t0_ : tT C p0 0 := ht (p0, 0) (by simp)
  unfold f_X0_fundLeft
  refine s_run X ok_X0_fundLeft 0 1 (pc' := 1) (vs' := [some (.ref p0)]) (st' := [.ref p0]) rfl ?_
  refine s_callV (rest := []) X E mv_X0_70 (c_X0_allContributed S p0) (ta1 t0_) rfl (by decide) t0_ rfl rfl (Nat.le_of_ble_eq_true rfl) (Nat.le_of_ble_eq_true rfl) (Nat.le_of_ble_eq_true rfl) (dk okd_X0_fundLeft 0 rfl) (st' := fun v1 => [.long v1]) (fun _ => rfl) (fun v1 => ?_)
  refine s_run X ok_X0_fundLeft 1 1 (pc' := 5) (vs' := [some (.ref p0)]) (st' := [.ref p0, .long v1]) rfl ?_
  refine s_getR X fl_X0_27 t0_ (dk okd_X0_fundLeft 1 rfl) (fun a2 (t3 : tT C a2 14) => ?_)
  refine s_run X ok_X0_fundLeft 2 1 (pc' := 9) (vs' := [some (.ref p0)]) (st' := [.int 0, .ref a2, .long v1]) rfl ?_
  refine s_lald X t3 (dk okd_X0_fundLeft 2 rfl) (fun v4 => ?_)
  refine s_run X ok_X0_fundLeft 3 2 (pc' := 12) (vs' := [some (.ref p0)]) (st' := [.ref p0, .long (v1 - v4)]) rfl ?_
  refine s_getR X fl_X0_27 t0_ (dk okd_X0_fundLeft 3 rfl) (fun a5 (t6 : tT C a5 14) => ?_)
  refine s_run X ok_X0_fundLeft 5 1 (pc' := 16) (vs' := [some (.ref p0)]) (st' := [.int 1, .ref a5, .long (v1 - v4)]) rfl ?_
  refine s_lald X t6 (dk okd_X0_fundLeft 4 rfl) (fun v7 => ?_)
  refine s_run X ok_X0_fundLeft 6 2 (pc' := 19) (vs' := [some (.ref p0)]) (st' := [.ref p0, .long ((v1 - v4) - v7)]) rfl ?_
  refine s_getR X fl_X0_27 t0_ (dk okd_X0_fundLeft 5 rfl) (fun a8 (t9 : tT C a8 14) => ?_)
  refine s_run X ok_X0_fundLeft 8 1 (pc' := 23) (vs' := [some (.ref p0)]) (st' := [.int 2, .ref a8, .long ((v1 - v4) - v7)]) rfl ?_
  refine s_lald X t9 (dk okd_X0_fundLeft 6 rfl) (fun v10 => ?_)
  refine s_run X ok_X0_fundLeft 9 1 (pc' := 25) (vs' := [some (.ref p0)]) (st' := [.long (((v1 - v4) - v7) - v10)]) rfl ?_
  exact s_lret X hr (dk okd_X0_fundLeft 7 rfl) rfl rfl
def tab_X0_allowanceLeft : List En := [(0, 8, 0, 0), (4, 4, 1, 0), (10, 8, 0, 0), (14, 4, 1, 0), (16, 24, 0, 0)]
theorem ok_X0_allowanceLeft : tab_X0_allowanceLeft.all (okE cX0_allowanceLeft) = true := by decide +kernel
def ed_X0_allowanceLeft : List (Nat × Instr × Nat) := [(1, .getfield 21, 3), (5, .laload, 1), (6, .ldc2_w 74, 3), (9, .ldiv, 1), (11, .getfield 24, 3), (15, .laload, 1), (17, .lreturn, 1)]
theorem okd_X0_allowanceLeft : ed_X0_allowanceLeft.all (okD cX0_allowanceLeft) = true := by decide +kernel
def f_X0_allowanceLeft (S : St) (p0 : Nat) (p1 : Int32) : Option (Int64) := lt (gR S p0 3) fun (a1 : Nat) => ldJ S a1 p1 fun (v3 : Int64) => lt (gR S p0 4) fun (a4 : Nat) => ldJ S a4 p1 fun (v6 : Int64) => some ((v3 / 2) - v6)
set_option maxHeartbeats 4000000 in
set_option maxRecDepth 100000 in
theorem c_X0_allowanceLeft (S : St) (p0 : Nat) (p1 : Int32) : Ct yX0_allowanceLeft cX0_allowanceLeft 2 (some .long) 0 0 [.ref p0, .int p1] [(p0, 0)] S (f_X0_allowanceLeft S p0 p1) oL (fun _ => S) := by
  refine Ct_of RX0 rfl (by decide) (Nat.le_of_ble_eq_true rfl) 0 (vs := [some (.ref p0), some (.int p1)]) rfl (fun C X E hr ht => ?_)
  have t0_ : tT C p0 0 := ht (p0, 0) (by simp)
  unfold f_X0_allowanceLeft
  refine s_run X ok_X0_allowanceLeft 0 1 (pc' := 1) (vs' := [some (.ref p0), some (.int p1)]) (st' := [.ref p0]) rfl ?_
  refine s_getR X fl_X0_21 t0_ (dk okd_X0_allowanceLeft 0 rfl) (fun a1 (t2 : tT C a1 14) => ?_)
  refine s_run X ok_X0_allowanceLeft 1 1 (pc' := 5) (vs' := [some (.ref p0), some (.int p1)]) (st' := [.int p1, .ref a1]) rfl ?_
  refine s_lald X t2 (dk okd_X0_allowanceLeft 1 rfl) (fun v3 => ?_)
  refine s_ldc2 X cl_X0_74 (dk okd_X0_allowanceLeft 2 rfl) ?_
  refine s_ldiv0 X (dk okd_X0_allowanceLeft 3 rfl) (by decide) ?_
  refine s_run X ok_X0_allowanceLeft 2 1 (pc' := 11) (vs' := [some (.ref p0), some (.int p1)]) (st' := [.ref p0, .long (v3 / 2)]) rfl ?_
  refine s_getR X fl_X0_24 t0_ (dk okd_X0_allowanceLeft 4 rfl) (fun a4 (t5 : tT C a4 14) => ?_)
  refine s_run X ok_X0_allowanceLeft 3 1 (pc' := 15) (vs' := [some (.ref p0), some (.int p1)]) (st' := [.int p1, .ref a4, .long (v3 / 2)]) rfl ?_
  refine s_lald X t5 (dk okd_X0_allowanceLeft 5 rfl) (fun v6 => ?_)
  refine s_run X ok_X0_allowanceLeft 4 1 (pc' := 17) (vs' := [some (.ref p0), some (.int p1)]) (st' := [.long ((v3 / 2) - v6)]) rfl ?_
  exact s_lret X hr (dk okd_X0_allowanceLeft 6 rfl) rfl rfl
def tab_X0_spendNational : List En := [(0, 6, 1, 0), (1, 8, 0, 0), (5, 40, 0, 0), (9, 0, 0, 0), (11, 8, 0, 0), (15, 0, 0, 1), (16, 37, 0, 0), (18, 6, 1, 0), (19, 23, 0, 0), (21, 0, 0, 1)]
theorem ok_X0_spendNational : tab_X0_spendNational.all (okE cX0_spendNational) = true := by decide +kernel
def ed_X0_spendNational : List (Nat × Instr × Nat) := [(2, .invokevirtual 76, 3), (6, .ifCond .le 5, 3), (10, .ireturn, 1), (12, .getfield 27, 3), (17, .laload, 1), (20, .lastore, 1), (22, .ireturn, 1)]
theorem okd_X0_spendNational : ed_X0_spendNational.all (okD cX0_spendNational) = true := by decide +kernel
def f_X0_spendNational (S : St) (p0 : Nat) (p1 : Int64) : Option (Int32 × St) := cl (f_X0_fundLeft S p0) fun (v1 : Int64) => if p1 ≤ v1 then (lt (gR S p0 5) fun (a2 : Nat) => ldJ S a2 1 fun (v4 : Int64) => stJ S a2 1 (v4 + p1) fun (S5 : St) => some (1, S5)) else (some (0, S))
set_option maxHeartbeats 4000000 in
set_option maxRecDepth 100000 in
theorem c_X0_spendNational (S : St) (p0 : Nat) (p1 : Int64) : Ct yX0_spendNational cX0_spendNational 3 (some .boolean) 2 43 [.ref p0, .long p1] [(p0, 0)] S (f_X0_spendNational S p0 p1) oIS sS := by
  refine Ct_of RX0 rfl (by decide) (Nat.le_of_ble_eq_true rfl) 0 (vs := [some (.ref p0), some (.long p1), none]) rfl (fun C X E hr ht => ?_)
  have t0_ : tT C p0 0 := ht (p0, 0) (by simp)
  unfold f_X0_spendNational
  refine s_run X ok_X0_spendNational 0 2 (pc' := 2) (vs' := [some (.ref p0), some (.long p1), none]) (st' := [.ref p0, .long p1]) rfl ?_
  refine s_callV (rest := [.long p1]) X E mv_X0_76 (c_X0_fundLeft S p0) (ta1 t0_) rfl (by decide) t0_ rfl rfl (Nat.le_of_ble_eq_true rfl) (Nat.le_of_ble_eq_true rfl) (Nat.le_of_ble_eq_true rfl) (dk okd_X0_spendNational 0 rfl) (st' := fun v1 => [.long v1, .long p1]) (fun _ => rfl) (fun v1 => ?_)
  refine s_run X ok_X0_spendNational 2 1 (pc' := 6) (vs' := [some (.ref p0), some (.long p1), none]) (st' := [.int (lg_cmp p1 v1)]) rfl ?_
  refine s_lif_le (tgt := 11) X (dk okd_X0_spendNational 1 rfl) (by decide) ?_ ?_
  · refine s_run X ok_X0_spendNational 4 1 (pc' := 12) (vs' := [some (.ref p0), some (.long p1), none]) (st' := [.ref p0]) rfl ?_
    refine s_getR X fl_X0_27 t0_ (dk okd_X0_spendNational 3 rfl) (fun a2 (t3 : tT C a2 14) => ?_)
    refine s_run X ok_X0_spendNational 5 2 (pc' := 17) (vs' := [some (.ref p0), some (.long p1), none]) (st' := [.int 1, .ref a2, .int 1, .ref a2]) rfl ?_
    refine s_lald X t3 (dk okd_X0_spendNational 4 rfl) (fun v4 => ?_)
    refine s_run X ok_X0_spendNational 7 2 (pc' := 20) (vs' := [some (.ref p0), some (.long p1), none]) (st' := [.long (v4 + p1), .int 1, .ref a2]) rfl ?_
    refine s_last X t3 (dk okd_X0_spendNational 5 rfl) (fun S5 => ?_)
    refine s_run X ok_X0_spendNational 9 1 (pc' := 22) (vs' := [some (.ref p0), some (.long p1), none]) (st' := [.int 1]) rfl ?_
    exact s_zret0 X hr (dk okd_X0_spendNational 6 rfl) (by decide) rfl rfl
  · refine s_run X ok_X0_spendNational 3 1 (pc' := 10) (vs' := [some (.ref p0), some (.long p1), none]) (st' := [.int 0]) rfl ?_
    exact s_zret0 X hr (dk okd_X0_spendNational 2 rfl) (by decide) rfl rfl
def tab_X0_spendGrant : List En := [(0, 6, 2, 0), (1, 8, 0, 0), (2, 4, 1, 0), (6, 40, 0, 0), (10, 6, 2, 0), (11, 8, 0, 0), (15, 40, 0, 0), (19, 0, 0, 0), (21, 8, 0, 0), (25, 4, 1, 0), (26, 37, 0, 0), (28, 6, 2, 0), (29, 23, 0, 0), (31, 8, 0, 0), (35, 0, 0, 2), (36, 37, 0, 0), (38, 6, 2, 0), (39, 23, 0, 0), (41, 0, 0, 1)]
theorem ok_X0_spendGrant : tab_X0_spendGrant.all (okE cX0_spendGrant) = true := by decide +kernel
def ed_X0_spendGrant : List (Nat × Instr × Nat) := [(3, .invokevirtual 79, 3), (7, .ifCond .gt 12, 3), (12, .invokevirtual 76, 3), (16, .ifCond .le 5, 3), (20, .ireturn, 1), (22, .getfield 24, 3), (27, .laload, 1), (30, .lastore, 1), (32, .getfield 27, 3), (37, .laload, 1), (40, .lastore, 1), (42, .ireturn, 1)]
theorem okd_X0_spendGrant : ed_X0_spendGrant.all (okD cX0_spendGrant) = true := by decide +kernel
def f_X0_spendGrant (S : St) (p0 : Nat) (p1 : Int32) (p2 : Int64) : Option (Int32 × St) := cl (f_X0_allowanceLeft S p0 p1) fun (v1 : Int64) => if v1 < p2 then (some (0, S)) else (cl (f_X0_fundLeft S p0) fun (v2 : Int64) => if p2 ≤ v2 then (lt (gR S p0 4) fun (a3 : Nat) => ldJ S a3 p1 fun (v5 : Int64) => stJ S a3 p1 (v5 + p2) fun (S6 : St) => lt (gR S6 p0 5) fun (a7 : Nat) => ldJ S6 a7 2 fun (v9 : Int64) => stJ S6 a7 2 (v9 + p2) fun (S10 : St) => some (1, S10)) else (some (0, S)))
set_option maxHeartbeats 4000000 in
set_option maxRecDepth 100000 in
theorem c_X0_spendGrant (S : St) (p0 : Nat) (p1 : Int32) (p2 : Int64) : Ct yX0_spendGrant cX0_spendGrant 4 (some .boolean) 2 43 [.ref p0, .int p1, .long p2] [(p0, 0)] S (f_X0_spendGrant S p0 p1 p2) oIS sS := by
  refine Ct_of RX0 rfl (by decide) (Nat.le_of_ble_eq_true rfl) 0 (vs := [some (.ref p0), some (.int p1), some (.long p2), none]) rfl (fun C X E hr ht => ?_)
  have t0_ : tT C p0 0 := ht (p0, 0) (by simp)
  unfold f_X0_spendGrant
  refine s_run X ok_X0_spendGrant 0 3 (pc' := 3) (vs' := [some (.ref p0), some (.int p1), some (.long p2), none]) (st' := [.int p1, .ref p0, .long p2]) rfl ?_
  refine s_callV (rest := [.long p2]) X E mv_X0_79 (c_X0_allowanceLeft S p0 p1) (ta1 t0_) rfl (by decide) t0_ rfl rfl (Nat.le_of_ble_eq_true rfl) (Nat.le_of_ble_eq_true rfl) (Nat.le_of_ble_eq_true rfl) (dk okd_X0_spendGrant 0 rfl) (st' := fun v1 => [.long v1, .long p2]) (fun _ => rfl) (fun v1 => ?_)
  refine s_run X ok_X0_spendGrant 3 1 (pc' := 7) (vs' := [some (.ref p0), some (.int p1), some (.long p2), none]) (st' := [.int (lg_cmp p2 v1)]) rfl ?_
  refine s_lif_gt (tgt := 19) X (dk okd_X0_spendGrant 1 rfl) (by decide) ?_ ?_
  · refine s_run X ok_X0_spendGrant 7 1 (pc' := 20) (vs' := [some (.ref p0), some (.int p1), some (.long p2), none]) (st' := [.int 0]) rfl ?_
    exact s_zret0 X hr (dk okd_X0_spendGrant 4 rfl) (by decide) rfl rfl
  · refine s_run X ok_X0_spendGrant 4 2 (pc' := 12) (vs' := [some (.ref p0), some (.int p1), some (.long p2), none]) (st' := [.ref p0, .long p2]) rfl ?_
    refine s_callV (rest := [.long p2]) X E mv_X0_76 (c_X0_fundLeft S p0) (ta1 t0_) rfl (by decide) t0_ rfl rfl (Nat.le_of_ble_eq_true rfl) (Nat.le_of_ble_eq_true rfl) (Nat.le_of_ble_eq_true rfl) (dk okd_X0_spendGrant 2 rfl) (st' := fun v2 => [.long v2, .long p2]) (fun _ => rfl) (fun v2 => ?_)
    refine s_run X ok_X0_spendGrant 6 1 (pc' := 16) (vs' := [some (.ref p0), some (.int p1), some (.long p2), none]) (st' := [.int (lg_cmp p2 v2)]) rfl ?_
    refine s_lif_le (tgt := 21) X (dk okd_X0_spendGrant 3 rfl) (by decide) ?_ ?_
    · refine s_run X ok_X0_spendGrant 8 1 (pc' := 22) (vs' := [some (.ref p0), some (.int p1), some (.long p2), none]) (st' := [.ref p0]) rfl ?_
      refine s_getR X fl_X0_24 t0_ (dk okd_X0_spendGrant 5 rfl) (fun a3 (t4 : tT C a3 14) => ?_)
      refine s_run X ok_X0_spendGrant 9 2 (pc' := 27) (vs' := [some (.ref p0), some (.int p1), some (.long p2), none]) (st' := [.int p1, .ref a3, .int p1, .ref a3]) rfl ?_
      refine s_lald X t4 (dk okd_X0_spendGrant 6 rfl) (fun v5 => ?_)
      refine s_run X ok_X0_spendGrant 11 2 (pc' := 30) (vs' := [some (.ref p0), some (.int p1), some (.long p2), none]) (st' := [.long (v5 + p2), .int p1, .ref a3]) rfl ?_
      refine s_last X t4 (dk okd_X0_spendGrant 7 rfl) (fun S6 => ?_)
      refine s_run X ok_X0_spendGrant 13 1 (pc' := 32) (vs' := [some (.ref p0), some (.int p1), some (.long p2), none]) (st' := [.ref p0]) rfl ?_
      refine s_getR X fl_X0_27 t0_ (dk okd_X0_spendGrant 8 rfl) (fun a7 (t8 : tT C a7 14) => ?_)
      refine s_run X ok_X0_spendGrant 14 2 (pc' := 37) (vs' := [some (.ref p0), some (.int p1), some (.long p2), none]) (st' := [.int 2, .ref a7, .int 2, .ref a7]) rfl ?_
      refine s_lald X t8 (dk okd_X0_spendGrant 9 rfl) (fun v9 => ?_)
      refine s_run X ok_X0_spendGrant 16 2 (pc' := 40) (vs' := [some (.ref p0), some (.int p1), some (.long p2), none]) (st' := [.long (v9 + p2), .int 2, .ref a7]) rfl ?_
      refine s_last X t8 (dk okd_X0_spendGrant 10 rfl) (fun S10 => ?_)
      refine s_run X ok_X0_spendGrant 18 1 (pc' := 42) (vs' := [some (.ref p0), some (.int p1), some (.long p2), none]) (st' := [.int 1]) rfl ?_
      exact s_zret0 X hr (dk okd_X0_spendGrant 11 rfl) (by decide) rfl rfl
    · refine s_run X ok_X0_spendGrant 7 1 (pc' := 20) (vs' := [some (.ref p0), some (.int p1), some (.long p2), none]) (st' := [.int 0]) rfl ?_
      exact s_zret0 X hr (dk okd_X0_spendGrant 4 rfl) (by decide) rfl rfl
def tab_X0_shareOfNational : List En := [(0, 8, 0, 0), (4, 12, 2, 0), (5, 6, 2, 0), (6, 3, 0, 0), (7, 40, 0, 0), (11, 3, 0, 0), (13, 8, 0, 0), (17, 0, 0, 1), (19, 8, 0, 0), (23, 4, 1, 0), (25, 25, 0, 0), (26, 13, 4, 0), (28, 7, 4, 0), (30, 6, 2, 0), (32, 13, 6, 0), (34, 8, 0, 0), (38, 0, 0, 1), (40, 13, 8, 0), (42, 0, 0, 0), (43, 11, 10, 0), (45, 0, 0, 0), (46, 11, 11, 0), (48, 5, 11, 0), (50, 1, 0, 8), (55, 8, 0, 0), (59, 0, 0, 1), (61, 8, 0, 0), (65, 5, 11, 0), (68, 25, 0, 0), (69, 13, 12, 0), (71, 7, 12, 0), (73, 6, 2, 0), (75, 13, 14, 0), (77, 7, 8, 0), (79, 7, 12, 0), (81, 6, 2, 0), (83, 24, 0, 0), (84, 13, 8, 0), (86, 7, 14, 0), (88, 7, 6, 0), (90, 40, 0, 0), (94, 7, 14, 0), (96, 7, 6, 0), (98, 40, 0, 0), (102, 5, 11, 0), (104, 4, 1, 0), (108, 16, 10, 1), (111, 16, 11, 1), (114, 41, 48, 0), (117, 7, 4, 0), (119, 6, 2, 0), (121, 5, 10, 0), (123, 31, 0, 0), (124, 7, 8, 0), (126, 40, 0, 0), (130, 0, 0, 1), (131, 41, 135, 0), (134, 0, 0, 0), (135, 31, 0, 0), (136, 23, 0, 0)]
theorem ok_X0_shareOfNational : tab_X0_shareOfNational.all (okE cX0_shareOfNational) = true := by decide +kernel
def ed_X0_shareOfNational : List (Nat × Instr × Nat) := [(1, .invokevirtual 70, 3), (8, .ifCond .gt 5, 3), (12, .lreturn, 1), (14, .getfield 27, 3), (18, .laload, 1), (20, .getfield 21, 3), (24, .laload, 1), (31, .lrem, 1), (35, .getfield 27, 3), (39, .laload, 1), (52, .if_icmp .ge 65, 3), (56, .getfield 27, 3), (60, .laload, 1), (62, .getfield 21, 3), (67, .laload, 1), (74, .lrem, 1), (82, .ldiv, 1), (91, .ifCond .gt 17, 3), (99, .ifCond .ne 12, 3), (105, .if_icmp .ge 6, 3), (120, .ldiv, 1), (127, .ifCond .ge 7, 3), (137, .lreturn, 1)]
theorem okd_X0_shareOfNational : ed_X0_shareOfNational.all (okD cX0_shareOfNational) = true := by decide +kernel
def f_X0_shareOfNational (S : St) (p0 : Nat) (p1 : Int32) : Option (Int64) := cl (f_X0_allContributed S p0) fun (v1 : Int64) => if 0 < v1 then (lt (gR S p0 5) fun (a2 : Nat) => ldJ S a2 1 fun (v4 : Int64) => lt (gR S p0 3) fun (a5 : Nat) => ldJ S a5 p1 fun (v7 : Int64) => lt (v4 * v7) fun (v8 : Int64) => nzL v1 <| lt (v8 - v8 / v1 * v1) fun (v9 : Int64) => lt (gR S p0 5) fun (a10 : Nat) => ldJ S a10 1 fun (v12 : Int64) => jn (κ := Int64 → Int32 → Option (Int64)) (fun x13 x14 => nzL v1 <| jn (κ := Int32 → Option (Int64)) (fun x17 => some ((v8 / v1) + (Int32.toInt64 x17))) fun k18 => if x13 ≤ (Int32.toInt64 x14) then (k18 0) else (k18 1)) fun k15 => lp (κ := Int64 → Int32 → Int32 → Option (Int64)) (fun _ _ _ => none) (fun k23 x20 x21 x22 => if 8 ≤ x22 then (k15 x20 x21) else (lt (gR S p0 5) fun (a25 : Nat) => ldJ S a25 1 fun (v27 : Int64) => lt (gR S p0 3) fun (a28 : Nat) => ldJ S a28 x22 fun (v30 : Int64) => lt (v27 * v30) fun (v31 : Int64) => nzL v1 <| lt (v31 - v31 / v1 * v1) fun (v32 : Int64) => nzL v1 <| lt (x20 - (v31 / v1)) fun (v33 : Int64) => jn (κ := Int32 → Option (Int64)) (fun x34 => k23 v33 x34 (x22 + 1)) fun k35 => jn (κ := Option (Int64)) (k35 (x21 + 1)) fun k37 => if v9 < v32 then (k37) else (if v32 = v9 then (if p1 ≤ x22 then (k35 x21) else (k37)) else (k35 x21)))) FU v12 0 0) else (some 0)
set_option maxHeartbeats 4000000 in
set_option maxRecDepth 100000 in
theorem c_X0_shareOfNational (S : St) (p0 : Nat) (p1 : Int32) : Ct yX0_shareOfNational cX0_shareOfNational 16 (some .long) 1 23 [.ref p0, .int p1] [(p0, 0)] S (f_X0_shareOfNational S p0 p1) oL (fun _ => S) := by
  refine Ct_of RX0 rfl (by decide) (Nat.le_of_ble_eq_true rfl) 14 (vs := [some (.ref p0), some (.int p1), none, none, none, none, none, none, none, none, none, none, none, none, none, none]) rfl (fun C X E hr ht => ?_)
  have t0_ : tT C p0 0 := ht (p0, 0) (by simp)
  unfold f_X0_shareOfNational
  refine s_run X ok_X0_shareOfNational 0 1 (pc' := 1) (vs' := [some (.ref p0), some (.int p1), none, none, none, none, none, none, none, none, none, none, none, none, none, none]) (st' := [.ref p0]) rfl ?_
  refine s_callV (rest := []) X E mv_X0_70 (c_X0_allContributed S p0) (ta1 t0_) rfl (by decide) t0_ rfl rfl (Nat.le_of_ble_eq_true rfl) (Nat.le_of_ble_eq_true rfl) (Nat.le_of_ble_eq_true rfl) (dk okd_X0_shareOfNational 0 rfl) (st' := fun v1 => [.long v1]) (fun _ => rfl) (fun v1 => ?_)
  refine s_run X ok_X0_shareOfNational 1 4 (pc' := 8) (vs' := [some (.ref p0), some (.int p1), some (.long v1), none, none, none, none, none, none, none, none, none, none, none, none, none]) (st' := [.int (lg_cmp v1 0)]) rfl ?_
  refine s_lif_gt (tgt := 13) X (dk okd_X0_shareOfNational 1 rfl) (by decide) ?_ ?_
  · refine s_run X ok_X0_shareOfNational 6 1 (pc' := 14) (vs' := [some (.ref p0), some (.int p1), some (.long v1), none, none, none, none, none, none, none, none, none, none, none, none, none]) (st' := [.ref p0]) rfl ?_
    refine s_getR X fl_X0_27 t0_ (dk okd_X0_shareOfNational 3 rfl) (fun a2 (t3 : tT C a2 14) => ?_)
    refine s_run X ok_X0_shareOfNational 7 1 (pc' := 18) (vs' := [some (.ref p0), some (.int p1), some (.long v1), none, none, none, none, none, none, none, none, none, none, none, none, none]) (st' := [.int 1, .ref a2]) rfl ?_
    refine s_lald X t3 (dk okd_X0_shareOfNational 4 rfl) (fun v4 => ?_)
    refine s_run X ok_X0_shareOfNational 8 1 (pc' := 20) (vs' := [some (.ref p0), some (.int p1), some (.long v1), none, none, none, none, none, none, none, none, none, none, none, none, none]) (st' := [.ref p0, .long v4]) rfl ?_
    refine s_getR X fl_X0_21 t0_ (dk okd_X0_shareOfNational 5 rfl) (fun a5 (t6 : tT C a5 14) => ?_)
    refine s_run X ok_X0_shareOfNational 9 1 (pc' := 24) (vs' := [some (.ref p0), some (.int p1), some (.long v1), none, none, none, none, none, none, none, none, none, none, none, none, none]) (st' := [.int p1, .ref a5, .long v4]) rfl ?_
    refine s_lald X t6 (dk okd_X0_shareOfNational 6 rfl) (fun v7 => ?_)
    refine s_run X ok_X0_shareOfNational 10 1 (pc' := 26) (vs' := [some (.ref p0), some (.int p1), some (.long v1), none, none, none, none, none, none, none, none, none, none, none, none, none]) (st' := [.long (v4 * v7)]) rfl ?_
    refine s_nmJ (fun v8 => ?_)
    refine s_run X ok_X0_shareOfNational 11 3 (pc' := 31) (vs' := [some (.ref p0), some (.int p1), some (.long v1), none, some (.long v8), none, none, none, none, none, none, none, none, none, none, none]) (st' := [.long v1, .long v8]) rfl ?_
    refine s_lrem X (dk okd_X0_shareOfNational 7 rfl) ?_
    refine s_nmJ (fun v9 => ?_)
    refine s_run X ok_X0_shareOfNational 14 2 (pc' := 35) (vs' := [some (.ref p0), some (.int p1), some (.long v1), none, some (.long v8), none, some (.long v9), none, none, none, none, none, none, none, none, none]) (st' := [.ref p0]) rfl ?_
    refine s_getR X fl_X0_27 t0_ (dk okd_X0_shareOfNational 8 rfl) (fun a10 (t11 : tT C a10 14) => ?_)
    refine s_run X ok_X0_shareOfNational 16 1 (pc' := 39) (vs' := [some (.ref p0), some (.int p1), some (.long v1), none, some (.long v8), none, some (.long v9), none, none, none, none, none, none, none, none, none]) (st' := [.int 1, .ref a10]) rfl ?_
    refine s_lald X t11 (dk okd_X0_shareOfNational 9 rfl) (fun v12 => ?_)
    refine s_run X ok_X0_shareOfNational 17 5 (pc' := 48) (vs' := [some (.ref p0), some (.int p1), some (.long v1), none, some (.long v8), none, some (.long v9), none, some (.long v12), none, some (.int 0), some (.int 0), none, none, none, none]) (st' := []) rfl ?_
    refine s_jn (κ := Int64 → Int32 → Option (Int64)) (fun k15 => ∀ (x13 : Int64) (x14 : Int32), Jd C 16 (QJ C oL (fun _ => S)) S 117 [none, none, some (.long v1), none, some (.long v8), none, none, none, some (.long x13), none, some (.int x14), none, none, none, none, none] [] (k15 x13 x14)) (fun x13 x14 => ?_) (fun k15 h16 => ?_)
    · refine s_run X ok_X0_shareOfNational 49 2 (pc' := 120) (vs' := [none, none, some (.long v1), none, some (.long v8), none, none, none, some (.long x13), none, some (.int x14), none, none, none, none, none]) (st' := [.long v1, .long v8]) rfl ?_
      refine s_ldiv X (dk okd_X0_shareOfNational 20 rfl) ?_
      refine s_run X ok_X0_shareOfNational 51 4 (pc' := 127) (vs' := [none, none, some (.long v1), none, some (.long v8), none, none, none, some (.long x13), none, some (.int x14), none, none, none, none, none]) (st' := [.int (lg_cmp (Int32.toInt64 x14) x13), .long (v8 / v1)]) rfl ?_
      refine s_jn (κ := Int32 → Option (Int64)) (fun k18 => ∀ (x17 : Int32), Jd C 16 (QJ C oL (fun _ => S)) S 135 [none, none, none, none, none, none, none, none, none, none, none, none, none, none, none, none] [.int x17, .long (v8 / v1)] (k18 x17)) (fun x17 => ?_) (fun k18 h19 => ?_)
      · refine s_run X ok_X0_shareOfNational 58 2 (pc' := 137) (vs' := [none, none, none, none, none, none, none, none, none, none, none, none, none, none, none, none]) (st' := [.long ((v8 / v1) + (Int32.toInt64 x17))]) rfl ?_
        exact s_lret X hr (dk okd_X0_shareOfNational 22 rfl) rfl rfl
      · refine s_lif_ge (tgt := 134) X (dk okd_X0_shareOfNational 21 rfl) (by decide) ?_ ?_
        · refine s_run X ok_X0_shareOfNational 57 1 (pc' := 135) (vs' := [none, none, some (.long v1), none, some (.long v8), none, none, none, some (.long x13), none, some (.int x14), none, none, none, none, none]) (st' := [.int 0, .long (v8 / v1)]) rfl ?_
          exact s_less [false, false, false, false, false, false, false, false, false, false, false, false, false, false, false, false] rfl (h19 0)
        · refine s_run X ok_X0_shareOfNational 55 2 (pc' := 135) (vs' := [none, none, some (.long v1), none, some (.long v8), none, none, none, some (.long x13), none, some (.int x14), none, none, none, none, none]) (st' := [.int 1, .long (v8 / v1)]) rfl ?_
          exact s_less [false, false, false, false, false, false, false, false, false, false, false, false, false, false, false, false] rfl (h19 1)
    · refine s_lp (κ := Int64 → Int32 → Int32 → Option (Int64)) (fun k23 => ∀ (x20 : Int64) (x21 : Int32) (x22 : Int32), Jd C 16 (QJ C oL (fun _ => S)) S 48 [some (.ref p0), some (.int p1), some (.long v1), none, some (.long v8), none, some (.long v9), none, some (.long x20), none, some (.int x21), some (.int x22), none, none, none, none] [] (k23 x20 x21 x22)) (fun _ _ _ => s_none) (fun k23 h24 x20 x21 x22 => ?_) FU v12 0 0
      refine s_run X ok_X0_shareOfNational 22 2 (pc' := 52) (vs' := [some (.ref p0), some (.int p1), some (.long v1), none, some (.long v8), none, some (.long v9), none, some (.long x20), none, some (.int x21), some (.int x22), none, none, none, none]) (st' := [.int 8, .int x22]) rfl ?_
      refine s_icmp_ge (tgt := 117) X (dk okd_X0_shareOfNational 10 rfl) (by decide) ?_ ?_
      · exact s_less [false, false, true, false, true, false, false, false, true, false, true, false, false, false, false, false] rfl (h16 x20 x21)
      · refine s_run X ok_X0_shareOfNational 24 1 (pc' := 56) (vs' := [some (.ref p0), some (.int p1), some (.long v1), none, some (.long v8), none, some (.long v9), none, some (.long x20), none, some (.int x21), some (.int x22), none, none, none, none]) (st' := [.ref p0]) rfl ?_
        refine s_getR X fl_X0_27 t0_ (dk okd_X0_shareOfNational 11 rfl) (fun a25 (t26 : tT C a25 14) => ?_)
        refine s_run X ok_X0_shareOfNational 25 1 (pc' := 60) (vs' := [some (.ref p0), some (.int p1), some (.long v1), none, some (.long v8), none, some (.long v9), none, some (.long x20), none, some (.int x21), some (.int x22), none, none, none, none]) (st' := [.int 1, .ref a25]) rfl ?_
        refine s_lald X t26 (dk okd_X0_shareOfNational 12 rfl) (fun v27 => ?_)
        refine s_run X ok_X0_shareOfNational 26 1 (pc' := 62) (vs' := [some (.ref p0), some (.int p1), some (.long v1), none, some (.long v8), none, some (.long v9), none, some (.long x20), none, some (.int x21), some (.int x22), none, none, none, none]) (st' := [.ref p0, .long v27]) rfl ?_
        refine s_getR X fl_X0_21 t0_ (dk okd_X0_shareOfNational 13 rfl) (fun a28 (t29 : tT C a28 14) => ?_)
        refine s_run X ok_X0_shareOfNational 27 1 (pc' := 67) (vs' := [some (.ref p0), some (.int p1), some (.long v1), none, some (.long v8), none, some (.long v9), none, some (.long x20), none, some (.int x21), some (.int x22), none, none, none, none]) (st' := [.int x22, .ref a28, .long v27]) rfl ?_
        refine s_lald X t29 (dk okd_X0_shareOfNational 14 rfl) (fun v30 => ?_)
        refine s_run X ok_X0_shareOfNational 28 1 (pc' := 69) (vs' := [some (.ref p0), some (.int p1), some (.long v1), none, some (.long v8), none, some (.long v9), none, some (.long x20), none, some (.int x21), some (.int x22), none, none, none, none]) (st' := [.long (v27 * v30)]) rfl ?_
        refine s_nmJ (fun v31 => ?_)
        refine s_run X ok_X0_shareOfNational 29 3 (pc' := 74) (vs' := [some (.ref p0), some (.int p1), some (.long v1), none, some (.long v8), none, some (.long v9), none, some (.long x20), none, some (.int x21), some (.int x22), some (.long v31), none, none, none]) (st' := [.long v1, .long v31]) rfl ?_
        refine s_lrem X (dk okd_X0_shareOfNational 15 rfl) ?_
        refine s_nmJ (fun v32 => ?_)
        refine s_run X ok_X0_shareOfNational 32 4 (pc' := 82) (vs' := [some (.ref p0), some (.int p1), some (.long v1), none, some (.long v8), none, some (.long v9), none, some (.long x20), none, some (.int x21), some (.int x22), some (.long v31), none, some (.long v32), none]) (st' := [.long v1, .long v31, .long x20]) rfl ?_
        refine s_ldiv X (dk okd_X0_shareOfNational 16 rfl) ?_
        refine s_run X ok_X0_shareOfNational 36 1 (pc' := 84) (vs' := [some (.ref p0), some (.int p1), some (.long v1), none, some (.long v8), none, some (.long v9), none, some (.long x20), none, some (.int x21), some (.int x22), some (.long v31), none, some (.long v32), none]) (st' := [.long (x20 - (v31 / v1))]) rfl ?_
        refine s_nmJ (fun v33 => ?_)
        refine s_run X ok_X0_shareOfNational 37 4 (pc' := 91) (vs' := [some (.ref p0), some (.int p1), some (.long v1), none, some (.long v8), none, some (.long v9), none, some (.long v33), none, some (.int x21), some (.int x22), some (.long v31), none, some (.long v32), none]) (st' := [.int (lg_cmp v32 v9)]) rfl ?_
        refine s_jn (κ := Int32 → Option (Int64)) (fun k35 => ∀ (x34 : Int32), Jd C 16 (QJ C oL (fun _ => S)) S 111 [some (.ref p0), some (.int p1), some (.long v1), none, some (.long v8), none, some (.long v9), none, some (.long v33), none, some (.int x34), some (.int x22), none, none, none, none] [] (k35 x34)) (fun x34 => ?_) (fun k35 h36 => ?_)
        · refine s_run X ok_X0_shareOfNational 47 2 (pc' := 48) (vs' := [some (.ref p0), some (.int p1), some (.long v1), none, some (.long v8), none, some (.long v9), none, some (.long v33), none, some (.int x34), some (.int (x22 + 1)), none, none, none, none]) (st' := []) rfl ?_
          exact h24 v33 x34 (x22 + 1)
        · refine s_jn (κ := Option (Int64)) (fun k37 => Jd C 16 (QJ C oL (fun _ => S)) S 108 [some (.ref p0), some (.int p1), some (.long v1), none, some (.long v8), none, some (.long v9), none, some (.long v33), none, some (.int x21), some (.int x22), none, none, none, none] [] k37) ?_ (fun k37 h38 => ?_)
          · refine s_run X ok_X0_shareOfNational 46 1 (pc' := 111) (vs' := [some (.ref p0), some (.int p1), some (.long v1), none, some (.long v8), none, some (.long v9), none, some (.long v33), none, some (.int (x21 + 1)), some (.int x22), none, none, none, none]) (st' := []) rfl ?_
            exact h36 (x21 + 1)
          · refine s_lif_gt (tgt := 108) X (dk okd_X0_shareOfNational 17 rfl) (by decide) ?_ ?_
            · exact s_less [true, true, true, false, true, false, true, false, true, false, true, true, false, false, false, false] rfl (h38)
            · refine s_run X ok_X0_shareOfNational 41 3 (pc' := 99) (vs' := [some (.ref p0), some (.int p1), some (.long v1), none, some (.long v8), none, some (.long v9), none, some (.long v33), none, some (.int x21), some (.int x22), some (.long v31), none, some (.long v32), none]) (st' := [.int (lg_cmp v32 v9)]) rfl ?_
              refine s_lif_ne (tgt := 111) X (dk okd_X0_shareOfNational 18 rfl) (by decide) ?_ ?_
              · exact s_less [true, true, true, false, true, false, true, false, true, false, true, true, false, false, false, false] rfl (h36 x21)
              · refine s_run X ok_X0_shareOfNational 44 2 (pc' := 105) (vs' := [some (.ref p0), some (.int p1), some (.long v1), none, some (.long v8), none, some (.long v9), none, some (.long v33), none, some (.int x21), some (.int x22), some (.long v31), none, some (.long v32), none]) (st' := [.int p1, .int x22]) rfl ?_
                refine s_icmp_ge (tgt := 111) X (dk okd_X0_shareOfNational 19 rfl) (by decide) ?_ ?_
                · exact s_less [true, true, true, false, true, false, true, false, true, false, true, true, false, false, false, false] rfl (h36 x21)
                · exact s_less [true, true, true, false, true, false, true, false, true, false, true, true, false, false, false, false] rfl (h38)
  · refine s_run X ok_X0_shareOfNational 5 1 (pc' := 12) (vs' := [some (.ref p0), some (.int p1), some (.long v1), none, none, none, none, none, none, none, none, none, none, none, none, none]) (st' := [.long 0]) rfl ?_
    exact s_lret X hr (dk okd_X0_shareOfNational 2 rfl) rfl rfl
def tab_X2_has : List En := [(0, 4, 1, 0), (4, 4, 1, 0), (5, 8, 0, 0), (12, 0, 0, 1), (13, 41, 17, 0), (16, 0, 0, 0)]
theorem ok_X2_has : tab_X2_has.all (okE cX2_has) = true := by decide +kernel
def ed_X2_has : List (Nat × Instr × Nat) := [(1, .ifCond .lt 15, 3), (6, .getfield 44, 3), (9, .if_icmp .ge 7, 3), (17, .ireturn, 1)]
theorem okd_X2_has : ed_X2_has.all (okD cX2_has) = true := by decide +kernel
def f_X2_has (S : St) (p0 : Nat) (p1 : Int32) : Option (Int32) := jn (κ := Option (Int32)) (some 0) fun k1 => if p1 < 0 then (k1) else (lt (gI S p0 8) fun (v3 : Int32) => if v3 ≤ p1 then (k1) else (some 1))
set_option maxHeartbeats 4000000 in
set_option maxRecDepth 100000 in
theorem c_X2_has (S : St) (p0 : Nat) (p1 : Int32) : Ct yX2_has cX2_has 2 (some .boolean) 0 0 [.ref p0, .int p1] [(p0, 2)] S (f_X2_has S p0 p1) oI (fun _ => S) := by
  refine Ct_of RX2 rfl (by decide) (Nat.le_of_ble_eq_true rfl) 0 (vs := [some (.ref p0), some (.int p1)]) rfl (fun C X E hr ht => ?_)
  have t0_ : tT C p0 2 := ht (p0, 2) (by simp)
  unfold f_X2_has
  refine s_run X ok_X2_has 0 1 (pc' := 1) (vs' := [some (.ref p0), some (.int p1)]) (st' := [.int p1]) rfl ?_
  refine s_jn (κ := Option (Int32)) (fun k1 => Jd C 2 (QJ C oI (fun _ => S)) S 16 [none, none] [] k1) ?_ (fun k1 h2 => ?_)
  · refine s_run X ok_X2_has 5 1 (pc' := 17) (vs' := [none, none]) (st' := [.int 0]) rfl ?_
    exact s_zret0 X hr (dk okd_X2_has 3 rfl) (by decide) rfl rfl
  · refine s_if_lt (tgt := 16) X (dk okd_X2_has 0 rfl) (by decide) ?_ ?_
    · exact s_less [false, false] rfl (h2)
    · refine s_run X ok_X2_has 1 2 (pc' := 6) (vs' := [some (.ref p0), some (.int p1)]) (st' := [.ref p0, .int p1]) rfl ?_
      refine s_getI X fl_X2_44 t0_ (dk okd_X2_has 1 rfl) (fun v3 => ?_)
      refine s_icmp_ge (tgt := 16) X (dk okd_X2_has 2 rfl) (by decide) ?_ ?_
      · exact s_less [false, false] rfl (h2)
      · refine s_run X ok_X2_has 3 2 (pc' := 17) (vs' := [some (.ref p0), some (.int p1)]) (st' := [.int 1]) rfl ?_
        exact s_zret0 X hr (dk okd_X2_has 3 rfl) (by decide) rfl rfl
def tab_X2_isActive : List En := [(0, 8, 0, 0), (1, 4, 1, 0), (8, 8, 0, 0), (12, 4, 1, 0), (17, 0, 0, 1), (18, 41, 22, 0), (21, 0, 0, 0)]
theorem ok_X2_isActive : tab_X2_isActive.all (okE cX2_isActive) = true := by decide +kernel
def ed_X2_isActive : List (Nat × Instr × Nat) := [(2, .invokevirtual 48, 3), (5, .ifCond .eq 16, 3), (9, .getfield 25, 3), (13, .iaload, 1), (14, .ifCond .ne 7, 3), (22, .ireturn, 1)]
theorem okd_X2_isActive : ed_X2_isActive.all (okD cX2_isActive) = true := by decide +kernel
def f_X2_isActive (S : St) (p0 : Nat) (p1 : Int32) : Option (Int32) := cl (f_X2_has S p0 p1) fun (v1 : Int32) => jn (κ := Option (Int32)) (some 0) fun k2 => if v1 = 0 then (k2) else (lt (gR S p0 4) fun (a4 : Nat) => ldI S a4 p1 fun (v6 : Int32) => if v6 = 0 then (some 1) else (k2))
set_option maxHeartbeats 4000000 in
set_option maxRecDepth 100000 in
theorem c_X2_isActive (S : St) (p0 : Nat) (p1 : Int32) : Ct yX2_isActive cX2_isActive 2 (some .boolean) 1 21 [.ref p0, .int p1] [(p0, 2)] S (f_X2_isActive S p0 p1) oI (fun _ => S) := by
  refine Ct_of RX2 rfl (by decide) (Nat.le_of_ble_eq_true rfl) 0 (vs := [some (.ref p0), some (.int p1)]) rfl (fun C X E hr ht => ?_)
  have t0_ : tT C p0 2 := ht (p0, 2) (by simp)
  unfold f_X2_isActive
  refine s_run X ok_X2_isActive 0 2 (pc' := 2) (vs' := [some (.ref p0), some (.int p1)]) (st' := [.int p1, .ref p0]) rfl ?_
  refine s_callV (rest := []) X E mv_X2_48 (c_X2_has S p0 p1) (ta1 t0_) rfl (by decide) t0_ rfl rfl (Nat.le_of_ble_eq_true rfl) (Nat.le_of_ble_eq_true rfl) (Nat.le_of_ble_eq_true rfl) (dk okd_X2_isActive 0 rfl) (st' := fun v1 => [.int v1]) (fun _ => rfl) (fun v1 => ?_)
  refine s_jn (κ := Option (Int32)) (fun k2 => Jd C 2 (QJ C oI (fun _ => S)) S 21 [none, none] [] k2) ?_ (fun k2 h3 => ?_)
  · refine s_run X ok_X2_isActive 6 1 (pc' := 22) (vs' := [none, none]) (st' := [.int 0]) rfl ?_
    exact s_zret0 X hr (dk okd_X2_isActive 5 rfl) (by decide) rfl rfl
  · refine s_if_eq (tgt := 21) X (dk okd_X2_isActive 1 rfl) (by decide) ?_ ?_
    · exact s_less [false, false] rfl (h3)
    · refine s_run X ok_X2_isActive 2 1 (pc' := 9) (vs' := [some (.ref p0), some (.int p1)]) (st' := [.ref p0]) rfl ?_
      refine s_getR X fl_X2_25 t0_ (dk okd_X2_isActive 2 rfl) (fun a4 (t5 : tT C a4 13) => ?_)
      refine s_run X ok_X2_isActive 3 1 (pc' := 13) (vs' := [some (.ref p0), some (.int p1)]) (st' := [.int p1, .ref a4]) rfl ?_
      refine s_iald X t5 (dk okd_X2_isActive 3 rfl) (fun v6 => ?_)
      refine s_if_ne (tgt := 21) X (dk okd_X2_isActive 4 rfl) (by decide) ?_ ?_
      · exact s_less [false, false] rfl (h3)
      · refine s_run X ok_X2_isActive 4 2 (pc' := 22) (vs' := [some (.ref p0), some (.int p1)]) (st' := [.int 1]) rfl ?_
        exact s_zret0 X hr (dk okd_X2_isActive 5 rfl) (by decide) rfl rfl
def tab_X2_hasLetters : List En := [(0, 8, 0, 0), (4, 4, 1, 0), (6, 11, 4, 0), (8, 4, 3, 0), (12, 4, 3, 0), (13, 8, 2, 0), (15, 5, 4, 0), (17, 18, 0, 0), (21, 0, 0, 0), (23, 0, 0, 0), (24, 11, 5, 0), (26, 5, 5, 0), (28, 5, 4, 0), (33, 8, 0, 0), (37, 4, 1, 0), (38, 1, 0, 10), (40, 19, 0, 0), (41, 5, 5, 0), (43, 17, 0, 0), (45, 8, 2, 0), (46, 4, 3, 0), (47, 5, 5, 0), (49, 17, 0, 0), (54, 0, 0, 0), (56, 16, 5, 1), (59, 41, 26, 0), (62, 0, 0, 1)]
theorem ok_X2_hasLetters : tab_X2_hasLetters.all (okE cX2_hasLetters) = true := by decide +kernel
def ed_X2_hasLetters : List (Nat × Instr × Nat) := [(1, .getfield 15, 3), (5, .iaload, 1), (9, .ifCond .lt 12, 3), (14, .arraylength, 1), (18, .if_icmp .le 5, 3), (22, .ireturn, 1), (30, .if_icmp .ge 32, 3), (34, .getfield 9, 3), (44, .baload, 1), (50, .baload, 1), (51, .if_icmp .eq 5, 3), (55, .ireturn, 1), (63, .ireturn, 1)]
theorem okd_X2_hasLetters : ed_X2_hasLetters.all (okD cX2_hasLetters) = true := by decide +kernel
def f_X2_hasLetters (S : St) (p0 : Nat) (p1 : Int32) (p2 : Nat) (p3 : Int32) : Option (Int32) := lt (gR S p0 1) fun (a1 : Nat) => ldI S a1 p1 fun (v3 : Int32) => if p3 < 0 then (some 0) else (lt (nI (gN S p2)) fun (v4 : Int32) => if p3 ≤ (v4 - v3) then (lp (κ := Int32 → Option (Int32)) (fun _ => none) (fun k6 x5 => if v3 ≤ x5 then (some 1) else (lt (gR S p0 0) fun (a8 : Nat) => ldI S a8 ((p1 * 10) + x5) fun (v10 : Int32) => ldI S p2 (p3 + x5) fun (v11 : Int32) => if v10 = v11 then (k6 (x5 + 1)) else (some 0))) FU 0) else (some 0))
set_option maxHeartbeats 4000000 in
set_option maxRecDepth 100000 in
theorem c_X2_hasLetters (S : St) (p0 : Nat) (p1 : Int32) (p2 : Nat) (p3 : Int32) : Ct yX2_hasLetters cX2_hasLetters 6 (some .boolean) 0 0 [.ref p0, .int p1, .ref p2, .int p3] [(p0, 2), (p2, 12)] S (f_X2_hasLetters S p0 p1 p2 p3) oI (fun _ => S) := by
  refine Ct_of RX2 rfl (by decide) (Nat.le_of_ble_eq_true rfl) 2 (vs := [some (.ref p0), some (.int p1), some (.ref p2), some (.int p3), none, none]) rfl (fun C X E hr ht => ?_)
  have t0_ : tT C p0 2 := ht (p0, 2) (by simp)
  have t2_ : tT C p2 12 := ht (p2, 12) (by simp)
  unfold f_X2_hasLetters
  refine s_run X ok_X2_hasLetters 0 1 (pc' := 1) (vs' := [some (.ref p0), some (.int p1), some (.ref p2), some (.int p3), none, none]) (st' := [.ref p0]) rfl ?_
  refine s_getR X fl_X2_15 t0_ (dk okd_X2_hasLetters 0 rfl) (fun a1 (t2 : tT C a1 13) => ?_)
  refine s_run X ok_X2_hasLetters 1 1 (pc' := 5) (vs' := [some (.ref p0), some (.int p1), some (.ref p2), some (.int p3), none, none]) (st' := [.int p1, .ref a1]) rfl ?_
  refine s_iald X t2 (dk okd_X2_hasLetters 1 rfl) (fun v3 => ?_)
  refine s_run X ok_X2_hasLetters 2 2 (pc' := 9) (vs' := [some (.ref p0), some (.int p1), some (.ref p2), some (.int p3), some (.int v3), none]) (st' := [.int p3]) rfl ?_
  refine s_if_lt (tgt := 21) X (dk okd_X2_hasLetters 2 rfl) (by decide) ?_ ?_
  · refine s_run X ok_X2_hasLetters 8 1 (pc' := 22) (vs' := [some (.ref p0), some (.int p1), some (.ref p2), some (.int p3), some (.int v3), none]) (st' := [.int 0]) rfl ?_
    exact s_zret0 X hr (dk okd_X2_hasLetters 5 rfl) (by decide) rfl rfl
  · refine s_run X ok_X2_hasLetters 4 2 (pc' := 14) (vs' := [some (.ref p0), some (.int p1), some (.ref p2), some (.int p3), some (.int v3), none]) (st' := [.ref p2, .int p3]) rfl ?_
    refine s_alen12 X t2_ (dk okd_X2_hasLetters 3 rfl) (fun v4 => ?_)
    refine s_run X ok_X2_hasLetters 6 2 (pc' := 18) (vs' := [some (.ref p0), some (.int p1), some (.ref p2), some (.int p3), some (.int v3), none]) (st' := [.int (v4 - v3), .int p3]) rfl ?_
    refine s_icmp_le (tgt := 23) X (dk okd_X2_hasLetters 4 rfl) (by decide) ?_ ?_
    · refine s_run X ok_X2_hasLetters 9 2 (pc' := 26) (vs' := [some (.ref p0), some (.int p1), some (.ref p2), some (.int p3), some (.int v3), some (.int 0)]) (st' := []) rfl ?_
      refine s_lp (κ := Int32 → Option (Int32)) (fun k6 => ∀ (x5 : Int32), Jd C 6 (QJ C oI (fun _ => S)) S 26 [some (.ref p0), some (.int p1), some (.ref p2), some (.int p3), some (.int v3), some (.int x5)] [] (k6 x5)) (fun _ => s_none) (fun k6 h7 x5 => ?_) FU 0
      refine s_run X ok_X2_hasLetters 11 2 (pc' := 30) (vs' := [some (.ref p0), some (.int p1), some (.ref p2), some (.int p3), some (.int v3), some (.int x5)]) (st' := [.int v3, .int x5]) rfl ?_
      refine s_icmp_ge (tgt := 62) X (dk okd_X2_hasLetters 6 rfl) (by decide) ?_ ?_
      · refine s_run X ok_X2_hasLetters 26 1 (pc' := 63) (vs' := [some (.ref p0), some (.int p1), some (.ref p2), some (.int p3), some (.int v3), some (.int x5)]) (st' := [.int 1]) rfl ?_
        exact s_zret0 X hr (dk okd_X2_hasLetters 12 rfl) (by decide) rfl rfl
      · refine s_run X ok_X2_hasLetters 13 1 (pc' := 34) (vs' := [some (.ref p0), some (.int p1), some (.ref p2), some (.int p3), some (.int v3), some (.int x5)]) (st' := [.ref p0]) rfl ?_
        refine s_getR X fl_X2_9 t0_ (dk okd_X2_hasLetters 7 rfl) (fun a8 (t9 : tT C a8 12) => ?_)
        refine s_run X ok_X2_hasLetters 14 5 (pc' := 44) (vs' := [some (.ref p0), some (.int p1), some (.ref p2), some (.int p3), some (.int v3), some (.int x5)]) (st' := [.int ((p1 * 10) + x5), .ref a8]) rfl ?_
        refine s_bald X t9 (dk okd_X2_hasLetters 8 rfl) (fun v10 => ?_)
        refine s_run X ok_X2_hasLetters 19 4 (pc' := 50) (vs' := [some (.ref p0), some (.int p1), some (.ref p2), some (.int p3), some (.int v3), some (.int x5)]) (st' := [.int (p3 + x5), .ref p2, .int v10]) rfl ?_
        refine s_bald X t2_ (dk okd_X2_hasLetters 9 rfl) (fun v11 => ?_)
        refine s_icmp_eq (tgt := 56) X (dk okd_X2_hasLetters 10 rfl) (by decide) ?_ ?_
        · refine s_run X ok_X2_hasLetters 24 2 (pc' := 26) (vs' := [some (.ref p0), some (.int p1), some (.ref p2), some (.int p3), some (.int v3), some (.int (x5 + 1))]) (st' := []) rfl ?_
          exact h7 (x5 + 1)
        · refine s_run X ok_X2_hasLetters 23 1 (pc' := 55) (vs' := [some (.ref p0), some (.int p1), some (.ref p2), some (.int p3), some (.int v3), some (.int x5)]) (st' := [.int 0]) rfl ?_
          exact s_zret0 X hr (dk okd_X2_hasLetters 11 rfl) (by decide) rfl rfl
    · refine s_run X ok_X2_hasLetters 8 1 (pc' := 22) (vs' := [some (.ref p0), some (.int p1), some (.ref p2), some (.int p3), some (.int v3), none]) (st' := [.int 0]) rfl ?_
      exact s_zret0 X hr (dk okd_X2_hasLetters 5 rfl) (by decide) rfl rfl
def tab_X2_lowerBalance : List En := [(0, 8, 0, 0), (4, 4, 1, 0), (5, 37, 0, 0), (7, 6, 2, 0), (8, 24, 0, 0), (10, 8, 0, 0), (14, 4, 1, 0)]
theorem ok_X2_lowerBalance : tab_X2_lowerBalance.all (okE cX2_lowerBalance) = true := by decide +kernel
def ed_X2_lowerBalance : List (Nat × Instr × Nat) := [(1, .getfield 34, 3), (6, .laload, 1), (9, .lastore, 1), (11, .getfield 34, 3), (15, .laload, 1), (16, .lreturn, 1)]
theorem okd_X2_lowerBalance : ed_X2_lowerBalance.all (okD cX2_lowerBalance) = true := by decide +kernel
def f_X2_lowerBalance (S : St) (p0 : Nat) (p1 : Int32) (p2 : Int64) : Option (Int64 × St) := lt (gR S p0 7) fun (a1 : Nat) => ldJ S a1 p1 fun (v3 : Int64) => stJ S a1 p1 (v3 - p2) fun (S4 : St) => lt (gR S4 p0 7) fun (a5 : Nat) => ldJ S4 a5 p1 fun (v7 : Int64) => some (v7, S4)
set_option maxHeartbeats 4000000 in
set_option maxRecDepth 100000 in
theorem c_X2_lowerBalance (S : St) (p0 : Nat) (p1 : Int32) (p2 : Int64) : Ct yX2_lowerBalance cX2_lowerBalance 4 (some .long) 0 0 [.ref p0, .int p1, .long p2] [(p0, 2)] S (f_X2_lowerBalance S p0 p1 p2) oLS sL := by
  refine Ct_of RX2 rfl (by decide) (Nat.le_of_ble_eq_true rfl) 0 (vs := [some (.ref p0), some (.int p1), some (.long p2), none]) rfl (fun C X E hr ht => ?_)
  have t0_ : tT C p0 2 := ht (p0, 2) (by simp)
  unfold f_X2_lowerBalance
  refine s_run X ok_X2_lowerBalance 0 1 (pc' := 1) (vs' := [some (.ref p0), some (.int p1), some (.long p2), none]) (st' := [.ref p0]) rfl ?_
  refine s_getR X fl_X2_34 t0_ (dk okd_X2_lowerBalance 0 rfl) (fun a1 (t2 : tT C a1 14) => ?_)
  refine s_run X ok_X2_lowerBalance 1 2 (pc' := 6) (vs' := [some (.ref p0), some (.int p1), some (.long p2), none]) (st' := [.int p1, .ref a1, .int p1, .ref a1]) rfl ?_
  refine s_lald X t2 (dk okd_X2_lowerBalance 1 rfl) (fun v3 => ?_)
  refine s_run X ok_X2_lowerBalance 3 2 (pc' := 9) (vs' := [some (.ref p0), some (.int p1), some (.long p2), none]) (st' := [.long (v3 - p2), .int p1, .ref a1]) rfl ?_
  refine s_last X t2 (dk okd_X2_lowerBalance 2 rfl) (fun S4 => ?_)
  refine s_run X ok_X2_lowerBalance 5 1 (pc' := 11) (vs' := [some (.ref p0), some (.int p1), some (.long p2), none]) (st' := [.ref p0]) rfl ?_
  refine s_getR X fl_X2_34 t0_ (dk okd_X2_lowerBalance 3 rfl) (fun a5 (t6 : tT C a5 14) => ?_)
  refine s_run X ok_X2_lowerBalance 6 1 (pc' := 15) (vs' := [some (.ref p0), some (.int p1), some (.long p2), none]) (st' := [.int p1, .ref a5]) rfl ?_
  refine s_lald X t6 (dk okd_X2_lowerBalance 4 rfl) (fun v7 => ?_)
  exact s_lret X hr (dk okd_X2_lowerBalance 5 rfl) rfl rfl
def tab_X3_contains : List En := [(0, 4, 0, 0), (4, 4, 0, 0), (5, 1, 0, 30), (10, 4, 1, 0), (14, 4, 1, 0), (15, 1, 0, 30), (20, 0, 0, 1), (21, 41, 25, 0), (24, 0, 0, 0)]
theorem ok_X3_contains : tab_X3_contains.all (okE cX3_contains) = true := by decide +kernel
def ed_X3_contains : List (Nat × Instr × Nat) := [(1, .ifCond .lt 23, 3), (7, .if_icmp .ge 17, 3), (11, .ifCond .lt 13, 3), (17, .if_icmp .ge 7, 3), (25, .ireturn, 1)]
theorem okd_X3_contains : ed_X3_contains.all (okD cX3_contains) = true := by decide +kernel
def f_X3_contains (S : St) (p0 : Int32) (p1 : Int32) : Option (Int32) := jn (κ := Option (Int32)) (some 0) fun k1 => if p0 < 0 then (k1) else (if 30 ≤ p0 then (k1) else (if p1 < 0 then (k1) else (if 30 ≤ p1 then (k1) else (some 1))))
set_option maxHeartbeats 4000000 in
set_option maxRecDepth 100000 in
theorem c_X3_contains (S : St) (p0 : Int32) (p1 : Int32) : Ct yX3_contains cX3_contains 2 (some .boolean) 0 0 [.int p0, .int p1] [] S (f_X3_contains S p0 p1) oI (fun _ => S) := by
  refine Ct_of RX3 rfl (by decide) (Nat.le_of_ble_eq_true rfl) 0 (vs := [some (.int p0), some (.int p1)]) rfl (fun C X E hr ht => ?_)
  unfold f_X3_contains
  refine s_run X ok_X3_contains 0 1 (pc' := 1) (vs' := [some (.int p0), some (.int p1)]) (st' := [.int p0]) rfl ?_
  refine s_jn (κ := Option (Int32)) (fun k1 => Jd C 2 (QJ C oI (fun _ => S)) S 24 [none, none] [] k1) ?_ (fun k1 h2 => ?_)
  · refine s_run X ok_X3_contains 8 1 (pc' := 25) (vs' := [none, none]) (st' := [.int 0]) rfl ?_
    exact s_zret0 X hr (dk okd_X3_contains 4 rfl) (by decide) rfl rfl
  · refine s_if_lt (tgt := 24) X (dk okd_X3_contains 0 rfl) (by decide) ?_ ?_
    · exact s_less [false, false] rfl (h2)
    · refine s_run X ok_X3_contains 1 2 (pc' := 7) (vs' := [some (.int p0), some (.int p1)]) (st' := [.int 30, .int p0]) rfl ?_
      refine s_icmp_ge (tgt := 24) X (dk okd_X3_contains 1 rfl) (by decide) ?_ ?_
      · exact s_less [false, false] rfl (h2)
      · refine s_run X ok_X3_contains 3 1 (pc' := 11) (vs' := [some (.int p0), some (.int p1)]) (st' := [.int p1]) rfl ?_
        refine s_if_lt (tgt := 24) X (dk okd_X3_contains 2 rfl) (by decide) ?_ ?_
        · exact s_less [false, false] rfl (h2)
        · refine s_run X ok_X3_contains 4 2 (pc' := 17) (vs' := [some (.int p0), some (.int p1)]) (st' := [.int 30, .int p1]) rfl ?_
          refine s_icmp_ge (tgt := 24) X (dk okd_X3_contains 3 rfl) (by decide) ?_ ?_
          · exact s_less [false, false] rfl (h2)
          · refine s_run X ok_X3_contains 6 2 (pc' := 25) (vs' := [some (.int p0), some (.int p1)]) (st' := [.int 1]) rfl ?_
            exact s_zret0 X hr (dk okd_X3_contains 4 rfl) (by decide) rfl rfl
def tab_X3_ownerAt : List En := [(0, 4, 1, 0), (1, 4, 2, 0), (8, 8, 0, 0), (12, 4, 2, 0), (13, 1, 0, 30), (15, 19, 0, 0), (16, 4, 1, 0), (17, 17, 0, 0), (19, 41, 23, 0), (22, 0, 0, (-1))]
theorem ok_X3_ownerAt : tab_X3_ownerAt.all (okE cX3_ownerAt) = true := by decide +kernel
def ed_X3_ownerAt : List (Nat × Instr × Nat) := [(2, .invokestatic 39, 3), (5, .ifCond .eq 17, 3), (9, .getfield 9, 3), (18, .iaload, 1), (23, .ireturn, 1)]
theorem okd_X3_ownerAt : ed_X3_ownerAt.all (okD cX3_ownerAt) = true := by decide +kernel
def f_X3_ownerAt (S : St) (p0 : Nat) (p1 : Int32) (p2 : Int32) : Option (Int32) := cl (f_X3_contains S p1 p2) fun (v1 : Int32) => if v1 = 0 then (some (-1)) else (lt (gR S p0 0) fun (a2 : Nat) => ldI S a2 ((p2 * 30) + p1) fun (v4 : Int32) => some v4)
set_option maxHeartbeats 4000000 in
set_option maxRecDepth 100000 in
theorem c_X3_ownerAt (S : St) (p0 : Nat) (p1 : Int32) (p2 : Int32) : Ct yX3_ownerAt cX3_ownerAt 3 (some .int) 1 21 [.ref p0, .int p1, .int p2] [(p0, 3)] S (f_X3_ownerAt S p0 p1 p2) oI (fun _ => S) := by
  refine Ct_of RX3 rfl (by decide) (Nat.le_of_ble_eq_true rfl) 0 (vs := [some (.ref p0), some (.int p1), some (.int p2)]) rfl (fun C X E hr ht => ?_)
  have t0_ : tT C p0 3 := ht (p0, 3) (by simp)
  unfold f_X3_ownerAt
  refine s_run X ok_X3_ownerAt 0 2 (pc' := 2) (vs' := [some (.ref p0), some (.int p1), some (.int p2)]) (st' := [.int p2, .int p1]) rfl ?_
  refine s_callS (rest := []) X E ms_X3_39 (c_X3_contains S p1 p2) (ta0) rfl rfl (Nat.le_of_ble_eq_true rfl) (Nat.le_of_ble_eq_true rfl) (Nat.le_of_ble_eq_true rfl) (dk okd_X3_ownerAt 0 rfl) (st' := fun v1 => [.int v1]) (fun _ => rfl) (fun v1 => ?_)
  refine s_if_eq (tgt := 22) X (dk okd_X3_ownerAt 1 rfl) (by decide) ?_ ?_
  · refine s_run X ok_X3_ownerAt 9 1 (pc' := 23) (vs' := [some (.ref p0), some (.int p1), some (.int p2)]) (st' := [.int (-1)]) rfl ?_
    exact s_iret X hr (dk okd_X3_ownerAt 4 rfl) rfl rfl
  · refine s_run X ok_X3_ownerAt 2 1 (pc' := 9) (vs' := [some (.ref p0), some (.int p1), some (.int p2)]) (st' := [.ref p0]) rfl ?_
    refine s_getR X fl_X3_9 t0_ (dk okd_X3_ownerAt 2 rfl) (fun a2 (t3 : tT C a2 13) => ?_)
    refine s_run X ok_X3_ownerAt 3 5 (pc' := 18) (vs' := [some (.ref p0), some (.int p1), some (.int p2)]) (st' := [.int ((p2 * 30) + p1), .ref a2]) rfl ?_
    refine s_iald X t3 (dk okd_X3_ownerAt 3 rfl) (fun v4 => ?_)
    refine s_run X ok_X3_ownerAt 8 1 (pc' := 23) (vs' := [some (.ref p0), some (.int p1), some (.int p2)]) (st' := [.int v4]) rfl ?_
    exact s_iret X hr (dk okd_X3_ownerAt 4 rfl) rfl rfl
def tab_X3_belongs : List En := [(0, 4, 2, 0), (1, 4, 3, 0), (8, 8, 0, 0), (12, 4, 3, 0), (13, 1, 0, 30), (15, 19, 0, 0), (16, 4, 2, 0), (17, 17, 0, 0), (19, 4, 1, 0), (23, 0, 0, 1), (24, 41, 28, 0), (27, 0, 0, 0)]
theorem ok_X3_belongs : tab_X3_belongs.all (okE cX3_belongs) = true := by decide +kernel
def ed_X3_belongs : List (Nat × Instr × Nat) := [(2, .invokestatic 39, 3), (5, .ifCond .eq 22, 3), (9, .getfield 9, 3), (18, .iaload, 1), (20, .if_icmp .ne 7, 3), (28, .ireturn, 1)]
theorem okd_X3_belongs : ed_X3_belongs.all (okD cX3_belongs) = true := by decide +kernel
def f_X3_belongs (S : St) (p0 : Nat) (p1 : Int32) (p2 : Int32) (p3 : Int32) : Option (Int32) := cl (f_X3_contains S p2 p3) fun (v1 : Int32) => jn (κ := Option (Int32)) (some 0) fun k2 => if v1 = 0 then (k2) else (lt (gR S p0 0) fun (a4 : Nat) => ldI S a4 ((p3 * 30) + p2) fun (v6 : Int32) => if v6 = p1 then (some 1) else (k2))
set_option maxHeartbeats 4000000 in
set_option maxRecDepth 100000 in
theorem c_X3_belongs (S : St) (p0 : Nat) (p1 : Int32) (p2 : Int32) (p3 : Int32) : Ct yX3_belongs cX3_belongs 4 (some .boolean) 1 21 [.ref p0, .int p1, .int p2, .int p3] [(p0, 3)] S (f_X3_belongs S p0 p1 p2 p3) oI (fun _ => S) := by
  refine Ct_of RX3 rfl (by decide) (Nat.le_of_ble_eq_true rfl) 0 (vs := [some (.ref p0), some (.int p1), some (.int p2), some (.int p3)]) rfl (fun C X E hr ht => ?_)
  have t0_ : tT C p0 3 := ht (p0, 3) (by simp)
  unfold f_X3_belongs
  refine s_run X ok_X3_belongs 0 2 (pc' := 2) (vs' := [some (.ref p0), some (.int p1), some (.int p2), some (.int p3)]) (st' := [.int p3, .int p2]) rfl ?_
  refine s_callS (rest := []) X E ms_X3_39 (c_X3_contains S p2 p3) (ta0) rfl rfl (Nat.le_of_ble_eq_true rfl) (Nat.le_of_ble_eq_true rfl) (Nat.le_of_ble_eq_true rfl) (dk okd_X3_belongs 0 rfl) (st' := fun v1 => [.int v1]) (fun _ => rfl) (fun v1 => ?_)
  refine s_jn (κ := Option (Int32)) (fun k2 => Jd C 4 (QJ C oI (fun _ => S)) S 27 [none, none, none, none] [] k2) ?_ (fun k2 h3 => ?_)
  · refine s_run X ok_X3_belongs 11 1 (pc' := 28) (vs' := [none, none, none, none]) (st' := [.int 0]) rfl ?_
    exact s_zret0 X hr (dk okd_X3_belongs 5 rfl) (by decide) rfl rfl
  · refine s_if_eq (tgt := 27) X (dk okd_X3_belongs 1 rfl) (by decide) ?_ ?_
    · exact s_less [false, false, false, false] rfl (h3)
    · refine s_run X ok_X3_belongs 2 1 (pc' := 9) (vs' := [some (.ref p0), some (.int p1), some (.int p2), some (.int p3)]) (st' := [.ref p0]) rfl ?_
      refine s_getR X fl_X3_9 t0_ (dk okd_X3_belongs 2 rfl) (fun a4 (t5 : tT C a4 13) => ?_)
      refine s_run X ok_X3_belongs 3 5 (pc' := 18) (vs' := [some (.ref p0), some (.int p1), some (.int p2), some (.int p3)]) (st' := [.int ((p3 * 30) + p2), .ref a4]) rfl ?_
      refine s_iald X t5 (dk okd_X3_belongs 3 rfl) (fun v6 => ?_)
      refine s_run X ok_X3_belongs 8 1 (pc' := 20) (vs' := [some (.ref p0), some (.int p1), some (.int p2), some (.int p3)]) (st' := [.int p1, .int v6]) rfl ?_
      refine s_icmp_ne (tgt := 27) X (dk okd_X3_belongs 4 rfl) (by decide) ?_ ?_
      · exact s_less [false, false, false, false] rfl (h3)
      · refine s_run X ok_X3_belongs 9 2 (pc' := 28) (vs' := [some (.ref p0), some (.int p1), some (.int p2), some (.int p3)]) (st' := [.int 1]) rfl ?_
        exact s_zret0 X hr (dk okd_X3_belongs 5 rfl) (by decide) rfl rfl
def tab_X3_anyOfOthers : List En := [(0, 4, 3, 0), (1, 11, 6, 0), (3, 5, 6, 0), (5, 5, 5, 0), (10, 4, 2, 0), (11, 11, 7, 0), (13, 5, 7, 0), (15, 5, 4, 0), (20, 8, 0, 0), (21, 5, 7, 0), (23, 5, 6, 0), (28, 11, 8, 0), (30, 5, 8, 0), (32, 0, 0, (-1)), (36, 5, 8, 0), (38, 4, 1, 0), (42, 0, 0, 1), (44, 16, 7, 1), (47, 41, 13, 0), (50, 16, 6, 1), (53, 41, 3, 0), (56, 0, 0, 0)]
theorem ok_X3_anyOfOthers : tab_X3_anyOfOthers.all (okE cX3_anyOfOthers) = true := by decide +kernel
def ed_X3_anyOfOthers : List (Nat × Instr × Nat) := [(7, .if_icmp .ge 49, 3), (17, .if_icmp .ge 33, 3), (25, .invokevirtual 43, 3), (33, .if_icmp .eq 11, 3), (39, .if_icmp .eq 5, 3), (43, .ireturn, 1), (57, .ireturn, 1)]
theorem okd_X3_anyOfOthers : ed_X3_anyOfOthers.all (okD cX3_anyOfOthers) = true := by decide +kernel
def f_X3_anyOfOthers (S : St) (p0 : Nat) (p1 : Int32) (p2 : Int32) (p3 : Int32) (p4 : Int32) (p5 : Int32) : Option (Int32) := lp (κ := Int32 → Option (Int32)) (fun _ => none) (fun k2 x1 => if p5 ≤ x1 then (some 0) else (jn (κ := Option (Int32)) (k2 (x1 + 1)) fun k4 => lp (κ := Int32 → Option (Int32)) (fun _ => none) (fun k7 x6 => if p4 ≤ x6 then (k4) else (cl (f_X3_ownerAt S p0 x6 x1) fun (v9 : Int32) => jn (κ := Option (Int32)) (k7 (x6 + 1)) fun k10 => if v9 = (-1) then (k10) else (if v9 = p1 then (k10) else (some 1)))) FU p2)) FU p3
set_option maxHeartbeats 4000000 in
set_option maxRecDepth 100000 in
theorem c_X3_anyOfOthers (S : St) (p0 : Nat) (p1 : Int32) (p2 : Int32) (p3 : Int32) (p4 : Int32) (p5 : Int32) : Ct yX3_anyOfOthers cX3_anyOfOthers 9 (some .boolean) 2 43 [.ref p0, .int p1, .int p2, .int p3, .int p4, .int p5] [(p0, 3)] S (f_X3_anyOfOthers S p0 p1 p2 p3 p4 p5) oI (fun _ => S) := by
  refine Ct_of RX3 rfl (by decide) (Nat.le_of_ble_eq_true rfl) 3 (vs := [some (.ref p0), some (.int p1), some (.int p2), some (.int p3), some (.int p4), some (.int p5), none, none, none]) rfl (fun C X E hr ht => ?_)
  have t0_ : tT C p0 3 := ht (p0, 3) (by simp)
  unfold f_X3_anyOfOthers
  refine s_run X ok_X3_anyOfOthers 0 2 (pc' := 3) (vs' := [some (.ref p0), some (.int p1), some (.int p2), some (.int p3), some (.int p4), some (.int p5), some (.int p3), none, none]) (st' := []) rfl ?_
  refine s_less [true, true, true, false, true, true, true, false, false] (vs' := [some (.ref p0), some (.int p1), some (.int p2), none, some (.int p4), some (.int p5), some (.int p3), none, none]) rfl ?_
  refine s_lp (κ := Int32 → Option (Int32)) (fun k2 => ∀ (x1 : Int32), Jd C 9 (QJ C oI (fun _ => S)) S 3 [some (.ref p0), some (.int p1), some (.int p2), none, some (.int p4), some (.int p5), some (.int x1), none, none] [] (k2 x1)) (fun _ => s_none) (fun k2 h3 x1 => ?_) FU p3
  refine s_run X ok_X3_anyOfOthers 2 2 (pc' := 7) (vs' := [some (.ref p0), some (.int p1), some (.int p2), none, some (.int p4), some (.int p5), some (.int x1), none, none]) (st' := [.int p5, .int x1]) rfl ?_
  refine s_icmp_ge (tgt := 56) X (dk okd_X3_anyOfOthers 0 rfl) (by decide) ?_ ?_
  · refine s_run X ok_X3_anyOfOthers 21 1 (pc' := 57) (vs' := [some (.ref p0), some (.int p1), some (.int p2), none, some (.int p4), some (.int p5), some (.int x1), none, none]) (st' := [.int 0]) rfl ?_
    exact s_zret0 X hr (dk okd_X3_anyOfOthers 6 rfl) (by decide) rfl rfl
  · refine s_run X ok_X3_anyOfOthers 4 2 (pc' := 13) (vs' := [some (.ref p0), some (.int p1), some (.int p2), none, some (.int p4), some (.int p5), some (.int x1), some (.int p2), none]) (st' := []) rfl ?_
    refine s_jn (κ := Option (Int32)) (fun k4 => Jd C 9 (QJ C oI (fun _ => S)) S 50 [some (.ref p0), some (.int p1), some (.int p2), none, some (.int p4), some (.int p5), some (.int x1), none, none] [] k4) ?_ (fun k4 h5 => ?_)
    · refine s_run X ok_X3_anyOfOthers 19 2 (pc' := 3) (vs' := [some (.ref p0), some (.int p1), some (.int p2), none, some (.int p4), some (.int p5), some (.int (x1 + 1)), none, none]) (st' := []) rfl ?_
      exact h3 (x1 + 1)
    · refine s_lp (κ := Int32 → Option (Int32)) (fun k7 => ∀ (x6 : Int32), Jd C 9 (QJ C oI (fun _ => S)) S 13 [some (.ref p0), some (.int p1), some (.int p2), none, some (.int p4), some (.int p5), some (.int x1), some (.int x6), none] [] (k7 x6)) (fun _ => s_none) (fun k7 h8 x6 => ?_) FU p2
      refine s_run X ok_X3_anyOfOthers 6 2 (pc' := 17) (vs' := [some (.ref p0), some (.int p1), some (.int p2), none, some (.int p4), some (.int p5), some (.int x1), some (.int x6), none]) (st' := [.int p4, .int x6]) rfl ?_
      refine s_icmp_ge (tgt := 50) X (dk okd_X3_anyOfOthers 1 rfl) (by decide) ?_ ?_
      · exact s_less [true, true, true, false, true, true, true, false, false] rfl (h5)
      · refine s_run X ok_X3_anyOfOthers 8 3 (pc' := 25) (vs' := [some (.ref p0), some (.int p1), some (.int p2), none, some (.int p4), some (.int p5), some (.int x1), some (.int x6), none]) (st' := [.int x1, .int x6, .ref p0]) rfl ?_
        refine s_callV (rest := []) X E mv_X3_43 (c_X3_ownerAt S p0 x6 x1) (ta1 t0_) rfl (by decide) t0_ rfl rfl (Nat.le_of_ble_eq_true rfl) (Nat.le_of_ble_eq_true rfl) (Nat.le_of_ble_eq_true rfl) (dk okd_X3_anyOfOthers 2 rfl) (st' := fun v9 => [.int v9]) (fun _ => rfl) (fun v9 => ?_)
        refine s_run X ok_X3_anyOfOthers 11 3 (pc' := 33) (vs' := [some (.ref p0), some (.int p1), some (.int p2), none, some (.int p4), some (.int p5), some (.int x1), some (.int x6), some (.int v9)]) (st' := [.int (-1), .int v9]) rfl ?_
        refine s_jn (κ := Option (Int32)) (fun k10 => Jd C 9 (QJ C oI (fun _ => S)) S 44 [some (.ref p0), some (.int p1), some (.int p2), none, some (.int p4), some (.int p5), some (.int x1), some (.int x6), none] [] k10) ?_ (fun k10 h11 => ?_)
        · refine s_run X ok_X3_anyOfOthers 17 2 (pc' := 13) (vs' := [some (.ref p0), some (.int p1), some (.int p2), none, some (.int p4), some (.int p5), some (.int x1), some (.int (x6 + 1)), none]) (st' := []) rfl ?_
          exact h8 (x6 + 1)
        · refine s_icmp_eq (tgt := 44) X (dk okd_X3_anyOfOthers 3 rfl) (by decide) ?_ ?_
          · exact s_less [true, true, true, false, true, true, true, true, false] rfl (h11)
          · refine s_run X ok_X3_anyOfOthers 14 2 (pc' := 39) (vs' := [some (.ref p0), some (.int p1), some (.int p2), none, some (.int p4), some (.int p5), some (.int x1), some (.int x6), some (.int v9)]) (st' := [.int p1, .int v9]) rfl ?_
            refine s_icmp_eq (tgt := 44) X (dk okd_X3_anyOfOthers 4 rfl) (by decide) ?_ ?_
            · exact s_less [true, true, true, false, true, true, true, true, false] rfl (h11)
            · refine s_run X ok_X3_anyOfOthers 16 1 (pc' := 43) (vs' := [some (.ref p0), some (.int p1), some (.int p2), none, some (.int p4), some (.int p5), some (.int x1), some (.int x6), some (.int v9)]) (st' := [.int 1]) rfl ?_
              exact s_zret0 X hr (dk okd_X3_anyOfOthers 5 rfl) (by decide) rfl rfl
def tab_X3_move : List En := [(0, 0, 0, 0), (1, 11, 7, 0), (3, 5, 4, 0), (5, 11, 8, 0), (7, 5, 8, 0), (9, 5, 6, 0), (14, 4, 3, 0), (15, 11, 9, 0), (17, 5, 9, 0), (19, 5, 5, 0), (24, 8, 0, 0), (25, 4, 1, 0), (26, 5, 9, 0), (28, 5, 8, 0), (36, 8, 0, 0), (40, 5, 8, 0), (42, 1, 0, 30), (44, 19, 0, 0), (45, 5, 9, 0), (47, 17, 0, 0), (48, 4, 2, 0), (50, 16, 7, 1), (53, 16, 9, 1), (56, 41, 17, 0), (59, 16, 8, 1), (62, 41, 7, 0), (65, 5, 7, 0)]
theorem ok_X3_move : tab_X3_move.all (okE cX3_move) = true := by decide +kernel
def ed_X3_move : List (Nat × Instr × Nat) := [(11, .if_icmp .ge 54, 3), (21, .if_icmp .ge 38, 3), (30, .invokevirtual 47, 3), (33, .ifCond .eq 20, 3), (37, .getfield 9, 3), (49, .iastore, 1), (67, .ireturn, 1)]
theorem okd_X3_move : ed_X3_move.all (okD cX3_move) = true := by decide +kernel
def f_X3_move (S : St) (p0 : Nat) (p1 : Int32) (p2 : Int32) (p3 : Int32) (p4 : Int32) (p5 : Int32) (p6 : Int32) : Option (Int32 × St) := jn (κ := Int32 → St → Option (Int32 × St)) (fun x1 S2 => some (x1, S2)) fun k3 => lp (κ := Int32 → Int32 → St → Option (Int32 × St)) (fun _ _ _ => none) (fun k8 x5 x6 S7 => if p6 ≤ x6 then (k3 x5 S7) else (jn (κ := Int32 → St → Option (Int32 × St)) (fun x10 S11 => k8 x10 (x6 + 1) S11) fun k12 => lp (κ := Int32 → Int32 → St → Option (Int32 × St)) (fun _ _ _ => none) (fun k17 x14 x15 S16 => if p5 ≤ x15 then (k12 x14 S16) else (cl (f_X3_belongs S16 p0 p1 x15 x6) fun (v19 : Int32) => jn (κ := Int32 → St → Option (Int32 × St)) (fun x20 S21 => k17 x20 (x15 + 1) S21) fun k22 => if v19 = 0 then (k22 x14 S16) else (lt (gR S16 p0 0) fun (a24 : Nat) => stI S16 a24 ((x6 * 30) + x15) p2 fun (S26 : St) => k22 (x14 + 1) S26))) FU x5 p3 S7)) FU 0 p4 S
set_option maxHeartbeats 4000000 in
set_option maxRecDepth 100000 in
theorem c_X3_move (S : St) (p0 : Nat) (p1 : Int32) (p2 : Int32) (p3 : Int32) (p4 : Int32) (p5 : Int32) (p6 : Int32) : Ct yX3_move cX3_move 10 (some .int) 2 44 [.ref p0, .int p1, .int p2, .int p3, .int p4, .int p5, .int p6] [(p0, 3)] S (f_X3_move S p0 p1 p2 p3 p4 p5 p6) oIS sS := by
  refine Ct_of RX3 rfl (by decide) (Nat.le_of_ble_eq_true rfl) 3 (vs := [some (.ref p0), some (.int p1), some (.int p2), some (.int p3), some (.int p4), some (.int p5), some (.int p6), none, none, none]) rfl (fun C X E hr ht => ?_)
  have t0_ : tT C p0 3 := ht (p0, 3) (by simp)
  unfold f_X3_move
  refine s_run X ok_X3_move 0 4 (pc' := 7) (vs' := [some (.ref p0), some (.int p1), some (.int p2), some (.int p3), some (.int p4), some (.int p5), some (.int p6), some (.int 0), some (.int p4), none]) (st' := []) rfl ?_
  refine s_jn (κ := Int32 → St → Option (Int32 × St)) (fun k3 => ∀ (x1 : Int32) (S2 : St), Jd C 10 (QJ C oIS sS) S2 65 [none, none, none, none, none, none, none, some (.int x1), none, none] [] (k3 x1 S2)) (fun x1 S2 => ?_) (fun k3 h4 => ?_)
  · refine s_run X ok_X3_move 26 1 (pc' := 67) (vs' := [none, none, none, none, none, none, none, some (.int x1), none, none]) (st' := [.int x1]) rfl ?_
    exact s_iret X hr (dk okd_X3_move 6 rfl) rfl rfl
  · refine s_less [true, true, true, true, false, true, true, true, true, false] (vs' := [some (.ref p0), some (.int p1), some (.int p2), some (.int p3), none, some (.int p5), some (.int p6), some (.int 0), some (.int p4), none]) rfl ?_
    refine s_lp (κ := Int32 → Int32 → St → Option (Int32 × St)) (fun k8 => ∀ (x5 : Int32) (x6 : Int32) (S7 : St), Jd C 10 (QJ C oIS sS) S7 7 [some (.ref p0), some (.int p1), some (.int p2), some (.int p3), none, some (.int p5), some (.int p6), some (.int x5), some (.int x6), none] [] (k8 x5 x6 S7)) (fun _ _ _ => s_none) (fun k8 h9 x5 x6 S7 => ?_) FU 0 p4 S
    refine s_run X ok_X3_move 4 2 (pc' := 11) (vs' := [some (.ref p0), some (.int p1), some (.int p2), some (.int p3), none, some (.int p5), some (.int p6), some (.int x5), some (.int x6), none]) (st' := [.int p6, .int x6]) rfl ?_
    refine s_icmp_ge (tgt := 65) X (dk okd_X3_move 0 rfl) (by decide) ?_ ?_
    · exact s_less [false, false, false, false, false, false, false, true, false, false] rfl (h4 x5 S7)
    · refine s_run X ok_X3_move 6 2 (pc' := 17) (vs' := [some (.ref p0), some (.int p1), some (.int p2), some (.int p3), none, some (.int p5), some (.int p6), some (.int x5), some (.int x6), some (.int p3)]) (st' := []) rfl ?_
      refine s_jn (κ := Int32 → St → Option (Int32 × St)) (fun k12 => ∀ (x10 : Int32) (S11 : St), Jd C 10 (QJ C oIS sS) S11 59 [some (.ref p0), some (.int p1), some (.int p2), some (.int p3), none, some (.int p5), some (.int p6), some (.int x10), some (.int x6), none] [] (k12 x10 S11)) (fun x10 S11 => ?_) (fun k12 h13 => ?_)
      · refine s_run X ok_X3_move 24 2 (pc' := 7) (vs' := [some (.ref p0), some (.int p1), some (.int p2), some (.int p3), none, some (.int p5), some (.int p6), some (.int x10), some (.int (x6 + 1)), none]) (st' := []) rfl ?_
        exact h9 x10 (x6 + 1) S11
      · refine s_lp (κ := Int32 → Int32 → St → Option (Int32 × St)) (fun k17 => ∀ (x14 : Int32) (x15 : Int32) (S16 : St), Jd C 10 (QJ C oIS sS) S16 17 [some (.ref p0), some (.int p1), some (.int p2), some (.int p3), none, some (.int p5), some (.int p6), some (.int x14), some (.int x6), some (.int x15)] [] (k17 x14 x15 S16)) (fun _ _ _ => s_none) (fun k17 h18 x14 x15 S16 => ?_) FU x5 p3 S7
        refine s_run X ok_X3_move 8 2 (pc' := 21) (vs' := [some (.ref p0), some (.int p1), some (.int p2), some (.int p3), none, some (.int p5), some (.int p6), some (.int x14), some (.int x6), some (.int x15)]) (st' := [.int p5, .int x15]) rfl ?_
        refine s_icmp_ge (tgt := 59) X (dk okd_X3_move 1 rfl) (by decide) ?_ ?_
        · exact s_less [true, true, true, true, false, true, true, true, true, false] rfl (h13 x14 S16)
        · refine s_run X ok_X3_move 10 4 (pc' := 30) (vs' := [some (.ref p0), some (.int p1), some (.int p2), some (.int p3), none, some (.int p5), some (.int p6), some (.int x14), some (.int x6), some (.int x15)]) (st' := [.int x6, .int x15, .int p1, .ref p0]) rfl ?_
          refine s_callV (rest := []) X E mv_X3_47 (c_X3_belongs S16 p0 p1 x15 x6) (ta1 t0_) rfl (by decide) t0_ rfl rfl (Nat.le_of_ble_eq_true rfl) (Nat.le_of_ble_eq_true rfl) (Nat.le_of_ble_eq_true rfl) (dk okd_X3_move 2 rfl) (st' := fun v19 => [.int v19]) (fun _ => rfl) (fun v19 => ?_)
          refine s_jn (κ := Int32 → St → Option (Int32 × St)) (fun k22 => ∀ (x20 : Int32) (S21 : St), Jd C 10 (QJ C oIS sS) S21 53 [some (.ref p0), some (.int p1), some (.int p2), some (.int p3), none, some (.int p5), some (.int p6), some (.int x20), some (.int x6), some (.int x15)] [] (k22 x20 S21)) (fun x20 S21 => ?_) (fun k22 h23 => ?_)
          · refine s_run X ok_X3_move 22 2 (pc' := 17) (vs' := [some (.ref p0), some (.int p1), some (.int p2), some (.int p3), none, some (.int p5), some (.int p6), some (.int x20), some (.int x6), some (.int (x15 + 1))]) (st' := []) rfl ?_
            exact h18 x20 (x15 + 1) S21
          · refine s_if_eq (tgt := 53) X (dk okd_X3_move 3 rfl) (by decide) ?_ ?_
            · exact h23 x14 S16
            · refine s_run X ok_X3_move 14 1 (pc' := 37) (vs' := [some (.ref p0), some (.int p1), some (.int p2), some (.int p3), none, some (.int p5), some (.int p6), some (.int x14), some (.int x6), some (.int x15)]) (st' := [.ref p0]) rfl ?_
              refine s_getR X fl_X3_9 t0_ (dk okd_X3_move 4 rfl) (fun a24 (t25 : tT C a24 13) => ?_)
              refine s_run X ok_X3_move 15 6 (pc' := 49) (vs' := [some (.ref p0), some (.int p1), some (.int p2), some (.int p3), none, some (.int p5), some (.int p6), some (.int x14), some (.int x6), some (.int x15)]) (st' := [.int p2, .int ((x6 * 30) + x15), .ref a24]) rfl ?_
              refine s_iast X t25 (dk okd_X3_move 5 rfl) (fun S26 => ?_)
              refine s_run X ok_X3_move 21 1 (pc' := 53) (vs' := [some (.ref p0), some (.int p1), some (.int p2), some (.int p3), none, some (.int p5), some (.int p6), some (.int (x14 + 1)), some (.int x6), some (.int x15)]) (st' := []) rfl ?_
              exact h23 (x14 + 1) S26
def tab_X3_sizeOf : List En := [(0, 0, 0, 0), (1, 10, 2, 0), (2, 0, 0, 0), (3, 10, 3, 0), (4, 4, 3, 0), (5, 2, 0, 900), (11, 8, 0, 0), (15, 4, 3, 0), (17, 4, 1, 0), (21, 16, 2, 1), (24, 16, 3, 1), (27, 41, 4, 0), (30, 4, 2, 0)]
theorem ok_X3_sizeOf : tab_X3_sizeOf.all (okE cX3_sizeOf) = true := by decide +kernel
def ed_X3_sizeOf : List (Nat × Instr × Nat) := [(8, .if_icmp .ge 22, 3), (12, .getfield 9, 3), (16, .iaload, 1), (18, .if_icmp .ne 6, 3), (31, .ireturn, 1)]
theorem okd_X3_sizeOf : ed_X3_sizeOf.all (okD cX3_sizeOf) = true := by decide +kernel
def f_X3_sizeOf (S : St) (p0 : Nat) (p1 : Int32) : Option (Int32) := jn (κ := Int32 → Option (Int32)) (fun x1 => some x1) fun k2 => lp (κ := Int32 → Int32 → Option (Int32)) (fun _ _ => none) (fun k6 x4 x5 => if 900 ≤ x5 then (k2 x4) else (lt (gR S p0 0) fun (a8 : Nat) => ldI S a8 x5 fun (v10 : Int32) => jn (κ := Int32 → Option (Int32)) (fun x11 => k6 x11 (x5 + 1)) fun k12 => if v10 = p1 then (k12 (x4 + 1)) else (k12 x4))) FU 0 0
set_option maxHeartbeats 4000000 in
set_option maxRecDepth 100000 in
theorem c_X3_sizeOf (S : St) (p0 : Nat) (p1 : Int32) : Ct yX3_sizeOf cX3_sizeOf 4 (some .int) 0 0 [.ref p0, .int p1] [(p0, 3)] S (f_X3_sizeOf S p0 p1) oI (fun _ => S) := by
  refine Ct_of RX3 rfl (by decide) (Nat.le_of_ble_eq_true rfl) 2 (vs := [some (.ref p0), some (.int p1), none, none]) rfl (fun C X E hr ht => ?_)
  have t0_ : tT C p0 3 := ht (p0, 3) (by simp)
  unfold f_X3_sizeOf
  refine s_run X ok_X3_sizeOf 0 4 (pc' := 4) (vs' := [some (.ref p0), some (.int p1), some (.int 0), some (.int 0)]) (st' := []) rfl ?_
  refine s_jn (κ := Int32 → Option (Int32)) (fun k2 => ∀ (x1 : Int32), Jd C 4 (QJ C oI (fun _ => S)) S 30 [none, none, some (.int x1), none] [] (k2 x1)) (fun x1 => ?_) (fun k2 h3 => ?_)
  · refine s_run X ok_X3_sizeOf 12 1 (pc' := 31) (vs' := [none, none, some (.int x1), none]) (st' := [.int x1]) rfl ?_
    exact s_iret X hr (dk okd_X3_sizeOf 4 rfl) rfl rfl
  · refine s_lp (κ := Int32 → Int32 → Option (Int32)) (fun k6 => ∀ (x4 : Int32) (x5 : Int32), Jd C 4 (QJ C oI (fun _ => S)) S 4 [some (.ref p0), some (.int p1), some (.int x4), some (.int x5)] [] (k6 x4 x5)) (fun _ _ => s_none) (fun k6 h7 x4 x5 => ?_) FU 0 0
    refine s_run X ok_X3_sizeOf 4 2 (pc' := 8) (vs' := [some (.ref p0), some (.int p1), some (.int x4), some (.int x5)]) (st' := [.int 900, .int x5]) rfl ?_
    refine s_icmp_ge (tgt := 30) X (dk okd_X3_sizeOf 0 rfl) (by decide) ?_ ?_
    · exact s_less [false, false, true, false] rfl (h3 x4)
    · refine s_run X ok_X3_sizeOf 6 1 (pc' := 12) (vs' := [some (.ref p0), some (.int p1), some (.int x4), some (.int x5)]) (st' := [.ref p0]) rfl ?_
      refine s_getR X fl_X3_9 t0_ (dk okd_X3_sizeOf 1 rfl) (fun a8 (t9 : tT C a8 13) => ?_)
      refine s_run X ok_X3_sizeOf 7 1 (pc' := 16) (vs' := [some (.ref p0), some (.int p1), some (.int x4), some (.int x5)]) (st' := [.int x5, .ref a8]) rfl ?_
      refine s_iald X t9 (dk okd_X3_sizeOf 2 rfl) (fun v10 => ?_)
      refine s_run X ok_X3_sizeOf 8 1 (pc' := 18) (vs' := [some (.ref p0), some (.int p1), some (.int x4), some (.int x5)]) (st' := [.int p1, .int v10]) rfl ?_
      refine s_jn (κ := Int32 → Option (Int32)) (fun k12 => ∀ (x11 : Int32), Jd C 4 (QJ C oI (fun _ => S)) S 24 [some (.ref p0), some (.int p1), some (.int x11), some (.int x5)] [] (k12 x11)) (fun x11 => ?_) (fun k12 h13 => ?_)
      · refine s_run X ok_X3_sizeOf 10 2 (pc' := 4) (vs' := [some (.ref p0), some (.int p1), some (.int x11), some (.int (x5 + 1))]) (st' := []) rfl ?_
        exact h7 x11 (x5 + 1)
      · refine s_icmp_ne (tgt := 24) X (dk okd_X3_sizeOf 3 rfl) (by decide) ?_ ?_
        · exact h13 x4
        · refine s_run X ok_X3_sizeOf 9 1 (pc' := 24) (vs' := [some (.ref p0), some (.int p1), some (.int (x4 + 1)), some (.int x5)]) (st' := []) rfl ?_
          exact h13 (x4 + 1)
def tab_X3_neighboursOf : List En := [(0, 4, 2, 0), (1, 1, 0, 30), (4, 10, 3, 0), (5, 4, 2, 0), (6, 1, 0, 30), (9, 11, 4, 0), (11, 8, 0, 0), (12, 4, 1, 0), (13, 4, 3, 0), (14, 0, 0, 1), (15, 18, 0, 0), (16, 5, 4, 0), (24, 0, 0, 1), (25, 41, 29, 0), (28, 0, 0, 0), (29, 8, 0, 0), (30, 4, 1, 0), (31, 4, 3, 0), (32, 0, 0, 1), (33, 17, 0, 0), (34, 5, 4, 0), (42, 0, 0, 1), (43, 41, 47, 0), (46, 0, 0, 0), (47, 17, 0, 0), (48, 8, 0, 0), (49, 4, 1, 0), (50, 4, 3, 0), (51, 5, 4, 0), (53, 0, 0, 1), (54, 18, 0, 0), (61, 0, 0, 1), (62, 41, 66, 0), (65, 0, 0, 0), (66, 17, 0, 0), (67, 8, 0, 0), (68, 4, 1, 0), (69, 4, 3, 0), (70, 5, 4, 0), (72, 0, 0, 1), (73, 17, 0, 0), (80, 0, 0, 1), (81, 41, 85, 0), (84, 0, 0, 0), (85, 17, 0, 0)]
theorem ok_X3_neighboursOf : tab_X3_neighboursOf.all (okE cX3_neighboursOf) = true := by decide +kernel
def ed_X3_neighboursOf : List (Nat × Instr × Nat) := [(3, .irem, 1), (8, .idiv, 1), (18, .invokevirtual 47, 3), (21, .ifCond .eq 7, 3), (36, .invokevirtual 47, 3), (39, .ifCond .eq 7, 3), (55, .invokevirtual 47, 3), (58, .ifCond .eq 7, 3), (74, .invokevirtual 47, 3), (77, .ifCond .eq 7, 3), (86, .ireturn, 1)]
theorem okd_X3_neighboursOf : ed_X3_neighboursOf.all (okD cX3_neighboursOf) = true := by decide +kernel
def f_X3_neighboursOf (S : St) (p0 : Nat) (p1 : Int32) (p2 : Int32) : Option (Int32) := lt (p2 - p2 / 30 * 30) fun (v1 : Int32) => lt (p2 / 30) fun (v2 : Int32) => cl (f_X3_belongs S p0 p1 (v1 - 1) v2) fun (v3 : Int32) => jn (κ := Int32 → Option (Int32)) (fun x4 => cl (f_X3_belongs S p0 p1 (v1 + 1) v2) fun (v7 : Int32) => jn (κ := Int32 → Option (Int32)) (fun x8 => cl (f_X3_belongs S p0 p1 v1 (v2 - 1)) fun (v11 : Int32) => jn (κ := Int32 → Option (Int32)) (fun x12 => cl (f_X3_belongs S p0 p1 v1 (v2 + 1)) fun (v15 : Int32) => jn (κ := Int32 → Option (Int32)) (fun x16 => some (((x4 + x8) + x12) + x16)) fun k17 => if v15 = 0 then (k17 0) else (k17 1)) fun k13 => if v11 = 0 then (k13 0) else (k13 1)) fun k9 => if v7 = 0 then (k9 0) else (k9 1)) fun k5 => if v3 = 0 then (k5 0) else (k5 1)
set_option maxHeartbeats 4000000 in
set_option maxRecDepth 100000 in
theorem c_X3_neighboursOf (S : St) (p0 : Nat) (p1 : Int32) (p2 : Int32) : Ct yX3_neighboursOf cX3_neighboursOf 5 (some .int) 2 44 [.ref p0, .int p1, .int p2] [(p0, 3)] S (f_X3_neighboursOf S p0 p1 p2) oI (fun _ => S) := by
  refine Ct_of RX3 rfl (by decide) (Nat.le_of_ble_eq_true rfl) 2 (vs := [some (.ref p0), some (.int p1), some (.int p2), none, none]) rfl (fun C X E hr ht => ?_)
  have t0_ : tT C p0 3 := ht (p0, 3) (by simp)
  unfold f_X3_neighboursOf
  refine s_run X ok_X3_neighboursOf 0 2 (pc' := 3) (vs' := [some (.ref p0), some (.int p1), some (.int p2), none, none]) (st' := [.int 30, .int p2]) rfl ?_
  refine s_irem0 X (dk okd_X3_neighboursOf 0 rfl) (by decide) ?_
  refine s_nmI (fun v1 => ?_)
  refine s_run X ok_X3_neighboursOf 2 3 (pc' := 8) (vs' := [some (.ref p0), some (.int p1), some (.int p2), some (.int v1), none]) (st' := [.int 30, .int p2]) rfl ?_
  refine s_idiv0 X (dk okd_X3_neighboursOf 1 rfl) (by decide) ?_
  refine s_nmI (fun v2 => ?_)
  refine s_run X ok_X3_neighboursOf 5 7 (pc' := 18) (vs' := [some (.ref p0), some (.int p1), some (.int p2), some (.int v1), some (.int v2)]) (st' := [.int v2, .int (v1 - 1), .int p1, .ref p0]) rfl ?_
  refine s_callV (rest := []) X E mv_X3_47 (c_X3_belongs S p0 p1 (v1 - 1) v2) (ta1 t0_) rfl (by decide) t0_ rfl rfl (Nat.le_of_ble_eq_true rfl) (Nat.le_of_ble_eq_true rfl) (Nat.le_of_ble_eq_true rfl) (dk okd_X3_neighboursOf 2 rfl) (st' := fun v3 => [.int v3]) (fun _ => rfl) (fun v3 => ?_)
  refine s_jn (κ := Int32 → Option (Int32)) (fun k5 => ∀ (x4 : Int32), Jd C 5 (QJ C oI (fun _ => S)) S 29 [some (.ref p0), some (.int p1), none, some (.int v1), some (.int v2)] [.int x4] (k5 x4)) (fun x4 => ?_) (fun k5 h6 => ?_)
  · refine s_run X ok_X3_neighboursOf 15 6 (pc' := 36) (vs' := [some (.ref p0), some (.int p1), none, some (.int v1), some (.int v2)]) (st' := [.int v2, .int (v1 + 1), .int p1, .ref p0, .int x4]) rfl ?_
    refine s_callV (rest := [.int x4]) X E mv_X3_47 (c_X3_belongs S p0 p1 (v1 + 1) v2) (ta1 t0_) rfl (by decide) t0_ rfl rfl (Nat.le_of_ble_eq_true rfl) (Nat.le_of_ble_eq_true rfl) (Nat.le_of_ble_eq_true rfl) (dk okd_X3_neighboursOf 4 rfl) (st' := fun v7 => [.int v7, .int x4]) (fun _ => rfl) (fun v7 => ?_)
    refine s_jn (κ := Int32 → Option (Int32)) (fun k9 => ∀ (x8 : Int32), Jd C 5 (QJ C oI (fun _ => S)) S 47 [some (.ref p0), some (.int p1), none, some (.int v1), some (.int v2)] [.int x8, .int x4] (k9 x8)) (fun x8 => ?_) (fun k9 h10 => ?_)
    · refine s_run X ok_X3_neighboursOf 24 7 (pc' := 55) (vs' := [some (.ref p0), some (.int p1), none, some (.int v1), some (.int v2)]) (st' := [.int (v2 - 1), .int v1, .int p1, .ref p0, .int (x4 + x8)]) rfl ?_
      refine s_callV (rest := [.int (x4 + x8)]) X E mv_X3_47 (c_X3_belongs S p0 p1 v1 (v2 - 1)) (ta1 t0_) rfl (by decide) t0_ rfl rfl (Nat.le_of_ble_eq_true rfl) (Nat.le_of_ble_eq_true rfl) (Nat.le_of_ble_eq_true rfl) (dk okd_X3_neighboursOf 6 rfl) (st' := fun v11 => [.int v11, .int (x4 + x8)]) (fun _ => rfl) (fun v11 => ?_)
      refine s_jn (κ := Int32 → Option (Int32)) (fun k13 => ∀ (x12 : Int32), Jd C 5 (QJ C oI (fun _ => S)) S 66 [some (.ref p0), some (.int p1), none, some (.int v1), some (.int v2)] [.int x12, .int (x4 + x8)] (k13 x12)) (fun x12 => ?_) (fun k13 h14 => ?_)
      · refine s_run X ok_X3_neighboursOf 34 7 (pc' := 74) (vs' := [some (.ref p0), some (.int p1), none, some (.int v1), some (.int v2)]) (st' := [.int (v2 + 1), .int v1, .int p1, .ref p0, .int ((x4 + x8) + x12)]) rfl ?_
        refine s_callV (rest := [.int ((x4 + x8) + x12)]) X E mv_X3_47 (c_X3_belongs S p0 p1 v1 (v2 + 1)) (ta1 t0_) rfl (by decide) t0_ rfl rfl (Nat.le_of_ble_eq_true rfl) (Nat.le_of_ble_eq_true rfl) (Nat.le_of_ble_eq_true rfl) (dk okd_X3_neighboursOf 8 rfl) (st' := fun v15 => [.int v15, .int ((x4 + x8) + x12)]) (fun _ => rfl) (fun v15 => ?_)
        refine s_jn (κ := Int32 → Option (Int32)) (fun k17 => ∀ (x16 : Int32), Jd C 5 (QJ C oI (fun _ => S)) S 85 [none, none, none, none, none] [.int x16, .int ((x4 + x8) + x12)] (k17 x16)) (fun x16 => ?_) (fun k17 h18 => ?_)
        · refine s_run X ok_X3_neighboursOf 44 1 (pc' := 86) (vs' := [none, none, none, none, none]) (st' := [.int (((x4 + x8) + x12) + x16)]) rfl ?_
          exact s_iret X hr (dk okd_X3_neighboursOf 10 rfl) rfl rfl
        · refine s_if_eq (tgt := 84) X (dk okd_X3_neighboursOf 9 rfl) (by decide) ?_ ?_
          · refine s_run X ok_X3_neighboursOf 43 1 (pc' := 85) (vs' := [some (.ref p0), some (.int p1), none, some (.int v1), some (.int v2)]) (st' := [.int 0, .int ((x4 + x8) + x12)]) rfl ?_
            exact s_less [false, false, false, false, false] rfl (h18 0)
          · refine s_run X ok_X3_neighboursOf 41 2 (pc' := 85) (vs' := [some (.ref p0), some (.int p1), none, some (.int v1), some (.int v2)]) (st' := [.int 1, .int ((x4 + x8) + x12)]) rfl ?_
            exact s_less [false, false, false, false, false] rfl (h18 1)
      · refine s_if_eq (tgt := 65) X (dk okd_X3_neighboursOf 7 rfl) (by decide) ?_ ?_
        · refine s_run X ok_X3_neighboursOf 33 1 (pc' := 66) (vs' := [some (.ref p0), some (.int p1), none, some (.int v1), some (.int v2)]) (st' := [.int 0, .int (x4 + x8)]) rfl ?_
          exact h14 0
        · refine s_run X ok_X3_neighboursOf 31 2 (pc' := 66) (vs' := [some (.ref p0), some (.int p1), none, some (.int v1), some (.int v2)]) (st' := [.int 1, .int (x4 + x8)]) rfl ?_
          exact h14 1
    · refine s_if_eq (tgt := 46) X (dk okd_X3_neighboursOf 5 rfl) (by decide) ?_ ?_
      · refine s_run X ok_X3_neighboursOf 23 1 (pc' := 47) (vs' := [some (.ref p0), some (.int p1), none, some (.int v1), some (.int v2)]) (st' := [.int 0, .int x4]) rfl ?_
        exact h10 0
      · refine s_run X ok_X3_neighboursOf 21 2 (pc' := 47) (vs' := [some (.ref p0), some (.int p1), none, some (.int v1), some (.int v2)]) (st' := [.int 1, .int x4]) rfl ?_
        exact h10 1
  · refine s_if_eq (tgt := 28) X (dk okd_X3_neighboursOf 3 rfl) (by decide) ?_ ?_
    · refine s_run X ok_X3_neighboursOf 14 1 (pc' := 29) (vs' := [some (.ref p0), some (.int p1), some (.int p2), some (.int v1), some (.int v2)]) (st' := [.int 0]) rfl ?_
      exact s_less [true, true, false, true, true] rfl (h6 0)
    · refine s_run X ok_X3_neighboursOf 12 2 (pc' := 29) (vs' := [some (.ref p0), some (.int p1), some (.int p2), some (.int v1), some (.int v2)]) (st' := [.int 1]) rfl ?_
      exact s_less [true, true, false, true, true] rfl (h6 1)
def tab_X3_reach : List En := [(0, 8, 0, 0), (1, 4, 1, 0), (2, 4, 2, 0), (3, 4, 3, 0), (10, 8, 0, 0), (14, 2, 0, 900), (21, 4, 3, 0), (22, 1, 0, 30), (24, 19, 0, 0), (25, 4, 2, 0), (26, 17, 0, 0), (27, 11, 4, 0), (29, 8, 0, 0), (33, 5, 4, 0), (39, 8, 0, 0), (43, 5, 4, 0), (45, 0, 0, 1), (47, 8, 0, 0), (51, 8, 0, 0), (55, 5, 4, 0), (58, 8, 0, 0), (59, 36, 0, 0), (63, 0, 0, 1), (64, 17, 0, 0)]
theorem ok_X3_reach : tab_X3_reach.all (okE cX3_reach) = true := by decide +kernel
def ed_X3_reach : List (Nat × Instr × Nat) := [(4, .invokevirtual 47, 3), (7, .ifCond .eq 13, 3), (11, .getfield 57, 3), (17, .if_icmp .lt 4, 3), (20, .return_, 1), (30, .getfield 18, 3), (35, .iaload, 1), (36, .ifCond .ne 32, 3), (40, .getfield 18, 3), (46, .iastore, 1), (48, .getfield 15, 3), (52, .getfield 57, 3), (57, .iastore, 1), (60, .getfield 57, 3), (65, .putfield 57, 3), (68, .return_, 1)]
theorem okd_X3_reach : ed_X3_reach.all (okD cX3_reach) = true := by decide +kernel
def f_X3_reach (S : St) (p0 : Nat) (p1 : Int32) (p2 : Int32) (p3 : Int32) : Option (St) := cl (f_X3_belongs S p0 p1 p2 p3) fun (v1 : Int32) => if v1 = 0 then (some S) else (lt (gI S p0 3) fun (v2 : Int32) => if v2 < 900 then (lt ((p3 * 30) + p2) fun (v3 : Int32) => lt (gR S p0 2) fun (a4 : Nat) => ldI S a4 v3 fun (v6 : Int32) => if v6 = 0 then (lt (gR S p0 2) fun (a7 : Nat) => stI S a7 v3 1 fun (S9 : St) => lt (gR S9 p0 1) fun (a10 : Nat) => lt (gI S9 p0 3) fun (v12 : Int32) => stI S9 a10 v12 v3 fun (S13 : St) => lt (gI S13 p0 3) fun (v14 : Int32) => lt (uI S13 p0 3 (v14 + 1)) fun (S15 : St) => some S15) else (some S)) else (some S))
set_option maxHeartbeats 4000000 in
set_option maxRecDepth 100000 in
theorem c_X3_reach (S : St) (p0 : Nat) (p1 : Int32) (p2 : Int32) (p3 : Int32) : Ct yX3_reach cX3_reach 5 none 2 44 [.ref p0, .int p1, .int p2, .int p3] [(p0, 3)] S (f_X3_reach S p0 p1 p2 p3) oV sV := by
  refine Ct_of RX3 rfl (by decide) (Nat.le_of_ble_eq_true rfl) 1 (vs := [some (.ref p0), some (.int p1), some (.int p2), some (.int p3), none]) rfl (fun C X E hr ht => ?_)
  have t0_ : tT C p0 3 := ht (p0, 3) (by simp)
  unfold f_X3_reach
  refine s_run X ok_X3_reach 0 4 (pc' := 4) (vs' := [some (.ref p0), some (.int p1), some (.int p2), some (.int p3), none]) (st' := [.int p3, .int p2, .int p1, .ref p0]) rfl ?_
  refine s_callV (rest := []) X E mv_X3_47 (c_X3_belongs S p0 p1 p2 p3) (ta1 t0_) rfl (by decide) t0_ rfl rfl (Nat.le_of_ble_eq_true rfl) (Nat.le_of_ble_eq_true rfl) (Nat.le_of_ble_eq_true rfl) (dk okd_X3_reach 0 rfl) (st' := fun v1 => [.int v1]) (fun _ => rfl) (fun v1 => ?_)
  refine s_if_eq (tgt := 20) X (dk okd_X3_reach 1 rfl) (by decide) ?_ ?_
  · exact s_vret X hr (dk okd_X3_reach 4 rfl) rfl rfl
  · refine s_run X ok_X3_reach 4 1 (pc' := 11) (vs' := [some (.ref p0), some (.int p1), some (.int p2), some (.int p3), none]) (st' := [.ref p0]) rfl ?_
    refine s_getI X fl_X3_57 t0_ (dk okd_X3_reach 2 rfl) (fun v2 => ?_)
    refine s_run X ok_X3_reach 5 1 (pc' := 17) (vs' := [some (.ref p0), some (.int p1), some (.int p2), some (.int p3), none]) (st' := [.int 900, .int v2]) rfl ?_
    refine s_icmp_lt (tgt := 21) X (dk okd_X3_reach 3 rfl) (by decide) ?_ ?_
    · refine s_run X ok_X3_reach 6 5 (pc' := 27) (vs' := [some (.ref p0), some (.int p1), some (.int p2), some (.int p3), none]) (st' := [.int ((p3 * 30) + p2)]) rfl ?_
      refine s_nmI (fun v3 => ?_)
      refine s_run X ok_X3_reach 11 2 (pc' := 30) (vs' := [some (.ref p0), some (.int p1), some (.int p2), some (.int p3), some (.int v3)]) (st' := [.ref p0]) rfl ?_
      refine s_getR X fl_X3_18 t0_ (dk okd_X3_reach 5 rfl) (fun a4 (t5 : tT C a4 13) => ?_)
      refine s_run X ok_X3_reach 13 1 (pc' := 35) (vs' := [some (.ref p0), some (.int p1), some (.int p2), some (.int p3), some (.int v3)]) (st' := [.int v3, .ref a4]) rfl ?_
      refine s_iald X t5 (dk okd_X3_reach 6 rfl) (fun v6 => ?_)
      refine s_if_ne (tgt := 68) X (dk okd_X3_reach 7 rfl) (by decide) ?_ ?_
      · exact s_vret X hr (dk okd_X3_reach 15 rfl) rfl rfl
      · refine s_run X ok_X3_reach 14 1 (pc' := 40) (vs' := [some (.ref p0), some (.int p1), some (.int p2), some (.int p3), some (.int v3)]) (st' := [.ref p0]) rfl ?_
        refine s_getR X fl_X3_18 t0_ (dk okd_X3_reach 8 rfl) (fun a7 (t8 : tT C a7 13) => ?_)
        refine s_run X ok_X3_reach 15 2 (pc' := 46) (vs' := [some (.ref p0), some (.int p1), some (.int p2), some (.int p3), some (.int v3)]) (st' := [.int 1, .int v3, .ref a7]) rfl ?_
        refine s_iast X t8 (dk okd_X3_reach 9 rfl) (fun S9 => ?_)
        refine s_run X ok_X3_reach 17 1 (pc' := 48) (vs' := [some (.ref p0), some (.int p1), some (.int p2), some (.int p3), some (.int v3)]) (st' := [.ref p0]) rfl ?_
        refine s_getR X fl_X3_15 t0_ (dk okd_X3_reach 10 rfl) (fun a10 (t11 : tT C a10 13) => ?_)
        refine s_run X ok_X3_reach 18 1 (pc' := 52) (vs' := [some (.ref p0), some (.int p1), some (.int p2), some (.int p3), some (.int v3)]) (st' := [.ref p0, .ref a10]) rfl ?_
        refine s_getI X fl_X3_57 t0_ (dk okd_X3_reach 11 rfl) (fun v12 => ?_)
        refine s_run X ok_X3_reach 19 1 (pc' := 57) (vs' := [some (.ref p0), some (.int p1), some (.int p2), some (.int p3), some (.int v3)]) (st' := [.int v3, .int v12, .ref a10]) rfl ?_
        refine s_iast X t11 (dk okd_X3_reach 12 rfl) (fun S13 => ?_)
        refine s_run X ok_X3_reach 20 2 (pc' := 60) (vs' := [some (.ref p0), some (.int p1), some (.int p2), some (.int p3), some (.int v3)]) (st' := [.ref p0, .ref p0]) rfl ?_
        refine s_getI X fl_X3_57 t0_ (dk okd_X3_reach 13 rfl) (fun v14 => ?_)
        refine s_run X ok_X3_reach 22 2 (pc' := 65) (vs' := [some (.ref p0), some (.int p1), some (.int p2), some (.int p3), some (.int v3)]) (st' := [.int (v14 + 1), .ref p0]) rfl ?_
        refine s_putI X fp_X3_57 t0_ (dk okd_X3_reach 14 rfl) (fun S15 => ?_)
        exact s_vret X hr (dk okd_X3_reach 15 rfl) rfl rfl
    · exact s_vret X hr (dk okd_X3_reach 4 rfl) rfl rfl
def tab_X3_sizeWithin : List En := [(0, 0, 0, 0), (1, 11, 6, 0), (3, 4, 3, 0), (4, 11, 7, 0), (6, 5, 7, 0), (8, 5, 5, 0), (13, 4, 2, 0), (14, 11, 8, 0), (16, 5, 8, 0), (18, 5, 4, 0), (23, 8, 0, 0), (24, 4, 1, 0), (25, 5, 8, 0), (27, 5, 7, 0), (35, 16, 6, 1), (38, 16, 8, 1), (41, 41, 16, 0), (44, 16, 7, 1), (47, 41, 6, 0), (50, 5, 6, 0)]
theorem ok_X3_sizeWithin : tab_X3_sizeWithin.all (okE cX3_sizeWithin) = true := by decide +kernel
def ed_X3_sizeWithin : List (Nat × Instr × Nat) := [(10, .if_icmp .ge 40, 3), (20, .if_icmp .ge 24, 3), (29, .invokevirtual 47, 3), (32, .ifCond .eq 6, 3), (52, .ireturn, 1)]
theorem okd_X3_sizeWithin : ed_X3_sizeWithin.all (okD cX3_sizeWithin) = true := by decide +kernel
def f_X3_sizeWithin (S : St) (p0 : Nat) (p1 : Int32) (p2 : Int32) (p3 : Int32) (p4 : Int32) (p5 : Int32) : Option (Int32) := jn (κ := Int32 → Option (Int32)) (fun x1 => some x1) fun k2 => lp (κ := Int32 → Int32 → Option (Int32)) (fun _ _ => none) (fun k6 x4 x5 => if p5 ≤ x5 then (k2 x4) else (jn (κ := Int32 → Option (Int32)) (fun x8 => k6 x8 (x5 + 1)) fun k9 => lp (κ := Int32 → Int32 → Option (Int32)) (fun _ _ => none) (fun k13 x11 x12 => if p4 ≤ x12 then (k9 x11) else (cl (f_X3_belongs S p0 p1 x12 x5) fun (v15 : Int32) => jn (κ := Int32 → Option (Int32)) (fun x16 => k13 x16 (x12 + 1)) fun k17 => if v15 = 0 then (k17 x11) else (k17 (x11 + 1)))) FU x4 p2)) FU 0 p3
set_option maxHeartbeats 4000000 in
set_option maxRecDepth 100000 in
theorem c_X3_sizeWithin (S : St) (p0 : Nat) (p1 : Int32) (p2 : Int32) (p3 : Int32) (p4 : Int32) (p5 : Int32) : Ct yX3_sizeWithin cX3_sizeWithin 9 (some .int) 2 44 [.ref p0, .int p1, .int p2, .int p3, .int p4, .int p5] [(p0, 3)] S (f_X3_sizeWithin S p0 p1 p2 p3 p4 p5) oI (fun _ => S) := by
  refine Ct_of RX3 rfl (by decide) (Nat.le_of_ble_eq_true rfl) 3 (vs := [some (.ref p0), some (.int p1), some (.int p2), some (.int p3), some (.int p4), some (.int p5), none, none, none]) rfl (fun C X E hr ht => ?_)
  have t0_ : tT C p0 3 := ht (p0, 3) (by simp)
  unfold f_X3_sizeWithin
  refine s_run X ok_X3_sizeWithin 0 4 (pc' := 6) (vs' := [some (.ref p0), some (.int p1), some (.int p2), some (.int p3), some (.int p4), some (.int p5), some (.int 0), some (.int p3), none]) (st' := []) rfl ?_
  refine s_jn (κ := Int32 → Option (Int32)) (fun k2 => ∀ (x1 : Int32), Jd C 9 (QJ C oI (fun _ => S)) S 50 [none, none, none, none, none, none, some (.int x1), none, none] [] (k2 x1)) (fun x1 => ?_) (fun k2 h3 => ?_)
  · refine s_run X ok_X3_sizeWithin 19 1 (pc' := 52) (vs' := [none, none, none, none, none, none, some (.int x1), none, none]) (st' := [.int x1]) rfl ?_
    exact s_iret X hr (dk okd_X3_sizeWithin 4 rfl) rfl rfl
  · refine s_less [true, true, true, false, true, true, true, true, false] (vs' := [some (.ref p0), some (.int p1), some (.int p2), none, some (.int p4), some (.int p5), some (.int 0), some (.int p3), none]) rfl ?_
    refine s_lp (κ := Int32 → Int32 → Option (Int32)) (fun k6 => ∀ (x4 : Int32) (x5 : Int32), Jd C 9 (QJ C oI (fun _ => S)) S 6 [some (.ref p0), some (.int p1), some (.int p2), none, some (.int p4), some (.int p5), some (.int x4), some (.int x5), none] [] (k6 x4 x5)) (fun _ _ => s_none) (fun k6 h7 x4 x5 => ?_) FU 0 p3
    refine s_run X ok_X3_sizeWithin 4 2 (pc' := 10) (vs' := [some (.ref p0), some (.int p1), some (.int p2), none, some (.int p4), some (.int p5), some (.int x4), some (.int x5), none]) (st' := [.int p5, .int x5]) rfl ?_
    refine s_icmp_ge (tgt := 50) X (dk okd_X3_sizeWithin 0 rfl) (by decide) ?_ ?_
    · exact s_less [false, false, false, false, false, false, true, false, false] rfl (h3 x4)
    · refine s_run X ok_X3_sizeWithin 6 2 (pc' := 16) (vs' := [some (.ref p0), some (.int p1), some (.int p2), none, some (.int p4), some (.int p5), some (.int x4), some (.int x5), some (.int p2)]) (st' := []) rfl ?_
      refine s_jn (κ := Int32 → Option (Int32)) (fun k9 => ∀ (x8 : Int32), Jd C 9 (QJ C oI (fun _ => S)) S 44 [some (.ref p0), some (.int p1), some (.int p2), none, some (.int p4), some (.int p5), some (.int x8), some (.int x5), none] [] (k9 x8)) (fun x8 => ?_) (fun k9 h10 => ?_)
      · refine s_run X ok_X3_sizeWithin 17 2 (pc' := 6) (vs' := [some (.ref p0), some (.int p1), some (.int p2), none, some (.int p4), some (.int p5), some (.int x8), some (.int (x5 + 1)), none]) (st' := []) rfl ?_
        exact h7 x8 (x5 + 1)
      · refine s_lp (κ := Int32 → Int32 → Option (Int32)) (fun k13 => ∀ (x11 : Int32) (x12 : Int32), Jd C 9 (QJ C oI (fun _ => S)) S 16 [some (.ref p0), some (.int p1), some (.int p2), none, some (.int p4), some (.int p5), some (.int x11), some (.int x5), some (.int x12)] [] (k13 x11 x12)) (fun _ _ => s_none) (fun k13 h14 x11 x12 => ?_) FU x4 p2
        refine s_run X ok_X3_sizeWithin 8 2 (pc' := 20) (vs' := [some (.ref p0), some (.int p1), some (.int p2), none, some (.int p4), some (.int p5), some (.int x11), some (.int x5), some (.int x12)]) (st' := [.int p4, .int x12]) rfl ?_
        refine s_icmp_ge (tgt := 44) X (dk okd_X3_sizeWithin 1 rfl) (by decide) ?_ ?_
        · exact s_less [true, true, true, false, true, true, true, true, false] rfl (h10 x11)
        · refine s_run X ok_X3_sizeWithin 10 4 (pc' := 29) (vs' := [some (.ref p0), some (.int p1), some (.int p2), none, some (.int p4), some (.int p5), some (.int x11), some (.int x5), some (.int x12)]) (st' := [.int x5, .int x12, .int p1, .ref p0]) rfl ?_
          refine s_callV (rest := []) X E mv_X3_47 (c_X3_belongs S p0 p1 x12 x5) (ta1 t0_) rfl (by decide) t0_ rfl rfl (Nat.le_of_ble_eq_true rfl) (Nat.le_of_ble_eq_true rfl) (Nat.le_of_ble_eq_true rfl) (dk okd_X3_sizeWithin 2 rfl) (st' := fun v15 => [.int v15]) (fun _ => rfl) (fun v15 => ?_)
          refine s_jn (κ := Int32 → Option (Int32)) (fun k17 => ∀ (x16 : Int32), Jd C 9 (QJ C oI (fun _ => S)) S 38 [some (.ref p0), some (.int p1), some (.int p2), none, some (.int p4), some (.int p5), some (.int x16), some (.int x5), some (.int x12)] [] (k17 x16)) (fun x16 => ?_) (fun k17 h18 => ?_)
          · refine s_run X ok_X3_sizeWithin 15 2 (pc' := 16) (vs' := [some (.ref p0), some (.int p1), some (.int p2), none, some (.int p4), some (.int p5), some (.int x16), some (.int x5), some (.int (x12 + 1))]) (st' := []) rfl ?_
            exact h14 x16 (x12 + 1)
          · refine s_if_eq (tgt := 38) X (dk okd_X3_sizeWithin 3 rfl) (by decide) ?_ ?_
            · exact h18 x11
            · refine s_run X ok_X3_sizeWithin 14 1 (pc' := 38) (vs' := [some (.ref p0), some (.int p1), some (.int p2), none, some (.int p4), some (.int p5), some (.int (x11 + 1)), some (.int x5), some (.int x12)]) (st' := []) rfl ?_
              exact h18 (x11 + 1)
def tab_X4_addByte : List En := [(0, 8, 0, 0), (4, 2, 0, 256), (10, 8, 0, 0), (14, 8, 0, 0), (18, 4, 1, 0), (19, 33, 0, 0), (21, 8, 0, 0), (22, 36, 0, 0), (26, 0, 0, 1), (27, 17, 0, 0)]
theorem ok_X4_addByte : tab_X4_addByte.all (okE cX4_addByte) = true := by decide +kernel
def ed_X4_addByte : List (Nat × Instr × Nat) := [(1, .getfield 15, 3), (7, .if_icmp .ge 24, 3), (11, .getfield 9, 3), (15, .getfield 15, 3), (20, .bastore, 1), (23, .getfield 15, 3), (28, .putfield 15, 3), (31, .return_, 1)]
theorem okd_X4_addByte : ed_X4_addByte.all (okD cX4_addByte) = true := by decide +kernel
def f_X4_addByte (S : St) (p0 : Nat) (p1 : Int32) : Option (St) := lt (gI S p0 1) fun (v1 : Int32) => if 256 ≤ v1 then (some S) else (lt (gR S p0 0) fun (a2 : Nat) => lt (gI S p0 1) fun (v4 : Int32) => stI S a2 v4 (vp_nar .byte (Int8.toInt32 (Int32.toInt8 p1))) fun (S5 : St) => lt (gI S5 p0 1) fun (v6 : Int32) => lt (uI S5 p0 1 (v6 + 1)) fun (S7 : St) => some S7)
set_option maxHeartbeats 4000000 in
set_option maxRecDepth 100000 in
theorem c_X4_addByte (S : St) (p0 : Nat) (p1 : Int32) : Ct yX4_addByte cX4_addByte 2 none 0 0 [.ref p0, .int p1] [(p0, 4)] S (f_X4_addByte S p0 p1) oV sV := by
  refine Ct_of RX4 rfl (by decide) (Nat.le_of_ble_eq_true rfl) 0 (vs := [some (.ref p0), some (.int p1)]) rfl (fun C X E hr ht => ?_)
  have t0_ : tT C p0 4 := ht (p0, 4) (by simp)
  unfold f_X4_addByte
  refine s_run X ok_X4_addByte 0 1 (pc' := 1) (vs' := [some (.ref p0), some (.int p1)]) (st' := [.ref p0]) rfl ?_
  refine s_getI X fl_X4_15 t0_ (dk okd_X4_addByte 0 rfl) (fun v1 => ?_)
  refine s_run X ok_X4_addByte 1 1 (pc' := 7) (vs' := [some (.ref p0), some (.int p1)]) (st' := [.int 256, .int v1]) rfl ?_
  refine s_icmp_ge (tgt := 31) X (dk okd_X4_addByte 1 rfl) (by decide) ?_ ?_
  · exact s_vret X hr (dk okd_X4_addByte 7 rfl) rfl rfl
  · refine s_run X ok_X4_addByte 2 1 (pc' := 11) (vs' := [some (.ref p0), some (.int p1)]) (st' := [.ref p0]) rfl ?_
    refine s_getR X fl_X4_9 t0_ (dk okd_X4_addByte 2 rfl) (fun a2 (t3 : tT C a2 12) => ?_)
    refine s_run X ok_X4_addByte 3 1 (pc' := 15) (vs' := [some (.ref p0), some (.int p1)]) (st' := [.ref p0, .ref a2]) rfl ?_
    refine s_getI X fl_X4_15 t0_ (dk okd_X4_addByte 3 rfl) (fun v4 => ?_)
    refine s_run X ok_X4_addByte 4 2 (pc' := 20) (vs' := [some (.ref p0), some (.int p1)]) (st' := [.int (Int8.toInt32 (Int32.toInt8 p1)), .int v4, .ref a2]) rfl ?_
    refine s_bast X t3 (dk okd_X4_addByte 4 rfl) (fun S5 => ?_)
    refine s_run X ok_X4_addByte 6 2 (pc' := 23) (vs' := [some (.ref p0), some (.int p1)]) (st' := [.ref p0, .ref p0]) rfl ?_
    refine s_getI X fl_X4_15 t0_ (dk okd_X4_addByte 5 rfl) (fun v6 => ?_)
    refine s_run X ok_X4_addByte 8 2 (pc' := 28) (vs' := [some (.ref p0), some (.int p1)]) (st' := [.int (v6 + 1), .ref p0]) rfl ?_
    refine s_putI X fp_X4_15 t0_ (dk okd_X4_addByte 6 rfl) (fun S7 => ?_)
    exact s_vret X hr (dk okd_X4_addByte 7 rfl) rfl rfl
def tab_X5_clear : List En := [(0, 8, 0, 0), (1, 0, 0, 0), (5, 8, 0, 0), (6, 0, 0, 0)]
theorem ok_X5_clear : tab_X5_clear.all (okE cX5_clear) = true := by decide +kernel
def ed_X5_clear : List (Nat × Instr × Nat) := [(2, .putfield 35, 3), (7, .putfield 39, 3), (10, .return_, 1)]
theorem okd_X5_clear : ed_X5_clear.all (okD cX5_clear) = true := by decide +kernel
def f_X5_clear (S : St) (p0 : Nat) : Option (St) := lt (uI S p0 7 0) fun (S1 : St) => lt (uI S1 p0 8 0) fun (S2 : St) => some S2
set_option maxHeartbeats 4000000 in
set_option maxRecDepth 100000 in
theorem c_X5_clear (S : St) (p0 : Nat) : Ct yX5_clear cX5_clear 1 none 0 0 [.ref p0] [(p0, 5)] S (f_X5_clear S p0) oV sV := by
  refine Ct_of RX5 rfl (by decide) (Nat.le_of_ble_eq_true rfl) 0 (vs := [some (.ref p0)]) rfl (fun C X E hr ht => ?_)
  have t0_ : tT C p0 5 := ht (p0, 5) (by simp)
  unfold f_X5_clear
  refine s_run X ok_X5_clear 0 2 (pc' := 2) (vs' := [some (.ref p0)]) (st' := [.int 0, .ref p0]) rfl ?_
  refine s_putI X fp_X5_35 t0_ (dk okd_X5_clear 0 rfl) (fun S1 => ?_)
  refine s_run X ok_X5_clear 2 2 (pc' := 7) (vs' := [some (.ref p0)]) (st' := [.int 0, .ref p0]) rfl ?_
  refine s_putI X fp_X5_39 t0_ (dk okd_X5_clear 1 rfl) (fun S2 => ?_)
  exact s_vret X hr (dk okd_X5_clear 2 rfl) rfl rfl
def tab_X5_left : List En := [(0, 8, 0, 0), (4, 8, 0, 0), (8, 18, 0, 0)]
theorem ok_X5_left : tab_X5_left.all (okE cX5_left) = true := by decide +kernel
def ed_X5_left : List (Nat × Instr × Nat) := [(1, .getfield 35, 3), (5, .getfield 39, 3), (9, .ireturn, 1)]
theorem okd_X5_left : ed_X5_left.all (okD cX5_left) = true := by decide +kernel
def f_X5_left (S : St) (p0 : Nat) : Option (Int32) := lt (gI S p0 7) fun (v1 : Int32) => lt (gI S p0 8) fun (v2 : Int32) => some (v1 - v2)
set_option maxHeartbeats 4000000 in
set_option maxRecDepth 100000 in
theorem c_X5_left (S : St) (p0 : Nat) : Ct yX5_left cX5_left 1 (some .int) 0 0 [.ref p0] [(p0, 5)] S (f_X5_left S p0) oI (fun _ => S) := by
  refine Ct_of RX5 rfl (by decide) (Nat.le_of_ble_eq_true rfl) 0 (vs := [some (.ref p0)]) rfl (fun C X E hr ht => ?_)
  have t0_ : tT C p0 5 := ht (p0, 5) (by simp)
  unfold f_X5_left
  refine s_run X ok_X5_left 0 1 (pc' := 1) (vs' := [some (.ref p0)]) (st' := [.ref p0]) rfl ?_
  refine s_getI X fl_X5_35 t0_ (dk okd_X5_left 0 rfl) (fun v1 => ?_)
  refine s_run X ok_X5_left 1 1 (pc' := 5) (vs' := [some (.ref p0)]) (st' := [.ref p0, .int v1]) rfl ?_
  refine s_getI X fl_X5_39 t0_ (dk okd_X5_left 1 rfl) (fun v2 => ?_)
  refine s_run X ok_X5_left 2 1 (pc' := 9) (vs' := [some (.ref p0)]) (st' := [.int (v1 - v2)]) rfl ?_
  exact s_iret X hr (dk okd_X5_left 2 rfl) rfl rfl
def tab_X6_has : List En := [(0, 4, 1, 0), (4, 4, 1, 0), (5, 8, 0, 0), (12, 0, 0, 1), (13, 41, 17, 0), (16, 0, 0, 0)]
theorem ok_X6_has : tab_X6_has.all (okE cX6_has) = true := by decide +kernel
def ed_X6_has : List (Nat × Instr × Nat) := [(1, .ifCond .lt 15, 3), (6, .getfield 31, 3), (9, .if_icmp .ge 7, 3), (17, .ireturn, 1)]
theorem okd_X6_has : ed_X6_has.all (okD cX6_has) = true := by decide +kernel
def f_X6_has (S : St) (p0 : Nat) (p1 : Int32) : Option (Int32) := jn (κ := Option (Int32)) (some 0) fun k1 => if p1 < 0 then (k1) else (lt (gI S p0 4) fun (v3 : Int32) => if v3 ≤ p1 then (k1) else (some 1))
set_option maxHeartbeats 4000000 in
set_option maxRecDepth 100000 in
theorem c_X6_has (S : St) (p0 : Nat) (p1 : Int32) : Ct yX6_has cX6_has 2 (some .boolean) 0 0 [.ref p0, .int p1] [(p0, 6)] S (f_X6_has S p0 p1) oI (fun _ => S) := by
  refine Ct_of RX6 rfl (by decide) (Nat.le_of_ble_eq_true rfl) 0 (vs := [some (.ref p0), some (.int p1)]) rfl (fun C X E hr ht => ?_)
  have t0_ : tT C p0 6 := ht (p0, 6) (by simp)
  unfold f_X6_has
  refine s_run X ok_X6_has 0 1 (pc' := 1) (vs' := [some (.ref p0), some (.int p1)]) (st' := [.int p1]) rfl ?_
  refine s_jn (κ := Option (Int32)) (fun k1 => Jd C 2 (QJ C oI (fun _ => S)) S 16 [none, none] [] k1) ?_ (fun k1 h2 => ?_)
  · refine s_run X ok_X6_has 5 1 (pc' := 17) (vs' := [none, none]) (st' := [.int 0]) rfl ?_
    exact s_zret0 X hr (dk okd_X6_has 3 rfl) (by decide) rfl rfl
  · refine s_if_lt (tgt := 16) X (dk okd_X6_has 0 rfl) (by decide) ?_ ?_
    · exact s_less [false, false] rfl (h2)
    · refine s_run X ok_X6_has 1 2 (pc' := 6) (vs' := [some (.ref p0), some (.int p1)]) (st' := [.ref p0, .int p1]) rfl ?_
      refine s_getI X fl_X6_31 t0_ (dk okd_X6_has 1 rfl) (fun v3 => ?_)
      refine s_icmp_ge (tgt := 16) X (dk okd_X6_has 2 rfl) (by decide) ?_ ?_
      · exact s_less [false, false] rfl (h2)
      · refine s_run X ok_X6_has 3 2 (pc' := 17) (vs' := [some (.ref p0), some (.int p1)]) (st' := [.int 1]) rfl ?_
        exact s_zret0 X hr (dk okd_X6_has 3 rfl) (by decide) rfl rfl
def tab_X6_add : List En := [(0, 8, 0, 0), (4, 1, 0, 16), (9, 1, 0, (-3)), (12, 8, 0, 0), (16, 11, 4, 0), (18, 8, 0, 0), (22, 5, 4, 0), (24, 4, 1, 0), (26, 8, 0, 0), (30, 5, 4, 0), (32, 4, 2, 0), (34, 8, 0, 0), (38, 5, 4, 0), (40, 4, 3, 0), (42, 8, 0, 0), (46, 5, 4, 0), (48, 3, 0, 0), (50, 8, 0, 0), (51, 36, 0, 0), (55, 0, 0, 1), (56, 17, 0, 0), (60, 5, 4, 0)]
theorem ok_X6_add : tab_X6_add.all (okE cX6_add) = true := by decide +kernel
def ed_X6_add : List (Nat × Instr × Nat) := [(1, .getfield 31, 3), (6, .if_icmp .lt 6, 3), (11, .ireturn, 1), (13, .getfield 31, 3), (19, .getfield 9, 3), (25, .iastore, 1), (27, .getfield 15, 3), (33, .iastore, 1), (35, .getfield 18, 3), (41, .iastore, 1), (43, .getfield 21, 3), (49, .lastore, 1), (52, .getfield 31, 3), (57, .putfield 31, 3), (62, .ireturn, 1)]
theorem okd_X6_add : ed_X6_add.all (okD cX6_add) = true := by decide +kernel
def f_X6_add (S : St) (p0 : Nat) (p1 : Int32) (p2 : Int32) (p3 : Int32) : Option (Int32 × St) := lt (gI S p0 4) fun (v1 : Int32) => if v1 < 16 then (lt (gI S p0 4) fun (v2 : Int32) => lt (gR S p0 0) fun (a3 : Nat) => stI S a3 v2 p1 fun (S5 : St) => lt (gR S5 p0 1) fun (a6 : Nat) => stI S5 a6 v2 p2 fun (S8 : St) => lt (gR S8 p0 2) fun (a9 : Nat) => stI S8 a9 v2 p3 fun (S11 : St) => lt (gR S11 p0 3) fun (a12 : Nat) => stJ S11 a12 v2 0 fun (S14 : St) => lt (gI S14 p0 4) fun (v15 : Int32) => lt (uI S14 p0 4 (v15 + 1)) fun (S16 : St) => some (v2, S16)) else (some ((-3), S))
set_option maxHeartbeats 4000000 in
set_option maxRecDepth 100000 in
theorem c_X6_add (S : St) (p0 : Nat) (p1 : Int32) (p2 : Int32) (p3 : Int32) : Ct yX6_add cX6_add 5 (some .int) 0 0 [.ref p0, .int p1, .int p2, .int p3] [(p0, 6)] S (f_X6_add S p0 p1 p2 p3) oIS sS := by
  refine Ct_of RX6 rfl (by decide) (Nat.le_of_ble_eq_true rfl) 1 (vs := [some (.ref p0), some (.int p1), some (.int p2), some (.int p3), none]) rfl (fun C X E hr ht => ?_)
  have t0_ : tT C p0 6 := ht (p0, 6) (by simp)
  unfold f_X6_add
  refine s_run X ok_X6_add 0 1 (pc' := 1) (vs' := [some (.ref p0), some (.int p1), some (.int p2), some (.int p3), none]) (st' := [.ref p0]) rfl ?_
  refine s_getI X fl_X6_31 t0_ (dk okd_X6_add 0 rfl) (fun v1 => ?_)
  refine s_run X ok_X6_add 1 1 (pc' := 6) (vs' := [some (.ref p0), some (.int p1), some (.int p2), some (.int p3), none]) (st' := [.int 16, .int v1]) rfl ?_
  refine s_icmp_lt (tgt := 12) X (dk okd_X6_add 1 rfl) (by decide) ?_ ?_
  · refine s_run X ok_X6_add 3 1 (pc' := 13) (vs' := [some (.ref p0), some (.int p1), some (.int p2), some (.int p3), none]) (st' := [.ref p0]) rfl ?_
    refine s_getI X fl_X6_31 t0_ (dk okd_X6_add 3 rfl) (fun v2 => ?_)
    refine s_run X ok_X6_add 4 2 (pc' := 19) (vs' := [some (.ref p0), some (.int p1), some (.int p2), some (.int p3), some (.int v2)]) (st' := [.ref p0]) rfl ?_
    refine s_getR X fl_X6_9 t0_ (dk okd_X6_add 4 rfl) (fun a3 (t4 : tT C a3 13) => ?_)
    refine s_run X ok_X6_add 6 2 (pc' := 25) (vs' := [some (.ref p0), some (.int p1), some (.int p2), some (.int p3), some (.int v2)]) (st' := [.int p1, .int v2, .ref a3]) rfl ?_
    refine s_iast X t4 (dk okd_X6_add 5 rfl) (fun S5 => ?_)
    refine s_run X ok_X6_add 8 1 (pc' := 27) (vs' := [some (.ref p0), some (.int p1), some (.int p2), some (.int p3), some (.int v2)]) (st' := [.ref p0]) rfl ?_
    refine s_getR X fl_X6_15 t0_ (dk okd_X6_add 6 rfl) (fun a6 (t7 : tT C a6 13) => ?_)
    refine s_run X ok_X6_add 9 2 (pc' := 33) (vs' := [some (.ref p0), some (.int p1), some (.int p2), some (.int p3), some (.int v2)]) (st' := [.int p2, .int v2, .ref a6]) rfl ?_
    refine s_iast X t7 (dk okd_X6_add 7 rfl) (fun S8 => ?_)
    refine s_run X ok_X6_add 11 1 (pc' := 35) (vs' := [some (.ref p0), some (.int p1), some (.int p2), some (.int p3), some (.int v2)]) (st' := [.ref p0]) rfl ?_
    refine s_getR X fl_X6_18 t0_ (dk okd_X6_add 8 rfl) (fun a9 (t10 : tT C a9 13) => ?_)
    refine s_run X ok_X6_add 12 2 (pc' := 41) (vs' := [some (.ref p0), some (.int p1), some (.int p2), some (.int p3), some (.int v2)]) (st' := [.int p3, .int v2, .ref a9]) rfl ?_
    refine s_iast X t10 (dk okd_X6_add 9 rfl) (fun S11 => ?_)
    refine s_run X ok_X6_add 14 1 (pc' := 43) (vs' := [some (.ref p0), some (.int p1), some (.int p2), some (.int p3), some (.int v2)]) (st' := [.ref p0]) rfl ?_
    refine s_getR X fl_X6_21 t0_ (dk okd_X6_add 10 rfl) (fun a12 (t13 : tT C a12 14) => ?_)
    refine s_run X ok_X6_add 15 2 (pc' := 49) (vs' := [some (.ref p0), some (.int p1), some (.int p2), some (.int p3), some (.int v2)]) (st' := [.long 0, .int v2, .ref a12]) rfl ?_
    refine s_last X t13 (dk okd_X6_add 11 rfl) (fun S14 => ?_)
    refine s_run X ok_X6_add 17 2 (pc' := 52) (vs' := [some (.ref p0), some (.int p1), some (.int p2), some (.int p3), some (.int v2)]) (st' := [.ref p0, .ref p0]) rfl ?_
    refine s_getI X fl_X6_31 t0_ (dk okd_X6_add 12 rfl) (fun v15 => ?_)
    refine s_run X ok_X6_add 19 2 (pc' := 57) (vs' := [some (.ref p0), some (.int p1), some (.int p2), some (.int p3), some (.int v2)]) (st' := [.int (v15 + 1), .ref p0]) rfl ?_
    refine s_putI X fp_X6_31 t0_ (dk okd_X6_add 13 rfl) (fun S16 => ?_)
    refine s_run X ok_X6_add 21 1 (pc' := 62) (vs' := [some (.ref p0), some (.int p1), some (.int p2), some (.int p3), some (.int v2)]) (st' := [.int v2]) rfl ?_
    exact s_iret X hr (dk okd_X6_add 14 rfl) rfl rfl
  · refine s_run X ok_X6_add 2 1 (pc' := 11) (vs' := [some (.ref p0), some (.int p1), some (.int p2), some (.int p3), none]) (st' := [.int (-3)]) rfl ?_
    exact s_iret X hr (dk okd_X6_add 2 rfl) rfl rfl
def tab_X6_anyWithin : List En := [(0, 0, 0, 0), (1, 11, 6, 0), (3, 5, 6, 0), (5, 8, 0, 0), (12, 8, 0, 0), (16, 5, 6, 0), (19, 4, 1, 0), (23, 8, 0, 0), (27, 5, 6, 0), (30, 4, 2, 0), (34, 8, 0, 0), (38, 5, 6, 0), (41, 5, 4, 0), (46, 8, 0, 0), (50, 5, 6, 0), (53, 4, 3, 0), (57, 8, 0, 0), (61, 5, 6, 0), (64, 5, 5, 0), (69, 0, 0, 1), (71, 16, 6, 1), (74, 41, 3, 0), (77, 0, 0, 0)]
theorem ok_X6_anyWithin : tab_X6_anyWithin.all (okE cX6_anyWithin) = true := by decide +kernel
def ed_X6_anyWithin : List (Nat × Instr × Nat) := [(6, .getfield 31, 3), (9, .if_icmp .ge 68, 3), (13, .getfield 9, 3), (18, .iaload, 1), (20, .if_icmp .ne 51, 3), (24, .getfield 15, 3), (29, .iaload, 1), (31, .if_icmp .lt 40, 3), (35, .getfield 15, 3), (40, .iaload, 1), (43, .if_icmp .ge 28, 3), (47, .getfield 18, 3), (52, .iaload, 1), (54, .if_icmp .lt 17, 3), (58, .getfield 18, 3), (63, .iaload, 1), (66, .if_icmp .ge 5, 3), (70, .ireturn, 1), (78, .ireturn, 1)]
theorem okd_X6_anyWithin : ed_X6_anyWithin.all (okD cX6_anyWithin) = true := by decide +kernel
def f_X6_anyWithin (S : St) (p0 : Nat) (p1 : Int32) (p2 : Int32) (p3 : Int32) (p4 : Int32) (p5 : Int32) : Option (Int32) := lp (κ := Int32 → Option (Int32)) (fun _ => none) (fun k2 x1 => lt (gI S p0 4) fun (v4 : Int32) => if v4 ≤ x1 then (some 0) else (lt (gR S p0 0) fun (a5 : Nat) => ldI S a5 x1 fun (v7 : Int32) => jn (κ := Option (Int32)) (k2 (x1 + 1)) fun k8 => if v7 = p1 then (lt (gR S p0 1) fun (a10 : Nat) => ldI S a10 x1 fun (v12 : Int32) => if v12 < p2 then (k8) else (lt (gR S p0 1) fun (a13 : Nat) => ldI S a13 x1 fun (v15 : Int32) => if p4 ≤ v15 then (k8) else (lt (gR S p0 2) fun (a16 : Nat) => ldI S a16 x1 fun (v18 : Int32) => if v18 < p3 then (k8) else (lt (gR S p0 2) fun (a19 : Nat) => ldI S a19 x1 fun (v21 : Int32) => if p5 ≤ v21 then (k8) else (some 1))))) else (k8))) FU 0
set_option maxHeartbeats 4000000 in
set_option maxRecDepth 100000 in
theorem c_X6_anyWithin (S : St) (p0 : Nat) (p1 : Int32) (p2 : Int32) (p3 : Int32) (p4 : Int32) (p5 : Int32) : Ct yX6_anyWithin cX6_anyWithin 7 (some .boolean) 0 0 [.ref p0, .int p1, .int p2, .int p3, .int p4, .int p5] [(p0, 6)] S (f_X6_anyWithin S p0 p1 p2 p3 p4 p5) oI (fun _ => S) := by
  refine Ct_of RX6 rfl (by decide) (Nat.le_of_ble_eq_true rfl) 1 (vs := [some (.ref p0), some (.int p1), some (.int p2), some (.int p3), some (.int p4), some (.int p5), none]) rfl (fun C X E hr ht => ?_)
  have t0_ : tT C p0 6 := ht (p0, 6) (by simp)
  unfold f_X6_anyWithin
  refine s_run X ok_X6_anyWithin 0 2 (pc' := 3) (vs' := [some (.ref p0), some (.int p1), some (.int p2), some (.int p3), some (.int p4), some (.int p5), some (.int 0)]) (st' := []) rfl ?_
  refine s_lp (κ := Int32 → Option (Int32)) (fun k2 => ∀ (x1 : Int32), Jd C 7 (QJ C oI (fun _ => S)) S 3 [some (.ref p0), some (.int p1), some (.int p2), some (.int p3), some (.int p4), some (.int p5), some (.int x1)] [] (k2 x1)) (fun _ => s_none) (fun k2 h3 x1 => ?_) FU 0
  refine s_run X ok_X6_anyWithin 2 2 (pc' := 6) (vs' := [some (.ref p0), some (.int p1), some (.int p2), some (.int p3), some (.int p4), some (.int p5), some (.int x1)]) (st' := [.ref p0, .int x1]) rfl ?_
  refine s_getI X fl_X6_31 t0_ (dk okd_X6_anyWithin 0 rfl) (fun v4 => ?_)
  refine s_icmp_ge (tgt := 77) X (dk okd_X6_anyWithin 1 rfl) (by decide) ?_ ?_
  · refine s_run X ok_X6_anyWithin 22 1 (pc' := 78) (vs' := [some (.ref p0), some (.int p1), some (.int p2), some (.int p3), some (.int p4), some (.int p5), some (.int x1)]) (st' := [.int 0]) rfl ?_
    exact s_zret0 X hr (dk okd_X6_anyWithin 18 rfl) (by decide) rfl rfl
  · refine s_run X ok_X6_anyWithin 4 1 (pc' := 13) (vs' := [some (.ref p0), some (.int p1), some (.int p2), some (.int p3), some (.int p4), some (.int p5), some (.int x1)]) (st' := [.ref p0]) rfl ?_
    refine s_getR X fl_X6_9 t0_ (dk okd_X6_anyWithin 2 rfl) (fun a5 (t6 : tT C a5 13) => ?_)
    refine s_run X ok_X6_anyWithin 5 1 (pc' := 18) (vs' := [some (.ref p0), some (.int p1), some (.int p2), some (.int p3), some (.int p4), some (.int p5), some (.int x1)]) (st' := [.int x1, .ref a5]) rfl ?_
    refine s_iald X t6 (dk okd_X6_anyWithin 3 rfl) (fun v7 => ?_)
    refine s_run X ok_X6_anyWithin 6 1 (pc' := 20) (vs' := [some (.ref p0), some (.int p1), some (.int p2), some (.int p3), some (.int p4), some (.int p5), some (.int x1)]) (st' := [.int p1, .int v7]) rfl ?_
    refine s_jn (κ := Option (Int32)) (fun k8 => Jd C 7 (QJ C oI (fun _ => S)) S 71 [some (.ref p0), some (.int p1), some (.int p2), some (.int p3), some (.int p4), some (.int p5), some (.int x1)] [] k8) ?_ (fun k8 h9 => ?_)
    · refine s_run X ok_X6_anyWithin 20 2 (pc' := 3) (vs' := [some (.ref p0), some (.int p1), some (.int p2), some (.int p3), some (.int p4), some (.int p5), some (.int (x1 + 1))]) (st' := []) rfl ?_
      exact h3 (x1 + 1)
    · refine s_icmp_ne (tgt := 71) X (dk okd_X6_anyWithin 4 rfl) (by decide) ?_ ?_
      · exact h9
      · refine s_run X ok_X6_anyWithin 7 1 (pc' := 24) (vs' := [some (.ref p0), some (.int p1), some (.int p2), some (.int p3), some (.int p4), some (.int p5), some (.int x1)]) (st' := [.ref p0]) rfl ?_
        refine s_getR X fl_X6_15 t0_ (dk okd_X6_anyWithin 5 rfl) (fun a10 (t11 : tT C a10 13) => ?_)
        refine s_run X ok_X6_anyWithin 8 1 (pc' := 29) (vs' := [some (.ref p0), some (.int p1), some (.int p2), some (.int p3), some (.int p4), some (.int p5), some (.int x1)]) (st' := [.int x1, .ref a10]) rfl ?_
        refine s_iald X t11 (dk okd_X6_anyWithin 6 rfl) (fun v12 => ?_)
        refine s_run X ok_X6_anyWithin 9 1 (pc' := 31) (vs' := [some (.ref p0), some (.int p1), some (.int p2), some (.int p3), some (.int p4), some (.int p5), some (.int x1)]) (st' := [.int p2, .int v12]) rfl ?_
        refine s_icmp_lt (tgt := 71) X (dk okd_X6_anyWithin 7 rfl) (by decide) ?_ ?_
        · exact h9
        · refine s_run X ok_X6_anyWithin 10 1 (pc' := 35) (vs' := [some (.ref p0), some (.int p1), some (.int p2), some (.int p3), some (.int p4), some (.int p5), some (.int x1)]) (st' := [.ref p0]) rfl ?_
          refine s_getR X fl_X6_15 t0_ (dk okd_X6_anyWithin 8 rfl) (fun a13 (t14 : tT C a13 13) => ?_)
          refine s_run X ok_X6_anyWithin 11 1 (pc' := 40) (vs' := [some (.ref p0), some (.int p1), some (.int p2), some (.int p3), some (.int p4), some (.int p5), some (.int x1)]) (st' := [.int x1, .ref a13]) rfl ?_
          refine s_iald X t14 (dk okd_X6_anyWithin 9 rfl) (fun v15 => ?_)
          refine s_run X ok_X6_anyWithin 12 1 (pc' := 43) (vs' := [some (.ref p0), some (.int p1), some (.int p2), some (.int p3), some (.int p4), some (.int p5), some (.int x1)]) (st' := [.int p4, .int v15]) rfl ?_
          refine s_icmp_ge (tgt := 71) X (dk okd_X6_anyWithin 10 rfl) (by decide) ?_ ?_
          · exact h9
          · refine s_run X ok_X6_anyWithin 13 1 (pc' := 47) (vs' := [some (.ref p0), some (.int p1), some (.int p2), some (.int p3), some (.int p4), some (.int p5), some (.int x1)]) (st' := [.ref p0]) rfl ?_
            refine s_getR X fl_X6_18 t0_ (dk okd_X6_anyWithin 11 rfl) (fun a16 (t17 : tT C a16 13) => ?_)
            refine s_run X ok_X6_anyWithin 14 1 (pc' := 52) (vs' := [some (.ref p0), some (.int p1), some (.int p2), some (.int p3), some (.int p4), some (.int p5), some (.int x1)]) (st' := [.int x1, .ref a16]) rfl ?_
            refine s_iald X t17 (dk okd_X6_anyWithin 12 rfl) (fun v18 => ?_)
            refine s_run X ok_X6_anyWithin 15 1 (pc' := 54) (vs' := [some (.ref p0), some (.int p1), some (.int p2), some (.int p3), some (.int p4), some (.int p5), some (.int x1)]) (st' := [.int p3, .int v18]) rfl ?_
            refine s_icmp_lt (tgt := 71) X (dk okd_X6_anyWithin 13 rfl) (by decide) ?_ ?_
            · exact h9
            · refine s_run X ok_X6_anyWithin 16 1 (pc' := 58) (vs' := [some (.ref p0), some (.int p1), some (.int p2), some (.int p3), some (.int p4), some (.int p5), some (.int x1)]) (st' := [.ref p0]) rfl ?_
              refine s_getR X fl_X6_18 t0_ (dk okd_X6_anyWithin 14 rfl) (fun a19 (t20 : tT C a19 13) => ?_)
              refine s_run X ok_X6_anyWithin 17 1 (pc' := 63) (vs' := [some (.ref p0), some (.int p1), some (.int p2), some (.int p3), some (.int p4), some (.int p5), some (.int x1)]) (st' := [.int x1, .ref a19]) rfl ?_
              refine s_iald X t20 (dk okd_X6_anyWithin 15 rfl) (fun v21 => ?_)
              refine s_run X ok_X6_anyWithin 18 1 (pc' := 66) (vs' := [some (.ref p0), some (.int p1), some (.int p2), some (.int p3), some (.int p4), some (.int p5), some (.int x1)]) (st' := [.int p5, .int v21]) rfl ?_
              refine s_icmp_ge (tgt := 71) X (dk okd_X6_anyWithin 16 rfl) (by decide) ?_ ?_
              · exact h9
              · refine s_run X ok_X6_anyWithin 19 1 (pc' := 70) (vs' := [some (.ref p0), some (.int p1), some (.int p2), some (.int p3), some (.int p4), some (.int p5), some (.int x1)]) (st' := [.int 1]) rfl ?_
                exact s_zret0 X hr (dk okd_X6_anyWithin 17 rfl) (by decide) rfl rfl
def tab_X6_closeAllOf : List En := [(0, 0, 0, 0), (1, 10, 2, 0), (2, 4, 2, 0), (3, 8, 0, 0), (10, 8, 0, 0), (14, 4, 2, 0), (16, 4, 1, 0), (20, 8, 0, 0), (24, 4, 2, 0), (25, 0, 0, (-1)), (27, 16, 2, 1), (30, 41, 2, 0)]
theorem ok_X6_closeAllOf : tab_X6_closeAllOf.all (okE cX6_closeAllOf) = true := by decide +kernel
def ed_X6_closeAllOf : List (Nat × Instr × Nat) := [(4, .getfield 31, 3), (7, .if_icmp .ge 26, 3), (11, .getfield 9, 3), (15, .iaload, 1), (17, .if_icmp .ne 10, 3), (21, .getfield 9, 3), (26, .iastore, 1), (33, .return_, 1)]
theorem okd_X6_closeAllOf : ed_X6_closeAllOf.all (okD cX6_closeAllOf) = true := by decide +kernel
def f_X6_closeAllOf (S : St) (p0 : Nat) (p1 : Int32) : Option (St) := lp (κ := Int32 → St → Option (St)) (fun _ _ => none) (fun k3 x1 S2 => lt (gI S2 p0 4) fun (v5 : Int32) => if v5 ≤ x1 then (some S2) else (lt (gR S2 p0 0) fun (a6 : Nat) => ldI S2 a6 x1 fun (v8 : Int32) => jn (κ := St → Option (St)) (fun S9 => k3 (x1 + 1) S9) fun k10 => if v8 = p1 then (lt (gR S2 p0 0) fun (a12 : Nat) => stI S2 a12 x1 (-1) fun (S14 : St) => k10 S14) else (k10 S2))) FU 0 S
set_option maxHeartbeats 4000000 in
set_option maxRecDepth 100000 in
theorem c_X6_closeAllOf (S : St) (p0 : Nat) (p1 : Int32) : Ct yX6_closeAllOf cX6_closeAllOf 3 none 0 0 [.ref p0, .int p1] [(p0, 6)] S (f_X6_closeAllOf S p0 p1) oV sV := by
  refine Ct_of RX6 rfl (by decide) (Nat.le_of_ble_eq_true rfl) 1 (vs := [some (.ref p0), some (.int p1), none]) rfl (fun C X E hr ht => ?_)
  have t0_ : tT C p0 6 := ht (p0, 6) (by simp)
  unfold f_X6_closeAllOf
  refine s_run X ok_X6_closeAllOf 0 2 (pc' := 2) (vs' := [some (.ref p0), some (.int p1), some (.int 0)]) (st' := []) rfl ?_
  refine s_lp (κ := Int32 → St → Option (St)) (fun k3 => ∀ (x1 : Int32) (S2 : St), Jd C 3 (QJ C oV sV) S2 2 [some (.ref p0), some (.int p1), some (.int x1)] [] (k3 x1 S2)) (fun _ _ => s_none) (fun k3 h4 x1 S2 => ?_) FU 0 S
  refine s_run X ok_X6_closeAllOf 2 2 (pc' := 4) (vs' := [some (.ref p0), some (.int p1), some (.int x1)]) (st' := [.ref p0, .int x1]) rfl ?_
  refine s_getI X fl_X6_31 t0_ (dk okd_X6_closeAllOf 0 rfl) (fun v5 => ?_)
  refine s_icmp_ge (tgt := 33) X (dk okd_X6_closeAllOf 1 rfl) (by decide) ?_ ?_
  · exact s_vret X hr (dk okd_X6_closeAllOf 7 rfl) rfl rfl
  · refine s_run X ok_X6_closeAllOf 4 1 (pc' := 11) (vs' := [some (.ref p0), some (.int p1), some (.int x1)]) (st' := [.ref p0]) rfl ?_
    refine s_getR X fl_X6_9 t0_ (dk okd_X6_closeAllOf 2 rfl) (fun a6 (t7 : tT C a6 13) => ?_)
    refine s_run X ok_X6_closeAllOf 5 1 (pc' := 15) (vs' := [some (.ref p0), some (.int p1), some (.int x1)]) (st' := [.int x1, .ref a6]) rfl ?_
    refine s_iald X t7 (dk okd_X6_closeAllOf 3 rfl) (fun v8 => ?_)
    refine s_run X ok_X6_closeAllOf 6 1 (pc' := 17) (vs' := [some (.ref p0), some (.int p1), some (.int x1)]) (st' := [.int p1, .int v8]) rfl ?_
    refine s_jn (κ := St → Option (St)) (fun k10 => ∀ (S9 : St), Jd C 3 (QJ C oV sV) S9 27 [some (.ref p0), some (.int p1), some (.int x1)] [] (k10 S9)) (fun S9 => ?_) (fun k10 h11 => ?_)
    · refine s_run X ok_X6_closeAllOf 10 2 (pc' := 2) (vs' := [some (.ref p0), some (.int p1), some (.int (x1 + 1))]) (st' := []) rfl ?_
      exact h4 (x1 + 1) S9
    · refine s_icmp_ne (tgt := 27) X (dk okd_X6_closeAllOf 4 rfl) (by decide) ?_ ?_
      · exact h11 S2
      · refine s_run X ok_X6_closeAllOf 7 1 (pc' := 21) (vs' := [some (.ref p0), some (.int p1), some (.int x1)]) (st' := [.ref p0]) rfl ?_
        refine s_getR X fl_X6_9 t0_ (dk okd_X6_closeAllOf 5 rfl) (fun a12 (t13 : tT C a12 13) => ?_)
        refine s_run X ok_X6_closeAllOf 8 2 (pc' := 26) (vs' := [some (.ref p0), some (.int p1), some (.int x1)]) (st' := [.int (-1), .int x1, .ref a12]) rfl ?_
        refine s_iast X t13 (dk okd_X6_closeAllOf 6 rfl) (fun S14 => ?_)
        exact h11 S14
def tab_X6_replaceSales : List En := [(0, 8, 0, 0), (4, 4, 1, 0), (6, 0, 0, (-1)), (14, 8, 0, 0), (18, 4, 1, 0), (20, 13, 4, 0), (22, 8, 0, 0), (26, 4, 1, 0), (27, 6, 2, 0), (29, 7, 4, 0)]
theorem ok_X6_replaceSales : tab_X6_replaceSales.all (okE cX6_replaceSales) = true := by decide +kernel
def ed_X6_replaceSales : List (Nat × Instr × Nat) := [(1, .getfield 9, 3), (5, .iaload, 1), (7, .if_icmp .ne 7, 3), (10, .ldc2_w 47, 3), (13, .lreturn, 1), (15, .getfield 21, 3), (19, .laload, 1), (23, .getfield 21, 3), (28, .lastore, 1), (31, .lreturn, 1)]
theorem okd_X6_replaceSales : ed_X6_replaceSales.all (okD cX6_replaceSales) = true := by decide +kernel
def f_X6_replaceSales (S : St) (p0 : Nat) (p1 : Int32) (p2 : Int64) : Option (Int64 × St) := lt (gR S p0 0) fun (a1 : Nat) => ldI S a1 p1 fun (v3 : Int32) => if v3 = (-1) then (some ((-1), S)) else (lt (gR S p0 3) fun (a4 : Nat) => ldJ S a4 p1 fun (v6 : Int64) => lt (gR S p0 3) fun (a7 : Nat) => stJ S a7 p1 p2 fun (S9 : St) => some (v6, S9))
set_option maxHeartbeats 4000000 in
set_option maxRecDepth 100000 in
theorem c_X6_replaceSales (S : St) (p0 : Nat) (p1 : Int32) (p2 : Int64) : Ct yX6_replaceSales cX6_replaceSales 6 (some .long) 0 0 [.ref p0, .int p1, .long p2] [(p0, 6)] S (f_X6_replaceSales S p0 p1 p2) oLS sL := by
  refine Ct_of RX6 rfl (by decide) (Nat.le_of_ble_eq_true rfl) 2 (vs := [some (.ref p0), some (.int p1), some (.long p2), none, none, none]) rfl (fun C X E hr ht => ?_)
  have t0_ : tT C p0 6 := ht (p0, 6) (by simp)
  unfold f_X6_replaceSales
  refine s_run X ok_X6_replaceSales 0 1 (pc' := 1) (vs' := [some (.ref p0), some (.int p1), some (.long p2), none, none, none]) (st' := [.ref p0]) rfl ?_
  refine s_getR X fl_X6_9 t0_ (dk okd_X6_replaceSales 0 rfl) (fun a1 (t2 : tT C a1 13) => ?_)
  refine s_run X ok_X6_replaceSales 1 1 (pc' := 5) (vs' := [some (.ref p0), some (.int p1), some (.long p2), none, none, none]) (st' := [.int p1, .ref a1]) rfl ?_
  refine s_iald X t2 (dk okd_X6_replaceSales 1 rfl) (fun v3 => ?_)
  refine s_run X ok_X6_replaceSales 2 1 (pc' := 7) (vs' := [some (.ref p0), some (.int p1), some (.long p2), none, none, none]) (st' := [.int (-1), .int v3]) rfl ?_
  refine s_icmp_ne (tgt := 14) X (dk okd_X6_replaceSales 2 rfl) (by decide) ?_ ?_
  · refine s_run X ok_X6_replaceSales 3 1 (pc' := 15) (vs' := [some (.ref p0), some (.int p1), some (.long p2), none, none, none]) (st' := [.ref p0]) rfl ?_
    refine s_getR X fl_X6_21 t0_ (dk okd_X6_replaceSales 5 rfl) (fun a4 (t5 : tT C a4 14) => ?_)
    refine s_run X ok_X6_replaceSales 4 1 (pc' := 19) (vs' := [some (.ref p0), some (.int p1), some (.long p2), none, none, none]) (st' := [.int p1, .ref a4]) rfl ?_
    refine s_lald X t5 (dk okd_X6_replaceSales 6 rfl) (fun v6 => ?_)
    refine s_run X ok_X6_replaceSales 5 2 (pc' := 23) (vs' := [some (.ref p0), some (.int p1), some (.long p2), none, some (.long v6), none]) (st' := [.ref p0]) rfl ?_
    refine s_getR X fl_X6_21 t0_ (dk okd_X6_replaceSales 7 rfl) (fun a7 (t8 : tT C a7 14) => ?_)
    refine s_run X ok_X6_replaceSales 7 2 (pc' := 28) (vs' := [some (.ref p0), some (.int p1), some (.long p2), none, some (.long v6), none]) (st' := [.long p2, .int p1, .ref a7]) rfl ?_
    refine s_last X t8 (dk okd_X6_replaceSales 8 rfl) (fun S9 => ?_)
    refine s_run X ok_X6_replaceSales 9 1 (pc' := 31) (vs' := [some (.ref p0), some (.int p1), some (.long p2), none, some (.long v6), none]) (st' := [.long v6]) rfl ?_
    exact s_lret X hr (dk okd_X6_replaceSales 9 rfl) rfl rfl
  · refine s_ldc2 X cl_X6_47 (dk okd_X6_replaceSales 3 rfl) ?_
    exact s_lret X hr (dk okd_X6_replaceSales 4 rfl) rfl rfl
def tab_X6_scaledSales : List En := [(0, 3, 0, 0), (1, 12, 3, 0), (2, 0, 0, 0), (3, 11, 5, 0), (5, 5, 5, 0), (7, 8, 0, 0), (14, 8, 0, 0), (18, 5, 5, 0), (21, 4, 1, 0), (25, 6, 3, 0), (26, 8, 0, 0), (30, 5, 5, 0), (33, 4, 2, 0), (34, 31, 0, 0), (35, 25, 0, 0), (40, 23, 0, 0), (41, 12, 3, 0), (42, 16, 5, 1), (45, 41, 5, 0), (48, 6, 3, 0)]
theorem ok_X6_scaledSales : tab_X6_scaledSales.all (okE cX6_scaledSales) = true := by decide +kernel
def ed_X6_scaledSales : List (Nat × Instr × Nat) := [(8, .getfield 31, 3), (11, .if_icmp .ge 37, 3), (15, .getfield 9, 3), (20, .iaload, 1), (22, .if_icmp .ne 20, 3), (27, .getfield 21, 3), (32, .laload, 1), (36, .ldc2_w 53, 3), (39, .ldiv, 1), (49, .lreturn, 1)]
theorem okd_X6_scaledSales : ed_X6_scaledSales.all (okD cX6_scaledSales) = true := by decide +kernel
def f_X6_scaledSales (S : St) (p0 : Nat) (p1 : Int32) (p2 : Int32) : Option (Int64) := jn (κ := Int64 → Option (Int64)) (fun x1 => some x1) fun k2 => lp (κ := Int64 → Int32 → Option (Int64)) (fun _ _ => none) (fun k6 x4 x5 => lt (gI S p0 4) fun (v8 : Int32) => if v8 ≤ x5 then (k2 x4) else (lt (gR S p0 0) fun (a9 : Nat) => ldI S a9 x5 fun (v11 : Int32) => jn (κ := Int64 → Option (Int64)) (fun x12 => k6 x12 (x5 + 1)) fun k13 => if v11 = p1 then (lt (gR S p0 3) fun (a15 : Nat) => ldJ S a15 x5 fun (v17 : Int64) => lt (x4 + ((v17 * (Int32.toInt64 p2)) / 100)) fun (v18 : Int64) => k13 v18) else (k13 x4))) FU 0 0
set_option maxHeartbeats 4000000 in
set_option maxRecDepth 100000 in
theorem c_X6_scaledSales (S : St) (p0 : Nat) (p1 : Int32) (p2 : Int32) : Ct yX6_scaledSales cX6_scaledSales 6 (some .long) 0 0 [.ref p0, .int p1, .int p2] [(p0, 6)] S (f_X6_scaledSales S p0 p1 p2) oL (fun _ => S) := by
  refine Ct_of RX6 rfl (by decide) (Nat.le_of_ble_eq_true rfl) 3 (vs := [some (.ref p0), some (.int p1), some (.int p2), none, none, none]) rfl (fun C X E hr ht => ?_)
  have t0_ : tT C p0 6 := ht (p0, 6) (by simp)
  unfold f_X6_scaledSales
  refine s_run X ok_X6_scaledSales 0 4 (pc' := 5) (vs' := [some (.ref p0), some (.int p1), some (.int p2), some (.long 0), none, some (.int 0)]) (st' := []) rfl ?_
  refine s_jn (κ := Int64 → Option (Int64)) (fun k2 => ∀ (x1 : Int64), Jd C 6 (QJ C oL (fun _ => S)) S 48 [none, none, none, some (.long x1), none, none] [] (k2 x1)) (fun x1 => ?_) (fun k2 h3 => ?_)
  · refine s_run X ok_X6_scaledSales 19 1 (pc' := 49) (vs' := [none, none, none, some (.long x1), none, none]) (st' := [.long x1]) rfl ?_
    exact s_lret X hr (dk okd_X6_scaledSales 9 rfl) rfl rfl
  · refine s_lp (κ := Int64 → Int32 → Option (Int64)) (fun k6 => ∀ (x4 : Int64) (x5 : Int32), Jd C 6 (QJ C oL (fun _ => S)) S 5 [some (.ref p0), some (.int p1), some (.int p2), some (.long x4), none, some (.int x5)] [] (k6 x4 x5)) (fun _ _ => s_none) (fun k6 h7 x4 x5 => ?_) FU 0 0
    refine s_run X ok_X6_scaledSales 4 2 (pc' := 8) (vs' := [some (.ref p0), some (.int p1), some (.int p2), some (.long x4), none, some (.int x5)]) (st' := [.ref p0, .int x5]) rfl ?_
    refine s_getI X fl_X6_31 t0_ (dk okd_X6_scaledSales 0 rfl) (fun v8 => ?_)
    refine s_icmp_ge (tgt := 48) X (dk okd_X6_scaledSales 1 rfl) (by decide) ?_ ?_
    · exact s_less [false, false, false, true, false, false] rfl (h3 x4)
    · refine s_run X ok_X6_scaledSales 6 1 (pc' := 15) (vs' := [some (.ref p0), some (.int p1), some (.int p2), some (.long x4), none, some (.int x5)]) (st' := [.ref p0]) rfl ?_
      refine s_getR X fl_X6_9 t0_ (dk okd_X6_scaledSales 2 rfl) (fun a9 (t10 : tT C a9 13) => ?_)
      refine s_run X ok_X6_scaledSales 7 1 (pc' := 20) (vs' := [some (.ref p0), some (.int p1), some (.int p2), some (.long x4), none, some (.int x5)]) (st' := [.int x5, .ref a9]) rfl ?_
      refine s_iald X t10 (dk okd_X6_scaledSales 3 rfl) (fun v11 => ?_)
      refine s_run X ok_X6_scaledSales 8 1 (pc' := 22) (vs' := [some (.ref p0), some (.int p1), some (.int p2), some (.long x4), none, some (.int x5)]) (st' := [.int p1, .int v11]) rfl ?_
      refine s_jn (κ := Int64 → Option (Int64)) (fun k13 => ∀ (x12 : Int64), Jd C 6 (QJ C oL (fun _ => S)) S 42 [some (.ref p0), some (.int p1), some (.int p2), some (.long x12), none, some (.int x5)] [] (k13 x12)) (fun x12 => ?_) (fun k13 h14 => ?_)
      · refine s_run X ok_X6_scaledSales 17 2 (pc' := 5) (vs' := [some (.ref p0), some (.int p1), some (.int p2), some (.long x12), none, some (.int (x5 + 1))]) (st' := []) rfl ?_
        exact h7 x12 (x5 + 1)
      · refine s_icmp_ne (tgt := 42) X (dk okd_X6_scaledSales 4 rfl) (by decide) ?_ ?_
        · exact h14 x4
        · refine s_run X ok_X6_scaledSales 9 2 (pc' := 27) (vs' := [some (.ref p0), some (.int p1), some (.int p2), some (.long x4), none, some (.int x5)]) (st' := [.ref p0, .long x4]) rfl ?_
          refine s_getR X fl_X6_21 t0_ (dk okd_X6_scaledSales 5 rfl) (fun a15 (t16 : tT C a15 14) => ?_)
          refine s_run X ok_X6_scaledSales 11 1 (pc' := 32) (vs' := [some (.ref p0), some (.int p1), some (.int p2), some (.long x4), none, some (.int x5)]) (st' := [.int x5, .ref a15, .long x4]) rfl ?_
          refine s_lald X t16 (dk okd_X6_scaledSales 6 rfl) (fun v17 => ?_)
          refine s_run X ok_X6_scaledSales 12 3 (pc' := 36) (vs' := [some (.ref p0), some (.int p1), some (.int p2), some (.long x4), none, some (.int x5)]) (st' := [.long (v17 * (Int32.toInt64 p2)), .long x4]) rfl ?_
          refine s_ldc2 X cl_X6_53 (dk okd_X6_scaledSales 7 rfl) ?_
          refine s_ldiv0 X (dk okd_X6_scaledSales 8 rfl) (by decide) ?_
          refine s_run X ok_X6_scaledSales 15 1 (pc' := 41) (vs' := [some (.ref p0), some (.int p1), some (.int p2), some (.long x4), none, some (.int x5)]) (st' := [.long (x4 + ((v17 * (Int32.toInt64 p2)) / 100))]) rfl ?_
          refine s_nmJ (fun v18 => ?_)
          refine s_run X ok_X6_scaledSales 16 1 (pc' := 42) (vs' := [some (.ref p0), some (.int p1), some (.int p2), some (.long v18), none, some (.int x5)]) (st' := []) rfl ?_
          exact h14 v18
def tab_X8_clear : List En := [(0, 8, 0, 0), (1, 0, 0, 0), (5, 8, 0, 0), (6, 0, 0, 0), (10, 8, 0, 0), (11, 3, 0, 0), (15, 8, 0, 0), (16, 0, 0, 0), (20, 8, 0, 0), (21, 0, 0, 0), (25, 8, 0, 0), (26, 3, 0, 0), (30, 8, 0, 0), (31, 0, 0, 0), (35, 8, 0, 0), (36, 0, 0, 0)]
theorem ok_X8_clear : tab_X8_clear.all (okE cX8_clear) = true := by decide +kernel
def ed_X8_clear : List (Nat × Instr × Nat) := [(2, .putfield 25, 3), (7, .putfield 29, 3), (12, .putfield 32, 3), (17, .putfield 36, 3), (22, .putfield 39, 3), (27, .putfield 42, 3), (32, .putfield 45, 3), (37, .putfield 48, 3), (40, .return_, 1)]
theorem okd_X8_clear : ed_X8_clear.all (okD cX8_clear) = true := by decide +kernel
def f_X8_clear (S : St) (p0 : Nat) : Option (St) := lt (uI S p0 4 0) fun (S1 : St) => lt (uI S1 p0 5 0) fun (S2 : St) => lt (uJ S2 p0 6 0) fun (S3 : St) => lt (uI S3 p0 7 0) fun (S4 : St) => lt (uI S4 p0 8 0) fun (S5 : St) => lt (uJ S5 p0 9 0) fun (S6 : St) => lt (uI S6 p0 10 0) fun (S7 : St) => lt (uI S7 p0 11 0) fun (S8 : St) => some S8
set_option maxHeartbeats 4000000 in
set_option maxRecDepth 100000 in
theorem c_X8_clear (S : St) (p0 : Nat) : Ct yX8_clear cX8_clear 1 none 0 0 [.ref p0] [(p0, 7)] S (f_X8_clear S p0) oV sV := by
  refine Ct_of RX8 rfl (by decide) (Nat.le_of_ble_eq_true rfl) 0 (vs := [some (.ref p0)]) rfl (fun C X E hr ht => ?_)
  have t0_ : tT C p0 7 := ht (p0, 7) (by simp)
  unfold f_X8_clear
  refine s_run X ok_X8_clear 0 2 (pc' := 2) (vs' := [some (.ref p0)]) (st' := [.int 0, .ref p0]) rfl ?_
  refine s_putI X fp_X8_25 t0_ (dk okd_X8_clear 0 rfl) (fun S1 => ?_)
  refine s_run X ok_X8_clear 2 2 (pc' := 7) (vs' := [some (.ref p0)]) (st' := [.int 0, .ref p0]) rfl ?_
  refine s_putI X fp_X8_29 t0_ (dk okd_X8_clear 1 rfl) (fun S2 => ?_)
  refine s_run X ok_X8_clear 4 2 (pc' := 12) (vs' := [some (.ref p0)]) (st' := [.long 0, .ref p0]) rfl ?_
  refine s_putJ X fp_X8_32 t0_ (dk okd_X8_clear 2 rfl) (fun S3 => ?_)
  refine s_run X ok_X8_clear 6 2 (pc' := 17) (vs' := [some (.ref p0)]) (st' := [.int 0, .ref p0]) rfl ?_
  refine s_putI X fp_X8_36 t0_ (dk okd_X8_clear 3 rfl) (fun S4 => ?_)
  refine s_run X ok_X8_clear 8 2 (pc' := 22) (vs' := [some (.ref p0)]) (st' := [.int 0, .ref p0]) rfl ?_
  refine s_putI X fp_X8_39 t0_ (dk okd_X8_clear 4 rfl) (fun S5 => ?_)
  refine s_run X ok_X8_clear 10 2 (pc' := 27) (vs' := [some (.ref p0)]) (st' := [.long 0, .ref p0]) rfl ?_
  refine s_putJ X fp_X8_42 t0_ (dk okd_X8_clear 5 rfl) (fun S6 => ?_)
  refine s_run X ok_X8_clear 12 2 (pc' := 32) (vs' := [some (.ref p0)]) (st' := [.int 0, .ref p0]) rfl ?_
  refine s_putI X fp_X8_45 t0_ (dk okd_X8_clear 6 rfl) (fun S7 => ?_)
  refine s_run X ok_X8_clear 14 2 (pc' := 37) (vs' := [some (.ref p0)]) (st' := [.int 0, .ref p0]) rfl ?_
  refine s_putI X fp_X8_48 t0_ (dk okd_X8_clear 7 rfl) (fun S8 => ?_)
  exact s_vret X hr (dk okd_X8_clear 8 rfl) rfl rfl
def tab_X8_addStep : List En := [(0, 8, 0, 0), (4, 0, 0, 1), (5, 18, 0, 0), (6, 11, 4, 0), (8, 5, 4, 0), (13, 8, 0, 0), (17, 5, 4, 0), (20, 0, 0, 5), (25, 5, 4, 0), (27, 0, 0, 5), (28, 19, 0, 0), (29, 8, 0, 0), (33, 5, 4, 0), (36, 17, 0, 0), (37, 11, 5, 0), (39, 8, 0, 0), (43, 5, 5, 0), (45, 6, 1, 0), (47, 8, 0, 0), (51, 5, 5, 0), (53, 4, 3, 0), (55, 8, 0, 0), (59, 5, 4, 0), (61, 37, 0, 0), (63, 0, 0, 1), (64, 17, 0, 0)]
theorem ok_X8_addStep : tab_X8_addStep.all (okE cX8_addStep) = true := by decide +kernel
def ed_X8_addStep : List (Nat × Instr × Nat) := [(1, .getfield 25, 3), (10, .ifCond .lt 14, 3), (14, .getfield 15, 3), (19, .iaload, 1), (21, .if_icmp .lt 4, 3), (24, .return_, 1), (30, .getfield 15, 3), (35, .iaload, 1), (40, .getfield 18, 3), (46, .lastore, 1), (48, .getfield 22, 3), (54, .iastore, 1), (56, .getfield 15, 3), (62, .iaload, 1), (65, .iastore, 1), (66, .return_, 1)]
theorem okd_X8_addStep : ed_X8_addStep.all (okD cX8_addStep) = true := by decide +kernel
def f_X8_addStep (S : St) (p0 : Nat) (p1 : Int64) (p2 : Int32) : Option (St) := lt (gI S p0 4) fun (v1 : Int32) => lt (v1 - 1) fun (v2 : Int32) => if v2 < 0 then (some S) else (lt (gR S p0 1) fun (a3 : Nat) => ldI S a3 v2 fun (v5 : Int32) => if v5 < 5 then (lt (gR S p0 1) fun (a6 : Nat) => ldI S a6 v2 fun (v8 : Int32) => lt ((v2 * 5) + v8) fun (v9 : Int32) => lt (gR S p0 2) fun (a10 : Nat) => stJ S a10 v9 p1 fun (S12 : St) => lt (gR S12 p0 3) fun (a13 : Nat) => stI S12 a13 v9 p2 fun (S15 : St) => lt (gR S15 p0 1) fun (a16 : Nat) => ldI S15 a16 v2 fun (v18 : Int32) => stI S15 a16 v2 (v18 + 1) fun (S19 : St) => some S19) else (some S))
set_option maxHeartbeats 4000000 in
set_option maxRecDepth 100000 in
theorem c_X8_addStep (S : St) (p0 : Nat) (p1 : Int64) (p2 : Int32) : Ct yX8_addStep cX8_addStep 6 none 0 0 [.ref p0, .long p1, .int p2] [(p0, 7)] S (f_X8_addStep S p0 p1 p2) oV sV := by
  refine Ct_of RX8 rfl (by decide) (Nat.le_of_ble_eq_true rfl) 2 (vs := [some (.ref p0), some (.long p1), none, some (.int p2), none, none]) rfl (fun C X E hr ht => ?_)
  have t0_ : tT C p0 7 := ht (p0, 7) (by simp)
  unfold f_X8_addStep
  refine s_run X ok_X8_addStep 0 1 (pc' := 1) (vs' := [some (.ref p0), some (.long p1), none, some (.int p2), none, none]) (st' := [.ref p0]) rfl ?_
  refine s_getI X fl_X8_25 t0_ (dk okd_X8_addStep 0 rfl) (fun v1 => ?_)
  refine s_run X ok_X8_addStep 1 2 (pc' := 6) (vs' := [some (.ref p0), some (.long p1), none, some (.int p2), none, none]) (st' := [.int (v1 - 1)]) rfl ?_
  refine s_nmI (fun v2 => ?_)
  refine s_run X ok_X8_addStep 3 2 (pc' := 10) (vs' := [some (.ref p0), some (.long p1), none, some (.int p2), some (.int v2), none]) (st' := [.int v2]) rfl ?_
  refine s_if_lt (tgt := 24) X (dk okd_X8_addStep 1 rfl) (by decide) ?_ ?_
  · exact s_vret X hr (dk okd_X8_addStep 5 rfl) rfl rfl
  · refine s_run X ok_X8_addStep 5 1 (pc' := 14) (vs' := [some (.ref p0), some (.long p1), none, some (.int p2), some (.int v2), none]) (st' := [.ref p0]) rfl ?_
    refine s_getR X fl_X8_15 t0_ (dk okd_X8_addStep 2 rfl) (fun a3 (t4 : tT C a3 13) => ?_)
    refine s_run X ok_X8_addStep 6 1 (pc' := 19) (vs' := [some (.ref p0), some (.long p1), none, some (.int p2), some (.int v2), none]) (st' := [.int v2, .ref a3]) rfl ?_
    refine s_iald X t4 (dk okd_X8_addStep 3 rfl) (fun v5 => ?_)
    refine s_run X ok_X8_addStep 7 1 (pc' := 21) (vs' := [some (.ref p0), some (.long p1), none, some (.int p2), some (.int v2), none]) (st' := [.int 5, .int v5]) rfl ?_
    refine s_icmp_lt (tgt := 25) X (dk okd_X8_addStep 4 rfl) (by decide) ?_ ?_
    · refine s_run X ok_X8_addStep 8 4 (pc' := 30) (vs' := [some (.ref p0), some (.long p1), none, some (.int p2), some (.int v2), none]) (st' := [.ref p0, .int (v2 * 5)]) rfl ?_
      refine s_getR X fl_X8_15 t0_ (dk okd_X8_addStep 6 rfl) (fun a6 (t7 : tT C a6 13) => ?_)
      refine s_run X ok_X8_addStep 12 1 (pc' := 35) (vs' := [some (.ref p0), some (.long p1), none, some (.int p2), some (.int v2), none]) (st' := [.int v2, .ref a6, .int (v2 * 5)]) rfl ?_
      refine s_iald X t7 (dk okd_X8_addStep 7 rfl) (fun v8 => ?_)
      refine s_run X ok_X8_addStep 13 1 (pc' := 37) (vs' := [some (.ref p0), some (.long p1), none, some (.int p2), some (.int v2), none]) (st' := [.int ((v2 * 5) + v8)]) rfl ?_
      refine s_nmI (fun v9 => ?_)
      refine s_run X ok_X8_addStep 14 2 (pc' := 40) (vs' := [some (.ref p0), some (.long p1), none, some (.int p2), some (.int v2), some (.int v9)]) (st' := [.ref p0]) rfl ?_
      refine s_getR X fl_X8_18 t0_ (dk okd_X8_addStep 8 rfl) (fun a10 (t11 : tT C a10 14) => ?_)
      refine s_run X ok_X8_addStep 16 2 (pc' := 46) (vs' := [some (.ref p0), some (.long p1), none, some (.int p2), some (.int v2), some (.int v9)]) (st' := [.long p1, .int v9, .ref a10]) rfl ?_
      refine s_last X t11 (dk okd_X8_addStep 9 rfl) (fun S12 => ?_)
      refine s_run X ok_X8_addStep 18 1 (pc' := 48) (vs' := [some (.ref p0), some (.long p1), none, some (.int p2), some (.int v2), some (.int v9)]) (st' := [.ref p0]) rfl ?_
      refine s_getR X fl_X8_22 t0_ (dk okd_X8_addStep 10 rfl) (fun a13 (t14 : tT C a13 13) => ?_)
      refine s_run X ok_X8_addStep 19 2 (pc' := 54) (vs' := [some (.ref p0), some (.long p1), none, some (.int p2), some (.int v2), some (.int v9)]) (st' := [.int p2, .int v9, .ref a13]) rfl ?_
      refine s_iast X t14 (dk okd_X8_addStep 11 rfl) (fun S15 => ?_)
      refine s_run X ok_X8_addStep 21 1 (pc' := 56) (vs' := [some (.ref p0), some (.long p1), none, some (.int p2), some (.int v2), some (.int v9)]) (st' := [.ref p0]) rfl ?_
      refine s_getR X fl_X8_15 t0_ (dk okd_X8_addStep 12 rfl) (fun a16 (t17 : tT C a16 13) => ?_)
      refine s_run X ok_X8_addStep 22 2 (pc' := 62) (vs' := [some (.ref p0), some (.long p1), none, some (.int p2), some (.int v2), some (.int v9)]) (st' := [.int v2, .ref a16, .int v2, .ref a16]) rfl ?_
      refine s_iald X t17 (dk okd_X8_addStep 13 rfl) (fun v18 => ?_)
      refine s_run X ok_X8_addStep 24 2 (pc' := 65) (vs' := [some (.ref p0), some (.long p1), none, some (.int p2), some (.int v2), some (.int v9)]) (st' := [.int (v18 + 1), .int v2, .ref a16]) rfl ?_
      refine s_iast X t17 (dk okd_X8_addStep 14 rfl) (fun S19 => ?_)
      exact s_vret X hr (dk okd_X8_addStep 15 rfl) rfl rfl
    · exact s_vret X hr (dk okd_X8_addStep 5 rfl) rfl rfl
def tab_X9_addFourBytes : List En := [(0, 1, 0, 24), (2, 10, 2, 0), (3, 4, 2, 0), (7, 8, 0, 0), (11, 2, 0, 1500), (17, 8, 0, 0), (21, 8, 0, 0), (25, 4, 1, 0), (26, 4, 2, 0), (27, 30, 0, 0), (28, 33, 0, 0), (30, 8, 0, 0), (31, 36, 0, 0), (35, 0, 0, 1), (36, 17, 0, 0), (40, 16, 2, (-8)), (43, 41, 3, 0)]
theorem ok_X9_addFourBytes : tab_X9_addFourBytes.all (okE cX9_addFourBytes) = true := by decide +kernel
def ed_X9_addFourBytes : List (Nat × Instr × Nat) := [(4, .ifCond .lt 42, 3), (8, .getfield 15, 3), (14, .if_icmp .ge 32, 3), (18, .getfield 9, 3), (22, .getfield 15, 3), (29, .bastore, 1), (32, .getfield 15, 3), (37, .putfield 15, 3), (46, .return_, 1)]
theorem okd_X9_addFourBytes : ed_X9_addFourBytes.all (okD cX9_addFourBytes) = true := by decide +kernel
def f_X9_addFourBytes (S : St) (p0 : Nat) (p1 : Int32) : Option (St) := lp (κ := Int32 → St → Option (St)) (fun _ _ => none) (fun k3 x1 S2 => if x1 < 0 then (some S2) else (lt (gI S2 p0 1) fun (v5 : Int32) => if 1500 ≤ v5 then (some S2) else (lt (gR S2 p0 0) fun (a6 : Nat) => lt (gI S2 p0 1) fun (v8 : Int32) => stI S2 a6 v8 (vp_nar .byte (Int8.toInt32 (Int32.toInt8 (p1 >>> (x1 &&& 31))))) fun (S9 : St) => lt (gI S9 p0 1) fun (v10 : Int32) => lt (uI S9 p0 1 (v10 + 1)) fun (S11 : St) => k3 (x1 + (-8)) S11))) FU 24 S
set_option maxHeartbeats 4000000 in
set_option maxRecDepth 100000 in
theorem c_X9_addFourBytes (S : St) (p0 : Nat) (p1 : Int32) : Ct yX9_addFourBytes cX9_addFourBytes 3 none 0 0 [.ref p0, .int p1] [(p0, 8)] S (f_X9_addFourBytes S p0 p1) oV sV := by
  refine Ct_of RX9 rfl (by decide) (Nat.le_of_ble_eq_true rfl) 1 (vs := [some (.ref p0), some (.int p1), none]) rfl (fun C X E hr ht => ?_)
  have t0_ : tT C p0 8 := ht (p0, 8) (by simp)
  unfold f_X9_addFourBytes
  refine s_run X ok_X9_addFourBytes 0 2 (pc' := 3) (vs' := [some (.ref p0), some (.int p1), some (.int 24)]) (st' := []) rfl ?_
  refine s_lp (κ := Int32 → St → Option (St)) (fun k3 => ∀ (x1 : Int32) (S2 : St), Jd C 3 (QJ C oV sV) S2 3 [some (.ref p0), some (.int p1), some (.int x1)] [] (k3 x1 S2)) (fun _ _ => s_none) (fun k3 h4 x1 S2 => ?_) FU 24 S
  refine s_run X ok_X9_addFourBytes 2 1 (pc' := 4) (vs' := [some (.ref p0), some (.int p1), some (.int x1)]) (st' := [.int x1]) rfl ?_
  refine s_if_lt (tgt := 46) X (dk okd_X9_addFourBytes 0 rfl) (by decide) ?_ ?_
  · exact s_vret X hr (dk okd_X9_addFourBytes 8 rfl) rfl rfl
  · refine s_run X ok_X9_addFourBytes 3 1 (pc' := 8) (vs' := [some (.ref p0), some (.int p1), some (.int x1)]) (st' := [.ref p0]) rfl ?_
    refine s_getI X fl_X9_15 t0_ (dk okd_X9_addFourBytes 1 rfl) (fun v5 => ?_)
    refine s_run X ok_X9_addFourBytes 4 1 (pc' := 14) (vs' := [some (.ref p0), some (.int p1), some (.int x1)]) (st' := [.int 1500, .int v5]) rfl ?_
    refine s_icmp_ge (tgt := 46) X (dk okd_X9_addFourBytes 2 rfl) (by decide) ?_ ?_
    · exact s_vret X hr (dk okd_X9_addFourBytes 8 rfl) rfl rfl
    · refine s_run X ok_X9_addFourBytes 5 1 (pc' := 18) (vs' := [some (.ref p0), some (.int p1), some (.int x1)]) (st' := [.ref p0]) rfl ?_
      refine s_getR X fl_X9_9 t0_ (dk okd_X9_addFourBytes 3 rfl) (fun a6 (t7 : tT C a6 12) => ?_)
      refine s_run X ok_X9_addFourBytes 6 1 (pc' := 22) (vs' := [some (.ref p0), some (.int p1), some (.int x1)]) (st' := [.ref p0, .ref a6]) rfl ?_
      refine s_getI X fl_X9_15 t0_ (dk okd_X9_addFourBytes 4 rfl) (fun v8 => ?_)
      refine s_run X ok_X9_addFourBytes 7 4 (pc' := 29) (vs' := [some (.ref p0), some (.int p1), some (.int x1)]) (st' := [.int (Int8.toInt32 (Int32.toInt8 (p1 >>> (x1 &&& 31)))), .int v8, .ref a6]) rfl ?_
      refine s_bast X t7 (dk okd_X9_addFourBytes 5 rfl) (fun S9 => ?_)
      refine s_run X ok_X9_addFourBytes 11 2 (pc' := 32) (vs' := [some (.ref p0), some (.int p1), some (.int x1)]) (st' := [.ref p0, .ref p0]) rfl ?_
      refine s_getI X fl_X9_15 t0_ (dk okd_X9_addFourBytes 6 rfl) (fun v10 => ?_)
      refine s_run X ok_X9_addFourBytes 13 2 (pc' := 37) (vs' := [some (.ref p0), some (.int p1), some (.int x1)]) (st' := [.int (v10 + 1), .ref p0]) rfl ?_
      refine s_putI X fp_X9_15 t0_ (dk okd_X9_addFourBytes 7 rfl) (fun S11 => ?_)
      refine s_run X ok_X9_addFourBytes 15 2 (pc' := 3) (vs' := [some (.ref p0), some (.int p1), some (.int (x1 + (-8)))]) (st' := []) rfl ?_
      exact h4 (x1 + (-8)) S11
