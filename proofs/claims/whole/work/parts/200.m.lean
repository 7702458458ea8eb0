theorem cl_X0_74 : Cond.constantLong RX0 74 2 ∈ TT := TT_5 (i := 127) rfl rfl
theorem fl_X0_15 : FL RX0 15 0 1 2 := ⟨RX0, TX0, 7, rfl, by decide, uw_X0, TT_2 (i := 58) rfl rfl, rfl, rfl, by decide⟩
theorem fl_X0_18 : FL RX0 18 0 2 2 := ⟨RX0, TX0, 7, rfl, by decide, uw_X0, TT_2 (i := 59) rfl rfl, rfl, rfl, by decide⟩
theorem fl_X0_21 : FL RX0 21 0 3 2 := ⟨RX0, TX0, 7, rfl, by decide, uw_X0, TT_2 (i := 60) rfl rfl, rfl, rfl, by decide⟩
theorem fl_X0_24 : FL RX0 24 0 4 2 := ⟨RX0, TX0, 7, rfl, by decide, uw_X0, TT_2 (i := 63) rfl rfl, rfl, rfl, by decide⟩
theorem fl_X0_27 : FL RX0 27 0 5 2 := ⟨RX0, TX0, 7, rfl, by decide, uw_X0, TT_2 (i := 64) rfl rfl, rfl, rfl, by decide⟩
theorem fl_X0_36 : FL RX0 36 0 6 0 := ⟨RX0, TX0, 7, rfl, by decide, uw_X0, TT_2 (i := 67) rfl rfl, rfl, rfl, by decide⟩
theorem fl_X0_9 : FL RX0 9 0 0 2 := ⟨RX0, TX0, 7, rfl, by decide, uw_X0, TT_2 (i := 57) rfl rfl, rfl, rfl, by decide⟩
theorem fl_X1_12 : FL RX1 12 1 0 2 := ⟨RX1, TX1, 7, rfl, by decide, uw_X1, TT_2 (i := 85) rfl rfl, rfl, rfl, by decide⟩
theorem fl_X1_208 : FL RX1 208 0 6 0 := ⟨RX0, TX0, 7, rfl, by decide, uw_X0, TT_2 (i := 69) rfl rfl, rfl, rfl, by decide⟩
theorem fl_X1_240 : FL RX1 240 7 10 0 := ⟨RX8, TX8, 12, rfl, by decide, uw_X8, TT_1 (i := 149) rfl rfl, rfl, rfl, by decide⟩
theorem fl_X1_243 : FL RX1 243 9 1 2 := ⟨RX10, TX10, 6, rfl, by decide, uw_X10, TT_2 (i := 31) rfl rfl, rfl, rfl, by decide⟩
theorem fl_X1_42 : FL RX1 42 1 4 2 := ⟨RX1, TX1, 7, rfl, by decide, uw_X1, TT_2 (i := 99) rfl rfl, rfl, rfl, by decide⟩
theorem fl_X1_49 : FL RX1 49 1 5 2 := ⟨RX1, TX1, 7, rfl, by decide, uw_X1, TT_2 (i := 102) rfl rfl, rfl, rfl, by decide⟩
theorem fl_X2_15 : FL RX2 15 2 1 2 := ⟨RX2, TX2, 9, rfl, by decide, uw_X2, TT_1 (i := 219) rfl rfl, rfl, rfl, by decide⟩
theorem fl_X2_19 : FL RX2 19 2 2 2 := ⟨RX2, TX2, 9, rfl, by decide, uw_X2, TT_1 (i := 220) rfl rfl, rfl, rfl, by decide⟩
theorem fl_X2_22 : FL RX2 22 2 3 2 := ⟨RX2, TX2, 9, rfl, by decide, uw_X2, TT_1 (i := 223) rfl rfl, rfl, rfl, by decide⟩
theorem fl_X2_25 : FL RX2 25 2 4 2 := ⟨RX2, TX2, 9, rfl, by decide, uw_X2, TT_1 (i := 226) rfl rfl, rfl, rfl, by decide⟩
theorem fl_X2_28 : FL RX2 28 2 5 2 := ⟨RX2, TX2, 9, rfl, by decide, uw_X2, TT_1 (i := 229) rfl rfl, rfl, rfl, by decide⟩
theorem fl_X2_31 : FL RX2 31 2 6 2 := ⟨RX2, TX2, 9, rfl, by decide, uw_X2, TT_1 (i := 232) rfl rfl, rfl, rfl, by decide⟩
theorem fl_X2_34 : FL RX2 34 2 7 2 := ⟨RX2, TX2, 9, rfl, by decide, uw_X2, TT_1 (i := 235) rfl rfl, rfl, rfl, by decide⟩
theorem fl_X2_44 : FL RX2 44 2 8 0 := ⟨RX2, TX2, 9, rfl, by decide, uw_X2, TT_1 (i := 239) rfl rfl, rfl, rfl, by decide⟩
theorem fl_X2_9 : FL RX2 9 2 0 2 := ⟨RX2, TX2, 9, rfl, by decide, uw_X2, TT_1 (i := 218) rfl rfl, rfl, rfl, by decide⟩
theorem fl_X3_15 : FL RX3 15 3 1 2 := ⟨RX3, TX3, 4, rfl, by decide, uw_X3, TT_1 (i := 99) rfl rfl, rfl, rfl, by decide⟩
theorem fl_X3_18 : FL RX3 18 3 2 2 := ⟨RX3, TX3, 4, rfl, by decide, uw_X3, TT_1 (i := 100) rfl rfl, rfl, rfl, by decide⟩
theorem fl_X3_57 : FL RX3 57 3 3 0 := ⟨RX3, TX3, 4, rfl, by decide, uw_X3, TT_1 (i := 101) rfl rfl, rfl, rfl, by decide⟩
theorem fl_X3_9 : FL RX3 9 3 0 2 := ⟨RX3, TX3, 4, rfl, by decide, uw_X3, TT_1 (i := 98) rfl rfl, rfl, rfl, by decide⟩
theorem fl_X4_15 : FL RX4 15 4 1 0 := ⟨RX4, TX4, 2, rfl, by decide, uw_X4, TT_1 (i := 85) rfl rfl, rfl, rfl, by decide⟩
theorem fl_X4_9 : FL RX4 9 4 0 2 := ⟨RX4, TX4, 2, rfl, by decide, uw_X4, TT_1 (i := 83) rfl rfl, rfl, rfl, by decide⟩
theorem fp_X0_36 : FP RX0 36 0 6 0 := ⟨RX0, TX0, 7, tyX0, tyX0 6, rfl, by decide, uw_X0, TT_2 (i := 67) rfl rfl, rfl, rfl, by decide, tyX0_ok, nmX0, rfl, tyX0_ok 6 (by decide), fun h => rfl, fun h => absurd h (by decide), fun h => absurd h (by decide)⟩
theorem fp_X2_44 : FP RX2 44 2 8 0 := ⟨RX2, TX2, 9, tyX2, tyX2 8, rfl, by decide, uw_X2, TT_1 (i := 239) rfl rfl, rfl, rfl, by decide, tyX2_ok, nmX2, rfl, tyX2_ok 8 (by decide), fun h => rfl, fun h => absurd h (by decide), fun h => absurd h (by decide)⟩
theorem fp_X3_57 : FP RX3 57 3 3 0 := ⟨RX3, TX3, 4, tyX3, tyX3 3, rfl, by decide, uw_X3, TT_1 (i := 101) rfl rfl, rfl, rfl, by decide, tyX3_ok, nmX3, rfl, tyX3_ok 3 (by decide), fun h => rfl, fun h => absurd h (by decide), fun h => absurd h (by decide)⟩
theorem fp_X4_15 : FP RX4 15 4 1 0 := ⟨RX4, TX4, 2, tyX4, tyX4 1, rfl, by decide, uw_X4, TT_1 (i := 85) rfl rfl, rfl, rfl, by decide, tyX4_ok, nmX4, rfl, tyX4_ok 1 (by decide), fun h => rfl, fun h => absurd h (by decide), fun h => absurd h (by decide)⟩
theorem fp_X5_35 : FP RX5 35 5 7 0 := ⟨RX5, TX5, 9, tyX5, tyX5 7, rfl, by decide, uw_X5, TT_2 (i := 162) rfl rfl, rfl, rfl, by decide, tyX5_ok, nmX5, rfl, tyX5_ok 7 (by decide), fun h => rfl, fun h => absurd h (by decide), fun h => absurd h (by decide)⟩
theorem fp_X5_39 : FP RX5 39 5 8 0 := ⟨RX5, TX5, 9, tyX5, tyX5 8, rfl, by decide, uw_X5, TT_2 (i := 163) rfl rfl, rfl, rfl, by decide, tyX5_ok, nmX5, rfl, tyX5_ok 8 (by decide), fun h => rfl, fun h => absurd h (by decide), fun h => absurd h (by decide)⟩
theorem mm_X0_40 : Cond.methodLink RX0 40 Lib.Math.min.name ∈ TT := TT_4 (i := 116) rfl rfl
theorem mm_X0_46 : Cond.methodLink RX0 46 Lib.Math.max.name ∈ TT := TT_4 (i := 117) rfl rfl
theorem mm_X0_49 : Cond.methodLink RX0 49 arraycopyName ∈ TT := TT_4 (i := 120) rfl rfl
theorem mm_X1_246 : Cond.methodLink RX1 246 Lib.Math.max.name ∈ TT := TT_5 (i := 87) rfl rfl
theorem mm_X2_38 : Cond.methodLink RX2 38 arraycopyName ∈ TT := TT_3 (i := 133) rfl rfl
theorem mm_X2_56 : Cond.methodLink RX2 56 Lib.MathLoose.max_long.x ∈ TT := TT_4 (i := 70) rfl rfl
theorem mm_X3_21 : Cond.methodLink RX3 21 Lib.Math.abs.name ∈ TT := TT_3 (i := 175) rfl rfl
theorem mm_X3_33 : Cond.methodLink RX3 33 arraycopyName ∈ TT := TT_4 (i := 97) rfl rfl
theorem mm_X3_69 : Cond.methodLink RX3 69 Lib.Math.min.name ∈ TT := TT_5 (i := 229) rfl rfl
theorem ms_X0_55 : MS RX0 55 yX0_rowOf cX0_rowOf 2 (some .int) 2 := ⟨TT_4 (i := 55) rfl rfl, TT_4 (i := 56) rfl rfl, TT_1 (i := 10) rfl rfl, TT_4 (i := 57) rfl rfl, ⟨by decide, by decide, by decide +kernel⟩⟩
theorem ms_X3_39 : MS RX3 39 yX3_contains cX3_contains 2 (some .boolean) 2 := ⟨TT_3 (i := 148) rfl rfl, TT_3 (i := 149) rfl rfl, TT_1 (i := 4) rfl rfl, TT_3 (i := 150) rfl rfl, ⟨by decide, by decide, by decide +kernel⟩⟩
theorem ms_X3_65 : MS RX3 65 yX3_steps cX3_steps 4 (some .int) 4 := ⟨TT_5 (i := 228) rfl rfl, TT_3 (i := 173) rfl rfl, TT_1 (i := 4) rfl rfl, TT_3 (i := 174) rfl rfl, ⟨by decide, by decide, by decide +kernel⟩⟩
theorem mv_X0_66 : MV RX0 66 yX0_salesIn cX0_salesIn 3 (some .long) 2 := ⟨TT_4 (i := 51) rfl rfl, TT_4 (i := 52) rfl rfl, TT_4 (i := 53) rfl rfl, TT_1 (i := 10) rfl rfl, TT_4 (i := 54) rfl rfl, ⟨by decide, by decide, by decide +kernel⟩⟩
theorem mv_X0_70 : MV RX0 70 yX0_allContributed cX0_allContributed 4 (some .long) 0 := ⟨TT_4 (i := 81) rfl rfl, TT_4 (i := 83) rfl rfl, TT_s (i := 9) (by decide +kernel) (by decide +kernel), TT_1 (i := 10) rfl rfl, TT_4 (i := 84) rfl rfl, ⟨by decide, by decide, by decide +kernel⟩⟩
theorem mv_X0_76 : MV RX0 76 yX0_fundLeft cX0_fundLeft 1 (some .long) 0 := ⟨TT_5 (i := 12) rfl rfl, TT_4 (i := 78) rfl rfl, TT_4 (i := 79) rfl rfl, TT_1 (i := 10) rfl rfl, TT_4 (i := 80) rfl rfl, ⟨by decide, by decide, by decide +kernel⟩⟩
theorem mv_X0_79 : MV RX0 79 yX0_allowanceLeft cX0_allowanceLeft 2 (some .long) 1 := ⟨TT_5 (i := 123) rfl rfl, TT_5 (i := 124) rfl rfl, TT_5 (i := 125) rfl rfl, TT_1 (i := 10) rfl rfl, TT_5 (i := 126) rfl rfl, ⟨by decide, by decide, by decide +kernel⟩⟩
theorem mv_X2_48 : MV RX2 48 yX2_has cX2_has 2 (some .boolean) 1 := ⟨TT_5 (i := 0) rfl rfl, TT_5 (i := 1) rfl rfl, TT_5 (i := 2) rfl rfl, TT_1 (i := 8) rfl rfl, TT_5 (i := 3) rfl rfl, ⟨by decide, by decide, by decide +kernel⟩⟩
theorem mv_X2_62 : MV RX2 62 yX2_owedBy cX2_owedBy 2 (some .long) 1 := ⟨TT_4 (i := 66) rfl rfl, TT_4 (i := 67) rfl rfl, TT_4 (i := 68) rfl rfl, TT_1 (i := 8) rfl rfl, TT_4 (i := 69) rfl rfl, ⟨by decide, by decide, by decide +kernel⟩⟩
theorem mv_X3_43 : MV RX3 43 yX3_ownerAt cX3_ownerAt 3 (some .int) 2 := ⟨TT_3 (i := 144) rfl rfl, TT_3 (i := 145) rfl rfl, TT_3 (i := 146) rfl rfl, TT_1 (i := 4) rfl rfl, TT_3 (i := 147) rfl rfl, ⟨by decide, by decide, by decide +kernel⟩⟩
theorem mv_X3_47 : MV RX3 47 yX3_belongs cX3_belongs 4 (some .boolean) 3 := ⟨TT_3 (i := 155) rfl rfl, TT_3 (i := 157) rfl rfl, TT_s (i := 3) (by decide +kernel) (by decide +kernel), TT_1 (i := 4) rfl rfl, TT_3 (i := 158) rfl rfl, ⟨by decide, by decide, by decide +kernel⟩⟩
def tab_X0_copyFrom : List En := [(0, 0, 0, 0), (1, 8, 1, 0), (5, 1, 0, 60), (13, 1, 0, 8), (15, 19, 0, 0), (16, 10, 2, 0), (17, 8, 1, 0), (21, 0, 0, 0), (22, 8, 0, 0), (26, 0, 0, 0), (27, 4, 2, 0), (31, 8, 1, 0), (35, 0, 0, 0), (36, 8, 0, 0), (40, 0, 0, 0), (41, 4, 2, 0), (42, 1, 0, 7), (44, 19, 0, 0), (48, 8, 1, 0), (52, 0, 0, 0), (53, 8, 0, 0), (57, 0, 0, 0), (58, 1, 0, 64), (63, 8, 1, 0), (67, 0, 0, 0), (68, 8, 0, 0), (72, 0, 0, 0), (73, 1, 0, 8), (78, 8, 1, 0), (82, 0, 0, 0), (83, 8, 0, 0), (87, 0, 0, 0), (88, 1, 0, 8), (93, 8, 1, 0), (97, 0, 0, 0), (98, 8, 0, 0), (102, 0, 0, 0), (103, 0, 0, 3), (107, 8, 0, 0), (108, 8, 1, 0)]
theorem ok_X0_copyFrom : tab_X0_copyFrom.all (okE cX0_copyFrom) = true := by decide +kernel
def ed_X0_copyFrom : List (Nat × Instr × Nat) := [(2, .getfield 36, 3), (7, .invokestatic 40, 3), (10, .invokestatic 46, 3), (18, .getfield 9, 3), (23, .getfield 9, 3), (28, .invokestatic 49, 3), (32, .getfield 15, 3), (37, .getfield 15, 3), (45, .invokestatic 49, 3), (49, .getfield 18, 3), (54, .getfield 18, 3), (60, .invokestatic 49, 3), (64, .getfield 21, 3), (69, .getfield 21, 3), (75, .invokestatic 49, 3), (79, .getfield 24, 3), (84, .getfield 24, 3), (90, .invokestatic 49, 3), (94, .getfield 27, 3), (99, .getfield 27, 3), (104, .invokestatic 49, 3), (109, .getfield 36, 3), (112, .putfield 36, 3), (115, .return_, 1)]
theorem okd_X0_copyFrom : ed_X0_copyFrom.all (okD cX0_copyFrom) = true := by decide +kernel
def f_X0_copyFrom (S : St) (p0 : Nat) (p1 : Nat) : Option (St) := lt (gI S p1 6) fun (v1 : Int32) => lt (if 60 < v1 then 60 else v1) fun (v2 : Int32) => lt (if 0 < v2 then v2 else 0) fun (v3 : Int32) => lt (v3 * 8) fun (v4 : Int32) => lt (gR S p1 0) fun (a5 : Nat) => lt (gR S p0 0) fun (a7 : Nat) => cpJ S a5 0 a7 0 v4 fun (S9 : St) => lt (gR S9 p1 1) fun (a10 : Nat) => lt (gR S9 p0 1) fun (a12 : Nat) => cpJ S9 a10 0 a12 0 (v4 * 7) fun (S14 : St) => lt (gR S14 p1 2) fun (a15 : Nat) => lt (gR S14 p0 2) fun (a17 : Nat) => cpJ S14 a15 0 a17 0 64 fun (S19 : St) => lt (gR S19 p1 3) fun (a20 : Nat) => lt (gR S19 p0 3) fun (a22 : Nat) => cpJ S19 a20 0 a22 0 8 fun (S24 : St) => lt (gR S24 p1 4) fun (a25 : Nat) => lt (gR S24 p0 4) fun (a27 : Nat) => cpJ S24 a25 0 a27 0 8 fun (S29 : St) => lt (gR S29 p1 5) fun (a30 : Nat) => lt (gR S29 p0 5) fun (a32 : Nat) => cpJ S29 a30 0 a32 0 3 fun (S34 : St) => lt (gI S34 p1 6) fun (v35 : Int32) => lt (uI S34 p0 6 v35) fun (S36 : St) => some S36
set_option maxHeartbeats 4000000 in
set_option maxRecDepth 100000 in
theorem c_X0_copyFrom (S : St) (p0 : Nat) (p1 : Nat) : Ct yX0_copyFrom cX0_copyFrom 3 none 1 48 (fun _ => [.ref p0, .ref p1]) [(p0, 0), (p1, 0)] S (f_X0_copyFrom S p0 p1) oV sV := by
  refine Ct_of RX0 rfl (by decide) (fun _ => Nat.le_of_ble_eq_true rfl) 1 (vs := fun _ => [some (.ref p0), some (.ref p1), none]) (fun _ => rfl) (fun C X E hr ht => ?_)
  have t0_ : tT C p0 0 := ht (p0, 0) (by simp)
  have t1_ : tT C p1 0 := ht (p1, 0) (by simp)
  show Jd C 3 (QJ C oV sV) S 0 [some (.ref p0), some (.ref p1), none] [] (f_X0_copyFrom S p0 p1)
  unfold f_X0_copyFrom
  refine s_run X ok_X0_copyFrom 0 2 (pc' := 2) (vs' := [some (.ref p0), some (.ref p1), none]) (st' := [.ref p1, .int 0]) rfl ?_
  refine s_getI X fl_X0_36 t1_ (dk okd_X0_copyFrom 0 rfl) (fun v1 => ?_)
  refine s_run X ok_X0_copyFrom 2 1 (pc' := 7) (vs' := [some (.ref p0), some (.ref p1), none]) (st' := [.int 60, .int v1, .int 0]) rfl ?_
  refine s_Mmin X mm_X0_40 (Nat.le_of_ble_eq_true rfl) (Nat.le_of_ble_eq_true rfl) (dk okd_X0_copyFrom 1 rfl) (fun v2 => ?_)
  refine s_Mmax X mm_X0_46 (Nat.le_of_ble_eq_true rfl) (Nat.le_of_ble_eq_true rfl) (dk okd_X0_copyFrom 2 rfl) (fun v3 => ?_)
  refine s_run X ok_X0_copyFrom 3 2 (pc' := 16) (vs' := [some (.ref p0), some (.ref p1), none]) (st' := [.int (v3 * 8)]) rfl ?_
  refine s_nmI (fun v4 => ?_)
  refine s_run X ok_X0_copyFrom 5 2 (pc' := 18) (vs' := [some (.ref p0), some (.ref p1), some (.int v4)]) (st' := [.ref p1]) rfl ?_
  refine s_getR X fl_X0_9 t1_ (dk okd_X0_copyFrom 3 rfl) (fun a5 (t6 : tT C a5 14) => ?_)
  refine s_run X ok_X0_copyFrom 7 2 (pc' := 23) (vs' := [some (.ref p0), some (.ref p1), some (.int v4)]) (st' := [.ref p0, .int 0, .ref a5]) rfl ?_
  refine s_getR X fl_X0_9 t0_ (dk okd_X0_copyFrom 4 rfl) (fun a7 (t8 : tT C a7 14) => ?_)
  refine s_run X ok_X0_copyFrom 9 2 (pc' := 28) (vs' := [some (.ref p0), some (.ref p1), some (.int v4)]) (st' := [.int v4, .int 0, .ref a7, .int 0, .ref a5]) rfl ?_
  refine s_copyJ X mm_X0_49 t6 t8 (Nat.le_of_ble_eq_true rfl) (Nat.le_of_ble_eq_true rfl) (dk okd_X0_copyFrom 5 rfl) (fun S9 => ?_)
  refine s_run X ok_X0_copyFrom 11 1 (pc' := 32) (vs' := [some (.ref p0), some (.ref p1), some (.int v4)]) (st' := [.ref p1]) rfl ?_
  refine s_getR X fl_X0_15 t1_ (dk okd_X0_copyFrom 6 rfl) (fun a10 (t11 : tT C a10 14) => ?_)
  refine s_run X ok_X0_copyFrom 12 2 (pc' := 37) (vs' := [some (.ref p0), some (.ref p1), some (.int v4)]) (st' := [.ref p0, .int 0, .ref a10]) rfl ?_
  refine s_getR X fl_X0_15 t0_ (dk okd_X0_copyFrom 7 rfl) (fun a12 (t13 : tT C a12 14) => ?_)
  refine s_run X ok_X0_copyFrom 14 4 (pc' := 45) (vs' := [some (.ref p0), some (.ref p1), some (.int v4)]) (st' := [.int (v4 * 7), .int 0, .ref a12, .int 0, .ref a10]) rfl ?_
  refine s_copyJ X mm_X0_49 t11 t13 (Nat.le_of_ble_eq_true rfl) (Nat.le_of_ble_eq_true rfl) (dk okd_X0_copyFrom 8 rfl) (fun S14 => ?_)
  refine s_run X ok_X0_copyFrom 18 1 (pc' := 49) (vs' := [some (.ref p0), some (.ref p1), some (.int v4)]) (st' := [.ref p1]) rfl ?_
  refine s_getR X fl_X0_18 t1_ (dk okd_X0_copyFrom 9 rfl) (fun a15 (t16 : tT C a15 14) => ?_)
  refine s_run X ok_X0_copyFrom 19 2 (pc' := 54) (vs' := [some (.ref p0), some (.ref p1), some (.int v4)]) (st' := [.ref p0, .int 0, .ref a15]) rfl ?_
  refine s_getR X fl_X0_18 t0_ (dk okd_X0_copyFrom 10 rfl) (fun a17 (t18 : tT C a17 14) => ?_)
  refine s_run X ok_X0_copyFrom 21 2 (pc' := 60) (vs' := [some (.ref p0), some (.ref p1), some (.int v4)]) (st' := [.int 64, .int 0, .ref a17, .int 0, .ref a15]) rfl ?_
  refine s_copyJ X mm_X0_49 t16 t18 (Nat.le_of_ble_eq_true rfl) (Nat.le_of_ble_eq_true rfl) (dk okd_X0_copyFrom 11 rfl) (fun S19 => ?_)
  refine s_run X ok_X0_copyFrom 23 1 (pc' := 64) (vs' := [some (.ref p0), some (.ref p1), some (.int v4)]) (st' := [.ref p1]) rfl ?_
  refine s_getR X fl_X0_21 t1_ (dk okd_X0_copyFrom 12 rfl) (fun a20 (t21 : tT C a20 14) => ?_)
  refine s_run X ok_X0_copyFrom 24 2 (pc' := 69) (vs' := [some (.ref p0), some (.ref p1), some (.int v4)]) (st' := [.ref p0, .int 0, .ref a20]) rfl ?_
  refine s_getR X fl_X0_21 t0_ (dk okd_X0_copyFrom 13 rfl) (fun a22 (t23 : tT C a22 14) => ?_)
  refine s_run X ok_X0_copyFrom 26 2 (pc' := 75) (vs' := [some (.ref p0), some (.ref p1), some (.int v4)]) (st' := [.int 8, .int 0, .ref a22, .int 0, .ref a20]) rfl ?_
  refine s_copyJ X mm_X0_49 t21 t23 (Nat.le_of_ble_eq_true rfl) (Nat.le_of_ble_eq_true rfl) (dk okd_X0_copyFrom 14 rfl) (fun S24 => ?_)
  refine s_run X ok_X0_copyFrom 28 1 (pc' := 79) (vs' := [some (.ref p0), some (.ref p1), some (.int v4)]) (st' := [.ref p1]) rfl ?_
  refine s_getR X fl_X0_24 t1_ (dk okd_X0_copyFrom 15 rfl) (fun a25 (t26 : tT C a25 14) => ?_)
  refine s_run X ok_X0_copyFrom 29 2 (pc' := 84) (vs' := [some (.ref p0), some (.ref p1), some (.int v4)]) (st' := [.ref p0, .int 0, .ref a25]) rfl ?_
  refine s_getR X fl_X0_24 t0_ (dk okd_X0_copyFrom 16 rfl) (fun a27 (t28 : tT C a27 14) => ?_)
  refine s_run X ok_X0_copyFrom 31 2 (pc' := 90) (vs' := [some (.ref p0), some (.ref p1), some (.int v4)]) (st' := [.int 8, .int 0, .ref a27, .int 0, .ref a25]) rfl ?_
  refine s_copyJ X mm_X0_49 t26 t28 (Nat.le_of_ble_eq_true rfl) (Nat.le_of_ble_eq_true rfl) (dk okd_X0_copyFrom 17 rfl) (fun S29 => ?_)
  refine s_run X ok_X0_copyFrom 33 1 (pc' := 94) (vs' := [some (.ref p0), some (.ref p1), some (.int v4)]) (st' := [.ref p1]) rfl ?_
  refine s_getR X fl_X0_27 t1_ (dk okd_X0_copyFrom 18 rfl) (fun a30 (t31 : tT C a30 14) => ?_)
  refine s_run X ok_X0_copyFrom 34 2 (pc' := 99) (vs' := [some (.ref p0), some (.ref p1), some (.int v4)]) (st' := [.ref p0, .int 0, .ref a30]) rfl ?_
  refine s_getR X fl_X0_27 t0_ (dk okd_X0_copyFrom 19 rfl) (fun a32 (t33 : tT C a32 14) => ?_)
  refine s_run X ok_X0_copyFrom 36 2 (pc' := 104) (vs' := [some (.ref p0), some (.ref p1), some (.int v4)]) (st' := [.int 3, .int 0, .ref a32, .int 0, .ref a30]) rfl ?_
  refine s_copyJ X mm_X0_49 t31 t33 (Nat.le_of_ble_eq_true rfl) (Nat.le_of_ble_eq_true rfl) (dk okd_X0_copyFrom 20 rfl) (fun S34 => ?_)
  refine s_run X ok_X0_copyFrom 38 2 (pc' := 109) (vs' := [some (.ref p0), some (.ref p1), some (.int v4)]) (st' := [.ref p1, .ref p0]) rfl ?_
  refine s_getI X fl_X0_36 t1_ (dk okd_X0_copyFrom 21 rfl) (fun v35 => ?_)
  refine s_putI X fp_X0_36 t0_ (dk okd_X0_copyFrom 22 rfl) (fun S36 => ?_)
  exact s_vret X hr (dk okd_X0_copyFrom 23 rfl) rfl rfl
def tab_X0_hasOpenMonth : List En := [(0, 8, 0, 0), (7, 8, 0, 0), (11, 1, 0, 60), (16, 0, 0, 1), (17, 41, 21, 0), (20, 0, 0, 0)]
theorem ok_X0_hasOpenMonth : tab_X0_hasOpenMonth.all (okE cX0_hasOpenMonth) = true := by decide +kernel
def ed_X0_hasOpenMonth : List (Nat × Instr × Nat) := [(1, .getfield 36, 3), (4, .ifCond .lt 16, 3), (8, .getfield 36, 3), (13, .if_icmp .ge 7, 3), (21, .ireturn, 1)]
theorem okd_X0_hasOpenMonth : ed_X0_hasOpenMonth.all (okD cX0_hasOpenMonth) = true := by decide +kernel
def f_X0_hasOpenMonth (S : St) (p0 : Nat) : Option (Int32) := lt (gI S p0 6) fun (v1 : Int32) => jn (κ := Option (Int32)) (some 0) fun k2 => if v1 < 0 then (k2) else (lt (gI S p0 6) fun (v4 : Int32) => if 60 ≤ v4 then (k2) else (some 1))
set_option maxHeartbeats 4000000 in
set_option maxRecDepth 100000 in
theorem c_X0_hasOpenMonth (S : St) (p0 : Nat) : Ct yX0_hasOpenMonth cX0_hasOpenMonth 1 (some .boolean) 0 0 (fun _ => [.ref p0]) [(p0, 0)] S (f_X0_hasOpenMonth S p0) oI (fun _ => S) := by
  refine Ct_of RX0 rfl (by decide) (fun _ => Nat.le_of_ble_eq_true rfl) 0 (vs := fun _ => [some (.ref p0)]) (fun _ => rfl) (fun C X E hr ht => ?_)
  have t0_ : tT C p0 0 := ht (p0, 0) (by simp)
  show Jd C 1 (QJ C oI (fun _ => S)) S 0 [some (.ref p0)] [] (f_X0_hasOpenMonth S p0)
  unfold f_X0_hasOpenMonth
  refine s_run X ok_X0_hasOpenMonth 0 1 (pc' := 1) (vs' := [some (.ref p0)]) (st' := [.ref p0]) rfl ?_
  refine s_getI X fl_X0_36 t0_ (dk okd_X0_hasOpenMonth 0 rfl) (fun v1 => ?_)
  refine s_jn (κ := Option (Int32)) (fun k2 => Jd C 1 (QJ C oI (fun _ => S)) S 20 [none] [] k2) ?_ (fun k2 h3 => ?_)
  · refine s_run X ok_X0_hasOpenMonth 5 1 (pc' := 21) (vs' := [none]) (st' := [.int 0]) rfl ?_
    exact s_zret0 X hr (dk okd_X0_hasOpenMonth 4 rfl) (by decide) rfl rfl
  · refine s_if_lt (tgt := 20) X (dk okd_X0_hasOpenMonth 1 rfl) (by decide) ?_ ?_
    · exact s_less [false] rfl (h3)
    · refine s_run X ok_X0_hasOpenMonth 1 1 (pc' := 8) (vs' := [some (.ref p0)]) (st' := [.ref p0]) rfl ?_
      refine s_getI X fl_X0_36 t0_ (dk okd_X0_hasOpenMonth 2 rfl) (fun v4 => ?_)
      refine s_run X ok_X0_hasOpenMonth 2 1 (pc' := 13) (vs' := [some (.ref p0)]) (st' := [.int 60, .int v4]) rfl ?_
      refine s_icmp_ge (tgt := 20) X (dk okd_X0_hasOpenMonth 3 rfl) (by decide) ?_ ?_
      · exact s_less [false] rfl (h3)
      · refine s_run X ok_X0_hasOpenMonth 3 2 (pc' := 21) (vs' := [some (.ref p0)]) (st' := [.int 1]) rfl ?_
        exact s_zret0 X hr (dk okd_X0_hasOpenMonth 4 rfl) (by decide) rfl rfl
def tab_X0_rowOf : List En := [(0, 4, 1, 0), (1, 1, 0, 8), (3, 19, 0, 0), (4, 4, 0, 0), (5, 17, 0, 0)]
theorem ok_X0_rowOf : tab_X0_rowOf.all (okE cX0_rowOf) = true := by decide +kernel
def ed_X0_rowOf : List (Nat × Instr × Nat) := [(6, .ireturn, 1)]
theorem okd_X0_rowOf : ed_X0_rowOf.all (okD cX0_rowOf) = true := by decide +kernel
def f_X0_rowOf (S : St) (p0 : Int32) (p1 : Int32) : Option (Int32) := some ((p1 * 8) + p0)
set_option maxHeartbeats 4000000 in
set_option maxRecDepth 100000 in
theorem c_X0_rowOf (S : St) (p0 : Int32) (p1 : Int32) : Ct yX0_rowOf cX0_rowOf 2 (some .int) 0 0 (fun _ => [.int p0, .int p1]) [] S (f_X0_rowOf S p0 p1) oI (fun _ => S) := by
  refine Ct_of RX0 rfl (by decide) (fun _ => Nat.le_of_ble_eq_true rfl) 0 (vs := fun _ => [some (.int p0), some (.int p1)]) (fun _ => rfl) (fun C X E hr ht => ?_)
  show Jd C 2 (QJ C oI (fun _ => S)) S 0 [some (.int p0), some (.int p1)] [] (f_X0_rowOf S p0 p1)
  unfold f_X0_rowOf
  refine s_run X ok_X0_rowOf 0 5 (pc' := 6) (vs' := [some (.int p0), some (.int p1)]) (st' := [.int ((p1 * 8) + p0)]) rfl ?_
  exact s_iret X hr (dk okd_X0_rowOf 0 rfl) rfl rfl
def tab_X0_salesIn : List En := [(0, 8, 0, 0), (4, 4, 1, 0), (5, 4, 2, 0)]
theorem ok_X0_salesIn : tab_X0_salesIn.all (okE cX0_salesIn) = true := by decide +kernel
def ed_X0_salesIn : List (Nat × Instr × Nat) := [(1, .getfield 9, 3), (6, .invokestatic 55, 3), (9, .laload, 1), (10, .lreturn, 1)]
theorem okd_X0_salesIn : ed_X0_salesIn.all (okD cX0_salesIn) = true := by decide +kernel
def f_X0_salesIn (S : St) (p0 : Nat) (p1 : Int32) (p2 : Int32) : Option (Int64) := lt (gR S p0 0) fun (a1 : Nat) => cl (f_X0_rowOf S p1 p2) fun (v3 : Int32) => ldJ S a1 v3 fun (v4 : Int64) => some v4
set_option maxHeartbeats 4000000 in
set_option maxRecDepth 100000 in
theorem c_X0_salesIn (S : St) (p0 : Nat) (p1 : Int32) (p2 : Int32) : Ct yX0_salesIn cX0_salesIn 3 (some .long) 1 21 (fun _ => [.ref p0, .int p1, .int p2]) [(p0, 0)] S (f_X0_salesIn S p0 p1 p2) oL (fun _ => S) := by
  refine Ct_of RX0 rfl (by decide) (fun _ => Nat.le_of_ble_eq_true rfl) 0 (vs := fun _ => [some (.ref p0), some (.int p1), some (.int p2)]) (fun _ => rfl) (fun C X E hr ht => ?_)
  have t0_ : tT C p0 0 := ht (p0, 0) (by simp)
  show Jd C 3 (QJ C oL (fun _ => S)) S 0 [some (.ref p0), some (.int p1), some (.int p2)] [] (f_X0_salesIn S p0 p1 p2)
  unfold f_X0_salesIn
  refine s_run X ok_X0_salesIn 0 1 (pc' := 1) (vs' := [some (.ref p0), some (.int p1), some (.int p2)]) (st' := [.ref p0]) rfl ?_
  refine s_getR X fl_X0_9 t0_ (dk okd_X0_salesIn 0 rfl) (fun a1 (t2 : tT C a1 14) => ?_)
  refine s_run X ok_X0_salesIn 1 2 (pc' := 6) (vs' := [some (.ref p0), some (.int p1), some (.int p2)]) (st' := [.int p2, .int p1, .ref a1]) rfl ?_
  refine s_callS (As := [.int p1, .int p2]) (rest := [.ref a1]) X E ms_X0_55 (c_X0_rowOf S p1 p2) rfl (ta0) rfl rfl (Nat.le_of_ble_eq_true rfl) (Nat.le_of_ble_eq_true rfl) (Nat.le_of_ble_eq_true rfl) (dk okd_X0_salesIn 1 rfl) (st' := fun v3 => [.int v3, .ref a1]) (fun _ => rfl) (fun v3 => ?_)
  refine s_lald X t2 (dk okd_X0_salesIn 2 rfl) (fun v4 => ?_)
  exact s_lret X hr (dk okd_X0_salesIn 3 rfl) rfl rfl
def tab_X0_invoicePart : List En := [(0, 8, 0, 0), (4, 4, 1, 0), (5, 4, 2, 0), (9, 1, 0, 7), (11, 19, 0, 0), (12, 4, 3, 0), (13, 17, 0, 0)]
theorem ok_X0_invoicePart : tab_X0_invoicePart.all (okE cX0_invoicePart) = true := by decide +kernel
def ed_X0_invoicePart : List (Nat × Instr × Nat) := [(1, .getfield 15, 3), (6, .invokestatic 55, 3), (14, .laload, 1), (15, .lreturn, 1)]
theorem okd_X0_invoicePart : ed_X0_invoicePart.all (okD cX0_invoicePart) = true := by decide +kernel
def f_X0_invoicePart (S : St) (p0 : Nat) (p1 : Int32) (p2 : Int32) (p3 : Int32) : Option (Int64) := lt (gR S p0 1) fun (a1 : Nat) => cl (f_X0_rowOf S p1 p2) fun (v3 : Int32) => ldJ S a1 ((v3 * 7) + p3) fun (v4 : Int64) => some v4
set_option maxHeartbeats 4000000 in
set_option maxRecDepth 100000 in
theorem c_X0_invoicePart (S : St) (p0 : Nat) (p1 : Int32) (p2 : Int32) (p3 : Int32) : Ct yX0_invoicePart cX0_invoicePart 4 (some .long) 1 21 (fun _ => [.ref p0, .int p1, .int p2, .int p3]) [(p0, 0)] S (f_X0_invoicePart S p0 p1 p2 p3) oL (fun _ => S) := by
  refine Ct_of RX0 rfl (by decide) (fun _ => Nat.le_of_ble_eq_true rfl) 0 (vs := fun _ => [some (.ref p0), some (.int p1), some (.int p2), some (.int p3)]) (fun _ => rfl) (fun C X E hr ht => ?_)
  have t0_ : tT C p0 0 := ht (p0, 0) (by simp)
  show Jd C 4 (QJ C oL (fun _ => S)) S 0 [some (.ref p0), some (.int p1), some (.int p2), some (.int p3)] [] (f_X0_invoicePart S p0 p1 p2 p3)
  unfold f_X0_invoicePart
  refine s_run X ok_X0_invoicePart 0 1 (pc' := 1) (vs' := [some (.ref p0), some (.int p1), some (.int p2), some (.int p3)]) (st' := [.ref p0]) rfl ?_
  refine s_getR X fl_X0_15 t0_ (dk okd_X0_invoicePart 0 rfl) (fun a1 (t2 : tT C a1 14) => ?_)
  refine s_run X ok_X0_invoicePart 1 2 (pc' := 6) (vs' := [some (.ref p0), some (.int p1), some (.int p2), some (.int p3)]) (st' := [.int p2, .int p1, .ref a1]) rfl ?_
  refine s_callS (As := [.int p1, .int p2]) (rest := [.ref a1]) X E ms_X0_55 (c_X0_rowOf S p1 p2) rfl (ta0) rfl rfl (Nat.le_of_ble_eq_true rfl) (Nat.le_of_ble_eq_true rfl) (Nat.le_of_ble_eq_true rfl) (dk okd_X0_invoicePart 1 rfl) (st' := fun v3 => [.int v3, .ref a1]) (fun _ => rfl) (fun v3 => ?_)
  refine s_run X ok_X0_invoicePart 3 4 (pc' := 14) (vs' := [some (.ref p0), some (.int p1), some (.int p2), some (.int p3)]) (st' := [.int ((v3 * 7) + p3), .ref a1]) rfl ?_
  refine s_lald X t2 (dk okd_X0_invoicePart 2 rfl) (fun v4 => ?_)
  exact s_lret X hr (dk okd_X0_invoicePart 3 rfl) rfl rfl
def tab_X0_enterInvoice : List En := [(0, 8, 2, 0), (1, 0, 0, 0), (2, 8, 0, 0), (6, 4, 1, 0), (7, 8, 0, 0), (14, 1, 0, 7), (16, 19, 0, 0), (17, 1, 0, 7)]
theorem ok_X0_enterInvoice : tab_X0_enterInvoice.all (okE cX0_enterInvoice) = true := by decide +kernel
def ed_X0_enterInvoice : List (Nat × Instr × Nat) := [(3, .getfield 15, 3), (8, .getfield 36, 3), (11, .invokestatic 55, 3), (19, .invokestatic 49, 3), (22, .return_, 1)]
theorem okd_X0_enterInvoice : ed_X0_enterInvoice.all (okD cX0_enterInvoice) = true := by decide +kernel
def f_X0_enterInvoice (S : St) (p0 : Nat) (p1 : Int32) (p2 : Nat) : Option (St) := lt (gR S p0 1) fun (a1 : Nat) => lt (gI S p0 6) fun (v3 : Int32) => cl (f_X0_rowOf S p1 v3) fun (v4 : Int32) => cpJ S p2 0 a1 (v4 * 7) 7 fun (S5 : St) => some S5
set_option maxHeartbeats 4000000 in
set_option maxRecDepth 100000 in
theorem c_X0_enterInvoice (S : St) (p0 : Nat) (p1 : Int32) (p2 : Nat) : Ct yX0_enterInvoice cX0_enterInvoice 3 none 1 48 (fun _ => [.ref p0, .int p1, .ref p2]) [(p0, 0), (p2, 14)] S (f_X0_enterInvoice S p0 p1 p2) oV sV := by
  refine Ct_of RX0 rfl (by decide) (fun _ => Nat.le_of_ble_eq_true rfl) 0 (vs := fun _ => [some (.ref p0), some (.int p1), some (.ref p2)]) (fun _ => rfl) (fun C X E hr ht => ?_)
  have t0_ : tT C p0 0 := ht (p0, 0) (by simp)
  have t2_ : tT C p2 14 := ht (p2, 14) (by simp)
  show Jd C 3 (QJ C oV sV) S 0 [some (.ref p0), some (.int p1), some (.ref p2)] [] (f_X0_enterInvoice S p0 p1 p2)
  unfold f_X0_enterInvoice
  refine s_run X ok_X0_enterInvoice 0 3 (pc' := 3) (vs' := [some (.ref p0), some (.int p1), some (.ref p2)]) (st' := [.ref p0, .int 0, .ref p2]) rfl ?_
  refine s_getR X fl_X0_15 t0_ (dk okd_X0_enterInvoice 0 rfl) (fun a1 (t2 : tT C a1 14) => ?_)
  refine s_run X ok_X0_enterInvoice 3 2 (pc' := 8) (vs' := [some (.ref p0), some (.int p1), some (.ref p2)]) (st' := [.ref p0, .int p1, .ref a1, .int 0, .ref p2]) rfl ?_
  refine s_getI X fl_X0_36 t0_ (dk okd_X0_enterInvoice 1 rfl) (fun v3 => ?_)
  refine s_callS (As := [.int p1, .int v3]) (rest := [.ref a1, .int 0, .ref p2]) X E ms_X0_55 (c_X0_rowOf S p1 v3) rfl (ta0) rfl rfl (Nat.le_of_ble_eq_true rfl) (Nat.le_of_ble_eq_true rfl) (Nat.le_of_ble_eq_true rfl) (dk okd_X0_enterInvoice 2 rfl) (st' := fun v4 => [.int v4, .ref a1, .int 0, .ref p2]) (fun _ => rfl) (fun v4 => ?_)
  refine s_run X ok_X0_enterInvoice 5 3 (pc' := 19) (vs' := [some (.ref p0), some (.int p1), some (.ref p2)]) (st' := [.int 7, .int (v4 * 7), .ref a1, .int 0, .ref p2]) rfl ?_
  refine s_copyJ X mm_X0_49 t2_ t2 (Nat.le_of_ble_eq_true rfl) (Nat.le_of_ble_eq_true rfl) (dk okd_X0_enterInvoice 3 rfl) (fun S5 => ?_)
  exact s_vret X hr (dk okd_X0_enterInvoice 4 rfl) rfl rfl
def tab_X0_enterBalance : List En := [(0, 8, 0, 0), (4, 4, 1, 0), (5, 8, 0, 0), (12, 1, 0, 7), (14, 19, 0, 0), (15, 1, 0, 6), (17, 17, 0, 0), (18, 6, 2, 0)]
theorem ok_X0_enterBalance : tab_X0_enterBalance.all (okE cX0_enterBalance) = true := by decide +kernel
def ed_X0_enterBalance : List (Nat × Instr × Nat) := [(1, .getfield 15, 3), (6, .getfield 36, 3), (9, .invokestatic 55, 3), (19, .lastore, 1), (20, .return_, 1)]
theorem okd_X0_enterBalance : ed_X0_enterBalance.all (okD cX0_enterBalance) = true := by decide +kernel
def f_X0_enterBalance (S : St) (p0 : Nat) (p1 : Int32) (p2 : Int64) : Option (St) := lt (gR S p0 1) fun (a1 : Nat) => lt (gI S p0 6) fun (v3 : Int32) => cl (f_X0_rowOf S p1 v3) fun (v4 : Int32) => stJ S a1 ((v4 * 7) + 6) p2 fun (S5 : St) => some S5
set_option maxHeartbeats 4000000 in
set_option maxRecDepth 100000 in
theorem c_X0_enterBalance (S : St) (p0 : Nat) (p1 : Int32) (p2 : Int64) : Ct yX0_enterBalance cX0_enterBalance 4 none 1 21 (fun _ => [.ref p0, .int p1, .long p2]) [(p0, 0)] S (f_X0_enterBalance S p0 p1 p2) oV sV := by
  refine Ct_of RX0 rfl (by decide) (fun _ => Nat.le_of_ble_eq_true rfl) 0 (vs := fun _ => [some (.ref p0), some (.int p1), some (.long p2), none]) (fun _ => rfl) (fun C X E hr ht => ?_)
  have t0_ : tT C p0 0 := ht (p0, 0) (by simp)
  show Jd C 4 (QJ C oV sV) S 0 [some (.ref p0), some (.int p1), some (.long p2), none] [] (f_X0_enterBalance S p0 p1 p2)
  unfold f_X0_enterBalance
  refine s_run X ok_X0_enterBalance 0 1 (pc' := 1) (vs' := [some (.ref p0), some (.int p1), some (.long p2), none]) (st' := [.ref p0]) rfl ?_
  refine s_getR X fl_X0_15 t0_ (dk okd_X0_enterBalance 0 rfl) (fun a1 (t2 : tT C a1 14) => ?_)
  refine s_run X ok_X0_enterBalance 1 2 (pc' := 6) (vs' := [some (.ref p0), some (.int p1), some (.long p2), none]) (st' := [.ref p0, .int p1, .ref a1]) rfl ?_
  refine s_getI X fl_X0_36 t0_ (dk okd_X0_enterBalance 1 rfl) (fun v3 => ?_)
  refine s_callS (As := [.int p1, .int v3]) (rest := [.ref a1]) X E ms_X0_55 (c_X0_rowOf S p1 v3) rfl (ta0) rfl rfl (Nat.le_of_ble_eq_true rfl) (Nat.le_of_ble_eq_true rfl) (Nat.le_of_ble_eq_true rfl) (dk okd_X0_enterBalance 2 rfl) (st' := fun v4 => [.int v4, .ref a1]) (fun _ => rfl) (fun v4 => ?_)
  refine s_run X ok_X0_enterBalance 3 5 (pc' := 19) (vs' := [some (.ref p0), some (.int p1), some (.long p2), none]) (st' := [.long p2, .int ((v4 * 7) + 6), .ref a1]) rfl ?_
  refine s_last X t2 (dk okd_X0_enterBalance 3 rfl) (fun S5 => ?_)
  exact s_vret X hr (dk okd_X0_enterBalance 4 rfl) rfl rfl
def tab_X0_enterSales : List En := [(0, 8, 0, 0), (4, 4, 1, 0), (5, 8, 0, 0), (12, 6, 2, 0)]
theorem ok_X0_enterSales : tab_X0_enterSales.all (okE cX0_enterSales) = true := by decide +kernel
def ed_X0_enterSales : List (Nat × Instr × Nat) := [(1, .getfield 9, 3), (6, .getfield 36, 3), (9, .invokestatic 55, 3), (13, .lastore, 1), (14, .return_, 1)]
theorem okd_X0_enterSales : ed_X0_enterSales.all (okD cX0_enterSales) = true := by decide +kernel
def f_X0_enterSales (S : St) (p0 : Nat) (p1 : Int32) (p2 : Int64) : Option (St) := lt (gR S p0 0) fun (a1 : Nat) => lt (gI S p0 6) fun (v3 : Int32) => cl (f_X0_rowOf S p1 v3) fun (v4 : Int32) => stJ S a1 v4 p2 fun (S5 : St) => some S5
set_option maxHeartbeats 4000000 in
set_option maxRecDepth 100000 in
theorem c_X0_enterSales (S : St) (p0 : Nat) (p1 : Int32) (p2 : Int64) : Ct yX0_enterSales cX0_enterSales 4 none 1 21 (fun _ => [.ref p0, .int p1, .long p2]) [(p0, 0)] S (f_X0_enterSales S p0 p1 p2) oV sV := by
  refine Ct_of RX0 rfl (by decide) (fun _ => Nat.le_of_ble_eq_true rfl) 0 (vs := fun _ => [some (.ref p0), some (.int p1), some (.long p2), none]) (fun _ => rfl) (fun C X E hr ht => ?_)
  have t0_ : tT C p0 0 := ht (p0, 0) (by simp)
  show Jd C 4 (QJ C oV sV) S 0 [some (.ref p0), some (.int p1), some (.long p2), none] [] (f_X0_enterSales S p0 p1 p2)
  unfold f_X0_enterSales
  refine s_run X ok_X0_enterSales 0 1 (pc' := 1) (vs' := [some (.ref p0), some (.int p1), some (.long p2), none]) (st' := [.ref p0]) rfl ?_
  refine s_getR X fl_X0_9 t0_ (dk okd_X0_enterSales 0 rfl) (fun a1 (t2 : tT C a1 14) => ?_)
  refine s_run X ok_X0_enterSales 1 2 (pc' := 6) (vs' := [some (.ref p0), some (.int p1), some (.long p2), none]) (st' := [.ref p0, .int p1, .ref a1]) rfl ?_
  refine s_getI X fl_X0_36 t0_ (dk okd_X0_enterSales 1 rfl) (fun v3 => ?_)
  refine s_callS (As := [.int p1, .int v3]) (rest := [.ref a1]) X E ms_X0_55 (c_X0_rowOf S p1 v3) rfl (ta0) rfl rfl (Nat.le_of_ble_eq_true rfl) (Nat.le_of_ble_eq_true rfl) (Nat.le_of_ble_eq_true rfl) (dk okd_X0_enterSales 2 rfl) (st' := fun v4 => [.int v4, .ref a1]) (fun _ => rfl) (fun v4 => ?_)
  refine s_run X ok_X0_enterSales 3 1 (pc' := 13) (vs' := [some (.ref p0), some (.int p1), some (.long p2), none]) (st' := [.long p2, .int v4, .ref a1]) rfl ?_
  refine s_last X t2 (dk okd_X0_enterSales 3 rfl) (fun S5 => ?_)
  exact s_vret X hr (dk okd_X0_enterSales 4 rfl) rfl rfl
def tab_X0_salesOfAllMonths : List En := [(0, 3, 0, 0), (1, 12, 2, 0), (2, 0, 0, 0), (3, 11, 4, 0), (5, 5, 4, 0), (7, 8, 0, 0), (14, 6, 2, 0), (15, 8, 0, 0), (16, 4, 1, 0), (17, 5, 4, 0), (22, 23, 0, 0), (23, 12, 2, 0), (24, 16, 4, 1), (27, 41, 5, 0), (30, 6, 2, 0)]
theorem ok_X0_salesOfAllMonths : tab_X0_salesOfAllMonths.all (okE cX0_salesOfAllMonths) = true := by decide +kernel
def ed_X0_salesOfAllMonths : List (Nat × Instr × Nat) := [(8, .getfield 36, 3), (11, .if_icmp .ge 19, 3), (19, .invokevirtual 66, 3), (31, .lreturn, 1)]
theorem okd_X0_salesOfAllMonths : ed_X0_salesOfAllMonths.all (okD cX0_salesOfAllMonths) = true := by decide +kernel
def f_X0_salesOfAllMonths (S : St) (p0 : Nat) (p1 : Int32) : Option (Int64) := jn (κ := Int64 → Option (Int64)) (fun x1 => some x1) fun k2 => lp (κ := Int64 → Int32 → Option (Int64)) (fun _ _ => none) (fun k6 x4 x5 => lt (gI S p0 6) fun (v8 : Int32) => if v8 ≤ x5 then (k2 x4) else (cl (f_X0_salesIn S p0 p1 x5) fun (v9 : Int64) => lt (x4 + v9) fun (v10 : Int64) => k6 v10 (x5 + 1))) FU 0 0
set_option maxHeartbeats 4000000 in
set_option maxRecDepth 100000 in
theorem c_X0_salesOfAllMonths (S : St) (p0 : Nat) (p1 : Int32) : Ct yX0_salesOfAllMonths cX0_salesOfAllMonths 5 (some .long) 2 43 (fun _ => [.ref p0, .int p1]) [(p0, 0)] S (f_X0_salesOfAllMonths S p0 p1) oL (fun _ => S) := by
  refine Ct_of RX0 rfl (by decide) (fun _ => Nat.le_of_ble_eq_true rfl) 3 (vs := fun _ => [some (.ref p0), some (.int p1), none, none, none]) (fun _ => rfl) (fun C X E hr ht => ?_)
  have t0_ : tT C p0 0 := ht (p0, 0) (by simp)
  show Jd C 5 (QJ C oL (fun _ => S)) S 0 [some (.ref p0), some (.int p1), none, none, none] [] (f_X0_salesOfAllMonths S p0 p1)
  unfold f_X0_salesOfAllMonths
  refine s_run X ok_X0_salesOfAllMonths 0 4 (pc' := 5) (vs' := [some (.ref p0), some (.int p1), some (.long 0), none, some (.int 0)]) (st' := []) rfl ?_
  refine s_jn (κ := Int64 → Option (Int64)) (fun k2 => ∀ (x1 : Int64), Jd C 5 (QJ C oL (fun _ => S)) S 30 [none, none, some (.long x1), none, none] [] (k2 x1)) (fun x1 => ?_) (fun k2 h3 => ?_)
  · refine s_run X ok_X0_salesOfAllMonths 14 1 (pc' := 31) (vs' := [none, none, some (.long x1), none, none]) (st' := [.long x1]) rfl ?_
    exact s_lret X hr (dk okd_X0_salesOfAllMonths 3 rfl) rfl rfl
  · refine s_lp (κ := Int64 → Int32 → Option (Int64)) (fun k6 => ∀ (x4 : Int64) (x5 : Int32), Jd C 5 (QJ C oL (fun _ => S)) S 5 [some (.ref p0), some (.int p1), some (.long x4), none, some (.int x5)] [] (k6 x4 x5)) (fun _ _ => s_none) (fun k6 h7 x4 x5 => ?_) FU 0 0
    refine s_run X ok_X0_salesOfAllMonths 4 2 (pc' := 8) (vs' := [some (.ref p0), some (.int p1), some (.long x4), none, some (.int x5)]) (st' := [.ref p0, .int x5]) rfl ?_
    refine s_getI X fl_X0_36 t0_ (dk okd_X0_salesOfAllMonths 0 rfl) (fun v8 => ?_)
    refine s_icmp_ge (tgt := 30) X (dk okd_X0_salesOfAllMonths 1 rfl) (by decide) ?_ ?_
    · exact s_less [false, false, true, false, false] rfl (h3 x4)
    · refine s_run X ok_X0_salesOfAllMonths 6 4 (pc' := 19) (vs' := [some (.ref p0), some (.int p1), some (.long x4), none, some (.int x5)]) (st' := [.int x5, .int p1, .ref p0, .long x4]) rfl ?_
      refine s_callV (b := p0) (As := [.int p1, .int x5]) (rest := [.long x4]) X E mv_X0_66 (c_X0_salesIn S p0 p1 x5) rfl (ta1 t0_) rfl (by decide) t0_ rfl rfl (Nat.le_of_ble_eq_true rfl) (Nat.le_of_ble_eq_true rfl) (Nat.le_of_ble_eq_true rfl) (dk okd_X0_salesOfAllMonths 2 rfl) (st' := fun v9 => [.long v9, .long x4]) (fun _ => rfl) (fun v9 => ?_)
      refine s_run X ok_X0_salesOfAllMonths 10 1 (pc' := 23) (vs' := [some (.ref p0), some (.int p1), some (.long x4), none, some (.int x5)]) (st' := [.long (x4 + v9)]) rfl ?_
      refine s_nmJ (fun v10 => ?_)
      refine s_run X ok_X0_salesOfAllMonths 11 3 (pc' := 5) (vs' := [some (.ref p0), some (.int p1), some (.long v10), none, some (.int (x5 + 1))]) (st' := []) rfl ?_
      exact h7 v10 (x5 + 1)
def tab_X0_delivered : List En := [(0, 8, 0, 0), (4, 4, 1, 0), (5, 1, 0, 8), (7, 19, 0, 0), (8, 4, 2, 0), (9, 17, 0, 0)]
theorem ok_X0_delivered : tab_X0_delivered.all (okE cX0_delivered) = true := by decide +kernel
def ed_X0_delivered : List (Nat × Instr × Nat) := [(1, .getfield 18, 3), (10, .laload, 1), (11, .lreturn, 1)]
theorem okd_X0_delivered : ed_X0_delivered.all (okD cX0_delivered) = true := by decide +kernel
def f_X0_delivered (S : St) (p0 : Nat) (p1 : Int32) (p2 : Int32) : Option (Int64) := lt (gR S p0 2) fun (a1 : Nat) => ldJ S a1 ((p1 * 8) + p2) fun (v3 : Int64) => some v3
set_option maxHeartbeats 4000000 in
set_option maxRecDepth 100000 in
theorem c_X0_delivered (S : St) (p0 : Nat) (p1 : Int32) (p2 : Int32) : Ct yX0_delivered cX0_delivered 3 (some .long) 0 0 (fun _ => [.ref p0, .int p1, .int p2]) [(p0, 0)] S (f_X0_delivered S p0 p1 p2) oL (fun _ => S) := by
  refine Ct_of RX0 rfl (by decide) (fun _ => Nat.le_of_ble_eq_true rfl) 0 (vs := fun _ => [some (.ref p0), some (.int p1), some (.int p2)]) (fun _ => rfl) (fun C X E hr ht => ?_)
  have t0_ : tT C p0 0 := ht (p0, 0) (by simp)
  show Jd C 3 (QJ C oL (fun _ => S)) S 0 [some (.ref p0), some (.int p1), some (.int p2)] [] (f_X0_delivered S p0 p1 p2)
  unfold f_X0_delivered
  refine s_run X ok_X0_delivered 0 1 (pc' := 1) (vs' := [some (.ref p0), some (.int p1), some (.int p2)]) (st' := [.ref p0]) rfl ?_
  refine s_getR X fl_X0_18 t0_ (dk okd_X0_delivered 0 rfl) (fun a1 (t2 : tT C a1 14) => ?_)
  refine s_run X ok_X0_delivered 1 5 (pc' := 10) (vs' := [some (.ref p0), some (.int p1), some (.int p2)]) (st' := [.int ((p1 * 8) + p2), .ref a1]) rfl ?_
  refine s_lald X t2 (dk okd_X0_delivered 1 rfl) (fun v3 => ?_)
  exact s_lret X hr (dk okd_X0_delivered 2 rfl) rfl rfl
def tab_X0_addDelivered : List En := [(0, 8, 0, 0), (4, 4, 1, 0), (5, 1, 0, 8), (7, 19, 0, 0), (8, 4, 2, 0), (9, 17, 0, 0), (10, 37, 0, 0), (12, 6, 3, 0), (13, 23, 0, 0)]
theorem ok_X0_addDelivered : tab_X0_addDelivered.all (okE cX0_addDelivered) = true := by decide +kernel
def ed_X0_addDelivered : List (Nat × Instr × Nat) := [(1, .getfield 18, 3), (11, .laload, 1), (14, .lastore, 1), (15, .return_, 1)]
theorem okd_X0_addDelivered : ed_X0_addDelivered.all (okD cX0_addDelivered) = true := by decide +kernel
def f_X0_addDelivered (S : St) (p0 : Nat) (p1 : Int32) (p2 : Int32) (p3 : Int64) : Option (St) := lt (gR S p0 2) fun (a1 : Nat) => ldJ S a1 ((p1 * 8) + p2) fun (v3 : Int64) => stJ S a1 ((p1 * 8) + p2) (v3 + p3) fun (S4 : St) => some S4
set_option maxHeartbeats 4000000 in
set_option maxRecDepth 100000 in
theorem c_X0_addDelivered (S : St) (p0 : Nat) (p1 : Int32) (p2 : Int32) (p3 : Int64) : Ct yX0_addDelivered cX0_addDelivered 5 none 0 0 (fun _ => [.ref p0, .int p1, .int p2, .long p3]) [(p0, 0)] S (f_X0_addDelivered S p0 p1 p2 p3) oV sV := by
  refine Ct_of RX0 rfl (by decide) (fun _ => Nat.le_of_ble_eq_true rfl) 0 (vs := fun _ => [some (.ref p0), some (.int p1), some (.int p2), some (.long p3), none]) (fun _ => rfl) (fun C X E hr ht => ?_)
  have t0_ : tT C p0 0 := ht (p0, 0) (by simp)
  show Jd C 5 (QJ C oV sV) S 0 [some (.ref p0), some (.int p1), some (.int p2), some (.long p3), none] [] (f_X0_addDelivered S p0 p1 p2 p3)
  unfold f_X0_addDelivered
  refine s_run X ok_X0_addDelivered 0 1 (pc' := 1) (vs' := [some (.ref p0), some (.int p1), some (.int p2), some (.long p3), none]) (st' := [.ref p0]) rfl ?_
  refine s_getR X fl_X0_18 t0_ (dk okd_X0_addDelivered 0 rfl) (fun a1 (t2 : tT C a1 14) => ?_)
  refine s_run X ok_X0_addDelivered 1 6 (pc' := 11) (vs' := [some (.ref p0), some (.int p1), some (.int p2), some (.long p3), none]) (st' := [.int ((p1 * 8) + p2), .ref a1, .int ((p1 * 8) + p2), .ref a1]) rfl ?_
  refine s_lald X t2 (dk okd_X0_addDelivered 1 rfl) (fun v3 => ?_)
  refine s_run X ok_X0_addDelivered 7 2 (pc' := 14) (vs' := [some (.ref p0), some (.int p1), some (.int p2), some (.long p3), none]) (st' := [.long (v3 + p3), .int ((p1 * 8) + p2), .ref a1]) rfl ?_
  refine s_last X t2 (dk okd_X0_addDelivered 2 rfl) (fun S4 => ?_)
  exact s_vret X hr (dk okd_X0_addDelivered 3 rfl) rfl rfl
def tab_X0_allContributed : List En := [(0, 3, 0, 0), (1, 12, 1, 0), (2, 0, 0, 0), (3, 10, 3, 0), (4, 4, 3, 0), (5, 1, 0, 8), (10, 6, 1, 0), (11, 8, 0, 0), (15, 4, 3, 0), (17, 23, 0, 0), (18, 12, 1, 0), (19, 16, 3, 1), (22, 41, 4, 0), (25, 6, 1, 0)]
theorem ok_X0_allContributed : tab_X0_allContributed.all (okE cX0_allContributed) = true := by decide +kernel
def ed_X0_allContributed : List (Nat × Instr × Nat) := [(7, .if_icmp .ge 18, 3), (12, .getfield 21, 3), (16, .laload, 1), (26, .lreturn, 1)]
theorem okd_X0_allContributed : ed_X0_allContributed.all (okD cX0_allContributed) = true := by decide +kernel
def f_X0_allContributed (S : St) (p0 : Nat) : Option (Int64) := jn (κ := Int64 → Option (Int64)) (fun x1 => some x1) fun k2 => lp (κ := Int64 → Int32 → Option (Int64)) (fun _ _ => none) (fun k6 x4 x5 => if 8 ≤ x5 then (k2 x4) else (lt (gR S p0 3) fun (a8 : Nat) => ldJ S a8 x5 fun (v10 : Int64) => lt (x4 + v10) fun (v11 : Int64) => k6 v11 (x5 + 1))) FU 0 0
set_option maxHeartbeats 4000000 in
set_option maxRecDepth 100000 in
theorem c_X0_allContributed (S : St) (p0 : Nat) : Ct yX0_allContributed cX0_allContributed 4 (some .long) 0 0 (fun _ => [.ref p0]) [(p0, 0)] S (f_X0_allContributed S p0) oL (fun _ => S) := by
  refine Ct_of RX0 rfl (by decide) (fun _ => Nat.le_of_ble_eq_true rfl) 3 (vs := fun _ => [some (.ref p0), none, none, none]) (fun _ => rfl) (fun C X E hr ht => ?_)
  have t0_ : tT C p0 0 := ht (p0, 0) (by simp)
  show Jd C 4 (QJ C oL (fun _ => S)) S 0 [some (.ref p0), none, none, none] [] (f_X0_allContributed S p0)
  unfold f_X0_allContributed
  refine s_run X ok_X0_allContributed 0 4 (pc' := 4) (vs' := [some (.ref p0), some (.long 0), none, some (.int 0)]) (st' := []) rfl ?_
  refine s_jn (κ := Int64 → Option (Int64)) (fun k2 => ∀ (x1 : Int64), Jd C 4 (QJ C oL (fun _ => S)) S 25 [none, some (.long x1), none, none] [] (k2 x1)) (fun x1 => ?_) (fun k2 h3 => ?_)
  · refine s_run X ok_X0_allContributed 13 1 (pc' := 26) (vs' := [none, some (.long x1), none, none]) (st' := [.long x1]) rfl ?_
    exact s_lret X hr (dk okd_X0_allContributed 3 rfl) rfl rfl
  · refine s_lp (κ := Int64 → Int32 → Option (Int64)) (fun k6 => ∀ (x4 : Int64) (x5 : Int32), Jd C 4 (QJ C oL (fun _ => S)) S 4 [some (.ref p0), some (.long x4), none, some (.int x5)] [] (k6 x4 x5)) (fun _ _ => s_none) (fun k6 h7 x4 x5 => ?_) FU 0 0
    refine s_run X ok_X0_allContributed 4 2 (pc' := 7) (vs' := [some (.ref p0), some (.long x4), none, some (.int x5)]) (st' := [.int 8, .int x5]) rfl ?_
    refine s_icmp_ge (tgt := 25) X (dk okd_X0_allContributed 0 rfl) (by decide) ?_ ?_
    · exact s_less [false, true, false, false] rfl (h3 x4)
    · refine s_run X ok_X0_allContributed 6 2 (pc' := 12) (vs' := [some (.ref p0), some (.long x4), none, some (.int x5)]) (st' := [.ref p0, .long x4]) rfl ?_
      refine s_getR X fl_X0_21 t0_ (dk okd_X0_allContributed 1 rfl) (fun a8 (t9 : tT C a8 14) => ?_)
      refine s_run X ok_X0_allContributed 8 1 (pc' := 16) (vs' := [some (.ref p0), some (.long x4), none, some (.int x5)]) (st' := [.int x5, .ref a8, .long x4]) rfl ?_
      refine s_lald X t9 (dk okd_X0_allContributed 2 rfl) (fun v10 => ?_)
      refine s_run X ok_X0_allContributed 9 1 (pc' := 18) (vs' := [some (.ref p0), some (.long x4), none, some (.int x5)]) (st' := [.long (x4 + v10)]) rfl ?_
      refine s_nmJ (fun v11 => ?_)
      refine s_run X ok_X0_allContributed 10 3 (pc' := 4) (vs' := [some (.ref p0), some (.long v11), none, some (.int (x5 + 1))]) (st' := []) rfl ?_
      exact h7 v11 (x5 + 1)
def tab_X0_fundLeft : List En := [(0, 8, 0, 0), (4, 8, 0, 0), (8, 0, 0, 0), (10, 24, 0, 0), (11, 8, 0, 0), (15, 0, 0, 1), (17, 24, 0, 0), (18, 8, 0, 0), (22, 0, 0, 2), (24, 24, 0, 0)]
theorem ok_X0_fundLeft : tab_X0_fundLeft.all (okE cX0_fundLeft) = true := by decide +kernel
def ed_X0_fundLeft : List (Nat × Instr × Nat) := [(1, .invokevirtual 70, 3), (5, .getfield 27, 3), (9, .laload, 1), (12, .getfield 27, 3), (16, .laload, 1), (19, .getfield 27, 3), (23, .laload, 1), (25, .lreturn, 1)]
theorem okd_X0_fundLeft : ed_X0_fundLeft.all (okD cX0_fundLeft) = true := by decide +kernel
def f_X0_fundLeft (S : St) (p0 : Nat) : Option (Int64) := cl (f_X0_allContributed S p0) fun (v1 : Int64) => lt (gR S p0 5) fun (a2 : Nat) => ldJ S a2 0 fun (v4 : Int64) => lt (gR S p0 5) fun (a5 : Nat) => ldJ S a5 1 fun (v7 : Int64) => lt (gR S p0 5) fun (a8 : Nat) => ldJ S a8 2 fun (v10 : Int64) => some (((v1 - v4) - v7) - v10)
set_option maxHeartbeats 4000000 in
set_option maxRecDepth 100000 in
theorem c_X0_fundLeft (S : St) (p0 : Nat) : Ct yX0_fundLeft cX0_fundLeft 1 (some .long) 1 23 (fun _ => [.ref p0]) [(p0, 0)] S (f_X0_fundLeft S p0) oL (fun _ => S) := by
  refine Ct_of RX0 rfl (by decide) (fun _ => Nat.le_of_ble_eq_true rfl) 0 (vs := fun _ => [some (.ref p0)]) (fun _ => rfl) (fun C X E hr ht => ?_)
  have t0_ : tT C p0 0 := ht (p0, 0) (by simp)
  show Jd C 1 (QJ C oL (fun _ => S)) S 0 [some (.ref p0)] [] (f_X0_fundLeft S p0)
  unfold f_X0_fundLeft
  refine s_run X ok_X0_fundLeft 0 1 (pc' := 1) (vs' := [some (.ref p0)]) (st' := [.ref p0]) rfl ?_
  refine s_callV (b := p0) (As := []) (rest := []) X E mv_X0_70 (c_X0_allContributed S p0) rfl (ta1 t0_) rfl (by decide) t0_ rfl rfl (Nat.le_of_ble_eq_true rfl) (Nat.le_of_ble_eq_true rfl) (Nat.le_of_ble_eq_true rfl) (dk okd_X0_fundLeft 0 rfl) (st' := fun v1 => [.long v1]) (fun _ => rfl) (fun v1 => ?_)
  refine s_run X ok_X0_fundLeft 1 1 (pc' := 5) (vs' := [some (.ref p0)]) (st' := [.ref p0, .long v1]) rfl ?_
  refine s_getR X fl_X0_27 t0_ (dk okd_X0_fundLeft 1 rfl) (fun a2 (t3 : tT C a2 14) => ?_)
  refine s_run X ok_X0_fundLeft 2 1 (pc' := 9) (vs' := [some (.ref p0)]) (st' := [.int 0, .ref a2, .long v1]) rfl ?_
  refine s_lald X t3 (dk okd_X0_fundLeft 2 rfl) (fun v4 => ?_)
  refine s_run X ok_X0_fundLeft 3 2 (pc' := 12) (vs' := [some (.ref p0)]) (st' := [.ref p0, .long (v1 - v4)]) rfl ?_
  refine s_getR X fl_X0_27 t0_ (dk okd_X0_fundLeft 3 rfl) (fun a5 (t6 : tT C a5 14) => ?_)
  refine s_run X ok_X0_fundLeft 5 1 (pc' := 16) (vs' := [some (.ref p0)]) (st' := [.int 1, .ref a5, .long (v1 - v4)]) rfl ?_
  refine s_lald X t6 (dk okd_X0_fundLeft 4 rfl) (fun v7 => ?_)
  refine s_run X ok_X0_fundLeft 6 2 (pc' := 19) (vs' := [some (.ref p0)]) (st' := [.ref p0, .long ((v1 - v4) - v7)]) rfl ?_
  refine s_getR X fl_X0_27 t0_ (dk okd_X0_fundLeft 5 rfl) (fun a8 (t9 : tT C a8 14) => ?_)
  refine s_run X ok_X0_fundLeft 8 1 (pc' := 23) (vs' := [some (.ref p0)]) (st' := [.int 2, .ref a8, .long ((v1 - v4) - v7)]) rfl ?_
  refine s_lald X t9 (dk okd_X0_fundLeft 6 rfl) (fun v10 => ?_)
  refine s_run X ok_X0_fundLeft 9 1 (pc' := 25) (vs' := [some (.ref p0)]) (st' := [.long (((v1 - v4) - v7) - v10)]) rfl ?_
  exact s_lret X hr (dk okd_X0_fundLeft 7 rfl) rfl rfl
def tab_X0_allowanceLeft : List En := [(0, 8, 0, 0), (4, 4, 1, 0), (10, 8, 0, 0), (14, 4, 1, 0), (16, 24, 0, 0)]
theorem ok_X0_allowanceLeft : tab_X0_allowanceLeft.all (okE cX0_allowanceLeft) = true := by decide +kernel
def ed_X0_allowanceLeft : List (Nat × Instr × Nat) := [(1, .getfield 21, 3), (5, .laload, 1), (6, .ldc2_w 74, 3), (9, .ldiv, 1), (11, .getfield 24, 3), (15, .laload, 1), (17, .lreturn, 1)]
theorem okd_X0_allowanceLeft : ed_X0_allowanceLeft.all (okD cX0_allowanceLeft) = true := by decide +kernel
def f_X0_allowanceLeft (S : St) (p0 : Nat) (p1 : Int32) : Option (Int64) := lt (gR S p0 3) fun (a1 : Nat) => ldJ S a1 p1 fun (v3 : Int64) => lt (gR S p0 4) fun (a4 : Nat) => ldJ S a4 p1 fun (v6 : Int64) => some ((v3 / 2) - v6)
set_option maxHeartbeats 4000000 in
set_option maxRecDepth 100000 in
theorem c_X0_allowanceLeft (S : St) (p0 : Nat) (p1 : Int32) : Ct yX0_allowanceLeft cX0_allowanceLeft 2 (some .long) 0 0 (fun _ => [.ref p0, .int p1]) [(p0, 0)] S (f_X0_allowanceLeft S p0 p1) oL (fun _ => S) := by
  refine Ct_of RX0 rfl (by decide) (fun _ => Nat.le_of_ble_eq_true rfl) 0 (vs := fun _ => [some (.ref p0), some (.int p1)]) (fun _ => rfl) (fun C X E hr ht => ?_)
  have t0_ : tT C p0 0 := ht (p0, 0) (by simp)
  show Jd C 2 (QJ C oL (fun _ => S)) S 0 [some (.ref p0), some (.int p1)] [] (f_X0_allowanceLeft S p0 p1)
  unfold f_X0_allowanceLeft
  refine s_run X ok_X0_allowanceLeft 0 1 (pc' := 1) (vs' := [some (.ref p0), some (.int p1)]) (st' := [.ref p0]) rfl ?_
  refine s_getR X fl_X0_21 t0_ (dk okd_X0_allowanceLeft 0 rfl) (fun a1 (t2 : tT C a1 14) => ?_)
  refine s_run X ok_X0_allowanceLeft 1 1 (pc' := 5) (vs' := [some (.ref p0), some (.int p1)]) (st' := [.int p1, .ref a1]) rfl ?_
  refine s_lald X t2 (dk okd_X0_allowanceLeft 1 rfl) (fun v3 => ?_)
  refine s_ldc2 X cl_X0_74 (dk okd_X0_allowanceLeft 2 rfl) ?_
  refine s_ldiv0 X (dk okd_X0_allowanceLeft 3 rfl) (by decide) ?_
  refine s_run X ok_X0_allowanceLeft 2 1 (pc' := 11) (vs' := [some (.ref p0), some (.int p1)]) (st' := [.ref p0, .long (v3 / 2)]) rfl ?_
  refine s_getR X fl_X0_24 t0_ (dk okd_X0_allowanceLeft 4 rfl) (fun a4 (t5 : tT C a4 14) => ?_)
  refine s_run X ok_X0_allowanceLeft 3 1 (pc' := 15) (vs' := [some (.ref p0), some (.int p1)]) (st' := [.int p1, .ref a4, .long (v3 / 2)]) rfl ?_
  refine s_lald X t5 (dk okd_X0_allowanceLeft 5 rfl) (fun v6 => ?_)
  refine s_run X ok_X0_allowanceLeft 4 1 (pc' := 17) (vs' := [some (.ref p0), some (.int p1)]) (st' := [.long ((v3 / 2) - v6)]) rfl ?_
  exact s_lret X hr (dk okd_X0_allowanceLeft 6 rfl) rfl rfl
def tab_X0_spendNational : List En := [(0, 6, 1, 0), (1, 8, 0, 0), (5, 40, 0, 0), (9, 0, 0, 0), (11, 8, 0, 0), (15, 0, 0, 1), (16, 37, 0, 0), (18, 6, 1, 0), (19, 23, 0, 0), (21, 0, 0, 1)]
theorem ok_X0_spendNational : tab_X0_spendNational.all (okE cX0_spendNational) = true := by decide +kernel
def ed_X0_spendNational : List (Nat × Instr × Nat) := [(2, .invokevirtual 76, 3), (6, .ifCond .le 5, 3), (10, .ireturn, 1), (12, .getfield 27, 3), (17, .laload, 1), (20, .lastore, 1), (22, .ireturn, 1)]
theorem okd_X0_spendNational : ed_X0_spendNational.all (okD cX0_spendNational) = true := by decide +kernel
def f_X0_spendNational (S : St) (p0 : Nat) (p1 : Int64) : Option (Int32 × St) := cl (f_X0_fundLeft S p0) fun (v1 : Int64) => if p1 ≤ v1 then (lt (gR S p0 5) fun (a2 : Nat) => ldJ S a2 1 fun (v4 : Int64) => stJ S a2 1 (v4 + p1) fun (S5 : St) => some (1, S5)) else (some (0, S))
set_option maxHeartbeats 4000000 in
set_option maxRecDepth 100000 in
theorem c_X0_spendNational (S : St) (p0 : Nat) (p1 : Int64) : Ct yX0_spendNational cX0_spendNational 3 (some .boolean) 2 43 (fun _ => [.ref p0, .long p1]) [(p0, 0)] S (f_X0_spendNational S p0 p1) oIS sS := by
  refine Ct_of RX0 rfl (by decide) (fun _ => Nat.le_of_ble_eq_true rfl) 0 (vs := fun _ => [some (.ref p0), some (.long p1), none]) (fun _ => rfl) (fun C X E hr ht => ?_)
  have t0_ : tT C p0 0 := ht (p0, 0) (by simp)
  show Jd C 3 (QJ C oIS sS) S 0 [some (.ref p0), some (.long p1), none] [] (f_X0_spendNational S p0 p1)
  unfold f_X0_spendNational
  refine s_run X ok_X0_spendNational 0 2 (pc' := 2) (vs' := [some (.ref p0), some (.long p1), none]) (st' := [.ref p0, .long p1]) rfl ?_
  refine s_callV (b := p0) (As := []) (rest := [.long p1]) X E mv_X0_76 (c_X0_fundLeft S p0) rfl (ta1 t0_) rfl (by decide) t0_ rfl rfl (Nat.le_of_ble_eq_true rfl) (Nat.le_of_ble_eq_true rfl) (Nat.le_of_ble_eq_true rfl) (dk okd_X0_spendNational 0 rfl) (st' := fun v1 => [.long v1, .long p1]) (fun _ => rfl) (fun v1 => ?_)
  refine s_run X ok_X0_spendNational 2 1 (pc' := 6) (vs' := [some (.ref p0), some (.long p1), none]) (st' := [.int (lg_cmp p1 v1)]) rfl ?_
  refine s_lif_le (tgt := 11) X (dk okd_X0_spendNational 1 rfl) (by decide) ?_ ?_
  · refine s_run X ok_X0_spendNational 4 1 (pc' := 12) (vs' := [some (.ref p0), some (.long p1), none]) (st' := [.ref p0]) rfl ?_
    refine s_getR X fl_X0_27 t0_ (dk okd_X0_spendNational 3 rfl) (fun a2 (t3 : tT C a2 14) => ?_)
    refine s_run X ok_X0_spendNational 5 2 (pc' := 17) (vs' := [some (.ref p0), some (.long p1), none]) (st' := [.int 1, .ref a2, .int 1, .ref a2]) rfl ?_
    refine s_lald X t3 (dk okd_X0_spendNational 4 rfl) (fun v4 => ?_)
    refine s_run X ok_X0_spendNational 7 2 (pc' := 20) (vs' := [some (.ref p0), some (.long p1), none]) (st' := [.long (v4 + p1), .int 1, .ref a2]) rfl ?_
    refine s_last X t3 (dk okd_X0_spendNational 5 rfl) (fun S5 => ?_)
    refine s_run X ok_X0_spendNational 9 1 (pc' := 22) (vs' := [some (.ref p0), some (.long p1), none]) (st' := [.int 1]) rfl ?_
    exact s_zret0 X hr (dk okd_X0_spendNational 6 rfl) (by decide) rfl rfl
  · refine s_run X ok_X0_spendNational 3 1 (pc' := 10) (vs' := [some (.ref p0), some (.long p1), none]) (st' := [.int 0]) rfl ?_
    exact s_zret0 X hr (dk okd_X0_spendNational 2 rfl) (by decide) rfl rfl
def tab_X0_spendGrant : List En := [(0, 6, 2, 0), (1, 8, 0, 0), (2, 4, 1, 0), (6, 40, 0, 0), (10, 6, 2, 0), (11, 8, 0, 0), (15, 40, 0, 0), (19, 0, 0, 0), (21, 8, 0, 0), (25, 4, 1, 0), (26, 37, 0, 0), (28, 6, 2, 0), (29, 23, 0, 0), (31, 8, 0, 0), (35, 0, 0, 2), (36, 37, 0, 0), (38, 6, 2, 0), (39, 23, 0, 0), (41, 0, 0, 1)]
theorem ok_X0_spendGrant : tab_X0_spendGrant.all (okE cX0_spendGrant) = true := by decide +kernel
def ed_X0_spendGrant : List (Nat × Instr × Nat) := [(3, .invokevirtual 79, 3), (7, .ifCond .gt 12, 3), (12, .invokevirtual 76, 3), (16, .ifCond .le 5, 3), (20, .ireturn, 1), (22, .getfield 24, 3), (27, .laload, 1), (30, .lastore, 1), (32, .getfield 27, 3), (37, .laload, 1), (40, .lastore, 1), (42, .ireturn, 1)]
theorem okd_X0_spendGrant : ed_X0_spendGrant.all (okD cX0_spendGrant) = true := by decide +kernel
def f_X0_spendGrant (S : St) (p0 : Nat) (p1 : Int32) (p2 : Int64) : Option (Int32 × St) := cl (f_X0_allowanceLeft S p0 p1) fun (v1 : Int64) => if v1 < p2 then (some (0, S)) else (cl (f_X0_fundLeft S p0) fun (v2 : Int64) => if p2 ≤ v2 then (lt (gR S p0 4) fun (a3 : Nat) => ldJ S a3 p1 fun (v5 : Int64) => stJ S a3 p1 (v5 + p2) fun (S6 : St) => lt (gR S6 p0 5) fun (a7 : Nat) => ldJ S6 a7 2 fun (v9 : Int64) => stJ S6 a7 2 (v9 + p2) fun (S10 : St) => some (1, S10)) else (some (0, S)))
set_option maxHeartbeats 4000000 in
set_option maxRecDepth 100000 in
theorem c_X0_spendGrant (S : St) (p0 : Nat) (p1 : Int32) (p2 : Int64) : Ct yX0_spendGrant cX0_spendGrant 4 (some .boolean) 2 43 (fun _ => [.ref p0, .int p1, .long p2]) [(p0, 0)] S (f_X0_spendGrant S p0 p1 p2) oIS sS := by
  refine Ct_of RX0 rfl (by decide) (fun _ => Nat.le_of_ble_eq_true rfl) 0 (vs := fun _ => [some (.ref p0), some (.int p1), some (.long p2), none]) (fun _ => rfl) (fun C X E hr ht => ?_)
  have t0_ : tT C p0 0 := ht (p0, 0) (by simp)
  show Jd C 4 (QJ C oIS sS) S 0 [some (.ref p0), some (.int p1), some (.long p2), none] [] (f_X0_spendGrant S p0 p1 p2)
  unfold f_X0_spendGrant
  refine s_run X ok_X0_spendGrant 0 3 (pc' := 3) (vs' := [some (.ref p0), some (.int p1), some (.long p2), none]) (st' := [.int p1, .ref p0, .long p2]) rfl ?_
  refine s_callV (b := p0) (As := [.int p1]) (rest := [.long p2]) X E mv_X0_79 (c_X0_allowanceLeft S p0 p1) rfl (ta1 t0_) rfl (by decide) t0_ rfl rfl (Nat.le_of_ble_eq_true rfl) (Nat.le_of_ble_eq_true rfl) (Nat.le_of_ble_eq_true rfl) (dk okd_X0_spendGrant 0 rfl) (st' := fun v1 => [.long v1, .long p2]) (fun _ => rfl) (fun v1 => ?_)
  refine s_run X ok_X0_spendGrant 3 1 (pc' := 7) (vs' := [some (.ref p0), some (.int p1), some (.long p2), none]) (st' := [.int (lg_cmp p2 v1)]) rfl ?_
  refine s_lif_gt (tgt := 19) X (dk okd_X0_spendGrant 1 rfl) (by decide) ?_ ?_
  · refine s_run X ok_X0_spendGrant 7 1 (pc' := 20) (vs' := [some (.ref p0), some (.int p1), some (.long p2), none]) (st' := [.int 0]) rfl ?_
    exact s_zret0 X hr (dk okd_X0_spendGrant 4 rfl) (by decide) rfl rfl
  · refine s_run X ok_X0_spendGrant 4 2 (pc' := 12) (vs' := [some (.ref p0), some (.int p1), some (.long p2), none]) (st' := [.ref p0, .long p2]) rfl ?_
    refine s_callV (b := p0) (As := []) (rest := [.long p2]) X E mv_X0_76 (c_X0_fundLeft S p0) rfl (ta1 t0_) rfl (by decide) t0_ rfl rfl (Nat.le_of_ble_eq_true rfl) (Nat.le_of_ble_eq_true rfl) (Nat.le_of_ble_eq_true rfl) (dk okd_X0_spendGrant 2 rfl) (st' := fun v2 => [.long v2, .long p2]) (fun _ => rfl) (fun v2 => ?_)
    refine s_run X ok_X0_spendGrant 6 1 (pc' := 16) (vs' := [some (.ref p0), some (.int p1), some (.long p2), none]) (st' := [.int (lg_cmp p2 v2)]) rfl ?_
    refine s_lif_le (tgt := 21) X (dk okd_X0_spendGrant 3 rfl) (by decide) ?_ ?_
    · refine s_run X ok_X0_spendGrant 8 1 (pc' := 22) (vs' := [some (.ref p0), some (.int p1), some (.long p2), none]) (st' := [.ref p0]) rfl ?_
      refine s_getR X fl_X0_24 t0_ (dk okd_X0_spendGrant 5 rfl) (fun a3 (t4 : tT C a3 14) => ?_)
      refine s_run X ok_X0_spendGrant 9 2 (pc' := 27) (vs' := [some (.ref p0), some (.int p1), some (.long p2), none]) (st' := [.int p1, .ref a3, .int p1, .ref a3]) rfl ?_
      refine s_lald X t4 (dk okd_X0_spendGrant 6 rfl) (fun v5 => ?_)
      refine s_run X ok_X0_spendGrant 11 2 (pc' := 30) (vs' := [some (.ref p0), some (.int p1), some (.long p2), none]) (st' := [.long (v5 + p2), .int p1, .ref a3]) rfl ?_
      refine s_last X t4 (dk okd_X0_spendGrant 7 rfl) (fun S6 => ?_)
      refine s_run X ok_X0_spendGrant 13 1 (pc' := 32) (vs' := [some (.ref p0), some (.int p1), some (.long p2), none]) (st' := [.ref p0]) rfl ?_
      refine s_getR X fl_X0_27 t0_ (dk okd_X0_spendGrant 8 rfl) (fun a7 (t8 : tT C a7 14) => ?_)
      refine s_run X ok_X0_spendGrant 14 2 (pc' := 37) (vs' := [some (.ref p0), some (.int p1), some (.long p2), none]) (st' := [.int 2, .ref a7, .int 2, .ref a7]) rfl ?_
      refine s_lald X t8 (dk okd_X0_spendGrant 9 rfl) (fun v9 => ?_)
      refine s_run X ok_X0_spendGrant 16 2 (pc' := 40) (vs' := [some (.ref p0), some (.int p1), some (.long p2), none]) (st' := [.long (v9 + p2), .int 2, .ref a7]) rfl ?_
      refine s_last X t8 (dk okd_X0_spendGrant 10 rfl) (fun S10 => ?_)
      refine s_run X ok_X0_spendGrant 18 1 (pc' := 42) (vs' := [some (.ref p0), some (.int p1), some (.long p2), none]) (st' := [.int 1]) rfl ?_
      exact s_zret0 X hr (dk okd_X0_spendGrant 11 rfl) (by decide) rfl rfl
    · refine s_run X ok_X0_spendGrant 7 1 (pc' := 20) (vs' := [some (.ref p0), some (.int p1), some (.long p2), none]) (st' := [.int 0]) rfl ?_
      exact s_zret0 X hr (dk okd_X0_spendGrant 4 rfl) (by decide) rfl rfl
def tab_X0_shareOfNational : List En := [(0, 8, 0, 0), (4, 12, 2, 0), (5, 6, 2, 0), (6, 3, 0, 0), (7, 40, 0, 0), (11, 3, 0, 0), (13, 8, 0, 0), (17, 0, 0, 1), (19, 8, 0, 0), (23, 4, 1, 0), (25, 25, 0, 0), (26, 13, 4, 0), (28, 7, 4, 0), (30, 6, 2, 0), (32, 13, 6, 0), (34, 8, 0, 0), (38, 0, 0, 1), (40, 13, 8, 0), (42, 0, 0, 0), (43, 11, 10, 0), (45, 0, 0, 0), (46, 11, 11, 0), (48, 5, 11, 0), (50, 1, 0, 8), (55, 8, 0, 0), (59, 0, 0, 1), (61, 8, 0, 0), (65, 5, 11, 0), (68, 25, 0, 0), (69, 13, 12, 0), (71, 7, 12, 0), (73, 6, 2, 0), (75, 13, 14, 0), (77, 7, 8, 0), (79, 7, 12, 0), (81, 6, 2, 0), (83, 24, 0, 0), (84, 13, 8, 0), (86, 7, 14, 0), (88, 7, 6, 0), (90, 40, 0, 0), (94, 7, 14, 0), (96, 7, 6, 0), (98, 40, 0, 0), (102, 5, 11, 0), (104, 4, 1, 0), (108, 16, 10, 1), (111, 16, 11, 1), (114, 41, 48, 0), (117, 7, 4, 0), (119, 6, 2, 0), (121, 5, 10, 0), (123, 31, 0, 0), (124, 7, 8, 0), (126, 40, 0, 0), (130, 0, 0, 1), (131, 41, 135, 0), (134, 0, 0, 0), (135, 31, 0, 0), (136, 23, 0, 0)]
theorem ok_X0_shareOfNational : tab_X0_shareOfNational.all (okE cX0_shareOfNational) = true := by decide +kernel
def ed_X0_shareOfNational : List (Nat × Instr × Nat) := [(1, .invokevirtual 70, 3), (8, .ifCond .gt 5, 3), (12, .lreturn, 1), (14, .getfield 27, 3), (18, .laload, 1), (20, .getfield 21, 3), (24, .laload, 1), (31, .lrem, 1), (35, .getfield 27, 3), (39, .laload, 1), (52, .if_icmp .ge 65, 3), (56, .getfield 27, 3), (60, .laload, 1), (62, .getfield 21, 3), (67, .laload, 1), (74, .lrem, 1), (82, .ldiv, 1), (91, .ifCond .gt 17, 3), (99, .ifCond .ne 12, 3), (105, .if_icmp .ge 6, 3), (120, .ldiv, 1), (127, .ifCond .ge 7, 3), (137, .lreturn, 1)]
theorem okd_X0_shareOfNational : ed_X0_shareOfNational.all (okD cX0_shareOfNational) = true := by decide +kernel
def f_X0_shareOfNational (S : St) (p0 : Nat) (p1 : Int32) : Option (Int64) := cl (f_X0_allContributed S p0) fun (v1 : Int64) => if 0 < v1 then (lt (gR S p0 5) fun (a2 : Nat) => ldJ S a2 1 fun (v4 : Int64) => lt (gR S p0 3) fun (a5 : Nat) => ldJ S a5 p1 fun (v7 : Int64) => lt (v4 * v7) fun (v8 : Int64) => nzL v1 <| lt (v8 - v8 / v1 * v1) fun (v9 : Int64) => lt (gR S p0 5) fun (a10 : Nat) => ldJ S a10 1 fun (v12 : Int64) => jn (κ := Int64 → Int32 → Option (Int64)) (fun x13 x14 => nzL v1 <| jn (κ := Int32 → Option (Int64)) (fun x17 => some ((v8 / v1) + (Int32.toInt64 x17))) fun k18 => if x13 ≤ (Int32.toInt64 x14) then (k18 0) else (k18 1)) fun k15 => lp (κ := Int64 → Int32 → Int32 → Option (Int64)) (fun _ _ _ => none) (fun k23 x20 x21 x22 => if 8 ≤ x22 then (k15 x20 x21) else (lt (gR S p0 5) fun (a25 : Nat) => ldJ S a25 1 fun (v27 : Int64) => lt (gR S p0 3) fun (a28 : Nat) => ldJ S a28 x22 fun (v30 : Int64) => lt (v27 * v30) fun (v31 : Int64) => nzL v1 <| lt (v31 - v31 / v1 * v1) fun (v32 : Int64) => nzL v1 <| lt (x20 - (v31 / v1)) fun (v33 : Int64) => jn (κ := Int32 → Option (Int64)) (fun x34 => k23 v33 x34 (x22 + 1)) fun k35 => jn (κ := Option (Int64)) (k35 (x21 + 1)) fun k37 => if v9 < v32 then (k37) else (if v32 = v9 then (if p1 ≤ x22 then (k35 x21) else (k37)) else (k35 x21)))) FU v12 0 0) else (some 0)
set_option maxHeartbeats 4000000 in
set_option maxRecDepth 100000 in
theorem c_X0_shareOfNational (S : St) (p0 : Nat) (p1 : Int32) : Ct yX0_shareOfNational cX0_shareOfNational 16 (some .long) 1 23 (fun _ => [.ref p0, .int p1]) [(p0, 0)] S (f_X0_shareOfNational S p0 p1) oL (fun _ => S) := by
  refine Ct_of RX0 rfl (by decide) (fun _ => Nat.le_of_ble_eq_true rfl) 14 (vs := fun _ => [some (.ref p0), some (.int p1), none, none, none, none, none, none, none, none, none, none, none, none, none, none]) (fun _ => rfl) (fun C X E hr ht => ?_)
  have t0_ : tT C p0 0 := ht (p0, 0) (by simp)
  show Jd C 16 (QJ C oL (fun _ => S)) S 0 [some (.ref p0), some (.int p1), none, none, none, none, none, none, none, none, none, none, none, none, none, none] [] (f_X0_shareOfNational S p0 p1)
  unfold f_X0_shareOfNational
  refine s_run X ok_X0_shareOfNational 0 1 (pc' := 1) (vs' := [some (.ref p0), some (.int p1), none, none, none, none, none, none, none, none, none, none, none, none, none, none]) (st' := [.ref p0]) rfl ?_
  refine s_callV (b := p0) (As := []) (rest := []) X E mv_X0_70 (c_X0_allContributed S p0) rfl (ta1 t0_) rfl (by decide) t0_ rfl rfl (Nat.le_of_ble_eq_true rfl) (Nat.le_of_ble_eq_true rfl) (Nat.le_of_ble_eq_true rfl) (dk okd_X0_shareOfNational 0 rfl) (st' := fun v1 => [.long v1]) (fun _ => rfl) (fun v1 => ?_)
  refine s_run X ok_X0_shareOfNational 1 4 (pc' := 8) (vs' := [some (.ref p0), some (.int p1), some (.long v1), none, none, none, none, none, none, none, none, none, none, none, none, none]) (st' := [.int (lg_cmp v1 0)]) rfl ?_
  refine s_lif_gt (tgt := 13) X (dk okd_X0_shareOfNational 1 rfl) (by decide) ?_ ?_
  · refine s_run X ok_X0_shareOfNational 6 1 (pc' := 14) (vs' := [some (.ref p0), some (.int p1), some (.long v1), none, none, none, none, none, none, none, none, none, none, none, none, none]) (st' := [.ref p0]) rfl ?_
    refine s_getR X fl_X0_27 t0_ (dk okd_X0_shareOfNational 3 rfl) (fun a2 (t3 : tT C a2 14) => ?_)
    refine s_run X ok_X0_shareOfNational 7 1 (pc' := 18) (vs' := [some (.ref p0), some (.int p1), some (.long v1), none, none, none, none, none, none, none, none, none, none, none, none, none]) (st' := [.int 1, .ref a2]) rfl ?_
    refine s_lald X t3 (dk okd_X0_shareOfNational 4 rfl) (fun v4 => ?_)
    refine s_run X ok_X0_shareOfNational 8 1 (pc' := 20) (vs' := [some (.ref p0), some (.int p1), some (.long v1), none, none, none, none, none, none, none, none, none, none, none, none, none]) (st' := [.ref p0, .long v4]) rfl ?_
    refine s_getR X fl_X0_21 t0_ (dk okd_X0_shareOfNational 5 rfl) (fun a5 (t6 : tT C a5 14) => ?_)
    refine s_run X ok_X0_shareOfNational 9 1 (pc' := 24) (vs' := [some (.ref p0), some (.int p1), some (.long v1), none, none, none, none, none, none, none, none, none, none, none, none, none]) (st' := [.int p1, .ref a5, .long v4]) rfl ?_
    refine s_lald X t6 (dk okd_X0_shareOfNational 6 rfl) (fun v7 => ?_)
    refine s_run X ok_X0_shareOfNational 10 1 (pc' := 26) (vs' := [some (.ref p0), some (.int p1), some (.long v1), none, none, none, none, none, none, none, none, none, none, none, none, none]) (st' := [.long (v4 * v7)]) rfl ?_
    refine s_nmJ (fun v8 => ?_)
    refine s_run X ok_X0_shareOfNational 11 3 (pc' := 31) (vs' := [some (.ref p0), some (.int p1), some (.long v1), none, some (.long v8), none, none, none, none, none, none, none, none, none, none, none]) (st' := [.long v1, .long v8]) rfl ?_
    refine s_lrem X (dk okd_X0_shareOfNational 7 rfl) ?_
    refine s_nmJ (fun v9 => ?_)
    refine s_run X ok_X0_shareOfNational 14 2 (pc' := 35) (vs' := [some (.ref p0), some (.int p1), some (.long v1), none, some (.long v8), none, some (.long v9), none, none, none, none, none, none, none, none, none]) (st' := [.ref p0]) rfl ?_
    refine s_getR X fl_X0_27 t0_ (dk okd_X0_shareOfNational 8 rfl) (fun a10 (t11 : tT C a10 14) => ?_)
    refine s_run X ok_X0_shareOfNational 16 1 (pc' := 39) (vs' := [some (.ref p0), some (.int p1), some (.long v1), none, some (.long v8), none, some (.long v9), none, none, none, none, none, none, none, none, none]) (st' := [.int 1, .ref a10]) rfl ?_
    refine s_lald X t11 (dk okd_X0_shareOfNational 9 rfl) (fun v12 => ?_)
    refine s_run X ok_X0_shareOfNational 17 5 (pc' := 48) (vs' := [some (.ref p0), some (.int p1), some (.long v1), none, some (.long v8), none, some (.long v9), none, some (.long v12), none, some (.int 0), some (.int 0), none, none, none, none]) (st' := []) rfl ?_
    refine s_jn (κ := Int64 → Int32 → Option (Int64)) (fun k15 => ∀ (x13 : Int64) (x14 : Int32), Jd C 16 (QJ C oL (fun _ => S)) S 117 [none, none, some (.long v1), none, some (.long v8), none, none, none, some (.long x13), none, some (.int x14), none, none, none, none, none] [] (k15 x13 x14)) (fun x13 x14 => ?_) (fun k15 h16 => ?_)
    · refine s_run X ok_X0_shareOfNational 49 2 (pc' := 120) (vs' := [none, none, some (.long v1), none, some (.long v8), none, none, none, some (.long x13), none, some (.int x14), none, none, none, none, none]) (st' := [.long v1, .long v8]) rfl ?_
      refine s_ldiv X (dk okd_X0_shareOfNational 20 rfl) ?_
      refine s_run X ok_X0_shareOfNational 51 4 (pc' := 127) (vs' := [none, none, some (.long v1), none, some (.long v8), none, none, none, some (.long x13), none, some (.int x14), none, none, none, none, none]) (st' := [.int (lg_cmp (Int32.toInt64 x14) x13), .long (v8 / v1)]) rfl ?_
      refine s_jn (κ := Int32 → Option (Int64)) (fun k18 => ∀ (x17 : Int32), Jd C 16 (QJ C oL (fun _ => S)) S 135 [none, none, none, none, none, none, none, none, none, none, none, none, none, none, none, none] [.int x17, .long (v8 / v1)] (k18 x17)) (fun x17 => ?_) (fun k18 h19 => ?_)
      · refine s_run X ok_X0_shareOfNational 58 2 (pc' := 137) (vs' := [none, none, none, none, none, none, none, none, none, none, none, none, none, none, none, none]) (st' := [.long ((v8 / v1) + (Int32.toInt64 x17))]) rfl ?_
        exact s_lret X hr (dk okd_X0_shareOfNational 22 rfl) rfl rfl
      · refine s_lif_ge (tgt := 134) X (dk okd_X0_shareOfNational 21 rfl) (by decide) ?_ ?_
        · refine s_run X ok_X0_shareOfNational 57 1 (pc' := 135) (vs' := [none, none, some (.long v1), none, some (.long v8), none, none, none, some (.long x13), none, some (.int x14), none, none, none, none, none]) (st' := [.int 0, .long (v8 / v1)]) rfl ?_
          exact s_less [false, false, false, false, false, false, false, false, false, false, false, false, false, false, false, false] rfl (h19 0)
        · refine s_run X ok_X0_shareOfNational 55 2 (pc' := 135) (vs' := [none, none, some (.long v1), none, some (.long v8), none, none, none, some (.long x13), none, some (.int x14), none, none, none, none, none]) (st' := [.int 1, .long (v8 / v1)]) rfl ?_
          exact s_less [false, false, false, false, false, false, false, false, false, false, false, false, false, false, false, false] rfl (h19 1)
    · refine s_lp (κ := Int64 → Int32 → Int32 → Option (Int64)) (fun k23 => ∀ (x20 : Int64) (x21 : Int32) (x22 : Int32), Jd C 16 (QJ C oL (fun _ => S)) S 48 [some (.ref p0), some (.int p1), some (.long v1), none, some (.long v8), none, some (.long v9), none, some (.long x20), none, some (.int x21), some (.int x22), none, none, none, none] [] (k23 x20 x21 x22)) (fun _ _ _ => s_none) (fun k23 h24 x20 x21 x22 => ?_) FU v12 0 0
      refine s_run X ok_X0_shareOfNational 22 2 (pc' := 52) (vs' := [some (.ref p0), some (.int p1), some (.long v1), none, some (.long v8), none, some (.long v9), none, some (.long x20), none, some (.int x21), some (.int x22), none, none, none, none]) (st' := [.int 8, .int x22]) rfl ?_
      refine s_icmp_ge (tgt := 117) X (dk okd_X0_shareOfNational 10 rfl) (by decide) ?_ ?_
      · exact s_less [false, false, true, false, true, false, false, false, true, false, true, false, false, false, false, false] rfl (h16 x20 x21)
      · refine s_run X ok_X0_shareOfNational 24 1 (pc' := 56) (vs' := [some (.ref p0), some (.int p1), some (.long v1), none, some (.long v8), none, some (.long v9), none, some (.long x20), none, some (.int x21), some (.int x22), none, none, none, none]) (st' := [.ref p0]) rfl ?_
        refine s_getR X fl_X0_27 t0_ (dk okd_X0_shareOfNational 11 rfl) (fun a25 (t26 : tT C a25 14) => ?_)
        refine s_run X ok_X0_shareOfNational 25 1 (pc' := 60) (vs' := [some (.ref p0), some (.int p1), some (.long v1), none, some (.long v8), none, some (.long v9), none, some (.long x20), none, some (.int x21), some (.int x22), none, none, none, none]) (st' := [.int 1, .ref a25]) rfl ?_
        refine s_lald X t26 (dk okd_X0_shareOfNational 12 rfl) (fun v27 => ?_)
        refine s_run X ok_X0_shareOfNational 26 1 (pc' := 62) (vs' := [some (.ref p0), some (.int p1), some (.long v1), none, some (.long v8), none, some (.long v9), none, some (.long x20), none, some (.int x21), some (.int x22), none, none, none, none]) (st' := [.ref p0, .long v27]) rfl ?_
        refine s_getR X fl_X0_21 t0_ (dk okd_X0_shareOfNational 13 rfl) (fun a28 (t29 : tT C a28 14) => ?_)
        refine s_run X ok_X0_shareOfNational 27 1 (pc' := 67) (vs' := [some (.ref p0), some (.int p1), some (.long v1), none, some (.long v8), none, some (.long v9), none, some (.long x20), none, some (.int x21), some (.int x22), none, none, none, none]) (st' := [.int x22, .ref a28, .long v27]) rfl ?_
        refine s_lald X t29 (dk okd_X0_shareOfNational 14 rfl) (fun v30 => ?_)
        refine s_run X ok_X0_shareOfNational 28 1 (pc' := 69) (vs' := [some (.ref p0), some (.int p1), some (.long v1), none, some (.long v8), none, some (.long v9), none, some (.long x20), none, some (.int x21), some (.int x22), none, none, none, none]) (st' := [.long (v27 * v30)]) rfl ?_
        refine s_nmJ (fun v31 => ?_)
        refine s_run X ok_X0_shareOfNational 29 3 (pc' := 74) (vs' := [some (.ref p0), some (.int p1), some (.long v1), none, some (.long v8), none, some (.long v9), none, some (.long x20), none, some (.int x21), some (.int x22), some (.long v31), none, none, none]) (st' := [.long v1, .long v31]) rfl ?_
        refine s_lrem X (dk okd_X0_shareOfNational 15 rfl) ?_
        refine s_nmJ (fun v32 => ?_)
        refine s_run X ok_X0_shareOfNational 32 4 (pc' := 82) (vs' := [some (.ref p0), some (.int p1), some (.long v1), none, some (.long v8), none, some (.long v9), none, some (.long x20), none, some (.int x21), some (.int x22), some (.long v31), none, some (.long v32), none]) (st' := [.long v1, .long v31, .long x20]) rfl ?_
        refine s_ldiv X (dk okd_X0_shareOfNational 16 rfl) ?_
        refine s_run X ok_X0_shareOfNational 36 1 (pc' := 84) (vs' := [some (.ref p0), some (.int p1), some (.long v1), none, some (.long v8), none, some (.long v9), none, some (.long x20), none, some (.int x21), some (.int x22), some (.long v31), none, some (.long v32), none]) (st' := [.long (x20 - (v31 / v1))]) rfl ?_
        refine s_nmJ (fun v33 => ?_)
        refine s_run X ok_X0_shareOfNational 37 4 (pc' := 91) (vs' := [some (.ref p0), some (.int p1), some (.long v1), none, some (.long v8), none, some (.long v9), none, some (.long v33), none, some (.int x21), some (.int x22), some (.long v31), none, some (.long v32), none]) (st' := [.int (lg_cmp v32 v9)]) rfl ?_
        refine s_jn (κ := Int32 → Option (Int64)) (fun k35 => ∀ (x34 : Int32), Jd C 16 (QJ C oL (fun _ => S)) S 111 [some (.ref p0), some (.int p1), some (.long v1), none, some (.long v8), none, some (.long v9), none, some (.long v33), none, some (.int x34), some (.int x22), none, none, none, none] [] (k35 x34)) (fun x34 => ?_) (fun k35 h36 => ?_)
        · refine s_run X ok_X0_shareOfNational 47 2 (pc' := 48) (vs' := [some (.ref p0), some (.int p1), some (.long v1), none, some (.long v8), none, some (.long v9), none, some (.long v33), none, some (.int x34), some (.int (x22 + 1)), none, none, none, none]) (st' := []) rfl ?_
          exact h24 v33 x34 (x22 + 1)
        · refine s_jn (κ := Option (Int64)) (fun k37 => Jd C 16 (QJ C oL (fun _ => S)) S 108 [some (.ref p0), some (.int p1), some (.long v1), none, some (.long v8), none, some (.long v9), none, some (.long v33), none, some (.int x21), some (.int x22), none, none, none, none] [] k37) ?_ (fun k37 h38 => ?_)
          · refine s_run X ok_X0_shareOfNational 46 1 (pc' := 111) (vs' := [some (.ref p0), some (.int p1), some (.long v1), none, some (.long v8), none, some (.long v9), none, some (.long v33), none, some (.int (x21 + 1)), some (.int x22), none, none, none, none]) (st' := []) rfl ?_
            exact h36 (x21 + 1)
          · refine s_lif_gt (tgt := 108) X (dk okd_X0_shareOfNational 17 rfl) (by decide) ?_ ?_
            · exact s_less [true, true, true, false, true, false, true, false, true, false, true, true, false, false, false, false] rfl (h38)
            · refine s_run X ok_X0_shareOfNational 41 3 (pc' := 99) (vs' := [some (.ref p0), some (.int p1), some (.long v1), none, some (.long v8), none, some (.long v9), none, some (.long v33), none, some (.int x21), some (.int x22), some (.long v31), none, some (.long v32), none]) (st' := [.int (lg_cmp v32 v9)]) rfl ?_
              refine s_lif_ne (tgt := 111) X (dk okd_X0_shareOfNational 18 rfl) (by decide) ?_ ?_
              · exact s_less [true, true, true, false, true, false, true, false, true, false, true, true, false, false, false, false] rfl (h36 x21)
              · refine s_run X ok_X0_shareOfNational 44 2 (pc' := 105) (vs' := [some (.ref p0), some (.int p1), some (.long v1), none, some (.long v8), none, some (.long v9), none, some (.long v33), none, some (.int x21), some (.int x22), some (.long v31), none, some (.long v32), none]) (st' := [.int p1, .int x22]) rfl ?_
                refine s_icmp_ge (tgt := 111) X (dk okd_X0_shareOfNational 19 rfl) (by decide) ?_ ?_
                · exact s_less [true, true, true, false, true, false, true, false, true, false, true, true, false, false, false, false] rfl (h36 x21)
                · exact s_less [true, true, true, false, true, false, true, false, true, false, true, true, false, false, false, false] rfl (h38)
  · refine s_run X ok_X0_shareOfNational 5 1 (pc' := 12) (vs' := [some (.ref p0), some (.int p1), some (.long v1), none, none, none, none, none, none, none, none, none, none, none, none, none]) (st' := [.long 0]) rfl ?_
    exact s_lret X hr (dk okd_X0_shareOfNational 2 rfl) rfl rfl
def tab_X1_monthsOfDelayLeft : List En := [(0, 0, 0, 0), (1, 8, 0, 0), (8, 8, 0, 0), (15, 8, 0, 0), (22, 4, 1, 0), (24, 18, 0, 0), (25, 18, 0, 0)]
theorem ok_X1_monthsOfDelayLeft : tab_X1_monthsOfDelayLeft.all (okE cX1_monthsOfDelayLeft) = true := by decide +kernel
def ed_X1_monthsOfDelayLeft : List (Nat × Instr × Nat) := [(2, .getfield 12, 3), (5, .getfield 240, 3), (9, .getfield 49, 3), (12, .getfield 208, 3), (16, .getfield 42, 3), (19, .getfield 243, 3), (23, .iaload, 1), (26, .invokestatic 246, 3), (29, .ireturn, 1)]
theorem okd_X1_monthsOfDelayLeft : ed_X1_monthsOfDelayLeft.all (okD cX1_monthsOfDelayLeft) = true := by decide +kernel
def f_X1_monthsOfDelayLeft (S : St) (p0 : Nat) (p1 : Int32) : Option (Int32) := lt (gR S p0 0) fun (a1 : Nat) => lt (gI S a1 10) fun (v3 : Int32) => lt (gR S p0 5) fun (a4 : Nat) => lt (gI S a4 6) fun (v6 : Int32) => lt (gR S p0 4) fun (a7 : Nat) => lt (gR S a7 1) fun (a9 : Nat) => ldI S a9 p1 fun (v11 : Int32) => lt (if 0 < (v3 - (v6 - v11)) then (v3 - (v6 - v11)) else 0) fun (v12 : Int32) => some v12
set_option maxHeartbeats 4000000 in
set_option maxRecDepth 100000 in
theorem c_X1_monthsOfDelayLeft (S : St) (p0 : Nat) (p1 : Int32) : Ct yX1_monthsOfDelayLeft cX1_monthsOfDelayLeft 2 (some .int) 1 23 (fun _ => [.ref p0, .int p1]) [(p0, 1)] S (f_X1_monthsOfDelayLeft S p0 p1) oI (fun _ => S) := by
  refine Ct_of RX1 rfl (by decide) (fun _ => Nat.le_of_ble_eq_true rfl) 0 (vs := fun _ => [some (.ref p0), some (.int p1)]) (fun _ => rfl) (fun C X E hr ht => ?_)
  have t0_ : tT C p0 1 := ht (p0, 1) (by simp)
  show Jd C 2 (QJ C oI (fun _ => S)) S 0 [some (.ref p0), some (.int p1)] [] (f_X1_monthsOfDelayLeft S p0 p1)
  unfold f_X1_monthsOfDelayLeft
  refine s_run X ok_X1_monthsOfDelayLeft 0 2 (pc' := 2) (vs' := [some (.ref p0), some (.int p1)]) (st' := [.ref p0, .int 0]) rfl ?_
  refine s_getR X fl_X1_12 t0_ (dk okd_X1_monthsOfDelayLeft 0 rfl) (fun a1 (t2 : tT C a1 7) => ?_)
  refine s_getI X fl_X1_240 t2 (dk okd_X1_monthsOfDelayLeft 1 rfl) (fun v3 => ?_)
  refine s_run X ok_X1_monthsOfDelayLeft 2 1 (pc' := 9) (vs' := [some (.ref p0), some (.int p1)]) (st' := [.ref p0, .int v3, .int 0]) rfl ?_
  refine s_getR X fl_X1_49 t0_ (dk okd_X1_monthsOfDelayLeft 2 rfl) (fun a4 (t5 : tT C a4 0) => ?_)
  refine s_getI X fl_X1_208 t5 (dk okd_X1_monthsOfDelayLeft 3 rfl) (fun v6 => ?_)
  refine s_run X ok_X1_monthsOfDelayLeft 3 1 (pc' := 16) (vs' := [some (.ref p0), some (.int p1)]) (st' := [.ref p0, .int v6, .int v3, .int 0]) rfl ?_
  refine s_getR X fl_X1_42 t0_ (dk okd_X1_monthsOfDelayLeft 4 rfl) (fun a7 (t8 : tT C a7 9) => ?_)
  refine s_getR X fl_X1_243 t8 (dk okd_X1_monthsOfDelayLeft 5 rfl) (fun a9 (t10 : tT C a9 13) => ?_)
  refine s_run X ok_X1_monthsOfDelayLeft 4 1 (pc' := 23) (vs' := [some (.ref p0), some (.int p1)]) (st' := [.int p1, .ref a9, .int v6, .int v3, .int 0]) rfl ?_
  refine s_iald X t10 (dk okd_X1_monthsOfDelayLeft 6 rfl) (fun v11 => ?_)
  refine s_run X ok_X1_monthsOfDelayLeft 5 2 (pc' := 26) (vs' := [some (.ref p0), some (.int p1)]) (st' := [.int (v3 - (v6 - v11)), .int 0]) rfl ?_
  refine s_Mmax X mm_X1_246 (Nat.le_of_ble_eq_true rfl) (Nat.le_of_ble_eq_true rfl) (dk okd_X1_monthsOfDelayLeft 7 rfl) (fun v12 => ?_)
  exact s_iret X hr (dk okd_X1_monthsOfDelayLeft 8 rfl) rfl rfl
def tab_X2_copyFrom : List En := [(0, 8, 1, 0), (4, 0, 0, 0), (5, 8, 0, 0), (9, 0, 0, 0), (10, 1, 0, 8), (15, 8, 1, 0), (19, 0, 0, 0), (20, 8, 0, 0), (24, 0, 0, 0), (25, 1, 0, 8), (30, 8, 1, 0), (34, 0, 0, 0), (35, 8, 0, 0), (39, 0, 0, 0), (40, 1, 0, 8), (45, 8, 1, 0), (49, 0, 0, 0), (50, 8, 0, 0), (54, 0, 0, 0), (55, 1, 0, 8), (60, 8, 1, 0), (64, 0, 0, 0), (65, 8, 0, 0), (69, 0, 0, 0), (70, 1, 0, 8), (75, 8, 1, 0), (79, 0, 0, 0), (80, 8, 0, 0), (84, 0, 0, 0), (85, 1, 0, 8)]
theorem ok_X2_copyFrom : tab_X2_copyFrom.all (okE cX2_copyFrom) = true := by decide +kernel
def ed_X2_copyFrom : List (Nat × Instr × Nat) := [(1, .getfield 19, 3), (6, .getfield 19, 3), (12, .invokestatic 38, 3), (16, .getfield 22, 3), (21, .getfield 22, 3), (27, .invokestatic 38, 3), (31, .getfield 25, 3), (36, .getfield 25, 3), (42, .invokestatic 38, 3), (46, .getfield 28, 3), (51, .getfield 28, 3), (57, .invokestatic 38, 3), (61, .getfield 31, 3), (66, .getfield 31, 3), (72, .invokestatic 38, 3), (76, .getfield 34, 3), (81, .getfield 34, 3), (87, .invokestatic 38, 3), (90, .return_, 1)]
theorem okd_X2_copyFrom : ed_X2_copyFrom.all (okD cX2_copyFrom) = true := by decide +kernel
def f_X2_copyFrom (S : St) (p0 : Nat) (p1 : Nat) : Option (St) := lt (gR S p1 2) fun (a1 : Nat) => lt (gR S p0 2) fun (a3 : Nat) => cpI S a1 0 a3 0 8 fun (S5 : St) => lt (gR S5 p1 3) fun (a6 : Nat) => lt (gR S5 p0 3) fun (a8 : Nat) => cpI S5 a6 0 a8 0 8 fun (S10 : St) => lt (gR S10 p1 4) fun (a11 : Nat) => lt (gR S10 p0 4) fun (a13 : Nat) => cpI S10 a11 0 a13 0 8 fun (S15 : St) => lt (gR S15 p1 5) fun (a16 : Nat) => lt (gR S15 p0 5) fun (a18 : Nat) => cpI S15 a16 0 a18 0 8 fun (S20 : St) => lt (gR S20 p1 6) fun (a21 : Nat) => lt (gR S20 p0 6) fun (a23 : Nat) => cpI S20 a21 0 a23 0 8 fun (S25 : St) => lt (gR S25 p1 7) fun (a26 : Nat) => lt (gR S25 p0 7) fun (a28 : Nat) => cpJ S25 a26 0 a28 0 8 fun (S30 : St) => some S30
set_option maxHeartbeats 4000000 in
set_option maxRecDepth 100000 in
theorem c_X2_copyFrom (S : St) (p0 : Nat) (p1 : Nat) : Ct yX2_copyFrom cX2_copyFrom 2 none 1 48 (fun _ => [.ref p0, .ref p1]) [(p0, 2), (p1, 2)] S (f_X2_copyFrom S p0 p1) oV sV := by
  refine Ct_of RX2 rfl (by decide) (fun _ => Nat.le_of_ble_eq_true rfl) 0 (vs := fun _ => [some (.ref p0), some (.ref p1)]) (fun _ => rfl) (fun C X E hr ht => ?_)
  have t0_ : tT C p0 2 := ht (p0, 2) (by simp)
  have t1_ : tT C p1 2 := ht (p1, 2) (by simp)
  show Jd C 2 (QJ C oV sV) S 0 [some (.ref p0), some (.ref p1)] [] (f_X2_copyFrom S p0 p1)
  unfold f_X2_copyFrom
  refine s_run X ok_X2_copyFrom 0 1 (pc' := 1) (vs' := [some (.ref p0), some (.ref p1)]) (st' := [.ref p1]) rfl ?_
  refine s_getR X fl_X2_19 t1_ (dk okd_X2_copyFrom 0 rfl) (fun a1 (t2 : tT C a1 13) => ?_)
  refine s_run X ok_X2_copyFrom 1 2 (pc' := 6) (vs' := [some (.ref p0), some (.ref p1)]) (st' := [.ref p0, .int 0, .ref a1]) rfl ?_
  refine s_getR X fl_X2_19 t0_ (dk okd_X2_copyFrom 1 rfl) (fun a3 (t4 : tT C a3 13) => ?_)
  refine s_run X ok_X2_copyFrom 3 2 (pc' := 12) (vs' := [some (.ref p0), some (.ref p1)]) (st' := [.int 8, .int 0, .ref a3, .int 0, .ref a1]) rfl ?_
  refine s_copyI X mm_X2_38 t2 t4 (Nat.le_of_ble_eq_true rfl) (Nat.le_of_ble_eq_true rfl) (dk okd_X2_copyFrom 2 rfl) (fun S5 => ?_)
  refine s_run X ok_X2_copyFrom 5 1 (pc' := 16) (vs' := [some (.ref p0), some (.ref p1)]) (st' := [.ref p1]) rfl ?_
  refine s_getR X fl_X2_22 t1_ (dk okd_X2_copyFrom 3 rfl) (fun a6 (t7 : tT C a6 13) => ?_)
  refine s_run X ok_X2_copyFrom 6 2 (pc' := 21) (vs' := [some (.ref p0), some (.ref p1)]) (st' := [.ref p0, .int 0, .ref a6]) rfl ?_
  refine s_getR X fl_X2_22 t0_ (dk okd_X2_copyFrom 4 rfl) (fun a8 (t9 : tT C a8 13) => ?_)
  refine s_run X ok_X2_copyFrom 8 2 (pc' := 27) (vs' := [some (.ref p0), some (.ref p1)]) (st' := [.int 8, .int 0, .ref a8, .int 0, .ref a6]) rfl ?_
  refine s_copyI X mm_X2_38 t7 t9 (Nat.le_of_ble_eq_true rfl) (Nat.le_of_ble_eq_true rfl) (dk okd_X2_copyFrom 5 rfl) (fun S10 => ?_)
  refine s_run X ok_X2_copyFrom 10 1 (pc' := 31) (vs' := [some (.ref p0), some (.ref p1)]) (st' := [.ref p1]) rfl ?_
  refine s_getR X fl_X2_25 t1_ (dk okd_X2_copyFrom 6 rfl) (fun a11 (t12 : tT C a11 13) => ?_)
  refine s_run X ok_X2_copyFrom 11 2 (pc' := 36) (vs' := [some (.ref p0), some (.ref p1)]) (st' := [.ref p0, .int 0, .ref a11]) rfl ?_
  refine s_getR X fl_X2_25 t0_ (dk okd_X2_copyFrom 7 rfl) (fun a13 (t14 : tT C a13 13) => ?_)
  refine s_run X ok_X2_copyFrom 13 2 (pc' := 42) (vs' := [some (.ref p0), some (.ref p1)]) (st' := [.int 8, .int 0, .ref a13, .int 0, .ref a11]) rfl ?_
  refine s_copyI X mm_X2_38 t12 t14 (Nat.le_of_ble_eq_true rfl) (Nat.le_of_ble_eq_true rfl) (dk okd_X2_copyFrom 8 rfl) (fun S15 => ?_)
  refine s_run X ok_X2_copyFrom 15 1 (pc' := 46) (vs' := [some (.ref p0), some (.ref p1)]) (st' := [.ref p1]) rfl ?_
  refine s_getR X fl_X2_28 t1_ (dk okd_X2_copyFrom 9 rfl) (fun a16 (t17 : tT C a16 13) => ?_)
  refine s_run X ok_X2_copyFrom 16 2 (pc' := 51) (vs' := [some (.ref p0), some (.ref p1)]) (st' := [.ref p0, .int 0, .ref a16]) rfl ?_
  refine s_getR X fl_X2_28 t0_ (dk okd_X2_copyFrom 10 rfl) (fun a18 (t19 : tT C a18 13) => ?_)
  refine s_run X ok_X2_copyFrom 18 2 (pc' := 57) (vs' := [some (.ref p0), some (.ref p1)]) (st' := [.int 8, .int 0, .ref a18, .int 0, .ref a16]) rfl ?_
  refine s_copyI X mm_X2_38 t17 t19 (Nat.le_of_ble_eq_true rfl) (Nat.le_of_ble_eq_true rfl) (dk okd_X2_copyFrom 11 rfl) (fun S20 => ?_)
  refine s_run X ok_X2_copyFrom 20 1 (pc' := 61) (vs' := [some (.ref p0), some (.ref p1)]) (st' := [.ref p1]) rfl ?_
  refine s_getR X fl_X2_31 t1_ (dk okd_X2_copyFrom 12 rfl) (fun a21 (t22 : tT C a21 13) => ?_)
  refine s_run X ok_X2_copyFrom 21 2 (pc' := 66) (vs' := [some (.ref p0), some (.ref p1)]) (st' := [.ref p0, .int 0, .ref a21]) rfl ?_
  refine s_getR X fl_X2_31 t0_ (dk okd_X2_copyFrom 13 rfl) (fun a23 (t24 : tT C a23 13) => ?_)
  refine s_run X ok_X2_copyFrom 23 2 (pc' := 72) (vs' := [some (.ref p0), some (.ref p1)]) (st' := [.int 8, .int 0, .ref a23, .int 0, .ref a21]) rfl ?_
  refine s_copyI X mm_X2_38 t22 t24 (Nat.le_of_ble_eq_true rfl) (Nat.le_of_ble_eq_true rfl) (dk okd_X2_copyFrom 14 rfl) (fun S25 => ?_)
  refine s_run X ok_X2_copyFrom 25 1 (pc' := 76) (vs' := [some (.ref p0), some (.ref p1)]) (st' := [.ref p1]) rfl ?_
  refine s_getR X fl_X2_34 t1_ (dk okd_X2_copyFrom 15 rfl) (fun a26 (t27 : tT C a26 14) => ?_)
  refine s_run X ok_X2_copyFrom 26 2 (pc' := 81) (vs' := [some (.ref p0), some (.ref p1)]) (st' := [.ref p0, .int 0, .ref a26]) rfl ?_
  refine s_getR X fl_X2_34 t0_ (dk okd_X2_copyFrom 16 rfl) (fun a28 (t29 : tT C a28 14) => ?_)
  refine s_run X ok_X2_copyFrom 28 2 (pc' := 87) (vs' := [some (.ref p0), some (.ref p1)]) (st' := [.int 8, .int 0, .ref a28, .int 0, .ref a26]) rfl ?_
  refine s_copyJ X mm_X2_38 t27 t29 (Nat.le_of_ble_eq_true rfl) (Nat.le_of_ble_eq_true rfl) (dk okd_X2_copyFrom 17 rfl) (fun S30 => ?_)
  exact s_vret X hr (dk okd_X2_copyFrom 18 rfl) rfl rfl
def tab_X2_has : List En := [(0, 4, 1, 0), (4, 4, 1, 0), (5, 8, 0, 0), (12, 0, 0, 1), (13, 41, 17, 0), (16, 0, 0, 0)]
theorem ok_X2_has : tab_X2_has.all (okE cX2_has) = true := by decide +kernel
def ed_X2_has : List (Nat × Instr × Nat) := [(1, .ifCond .lt 15, 3), (6, .getfield 44, 3), (9, .if_icmp .ge 7, 3), (17, .ireturn, 1)]
theorem okd_X2_has : ed_X2_has.all (okD cX2_has) = true := by decide +kernel
def f_X2_has (S : St) (p0 : Nat) (p1 : Int32) : Option (Int32) := jn (κ := Option (Int32)) (some 0) fun k1 => if p1 < 0 then (k1) else (lt (gI S p0 8) fun (v3 : Int32) => if v3 ≤ p1 then (k1) else (some 1))
set_option maxHeartbeats 4000000 in
set_option maxRecDepth 100000 in
theorem c_X2_has (S : St) (p0 : Nat) (p1 : Int32) : Ct yX2_has cX2_has 2 (some .boolean) 0 0 (fun _ => [.ref p0, .int p1]) [(p0, 2)] S (f_X2_has S p0 p1) oI (fun _ => S) := by
  refine Ct_of RX2 rfl (by decide) (fun _ => Nat.le_of_ble_eq_true rfl) 0 (vs := fun _ => [some (.ref p0), some (.int p1)]) (fun _ => rfl) (fun C X E hr ht => ?_)
  have t0_ : tT C p0 2 := ht (p0, 2) (by simp)
  show Jd C 2 (QJ C oI (fun _ => S)) S 0 [some (.ref p0), some (.int p1)] [] (f_X2_has S p0 p1)
  unfold f_X2_has
  refine s_run X ok_X2_has 0 1 (pc' := 1) (vs' := [some (.ref p0), some (.int p1)]) (st' := [.int p1]) rfl ?_
  refine s_jn (κ := Option (Int32)) (fun k1 => Jd C 2 (QJ C oI (fun _ => S)) S 16 [none, none] [] k1) ?_ (fun k1 h2 => ?_)
  · refine s_run X ok_X2_has 5 1 (pc' := 17) (vs' := [none, none]) (st' := [.int 0]) rfl ?_
    exact s_zret0 X hr (dk okd_X2_has 3 rfl) (by decide) rfl rfl
  · refine s_if_lt (tgt := 16) X (dk okd_X2_has 0 rfl) (by decide) ?_ ?_
    · exact s_less [false, false] rfl (h2)
    · refine s_run X ok_X2_has 1 2 (pc' := 6) (vs' := [some (.ref p0), some (.int p1)]) (st' := [.ref p0, .int p1]) rfl ?_
      refine s_getI X fl_X2_44 t0_ (dk okd_X2_has 1 rfl) (fun v3 => ?_)
      refine s_icmp_ge (tgt := 16) X (dk okd_X2_has 2 rfl) (by decide) ?_ ?_
      · exact s_less [false, false] rfl (h2)
      · refine s_run X ok_X2_has 3 2 (pc' := 17) (vs' := [some (.ref p0), some (.int p1)]) (st' := [.int 1]) rfl ?_
        exact s_zret0 X hr (dk okd_X2_has 3 rfl) (by decide) rfl rfl
def tab_X2_isActive : List En := [(0, 8, 0, 0), (1, 4, 1, 0), (8, 8, 0, 0), (12, 4, 1, 0), (17, 0, 0, 1), (18, 41, 22, 0), (21, 0, 0, 0)]
theorem ok_X2_isActive : tab_X2_isActive.all (okE cX2_isActive) = true := by decide +kernel
def ed_X2_isActive : List (Nat × Instr × Nat) := [(2, .invokevirtual 48, 3), (5, .ifCond .eq 16, 3), (9, .getfield 25, 3), (13, .iaload, 1), (14, .ifCond .ne 7, 3), (22, .ireturn, 1)]
theorem okd_X2_isActive : ed_X2_isActive.all (okD cX2_isActive) = true := by decide +kernel
def f_X2_isActive (S : St) (p0 : Nat) (p1 : Int32) : Option (Int32) := cl (f_X2_has S p0 p1) fun (v1 : Int32) => jn (κ := Option (Int32)) (some 0) fun k2 => if v1 = 0 then (k2) else (lt (gR S p0 4) fun (a4 : Nat) => ldI S a4 p1 fun (v6 : Int32) => if v6 = 0 then (some 1) else (k2))
set_option maxHeartbeats 4000000 in
set_option maxRecDepth 100000 in
theorem c_X2_isActive (S : St) (p0 : Nat) (p1 : Int32) : Ct yX2_isActive cX2_isActive 2 (some .boolean) 1 21 (fun _ => [.ref p0, .int p1]) [(p0, 2)] S (f_X2_isActive S p0 p1) oI (fun _ => S) := by
  refine Ct_of RX2 rfl (by decide) (fun _ => Nat.le_of_ble_eq_true rfl) 0 (vs := fun _ => [some (.ref p0), some (.int p1)]) (fun _ => rfl) (fun C X E hr ht => ?_)
  have t0_ : tT C p0 2 := ht (p0, 2) (by simp)
  show Jd C 2 (QJ C oI (fun _ => S)) S 0 [some (.ref p0), some (.int p1)] [] (f_X2_isActive S p0 p1)
  unfold f_X2_isActive
  refine s_run X ok_X2_isActive 0 2 (pc' := 2) (vs' := [some (.ref p0), some (.int p1)]) (st' := [.int p1, .ref p0]) rfl ?_
  refine s_callV (b := p0) (As := [.int p1]) (rest := []) X E mv_X2_48 (c_X2_has S p0 p1) rfl (ta1 t0_) rfl (by decide) t0_ rfl rfl (Nat.le_of_ble_eq_true rfl) (Nat.le_of_ble_eq_true rfl) (Nat.le_of_ble_eq_true rfl) (dk okd_X2_isActive 0 rfl) (st' := fun v1 => [.int v1]) (fun _ => rfl) (fun v1 => ?_)
  refine s_jn (κ := Option (Int32)) (fun k2 => Jd C 2 (QJ C oI (fun _ => S)) S 21 [none, none] [] k2) ?_ (fun k2 h3 => ?_)
  · refine s_run X ok_X2_isActive 6 1 (pc' := 22) (vs' := [none, none]) (st' := [.int 0]) rfl ?_
    exact s_zret0 X hr (dk okd_X2_isActive 5 rfl) (by decide) rfl rfl
  · refine s_if_eq (tgt := 21) X (dk okd_X2_isActive 1 rfl) (by decide) ?_ ?_
    · exact s_less [false, false] rfl (h3)
    · refine s_run X ok_X2_isActive 2 1 (pc' := 9) (vs' := [some (.ref p0), some (.int p1)]) (st' := [.ref p0]) rfl ?_
      refine s_getR X fl_X2_25 t0_ (dk okd_X2_isActive 2 rfl) (fun a4 (t5 : tT C a4 13) => ?_)
      refine s_run X ok_X2_isActive 3 1 (pc' := 13) (vs' := [some (.ref p0), some (.int p1)]) (st' := [.int p1, .ref a4]) rfl ?_
      refine s_iald X t5 (dk okd_X2_isActive 3 rfl) (fun v6 => ?_)
      refine s_if_ne (tgt := 21) X (dk okd_X2_isActive 4 rfl) (by decide) ?_ ?_
      · exact s_less [false, false] rfl (h3)
      · refine s_run X ok_X2_isActive 4 2 (pc' := 22) (vs' := [some (.ref p0), some (.int p1)]) (st' := [.int 1]) rfl ?_
        exact s_zret0 X hr (dk okd_X2_isActive 5 rfl) (by decide) rfl rfl
def tab_X2_add : List En := [(0, 8, 0, 0), (4, 1, 0, 8), (9, 4, 3, 0), (13, 4, 3, 0), (14, 1, 0, 10), (19, 4, 2, 0), (23, 4, 2, 0), (24, 8, 1, 0), (26, 4, 3, 0), (27, 18, 0, 0), (32, 8, 1, 0), (33, 4, 2, 0), (34, 8, 0, 0), (38, 8, 0, 0), (42, 1, 0, 10), (44, 19, 0, 0), (45, 4, 3, 0), (49, 8, 0, 0), (53, 8, 0, 0), (57, 4, 3, 0), (59, 8, 0, 0), (63, 8, 0, 0), (67, 5, 4, 0), (70, 8, 0, 0), (74, 8, 0, 0), (78, 5, 5, 0), (81, 8, 0, 0), (85, 8, 0, 0), (89, 0, 0, 0), (91, 8, 0, 0), (95, 8, 0, 0), (99, 0, 0, 0), (101, 8, 0, 0), (105, 8, 0, 0), (109, 0, 0, 0), (111, 8, 0, 0), (115, 8, 0, 0), (119, 3, 0, 0), (121, 8, 0, 0), (122, 36, 0, 0), (126, 0, 0, 1), (127, 17, 0, 0)]
theorem ok_X2_add : tab_X2_add.all (okE cX2_add) = true := by decide +kernel
def ed_X2_add : List (Nat × Instr × Nat) := [(1, .getfield 44, 3), (6, .if_icmp .ge 25, 3), (10, .ifCond .lt 21, 3), (16, .if_icmp .gt 15, 3), (20, .ifCond .lt 11, 3), (25, .arraylength, 1), (28, .if_icmp .le 4, 3), (31, .return_, 1), (35, .getfield 9, 3), (39, .getfield 44, 3), (46, .invokestatic 38, 3), (50, .getfield 15, 3), (54, .getfield 44, 3), (58, .iastore, 1), (60, .getfield 19, 3), (64, .getfield 44, 3), (69, .iastore, 1), (71, .getfield 22, 3), (75, .getfield 44, 3), (80, .iastore, 1), (82, .getfield 25, 3), (86, .getfield 44, 3), (90, .iastore, 1), (92, .getfield 28, 3), (96, .getfield 44, 3), (100, .iastore, 1), (102, .getfield 31, 3), (106, .getfield 44, 3), (110, .iastore, 1), (112, .getfield 34, 3), (116, .getfield 44, 3), (120, .lastore, 1), (123, .getfield 44, 3), (128, .putfield 44, 3), (131, .return_, 1)]
theorem okd_X2_add : ed_X2_add.all (okD cX2_add) = true := by decide +kernel
def f_X2_add (S : St) (p0 : Nat) (p1 : Nat) (p2 : Int32) (p3 : Int32) (p4 : Int32) (p5 : Int32) : Option (St) := lt (gI S p0 8) fun (v1 : Int32) => if 8 ≤ v1 then (some S) else (if p3 < 0 then (some S) else (if 10 < p3 then (some S) else (if p2 < 0 then (some S) else (lt (nI (gN S p1)) fun (v2 : Int32) => if p2 ≤ (v2 - p3) then (lt (gR S p0 0) fun (a3 : Nat) => lt (gI S p0 8) fun (v5 : Int32) => cpB S p1 p2 a3 (v5 * 10) p3 fun (S6 : St) => lt (gR S6 p0 1) fun (a7 : Nat) => lt (gI S6 p0 8) fun (v9 : Int32) => stI S6 a7 v9 p3 fun (S10 : St) => lt (gR S10 p0 2) fun (a11 : Nat) => lt (gI S10 p0 8) fun (v13 : Int32) => stI S10 a11 v13 p4 fun (S14 : St) => lt (gR S14 p0 3) fun (a15 : Nat) => lt (gI S14 p0 8) fun (v17 : Int32) => stI S14 a15 v17 p5 fun (S18 : St) => lt (gR S18 p0 4) fun (a19 : Nat) => lt (gI S18 p0 8) fun (v21 : Int32) => stI S18 a19 v21 0 fun (S22 : St) => lt (gR S22 p0 5) fun (a23 : Nat) => lt (gI S22 p0 8) fun (v25 : Int32) => stI S22 a23 v25 0 fun (S26 : St) => lt (gR S26 p0 6) fun (a27 : Nat) => lt (gI S26 p0 8) fun (v29 : Int32) => stI S26 a27 v29 0 fun (S30 : St) => lt (gR S30 p0 7) fun (a31 : Nat) => lt (gI S30 p0 8) fun (v33 : Int32) => stJ S30 a31 v33 0 fun (S34 : St) => lt (gI S34 p0 8) fun (v35 : Int32) => lt (uI S34 p0 8 (v35 + 1)) fun (S36 : St) => some S36) else (some S)))))
set_option maxHeartbeats 4000000 in
set_option maxRecDepth 100000 in
theorem c_X2_add (S : St) (p0 : Nat) (p1 : Nat) (p2 : Int32) (p3 : Int32) (p4 : Int32) (p5 : Int32) : Ct yX2_add cX2_add 6 none 1 48 (fun _ => [.ref p0, .ref p1, .int p2, .int p3, .int p4, .int p5]) [(p0, 2), (p1, 12)] S (f_X2_add S p0 p1 p2 p3 p4 p5) oV sV := by
  refine Ct_of RX2 rfl (by decide) (fun _ => Nat.le_of_ble_eq_true rfl) 0 (vs := fun _ => [some (.ref p0), some (.ref p1), some (.int p2), some (.int p3), some (.int p4), some (.int p5)]) (fun _ => rfl) (fun C X E hr ht => ?_)
  have t0_ : tT C p0 2 := ht (p0, 2) (by simp)
  have t1_ : tT C p1 12 := ht (p1, 12) (by simp)
  show Jd C 6 (QJ C oV sV) S 0 [some (.ref p0), some (.ref p1), some (.int p2), some (.int p3), some (.int p4), some (.int p5)] [] (f_X2_add S p0 p1 p2 p3 p4 p5)
  unfold f_X2_add
  refine s_run X ok_X2_add 0 1 (pc' := 1) (vs' := [some (.ref p0), some (.ref p1), some (.int p2), some (.int p3), some (.int p4), some (.int p5)]) (st' := [.ref p0]) rfl ?_
  refine s_getI X fl_X2_44 t0_ (dk okd_X2_add 0 rfl) (fun v1 => ?_)
  refine s_run X ok_X2_add 1 1 (pc' := 6) (vs' := [some (.ref p0), some (.ref p1), some (.int p2), some (.int p3), some (.int p4), some (.int p5)]) (st' := [.int 8, .int v1]) rfl ?_
  refine s_icmp_ge (tgt := 31) X (dk okd_X2_add 1 rfl) (by decide) ?_ ?_
  · exact s_vret X hr (dk okd_X2_add 7 rfl) rfl rfl
  · refine s_run X ok_X2_add 2 1 (pc' := 10) (vs' := [some (.ref p0), some (.ref p1), some (.int p2), some (.int p3), some (.int p4), some (.int p5)]) (st' := [.int p3]) rfl ?_
    refine s_if_lt (tgt := 31) X (dk okd_X2_add 2 rfl) (by decide) ?_ ?_
    · exact s_vret X hr (dk okd_X2_add 7 rfl) rfl rfl
    · refine s_run X ok_X2_add 3 2 (pc' := 16) (vs' := [some (.ref p0), some (.ref p1), some (.int p2), some (.int p3), some (.int p4), some (.int p5)]) (st' := [.int 10, .int p3]) rfl ?_
      refine s_icmp_gt (tgt := 31) X (dk okd_X2_add 3 rfl) (by decide) ?_ ?_
      · exact s_vret X hr (dk okd_X2_add 7 rfl) rfl rfl
      · refine s_run X ok_X2_add 5 1 (pc' := 20) (vs' := [some (.ref p0), some (.ref p1), some (.int p2), some (.int p3), some (.int p4), some (.int p5)]) (st' := [.int p2]) rfl ?_
        refine s_if_lt (tgt := 31) X (dk okd_X2_add 4 rfl) (by decide) ?_ ?_
        · exact s_vret X hr (dk okd_X2_add 7 rfl) rfl rfl
        · refine s_run X ok_X2_add 6 2 (pc' := 25) (vs' := [some (.ref p0), some (.ref p1), some (.int p2), some (.int p3), some (.int p4), some (.int p5)]) (st' := [.ref p1, .int p2]) rfl ?_
          refine s_alen12 X t1_ (dk okd_X2_add 5 rfl) (fun v2 => ?_)
          refine s_run X ok_X2_add 8 2 (pc' := 28) (vs' := [some (.ref p0), some (.ref p1), some (.int p2), some (.int p3), some (.int p4), some (.int p5)]) (st' := [.int (v2 - p3), .int p2]) rfl ?_
          refine s_icmp_le (tgt := 32) X (dk okd_X2_add 6 rfl) (by decide) ?_ ?_
          · refine s_run X ok_X2_add 10 3 (pc' := 35) (vs' := [some (.ref p0), some (.ref p1), some (.int p2), some (.int p3), some (.int p4), some (.int p5)]) (st' := [.ref p0, .int p2, .ref p1]) rfl ?_
            refine s_getR X fl_X2_9 t0_ (dk okd_X2_add 8 rfl) (fun a3 (t4 : tT C a3 12) => ?_)
            refine s_run X ok_X2_add 13 1 (pc' := 39) (vs' := [some (.ref p0), some (.ref p1), some (.int p2), some (.int p3), some (.int p4), some (.int p5)]) (st' := [.ref p0, .ref a3, .int p2, .ref p1]) rfl ?_
            refine s_getI X fl_X2_44 t0_ (dk okd_X2_add 9 rfl) (fun v5 => ?_)
            refine s_run X ok_X2_add 14 3 (pc' := 46) (vs' := [some (.ref p0), some (.ref p1), some (.int p2), some (.int p3), some (.int p4), some (.int p5)]) (st' := [.int p3, .int (v5 * 10), .ref a3, .int p2, .ref p1]) rfl ?_
            refine s_copyB X mm_X2_38 t1_ t4 (Nat.le_of_ble_eq_true rfl) (Nat.le_of_ble_eq_true rfl) (dk okd_X2_add 10 rfl) (fun S6 => ?_)
            refine s_run X ok_X2_add 17 1 (pc' := 50) (vs' := [some (.ref p0), some (.ref p1), some (.int p2), some (.int p3), some (.int p4), some (.int p5)]) (st' := [.ref p0]) rfl ?_
            refine s_getR X fl_X2_15 t0_ (dk okd_X2_add 11 rfl) (fun a7 (t8 : tT C a7 13) => ?_)
            refine s_run X ok_X2_add 18 1 (pc' := 54) (vs' := [some (.ref p0), some (.ref p1), some (.int p2), some (.int p3), some (.int p4), some (.int p5)]) (st' := [.ref p0, .ref a7]) rfl ?_
            refine s_getI X fl_X2_44 t0_ (dk okd_X2_add 12 rfl) (fun v9 => ?_)
            refine s_run X ok_X2_add 19 1 (pc' := 58) (vs' := [some (.ref p0), some (.ref p1), some (.int p2), some (.int p3), some (.int p4), some (.int p5)]) (st' := [.int p3, .int v9, .ref a7]) rfl ?_
            refine s_iast X t8 (dk okd_X2_add 13 rfl) (fun S10 => ?_)
            refine s_run X ok_X2_add 20 1 (pc' := 60) (vs' := [some (.ref p0), some (.ref p1), some (.int p2), some (.int p3), some (.int p4), some (.int p5)]) (st' := [.ref p0]) rfl ?_
            refine s_getR X fl_X2_19 t0_ (dk okd_X2_add 14 rfl) (fun a11 (t12 : tT C a11 13) => ?_)
            refine s_run X ok_X2_add 21 1 (pc' := 64) (vs' := [some (.ref p0), some (.ref p1), some (.int p2), some (.int p3), some (.int p4), some (.int p5)]) (st' := [.ref p0, .ref a11]) rfl ?_
            refine s_getI X fl_X2_44 t0_ (dk okd_X2_add 15 rfl) (fun v13 => ?_)
            refine s_run X ok_X2_add 22 1 (pc' := 69) (vs' := [some (.ref p0), some (.ref p1), some (.int p2), some (.int p3), some (.int p4), some (.int p5)]) (st' := [.int p4, .int v13, .ref a11]) rfl ?_
            refine s_iast X t12 (dk okd_X2_add 16 rfl) (fun S14 => ?_)
            refine s_run X ok_X2_add 23 1 (pc' := 71) (vs' := [some (.ref p0), some (.ref p1), some (.int p2), some (.int p3), some (.int p4), some (.int p5)]) (st' := [.ref p0]) rfl ?_
            refine s_getR X fl_X2_22 t0_ (dk okd_X2_add 17 rfl) (fun a15 (t16 : tT C a15 13) => ?_)
            refine s_run X ok_X2_add 24 1 (pc' := 75) (vs' := [some (.ref p0), some (.ref p1), some (.int p2), some (.int p3), some (.int p4), some (.int p5)]) (st' := [.ref p0, .ref a15]) rfl ?_
            refine s_getI X fl_X2_44 t0_ (dk okd_X2_add 18 rfl) (fun v17 => ?_)
            refine s_run X ok_X2_add 25 1 (pc' := 80) (vs' := [some (.ref p0), some (.ref p1), some (.int p2), some (.int p3), some (.int p4), some (.int p5)]) (st' := [.int p5, .int v17, .ref a15]) rfl ?_
            refine s_iast X t16 (dk okd_X2_add 19 rfl) (fun S18 => ?_)
            refine s_run X ok_X2_add 26 1 (pc' := 82) (vs' := [some (.ref p0), some (.ref p1), some (.int p2), some (.int p3), some (.int p4), some (.int p5)]) (st' := [.ref p0]) rfl ?_
            refine s_getR X fl_X2_25 t0_ (dk okd_X2_add 20 rfl) (fun a19 (t20 : tT C a19 13) => ?_)
            refine s_run X ok_X2_add 27 1 (pc' := 86) (vs' := [some (.ref p0), some (.ref p1), some (.int p2), some (.int p3), some (.int p4), some (.int p5)]) (st' := [.ref p0, .ref a19]) rfl ?_
            refine s_getI X fl_X2_44 t0_ (dk okd_X2_add 21 rfl) (fun v21 => ?_)
            refine s_run X ok_X2_add 28 1 (pc' := 90) (vs' := [some (.ref p0), some (.ref p1), some (.int p2), some (.int p3), some (.int p4), some (.int p5)]) (st' := [.int 0, .int v21, .ref a19]) rfl ?_
            refine s_iast X t20 (dk okd_X2_add 22 rfl) (fun S22 => ?_)
            refine s_run X ok_X2_add 29 1 (pc' := 92) (vs' := [some (.ref p0), some (.ref p1), some (.int p2), some (.int p3), some (.int p4), some (.int p5)]) (st' := [.ref p0]) rfl ?_
            refine s_getR X fl_X2_28 t0_ (dk okd_X2_add 23 rfl) (fun a23 (t24 : tT C a23 13) => ?_)
            refine s_run X ok_X2_add 30 1 (pc' := 96) (vs' := [some (.ref p0), some (.ref p1), some (.int p2), some (.int p3), some (.int p4), some (.int p5)]) (st' := [.ref p0, .ref a23]) rfl ?_
            refine s_getI X fl_X2_44 t0_ (dk okd_X2_add 24 rfl) (fun v25 => ?_)
            refine s_run X ok_X2_add 31 1 (pc' := 100) (vs' := [some (.ref p0), some (.ref p1), some (.int p2), some (.int p3), some (.int p4), some (.int p5)]) (st' := [.int 0, .int v25, .ref a23]) rfl ?_
            refine s_iast X t24 (dk okd_X2_add 25 rfl) (fun S26 => ?_)
            refine s_run X ok_X2_add 32 1 (pc' := 102) (vs' := [some (.ref p0), some (.ref p1), some (.int p2), some (.int p3), some (.int p4), some (.int p5)]) (st' := [.ref p0]) rfl ?_
            refine s_getR X fl_X2_31 t0_ (dk okd_X2_add 26 rfl) (fun a27 (t28 : tT C a27 13) => ?_)
            refine s_run X ok_X2_add 33 1 (pc' := 106) (vs' := [some (.ref p0), some (.ref p1), some (.int p2), some (.int p3), some (.int p4), some (.int p5)]) (st' := [.ref p0, .ref a27]) rfl ?_
            refine s_getI X fl_X2_44 t0_ (dk okd_X2_add 27 rfl) (fun v29 => ?_)
            refine s_run X ok_X2_add 34 1 (pc' := 110) (vs' := [some (.ref p0), some (.ref p1), some (.int p2), some (.int p3), some (.int p4), some (.int p5)]) (st' := [.int 0, .int v29, .ref a27]) rfl ?_
            refine s_iast X t28 (dk okd_X2_add 28 rfl) (fun S30 => ?_)
            refine s_run X ok_X2_add 35 1 (pc' := 112) (vs' := [some (.ref p0), some (.ref p1), some (.int p2), some (.int p3), some (.int p4), some (.int p5)]) (st' := [.ref p0]) rfl ?_
            refine s_getR X fl_X2_34 t0_ (dk okd_X2_add 29 rfl) (fun a31 (t32 : tT C a31 14) => ?_)
            refine s_run X ok_X2_add 36 1 (pc' := 116) (vs' := [some (.ref p0), some (.ref p1), some (.int p2), some (.int p3), some (.int p4), some (.int p5)]) (st' := [.ref p0, .ref a31]) rfl ?_
            refine s_getI X fl_X2_44 t0_ (dk okd_X2_add 30 rfl) (fun v33 => ?_)
            refine s_run X ok_X2_add 37 1 (pc' := 120) (vs' := [some (.ref p0), some (.ref p1), some (.int p2), some (.int p3), some (.int p4), some (.int p5)]) (st' := [.long 0, .int v33, .ref a31]) rfl ?_
            refine s_last X t32 (dk okd_X2_add 31 rfl) (fun S34 => ?_)
            refine s_run X ok_X2_add 38 2 (pc' := 123) (vs' := [some (.ref p0), some (.ref p1), some (.int p2), some (.int p3), some (.int p4), some (.int p5)]) (st' := [.ref p0, .ref p0]) rfl ?_
            refine s_getI X fl_X2_44 t0_ (dk okd_X2_add 32 rfl) (fun v35 => ?_)
            refine s_run X ok_X2_add 40 2 (pc' := 128) (vs' := [some (.ref p0), some (.ref p1), some (.int p2), some (.int p3), some (.int p4), some (.int p5)]) (st' := [.int (v35 + 1), .ref p0]) rfl ?_
            refine s_putI X fp_X2_44 t0_ (dk okd_X2_add 33 rfl) (fun S36 => ?_)
            exact s_vret X hr (dk okd_X2_add 34 rfl) rfl rfl
          · exact s_vret X hr (dk okd_X2_add 7 rfl) rfl rfl
def tab_X2_hasLetters : List En := [(0, 8, 0, 0), (4, 4, 1, 0), (6, 11, 4, 0), (8, 4, 3, 0), (12, 4, 3, 0), (13, 8, 2, 0), (15, 5, 4, 0), (17, 18, 0, 0), (21, 0, 0, 0), (23, 0, 0, 0), (24, 11, 5, 0), (26, 5, 5, 0), (28, 5, 4, 0), (33, 8, 0, 0), (37, 4, 1, 0), (38, 1, 0, 10), (40, 19, 0, 0), (41, 5, 5, 0), (43, 17, 0, 0), (45, 8, 2, 0), (46, 4, 3, 0), (47, 5, 5, 0), (49, 17, 0, 0), (54, 0, 0, 0), (56, 16, 5, 1), (59, 41, 26, 0), (62, 0, 0, 1)]
theorem ok_X2_hasLetters : tab_X2_hasLetters.all (okE cX2_hasLetters) = true := by decide +kernel
def ed_X2_hasLetters : List (Nat × Instr × Nat) := [(1, .getfield 15, 3), (5, .iaload, 1), (9, .ifCond .lt 12, 3), (14, .arraylength, 1), (18, .if_icmp .le 5, 3), (22, .ireturn, 1), (30, .if_icmp .ge 32, 3), (34, .getfield 9, 3), (44, .baload, 1), (50, .baload, 1), (51, .if_icmp .eq 5, 3), (55, .ireturn, 1), (63, .ireturn, 1)]
theorem okd_X2_hasLetters : ed_X2_hasLetters.all (okD cX2_hasLetters) = true := by decide +kernel
def f_X2_hasLetters (S : St) (p0 : Nat) (p1 : Int32) (p2 : Nat) (p3 : Int32) : Option (Int32) := lt (gR S p0 1) fun (a1 : Nat) => ldI S a1 p1 fun (v3 : Int32) => if p3 < 0 then (some 0) else (lt (nI (gN S p2)) fun (v4 : Int32) => if p3 ≤ (v4 - v3) then (lp (κ := Int32 → Option (Int32)) (fun _ => none) (fun k6 x5 => if v3 ≤ x5 then (some 1) else (lt (gR S p0 0) fun (a8 : Nat) => ldI S a8 ((p1 * 10) + x5) fun (v10 : Int32) => ldI S p2 (p3 + x5) fun (v11 : Int32) => if v10 = v11 then (k6 (x5 + 1)) else (some 0))) FU 0) else (some 0))
set_option maxHeartbeats 4000000 in
set_option maxRecDepth 100000 in
theorem c_X2_hasLetters (S : St) (p0 : Nat) (p1 : Int32) (p2 : Nat) (p3 : Int32) : Ct yX2_hasLetters cX2_hasLetters 6 (some .boolean) 0 0 (fun _ => [.ref p0, .int p1, .ref p2, .int p3]) [(p0, 2), (p2, 12)] S (f_X2_hasLetters S p0 p1 p2 p3) oI (fun _ => S) := by
  refine Ct_of RX2 rfl (by decide) (fun _ => Nat.le_of_ble_eq_true rfl) 2 (vs := fun _ => [some (.ref p0), some (.int p1), some (.ref p2), some (.int p3), none, none]) (fun _ => rfl) (fun C X E hr ht => ?_)
  have t0_ : tT C p0 2 := ht (p0, 2) (by simp)
  have t2_ : tT C p2 12 := ht (p2, 12) (by simp)
  show Jd C 6 (QJ C oI (fun _ => S)) S 0 [some (.ref p0), some (.int p1), some (.ref p2), some (.int p3), none, none] [] (f_X2_hasLetters S p0 p1 p2 p3)
  unfold f_X2_hasLetters
  refine s_run X ok_X2_hasLetters 0 1 (pc' := 1) (vs' := [some (.ref p0), some (.int p1), some (.ref p2), some (.int p3), none, none]) (st' := [.ref p0]) rfl ?_
  refine s_getR X fl_X2_15 t0_ (dk okd_X2_hasLetters 0 rfl) (fun a1 (t2 : tT C a1 13) => ?_)
  refine s_run X ok_X2_hasLetters 1 1 (pc' := 5) (vs' := [some (.ref p0), some (.int p1), some (.ref p2), some (.int p3), none, none]) (st' := [.int p1, .ref a1]) rfl ?_
  refine s_iald X t2 (dk okd_X2_hasLetters 1 rfl) (fun v3 => ?_)
  refine s_run X ok_X2_hasLetters 2 2 (pc' := 9) (vs' := [some (.ref p0), some (.int p1), some (.ref p2), some (.int p3), some (.int v3), none]) (st' := [.int p3]) rfl ?_
  refine s_if_lt (tgt := 21) X (dk okd_X2_hasLetters 2 rfl) (by decide) ?_ ?_
  · refine s_run X ok_X2_hasLetters 8 1 (pc' := 22) (vs' := [some (.ref p0), some (.int p1), some (.ref p2), some (.int p3), some (.int v3), none]) (st' := [.int 0]) rfl ?_
    exact s_zret0 X hr (dk okd_X2_hasLetters 5 rfl) (by decide) rfl rfl
  · refine s_run X ok_X2_hasLetters 4 2 (pc' := 14) (vs' := [some (.ref p0), some (.int p1), some (.ref p2), some (.int p3), some (.int v3), none]) (st' := [.ref p2, .int p3]) rfl ?_
    refine s_alen12 X t2_ (dk okd_X2_hasLetters 3 rfl) (fun v4 => ?_)
    refine s_run X ok_X2_hasLetters 6 2 (pc' := 18) (vs' := [some (.ref p0), some (.int p1), some (.ref p2), some (.int p3), some (.int v3), none]) (st' := [.int (v4 - v3), .int p3]) rfl ?_
    refine s_icmp_le (tgt := 23) X (dk okd_X2_hasLetters 4 rfl) (by decide) ?_ ?_
    · refine s_run X ok_X2_hasLetters 9 2 (pc' := 26) (vs' := [some (.ref p0), some (.int p1), some (.ref p2), some (.int p3), some (.int v3), some (.int 0)]) (st' := []) rfl ?_
      refine s_lp (κ := Int32 → Option (Int32)) (fun k6 => ∀ (x5 : Int32), Jd C 6 (QJ C oI (fun _ => S)) S 26 [some (.ref p0), some (.int p1), some (.ref p2), some (.int p3), some (.int v3), some (.int x5)] [] (k6 x5)) (fun _ => s_none) (fun k6 h7 x5 => ?_) FU 0
      refine s_run X ok_X2_hasLetters 11 2 (pc' := 30) (vs' := [some (.ref p0), some (.int p1), some (.ref p2), some (.int p3), some (.int v3), some (.int x5)]) (st' := [.int v3, .int x5]) rfl ?_
      refine s_icmp_ge (tgt := 62) X (dk okd_X2_hasLetters 6 rfl) (by decide) ?_ ?_
      · refine s_run X ok_X2_hasLetters 26 1 (pc' := 63) (vs' := [some (.ref p0), some (.int p1), some (.ref p2), some (.int p3), some (.int v3), some (.int x5)]) (st' := [.int 1]) rfl ?_
        exact s_zret0 X hr (dk okd_X2_hasLetters 12 rfl) (by decide) rfl rfl
      · refine s_run X ok_X2_hasLetters 13 1 (pc' := 34) (vs' := [some (.ref p0), some (.int p1), some (.ref p2), some (.int p3), some (.int v3), some (.int x5)]) (st' := [.ref p0]) rfl ?_
        refine s_getR X fl_X2_9 t0_ (dk okd_X2_hasLetters 7 rfl) (fun a8 (t9 : tT C a8 12) => ?_)
        refine s_run X ok_X2_hasLetters 14 5 (pc' := 44) (vs' := [some (.ref p0), some (.int p1), some (.ref p2), some (.int p3), some (.int v3), some (.int x5)]) (st' := [.int ((p1 * 10) + x5), .ref a8]) rfl ?_
        refine s_bald X t9 (dk okd_X2_hasLetters 8 rfl) (fun v10 => ?_)
        refine s_run X ok_X2_hasLetters 19 4 (pc' := 50) (vs' := [some (.ref p0), some (.int p1), some (.ref p2), some (.int p3), some (.int v3), some (.int x5)]) (st' := [.int (p3 + x5), .ref p2, .int v10]) rfl ?_
        refine s_bald X t2_ (dk okd_X2_hasLetters 9 rfl) (fun v11 => ?_)
        refine s_icmp_eq (tgt := 56) X (dk okd_X2_hasLetters 10 rfl) (by decide) ?_ ?_
        · refine s_run X ok_X2_hasLetters 24 2 (pc' := 26) (vs' := [some (.ref p0), some (.int p1), some (.ref p2), some (.int p3), some (.int v3), some (.int (x5 + 1))]) (st' := []) rfl ?_
          exact h7 (x5 + 1)
        · refine s_run X ok_X2_hasLetters 23 1 (pc' := 55) (vs' := [some (.ref p0), some (.int p1), some (.ref p2), some (.int p3), some (.int v3), some (.int x5)]) (st' := [.int 0]) rfl ?_
          exact s_zret0 X hr (dk okd_X2_hasLetters 11 rfl) (by decide) rfl rfl
    · refine s_run X ok_X2_hasLetters 8 1 (pc' := 22) (vs' := [some (.ref p0), some (.int p1), some (.ref p2), some (.int p3), some (.int v3), none]) (st' := [.int 0]) rfl ?_
      exact s_zret0 X hr (dk okd_X2_hasLetters 5 rfl) (by decide) rfl rfl
def tab_X2_lowerBalance : List En := [(0, 8, 0, 0), (4, 4, 1, 0), (5, 37, 0, 0), (7, 6, 2, 0), (8, 24, 0, 0), (10, 8, 0, 0), (14, 4, 1, 0)]
theorem ok_X2_lowerBalance : tab_X2_lowerBalance.all (okE cX2_lowerBalance) = true := by decide +kernel
def ed_X2_lowerBalance : List (Nat × Instr × Nat) := [(1, .getfield 34, 3), (6, .laload, 1), (9, .lastore, 1), (11, .getfield 34, 3), (15, .laload, 1), (16, .lreturn, 1)]
theorem okd_X2_lowerBalance : ed_X2_lowerBalance.all (okD cX2_lowerBalance) = true := by decide +kernel
def f_X2_lowerBalance (S : St) (p0 : Nat) (p1 : Int32) (p2 : Int64) : Option (Int64 × St) := lt (gR S p0 7) fun (a1 : Nat) => ldJ S a1 p1 fun (v3 : Int64) => stJ S a1 p1 (v3 - p2) fun (S4 : St) => lt (gR S4 p0 7) fun (a5 : Nat) => ldJ S4 a5 p1 fun (v7 : Int64) => some (v7, S4)
set_option maxHeartbeats 4000000 in
set_option maxRecDepth 100000 in
theorem c_X2_lowerBalance (S : St) (p0 : Nat) (p1 : Int32) (p2 : Int64) : Ct yX2_lowerBalance cX2_lowerBalance 4 (some .long) 0 0 (fun _ => [.ref p0, .int p1, .long p2]) [(p0, 2)] S (f_X2_lowerBalance S p0 p1 p2) oLS sL := by
  refine Ct_of RX2 rfl (by decide) (fun _ => Nat.le_of_ble_eq_true rfl) 0 (vs := fun _ => [some (.ref p0), some (.int p1), some (.long p2), none]) (fun _ => rfl) (fun C X E hr ht => ?_)
  have t0_ : tT C p0 2 := ht (p0, 2) (by simp)
  show Jd C 4 (QJ C oLS sL) S 0 [some (.ref p0), some (.int p1), some (.long p2), none] [] (f_X2_lowerBalance S p0 p1 p2)
  unfold f_X2_lowerBalance
  refine s_run X ok_X2_lowerBalance 0 1 (pc' := 1) (vs' := [some (.ref p0), some (.int p1), some (.long p2), none]) (st' := [.ref p0]) rfl ?_
  refine s_getR X fl_X2_34 t0_ (dk okd_X2_lowerBalance 0 rfl) (fun a1 (t2 : tT C a1 14) => ?_)
  refine s_run X ok_X2_lowerBalance 1 2 (pc' := 6) (vs' := [some (.ref p0), some (.int p1), some (.long p2), none]) (st' := [.int p1, .ref a1, .int p1, .ref a1]) rfl ?_
  refine s_lald X t2 (dk okd_X2_lowerBalance 1 rfl) (fun v3 => ?_)
  refine s_run X ok_X2_lowerBalance 3 2 (pc' := 9) (vs' := [some (.ref p0), some (.int p1), some (.long p2), none]) (st' := [.long (v3 - p2), .int p1, .ref a1]) rfl ?_
  refine s_last X t2 (dk okd_X2_lowerBalance 2 rfl) (fun S4 => ?_)
  refine s_run X ok_X2_lowerBalance 5 1 (pc' := 11) (vs' := [some (.ref p0), some (.int p1), some (.long p2), none]) (st' := [.ref p0]) rfl ?_
  refine s_getR X fl_X2_34 t0_ (dk okd_X2_lowerBalance 3 rfl) (fun a5 (t6 : tT C a5 14) => ?_)
  refine s_run X ok_X2_lowerBalance 6 1 (pc' := 15) (vs' := [some (.ref p0), some (.int p1), some (.long p2), none]) (st' := [.int p1, .ref a5]) rfl ?_
  refine s_lald X t6 (dk okd_X2_lowerBalance 4 rfl) (fun v7 => ?_)
  exact s_lret X hr (dk okd_X2_lowerBalance 5 rfl) rfl rfl
def tab_X2_owedBy : List En := [(0, 8, 0, 0), (4, 4, 1, 0), (6, 3, 0, 0)]
theorem ok_X2_owedBy : tab_X2_owedBy.all (okE cX2_owedBy) = true := by decide +kernel
def ed_X2_owedBy : List (Nat × Instr × Nat) := [(1, .getfield 34, 3), (5, .laload, 1), (7, .invokestatic 56, 3), (10, .lreturn, 1)]
theorem okd_X2_owedBy : ed_X2_owedBy.all (okD cX2_owedBy) = true := by decide +kernel
def f_X2_owedBy (S : St) (p0 : Nat) (p1 : Int32) : Option (Int64) := lt (gR S p0 7) fun (a1 : Nat) => ldJ S a1 p1 fun (v3 : Int64) => lt (if 0 < v3 then v3 else 0) fun (v4 : Int64) => some v4
set_option maxHeartbeats 4000000 in
set_option maxRecDepth 100000 in
theorem c_X2_owedBy (S : St) (p0 : Nat) (p1 : Int32) : Ct yX2_owedBy cX2_owedBy 2 (some .long) 1 23 (fun _ => [.ref p0, .int p1]) [(p0, 2)] S (f_X2_owedBy S p0 p1) oL (fun _ => S) := by
  refine Ct_of RX2 rfl (by decide) (fun _ => Nat.le_of_ble_eq_true rfl) 0 (vs := fun _ => [some (.ref p0), some (.int p1)]) (fun _ => rfl) (fun C X E hr ht => ?_)
  have t0_ : tT C p0 2 := ht (p0, 2) (by simp)
  show Jd C 2 (QJ C oL (fun _ => S)) S 0 [some (.ref p0), some (.int p1)] [] (f_X2_owedBy S p0 p1)
  unfold f_X2_owedBy
  refine s_run X ok_X2_owedBy 0 1 (pc' := 1) (vs' := [some (.ref p0), some (.int p1)]) (st' := [.ref p0]) rfl ?_
  refine s_getR X fl_X2_34 t0_ (dk okd_X2_owedBy 0 rfl) (fun a1 (t2 : tT C a1 14) => ?_)
  refine s_run X ok_X2_owedBy 1 1 (pc' := 5) (vs' := [some (.ref p0), some (.int p1)]) (st' := [.int p1, .ref a1]) rfl ?_
  refine s_lald X t2 (dk okd_X2_owedBy 1 rfl) (fun v3 => ?_)
  refine s_run X ok_X2_owedBy 2 1 (pc' := 7) (vs' := [some (.ref p0), some (.int p1)]) (st' := [.long 0, .long v3]) rfl ?_
  refine s_MmaxJ X mm_X2_56 (Nat.le_of_ble_eq_true rfl) (Nat.le_of_ble_eq_true rfl) (dk okd_X2_owedBy 2 rfl) (fun v4 => ?_)
  exact s_lret X hr (dk okd_X2_owedBy 3 rfl) rfl rfl
def tab_X2_owedTogether : List En := [(0, 3, 0, 0), (1, 12, 1, 0), (2, 0, 0, 0), (3, 10, 3, 0), (4, 4, 3, 0), (5, 8, 0, 0), (12, 6, 1, 0), (13, 8, 0, 0), (14, 4, 3, 0), (18, 23, 0, 0), (19, 12, 1, 0), (20, 16, 3, 1), (23, 41, 4, 0), (26, 6, 1, 0)]
theorem ok_X2_owedTogether : tab_X2_owedTogether.all (okE cX2_owedTogether) = true := by decide +kernel
def ed_X2_owedTogether : List (Nat × Instr × Nat) := [(6, .getfield 44, 3), (9, .if_icmp .ge 17, 3), (15, .invokevirtual 62, 3), (27, .lreturn, 1)]
theorem okd_X2_owedTogether : ed_X2_owedTogether.all (okD cX2_owedTogether) = true := by decide +kernel
def f_X2_owedTogether (S : St) (p0 : Nat) : Option (Int64) := jn (κ := Int64 → Option (Int64)) (fun x1 => some x1) fun k2 => lp (κ := Int64 → Int32 → Option (Int64)) (fun _ _ => none) (fun k6 x4 x5 => lt (gI S p0 8) fun (v8 : Int32) => if v8 ≤ x5 then (k2 x4) else (cl (f_X2_owedBy S p0 x5) fun (v9 : Int64) => lt (x4 + v9) fun (v10 : Int64) => k6 v10 (x5 + 1))) FU 0 0
set_option maxHeartbeats 4000000 in
set_option maxRecDepth 100000 in
theorem c_X2_owedTogether (S : St) (p0 : Nat) : Ct yX2_owedTogether cX2_owedTogether 4 (some .long) 2 44 (fun _ => [.ref p0]) [(p0, 2)] S (f_X2_owedTogether S p0) oL (fun _ => S) := by
  refine Ct_of RX2 rfl (by decide) (fun _ => Nat.le_of_ble_eq_true rfl) 3 (vs := fun _ => [some (.ref p0), none, none, none]) (fun _ => rfl) (fun C X E hr ht => ?_)
  have t0_ : tT C p0 2 := ht (p0, 2) (by simp)
  show Jd C 4 (QJ C oL (fun _ => S)) S 0 [some (.ref p0), none, none, none] [] (f_X2_owedTogether S p0)
  unfold f_X2_owedTogether
  refine s_run X ok_X2_owedTogether 0 4 (pc' := 4) (vs' := [some (.ref p0), some (.long 0), none, some (.int 0)]) (st' := []) rfl ?_
  refine s_jn (κ := Int64 → Option (Int64)) (fun k2 => ∀ (x1 : Int64), Jd C 4 (QJ C oL (fun _ => S)) S 26 [none, some (.long x1), none, none] [] (k2 x1)) (fun x1 => ?_) (fun k2 h3 => ?_)
  · refine s_run X ok_X2_owedTogether 13 1 (pc' := 27) (vs' := [none, some (.long x1), none, none]) (st' := [.long x1]) rfl ?_
    exact s_lret X hr (dk okd_X2_owedTogether 3 rfl) rfl rfl
  · refine s_lp (κ := Int64 → Int32 → Option (Int64)) (fun k6 => ∀ (x4 : Int64) (x5 : Int32), Jd C 4 (QJ C oL (fun _ => S)) S 4 [some (.ref p0), some (.long x4), none, some (.int x5)] [] (k6 x4 x5)) (fun _ _ => s_none) (fun k6 h7 x4 x5 => ?_) FU 0 0
    refine s_run X ok_X2_owedTogether 4 2 (pc' := 6) (vs' := [some (.ref p0), some (.long x4), none, some (.int x5)]) (st' := [.ref p0, .int x5]) rfl ?_
    refine s_getI X fl_X2_44 t0_ (dk okd_X2_owedTogether 0 rfl) (fun v8 => ?_)
    refine s_icmp_ge (tgt := 26) X (dk okd_X2_owedTogether 1 rfl) (by decide) ?_ ?_
    · exact s_less [false, true, false, false] rfl (h3 x4)
    · refine s_run X ok_X2_owedTogether 6 3 (pc' := 15) (vs' := [some (.ref p0), some (.long x4), none, some (.int x5)]) (st' := [.int x5, .ref p0, .long x4]) rfl ?_
      refine s_callV (b := p0) (As := [.int x5]) (rest := [.long x4]) X E mv_X2_62 (c_X2_owedBy S p0 x5) rfl (ta1 t0_) rfl (by decide) t0_ rfl rfl (Nat.le_of_ble_eq_true rfl) (Nat.le_of_ble_eq_true rfl) (Nat.le_of_ble_eq_true rfl) (dk okd_X2_owedTogether 2 rfl) (st' := fun v9 => [.long v9, .long x4]) (fun _ => rfl) (fun v9 => ?_)
      refine s_run X ok_X2_owedTogether 9 1 (pc' := 19) (vs' := [some (.ref p0), some (.long x4), none, some (.int x5)]) (st' := [.long (x4 + v9)]) rfl ?_
      refine s_nmJ (fun v10 => ?_)
      refine s_run X ok_X2_owedTogether 10 3 (pc' := 4) (vs' := [some (.ref p0), some (.long v10), none, some (.int (x5 + 1))]) (st' := []) rfl ?_
      exact h7 v10 (x5 + 1)
def tab_X3_contains : List En := [(0, 4, 0, 0), (4, 4, 0, 0), (5, 1, 0, 30), (10, 4, 1, 0), (14, 4, 1, 0), (15, 1, 0, 30), (20, 0, 0, 1), (21, 41, 25, 0), (24, 0, 0, 0)]
theorem ok_X3_contains : tab_X3_contains.all (okE cX3_contains) = true := by decide +kernel
def ed_X3_contains : List (Nat × Instr × Nat) := [(1, .ifCond .lt 23, 3), (7, .if_icmp .ge 17, 3), (11, .ifCond .lt 13, 3), (17, .if_icmp .ge 7, 3), (25, .ireturn, 1)]
theorem okd_X3_contains : ed_X3_contains.all (okD cX3_contains) = true := by decide +kernel
def f_X3_contains (S : St) (p0 : Int32) (p1 : Int32) : Option (Int32) := jn (κ := Option (Int32)) (some 0) fun k1 => if p0 < 0 then (k1) else (if 30 ≤ p0 then (k1) else (if p1 < 0 then (k1) else (if 30 ≤ p1 then (k1) else (some 1))))
set_option maxHeartbeats 4000000 in
set_option maxRecDepth 100000 in
theorem c_X3_contains (S : St) (p0 : Int32) (p1 : Int32) : Ct yX3_contains cX3_contains 2 (some .boolean) 0 0 (fun _ => [.int p0, .int p1]) [] S (f_X3_contains S p0 p1) oI (fun _ => S) := by
  refine Ct_of RX3 rfl (by decide) (fun _ => Nat.le_of_ble_eq_true rfl) 0 (vs := fun _ => [some (.int p0), some (.int p1)]) (fun _ => rfl) (fun C X E hr ht => ?_)
  show Jd C 2 (QJ C oI (fun _ => S)) S 0 [some (.int p0), some (.int p1)] [] (f_X3_contains S p0 p1)
  unfold f_X3_contains
  refine s_run X ok_X3_contains 0 1 (pc' := 1) (vs' := [some (.int p0), some (.int p1)]) (st' := [.int p0]) rfl ?_
  refine s_jn (κ := Option (Int32)) (fun k1 => Jd C 2 (QJ C oI (fun _ => S)) S 24 [none, none] [] k1) ?_ (fun k1 h2 => ?_)
  · refine s_run X ok_X3_contains 8 1 (pc' := 25) (vs' := [none, none]) (st' := [.int 0]) rfl ?_
    exact s_zret0 X hr (dk okd_X3_contains 4 rfl) (by decide) rfl rfl
  · refine s_if_lt (tgt := 24) X (dk okd_X3_contains 0 rfl) (by decide) ?_ ?_
    · exact s_less [false, false] rfl (h2)
    · refine s_run X ok_X3_contains 1 2 (pc' := 7) (vs' := [some (.int p0), some (.int p1)]) (st' := [.int 30, .int p0]) rfl ?_
      refine s_icmp_ge (tgt := 24) X (dk okd_X3_contains 1 rfl) (by decide) ?_ ?_
      · exact s_less [false, false] rfl (h2)
      · refine s_run X ok_X3_contains 3 1 (pc' := 11) (vs' := [some (.int p0), some (.int p1)]) (st' := [.int p1]) rfl ?_
        refine s_if_lt (tgt := 24) X (dk okd_X3_contains 2 rfl) (by decide) ?_ ?_
        · exact s_less [false, false] rfl (h2)
        · refine s_run X ok_X3_contains 4 2 (pc' := 17) (vs' := [some (.int p0), some (.int p1)]) (st' := [.int 30, .int p1]) rfl ?_
          refine s_icmp_ge (tgt := 24) X (dk okd_X3_contains 3 rfl) (by decide) ?_ ?_
          · exact s_less [false, false] rfl (h2)
          · refine s_run X ok_X3_contains 6 2 (pc' := 25) (vs' := [some (.int p0), some (.int p1)]) (st' := [.int 1]) rfl ?_
            exact s_zret0 X hr (dk okd_X3_contains 4 rfl) (by decide) rfl rfl
def tab_X3_steps : List En := [(0, 4, 0, 0), (1, 4, 2, 0), (2, 18, 0, 0), (6, 4, 1, 0), (7, 4, 3, 0), (8, 18, 0, 0), (12, 17, 0, 0)]
theorem ok_X3_steps : tab_X3_steps.all (okE cX3_steps) = true := by decide +kernel
def ed_X3_steps : List (Nat × Instr × Nat) := [(3, .invokestatic 21, 3), (9, .invokestatic 21, 3), (13, .ireturn, 1)]
theorem okd_X3_steps : ed_X3_steps.all (okD cX3_steps) = true := by decide +kernel
def f_X3_steps (S : St) (p0 : Int32) (p1 : Int32) (p2 : Int32) (p3 : Int32) : Option (Int32) := lt (if 0 ≤ (p0 - p2) then (p0 - p2) else 0 - (p0 - p2)) fun (v1 : Int32) => lt (if 0 ≤ (p1 - p3) then (p1 - p3) else 0 - (p1 - p3)) fun (v2 : Int32) => some (v1 + v2)
set_option maxHeartbeats 4000000 in
set_option maxRecDepth 100000 in
theorem c_X3_steps (S : St) (p0 : Int32) (p1 : Int32) (p2 : Int32) (p3 : Int32) : Ct yX3_steps cX3_steps 4 (some .int) 1 23 (fun _ => [.int p0, .int p1, .int p2, .int p3]) [] S (f_X3_steps S p0 p1 p2 p3) oI (fun _ => S) := by
  refine Ct_of RX3 rfl (by decide) (fun _ => Nat.le_of_ble_eq_true rfl) 0 (vs := fun _ => [some (.int p0), some (.int p1), some (.int p2), some (.int p3)]) (fun _ => rfl) (fun C X E hr ht => ?_)
  show Jd C 4 (QJ C oI (fun _ => S)) S 0 [some (.int p0), some (.int p1), some (.int p2), some (.int p3)] [] (f_X3_steps S p0 p1 p2 p3)
  unfold f_X3_steps
  refine s_run X ok_X3_steps 0 3 (pc' := 3) (vs' := [some (.int p0), some (.int p1), some (.int p2), some (.int p3)]) (st' := [.int (p0 - p2)]) rfl ?_
  refine s_Mabs X mm_X3_21 (Nat.le_of_ble_eq_true rfl) (Nat.le_of_ble_eq_true rfl) (dk okd_X3_steps 0 rfl) (fun v1 => ?_)
  refine s_run X ok_X3_steps 3 3 (pc' := 9) (vs' := [some (.int p0), some (.int p1), some (.int p2), some (.int p3)]) (st' := [.int (p1 - p3), .int v1]) rfl ?_
  refine s_Mabs X mm_X3_21 (Nat.le_of_ble_eq_true rfl) (Nat.le_of_ble_eq_true rfl) (dk okd_X3_steps 1 rfl) (fun v2 => ?_)
  refine s_run X ok_X3_steps 6 1 (pc' := 13) (vs' := [some (.int p0), some (.int p1), some (.int p2), some (.int p3)]) (st' := [.int (v1 + v2)]) rfl ?_
  exact s_iret X hr (dk okd_X3_steps 2 rfl) rfl rfl
def tab_X3_copyFrom : List En := [(0, 8, 1, 0), (4, 0, 0, 0), (5, 8, 0, 0), (9, 0, 0, 0), (10, 2, 0, 900)]
theorem ok_X3_copyFrom : tab_X3_copyFrom.all (okE cX3_copyFrom) = true := by decide +kernel
def ed_X3_copyFrom : List (Nat × Instr × Nat) := [(1, .getfield 9, 3), (6, .getfield 9, 3), (13, .invokestatic 33, 3), (16, .return_, 1)]
theorem okd_X3_copyFrom : ed_X3_copyFrom.all (okD cX3_copyFrom) = true := by decide +kernel
def f_X3_copyFrom (S : St) (p0 : Nat) (p1 : Nat) : Option (St) := lt (gR S p1 0) fun (a1 : Nat) => lt (gR S p0 0) fun (a3 : Nat) => cpI S a1 0 a3 0 900 fun (S5 : St) => some S5
set_option maxHeartbeats 4000000 in
set_option maxRecDepth 100000 in
theorem c_X3_copyFrom (S : St) (p0 : Nat) (p1 : Nat) : Ct yX3_copyFrom cX3_copyFrom 2 none 1 48 (fun _ => [.ref p0, .ref p1]) [(p0, 3), (p1, 3)] S (f_X3_copyFrom S p0 p1) oV sV := by
  refine Ct_of RX3 rfl (by decide) (fun _ => Nat.le_of_ble_eq_true rfl) 0 (vs := fun _ => [some (.ref p0), some (.ref p1)]) (fun _ => rfl) (fun C X E hr ht => ?_)
  have t0_ : tT C p0 3 := ht (p0, 3) (by simp)
  have t1_ : tT C p1 3 := ht (p1, 3) (by simp)
  show Jd C 2 (QJ C oV sV) S 0 [some (.ref p0), some (.ref p1)] [] (f_X3_copyFrom S p0 p1)
  unfold f_X3_copyFrom
  refine s_run X ok_X3_copyFrom 0 1 (pc' := 1) (vs' := [some (.ref p0), some (.ref p1)]) (st' := [.ref p1]) rfl ?_
  refine s_getR X fl_X3_9 t1_ (dk okd_X3_copyFrom 0 rfl) (fun a1 (t2 : tT C a1 13) => ?_)
  refine s_run X ok_X3_copyFrom 1 2 (pc' := 6) (vs' := [some (.ref p0), some (.ref p1)]) (st' := [.ref p0, .int 0, .ref a1]) rfl ?_
  refine s_getR X fl_X3_9 t0_ (dk okd_X3_copyFrom 1 rfl) (fun a3 (t4 : tT C a3 13) => ?_)
  refine s_run X ok_X3_copyFrom 3 2 (pc' := 13) (vs' := [some (.ref p0), some (.ref p1)]) (st' := [.int 900, .int 0, .ref a3, .int 0, .ref a1]) rfl ?_
  refine s_copyI X mm_X3_33 t2 t4 (Nat.le_of_ble_eq_true rfl) (Nat.le_of_ble_eq_true rfl) (dk okd_X3_copyFrom 2 rfl) (fun S5 => ?_)
  exact s_vret X hr (dk okd_X3_copyFrom 3 rfl) rfl rfl
def tab_X3_ownerAt : List En := [(0, 4, 1, 0), (1, 4, 2, 0), (8, 8, 0, 0), (12, 4, 2, 0), (13, 1, 0, 30), (15, 19, 0, 0), (16, 4, 1, 0), (17, 17, 0, 0), (19, 41, 23, 0), (22, 0, 0, (-1))]
theorem ok_X3_ownerAt : tab_X3_ownerAt.all (okE cX3_ownerAt) = true := by decide +kernel
def ed_X3_ownerAt : List (Nat × Instr × Nat) := [(2, .invokestatic 39, 3), (5, .ifCond .eq 17, 3), (9, .getfield 9, 3), (18, .iaload, 1), (23, .ireturn, 1)]
theorem okd_X3_ownerAt : ed_X3_ownerAt.all (okD cX3_ownerAt) = true := by decide +kernel
def f_X3_ownerAt (S : St) (p0 : Nat) (p1 : Int32) (p2 : Int32) : Option (Int32) := cl (f_X3_contains S p1 p2) fun (v1 : Int32) => if v1 = 0 then (some (-1)) else (lt (gR S p0 0) fun (a2 : Nat) => ldI S a2 ((p2 * 30) + p1) fun (v4 : Int32) => some v4)
set_option maxHeartbeats 4000000 in
set_option maxRecDepth 100000 in
theorem c_X3_ownerAt (S : St) (p0 : Nat) (p1 : Int32) (p2 : Int32) : Ct yX3_ownerAt cX3_ownerAt 3 (some .int) 1 21 (fun _ => [.ref p0, .int p1, .int p2]) [(p0, 3)] S (f_X3_ownerAt S p0 p1 p2) oI (fun _ => S) := by
  refine Ct_of RX3 rfl (by decide) (fun _ => Nat.le_of_ble_eq_true rfl) 0 (vs := fun _ => [some (.ref p0), some (.int p1), some (.int p2)]) (fun _ => rfl) (fun C X E hr ht => ?_)
  have t0_ : tT C p0 3 := ht (p0, 3) (by simp)
  show Jd C 3 (QJ C oI (fun _ => S)) S 0 [some (.ref p0), some (.int p1), some (.int p2)] [] (f_X3_ownerAt S p0 p1 p2)
  unfold f_X3_ownerAt
  refine s_run X ok_X3_ownerAt 0 2 (pc' := 2) (vs' := [some (.ref p0), some (.int p1), some (.int p2)]) (st' := [.int p2, .int p1]) rfl ?_
  refine s_callS (As := [.int p1, .int p2]) (rest := []) X E ms_X3_39 (c_X3_contains S p1 p2) rfl (ta0) rfl rfl (Nat.le_of_ble_eq_true rfl) (Nat.le_of_ble_eq_true rfl) (Nat.le_of_ble_eq_true rfl) (dk okd_X3_ownerAt 0 rfl) (st' := fun v1 => [.int v1]) (fun _ => rfl) (fun v1 => ?_)
  refine s_if_eq (tgt := 22) X (dk okd_X3_ownerAt 1 rfl) (by decide) ?_ ?_
  · refine s_run X ok_X3_ownerAt 9 1 (pc' := 23) (vs' := [some (.ref p0), some (.int p1), some (.int p2)]) (st' := [.int (-1)]) rfl ?_
    exact s_iret X hr (dk okd_X3_ownerAt 4 rfl) rfl rfl
  · refine s_run X ok_X3_ownerAt 2 1 (pc' := 9) (vs' := [some (.ref p0), some (.int p1), some (.int p2)]) (st' := [.ref p0]) rfl ?_
    refine s_getR X fl_X3_9 t0_ (dk okd_X3_ownerAt 2 rfl) (fun a2 (t3 : tT C a2 13) => ?_)
    refine s_run X ok_X3_ownerAt 3 5 (pc' := 18) (vs' := [some (.ref p0), some (.int p1), some (.int p2)]) (st' := [.int ((p2 * 30) + p1), .ref a2]) rfl ?_
    refine s_iald X t3 (dk okd_X3_ownerAt 3 rfl) (fun v4 => ?_)
    refine s_run X ok_X3_ownerAt 8 1 (pc' := 23) (vs' := [some (.ref p0), some (.int p1), some (.int p2)]) (st' := [.int v4]) rfl ?_
    exact s_iret X hr (dk okd_X3_ownerAt 4 rfl) rfl rfl
def tab_X3_belongs : List En := [(0, 4, 2, 0), (1, 4, 3, 0), (8, 8, 0, 0), (12, 4, 3, 0), (13, 1, 0, 30), (15, 19, 0, 0), (16, 4, 2, 0), (17, 17, 0, 0), (19, 4, 1, 0), (23, 0, 0, 1), (24, 41, 28, 0), (27, 0, 0, 0)]
theorem ok_X3_belongs : tab_X3_belongs.all (okE cX3_belongs) = true := by decide +kernel
def ed_X3_belongs : List (Nat × Instr × Nat) := [(2, .invokestatic 39, 3), (5, .ifCond .eq 22, 3), (9, .getfield 9, 3), (18, .iaload, 1), (20, .if_icmp .ne 7, 3), (28, .ireturn, 1)]
theorem okd_X3_belongs : ed_X3_belongs.all (okD cX3_belongs) = true := by decide +kernel
def f_X3_belongs (S : St) (p0 : Nat) (p1 : Int32) (p2 : Int32) (p3 : Int32) : Option (Int32) := cl (f_X3_contains S p2 p3) fun (v1 : Int32) => jn (κ := Option (Int32)) (some 0) fun k2 => if v1 = 0 then (k2) else (lt (gR S p0 0) fun (a4 : Nat) => ldI S a4 ((p3 * 30) + p2) fun (v6 : Int32) => if v6 = p1 then (some 1) else (k2))
set_option maxHeartbeats 4000000 in
set_option maxRecDepth 100000 in
theorem c_X3_belongs (S : St) (p0 : Nat) (p1 : Int32) (p2 : Int32) (p3 : Int32) : Ct yX3_belongs cX3_belongs 4 (some .boolean) 1 21 (fun _ => [.ref p0, .int p1, .int p2, .int p3]) [(p0, 3)] S (f_X3_belongs S p0 p1 p2 p3) oI (fun _ => S) := by
  refine Ct_of RX3 rfl (by decide) (fun _ => Nat.le_of_ble_eq_true rfl) 0 (vs := fun _ => [some (.ref p0), some (.int p1), some (.int p2), some (.int p3)]) (fun _ => rfl) (fun C X E hr ht => ?_)
  have t0_ : tT C p0 3 := ht (p0, 3) (by simp)
  show Jd C 4 (QJ C oI (fun _ => S)) S 0 [some (.ref p0), some (.int p1), some (.int p2), some (.int p3)] [] (f_X3_belongs S p0 p1 p2 p3)
  unfold f_X3_belongs
  refine s_run X ok_X3_belongs 0 2 (pc' := 2) (vs' := [some (.ref p0), some (.int p1), some (.int p2), some (.int p3)]) (st' := [.int p3, .int p2]) rfl ?_
  refine s_callS (As := [.int p2, .int p3]) (rest := []) X E ms_X3_39 (c_X3_contains S p2 p3) rfl (ta0) rfl rfl (Nat.le_of_ble_eq_true rfl) (Nat.le_of_ble_eq_true rfl) (Nat.le_of_ble_eq_true rfl) (dk okd_X3_belongs 0 rfl) (st' := fun v1 => [.int v1]) (fun _ => rfl) (fun v1 => ?_)
  refine s_jn (κ := Option (Int32)) (fun k2 => Jd C 4 (QJ C oI (fun _ => S)) S 27 [none, none, none, none] [] k2) ?_ (fun k2 h3 => ?_)
  · refine s_run X ok_X3_belongs 11 1 (pc' := 28) (vs' := [none, none, none, none]) (st' := [.int 0]) rfl ?_
    exact s_zret0 X hr (dk okd_X3_belongs 5 rfl) (by decide) rfl rfl
  · refine s_if_eq (tgt := 27) X (dk okd_X3_belongs 1 rfl) (by decide) ?_ ?_
    · exact s_less [false, false, false, false] rfl (h3)
    · refine s_run X ok_X3_belongs 2 1 (pc' := 9) (vs' := [some (.ref p0), some (.int p1), some (.int p2), some (.int p3)]) (st' := [.ref p0]) rfl ?_
      refine s_getR X fl_X3_9 t0_ (dk okd_X3_belongs 2 rfl) (fun a4 (t5 : tT C a4 13) => ?_)
      refine s_run X ok_X3_belongs 3 5 (pc' := 18) (vs' := [some (.ref p0), some (.int p1), some (.int p2), some (.int p3)]) (st' := [.int ((p3 * 30) + p2), .ref a4]) rfl ?_
      refine s_iald X t5 (dk okd_X3_belongs 3 rfl) (fun v6 => ?_)
      refine s_run X ok_X3_belongs 8 1 (pc' := 20) (vs' := [some (.ref p0), some (.int p1), some (.int p2), some (.int p3)]) (st' := [.int p1, .int v6]) rfl ?_
      refine s_icmp_ne (tgt := 27) X (dk okd_X3_belongs 4 rfl) (by decide) ?_ ?_
      · exact s_less [false, false, false, false] rfl (h3)
      · refine s_run X ok_X3_belongs 9 2 (pc' := 28) (vs' := [some (.ref p0), some (.int p1), some (.int p2), some (.int p3)]) (st' := [.int 1]) rfl ?_
        exact s_zret0 X hr (dk okd_X3_belongs 5 rfl) (by decide) rfl rfl
def tab_X3_anyOfOthers : List En := [(0, 4, 3, 0), (1, 11, 6, 0), (3, 5, 6, 0), (5, 5, 5, 0), (10, 4, 2, 0), (11, 11, 7, 0), (13, 5, 7, 0), (15, 5, 4, 0), (20, 8, 0, 0), (21, 5, 7, 0), (23, 5, 6, 0), (28, 11, 8, 0), (30, 5, 8, 0), (32, 0, 0, (-1)), (36, 5, 8, 0), (38, 4, 1, 0), (42, 0, 0, 1), (44, 16, 7, 1), (47, 41, 13, 0), (50, 16, 6, 1), (53, 41, 3, 0), (56, 0, 0, 0)]
theorem ok_X3_anyOfOthers : tab_X3_anyOfOthers.all (okE cX3_anyOfOthers) = true := by decide +kernel
def ed_X3_anyOfOthers : List (Nat × Instr × Nat) := [(7, .if_icmp .ge 49, 3), (17, .if_icmp .ge 33, 3), (25, .invokevirtual 43, 3), (33, .if_icmp .eq 11, 3), (39, .if_icmp .eq 5, 3), (43, .ireturn, 1), (57, .ireturn, 1)]
theorem okd_X3_anyOfOthers : ed_X3_anyOfOthers.all (okD cX3_anyOfOthers) = true := by decide +kernel
def f_X3_anyOfOthers (S : St) (p0 : Nat) (p1 : Int32) (p2 : Int32) (p3 : Int32) (p4 : Int32) (p5 : Int32) : Option (Int32) := lp (κ := Int32 → Option (Int32)) (fun _ => none) (fun k2 x1 => if p5 ≤ x1 then (some 0) else (jn (κ := Option (Int32)) (k2 (x1 + 1)) fun k4 => lp (κ := Int32 → Option (Int32)) (fun _ => none) (fun k7 x6 => if p4 ≤ x6 then (k4) else (cl (f_X3_ownerAt S p0 x6 x1) fun (v9 : Int32) => jn (κ := Option (Int32)) (k7 (x6 + 1)) fun k10 => if v9 = (-1) then (k10) else (if v9 = p1 then (k10) else (some 1)))) FU p2)) FU p3
set_option maxHeartbeats 4000000 in
set_option maxRecDepth 100000 in
theorem c_X3_anyOfOthers (S : St) (p0 : Nat) (p1 : Int32) (p2 : Int32) (p3 : Int32) (p4 : Int32) (p5 : Int32) : Ct yX3_anyOfOthers cX3_anyOfOthers 9 (some .boolean) 2 43 (fun _ => [.ref p0, .int p1, .int p2, .int p3, .int p4, .int p5]) [(p0, 3)] S (f_X3_anyOfOthers S p0 p1 p2 p3 p4 p5) oI (fun _ => S) := by
  refine Ct_of RX3 rfl (by decide) (fun _ => Nat.le_of_ble_eq_true rfl) 3 (vs := fun _ => [some (.ref p0), some (.int p1), some (.int p2), some (.int p3), some (.int p4), some (.int p5), none, none, none]) (fun _ => rfl) (fun C X E hr ht => ?_)
  have t0_ : tT C p0 3 := ht (p0, 3) (by simp)
  show Jd C 9 (QJ C oI (fun _ => S)) S 0 [some (.ref p0), some (.int p1), some (.int p2), some (.int p3), some (.int p4), some (.int p5), none, none, none] [] (f_X3_anyOfOthers S p0 p1 p2 p3 p4 p5)
  unfold f_X3_anyOfOthers
  refine s_run X ok_X3_anyOfOthers 0 2 (pc' := 3) (vs' := [some (.ref p0), some (.int p1), some (.int p2), some (.int p3), some (.int p4), some (.int p5), some (.int p3), none, none]) (st' := []) rfl ?_
  refine s_less [true, true, true, false, true, true, true, false, false] (vs' := [some (.ref p0), some (.int p1), some (.int p2), none, some (.int p4), some (.int p5), some (.int p3), none, none]) rfl ?_
  refine s_lp (κ := Int32 → Option (Int32)) (fun k2 => ∀ (x1 : Int32), Jd C 9 (QJ C oI (fun _ => S)) S 3 [some (.ref p0), some (.int p1), some (.int p2), none, some (.int p4), some (.int p5), some (.int x1), none, none] [] (k2 x1)) (fun _ => s_none) (fun k2 h3 x1 => ?_) FU p3
  refine s_run X ok_X3_anyOfOthers 2 2 (pc' := 7) (vs' := [some (.ref p0), some (.int p1), some (.int p2), none, some (.int p4), some (.int p5), some (.int x1), none, none]) (st' := [.int p5, .int x1]) rfl ?_
  refine s_icmp_ge (tgt := 56) X (dk okd_X3_anyOfOthers 0 rfl) (by decide) ?_ ?_
  · refine s_run X ok_X3_anyOfOthers 21 1 (pc' := 57) (vs' := [some (.ref p0), some (.int p1), some (.int p2), none, some (.int p4), some (.int p5), some (.int x1), none, none]) (st' := [.int 0]) rfl ?_
    exact s_zret0 X hr (dk okd_X3_anyOfOthers 6 rfl) (by decide) rfl rfl
  · refine s_run X ok_X3_anyOfOthers 4 2 (pc' := 13) (vs' := [some (.ref p0), some (.int p1), some (.int p2), none, some (.int p4), some (.int p5), some (.int x1), some (.int p2), none]) (st' := []) rfl ?_
    refine s_jn (κ := Option (Int32)) (fun k4 => Jd C 9 (QJ C oI (fun _ => S)) S 50 [some (.ref p0), some (.int p1), some (.int p2), none, some (.int p4), some (.int p5), some (.int x1), none, none] [] k4) ?_ (fun k4 h5 => ?_)
    · refine s_run X ok_X3_anyOfOthers 19 2 (pc' := 3) (vs' := [some (.ref p0), some (.int p1), some (.int p2), none, some (.int p4), some (.int p5), some (.int (x1 + 1)), none, none]) (st' := []) rfl ?_
      exact h3 (x1 + 1)
    · refine s_lp (κ := Int32 → Option (Int32)) (fun k7 => ∀ (x6 : Int32), Jd C 9 (QJ C oI (fun _ => S)) S 13 [some (.ref p0), some (.int p1), some (.int p2), none, some (.int p4), some (.int p5), some (.int x1), some (.int x6), none] [] (k7 x6)) (fun _ => s_none) (fun k7 h8 x6 => ?_) FU p2
      refine s_run X ok_X3_anyOfOthers 6 2 (pc' := 17) (vs' := [some (.ref p0), some (.int p1), some (.int p2), none, some (.int p4), some (.int p5), some (.int x1), some (.int x6), none]) (st' := [.int p4, .int x6]) rfl ?_
      refine s_icmp_ge (tgt := 50) X (dk okd_X3_anyOfOthers 1 rfl) (by decide) ?_ ?_
      · exact s_less [true, true, true, false, true, true, true, false, false] rfl (h5)
      · refine s_run X ok_X3_anyOfOthers 8 3 (pc' := 25) (vs' := [some (.ref p0), some (.int p1), some (.int p2), none, some (.int p4), some (.int p5), some (.int x1), some (.int x6), none]) (st' := [.int x1, .int x6, .ref p0]) rfl ?_
        refine s_callV (b := p0) (As := [.int x6, .int x1]) (rest := []) X E mv_X3_43 (c_X3_ownerAt S p0 x6 x1) rfl (ta1 t0_) rfl (by decide) t0_ rfl rfl (Nat.le_of_ble_eq_true rfl) (Nat.le_of_ble_eq_true rfl) (Nat.le_of_ble_eq_true rfl) (dk okd_X3_anyOfOthers 2 rfl) (st' := fun v9 => [.int v9]) (fun _ => rfl) (fun v9 => ?_)
        refine s_run X ok_X3_anyOfOthers 11 3 (pc' := 33) (vs' := [some (.ref p0), some (.int p1), some (.int p2), none, some (.int p4), some (.int p5), some (.int x1), some (.int x6), some (.int v9)]) (st' := [.int (-1), .int v9]) rfl ?_
        refine s_jn (κ := Option (Int32)) (fun k10 => Jd C 9 (QJ C oI (fun _ => S)) S 44 [some (.ref p0), some (.int p1), some (.int p2), none, some (.int p4), some (.int p5), some (.int x1), some (.int x6), none] [] k10) ?_ (fun k10 h11 => ?_)
        · refine s_run X ok_X3_anyOfOthers 17 2 (pc' := 13) (vs' := [some (.ref p0), some (.int p1), some (.int p2), none, some (.int p4), some (.int p5), some (.int x1), some (.int (x6 + 1)), none]) (st' := []) rfl ?_
          exact h8 (x6 + 1)
        · refine s_icmp_eq (tgt := 44) X (dk okd_X3_anyOfOthers 3 rfl) (by decide) ?_ ?_
          · exact s_less [true, true, true, false, true, true, true, true, false] rfl (h11)
          · refine s_run X ok_X3_anyOfOthers 14 2 (pc' := 39) (vs' := [some (.ref p0), some (.int p1), some (.int p2), none, some (.int p4), some (.int p5), some (.int x1), some (.int x6), some (.int v9)]) (st' := [.int p1, .int v9]) rfl ?_
            refine s_icmp_eq (tgt := 44) X (dk okd_X3_anyOfOthers 4 rfl) (by decide) ?_ ?_
            · exact s_less [true, true, true, false, true, true, true, true, false] rfl (h11)
            · refine s_run X ok_X3_anyOfOthers 16 1 (pc' := 43) (vs' := [some (.ref p0), some (.int p1), some (.int p2), none, some (.int p4), some (.int p5), some (.int x1), some (.int x6), some (.int v9)]) (st' := [.int 1]) rfl ?_
              exact s_zret0 X hr (dk okd_X3_anyOfOthers 5 rfl) (by decide) rfl rfl
def tab_X3_move : List En := [(0, 0, 0, 0), (1, 11, 7, 0), (3, 5, 4, 0), (5, 11, 8, 0), (7, 5, 8, 0), (9, 5, 6, 0), (14, 4, 3, 0), (15, 11, 9, 0), (17, 5, 9, 0), (19, 5, 5, 0), (24, 8, 0, 0), (25, 4, 1, 0), (26, 5, 9, 0), (28, 5, 8, 0), (36, 8, 0, 0), (40, 5, 8, 0), (42, 1, 0, 30), (44, 19, 0, 0), (45, 5, 9, 0), (47, 17, 0, 0), (48, 4, 2, 0), (50, 16, 7, 1), (53, 16, 9, 1), (56, 41, 17, 0), (59, 16, 8, 1), (62, 41, 7, 0), (65, 5, 7, 0)]
theorem ok_X3_move : tab_X3_move.all (okE cX3_move) = true := by decide +kernel
def ed_X3_move : List (Nat × Instr × Nat) := [(11, .if_icmp .ge 54, 3), (21, .if_icmp .ge 38, 3), (30, .invokevirtual 47, 3), (33, .ifCond .eq 20, 3), (37, .getfield 9, 3), (49, .iastore, 1), (67, .ireturn, 1)]
theorem okd_X3_move : ed_X3_move.all (okD cX3_move) = true := by decide +kernel
def f_X3_move (S : St) (p0 : Nat) (p1 : Int32) (p2 : Int32) (p3 : Int32) (p4 : Int32) (p5 : Int32) (p6 : Int32) : Option (Int32 × St) := jn (κ := Int32 → St → Option (Int32 × St)) (fun x1 S2 => some (x1, S2)) fun k3 => lp (κ := Int32 → Int32 → St → Option (Int32 × St)) (fun _ _ _ => none) (fun k8 x5 x6 S7 => if p6 ≤ x6 then (k3 x5 S7) else (jn (κ := Int32 → St → Option (Int32 × St)) (fun x10 S11 => k8 x10 (x6 + 1) S11) fun k12 => lp (κ := Int32 → Int32 → St → Option (Int32 × St)) (fun _ _ _ => none) (fun k17 x14 x15 S16 => if p5 ≤ x15 then (k12 x14 S16) else (cl (f_X3_belongs S16 p0 p1 x15 x6) fun (v19 : Int32) => jn (κ := Int32 → St → Option (Int32 × St)) (fun x20 S21 => k17 x20 (x15 + 1) S21) fun k22 => if v19 = 0 then (k22 x14 S16) else (lt (gR S16 p0 0) fun (a24 : Nat) => stI S16 a24 ((x6 * 30) + x15) p2 fun (S26 : St) => k22 (x14 + 1) S26))) FU x5 p3 S7)) FU 0 p4 S
set_option maxHeartbeats 4000000 in
set_option maxRecDepth 100000 in
theorem c_X3_move (S : St) (p0 : Nat) (p1 : Int32) (p2 : Int32) (p3 : Int32) (p4 : Int32) (p5 : Int32) (p6 : Int32) : Ct yX3_move cX3_move 10 (some .int) 2 44 (fun _ => [.ref p0, .int p1, .int p2, .int p3, .int p4, .int p5, .int p6]) [(p0, 3)] S (f_X3_move S p0 p1 p2 p3 p4 p5 p6) oIS sS := by
  refine Ct_of RX3 rfl (by decide) (fun _ => Nat.le_of_ble_eq_true rfl) 3 (vs := fun _ => [some (.ref p0), some (.int p1), some (.int p2), some (.int p3), some (.int p4), some (.int p5), some (.int p6), none, none, none]) (fun _ => rfl) (fun C X E hr ht => ?_)
  have t0_ : tT C p0 3 := ht (p0, 3) (by simp)
  show Jd C 10 (QJ C oIS sS) S 0 [some (.ref p0), some (.int p1), some (.int p2), some (.int p3), some (.int p4), some (.int p5), some (.int p6), none, none, none] [] (f_X3_move S p0 p1 p2 p3 p4 p5 p6)
  unfold f_X3_move
  refine s_run X ok_X3_move 0 4 (pc' := 7) (vs' := [some (.ref p0), some (.int p1), some (.int p2), some (.int p3), some (.int p4), some (.int p5), some (.int p6), some (.int 0), some (.int p4), none]) (st' := []) rfl ?_
  refine s_jn (κ := Int32 → St → Option (Int32 × St)) (fun k3 => ∀ (x1 : Int32) (S2 : St), Jd C 10 (QJ C oIS sS) S2 65 [none, none, none, none, none, none, none, some (.int x1), none, none] [] (k3 x1 S2)) (fun x1 S2 => ?_) (fun k3 h4 => ?_)
  · refine s_run X ok_X3_move 26 1 (pc' := 67) (vs' := [none, none, none, none, none, none, none, some (.int x1), none, none]) (st' := [.int x1]) rfl ?_
    exact s_iret X hr (dk okd_X3_move 6 rfl) rfl rfl
  · refine s_less [true, true, true, true, false, true, true, true, true, false] (vs' := [some (.ref p0), some (.int p1), some (.int p2), some (.int p3), none, some (.int p5), some (.int p6), some (.int 0), some (.int p4), none]) rfl ?_
    refine s_lp (κ := Int32 → Int32 → St → Option (Int32 × St)) (fun k8 => ∀ (x5 : Int32) (x6 : Int32) (S7 : St), Jd C 10 (QJ C oIS sS) S7 7 [some (.ref p0), some (.int p1), some (.int p2), some (.int p3), none, some (.int p5), some (.int p6), some (.int x5), some (.int x6), none] [] (k8 x5 x6 S7)) (fun _ _ _ => s_none) (fun k8 h9 x5 x6 S7 => ?_) FU 0 p4 S
    refine s_run X ok_X3_move 4 2 (pc' := 11) (vs' := [some (.ref p0), some (.int p1), some (.int p2), some (.int p3), none, some (.int p5), some (.int p6), some (.int x5), some (.int x6), none]) (st' := [.int p6, .int x6]) rfl ?_
    refine s_icmp_ge (tgt := 65) X (dk okd_X3_move 0 rfl) (by decide) ?_ ?_
    · exact s_less [false, false, false, false, false, false, false, true, false, false] rfl (h4 x5 S7)
    · refine s_run X ok_X3_move 6 2 (pc' := 17) (vs' := [some (.ref p0), some (.int p1), some (.int p2), some (.int p3), none, some (.int p5), some (.int p6), some (.int x5), some (.int x6), some (.int p3)]) (st' := []) rfl ?_
      refine s_jn (κ := Int32 → St → Option (Int32 × St)) (fun k12 => ∀ (x10 : Int32) (S11 : St), Jd C 10 (QJ C oIS sS) S11 59 [some (.ref p0), some (.int p1), some (.int p2), some (.int p3), none, some (.int p5), some (.int p6), some (.int x10), some (.int x6), none] [] (k12 x10 S11)) (fun x10 S11 => ?_) (fun k12 h13 => ?_)
      · refine s_run X ok_X3_move 24 2 (pc' := 7) (vs' := [some (.ref p0), some (.int p1), some (.int p2), some (.int p3), none, some (.int p5), some (.int p6), some (.int x10), some (.int (x6 + 1)), none]) (st' := []) rfl ?_
        exact h9 x10 (x6 + 1) S11
      · refine s_lp (κ := Int32 → Int32 → St → Option (Int32 × St)) (fun k17 => ∀ (x14 : Int32) (x15 : Int32) (S16 : St), Jd C 10 (QJ C oIS sS) S16 17 [some (.ref p0), some (.int p1), some (.int p2), some (.int p3), none, some (.int p5), some (.int p6), some (.int x14), some (.int x6), some (.int x15)] [] (k17 x14 x15 S16)) (fun _ _ _ => s_none) (fun k17 h18 x14 x15 S16 => ?_) FU x5 p3 S7
        refine s_run X ok_X3_move 8 2 (pc' := 21) (vs' := [some (.ref p0), some (.int p1), some (.int p2), some (.int p3), none, some (.int p5), some (.int p6), some (.int x14), some (.int x6), some (.int x15)]) (st' := [.int p5, .int x15]) rfl ?_
        refine s_icmp_ge (tgt := 59) X (dk okd_X3_move 1 rfl) (by decide) ?_ ?_
        · exact s_less [true, true, true, true, false, true, true, true, true, false] rfl (h13 x14 S16)
        · refine s_run X ok_X3_move 10 4 (pc' := 30) (vs' := [some (.ref p0), some (.int p1), some (.int p2), some (.int p3), none, some (.int p5), some (.int p6), some (.int x14), some (.int x6), some (.int x15)]) (st' := [.int x6, .int x15, .int p1, .ref p0]) rfl ?_
          refine s_callV (b := p0) (As := [.int p1, .int x15, .int x6]) (rest := []) X E mv_X3_47 (c_X3_belongs S16 p0 p1 x15 x6) rfl (ta1 t0_) rfl (by decide) t0_ rfl rfl (Nat.le_of_ble_eq_true rfl) (Nat.le_of_ble_eq_true rfl) (Nat.le_of_ble_eq_true rfl) (dk okd_X3_move 2 rfl) (st' := fun v19 => [.int v19]) (fun _ => rfl) (fun v19 => ?_)
          refine s_jn (κ := Int32 → St → Option (Int32 × St)) (fun k22 => ∀ (x20 : Int32) (S21 : St), Jd C 10 (QJ C oIS sS) S21 53 [some (.ref p0), some (.int p1), some (.int p2), some (.int p3), none, some (.int p5), some (.int p6), some (.int x20), some (.int x6), some (.int x15)] [] (k22 x20 S21)) (fun x20 S21 => ?_) (fun k22 h23 => ?_)
          · refine s_run X ok_X3_move 22 2 (pc' := 17) (vs' := [some (.ref p0), some (.int p1), some (.int p2), some (.int p3), none, some (.int p5), some (.int p6), some (.int x20), some (.int x6), some (.int (x15 + 1))]) (st' := []) rfl ?_
            exact h18 x20 (x15 + 1) S21
          · refine s_if_eq (tgt := 53) X (dk okd_X3_move 3 rfl) (by decide) ?_ ?_
            · exact h23 x14 S16
            · refine s_run X ok_X3_move 14 1 (pc' := 37) (vs' := [some (.ref p0), some (.int p1), some (.int p2), some (.int p3), none, some (.int p5), some (.int p6), some (.int x14), some (.int x6), some (.int x15)]) (st' := [.ref p0]) rfl ?_
              refine s_getR X fl_X3_9 t0_ (dk okd_X3_move 4 rfl) (fun a24 (t25 : tT C a24 13) => ?_)
              refine s_run X ok_X3_move 15 6 (pc' := 49) (vs' := [some (.ref p0), some (.int p1), some (.int p2), some (.int p3), none, some (.int p5), some (.int p6), some (.int x14), some (.int x6), some (.int x15)]) (st' := [.int p2, .int ((x6 * 30) + x15), .ref a24]) rfl ?_
              refine s_iast X t25 (dk okd_X3_move 5 rfl) (fun S26 => ?_)
              refine s_run X ok_X3_move 21 1 (pc' := 53) (vs' := [some (.ref p0), some (.int p1), some (.int p2), some (.int p3), none, some (.int p5), some (.int p6), some (.int (x14 + 1)), some (.int x6), some (.int x15)]) (st' := []) rfl ?_
              exact h23 (x14 + 1) S26
def tab_X3_sizeOf : List En := [(0, 0, 0, 0), (1, 10, 2, 0), (2, 0, 0, 0), (3, 10, 3, 0), (4, 4, 3, 0), (5, 2, 0, 900), (11, 8, 0, 0), (15, 4, 3, 0), (17, 4, 1, 0), (21, 16, 2, 1), (24, 16, 3, 1), (27, 41, 4, 0), (30, 4, 2, 0)]
theorem ok_X3_sizeOf : tab_X3_sizeOf.all (okE cX3_sizeOf) = true := by decide +kernel
def ed_X3_sizeOf : List (Nat × Instr × Nat) := [(8, .if_icmp .ge 22, 3), (12, .getfield 9, 3), (16, .iaload, 1), (18, .if_icmp .ne 6, 3), (31, .ireturn, 1)]
theorem okd_X3_sizeOf : ed_X3_sizeOf.all (okD cX3_sizeOf) = true := by decide +kernel
def f_X3_sizeOf (S : St) (p0 : Nat) (p1 : Int32) : Option (Int32) := jn (κ := Int32 → Option (Int32)) (fun x1 => some x1) fun k2 => lp (κ := Int32 → Int32 → Option (Int32)) (fun _ _ => none) (fun k6 x4 x5 => if 900 ≤ x5 then (k2 x4) else (lt (gR S p0 0) fun (a8 : Nat) => ldI S a8 x5 fun (v10 : Int32) => jn (κ := Int32 → Option (Int32)) (fun x11 => k6 x11 (x5 + 1)) fun k12 => if v10 = p1 then (k12 (x4 + 1)) else (k12 x4))) FU 0 0
set_option maxHeartbeats 4000000 in
set_option maxRecDepth 100000 in
theorem c_X3_sizeOf (S : St) (p0 : Nat) (p1 : Int32) : Ct yX3_sizeOf cX3_sizeOf 4 (some .int) 0 0 (fun _ => [.ref p0, .int p1]) [(p0, 3)] S (f_X3_sizeOf S p0 p1) oI (fun _ => S) := by
  refine Ct_of RX3 rfl (by decide) (fun _ => Nat.le_of_ble_eq_true rfl) 2 (vs := fun _ => [some (.ref p0), some (.int p1), none, none]) (fun _ => rfl) (fun C X E hr ht => ?_)
  have t0_ : tT C p0 3 := ht (p0, 3) (by simp)
  show Jd C 4 (QJ C oI (fun _ => S)) S 0 [some (.ref p0), some (.int p1), none, none] [] (f_X3_sizeOf S p0 p1)
  unfold f_X3_sizeOf
  refine s_run X ok_X3_sizeOf 0 4 (pc' := 4) (vs' := [some (.ref p0), some (.int p1), some (.int 0), some (.int 0)]) (st' := []) rfl ?_
  refine s_jn (κ := Int32 → Option (Int32)) (fun k2 => ∀ (x1 : Int32), Jd C 4 (QJ C oI (fun _ => S)) S 30 [none, none, some (.int x1), none] [] (k2 x1)) (fun x1 => ?_) (fun k2 h3 => ?_)
  · refine s_run X ok_X3_sizeOf 12 1 (pc' := 31) (vs' := [none, none, some (.int x1), none]) (st' := [.int x1]) rfl ?_
    exact s_iret X hr (dk okd_X3_sizeOf 4 rfl) rfl rfl
  · refine s_lp (κ := Int32 → Int32 → Option (Int32)) (fun k6 => ∀ (x4 : Int32) (x5 : Int32), Jd C 4 (QJ C oI (fun _ => S)) S 4 [some (.ref p0), some (.int p1), some (.int x4), some (.int x5)] [] (k6 x4 x5)) (fun _ _ => s_none) (fun k6 h7 x4 x5 => ?_) FU 0 0
    refine s_run X ok_X3_sizeOf 4 2 (pc' := 8) (vs' := [some (.ref p0), some (.int p1), some (.int x4), some (.int x5)]) (st' := [.int 900, .int x5]) rfl ?_
    refine s_icmp_ge (tgt := 30) X (dk okd_X3_sizeOf 0 rfl) (by decide) ?_ ?_
    · exact s_less [false, false, true, false] rfl (h3 x4)
    · refine s_run X ok_X3_sizeOf 6 1 (pc' := 12) (vs' := [some (.ref p0), some (.int p1), some (.int x4), some (.int x5)]) (st' := [.ref p0]) rfl ?_
      refine s_getR X fl_X3_9 t0_ (dk okd_X3_sizeOf 1 rfl) (fun a8 (t9 : tT C a8 13) => ?_)
      refine s_run X ok_X3_sizeOf 7 1 (pc' := 16) (vs' := [some (.ref p0), some (.int p1), some (.int x4), some (.int x5)]) (st' := [.int x5, .ref a8]) rfl ?_
      refine s_iald X t9 (dk okd_X3_sizeOf 2 rfl) (fun v10 => ?_)
      refine s_run X ok_X3_sizeOf 8 1 (pc' := 18) (vs' := [some (.ref p0), some (.int p1), some (.int x4), some (.int x5)]) (st' := [.int p1, .int v10]) rfl ?_
      refine s_jn (κ := Int32 → Option (Int32)) (fun k12 => ∀ (x11 : Int32), Jd C 4 (QJ C oI (fun _ => S)) S 24 [some (.ref p0), some (.int p1), some (.int x11), some (.int x5)] [] (k12 x11)) (fun x11 => ?_) (fun k12 h13 => ?_)
      · refine s_run X ok_X3_sizeOf 10 2 (pc' := 4) (vs' := [some (.ref p0), some (.int p1), some (.int x11), some (.int (x5 + 1))]) (st' := []) rfl ?_
        exact h7 x11 (x5 + 1)
      · refine s_icmp_ne (tgt := 24) X (dk okd_X3_sizeOf 3 rfl) (by decide) ?_ ?_
        · exact h13 x4
        · refine s_run X ok_X3_sizeOf 9 1 (pc' := 24) (vs' := [some (.ref p0), some (.int p1), some (.int (x4 + 1)), some (.int x5)]) (st' := []) rfl ?_
          exact h13 (x4 + 1)
def tab_X3_neighboursOf : List En := [(0, 4, 2, 0), (1, 1, 0, 30), (4, 10, 3, 0), (5, 4, 2, 0), (6, 1, 0, 30), (9, 11, 4, 0), (11, 8, 0, 0), (12, 4, 1, 0), (13, 4, 3, 0), (14, 0, 0, 1), (15, 18, 0, 0), (16, 5, 4, 0), (24, 0, 0, 1), (25, 41, 29, 0), (28, 0, 0, 0), (29, 8, 0, 0), (30, 4, 1, 0), (31, 4, 3, 0), (32, 0, 0, 1), (33, 17, 0, 0), (34, 5, 4, 0), (42, 0, 0, 1), (43, 41, 47, 0), (46, 0, 0, 0), (47, 17, 0, 0), (48, 8, 0, 0), (49, 4, 1, 0), (50, 4, 3, 0), (51, 5, 4, 0), (53, 0, 0, 1), (54, 18, 0, 0), (61, 0, 0, 1), (62, 41, 66, 0), (65, 0, 0, 0), (66, 17, 0, 0), (67, 8, 0, 0), (68, 4, 1, 0), (69, 4, 3, 0), (70, 5, 4, 0), (72, 0, 0, 1), (73, 17, 0, 0), (80, 0, 0, 1), (81, 41, 85, 0), (84, 0, 0, 0), (85, 17, 0, 0)]
theorem ok_X3_neighboursOf : tab_X3_neighboursOf.all (okE cX3_neighboursOf) = true := by decide +kernel
def ed_X3_neighboursOf : List (Nat × Instr × Nat) := [(3, .irem, 1), (8, .idiv, 1), (18, .invokevirtual 47, 3), (21, .ifCond .eq 7, 3), (36, .invokevirtual 47, 3), (39, .ifCond .eq 7, 3), (55, .invokevirtual 47, 3), (58, .ifCond .eq 7, 3), (74, .invokevirtual 47, 3), (77, .ifCond .eq 7, 3), (86, .ireturn, 1)]
theorem okd_X3_neighboursOf : ed_X3_neighboursOf.all (okD cX3_neighboursOf) = true := by decide +kernel
def f_X3_neighboursOf (S : St) (p0 : Nat) (p1 : Int32) (p2 : Int32) : Option (Int32) := lt (p2 - p2 / 30 * 30) fun (v1 : Int32) => lt (p2 / 30) fun (v2 : Int32) => cl (f_X3_belongs S p0 p1 (v1 - 1) v2) fun (v3 : Int32) => jn (κ := Int32 → Option (Int32)) (fun x4 => cl (f_X3_belongs S p0 p1 (v1 + 1) v2) fun (v7 : Int32) => jn (κ := Int32 → Option (Int32)) (fun x8 => cl (f_X3_belongs S p0 p1 v1 (v2 - 1)) fun (v11 : Int32) => jn (κ := Int32 → Option (Int32)) (fun x12 => cl (f_X3_belongs S p0 p1 v1 (v2 + 1)) fun (v15 : Int32) => jn (κ := Int32 → Option (Int32)) (fun x16 => some (((x4 + x8) + x12) + x16)) fun k17 => if v15 = 0 then (k17 0) else (k17 1)) fun k13 => if v11 = 0 then (k13 0) else (k13 1)) fun k9 => if v7 = 0 then (k9 0) else (k9 1)) fun k5 => if v3 = 0 then (k5 0) else (k5 1)
set_option maxHeartbeats 4000000 in
set_option maxRecDepth 100000 in
theorem c_X3_neighboursOf (S : St) (p0 : Nat) (p1 : Int32) (p2 : Int32) : Ct yX3_neighboursOf cX3_neighboursOf 5 (some .int) 2 44 (fun _ => [.ref p0, .int p1, .int p2]) [(p0, 3)] S (f_X3_neighboursOf S p0 p1 p2) oI (fun _ => S) := by
  refine Ct_of RX3 rfl (by decide) (fun _ => Nat.le_of_ble_eq_true rfl) 2 (vs := fun _ => [some (.ref p0), some (.int p1), some (.int p2), none, none]) (fun _ => rfl) (fun C X E hr ht => ?_)
  have t0_ : tT C p0 3 := ht (p0, 3) (by simp)
  show Jd C 5 (QJ C oI (fun _ => S)) S 0 [some (.ref p0), some (.int p1), some (.int p2), none, none] [] (f_X3_neighboursOf S p0 p1 p2)
  unfold f_X3_neighboursOf
  refine s_run X ok_X3_neighboursOf 0 2 (pc' := 3) (vs' := [some (.ref p0), some (.int p1), some (.int p2), none, none]) (st' := [.int 30, .int p2]) rfl ?_
  refine s_irem0 X (dk okd_X3_neighboursOf 0 rfl) (by decide) ?_
  refine s_nmI (fun v1 => ?_)
  refine s_run X ok_X3_neighboursOf 2 3 (pc' := 8) (vs' := [some (.ref p0), some (.int p1), some (.int p2), some (.int v1), none]) (st' := [.int 30, .int p2]) rfl ?_
  refine s_idiv0 X (dk okd_X3_neighboursOf 1 rfl) (by decide) ?_
  refine s_nmI (fun v2 => ?_)
  refine s_run X ok_X3_neighboursOf 5 7 (pc' := 18) (vs' := [some (.ref p0), some (.int p1), some (.int p2), some (.int v1), some (.int v2)]) (st' := [.int v2, .int (v1 - 1), .int p1, .ref p0]) rfl ?_
  refine s_callV (b := p0) (As := [.int p1, .int (v1 - 1), .int v2]) (rest := []) X E mv_X3_47 (c_X3_belongs S p0 p1 (v1 - 1) v2) rfl (ta1 t0_) rfl (by decide) t0_ rfl rfl (Nat.le_of_ble_eq_true rfl) (Nat.le_of_ble_eq_true rfl) (Nat.le_of_ble_eq_true rfl) (dk okd_X3_neighboursOf 2 rfl) (st' := fun v3 => [.int v3]) (fun _ => rfl) (fun v3 => ?_)
  refine s_jn (κ := Int32 → Option (Int32)) (fun k5 => ∀ (x4 : Int32), Jd C 5 (QJ C oI (fun _ => S)) S 29 [some (.ref p0), some (.int p1), none, some (.int v1), some (.int v2)] [.int x4] (k5 x4)) (fun x4 => ?_) (fun k5 h6 => ?_)
  · refine s_run X ok_X3_neighboursOf 15 6 (pc' := 36) (vs' := [some (.ref p0), some (.int p1), none, some (.int v1), some (.int v2)]) (st' := [.int v2, .int (v1 + 1), .int p1, .ref p0, .int x4]) rfl ?_
    refine s_callV (b := p0) (As := [.int p1, .int (v1 + 1), .int v2]) (rest := [.int x4]) X E mv_X3_47 (c_X3_belongs S p0 p1 (v1 + 1) v2) rfl (ta1 t0_) rfl (by decide) t0_ rfl rfl (Nat.le_of_ble_eq_true rfl) (Nat.le_of_ble_eq_true rfl) (Nat.le_of_ble_eq_true rfl) (dk okd_X3_neighboursOf 4 rfl) (st' := fun v7 => [.int v7, .int x4]) (fun _ => rfl) (fun v7 => ?_)
    refine s_jn (κ := Int32 → Option (Int32)) (fun k9 => ∀ (x8 : Int32), Jd C 5 (QJ C oI (fun _ => S)) S 47 [some (.ref p0), some (.int p1), none, some (.int v1), some (.int v2)] [.int x8, .int x4] (k9 x8)) (fun x8 => ?_) (fun k9 h10 => ?_)
    · refine s_run X ok_X3_neighboursOf 24 7 (pc' := 55) (vs' := [some (.ref p0), some (.int p1), none, some (.int v1), some (.int v2)]) (st' := [.int (v2 - 1), .int v1, .int p1, .ref p0, .int (x4 + x8)]) rfl ?_
      refine s_callV (b := p0) (As := [.int p1, .int v1, .int (v2 - 1)]) (rest := [.int (x4 + x8)]) X E mv_X3_47 (c_X3_belongs S p0 p1 v1 (v2 - 1)) rfl (ta1 t0_) rfl (by decide) t0_ rfl rfl (Nat.le_of_ble_eq_true rfl) (Nat.le_of_ble_eq_true rfl) (Nat.le_of_ble_eq_true rfl) (dk okd_X3_neighboursOf 6 rfl) (st' := fun v11 => [.int v11, .int (x4 + x8)]) (fun _ => rfl) (fun v11 => ?_)
      refine s_jn (κ := Int32 → Option (Int32)) (fun k13 => ∀ (x12 : Int32), Jd C 5 (QJ C oI (fun _ => S)) S 66 [some (.ref p0), some (.int p1), none, some (.int v1), some (.int v2)] [.int x12, .int (x4 + x8)] (k13 x12)) (fun x12 => ?_) (fun k13 h14 => ?_)
      · refine s_run X ok_X3_neighboursOf 34 7 (pc' := 74) (vs' := [some (.ref p0), some (.int p1), none, some (.int v1), some (.int v2)]) (st' := [.int (v2 + 1), .int v1, .int p1, .ref p0, .int ((x4 + x8) + x12)]) rfl ?_
        refine s_callV (b := p0) (As := [.int p1, .int v1, .int (v2 + 1)]) (rest := [.int ((x4 + x8) + x12)]) X E mv_X3_47 (c_X3_belongs S p0 p1 v1 (v2 + 1)) rfl (ta1 t0_) rfl (by decide) t0_ rfl rfl (Nat.le_of_ble_eq_true rfl) (Nat.le_of_ble_eq_true rfl) (Nat.le_of_ble_eq_true rfl) (dk okd_X3_neighboursOf 8 rfl) (st' := fun v15 => [.int v15, .int ((x4 + x8) + x12)]) (fun _ => rfl) (fun v15 => ?_)
        refine s_jn (κ := Int32 → Option (Int32)) (fun k17 => ∀ (x16 : Int32), Jd C 5 (QJ C oI (fun _ => S)) S 85 [none, none, none, none, none] [.int x16, .int ((x4 + x8) + x12)] (k17 x16)) (fun x16 => ?_) (fun k17 h18 => ?_)
        · refine s_run X ok_X3_neighboursOf 44 1 (pc' := 86) (vs' := [none, none, none, none, none]) (st' := [.int (((x4 + x8) + x12) + x16)]) rfl ?_
          exact s_iret X hr (dk okd_X3_neighboursOf 10 rfl) rfl rfl
        · refine s_if_eq (tgt := 84) X (dk okd_X3_neighboursOf 9 rfl) (by decide) ?_ ?_
          · refine s_run X ok_X3_neighboursOf 43 1 (pc' := 85) (vs' := [some (.ref p0), some (.int p1), none, some (.int v1), some (.int v2)]) (st' := [.int 0, .int ((x4 + x8) + x12)]) rfl ?_
            exact s_less [false, false, false, false, false] rfl (h18 0)
          · refine s_run X ok_X3_neighboursOf 41 2 (pc' := 85) (vs' := [some (.ref p0), some (.int p1), none, some (.int v1), some (.int v2)]) (st' := [.int 1, .int ((x4 + x8) + x12)]) rfl ?_
            exact s_less [false, false, false, false, false] rfl (h18 1)
      · refine s_if_eq (tgt := 65) X (dk okd_X3_neighboursOf 7 rfl) (by decide) ?_ ?_
        · refine s_run X ok_X3_neighboursOf 33 1 (pc' := 66) (vs' := [some (.ref p0), some (.int p1), none, some (.int v1), some (.int v2)]) (st' := [.int 0, .int (x4 + x8)]) rfl ?_
          exact h14 0
        · refine s_run X ok_X3_neighboursOf 31 2 (pc' := 66) (vs' := [some (.ref p0), some (.int p1), none, some (.int v1), some (.int v2)]) (st' := [.int 1, .int (x4 + x8)]) rfl ?_
          exact h14 1
    · refine s_if_eq (tgt := 46) X (dk okd_X3_neighboursOf 5 rfl) (by decide) ?_ ?_
      · refine s_run X ok_X3_neighboursOf 23 1 (pc' := 47) (vs' := [some (.ref p0), some (.int p1), none, some (.int v1), some (.int v2)]) (st' := [.int 0, .int x4]) rfl ?_
        exact h10 0
      · refine s_run X ok_X3_neighboursOf 21 2 (pc' := 47) (vs' := [some (.ref p0), some (.int p1), none, some (.int v1), some (.int v2)]) (st' := [.int 1, .int x4]) rfl ?_
        exact h10 1
  · refine s_if_eq (tgt := 28) X (dk okd_X3_neighboursOf 3 rfl) (by decide) ?_ ?_
    · refine s_run X ok_X3_neighboursOf 14 1 (pc' := 29) (vs' := [some (.ref p0), some (.int p1), some (.int p2), some (.int v1), some (.int v2)]) (st' := [.int 0]) rfl ?_
      exact s_less [true, true, false, true, true] rfl (h6 0)
    · refine s_run X ok_X3_neighboursOf 12 2 (pc' := 29) (vs' := [some (.ref p0), some (.int p1), some (.int p2), some (.int v1), some (.int v2)]) (st' := [.int 1]) rfl ?_
      exact s_less [true, true, false, true, true] rfl (h6 1)
def tab_X3_reach : List En := [(0, 8, 0, 0), (1, 4, 1, 0), (2, 4, 2, 0), (3, 4, 3, 0), (10, 8, 0, 0), (14, 2, 0, 900), (21, 4, 3, 0), (22, 1, 0, 30), (24, 19, 0, 0), (25, 4, 2, 0), (26, 17, 0, 0), (27, 11, 4, 0), (29, 8, 0, 0), (33, 5, 4, 0), (39, 8, 0, 0), (43, 5, 4, 0), (45, 0, 0, 1), (47, 8, 0, 0), (51, 8, 0, 0), (55, 5, 4, 0), (58, 8, 0, 0), (59, 36, 0, 0), (63, 0, 0, 1), (64, 17, 0, 0)]
theorem ok_X3_reach : tab_X3_reach.all (okE cX3_reach) = true := by decide +kernel
def ed_X3_reach : List (Nat × Instr × Nat) := [(4, .invokevirtual 47, 3), (7, .ifCond .eq 13, 3), (11, .getfield 57, 3), (17, .if_icmp .lt 4, 3), (20, .return_, 1), (30, .getfield 18, 3), (35, .iaload, 1), (36, .ifCond .ne 32, 3), (40, .getfield 18, 3), (46, .iastore, 1), (48, .getfield 15, 3), (52, .getfield 57, 3), (57, .iastore, 1), (60, .getfield 57, 3), (65, .putfield 57, 3), (68, .return_, 1)]
theorem okd_X3_reach : ed_X3_reach.all (okD cX3_reach) = true := by decide +kernel
def f_X3_reach (S : St) (p0 : Nat) (p1 : Int32) (p2 : Int32) (p3 : Int32) : Option (St) := cl (f_X3_belongs S p0 p1 p2 p3) fun (v1 : Int32) => if v1 = 0 then (some S) else (lt (gI S p0 3) fun (v2 : Int32) => if v2 < 900 then (lt ((p3 * 30) + p2) fun (v3 : Int32) => lt (gR S p0 2) fun (a4 : Nat) => ldI S a4 v3 fun (v6 : Int32) => if v6 = 0 then (lt (gR S p0 2) fun (a7 : Nat) => stI S a7 v3 1 fun (S9 : St) => lt (gR S9 p0 1) fun (a10 : Nat) => lt (gI S9 p0 3) fun (v12 : Int32) => stI S9 a10 v12 v3 fun (S13 : St) => lt (gI S13 p0 3) fun (v14 : Int32) => lt (uI S13 p0 3 (v14 + 1)) fun (S15 : St) => some S15) else (some S)) else (some S))
set_option maxHeartbeats 4000000 in
set_option maxRecDepth 100000 in
theorem c_X3_reach (S : St) (p0 : Nat) (p1 : Int32) (p2 : Int32) (p3 : Int32) : Ct yX3_reach cX3_reach 5 none 2 44 (fun _ => [.ref p0, .int p1, .int p2, .int p3]) [(p0, 3)] S (f_X3_reach S p0 p1 p2 p3) oV sV := by
  refine Ct_of RX3 rfl (by decide) (fun _ => Nat.le_of_ble_eq_true rfl) 1 (vs := fun _ => [some (.ref p0), some (.int p1), some (.int p2), some (.int p3), none]) (fun _ => rfl) (fun C X E hr ht => ?_)
  have t0_ : tT C p0 3 := ht (p0, 3) (by simp)
  show Jd C 5 (QJ C oV sV) S 0 [some (.ref p0), some (.int p1), some (.int p2), some (.int p3), none] [] (f_X3_reach S p0 p1 p2 p3)
  unfold f_X3_reach
  refine s_run X ok_X3_reach 0 4 (pc' := 4) (vs' := [some (.ref p0), some (.int p1), some (.int p2), some (.int p3), none]) (st' := [.int p3, .int p2, .int p1, .ref p0]) rfl ?_
  refine s_callV (b := p0) (As := [.int p1, .int p2, .int p3]) (rest := []) X E mv_X3_47 (c_X3_belongs S p0 p1 p2 p3) rfl (ta1 t0_) rfl (by decide) t0_ rfl rfl (Nat.le_of_ble_eq_true rfl) (Nat.le_of_ble_eq_true rfl) (Nat.le_of_ble_eq_true rfl) (dk okd_X3_reach 0 rfl) (st' := fun v1 => [.int v1]) (fun _ => rfl) (fun v1 => ?_)
  refine s_if_eq (tgt := 20) X (dk okd_X3_reach 1 rfl) (by decide) ?_ ?_
  · exact s_vret X hr (dk okd_X3_reach 4 rfl) rfl rfl
  · refine s_run X ok_X3_reach 4 1 (pc' := 11) (vs' := [some (.ref p0), some (.int p1), some (.int p2), some (.int p3), none]) (st' := [.ref p0]) rfl ?_
    refine s_getI X fl_X3_57 t0_ (dk okd_X3_reach 2 rfl) (fun v2 => ?_)
    refine s_run X ok_X3_reach 5 1 (pc' := 17) (vs' := [some (.ref p0), some (.int p1), some (.int p2), some (.int p3), none]) (st' := [.int 900, .int v2]) rfl ?_
    refine s_icmp_lt (tgt := 21) X (dk okd_X3_reach 3 rfl) (by decide) ?_ ?_
    · refine s_run X ok_X3_reach 6 5 (pc' := 27) (vs' := [some (.ref p0), some (.int p1), some (.int p2), some (.int p3), none]) (st' := [.int ((p3 * 30) + p2)]) rfl ?_
      refine s_nmI (fun v3 => ?_)
      refine s_run X ok_X3_reach 11 2 (pc' := 30) (vs' := [some (.ref p0), some (.int p1), some (.int p2), some (.int p3), some (.int v3)]) (st' := [.ref p0]) rfl ?_
      refine s_getR X fl_X3_18 t0_ (dk okd_X3_reach 5 rfl) (fun a4 (t5 : tT C a4 13) => ?_)
      refine s_run X ok_X3_reach 13 1 (pc' := 35) (vs' := [some (.ref p0), some (.int p1), some (.int p2), some (.int p3), some (.int v3)]) (st' := [.int v3, .ref a4]) rfl ?_
      refine s_iald X t5 (dk okd_X3_reach 6 rfl) (fun v6 => ?_)
      refine s_if_ne (tgt := 68) X (dk okd_X3_reach 7 rfl) (by decide) ?_ ?_
      · exact s_vret X hr (dk okd_X3_reach 15 rfl) rfl rfl
      · refine s_run X ok_X3_reach 14 1 (pc' := 40) (vs' := [some (.ref p0), some (.int p1), some (.int p2), some (.int p3), some (.int v3)]) (st' := [.ref p0]) rfl ?_
        refine s_getR X fl_X3_18 t0_ (dk okd_X3_reach 8 rfl) (fun a7 (t8 : tT C a7 13) => ?_)
        refine s_run X ok_X3_reach 15 2 (pc' := 46) (vs' := [some (.ref p0), some (.int p1), some (.int p2), some (.int p3), some (.int v3)]) (st' := [.int 1, .int v3, .ref a7]) rfl ?_
        refine s_iast X t8 (dk okd_X3_reach 9 rfl) (fun S9 => ?_)
        refine s_run X ok_X3_reach 17 1 (pc' := 48) (vs' := [some (.ref p0), some (.int p1), some (.int p2), some (.int p3), some (.int v3)]) (st' := [.ref p0]) rfl ?_
        refine s_getR X fl_X3_15 t0_ (dk okd_X3_reach 10 rfl) (fun a10 (t11 : tT C a10 13) => ?_)
        refine s_run X ok_X3_reach 18 1 (pc' := 52) (vs' := [some (.ref p0), some (.int p1), some (.int p2), some (.int p3), some (.int v3)]) (st' := [.ref p0, .ref a10]) rfl ?_
        refine s_getI X fl_X3_57 t0_ (dk okd_X3_reach 11 rfl) (fun v12 => ?_)
        refine s_run X ok_X3_reach 19 1 (pc' := 57) (vs' := [some (.ref p0), some (.int p1), some (.int p2), some (.int p3), some (.int v3)]) (st' := [.int v3, .int v12, .ref a10]) rfl ?_
        refine s_iast X t11 (dk okd_X3_reach 12 rfl) (fun S13 => ?_)
        refine s_run X ok_X3_reach 20 2 (pc' := 60) (vs' := [some (.ref p0), some (.int p1), some (.int p2), some (.int p3), some (.int v3)]) (st' := [.ref p0, .ref p0]) rfl ?_
        refine s_getI X fl_X3_57 t0_ (dk okd_X3_reach 13 rfl) (fun v14 => ?_)
        refine s_run X ok_X3_reach 22 2 (pc' := 65) (vs' := [some (.ref p0), some (.int p1), some (.int p2), some (.int p3), some (.int v3)]) (st' := [.int (v14 + 1), .ref p0]) rfl ?_
        refine s_putI X fp_X3_57 t0_ (dk okd_X3_reach 14 rfl) (fun S15 => ?_)
        exact s_vret X hr (dk okd_X3_reach 15 rfl) rfl rfl
    · exact s_vret X hr (dk okd_X3_reach 4 rfl) rfl rfl
def tab_X3_leastDistance : List En := [(0, 2, 0, 1000), (3, 11, 4, 0), (5, 0, 0, 0), (6, 11, 5, 0), (8, 5, 5, 0), (10, 2, 0, 900), (16, 8, 0, 0), (20, 5, 5, 0), (23, 4, 1, 0), (27, 5, 4, 0), (29, 4, 2, 0), (30, 4, 3, 0), (31, 5, 5, 0), (33, 1, 0, 30), (36, 5, 5, 0), (38, 1, 0, 30), (47, 11, 4, 0), (49, 16, 5, 1), (52, 41, 8, 0), (55, 5, 4, 0), (57, 2, 0, 1000), (63, 0, 0, (-1)), (64, 41, 69, 0), (67, 5, 4, 0)]
theorem ok_X3_leastDistance : tab_X3_leastDistance.all (okE cX3_leastDistance) = true := by decide +kernel
def ed_X3_leastDistance : List (Nat × Instr × Nat) := [(13, .if_icmp .ge 42, 3), (17, .getfield 9, 3), (22, .iaload, 1), (24, .if_icmp .ne 25, 3), (35, .irem, 1), (40, .idiv, 1), (41, .invokestatic 65, 3), (44, .invokestatic 69, 3), (60, .if_icmp .ne 7, 3), (69, .ireturn, 1)]
theorem okd_X3_leastDistance : ed_X3_leastDistance.all (okD cX3_leastDistance) = true := by decide +kernel
def f_X3_leastDistance (S : St) (p0 : Nat) (p1 : Int32) (p2 : Int32) (p3 : Int32) : Option (Int32) := jn (κ := Int32 → Option (Int32)) (fun x1 => if x1 = 1000 then (some (-1)) else (some x1)) fun k2 => lp (κ := Int32 → Int32 → Option (Int32)) (fun _ _ => none) (fun k6 x4 x5 => if 900 ≤ x5 then (k2 x4) else (lt (gR S p0 0) fun (a8 : Nat) => ldI S a8 x5 fun (v10 : Int32) => jn (κ := Int32 → Option (Int32)) (fun x11 => k6 x11 (x5 + 1)) fun k12 => if v10 = p1 then (cl (f_X3_steps S p2 p3 (x5 - x5 / 30 * 30) (x5 / 30)) fun (v14 : Int32) => lt (if v14 < x4 then v14 else x4) fun (v15 : Int32) => k12 v15) else (k12 x4))) FU 1000 0
set_option maxHeartbeats 4000000 in
set_option maxRecDepth 100000 in
theorem c_X3_leastDistance (S : St) (p0 : Nat) (p1 : Int32) (p2 : Int32) (p3 : Int32) : Ct yX3_leastDistance cX3_leastDistance 6 (some .int) 2 46 (fun _ => [.ref p0, .int p1, .int p2, .int p3]) [(p0, 3)] S (f_X3_leastDistance S p0 p1 p2 p3) oI (fun _ => S) := by
  refine Ct_of RX3 rfl (by decide) (fun _ => Nat.le_of_ble_eq_true rfl) 2 (vs := fun _ => [some (.ref p0), some (.int p1), some (.int p2), some (.int p3), none, none]) (fun _ => rfl) (fun C X E hr ht => ?_)
  have t0_ : tT C p0 3 := ht (p0, 3) (by simp)
  show Jd C 6 (QJ C oI (fun _ => S)) S 0 [some (.ref p0), some (.int p1), some (.int p2), some (.int p3), none, none] [] (f_X3_leastDistance S p0 p1 p2 p3)
  unfold f_X3_leastDistance
  refine s_run X ok_X3_leastDistance 0 4 (pc' := 8) (vs' := [some (.ref p0), some (.int p1), some (.int p2), some (.int p3), some (.int 1000), some (.int 0)]) (st' := []) rfl ?_
  refine s_jn (κ := Int32 → Option (Int32)) (fun k2 => ∀ (x1 : Int32), Jd C 6 (QJ C oI (fun _ => S)) S 55 [none, none, none, none, some (.int x1), none] [] (k2 x1)) (fun x1 => ?_) (fun k2 h3 => ?_)
  · refine s_run X ok_X3_leastDistance 19 2 (pc' := 60) (vs' := [none, none, none, none, some (.int x1), none]) (st' := [.int 1000, .int x1]) rfl ?_
    refine s_icmp_ne (tgt := 67) X (dk okd_X3_leastDistance 8 rfl) (by decide) ?_ ?_
    · refine s_run X ok_X3_leastDistance 23 1 (pc' := 69) (vs' := [none, none, none, none, some (.int x1), none]) (st' := [.int x1]) rfl ?_
      exact s_iret X hr (dk okd_X3_leastDistance 9 rfl) rfl rfl
    · refine s_run X ok_X3_leastDistance 21 2 (pc' := 69) (vs' := [none, none, none, none, some (.int x1), none]) (st' := [.int (-1)]) rfl ?_
      exact s_iret X hr (dk okd_X3_leastDistance 9 rfl) rfl rfl
  · refine s_lp (κ := Int32 → Int32 → Option (Int32)) (fun k6 => ∀ (x4 : Int32) (x5 : Int32), Jd C 6 (QJ C oI (fun _ => S)) S 8 [some (.ref p0), some (.int p1), some (.int p2), some (.int p3), some (.int x4), some (.int x5)] [] (k6 x4 x5)) (fun _ _ => s_none) (fun k6 h7 x4 x5 => ?_) FU 1000 0
    refine s_run X ok_X3_leastDistance 4 2 (pc' := 13) (vs' := [some (.ref p0), some (.int p1), some (.int p2), some (.int p3), some (.int x4), some (.int x5)]) (st' := [.int 900, .int x5]) rfl ?_
    refine s_icmp_ge (tgt := 55) X (dk okd_X3_leastDistance 0 rfl) (by decide) ?_ ?_
    · exact s_less [false, false, false, false, true, false] rfl (h3 x4)
    · refine s_run X ok_X3_leastDistance 6 1 (pc' := 17) (vs' := [some (.ref p0), some (.int p1), some (.int p2), some (.int p3), some (.int x4), some (.int x5)]) (st' := [.ref p0]) rfl ?_
      refine s_getR X fl_X3_9 t0_ (dk okd_X3_leastDistance 1 rfl) (fun a8 (t9 : tT C a8 13) => ?_)
      refine s_run X ok_X3_leastDistance 7 1 (pc' := 22) (vs' := [some (.ref p0), some (.int p1), some (.int p2), some (.int p3), some (.int x4), some (.int x5)]) (st' := [.int x5, .ref a8]) rfl ?_
      refine s_iald X t9 (dk okd_X3_leastDistance 2 rfl) (fun v10 => ?_)
      refine s_run X ok_X3_leastDistance 8 1 (pc' := 24) (vs' := [some (.ref p0), some (.int p1), some (.int p2), some (.int p3), some (.int x4), some (.int x5)]) (st' := [.int p1, .int v10]) rfl ?_
      refine s_jn (κ := Int32 → Option (Int32)) (fun k12 => ∀ (x11 : Int32), Jd C 6 (QJ C oI (fun _ => S)) S 49 [some (.ref p0), some (.int p1), some (.int p2), some (.int p3), some (.int x11), some (.int x5)] [] (k12 x11)) (fun x11 => ?_) (fun k12 h13 => ?_)
      · refine s_run X ok_X3_leastDistance 17 2 (pc' := 8) (vs' := [some (.ref p0), some (.int p1), some (.int p2), some (.int p3), some (.int x11), some (.int (x5 + 1))]) (st' := []) rfl ?_
        exact h7 x11 (x5 + 1)
      · refine s_icmp_ne (tgt := 49) X (dk okd_X3_leastDistance 3 rfl) (by decide) ?_ ?_
        · exact h13 x4
        · refine s_run X ok_X3_leastDistance 9 5 (pc' := 35) (vs' := [some (.ref p0), some (.int p1), some (.int p2), some (.int p3), some (.int x4), some (.int x5)]) (st' := [.int 30, .int x5, .int p3, .int p2, .int x4]) rfl ?_
          refine s_irem0 X (dk okd_X3_leastDistance 4 rfl) (by decide) ?_
          refine s_run X ok_X3_leastDistance 14 2 (pc' := 40) (vs' := [some (.ref p0), some (.int p1), some (.int p2), some (.int p3), some (.int x4), some (.int x5)]) (st' := [.int 30, .int x5, .int (x5 - x5 / 30 * 30), .int p3, .int p2, .int x4]) rfl ?_
          refine s_idiv0 X (dk okd_X3_leastDistance 5 rfl) (by decide) ?_
          refine s_callS (As := [.int p2, .int p3, .int (x5 - x5 / 30 * 30), .int (x5 / 30)]) (rest := [.int x4]) X E ms_X3_65 (c_X3_steps S p2 p3 (x5 - x5 / 30 * 30) (x5 / 30)) rfl (ta0) rfl rfl (Nat.le_of_ble_eq_true rfl) (Nat.le_of_ble_eq_true rfl) (Nat.le_of_ble_eq_true rfl) (dk okd_X3_leastDistance 6 rfl) (st' := fun v14 => [.int v14, .int x4]) (fun _ => rfl) (fun v14 => ?_)
          refine s_Mmin X mm_X3_69 (Nat.le_of_ble_eq_true rfl) (Nat.le_of_ble_eq_true rfl) (dk okd_X3_leastDistance 7 rfl) (fun v15 => ?_)
          refine s_run X ok_X3_leastDistance 16 1 (pc' := 49) (vs' := [some (.ref p0), some (.int p1), some (.int p2), some (.int p3), some (.int v15), some (.int x5)]) (st' := []) rfl ?_
          exact h13 v15
def tab_X3_sizeWithin : List En := [(0, 0, 0, 0), (1, 11, 6, 0), (3, 4, 3, 0), (4, 11, 7, 0), (6, 5, 7, 0), (8, 5, 5, 0), (13, 4, 2, 0), (14, 11, 8, 0), (16, 5, 8, 0), (18, 5, 4, 0), (23, 8, 0, 0), (24, 4, 1, 0), (25, 5, 8, 0), (27, 5, 7, 0), (35, 16, 6, 1), (38, 16, 8, 1), (41, 41, 16, 0), (44, 16, 7, 1), (47, 41, 6, 0), (50, 5, 6, 0)]
theorem ok_X3_sizeWithin : tab_X3_sizeWithin.all (okE cX3_sizeWithin) = true := by decide +kernel
def ed_X3_sizeWithin : List (Nat × Instr × Nat) := [(10, .if_icmp .ge 40, 3), (20, .if_icmp .ge 24, 3), (29, .invokevirtual 47, 3), (32, .ifCond .eq 6, 3), (52, .ireturn, 1)]
theorem okd_X3_sizeWithin : ed_X3_sizeWithin.all (okD cX3_sizeWithin) = true := by decide +kernel
def f_X3_sizeWithin (S : St) (p0 : Nat) (p1 : Int32) (p2 : Int32) (p3 : Int32) (p4 : Int32) (p5 : Int32) : Option (Int32) := jn (κ := Int32 → Option (Int32)) (fun x1 => some x1) fun k2 => lp (κ := Int32 → Int32 → Option (Int32)) (fun _ _ => none) (fun k6 x4 x5 => if p5 ≤ x5 then (k2 x4) else (jn (κ := Int32 → Option (Int32)) (fun x8 => k6 x8 (x5 + 1)) fun k9 => lp (κ := Int32 → Int32 → Option (Int32)) (fun _ _ => none) (fun k13 x11 x12 => if p4 ≤ x12 then (k9 x11) else (cl (f_X3_belongs S p0 p1 x12 x5) fun (v15 : Int32) => jn (κ := Int32 → Option (Int32)) (fun x16 => k13 x16 (x12 + 1)) fun k17 => if v15 = 0 then (k17 x11) else (k17 (x11 + 1)))) FU x4 p2)) FU 0 p3
set_option maxHeartbeats 4000000 in
set_option maxRecDepth 100000 in
theorem c_X3_sizeWithin (S : St) (p0 : Nat) (p1 : Int32) (p2 : Int32) (p3 : Int32) (p4 : Int32) (p5 : Int32) : Ct yX3_sizeWithin cX3_sizeWithin 9 (some .int) 2 44 (fun _ => [.ref p0, .int p1, .int p2, .int p3, .int p4, .int p5]) [(p0, 3)] S (f_X3_sizeWithin S p0 p1 p2 p3 p4 p5) oI (fun _ => S) := by
  refine Ct_of RX3 rfl (by decide) (fun _ => Nat.le_of_ble_eq_true rfl) 3 (vs := fun _ => [some (.ref p0), some (.int p1), some (.int p2), some (.int p3), some (.int p4), some (.int p5), none, none, none]) (fun _ => rfl) (fun C X E hr ht => ?_)
  have t0_ : tT C p0 3 := ht (p0, 3) (by simp)
  show Jd C 9 (QJ C oI (fun _ => S)) S 0 [some (.ref p0), some (.int p1), some (.int p2), some (.int p3), some (.int p4), some (.int p5), none, none, none] [] (f_X3_sizeWithin S p0 p1 p2 p3 p4 p5)
  unfold f_X3_sizeWithin
  refine s_run X ok_X3_sizeWithin 0 4 (pc' := 6) (vs' := [some (.ref p0), some (.int p1), some (.int p2), some (.int p3), some (.int p4), some (.int p5), some (.int 0), some (.int p3), none]) (st' := []) rfl ?_
  refine s_jn (κ := Int32 → Option (Int32)) (fun k2 => ∀ (x1 : Int32), Jd C 9 (QJ C oI (fun _ => S)) S 50 [none, none, none, none, none, none, some (.int x1), none, none] [] (k2 x1)) (fun x1 => ?_) (fun k2 h3 => ?_)
  · refine s_run X ok_X3_sizeWithin 19 1 (pc' := 52) (vs' := [none, none, none, none, none, none, some (.int x1), none, none]) (st' := [.int x1]) rfl ?_
    exact s_iret X hr (dk okd_X3_sizeWithin 4 rfl) rfl rfl
  · refine s_less [true, true, true, false, true, true, true, true, false] (vs' := [some (.ref p0), some (.int p1), some (.int p2), none, some (.int p4), some (.int p5), some (.int 0), some (.int p3), none]) rfl ?_
    refine s_lp (κ := Int32 → Int32 → Option (Int32)) (fun k6 => ∀ (x4 : Int32) (x5 : Int32), Jd C 9 (QJ C oI (fun _ => S)) S 6 [some (.ref p0), some (.int p1), some (.int p2), none, some (.int p4), some (.int p5), some (.int x4), some (.int x5), none] [] (k6 x4 x5)) (fun _ _ => s_none) (fun k6 h7 x4 x5 => ?_) FU 0 p3
    refine s_run X ok_X3_sizeWithin 4 2 (pc' := 10) (vs' := [some (.ref p0), some (.int p1), some (.int p2), none, some (.int p4), some (.int p5), some (.int x4), some (.int x5), none]) (st' := [.int p5, .int x5]) rfl ?_
    refine s_icmp_ge (tgt := 50) X (dk okd_X3_sizeWithin 0 rfl) (by decide) ?_ ?_
    · exact s_less [false, false, false, false, false, false, true, false, false] rfl (h3 x4)
    · refine s_run X ok_X3_sizeWithin 6 2 (pc' := 16) (vs' := [some (.ref p0), some (.int p1), some (.int p2), none, some (.int p4), some (.int p5), some (.int x4), some (.int x5), some (.int p2)]) (st' := []) rfl ?_
      refine s_jn (κ := Int32 → Option (Int32)) (fun k9 => ∀ (x8 : Int32), Jd C 9 (QJ C oI (fun _ => S)) S 44 [some (.ref p0), some (.int p1), some (.int p2), none, some (.int p4), some (.int p5), some (.int x8), some (.int x5), none] [] (k9 x8)) (fun x8 => ?_) (fun k9 h10 => ?_)
      · refine s_run X ok_X3_sizeWithin 17 2 (pc' := 6) (vs' := [some (.ref p0), some (.int p1), some (.int p2), none, some (.int p4), some (.int p5), some (.int x8), some (.int (x5 + 1)), none]) (st' := []) rfl ?_
        exact h7 x8 (x5 + 1)
      · refine s_lp (κ := Int32 → Int32 → Option (Int32)) (fun k13 => ∀ (x11 : Int32) (x12 : Int32), Jd C 9 (QJ C oI (fun _ => S)) S 16 [some (.ref p0), some (.int p1), some (.int p2), none, some (.int p4), some (.int p5), some (.int x11), some (.int x5), some (.int x12)] [] (k13 x11 x12)) (fun _ _ => s_none) (fun k13 h14 x11 x12 => ?_) FU x4 p2
        refine s_run X ok_X3_sizeWithin 8 2 (pc' := 20) (vs' := [some (.ref p0), some (.int p1), some (.int p2), none, some (.int p4), some (.int p5), some (.int x11), some (.int x5), some (.int x12)]) (st' := [.int p4, .int x12]) rfl ?_
        refine s_icmp_ge (tgt := 44) X (dk okd_X3_sizeWithin 1 rfl) (by decide) ?_ ?_
        · exact s_less [true, true, true, false, true, true, true, true, false] rfl (h10 x11)
        · refine s_run X ok_X3_sizeWithin 10 4 (pc' := 29) (vs' := [some (.ref p0), some (.int p1), some (.int p2), none, some (.int p4), some (.int p5), some (.int x11), some (.int x5), some (.int x12)]) (st' := [.int x5, .int x12, .int p1, .ref p0]) rfl ?_
          refine s_callV (b := p0) (As := [.int p1, .int x12, .int x5]) (rest := []) X E mv_X3_47 (c_X3_belongs S p0 p1 x12 x5) rfl (ta1 t0_) rfl (by decide) t0_ rfl rfl (Nat.le_of_ble_eq_true rfl) (Nat.le_of_ble_eq_true rfl) (Nat.le_of_ble_eq_true rfl) (dk okd_X3_sizeWithin 2 rfl) (st' := fun v15 => [.int v15]) (fun _ => rfl) (fun v15 => ?_)
          refine s_jn (κ := Int32 → Option (Int32)) (fun k17 => ∀ (x16 : Int32), Jd C 9 (QJ C oI (fun _ => S)) S 38 [some (.ref p0), some (.int p1), some (.int p2), none, some (.int p4), some (.int p5), some (.int x16), some (.int x5), some (.int x12)] [] (k17 x16)) (fun x16 => ?_) (fun k17 h18 => ?_)
          · refine s_run X ok_X3_sizeWithin 15 2 (pc' := 16) (vs' := [some (.ref p0), some (.int p1), some (.int p2), none, some (.int p4), some (.int p5), some (.int x16), some (.int x5), some (.int (x12 + 1))]) (st' := []) rfl ?_
            exact h14 x16 (x12 + 1)
          · refine s_if_eq (tgt := 38) X (dk okd_X3_sizeWithin 3 rfl) (by decide) ?_ ?_
            · exact h18 x11
            · refine s_run X ok_X3_sizeWithin 14 1 (pc' := 38) (vs' := [some (.ref p0), some (.int p1), some (.int p2), none, some (.int p4), some (.int p5), some (.int (x11 + 1)), some (.int x5), some (.int x12)]) (st' := []) rfl ?_
              exact h18 (x11 + 1)
def tab_X4_addByte : List En := [(0, 8, 0, 0), (4, 2, 0, 256), (10, 8, 0, 0), (14, 8, 0, 0), (18, 4, 1, 0), (19, 33, 0, 0), (21, 8, 0, 0), (22, 36, 0, 0), (26, 0, 0, 1), (27, 17, 0, 0)]
theorem ok_X4_addByte : tab_X4_addByte.all (okE cX4_addByte) = true := by decide +kernel
def ed_X4_addByte : List (Nat × Instr × Nat) := [(1, .getfield 15, 3), (7, .if_icmp .ge 24, 3), (11, .getfield 9, 3), (15, .getfield 15, 3), (20, .bastore, 1), (23, .getfield 15, 3), (28, .putfield 15, 3), (31, .return_, 1)]
theorem okd_X4_addByte : ed_X4_addByte.all (okD cX4_addByte) = true := by decide +kernel
def f_X4_addByte (S : St) (p0 : Nat) (p1 : Int32) : Option (St) := lt (gI S p0 1) fun (v1 : Int32) => if 256 ≤ v1 then (some S) else (lt (gR S p0 0) fun (a2 : Nat) => lt (gI S p0 1) fun (v4 : Int32) => stI S a2 v4 (vp_nar .byte (Int8.toInt32 (Int32.toInt8 p1))) fun (S5 : St) => lt (gI S5 p0 1) fun (v6 : Int32) => lt (uI S5 p0 1 (v6 + 1)) fun (S7 : St) => some S7)
set_option maxHeartbeats 4000000 in
set_option maxRecDepth 100000 in
theorem c_X4_addByte (S : St) (p0 : Nat) (p1 : Int32) : Ct yX4_addByte cX4_addByte 2 none 0 0 (fun _ => [.ref p0, .int p1]) [(p0, 4)] S (f_X4_addByte S p0 p1) oV sV := by
  refine Ct_of RX4 rfl (by decide) (fun _ => Nat.le_of_ble_eq_true rfl) 0 (vs := fun _ => [some (.ref p0), some (.int p1)]) (fun _ => rfl) (fun C X E hr ht => ?_)
  have t0_ : tT C p0 4 := ht (p0, 4) (by simp)
  show Jd C 2 (QJ C oV sV) S 0 [some (.ref p0), some (.int p1)] [] (f_X4_addByte S p0 p1)
  unfold f_X4_addByte
  refine s_run X ok_X4_addByte 0 1 (pc' := 1) (vs' := [some (.ref p0), some (.int p1)]) (st' := [.ref p0]) rfl ?_
  refine s_getI X fl_X4_15 t0_ (dk okd_X4_addByte 0 rfl) (fun v1 => ?_)
  refine s_run X ok_X4_addByte 1 1 (pc' := 7) (vs' := [some (.ref p0), some (.int p1)]) (st' := [.int 256, .int v1]) rfl ?_
  refine s_icmp_ge (tgt := 31) X (dk okd_X4_addByte 1 rfl) (by decide) ?_ ?_
  · exact s_vret X hr (dk okd_X4_addByte 7 rfl) rfl rfl
  · refine s_run X ok_X4_addByte 2 1 (pc' := 11) (vs' := [some (.ref p0), some (.int p1)]) (st' := [.ref p0]) rfl ?_
    refine s_getR X fl_X4_9 t0_ (dk okd_X4_addByte 2 rfl) (fun a2 (t3 : tT C a2 12) => ?_)
    refine s_run X ok_X4_addByte 3 1 (pc' := 15) (vs' := [some (.ref p0), some (.int p1)]) (st' := [.ref p0, .ref a2]) rfl ?_
    refine s_getI X fl_X4_15 t0_ (dk okd_X4_addByte 3 rfl) (fun v4 => ?_)
    refine s_run X ok_X4_addByte 4 2 (pc' := 20) (vs' := [some (.ref p0), some (.int p1)]) (st' := [.int (Int8.toInt32 (Int32.toInt8 p1)), .int v4, .ref a2]) rfl ?_
    refine s_bast X t3 (dk okd_X4_addByte 4 rfl) (fun S5 => ?_)
    refine s_run X ok_X4_addByte 6 2 (pc' := 23) (vs' := [some (.ref p0), some (.int p1)]) (st' := [.ref p0, .ref p0]) rfl ?_
    refine s_getI X fl_X4_15 t0_ (dk okd_X4_addByte 5 rfl) (fun v6 => ?_)
    refine s_run X ok_X4_addByte 8 2 (pc' := 28) (vs' := [some (.ref p0), some (.int p1)]) (st' := [.int (v6 + 1), .ref p0]) rfl ?_
    refine s_putI X fp_X4_15 t0_ (dk okd_X4_addByte 6 rfl) (fun S7 => ?_)
    exact s_vret X hr (dk okd_X4_addByte 7 rfl) rfl rfl
def tab_X5_clear : List En := [(0, 8, 0, 0), (1, 0, 0, 0), (5, 8, 0, 0), (6, 0, 0, 0)]
theorem ok_X5_clear : tab_X5_clear.all (okE cX5_clear) = true := by decide +kernel
def ed_X5_clear : List (Nat × Instr × Nat) := [(2, .putfield 35, 3), (7, .putfield 39, 3), (10, .return_, 1)]
theorem okd_X5_clear : ed_X5_clear.all (okD cX5_clear) = true := by decide +kernel
def f_X5_clear (S : St) (p0 : Nat) : Option (St) := lt (uI S p0 7 0) fun (S1 : St) => lt (uI S1 p0 8 0) fun (S2 : St) => some S2
set_option maxHeartbeats 4000000 in
set_option maxRecDepth 100000 in
theorem c_X5_clear (S : St) (p0 : Nat) : Ct yX5_clear cX5_clear 1 none 0 0 (fun _ => [.ref p0]) [(p0, 5)] S (f_X5_clear S p0) oV sV := by
  refine Ct_of RX5 rfl (by decide) (fun _ => Nat.le_of_ble_eq_true rfl) 0 (vs := fun _ => [some (.ref p0)]) (fun _ => rfl) (fun C X E hr ht => ?_)
  have t0_ : tT C p0 5 := ht (p0, 5) (by simp)
  show Jd C 1 (QJ C oV sV) S 0 [some (.ref p0)] [] (f_X5_clear S p0)
  unfold f_X5_clear
  refine s_run X ok_X5_clear 0 2 (pc' := 2) (vs' := [some (.ref p0)]) (st' := [.int 0, .ref p0]) rfl ?_
  refine s_putI X fp_X5_35 t0_ (dk okd_X5_clear 0 rfl) (fun S1 => ?_)
  refine s_run X ok_X5_clear 2 2 (pc' := 7) (vs' := [some (.ref p0)]) (st' := [.int 0, .ref p0]) rfl ?_
  refine s_putI X fp_X5_39 t0_ (dk okd_X5_clear 1 rfl) (fun S2 => ?_)
  exact s_vret X hr (dk okd_X5_clear 2 rfl) rfl rfl
