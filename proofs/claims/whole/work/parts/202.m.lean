theorem cl_X12_116 : Cond.constantLong RX12 116 30 ∈ TT := TT_8 (i := 152) rfl rfl
theorem cl_X12_144 : Cond.constantLong RX12 144 100 ∈ TT := TT_8 (i := 196) rfl rfl
theorem cl_X12_146 : Cond.constantLong RX12 146 16 ∈ TT := TT_8 (i := 201) rfl rfl
theorem cl_X12_155 : Cond.constantLong RX12 155 58 ∈ TT := TT_8 (i := 218) rfl rfl
theorem cl_X12_160 : Cond.constantLong RX12 160 5000 ∈ TT := TT_9 (i := 11) rfl rfl
theorem cl_X12_162 : Cond.constantLong RX12 162 10000 ∈ TT := TT_9 (i := 12) rfl rfl
theorem cl_X12_174 : Cond.constantLong RX12 174 1000000000 ∈ TT := TT_8 (i := 239) rfl rfl
theorem fl_X12_17 : FL RX12 17 11 3 2 := ⟨RX12, TX12, 22, rfl, by decide, uw_X12, TT_7 (i := 228) rfl rfl, rfl, rfl, by decide⟩
theorem fl_X12_20 : FL RX12 20 11 4 2 := ⟨RX12, TX12, 22, rfl, by decide, uw_X12, TT_7 (i := 229) rfl rfl, rfl, rfl, by decide⟩
theorem fl_X12_75 : FL RX12 75 11 19 0 := ⟨RX12, TX12, 22, rfl, by decide, uw_X12, TT_8 (i := 4) rfl rfl, rfl, rfl, by decide⟩
theorem fl_X12_78 : FL RX12 78 11 20 0 := ⟨RX12, TX12, 22, rfl, by decide, uw_X12, TT_8 (i := 5) rfl rfl, rfl, rfl, by decide⟩
theorem ms_X12_107 : MS RX12 107 yX12_size cX12_size 1 (some .int) 1 := ⟨TT_8 (i := 142) rfl rfl, TT_8 (i := 143) rfl rfl, TT_1 (i := 13) rfl rfl, TT_8 (i := 144) rfl rfl, ⟨by decide, by decide, by decide +kernel⟩⟩
theorem ms_X12_110 : MS RX12 110 yX12_apart cX12_apart 3 (some .int) 3 := ⟨TT_8 (i := 139) rfl rfl, TT_8 (i := 140) rfl rfl, TT_1 (i := 13) rfl rfl, TT_8 (i := 141) rfl rfl, ⟨by decide, by decide, by decide +kernel⟩⟩
theorem ms_X12_124 : MS RX12 124 yX12_isArea cX12_isArea 4 (some .boolean) 4 := ⟨TT_8 (i := 149) rfl rfl, TT_8 (i := 150) rfl rfl, TT_1 (i := 13) rfl rfl, TT_8 (i := 151) rfl rfl, ⟨by decide, by decide, by decide +kernel⟩⟩
theorem ms_X12_131 : MS RX12 131 yX12_isWithin cX12_isWithin 5 (some .boolean) 5 := ⟨TT_8 (i := 161) rfl rfl, TT_8 (i := 162) rfl rfl, TT_1 (i := 13) rfl rfl, TT_8 (i := 163) rfl rfl, ⟨by decide, by decide, by decide +kernel⟩⟩
theorem ms_X12_164 : MS RX12 164 yX12_half cX12_half 2 (some .long) 1 := ⟨TT_9 (i := 8) rfl rfl, TT_9 (i := 9) rfl rfl, TT_1 (i := 13) rfl rfl, TT_9 (i := 10) rfl rfl, ⟨by decide, by decide, by decide +kernel⟩⟩
theorem mv_X12_81 : MV RX12 81 yX12_throwsIf cX12_throwsIf 3 (some .boolean) 2 := ⟨TT_8 (i := 87) rfl rfl, TT_8 (i := 89) rfl rfl, TT_s (i := 32) (by decide +kernel) (by decide +kernel), TT_1 (i := 13) rfl rfl, TT_8 (i := 90) rfl rfl, ⟨by decide, by decide, by decide +kernel⟩⟩
theorem mv_X12_85 : MV RX12 85 yX12_isFranchisee cX12_isFranchisee 2 (some .boolean) 1 := ⟨TT_8 (i := 99) rfl rfl, TT_8 (i := 101) rfl rfl, TT_s (i := 34) (by decide +kernel) (by decide +kernel), TT_1 (i := 13) rfl rfl, TT_8 (i := 102) rfl rfl, ⟨by decide, by decide, by decide +kernel⟩⟩
theorem mv_X12_89 : MV RX12 89 yX12_areaOf cX12_areaOf 4 (some .int) 1 := ⟨TT_8 (i := 103) rfl rfl, TT_8 (i := 105) rfl rfl, TT_s (i := 35) (by decide +kernel) (by decide +kernel), TT_1 (i := 13) rfl rfl, TT_8 (i := 106) rfl rfl, ⟨by decide, by decide, by decide +kernel⟩⟩
theorem mv_X12_93 : MV RX12 93 yX12_owns cX12_owns 4 (some .boolean) 3 := ⟨TT_8 (i := 115) rfl rfl, TT_8 (i := 117) rfl rfl, TT_s (i := 37) (by decide +kernel) (by decide +kernel), TT_1 (i := 13) rfl rfl, TT_8 (i := 118) rfl rfl, ⟨by decide, by decide, by decide +kernel⟩⟩
theorem mv_X12_97 : MV RX12 97 yX12_neighboursOf cX12_neighboursOf 4 (some .int) 3 := ⟨TT_8 (i := 111) rfl rfl, TT_8 (i := 113) rfl rfl, TT_s (i := 36) (by decide +kernel) (by decide +kernel), TT_1 (i := 13) rfl rfl, TT_8 (i := 114) rfl rfl, ⟨by decide, by decide, by decide +kernel⟩⟩
theorem mv_X12_101 : MV RX12 101 yX12_isReached cX12_isReached 3 (some .boolean) 2 := ⟨TT_8 (i := 131) rfl rfl, TT_8 (i := 133) rfl rfl, TT_s (i := 39) (by decide +kernel) (by decide +kernel), TT_1 (i := 13) rfl rfl, TT_8 (i := 134) rfl rfl, ⟨by decide, by decide, by decide +kernel⟩⟩
theorem mv_X12_104 : MV RX12 104 yX12_connected cX12_connected 8 (some .boolean) 1 := ⟨TT_8 (i := 127) rfl rfl, TT_8 (i := 129) rfl rfl, TT_s (i := 38) (by decide +kernel) (by decide +kernel), TT_1 (i := 13) rfl rfl, TT_8 (i := 130) rfl rfl, ⟨by decide, by decide, by decide +kernel⟩⟩
theorem mv_X12_113 : MV RX12 113 yX12_ofOutlet cX12_ofOutlet 3 (some .long) 2 := ⟨TT_8 (i := 172) rfl rfl, TT_8 (i := 174) rfl rfl, TT_s (i := 44) (by decide +kernel) (by decide +kernel), TT_1 (i := 13) rfl rfl, TT_8 (i := 175) rfl rfl, ⟨by decide, by decide, by decide +kernel⟩⟩
theorem mv_X12_118 : MV RX12 118 yX12_isOpen cX12_isOpen 2 (some .boolean) 1 := ⟨TT_8 (i := 168) rfl rfl, TT_8 (i := 170) rfl rfl, TT_s (i := 43) (by decide +kernel) (by decide +kernel), TT_1 (i := 13) rfl rfl, TT_8 (i := 171) rfl rfl, ⟨by decide, by decide, by decide +kernel⟩⟩
theorem mv_X12_121 : MV RX12 121 yX12_cellOf cX12_cellOf 2 (some .int) 1 := ⟨TT_8 (i := 176) rfl rfl, TT_8 (i := 178) rfl rfl, TT_s (i := 45) (by decide +kernel) (by decide +kernel), TT_1 (i := 13) rfl rfl, TT_8 (i := 179) rfl rfl, ⟨by decide, by decide, by decide +kernel⟩⟩
theorem mv_X12_128 : MV RX12 128 yX12_isActive cX12_isActive 2 (some .boolean) 1 := ⟨TT_8 (i := 153) rfl rfl, TT_8 (i := 155) rfl rfl, TT_s (i := 40) (by decide +kernel) (by decide +kernel), TT_1 (i := 13) rfl rfl, TT_8 (i := 156) rfl rfl, ⟨by decide, by decide, by decide +kernel⟩⟩
theorem mv_X12_135 : MV RX12 135 yX12_hasOutlet cX12_hasOutlet 3 (some .boolean) 1 := ⟨TT_8 (i := 164) rfl rfl, TT_8 (i := 166) rfl rfl, TT_s (i := 42) (by decide +kernel) (by decide +kernel), TT_1 (i := 13) rfl rfl, TT_8 (i := 167) rfl rfl, ⟨by decide, by decide, by decide +kernel⟩⟩
theorem mv_X12_138 : MV RX12 138 yX12_give cX12_give 3 none 1 := ⟨TT_8 (i := 180) rfl rfl, TT_8 (i := 182) rfl rfl, TT_s (i := 46) (by decide +kernel) (by decide +kernel), TT_1 (i := 13) rfl rfl, TT_8 (i := 183) rfl rfl, ⟨by decide, by decide, by decide +kernel⟩⟩
theorem mv_X12_141 : MV RX12 141 yX12_isOutlet cX12_isOutlet 2 (some .boolean) 1 := ⟨TT_8 (i := 188) rfl rfl, TT_8 (i := 190) rfl rfl, TT_s (i := 47) (by decide +kernel) (by decide +kernel), TT_1 (i := 13) rfl rfl, TT_8 (i := 191) rfl rfl, ⟨by decide, by decide, by decide +kernel⟩⟩
theorem mv_X12_148 : MV RX12 148 yX12_putOutlet cX12_putOutlet 6 none 4 := ⟨TT_8 (i := 202) rfl rfl, TT_8 (i := 204) rfl rfl, TT_s (i := 48) (by decide +kernel) (by decide +kernel), TT_1 (i := 13) rfl rfl, TT_8 (i := 205) rfl rfl, ⟨by decide, by decide, by decide +kernel⟩⟩
theorem mv_X12_152 : MV RX12 152 yX12_nearestOutlet cX12_nearestOutlet 6 (some .int) 2 := ⟨TT_8 (i := 210) rfl rfl, TT_8 (i := 212) rfl rfl, TT_s (i := 49) (by decide +kernel) (by decide +kernel), TT_1 (i := 13) rfl rfl, TT_8 (i := 213) rfl rfl, ⟨by decide, by decide, by decide +kernel⟩⟩
theorem mv_X12_157 : MV RX12 157 yX12_cellsBefore cX12_cellsBefore 5 (some .int) 2 := ⟨TT_8 (i := 227) rfl rfl, TT_8 (i := 229) rfl rfl, TT_s (i := 50) (by decide +kernel) (by decide +kernel), TT_1 (i := 13) rfl rfl, TT_8 (i := 230) rfl rfl, ⟨by decide, by decide, by decide +kernel⟩⟩
theorem mv_X12_168 : MV RX12 168 yX12_ofPlan cX12_ofPlan 3 (some .long) 2 := ⟨TT_9 (i := 4) rfl rfl, TT_9 (i := 6) rfl rfl, TT_s (i := 53) (by decide +kernel) (by decide +kernel), TT_1 (i := 13) rfl rfl, TT_9 (i := 7) rfl rfl, ⟨by decide, by decide, by decide +kernel⟩⟩
theorem mv_X12_171 : MV RX12 171 yX12_isPlan cX12_isPlan 2 (some .boolean) 1 := ⟨TT_8 (i := 235) rfl rfl, TT_8 (i := 237) rfl rfl, TT_s (i := 51) (by decide +kernel) (by decide +kernel), TT_1 (i := 13) rfl rfl, TT_8 (i := 238) rfl rfl, ⟨by decide, by decide, by decide +kernel⟩⟩
theorem mv_X12_176 : MV RX12 176 yX12_royaltyOf cX12_royaltyOf 14 (some .long) 2 := ⟨TT_9 (i := 0) rfl rfl, TT_9 (i := 2) rfl rfl, TT_s (i := 52) (by decide +kernel) (by decide +kernel), TT_1 (i := 13) rfl rfl, TT_9 (i := 3) rfl rfl, ⟨by decide, by decide, by decide +kernel⟩⟩
theorem mv_X12_180 : MV RX12 180 yX12_planNow cX12_planNow 2 (some .int) 1 := ⟨TT_9 (i := 17) rfl rfl, TT_9 (i := 19) rfl rfl, TT_s (i := 54) (by decide +kernel) (by decide +kernel), TT_1 (i := 13) rfl rfl, TT_9 (i := 20) rfl rfl, ⟨by decide, by decide, by decide +kernel⟩⟩
theorem mv_X12_183 : MV RX12 183 yX12_set cX12_set 5 none 3 := ⟨TT_9 (i := 25) rfl rfl, TT_9 (i := 27) rfl rfl, TT_s (i := 55) (by decide +kernel) (by decide +kernel), TT_1 (i := 13) rfl rfl, TT_9 (i := 28) rfl rfl, ⟨by decide, by decide, by decide +kernel⟩⟩
def tab_X12_count : List En := [(0, 8, 0, 0), (1, 0, 0, 0), (5, 4, 1, 0), (36, 8, 0, 0), (40, 0, 0, 1), (42, 32, 0, 0), (44, 8, 0, 0), (48, 0, 0, 2), (50, 32, 0, 0), (52, 8, 0, 0), (56, 0, 0, 3), (58, 32, 0, 0), (60, 8, 0, 0), (64, 8, 0, 0), (68, 18, 0, 0), (70, 0, 0, (-1))]
theorem ok_X12_count : tab_X12_count.all (okE cX12_count) = true := by decide +kernel
def ed_X12_count : List (Nat × Instr × Nat) := [(2, .putfield 50, 3), (6, .tableswitch 64 0 3 #[30, 38, 46, 54], 30), (37, .getfield 9, 3), (41, .laload, 1), (43, .ireturn, 1), (45, .getfield 9, 3), (49, .laload, 1), (51, .ireturn, 1), (53, .getfield 9, 3), (57, .laload, 1), (59, .ireturn, 1), (61, .getfield 75, 3), (65, .getfield 78, 3), (69, .ireturn, 1), (71, .ireturn, 1)]
theorem okd_X12_count : ed_X12_count.all (okD cX12_count) = true := by decide +kernel
def f_X12_count (S : St) (p0 : Nat) (p1 : Int32) : Option (Int32 × St) := lt (uI S p0 2 0) fun (S1 : St) => if p1 = 0 then (lt (gR S1 p0 0) fun (a2 : Nat) => ldJ S1 a2 1 fun (v4 : Int64) => some ((Int64.toInt32 v4), S1)) else (if p1 = 1 then (lt (gR S1 p0 0) fun (a5 : Nat) => ldJ S1 a5 2 fun (v7 : Int64) => some ((Int64.toInt32 v7), S1)) else (if p1 = 2 then (lt (gR S1 p0 0) fun (a8 : Nat) => ldJ S1 a8 3 fun (v10 : Int64) => some ((Int64.toInt32 v10), S1)) else (if p1 = 3 then (lt (gI S1 p0 19) fun (v11 : Int32) => lt (gI S1 p0 20) fun (v12 : Int32) => some ((v11 - v12), S1)) else (some ((-1), S1)))))
set_option maxHeartbeats 4000000 in
set_option maxRecDepth 100000 in
theorem c_X12_count (S : St) (p0 : Nat) (p1 : Int32) : Ct yX12_count cX12_count 2 (some .int) 0 0 [.ref p0, .int p1] [(p0, 11)] S (f_X12_count S p0 p1) oIS sS := by
  refine Ct_of RX12 rfl (by decide) (Nat.le_of_ble_eq_true rfl) 0 (vs := [some (.ref p0), some (.int p1)]) rfl (fun C X E hr ht => ?_)
  have t0_ : tT C p0 11 := ht (p0, 11) (by simp)
  unfold f_X12_count
  refine s_run X ok_X12_count 0 2 (pc' := 2) (vs' := [some (.ref p0), some (.int p1)]) (st' := [.int 0, .ref p0]) rfl ?_
  refine s_putI X fp_X12_50 t0_ (dk okd_X12_count 0 rfl) (fun S1 => ?_)
  refine s_run X ok_X12_count 2 1 (pc' := 6) (vs' := [some (.ref p0), some (.int p1)]) (st' := [.int p1]) rfl ?_
  refine s_tabc (c := 0) (tgt := 36) X (dk okd_X12_count 1 rfl) (by decide) (by decide) rfl (by decide) ?_ (fun n0 => ?_)
  · refine s_run X ok_X12_count 3 1 (pc' := 37) (vs' := [some (.ref p0), some (.int p1)]) (st' := [.ref p0]) rfl ?_
    refine s_getR X fl_X12_9 t0_ (dk okd_X12_count 2 rfl) (fun a2 (t3 : tT C a2 14) => ?_)
    refine s_run X ok_X12_count 4 1 (pc' := 41) (vs' := [some (.ref p0), some (.int p1)]) (st' := [.int 1, .ref a2]) rfl ?_
    refine s_lald X t3 (dk okd_X12_count 3 rfl) (fun v4 => ?_)
    refine s_run X ok_X12_count 5 1 (pc' := 43) (vs' := [some (.ref p0), some (.int p1)]) (st' := [.int (Int64.toInt32 v4)]) rfl ?_
    exact s_iret X hr (dk okd_X12_count 4 rfl) rfl rfl
  refine s_tabc (c := 1) (tgt := 44) X (dk okd_X12_count 1 rfl) (by decide) (by decide) rfl (by decide) ?_ (fun n1 => ?_)
  · refine s_run X ok_X12_count 6 1 (pc' := 45) (vs' := [some (.ref p0), some (.int p1)]) (st' := [.ref p0]) rfl ?_
    refine s_getR X fl_X12_9 t0_ (dk okd_X12_count 5 rfl) (fun a5 (t6 : tT C a5 14) => ?_)
    refine s_run X ok_X12_count 7 1 (pc' := 49) (vs' := [some (.ref p0), some (.int p1)]) (st' := [.int 2, .ref a5]) rfl ?_
    refine s_lald X t6 (dk okd_X12_count 6 rfl) (fun v7 => ?_)
    refine s_run X ok_X12_count 8 1 (pc' := 51) (vs' := [some (.ref p0), some (.int p1)]) (st' := [.int (Int64.toInt32 v7)]) rfl ?_
    exact s_iret X hr (dk okd_X12_count 7 rfl) rfl rfl
  refine s_tabc (c := 2) (tgt := 52) X (dk okd_X12_count 1 rfl) (by decide) (by decide) rfl (by decide) ?_ (fun n2 => ?_)
  · refine s_run X ok_X12_count 9 1 (pc' := 53) (vs' := [some (.ref p0), some (.int p1)]) (st' := [.ref p0]) rfl ?_
    refine s_getR X fl_X12_9 t0_ (dk okd_X12_count 8 rfl) (fun a8 (t9 : tT C a8 14) => ?_)
    refine s_run X ok_X12_count 10 1 (pc' := 57) (vs' := [some (.ref p0), some (.int p1)]) (st' := [.int 3, .ref a8]) rfl ?_
    refine s_lald X t9 (dk okd_X12_count 9 rfl) (fun v10 => ?_)
    refine s_run X ok_X12_count 11 1 (pc' := 59) (vs' := [some (.ref p0), some (.int p1)]) (st' := [.int (Int64.toInt32 v10)]) rfl ?_
    exact s_iret X hr (dk okd_X12_count 10 rfl) rfl rfl
  refine s_tabc (c := 3) (tgt := 60) X (dk okd_X12_count 1 rfl) (by decide) (by decide) rfl (by decide) ?_ (fun n3 => ?_)
  · refine s_run X ok_X12_count 12 1 (pc' := 61) (vs' := [some (.ref p0), some (.int p1)]) (st' := [.ref p0]) rfl ?_
    refine s_getI X fl_X12_75 t0_ (dk okd_X12_count 11 rfl) (fun v11 => ?_)
    refine s_run X ok_X12_count 13 1 (pc' := 65) (vs' := [some (.ref p0), some (.int p1)]) (st' := [.ref p0, .int v11]) rfl ?_
    refine s_getI X fl_X12_78 t0_ (dk okd_X12_count 12 rfl) (fun v12 => ?_)
    refine s_run X ok_X12_count 14 1 (pc' := 69) (vs' := [some (.ref p0), some (.int p1)]) (st' := [.int (v11 - v12)]) rfl ?_
    exact s_iret X hr (dk okd_X12_count 13 rfl) rfl rfl
  refine s_tabd (tgt := 70) X (dk okd_X12_count 1 rfl) (tabout (n := 4) (by decide) (fun j hj => match j, hj with | 0, _ => n0 | 1, _ => n1 | 2, _ => n2 | 3, _ => n3)) (by decide) ?_
  refine s_run X ok_X12_count 15 1 (pc' := 71) (vs' := [some (.ref p0), some (.int p1)]) (st' := [.int (-1)]) rfl ?_
  exact s_iret X hr (dk okd_X12_count 14 rfl) rfl rfl
def tab_X12_month : List En := [(0, 8, 0, 0), (1, 0, 0, 0), (5, 8, 0, 0), (9, 0, 0, 0), (11, 32, 0, 0)]
theorem ok_X12_month : tab_X12_month.all (okE cX12_month) = true := by decide +kernel
def ed_X12_month : List (Nat × Instr × Nat) := [(2, .putfield 50, 3), (6, .getfield 9, 3), (10, .laload, 1), (12, .ireturn, 1)]
theorem okd_X12_month : ed_X12_month.all (okD cX12_month) = true := by decide +kernel
def f_X12_month (S : St) (p0 : Nat) : Option (Int32 × St) := lt (uI S p0 2 0) fun (S1 : St) => lt (gR S1 p0 0) fun (a2 : Nat) => ldJ S1 a2 0 fun (v4 : Int64) => some ((Int64.toInt32 v4), S1)
set_option maxHeartbeats 4000000 in
set_option maxRecDepth 100000 in
theorem c_X12_month (S : St) (p0 : Nat) : Ct yX12_month cX12_month 1 (some .int) 0 0 [.ref p0] [(p0, 11)] S (f_X12_month S p0) oIS sS := by
  refine Ct_of RX12 rfl (by decide) (Nat.le_of_ble_eq_true rfl) 0 (vs := [some (.ref p0)]) rfl (fun C X E hr ht => ?_)
  have t0_ : tT C p0 11 := ht (p0, 11) (by simp)
  unfold f_X12_month
  refine s_run X ok_X12_month 0 2 (pc' := 2) (vs' := [some (.ref p0)]) (st' := [.int 0, .ref p0]) rfl ?_
  refine s_putI X fp_X12_50 t0_ (dk okd_X12_month 0 rfl) (fun S1 => ?_)
  refine s_run X ok_X12_month 2 1 (pc' := 6) (vs' := [some (.ref p0)]) (st' := [.ref p0]) rfl ?_
  refine s_getR X fl_X12_9 t0_ (dk okd_X12_month 1 rfl) (fun a2 (t3 : tT C a2 14) => ?_)
  refine s_run X ok_X12_month 3 1 (pc' := 10) (vs' := [some (.ref p0)]) (st' := [.int 0, .ref a2]) rfl ?_
  refine s_lald X t3 (dk okd_X12_month 2 rfl) (fun v4 => ?_)
  refine s_run X ok_X12_month 4 1 (pc' := 12) (vs' := [some (.ref p0)]) (st' := [.int (Int64.toInt32 v4)]) rfl ?_
  exact s_iret X hr (dk okd_X12_month 3 rfl) rfl rfl
def tab_X12_owner : List En := [(0, 8, 0, 0), (1, 0, 0, 0), (5, 8, 0, 0), (6, 4, 1, 0), (7, 4, 2, 0), (14, 0, 0, 1), (15, 41, 19, 0), (18, 0, 0, 0), (19, 0, 0, 1), (26, 0, 0, 0), (27, 41, 36, 0), (30, 8, 0, 0), (31, 4, 1, 0), (32, 4, 2, 0)]
theorem ok_X12_owner : tab_X12_owner.all (okE cX12_owner) = true := by decide +kernel
def ed_X12_owner : List (Nat × Instr × Nat) := [(2, .putfield 50, 3), (8, .invokestatic 67, 3), (11, .ifCond .ne 7, 3), (20, .invokevirtual 81, 3), (23, .ifCond .eq 7, 3), (33, .invokevirtual 71, 3), (36, .ireturn, 1)]
theorem okd_X12_owner : ed_X12_owner.all (okD cX12_owner) = true := by decide +kernel
def f_X12_owner (S : St) (p0 : Nat) (p1 : Int32) (p2 : Int32) : Option (Int32 × St) := lt (uI S p0 2 0) fun (S1 : St) => cl (f_X12_isCell S1 p1 p2) fun (v2 : Int32) => jn (κ := Int32 → Option (Int32 × St)) (fun x3 => cl (f_X12_throwsIf S1 p0 x3 1) fun (o6 : Int32 × St) => if o6.1 = 0 then (cl (f_X12_ownerOf o6.2 p0 p1 p2) fun (v7 : Int32) => some (v7, o6.2)) else (some (0, o6.2))) fun k4 => if v2 = 0 then (k4 1) else (k4 0)
set_option maxHeartbeats 4000000 in
set_option maxRecDepth 100000 in
theorem c_X12_owner (S : St) (p0 : Nat) (p1 : Int32) (p2 : Int32) : Ct yX12_owner cX12_owner 3 (some .int) 2 46 [.ref p0, .int p1, .int p2] [(p0, 11)] S (f_X12_owner S p0 p1 p2) oIS sS := by
  refine Ct_of RX12 rfl (by decide) (Nat.le_of_ble_eq_true rfl) 0 (vs := [some (.ref p0), some (.int p1), some (.int p2)]) rfl (fun C X E hr ht => ?_)
  have t0_ : tT C p0 11 := ht (p0, 11) (by simp)
  unfold f_X12_owner
  refine s_run X ok_X12_owner 0 2 (pc' := 2) (vs' := [some (.ref p0), some (.int p1), some (.int p2)]) (st' := [.int 0, .ref p0]) rfl ?_
  refine s_putI X fp_X12_50 t0_ (dk okd_X12_owner 0 rfl) (fun S1 => ?_)
  refine s_run X ok_X12_owner 2 3 (pc' := 8) (vs' := [some (.ref p0), some (.int p1), some (.int p2)]) (st' := [.int p2, .int p1, .ref p0]) rfl ?_
  refine s_callS (rest := [.ref p0]) X E ms_X12_67 (c_X12_isCell S1 p1 p2) (ta0) rfl rfl (Nat.le_of_ble_eq_true rfl) (Nat.le_of_ble_eq_true rfl) (Nat.le_of_ble_eq_true rfl) (dk okd_X12_owner 1 rfl) (st' := fun v2 => [.int v2, .ref p0]) (fun _ => rfl) (fun v2 => ?_)
  refine s_jn (κ := Int32 → Option (Int32 × St)) (fun k4 => ∀ (x3 : Int32), Jd C 3 (QJ C oIS sS) S1 19 [some (.ref p0), some (.int p1), some (.int p2)] [.int x3, .ref p0] (k4 x3)) (fun x3 => ?_) (fun k4 h5 => ?_)
  · refine s_run X ok_X12_owner 8 1 (pc' := 20) (vs' := [some (.ref p0), some (.int p1), some (.int p2)]) (st' := [.int 1, .int x3, .ref p0]) rfl ?_
    refine s_callV (rest := []) X E mv_X12_81 (c_X12_throwsIf S1 p0 x3 1) (ta1 t0_) rfl (by decide) t0_ rfl rfl (Nat.le_of_ble_eq_true rfl) (Nat.le_of_ble_eq_true rfl) (Nat.le_of_ble_eq_true rfl) (dk okd_X12_owner 3 rfl) (st' := fun o6 => [.int o6.1]) (fun _ => rfl) (fun o6 => ?_)
    refine s_if_eq (tgt := 30) X (dk okd_X12_owner 4 rfl) (by decide) ?_ ?_
    · refine s_run X ok_X12_owner 11 3 (pc' := 33) (vs' := [some (.ref p0), some (.int p1), some (.int p2)]) (st' := [.int p2, .int p1, .ref p0]) rfl ?_
      refine s_callV (rest := []) X E mv_X12_71 (c_X12_ownerOf o6.2 p0 p1 p2) (ta1 t0_) rfl (by decide) t0_ rfl rfl (Nat.le_of_ble_eq_true rfl) (Nat.le_of_ble_eq_true rfl) (Nat.le_of_ble_eq_true rfl) (dk okd_X12_owner 5 rfl) (st' := fun v7 => [.int v7]) (fun _ => rfl) (fun v7 => ?_)
      exact s_iret X hr (dk okd_X12_owner 6 rfl) rfl rfl
    · refine s_run X ok_X12_owner 9 2 (pc' := 36) (vs' := [some (.ref p0), some (.int p1), some (.int p2)]) (st' := [.int 0]) rfl ?_
      exact s_iret X hr (dk okd_X12_owner 6 rfl) rfl rfl
  · refine s_if_ne (tgt := 18) X (dk okd_X12_owner 2 rfl) (by decide) ?_ ?_
    · refine s_run X ok_X12_owner 7 1 (pc' := 19) (vs' := [some (.ref p0), some (.int p1), some (.int p2)]) (st' := [.int 0, .ref p0]) rfl ?_
      exact h5 0
    · refine s_run X ok_X12_owner 5 2 (pc' := 19) (vs' := [some (.ref p0), some (.int p1), some (.int p2)]) (st' := [.int 1, .ref p0]) rfl ?_
      exact h5 1
def tab_X12_areaOf : List En := [(0, 0, 0, 0), (1, 10, 2, 0), (2, 0, 0, 0), (3, 10, 3, 0), (4, 4, 3, 0), (5, 2, 0, 900), (11, 4, 2, 0), (12, 8, 0, 0), (16, 2, 0, 250), (19, 4, 3, 0), (20, 17, 0, 0), (22, 4, 1, 0), (23, 31, 0, 0), (24, 40, 0, 0), (28, 0, 0, 1), (29, 41, 33, 0), (32, 0, 0, 0), (33, 17, 0, 0), (34, 10, 2, 0), (35, 16, 3, 1), (38, 41, 4, 0), (41, 4, 2, 0)]
theorem ok_X12_areaOf : tab_X12_areaOf.all (okE cX12_areaOf) = true := by decide +kernel
def ed_X12_areaOf : List (Nat × Instr × Nat) := [(8, .if_icmp .ge 33, 3), (13, .getfield 9, 3), (21, .laload, 1), (25, .ifCond .ne 7, 3), (42, .ireturn, 1)]
theorem okd_X12_areaOf : ed_X12_areaOf.all (okD cX12_areaOf) = true := by decide +kernel
def f_X12_areaOf (S : St) (p0 : Nat) (p1 : Int32) : Option (Int32) := jn (κ := Int32 → Option (Int32)) (fun x1 => some x1) fun k2 => lp (κ := Int32 → Int32 → Option (Int32)) (fun _ _ => none) (fun k6 x4 x5 => if 900 ≤ x5 then (k2 x4) else (lt (gR S p0 0) fun (a8 : Nat) => ldJ S a8 (250 + x5) fun (v10 : Int64) => jn (κ := Int32 → Option (Int32)) (fun x11 => lt (x4 + x11) fun (v14 : Int32) => k6 v14 (x5 + 1)) fun k12 => if v10 = (Int32.toInt64 p1) then (k12 1) else (k12 0))) FU 0 0
set_option maxHeartbeats 4000000 in
set_option maxRecDepth 100000 in
theorem c_X12_areaOf (S : St) (p0 : Nat) (p1 : Int32) : Ct yX12_areaOf cX12_areaOf 4 (some .int) 0 0 [.ref p0, .int p1] [(p0, 11)] S (f_X12_areaOf S p0 p1) oI (fun _ => S) := by
  refine Ct_of RX12 rfl (by decide) (Nat.le_of_ble_eq_true rfl) 2 (vs := [some (.ref p0), some (.int p1), none, none]) rfl (fun C X E hr ht => ?_)
  have t0_ : tT C p0 11 := ht (p0, 11) (by simp)
  unfold f_X12_areaOf
  refine s_run X ok_X12_areaOf 0 4 (pc' := 4) (vs' := [some (.ref p0), some (.int p1), some (.int 0), some (.int 0)]) (st' := []) rfl ?_
  refine s_jn (κ := Int32 → Option (Int32)) (fun k2 => ∀ (x1 : Int32), Jd C 4 (QJ C oI (fun _ => S)) S 41 [none, none, some (.int x1), none] [] (k2 x1)) (fun x1 => ?_) (fun k2 h3 => ?_)
  · refine s_run X ok_X12_areaOf 21 1 (pc' := 42) (vs' := [none, none, some (.int x1), none]) (st' := [.int x1]) rfl ?_
    exact s_iret X hr (dk okd_X12_areaOf 4 rfl) rfl rfl
  · refine s_lp (κ := Int32 → Int32 → Option (Int32)) (fun k6 => ∀ (x4 : Int32) (x5 : Int32), Jd C 4 (QJ C oI (fun _ => S)) S 4 [some (.ref p0), some (.int p1), some (.int x4), some (.int x5)] [] (k6 x4 x5)) (fun _ _ => s_none) (fun k6 h7 x4 x5 => ?_) FU 0 0
    refine s_run X ok_X12_areaOf 4 2 (pc' := 8) (vs' := [some (.ref p0), some (.int p1), some (.int x4), some (.int x5)]) (st' := [.int 900, .int x5]) rfl ?_
    refine s_icmp_ge (tgt := 41) X (dk okd_X12_areaOf 0 rfl) (by decide) ?_ ?_
    · exact s_less [false, false, true, false] rfl (h3 x4)
    · refine s_run X ok_X12_areaOf 6 2 (pc' := 13) (vs' := [some (.ref p0), some (.int p1), some (.int x4), some (.int x5)]) (st' := [.ref p0, .int x4]) rfl ?_
      refine s_getR X fl_X12_9 t0_ (dk okd_X12_areaOf 1 rfl) (fun a8 (t9 : tT C a8 14) => ?_)
      refine s_run X ok_X12_areaOf 8 3 (pc' := 21) (vs' := [some (.ref p0), some (.int p1), some (.int x4), some (.int x5)]) (st' := [.int (250 + x5), .ref a8, .int x4]) rfl ?_
      refine s_lald X t9 (dk okd_X12_areaOf 2 rfl) (fun v10 => ?_)
      refine s_run X ok_X12_areaOf 11 3 (pc' := 25) (vs' := [some (.ref p0), some (.int p1), some (.int x4), some (.int x5)]) (st' := [.int (lg_cmp v10 (Int32.toInt64 p1)), .int x4]) rfl ?_
      refine s_jn (κ := Int32 → Option (Int32)) (fun k12 => ∀ (x11 : Int32), Jd C 4 (QJ C oI (fun _ => S)) S 33 [some (.ref p0), some (.int p1), none, some (.int x5)] [.int x11, .int x4] (k12 x11)) (fun x11 => ?_) (fun k12 h13 => ?_)
      · refine s_run X ok_X12_areaOf 17 1 (pc' := 34) (vs' := [some (.ref p0), some (.int p1), none, some (.int x5)]) (st' := [.int (x4 + x11)]) rfl ?_
        refine s_nmI (fun v14 => ?_)
        refine s_run X ok_X12_areaOf 18 3 (pc' := 4) (vs' := [some (.ref p0), some (.int p1), some (.int v14), some (.int (x5 + 1))]) (st' := []) rfl ?_
        exact h7 v14 (x5 + 1)
      · refine s_lif_ne (tgt := 32) X (dk okd_X12_areaOf 3 rfl) (by decide) ?_ ?_
        · refine s_run X ok_X12_areaOf 16 1 (pc' := 33) (vs' := [some (.ref p0), some (.int p1), some (.int x4), some (.int x5)]) (st' := [.int 0, .int x4]) rfl ?_
          exact s_less [true, true, false, true] rfl (h13 0)
        · refine s_run X ok_X12_areaOf 14 2 (pc' := 33) (vs' := [some (.ref p0), some (.int p1), some (.int x4), some (.int x5)]) (st' := [.int 1, .int x4]) rfl ?_
          exact s_less [true, true, false, true] rfl (h13 1)
def tab_X12_area : List En := [(0, 8, 0, 0), (1, 0, 0, 0), (5, 8, 0, 0), (6, 8, 0, 0), (7, 4, 1, 0), (14, 0, 0, 1), (15, 41, 19, 0), (18, 0, 0, 0), (19, 0, 0, 1), (26, 0, 0, 0), (27, 41, 35, 0), (30, 8, 0, 0), (31, 4, 1, 0)]
theorem ok_X12_area : tab_X12_area.all (okE cX12_area) = true := by decide +kernel
def ed_X12_area : List (Nat × Instr × Nat) := [(2, .putfield 50, 3), (8, .invokevirtual 85, 3), (11, .ifCond .ne 7, 3), (20, .invokevirtual 81, 3), (23, .ifCond .eq 7, 3), (32, .invokevirtual 89, 3), (35, .ireturn, 1)]
theorem okd_X12_area : ed_X12_area.all (okD cX12_area) = true := by decide +kernel
def f_X12_area (S : St) (p0 : Nat) (p1 : Int32) : Option (Int32 × St) := lt (uI S p0 2 0) fun (S1 : St) => cl (f_X12_isFranchisee S1 p0 p1) fun (v2 : Int32) => jn (κ := Int32 → Option (Int32 × St)) (fun x3 => cl (f_X12_throwsIf S1 p0 x3 1) fun (o6 : Int32 × St) => if o6.1 = 0 then (cl (f_X12_areaOf o6.2 p0 p1) fun (v7 : Int32) => some (v7, o6.2)) else (some (0, o6.2))) fun k4 => if v2 = 0 then (k4 1) else (k4 0)
set_option maxHeartbeats 4000000 in
set_option maxRecDepth 100000 in
theorem c_X12_area (S : St) (p0 : Nat) (p1 : Int32) : Ct yX12_area cX12_area 2 (some .int) 2 46 [.ref p0, .int p1] [(p0, 11)] S (f_X12_area S p0 p1) oIS sS := by
  refine Ct_of RX12 rfl (by decide) (Nat.le_of_ble_eq_true rfl) 0 (vs := [some (.ref p0), some (.int p1)]) rfl (fun C X E hr ht => ?_)
  have t0_ : tT C p0 11 := ht (p0, 11) (by simp)
  unfold f_X12_area
  refine s_run X ok_X12_area 0 2 (pc' := 2) (vs' := [some (.ref p0), some (.int p1)]) (st' := [.int 0, .ref p0]) rfl ?_
  refine s_putI X fp_X12_50 t0_ (dk okd_X12_area 0 rfl) (fun S1 => ?_)
  refine s_run X ok_X12_area 2 3 (pc' := 8) (vs' := [some (.ref p0), some (.int p1)]) (st' := [.int p1, .ref p0, .ref p0]) rfl ?_
  refine s_callV (rest := [.ref p0]) X E mv_X12_85 (c_X12_isFranchisee S1 p0 p1) (ta1 t0_) rfl (by decide) t0_ rfl rfl (Nat.le_of_ble_eq_true rfl) (Nat.le_of_ble_eq_true rfl) (Nat.le_of_ble_eq_true rfl) (dk okd_X12_area 1 rfl) (st' := fun v2 => [.int v2, .ref p0]) (fun _ => rfl) (fun v2 => ?_)
  refine s_jn (κ := Int32 → Option (Int32 × St)) (fun k4 => ∀ (x3 : Int32), Jd C 2 (QJ C oIS sS) S1 19 [some (.ref p0), some (.int p1)] [.int x3, .ref p0] (k4 x3)) (fun x3 => ?_) (fun k4 h5 => ?_)
  · refine s_run X ok_X12_area 8 1 (pc' := 20) (vs' := [some (.ref p0), some (.int p1)]) (st' := [.int 1, .int x3, .ref p0]) rfl ?_
    refine s_callV (rest := []) X E mv_X12_81 (c_X12_throwsIf S1 p0 x3 1) (ta1 t0_) rfl (by decide) t0_ rfl rfl (Nat.le_of_ble_eq_true rfl) (Nat.le_of_ble_eq_true rfl) (Nat.le_of_ble_eq_true rfl) (dk okd_X12_area 3 rfl) (st' := fun o6 => [.int o6.1]) (fun _ => rfl) (fun o6 => ?_)
    refine s_if_eq (tgt := 30) X (dk okd_X12_area 4 rfl) (by decide) ?_ ?_
    · refine s_run X ok_X12_area 11 2 (pc' := 32) (vs' := [some (.ref p0), some (.int p1)]) (st' := [.int p1, .ref p0]) rfl ?_
      refine s_callV (rest := []) X E mv_X12_89 (c_X12_areaOf o6.2 p0 p1) (ta1 t0_) rfl (by decide) t0_ rfl rfl (Nat.le_of_ble_eq_true rfl) (Nat.le_of_ble_eq_true rfl) (Nat.le_of_ble_eq_true rfl) (dk okd_X12_area 5 rfl) (st' := fun v7 => [.int v7]) (fun _ => rfl) (fun v7 => ?_)
      exact s_iret X hr (dk okd_X12_area 6 rfl) rfl rfl
    · refine s_run X ok_X12_area 9 2 (pc' := 35) (vs' := [some (.ref p0), some (.int p1)]) (st' := [.int 0]) rfl ?_
      exact s_iret X hr (dk okd_X12_area 6 rfl) rfl rfl
  · refine s_if_ne (tgt := 18) X (dk okd_X12_area 2 rfl) (by decide) ?_ ?_
    · refine s_run X ok_X12_area 7 1 (pc' := 19) (vs' := [some (.ref p0), some (.int p1)]) (st' := [.int 0, .ref p0]) rfl ?_
      exact h5 0
    · refine s_run X ok_X12_area 5 2 (pc' := 19) (vs' := [some (.ref p0), some (.int p1)]) (st' := [.int 1, .ref p0]) rfl ?_
      exact h5 1
def tab_X12_neighboursOf : List En := [(0, 8, 0, 0), (1, 4, 1, 0), (2, 4, 2, 0), (3, 0, 0, 1), (4, 18, 0, 0), (5, 4, 3, 0), (12, 0, 0, 1), (13, 41, 17, 0), (16, 0, 0, 0), (17, 8, 0, 0), (18, 4, 1, 0), (19, 4, 2, 0), (20, 0, 0, 1), (21, 17, 0, 0), (22, 4, 3, 0), (29, 0, 0, 1), (30, 41, 34, 0), (33, 0, 0, 0), (34, 17, 0, 0), (35, 8, 0, 0), (36, 4, 1, 0), (37, 4, 2, 0), (38, 4, 3, 0), (39, 0, 0, 1), (40, 18, 0, 0), (47, 0, 0, 1), (48, 41, 52, 0), (51, 0, 0, 0), (52, 17, 0, 0), (53, 8, 0, 0), (54, 4, 1, 0), (55, 4, 2, 0), (56, 4, 3, 0), (57, 0, 0, 1), (58, 17, 0, 0), (65, 0, 0, 1), (66, 41, 70, 0), (69, 0, 0, 0), (70, 17, 0, 0)]
theorem ok_X12_neighboursOf : tab_X12_neighboursOf.all (okE cX12_neighboursOf) = true := by decide +kernel
def ed_X12_neighboursOf : List (Nat × Instr × Nat) := [(6, .invokevirtual 93, 3), (9, .ifCond .eq 7, 3), (23, .invokevirtual 93, 3), (26, .ifCond .eq 7, 3), (41, .invokevirtual 93, 3), (44, .ifCond .eq 7, 3), (59, .invokevirtual 93, 3), (62, .ifCond .eq 7, 3), (71, .ireturn, 1)]
theorem okd_X12_neighboursOf : ed_X12_neighboursOf.all (okD cX12_neighboursOf) = true := by decide +kernel
def f_X12_neighboursOf (S : St) (p0 : Nat) (p1 : Int32) (p2 : Int32) (p3 : Int32) : Option (Int32) := cl (f_X12_owns S p0 p1 (p2 - 1) p3) fun (v1 : Int32) => jn (κ := Int32 → Option (Int32)) (fun x2 => cl (f_X12_owns S p0 p1 (p2 + 1) p3) fun (v5 : Int32) => jn (κ := Int32 → Option (Int32)) (fun x6 => cl (f_X12_owns S p0 p1 p2 (p3 - 1)) fun (v9 : Int32) => jn (κ := Int32 → Option (Int32)) (fun x10 => cl (f_X12_owns S p0 p1 p2 (p3 + 1)) fun (v13 : Int32) => jn (κ := Int32 → Option (Int32)) (fun x14 => some (((x2 + x6) + x10) + x14)) fun k15 => if v13 = 0 then (k15 0) else (k15 1)) fun k11 => if v9 = 0 then (k11 0) else (k11 1)) fun k7 => if v5 = 0 then (k7 0) else (k7 1)) fun k3 => if v1 = 0 then (k3 0) else (k3 1)
set_option maxHeartbeats 4000000 in
set_option maxRecDepth 100000 in
theorem c_X12_neighboursOf (S : St) (p0 : Nat) (p1 : Int32) (p2 : Int32) (p3 : Int32) : Ct yX12_neighboursOf cX12_neighboursOf 4 (some .int) 3 69 [.ref p0, .int p1, .int p2, .int p3] [(p0, 11)] S (f_X12_neighboursOf S p0 p1 p2 p3) oI (fun _ => S) := by
  refine Ct_of RX12 rfl (by decide) (Nat.le_of_ble_eq_true rfl) 0 (vs := [some (.ref p0), some (.int p1), some (.int p2), some (.int p3)]) rfl (fun C X E hr ht => ?_)
  have t0_ : tT C p0 11 := ht (p0, 11) (by simp)
  unfold f_X12_neighboursOf
  refine s_run X ok_X12_neighboursOf 0 6 (pc' := 6) (vs' := [some (.ref p0), some (.int p1), some (.int p2), some (.int p3)]) (st' := [.int p3, .int (p2 - 1), .int p1, .ref p0]) rfl ?_
  refine s_callV (rest := []) X E mv_X12_93 (c_X12_owns S p0 p1 (p2 - 1) p3) (ta1 t0_) rfl (by decide) t0_ rfl rfl (Nat.le_of_ble_eq_true rfl) (Nat.le_of_ble_eq_true rfl) (Nat.le_of_ble_eq_true rfl) (dk okd_X12_neighboursOf 0 rfl) (st' := fun v1 => [.int v1]) (fun _ => rfl) (fun v1 => ?_)
  refine s_jn (κ := Int32 → Option (Int32)) (fun k3 => ∀ (x2 : Int32), Jd C 4 (QJ C oI (fun _ => S)) S 17 [some (.ref p0), some (.int p1), some (.int p2), some (.int p3)] [.int x2] (k3 x2)) (fun x2 => ?_) (fun k3 h4 => ?_)
  · refine s_run X ok_X12_neighboursOf 9 6 (pc' := 23) (vs' := [some (.ref p0), some (.int p1), some (.int p2), some (.int p3)]) (st' := [.int p3, .int (p2 + 1), .int p1, .ref p0, .int x2]) rfl ?_
    refine s_callV (rest := [.int x2]) X E mv_X12_93 (c_X12_owns S p0 p1 (p2 + 1) p3) (ta1 t0_) rfl (by decide) t0_ rfl rfl (Nat.le_of_ble_eq_true rfl) (Nat.le_of_ble_eq_true rfl) (Nat.le_of_ble_eq_true rfl) (dk okd_X12_neighboursOf 2 rfl) (st' := fun v5 => [.int v5, .int x2]) (fun _ => rfl) (fun v5 => ?_)
    refine s_jn (κ := Int32 → Option (Int32)) (fun k7 => ∀ (x6 : Int32), Jd C 4 (QJ C oI (fun _ => S)) S 34 [some (.ref p0), some (.int p1), some (.int p2), some (.int p3)] [.int x6, .int x2] (k7 x6)) (fun x6 => ?_) (fun k7 h8 => ?_)
    · refine s_run X ok_X12_neighboursOf 18 7 (pc' := 41) (vs' := [some (.ref p0), some (.int p1), some (.int p2), some (.int p3)]) (st' := [.int (p3 - 1), .int p2, .int p1, .ref p0, .int (x2 + x6)]) rfl ?_
      refine s_callV (rest := [.int (x2 + x6)]) X E mv_X12_93 (c_X12_owns S p0 p1 p2 (p3 - 1)) (ta1 t0_) rfl (by decide) t0_ rfl rfl (Nat.le_of_ble_eq_true rfl) (Nat.le_of_ble_eq_true rfl) (Nat.le_of_ble_eq_true rfl) (dk okd_X12_neighboursOf 4 rfl) (st' := fun v9 => [.int v9, .int (x2 + x6)]) (fun _ => rfl) (fun v9 => ?_)
      refine s_jn (κ := Int32 → Option (Int32)) (fun k11 => ∀ (x10 : Int32), Jd C 4 (QJ C oI (fun _ => S)) S 52 [some (.ref p0), some (.int p1), some (.int p2), some (.int p3)] [.int x10, .int (x2 + x6)] (k11 x10)) (fun x10 => ?_) (fun k11 h12 => ?_)
      · refine s_run X ok_X12_neighboursOf 28 7 (pc' := 59) (vs' := [some (.ref p0), some (.int p1), some (.int p2), some (.int p3)]) (st' := [.int (p3 + 1), .int p2, .int p1, .ref p0, .int ((x2 + x6) + x10)]) rfl ?_
        refine s_callV (rest := [.int ((x2 + x6) + x10)]) X E mv_X12_93 (c_X12_owns S p0 p1 p2 (p3 + 1)) (ta1 t0_) rfl (by decide) t0_ rfl rfl (Nat.le_of_ble_eq_true rfl) (Nat.le_of_ble_eq_true rfl) (Nat.le_of_ble_eq_true rfl) (dk okd_X12_neighboursOf 6 rfl) (st' := fun v13 => [.int v13, .int ((x2 + x6) + x10)]) (fun _ => rfl) (fun v13 => ?_)
        refine s_jn (κ := Int32 → Option (Int32)) (fun k15 => ∀ (x14 : Int32), Jd C 4 (QJ C oI (fun _ => S)) S 70 [none, none, none, none] [.int x14, .int ((x2 + x6) + x10)] (k15 x14)) (fun x14 => ?_) (fun k15 h16 => ?_)
        · refine s_run X ok_X12_neighboursOf 38 1 (pc' := 71) (vs' := [none, none, none, none]) (st' := [.int (((x2 + x6) + x10) + x14)]) rfl ?_
          exact s_iret X hr (dk okd_X12_neighboursOf 8 rfl) rfl rfl
        · refine s_if_eq (tgt := 69) X (dk okd_X12_neighboursOf 7 rfl) (by decide) ?_ ?_
          · refine s_run X ok_X12_neighboursOf 37 1 (pc' := 70) (vs' := [some (.ref p0), some (.int p1), some (.int p2), some (.int p3)]) (st' := [.int 0, .int ((x2 + x6) + x10)]) rfl ?_
            exact s_less [false, false, false, false] rfl (h16 0)
          · refine s_run X ok_X12_neighboursOf 35 2 (pc' := 70) (vs' := [some (.ref p0), some (.int p1), some (.int p2), some (.int p3)]) (st' := [.int 1, .int ((x2 + x6) + x10)]) rfl ?_
            exact s_less [false, false, false, false] rfl (h16 1)
      · refine s_if_eq (tgt := 51) X (dk okd_X12_neighboursOf 5 rfl) (by decide) ?_ ?_
        · refine s_run X ok_X12_neighboursOf 27 1 (pc' := 52) (vs' := [some (.ref p0), some (.int p1), some (.int p2), some (.int p3)]) (st' := [.int 0, .int (x2 + x6)]) rfl ?_
          exact h12 0
        · refine s_run X ok_X12_neighboursOf 25 2 (pc' := 52) (vs' := [some (.ref p0), some (.int p1), some (.int p2), some (.int p3)]) (st' := [.int 1, .int (x2 + x6)]) rfl ?_
          exact h12 1
    · refine s_if_eq (tgt := 33) X (dk okd_X12_neighboursOf 3 rfl) (by decide) ?_ ?_
      · refine s_run X ok_X12_neighboursOf 17 1 (pc' := 34) (vs' := [some (.ref p0), some (.int p1), some (.int p2), some (.int p3)]) (st' := [.int 0, .int x2]) rfl ?_
        exact h8 0
      · refine s_run X ok_X12_neighboursOf 15 2 (pc' := 34) (vs' := [some (.ref p0), some (.int p1), some (.int p2), some (.int p3)]) (st' := [.int 1, .int x2]) rfl ?_
        exact h8 1
  · refine s_if_eq (tgt := 16) X (dk okd_X12_neighboursOf 1 rfl) (by decide) ?_ ?_
    · refine s_run X ok_X12_neighboursOf 8 1 (pc' := 17) (vs' := [some (.ref p0), some (.int p1), some (.int p2), some (.int p3)]) (st' := [.int 0]) rfl ?_
      exact h4 0
    · refine s_run X ok_X12_neighboursOf 6 2 (pc' := 17) (vs' := [some (.ref p0), some (.int p1), some (.int p2), some (.int p3)]) (st' := [.int 1]) rfl ?_
      exact h4 1
def tab_X12_perimeter : List En := [(0, 8, 0, 0), (1, 0, 0, 0), (5, 8, 0, 0), (6, 8, 0, 0), (7, 4, 1, 0), (14, 0, 0, 1), (15, 41, 19, 0), (18, 0, 0, 0), (19, 0, 0, 1), (26, 0, 0, 0), (28, 0, 0, 0), (29, 10, 2, 0), (30, 0, 0, 0), (31, 10, 3, 0), (32, 4, 3, 0), (33, 2, 0, 900), (39, 8, 0, 0), (43, 2, 0, 250), (46, 4, 3, 0), (47, 17, 0, 0), (49, 4, 1, 0), (50, 31, 0, 0), (51, 40, 0, 0), (55, 4, 2, 0), (56, 0, 0, 4), (57, 8, 0, 0), (58, 4, 1, 0), (59, 4, 3, 0), (60, 1, 0, 30), (63, 4, 3, 0), (64, 1, 0, 30), (70, 18, 0, 0), (71, 17, 0, 0), (72, 10, 2, 0), (73, 16, 3, 1), (76, 41, 32, 0), (79, 4, 2, 0)]
theorem ok_X12_perimeter : tab_X12_perimeter.all (okE cX12_perimeter) = true := by decide +kernel
def ed_X12_perimeter : List (Nat × Instr × Nat) := [(2, .putfield 50, 3), (8, .invokevirtual 85, 3), (11, .ifCond .ne 7, 3), (20, .invokevirtual 81, 3), (23, .ifCond .eq 5, 3), (27, .ireturn, 1), (36, .if_icmp .ge 43, 3), (40, .getfield 9, 3), (48, .laload, 1), (52, .ifCond .ne 21, 3), (62, .irem, 1), (66, .idiv, 1), (67, .invokevirtual 97, 3), (80, .ireturn, 1)]
theorem okd_X12_perimeter : ed_X12_perimeter.all (okD cX12_perimeter) = true := by decide +kernel
def f_X12_perimeter (S : St) (p0 : Nat) (p1 : Int32) : Option (Int32 × St) := lt (uI S p0 2 0) fun (S1 : St) => cl (f_X12_isFranchisee S1 p0 p1) fun (v2 : Int32) => jn (κ := Int32 → Option (Int32 × St)) (fun x3 => cl (f_X12_throwsIf S1 p0 x3 1) fun (o6 : Int32 × St) => if o6.1 = 0 then (jn (κ := Int32 → Option (Int32 × St)) (fun x7 => some (x7, o6.2)) fun k8 => lp (κ := Int32 → Int32 → Option (Int32 × St)) (fun _ _ => none) (fun k12 x10 x11 => if 900 ≤ x11 then (k8 x10) else (lt (gR o6.2 p0 0) fun (a14 : Nat) => ldJ o6.2 a14 (250 + x11) fun (v16 : Int64) => jn (κ := Int32 → Option (Int32 × St)) (fun x17 => k12 x17 (x11 + 1)) fun k18 => if v16 = (Int32.toInt64 p1) then (cl (f_X12_neighboursOf o6.2 p0 p1 (x11 - x11 / 30 * 30) (x11 / 30)) fun (v20 : Int32) => lt (x10 + (4 - v20)) fun (v21 : Int32) => k18 v21) else (k18 x10))) FU 0 0) else (some (0, o6.2))) fun k4 => if v2 = 0 then (k4 1) else (k4 0)
set_option maxHeartbeats 4000000 in
set_option maxRecDepth 100000 in
theorem c_X12_perimeter (S : St) (p0 : Nat) (p1 : Int32) : Ct yX12_perimeter cX12_perimeter 4 (some .int) 4 92 [.ref p0, .int p1] [(p0, 11)] S (f_X12_perimeter S p0 p1) oIS sS := by
  refine Ct_of RX12 rfl (by decide) (Nat.le_of_ble_eq_true rfl) 2 (vs := [some (.ref p0), some (.int p1), none, none]) rfl (fun C X E hr ht => ?_)
  have t0_ : tT C p0 11 := ht (p0, 11) (by simp)
  unfold f_X12_perimeter
  refine s_run X ok_X12_perimeter 0 2 (pc' := 2) (vs' := [some (.ref p0), some (.int p1), none, none]) (st' := [.int 0, .ref p0]) rfl ?_
  refine s_putI X fp_X12_50 t0_ (dk okd_X12_perimeter 0 rfl) (fun S1 => ?_)
  refine s_run X ok_X12_perimeter 2 3 (pc' := 8) (vs' := [some (.ref p0), some (.int p1), none, none]) (st' := [.int p1, .ref p0, .ref p0]) rfl ?_
  refine s_callV (rest := [.ref p0]) X E mv_X12_85 (c_X12_isFranchisee S1 p0 p1) (ta1 t0_) rfl (by decide) t0_ rfl rfl (Nat.le_of_ble_eq_true rfl) (Nat.le_of_ble_eq_true rfl) (Nat.le_of_ble_eq_true rfl) (dk okd_X12_perimeter 1 rfl) (st' := fun v2 => [.int v2, .ref p0]) (fun _ => rfl) (fun v2 => ?_)
  refine s_jn (κ := Int32 → Option (Int32 × St)) (fun k4 => ∀ (x3 : Int32), Jd C 4 (QJ C oIS sS) S1 19 [some (.ref p0), some (.int p1), none, none] [.int x3, .ref p0] (k4 x3)) (fun x3 => ?_) (fun k4 h5 => ?_)
  · refine s_run X ok_X12_perimeter 8 1 (pc' := 20) (vs' := [some (.ref p0), some (.int p1), none, none]) (st' := [.int 1, .int x3, .ref p0]) rfl ?_
    refine s_callV (rest := []) X E mv_X12_81 (c_X12_throwsIf S1 p0 x3 1) (ta1 t0_) rfl (by decide) t0_ rfl rfl (Nat.le_of_ble_eq_true rfl) (Nat.le_of_ble_eq_true rfl) (Nat.le_of_ble_eq_true rfl) (dk okd_X12_perimeter 3 rfl) (st' := fun o6 => [.int o6.1]) (fun _ => rfl) (fun o6 => ?_)
    refine s_if_eq (tgt := 28) X (dk okd_X12_perimeter 4 rfl) (by decide) ?_ ?_
    · refine s_run X ok_X12_perimeter 10 4 (pc' := 32) (vs' := [some (.ref p0), some (.int p1), some (.int 0), some (.int 0)]) (st' := []) rfl ?_
      refine s_jn (κ := Int32 → Option (Int32 × St)) (fun k8 => ∀ (x7 : Int32), Jd C 4 (QJ C oIS sS) o6.2 79 [none, none, some (.int x7), none] [] (k8 x7)) (fun x7 => ?_) (fun k8 h9 => ?_)
      · refine s_run X ok_X12_perimeter 36 1 (pc' := 80) (vs' := [none, none, some (.int x7), none]) (st' := [.int x7]) rfl ?_
        exact s_iret X hr (dk okd_X12_perimeter 13 rfl) rfl rfl
      · refine s_lp (κ := Int32 → Int32 → Option (Int32 × St)) (fun k12 => ∀ (x10 : Int32) (x11 : Int32), Jd C 4 (QJ C oIS sS) o6.2 32 [some (.ref p0), some (.int p1), some (.int x10), some (.int x11)] [] (k12 x10 x11)) (fun _ _ => s_none) (fun k12 h13 x10 x11 => ?_) FU 0 0
        refine s_run X ok_X12_perimeter 14 2 (pc' := 36) (vs' := [some (.ref p0), some (.int p1), some (.int x10), some (.int x11)]) (st' := [.int 900, .int x11]) rfl ?_
        refine s_icmp_ge (tgt := 79) X (dk okd_X12_perimeter 6 rfl) (by decide) ?_ ?_
        · exact s_less [false, false, true, false] rfl (h9 x10)
        · refine s_run X ok_X12_perimeter 16 1 (pc' := 40) (vs' := [some (.ref p0), some (.int p1), some (.int x10), some (.int x11)]) (st' := [.ref p0]) rfl ?_
          refine s_getR X fl_X12_9 t0_ (dk okd_X12_perimeter 7 rfl) (fun a14 (t15 : tT C a14 14) => ?_)
          refine s_run X ok_X12_perimeter 17 3 (pc' := 48) (vs' := [some (.ref p0), some (.int p1), some (.int x10), some (.int x11)]) (st' := [.int (250 + x11), .ref a14]) rfl ?_
          refine s_lald X t15 (dk okd_X12_perimeter 8 rfl) (fun v16 => ?_)
          refine s_run X ok_X12_perimeter 20 3 (pc' := 52) (vs' := [some (.ref p0), some (.int p1), some (.int x10), some (.int x11)]) (st' := [.int (lg_cmp v16 (Int32.toInt64 p1))]) rfl ?_
          refine s_jn (κ := Int32 → Option (Int32 × St)) (fun k18 => ∀ (x17 : Int32), Jd C 4 (QJ C oIS sS) o6.2 73 [some (.ref p0), some (.int p1), some (.int x17), some (.int x11)] [] (k18 x17)) (fun x17 => ?_) (fun k18 h19 => ?_)
          · refine s_run X ok_X12_perimeter 34 2 (pc' := 32) (vs' := [some (.ref p0), some (.int p1), some (.int x17), some (.int (x11 + 1))]) (st' := []) rfl ?_
            exact h13 x17 (x11 + 1)
          · refine s_lif_ne (tgt := 73) X (dk okd_X12_perimeter 9 rfl) (by decide) ?_ ?_
            · exact h19 x10
            · refine s_run X ok_X12_perimeter 23 6 (pc' := 62) (vs' := [some (.ref p0), some (.int p1), some (.int x10), some (.int x11)]) (st' := [.int 30, .int x11, .int p1, .ref p0, .int 4, .int x10]) rfl ?_
              refine s_irem0 X (dk okd_X12_perimeter 10 rfl) (by decide) ?_
              refine s_run X ok_X12_perimeter 29 2 (pc' := 66) (vs' := [some (.ref p0), some (.int p1), some (.int x10), some (.int x11)]) (st' := [.int 30, .int x11, .int (x11 - x11 / 30 * 30), .int p1, .ref p0, .int 4, .int x10]) rfl ?_
              refine s_idiv0 X (dk okd_X12_perimeter 11 rfl) (by decide) ?_
              refine s_callV (rest := [.int 4, .int x10]) X E mv_X12_97 (c_X12_neighboursOf o6.2 p0 p1 (x11 - x11 / 30 * 30) (x11 / 30)) (ta1 t0_) rfl (by decide) t0_ rfl rfl (Nat.le_of_ble_eq_true rfl) (Nat.le_of_ble_eq_true rfl) (Nat.le_of_ble_eq_true rfl) (dk okd_X12_perimeter 12 rfl) (st' := fun v20 => [.int v20, .int 4, .int x10]) (fun _ => rfl) (fun v20 => ?_)
              refine s_run X ok_X12_perimeter 31 2 (pc' := 72) (vs' := [some (.ref p0), some (.int p1), some (.int x10), some (.int x11)]) (st' := [.int (x10 + (4 - v20))]) rfl ?_
              refine s_nmI (fun v21 => ?_)
              refine s_run X ok_X12_perimeter 33 1 (pc' := 73) (vs' := [some (.ref p0), some (.int p1), some (.int v21), some (.int x11)]) (st' := []) rfl ?_
              exact h19 v21
    · refine s_run X ok_X12_perimeter 9 1 (pc' := 27) (vs' := [some (.ref p0), some (.int p1), none, none]) (st' := [.int 0]) rfl ?_
      exact s_iret X hr (dk okd_X12_perimeter 5 rfl) rfl rfl
  · refine s_if_ne (tgt := 18) X (dk okd_X12_perimeter 2 rfl) (by decide) ?_ ?_
    · refine s_run X ok_X12_perimeter 7 1 (pc' := 19) (vs' := [some (.ref p0), some (.int p1), none, none]) (st' := [.int 0, .ref p0]) rfl ?_
      exact h5 0
    · refine s_run X ok_X12_perimeter 5 2 (pc' := 19) (vs' := [some (.ref p0), some (.int p1), none, none]) (st' := [.int 1, .ref p0]) rfl ?_
      exact h5 1
def tab_X12_border : List En := [(0, 8, 0, 0), (1, 0, 0, 0), (5, 8, 0, 0), (6, 8, 0, 0), (7, 4, 1, 0), (14, 8, 0, 0), (15, 4, 2, 0), (22, 0, 0, 1), (23, 41, 27, 0), (26, 0, 0, 0), (27, 0, 0, 1), (34, 4, 1, 0), (35, 4, 2, 0), (39, 0, 0, 0), (41, 0, 0, 0), (42, 10, 3, 0), (43, 0, 0, 0), (44, 11, 4, 0), (46, 5, 4, 0), (48, 2, 0, 900), (54, 8, 0, 0), (58, 2, 0, 250), (61, 5, 4, 0), (63, 17, 0, 0), (65, 4, 1, 0), (66, 31, 0, 0), (67, 40, 0, 0), (71, 4, 3, 0), (72, 8, 0, 0), (73, 4, 2, 0), (74, 5, 4, 0), (76, 1, 0, 30), (79, 5, 4, 0), (81, 1, 0, 30), (87, 17, 0, 0), (88, 10, 3, 0), (89, 16, 4, 1), (92, 41, 46, 0), (95, 4, 3, 0)]
theorem ok_X12_border : tab_X12_border.all (okE cX12_border) = true := by decide +kernel
def ed_X12_border : List (Nat × Instr × Nat) := [(2, .putfield 50, 3), (8, .invokevirtual 85, 3), (11, .ifCond .eq 11, 3), (16, .invokevirtual 85, 3), (19, .ifCond .ne 7, 3), (28, .invokevirtual 81, 3), (31, .ifCond .ne 8, 3), (36, .if_icmp .ne 5, 3), (40, .ireturn, 1), (51, .if_icmp .ge 44, 3), (55, .getfield 9, 3), (64, .laload, 1), (68, .ifCond .ne 21, 3), (78, .irem, 1), (83, .idiv, 1), (84, .invokevirtual 97, 3), (96, .ireturn, 1)]
theorem okd_X12_border : ed_X12_border.all (okD cX12_border) = true := by decide +kernel
def f_X12_border (S : St) (p0 : Nat) (p1 : Int32) (p2 : Int32) : Option (Int32 × St) := lt (uI S p0 2 0) fun (S1 : St) => cl (f_X12_isFranchisee S1 p0 p1) fun (v2 : Int32) => jn (κ := Int32 → Option (Int32 × St)) (fun x3 => cl (f_X12_throwsIf S1 p0 x3 1) fun (o6 : Int32 × St) => if o6.1 = 0 then (if p1 = p2 then (some (0, o6.2)) else (jn (κ := Int32 → Option (Int32 × St)) (fun x7 => some (x7, o6.2)) fun k8 => lp (κ := Int32 → Int32 → Option (Int32 × St)) (fun _ _ => none) (fun k12 x10 x11 => if 900 ≤ x11 then (k8 x10) else (lt (gR o6.2 p0 0) fun (a14 : Nat) => ldJ o6.2 a14 (250 + x11) fun (v16 : Int64) => jn (κ := Int32 → Option (Int32 × St)) (fun x17 => k12 x17 (x11 + 1)) fun k18 => if v16 = (Int32.toInt64 p1) then (cl (f_X12_neighboursOf o6.2 p0 p2 (x11 - x11 / 30 * 30) (x11 / 30)) fun (v20 : Int32) => lt (x10 + v20) fun (v21 : Int32) => k18 v21) else (k18 x10))) FU 0 0)) else (some (0, o6.2))) fun k4 => jn (κ := Option (Int32 × St)) (k4 1) fun k22 => if v2 = 0 then (k22) else (cl (f_X12_isFranchisee S1 p0 p2) fun (v24 : Int32) => if v24 = 0 then (k22) else (k4 0))
set_option maxHeartbeats 4000000 in
set_option maxRecDepth 100000 in
theorem c_X12_border (S : St) (p0 : Nat) (p1 : Int32) (p2 : Int32) : Ct yX12_border cX12_border 5 (some .int) 4 92 [.ref p0, .int p1, .int p2] [(p0, 11)] S (f_X12_border S p0 p1 p2) oIS sS := by
  refine Ct_of RX12 rfl (by decide) (Nat.le_of_ble_eq_true rfl) 2 (vs := [some (.ref p0), some (.int p1), some (.int p2), none, none]) rfl (fun C X E hr ht => ?_)
  have t0_ : tT C p0 11 := ht (p0, 11) (by simp)
  unfold f_X12_border
  refine s_run X ok_X12_border 0 2 (pc' := 2) (vs' := [some (.ref p0), some (.int p1), some (.int p2), none, none]) (st' := [.int 0, .ref p0]) rfl ?_
  refine s_putI X fp_X12_50 t0_ (dk okd_X12_border 0 rfl) (fun S1 => ?_)
  refine s_run X ok_X12_border 2 3 (pc' := 8) (vs' := [some (.ref p0), some (.int p1), some (.int p2), none, none]) (st' := [.int p1, .ref p0, .ref p0]) rfl ?_
  refine s_callV (rest := [.ref p0]) X E mv_X12_85 (c_X12_isFranchisee S1 p0 p1) (ta1 t0_) rfl (by decide) t0_ rfl rfl (Nat.le_of_ble_eq_true rfl) (Nat.le_of_ble_eq_true rfl) (Nat.le_of_ble_eq_true rfl) (dk okd_X12_border 1 rfl) (st' := fun v2 => [.int v2, .ref p0]) (fun _ => rfl) (fun v2 => ?_)
  refine s_jn (κ := Int32 → Option (Int32 × St)) (fun k4 => ∀ (x3 : Int32), Jd C 5 (QJ C oIS sS) S1 27 [some (.ref p0), some (.int p1), some (.int p2), none, none] [.int x3, .ref p0] (k4 x3)) (fun x3 => ?_) (fun k4 h5 => ?_)
  · refine s_run X ok_X12_border 10 1 (pc' := 28) (vs' := [some (.ref p0), some (.int p1), some (.int p2), none, none]) (st' := [.int 1, .int x3, .ref p0]) rfl ?_
    refine s_callV (rest := []) X E mv_X12_81 (c_X12_throwsIf S1 p0 x3 1) (ta1 t0_) rfl (by decide) t0_ rfl rfl (Nat.le_of_ble_eq_true rfl) (Nat.le_of_ble_eq_true rfl) (Nat.le_of_ble_eq_true rfl) (dk okd_X12_border 5 rfl) (st' := fun o6 => [.int o6.1]) (fun _ => rfl) (fun o6 => ?_)
    refine s_if_ne (tgt := 39) X (dk okd_X12_border 6 rfl) (by decide) ?_ ?_
    · refine s_run X ok_X12_border 13 1 (pc' := 40) (vs' := [some (.ref p0), some (.int p1), some (.int p2), none, none]) (st' := [.int 0]) rfl ?_
      exact s_iret X hr (dk okd_X12_border 8 rfl) rfl rfl
    · refine s_run X ok_X12_border 11 2 (pc' := 36) (vs' := [some (.ref p0), some (.int p1), some (.int p2), none, none]) (st' := [.int p2, .int p1]) rfl ?_
      refine s_icmp_ne (tgt := 41) X (dk okd_X12_border 7 rfl) (by decide) ?_ ?_
      · refine s_run X ok_X12_border 14 4 (pc' := 46) (vs' := [some (.ref p0), some (.int p1), some (.int p2), some (.int 0), some (.int 0)]) (st' := []) rfl ?_
        refine s_jn (κ := Int32 → Option (Int32 × St)) (fun k8 => ∀ (x7 : Int32), Jd C 5 (QJ C oIS sS) o6.2 95 [none, none, none, some (.int x7), none] [] (k8 x7)) (fun x7 => ?_) (fun k8 h9 => ?_)
        · refine s_run X ok_X12_border 38 1 (pc' := 96) (vs' := [none, none, none, some (.int x7), none]) (st' := [.int x7]) rfl ?_
          exact s_iret X hr (dk okd_X12_border 16 rfl) rfl rfl
        · refine s_lp (κ := Int32 → Int32 → Option (Int32 × St)) (fun k12 => ∀ (x10 : Int32) (x11 : Int32), Jd C 5 (QJ C oIS sS) o6.2 46 [some (.ref p0), some (.int p1), some (.int p2), some (.int x10), some (.int x11)] [] (k12 x10 x11)) (fun _ _ => s_none) (fun k12 h13 x10 x11 => ?_) FU 0 0
          refine s_run X ok_X12_border 18 2 (pc' := 51) (vs' := [some (.ref p0), some (.int p1), some (.int p2), some (.int x10), some (.int x11)]) (st' := [.int 900, .int x11]) rfl ?_
          refine s_icmp_ge (tgt := 95) X (dk okd_X12_border 9 rfl) (by decide) ?_ ?_
          · exact s_less [false, false, false, true, false] rfl (h9 x10)
          · refine s_run X ok_X12_border 20 1 (pc' := 55) (vs' := [some (.ref p0), some (.int p1), some (.int p2), some (.int x10), some (.int x11)]) (st' := [.ref p0]) rfl ?_
            refine s_getR X fl_X12_9 t0_ (dk okd_X12_border 10 rfl) (fun a14 (t15 : tT C a14 14) => ?_)
            refine s_run X ok_X12_border 21 3 (pc' := 64) (vs' := [some (.ref p0), some (.int p1), some (.int p2), some (.int x10), some (.int x11)]) (st' := [.int (250 + x11), .ref a14]) rfl ?_
            refine s_lald X t15 (dk okd_X12_border 11 rfl) (fun v16 => ?_)
            refine s_run X ok_X12_border 24 3 (pc' := 68) (vs' := [some (.ref p0), some (.int p1), some (.int p2), some (.int x10), some (.int x11)]) (st' := [.int (lg_cmp v16 (Int32.toInt64 p1))]) rfl ?_
            refine s_jn (κ := Int32 → Option (Int32 × St)) (fun k18 => ∀ (x17 : Int32), Jd C 5 (QJ C oIS sS) o6.2 89 [some (.ref p0), some (.int p1), some (.int p2), some (.int x17), some (.int x11)] [] (k18 x17)) (fun x17 => ?_) (fun k18 h19 => ?_)
            · refine s_run X ok_X12_border 36 2 (pc' := 46) (vs' := [some (.ref p0), some (.int p1), some (.int p2), some (.int x17), some (.int (x11 + 1))]) (st' := []) rfl ?_
              exact h13 x17 (x11 + 1)
            · refine s_lif_ne (tgt := 89) X (dk okd_X12_border 12 rfl) (by decide) ?_ ?_
              · exact h19 x10
              · refine s_run X ok_X12_border 27 5 (pc' := 78) (vs' := [some (.ref p0), some (.int p1), some (.int p2), some (.int x10), some (.int x11)]) (st' := [.int 30, .int x11, .int p2, .ref p0, .int x10]) rfl ?_
                refine s_irem0 X (dk okd_X12_border 13 rfl) (by decide) ?_
                refine s_run X ok_X12_border 32 2 (pc' := 83) (vs' := [some (.ref p0), some (.int p1), some (.int p2), some (.int x10), some (.int x11)]) (st' := [.int 30, .int x11, .int (x11 - x11 / 30 * 30), .int p2, .ref p0, .int x10]) rfl ?_
                refine s_idiv0 X (dk okd_X12_border 14 rfl) (by decide) ?_
                refine s_callV (rest := [.int x10]) X E mv_X12_97 (c_X12_neighboursOf o6.2 p0 p2 (x11 - x11 / 30 * 30) (x11 / 30)) (ta1 t0_) rfl (by decide) t0_ rfl rfl (Nat.le_of_ble_eq_true rfl) (Nat.le_of_ble_eq_true rfl) (Nat.le_of_ble_eq_true rfl) (dk okd_X12_border 15 rfl) (st' := fun v20 => [.int v20, .int x10]) (fun _ => rfl) (fun v20 => ?_)
                refine s_run X ok_X12_border 34 1 (pc' := 88) (vs' := [some (.ref p0), some (.int p1), some (.int p2), some (.int x10), some (.int x11)]) (st' := [.int (x10 + v20)]) rfl ?_
                refine s_nmI (fun v21 => ?_)
                refine s_run X ok_X12_border 35 1 (pc' := 89) (vs' := [some (.ref p0), some (.int p1), some (.int p2), some (.int v21), some (.int x11)]) (st' := []) rfl ?_
                exact h19 v21
      · refine s_run X ok_X12_border 13 1 (pc' := 40) (vs' := [some (.ref p0), some (.int p1), some (.int p2), none, none]) (st' := [.int 0]) rfl ?_
        exact s_iret X hr (dk okd_X12_border 8 rfl) rfl rfl
  · refine s_jn (κ := Option (Int32 × St)) (fun k22 => Jd C 5 (QJ C oIS sS) S1 22 [some (.ref p0), some (.int p1), some (.int p2), none, none] [.ref p0] k22) ?_ (fun k22 h23 => ?_)
    · refine s_run X ok_X12_border 7 2 (pc' := 27) (vs' := [some (.ref p0), some (.int p1), some (.int p2), none, none]) (st' := [.int 1, .ref p0]) rfl ?_
      exact h5 1
    · refine s_if_eq (tgt := 22) X (dk okd_X12_border 2 rfl) (by decide) ?_ ?_
      · exact h23
      · refine s_run X ok_X12_border 5 2 (pc' := 16) (vs' := [some (.ref p0), some (.int p1), some (.int p2), none, none]) (st' := [.int p2, .ref p0, .ref p0]) rfl ?_
        refine s_callV (rest := [.ref p0]) X E mv_X12_85 (c_X12_isFranchisee S1 p0 p2) (ta1 t0_) rfl (by decide) t0_ rfl rfl (Nat.le_of_ble_eq_true rfl) (Nat.le_of_ble_eq_true rfl) (Nat.le_of_ble_eq_true rfl) (dk okd_X12_border 3 rfl) (st' := fun v24 => [.int v24, .ref p0]) (fun _ => rfl) (fun v24 => ?_)
        refine s_if_ne (tgt := 26) X (dk okd_X12_border 4 rfl) (by decide) ?_ ?_
        · refine s_run X ok_X12_border 9 1 (pc' := 27) (vs' := [some (.ref p0), some (.int p1), some (.int p2), none, none]) (st' := [.int 0, .ref p0]) rfl ?_
          exact h5 0
        · exact h23
def tab_X12_isReached : List En := [(0, 4, 1, 0), (1, 4, 2, 0), (8, 8, 0, 0), (12, 1, 0, 30), (14, 4, 2, 0), (15, 19, 0, 0), (16, 4, 1, 0), (17, 17, 0, 0), (22, 0, 0, 1), (23, 41, 27, 0), (26, 0, 0, 0)]
theorem ok_X12_isReached : tab_X12_isReached.all (okE cX12_isReached) = true := by decide +kernel
def ed_X12_isReached : List (Nat × Instr × Nat) := [(2, .invokestatic 67, 3), (5, .ifCond .eq 21, 3), (9, .getfield 17, 3), (18, .baload, 1), (19, .ifCond .eq 7, 3), (27, .ireturn, 1)]
theorem okd_X12_isReached : ed_X12_isReached.all (okD cX12_isReached) = true := by decide +kernel
def f_X12_isReached (S : St) (p0 : Nat) (p1 : Int32) (p2 : Int32) : Option (Int32) := cl (f_X12_isCell S p1 p2) fun (v1 : Int32) => jn (κ := Option (Int32)) (some 0) fun k2 => if v1 = 0 then (k2) else (lt (gR S p0 3) fun (a4 : Nat) => ldI S a4 ((30 * p2) + p1) fun (v6 : Int32) => if v6 = 0 then (k2) else (some 1))
set_option maxHeartbeats 4000000 in
set_option maxRecDepth 100000 in
theorem c_X12_isReached (S : St) (p0 : Nat) (p1 : Int32) (p2 : Int32) : Ct yX12_isReached cX12_isReached 3 (some .boolean) 2 46 [.ref p0, .int p1, .int p2] [(p0, 11)] S (f_X12_isReached S p0 p1 p2) oI (fun _ => S) := by
  refine Ct_of RX12 rfl (by decide) (Nat.le_of_ble_eq_true rfl) 0 (vs := [some (.ref p0), some (.int p1), some (.int p2)]) rfl (fun C X E hr ht => ?_)
  have t0_ : tT C p0 11 := ht (p0, 11) (by simp)
  unfold f_X12_isReached
  refine s_run X ok_X12_isReached 0 2 (pc' := 2) (vs' := [some (.ref p0), some (.int p1), some (.int p2)]) (st' := [.int p2, .int p1]) rfl ?_
  refine s_callS (rest := []) X E ms_X12_67 (c_X12_isCell S p1 p2) (ta0) rfl rfl (Nat.le_of_ble_eq_true rfl) (Nat.le_of_ble_eq_true rfl) (Nat.le_of_ble_eq_true rfl) (dk okd_X12_isReached 0 rfl) (st' := fun v1 => [.int v1]) (fun _ => rfl) (fun v1 => ?_)
  refine s_jn (κ := Option (Int32)) (fun k2 => Jd C 3 (QJ C oI (fun _ => S)) S 26 [none, none, none] [] k2) ?_ (fun k2 h3 => ?_)
  · refine s_run X ok_X12_isReached 10 1 (pc' := 27) (vs' := [none, none, none]) (st' := [.int 0]) rfl ?_
    exact s_zret0 X hr (dk okd_X12_isReached 5 rfl) (by decide) rfl rfl
  · refine s_if_eq (tgt := 26) X (dk okd_X12_isReached 1 rfl) (by decide) ?_ ?_
    · exact s_less [false, false, false] rfl (h3)
    · refine s_run X ok_X12_isReached 2 1 (pc' := 9) (vs' := [some (.ref p0), some (.int p1), some (.int p2)]) (st' := [.ref p0]) rfl ?_
      refine s_getR X fl_X12_17 t0_ (dk okd_X12_isReached 2 rfl) (fun a4 (t5 : tT C a4 15) => ?_)
      refine s_run X ok_X12_isReached 3 5 (pc' := 18) (vs' := [some (.ref p0), some (.int p1), some (.int p2)]) (st' := [.int ((30 * p2) + p1), .ref a4]) rfl ?_
      refine s_zald X t5 (dk okd_X12_isReached 3 rfl) (fun v6 => ?_)
      refine s_if_eq (tgt := 26) X (dk okd_X12_isReached 4 rfl) (by decide) ?_ ?_
      · exact s_less [false, false, false] rfl (h3)
      · refine s_run X ok_X12_isReached 8 2 (pc' := 27) (vs' := [some (.ref p0), some (.int p1), some (.int p2)]) (st' := [.int 1]) rfl ?_
        exact s_zret0 X hr (dk okd_X12_isReached 5 rfl) (by decide) rfl rfl
def tab_X12_connected : List En := [(0, 0, 0, 0), (1, 10, 2, 0), (2, 4, 2, 0), (3, 2, 0, 900), (9, 8, 0, 0), (13, 2, 0, 250), (16, 4, 2, 0), (17, 17, 0, 0), (19, 4, 1, 0), (20, 31, 0, 0), (21, 40, 0, 0), (25, 16, 2, 1), (28, 41, 2, 0), (31, 4, 2, 0), (32, 2, 0, 900), (38, 0, 0, 0), (40, 0, 0, 0), (41, 10, 3, 0), (42, 4, 3, 0), (43, 2, 0, 900), (49, 8, 0, 0), (53, 4, 3, 0), (54, 0, 0, 0), (56, 16, 3, 1), (59, 41, 42, 0), (62, 8, 0, 0), (66, 4, 2, 0), (67, 0, 0, 1), (69, 0, 0, 1), (70, 10, 3, 0), (71, 0, 0, 1), (72, 11, 4, 0), (74, 5, 4, 0), (79, 0, 0, 0), (80, 11, 4, 0), (82, 0, 0, 0), (83, 11, 5, 0), (85, 5, 5, 0), (87, 2, 0, 900), (93, 8, 0, 0), (97, 5, 5, 0), (103, 8, 0, 0), (107, 2, 0, 250), (110, 5, 5, 0), (112, 17, 0, 0), (114, 4, 1, 0), (115, 31, 0, 0), (116, 40, 0, 0), (120, 41, 206, 0), (123, 5, 5, 0), (125, 1, 0, 30), (128, 11, 6, 0), (130, 5, 5, 0), (132, 1, 0, 30), (135, 11, 7, 0), (137, 8, 0, 0), (138, 5, 6, 0), (140, 0, 0, 1), (141, 18, 0, 0), (142, 5, 7, 0), (150, 8, 0, 0), (151, 5, 6, 0), (153, 0, 0, 1), (154, 17, 0, 0), (155, 5, 7, 0), (163, 8, 0, 0), (164, 5, 6, 0), (166, 5, 7, 0), (168, 0, 0, 1), (169, 18, 0, 0), (176, 8, 0, 0), (177, 5, 6, 0), (179, 5, 7, 0), (181, 0, 0, 1), (182, 17, 0, 0), (189, 41, 206, 0), (192, 8, 0, 0), (196, 5, 5, 0), (198, 0, 0, 1), (200, 16, 3, 1), (203, 0, 0, 1), (204, 11, 4, 0), (206, 16, 5, 1), (209, 41, 85, 0), (212, 41, 74, 0), (215, 4, 3, 0), (216, 8, 0, 0), (217, 4, 1, 0), (224, 0, 0, 1), (225, 41, 229, 0), (228, 0, 0, 0)]
theorem ok_X12_connected : tab_X12_connected.all (okE cX12_connected) = true := by decide +kernel
def ed_X12_connected : List (Nat × Instr × Nat) := [(6, .if_icmp .ge 25, 3), (10, .getfield 9, 3), (18, .laload, 1), (22, .ifCond .eq 9, 3), (35, .if_icmp .ne 5, 3), (39, .ireturn, 1), (46, .if_icmp .ge 16, 3), (50, .getfield 17, 3), (55, .bastore, 1), (63, .getfield 17, 3), (68, .bastore, 1), (76, .ifCond .eq 139, 3), (90, .if_icmp .ge 122, 3), (94, .getfield 17, 3), (99, .baload, 1), (100, .ifCond .ne 106, 3), (104, .getfield 9, 3), (113, .laload, 1), (117, .ifCond .eq 6, 3), (127, .irem, 1), (134, .idiv, 1), (144, .invokevirtual 101, 3), (147, .ifCond .ne 45, 3), (157, .invokevirtual 101, 3), (160, .ifCond .ne 32, 3), (170, .invokevirtual 101, 3), (173, .ifCond .ne 19, 3), (183, .invokevirtual 101, 3), (186, .ifCond .ne 6, 3), (193, .getfield 17, 3), (199, .bastore, 1), (218, .invokevirtual 89, 3), (221, .if_icmp .ne 7, 3), (229, .ireturn, 1)]
theorem okd_X12_connected : ed_X12_connected.all (okD cX12_connected) = true := by decide +kernel
def f_X12_connected (S : St) (p0 : Nat) (p1 : Int32) : Option (Int32 × St) := jn (κ := Int32 → Option (Int32 × St)) (fun x1 => if x1 = 900 then (some (0, S)) else (jn (κ := St → Option (Int32 × St)) (fun S4 => lt (gR S4 p0 3) fun (a7 : Nat) => stI S4 a7 x1 (vp_nar .boolean 1) fun (S9 : St) => jn (κ := Int32 → St → Option (Int32 × St)) (fun x10 S11 => cl (f_X12_areaOf S11 p0 p1) fun (v14 : Int32) => if x10 = v14 then (some (1, S11)) else (some (0, S11))) fun k12 => lp (κ := Int32 → Int32 → St → Option (Int32 × St)) (fun _ _ _ => none) (fun k18 x15 x16 S17 => if x16 = 0 then (k12 x15 S17) else (jn (κ := Int32 → Int32 → St → Option (Int32 × St)) (fun x20 x21 S22 => k18 x20 x21 S22) fun k23 => lp (κ := Int32 → Int32 → Int32 → St → Option (Int32 × St)) (fun _ _ _ _ => none) (fun k29 x25 x26 x27 S28 => if 900 ≤ x27 then (k23 x25 x26 S28) else (lt (gR S28 p0 3) fun (a31 : Nat) => ldI S28 a31 x27 fun (v33 : Int32) => jn (κ := Int32 → Int32 → St → Option (Int32 × St)) (fun x34 x35 S36 => k29 x34 x35 (x27 + 1) S36) fun k37 => if v33 = 0 then (lt (gR S28 p0 0) fun (a39 : Nat) => ldJ S28 a39 (250 + x27) fun (v41 : Int64) => if v41 = (Int32.toInt64 p1) then (lt (x27 - x27 / 30 * 30) fun (v42 : Int32) => lt (x27 / 30) fun (v43 : Int32) => cl (f_X12_isReached S28 p0 (v42 - 1) v43) fun (v44 : Int32) => jn (κ := Option (Int32 × St)) (lt (gR S28 p0 3) fun (a47 : Nat) => stI S28 a47 x27 (vp_nar .boolean 1) fun (S49 : St) => k37 (x25 + 1) 1 S49) fun k45 => if v44 = 0 then (cl (f_X12_isReached S28 p0 (v42 + 1) v43) fun (v50 : Int32) => if v50 = 0 then (cl (f_X12_isReached S28 p0 v42 (v43 - 1)) fun (v51 : Int32) => if v51 = 0 then (cl (f_X12_isReached S28 p0 v42 (v43 + 1)) fun (v52 : Int32) => if v52 = 0 then (k37 x25 x26 S28) else (k45)) else (k45)) else (k45)) else (k45)) else (k37 x25 x26 S28)) else (k37 x25 x26 S28))) FU x15 0 0 S17)) FU 1 1 S9) fun k5 => lp (κ := Int32 → St → Option (Int32 × St)) (fun _ _ => none) (fun k55 x53 S54 => if 900 ≤ x53 then (k5 S54) else (lt (gR S54 p0 3) fun (a57 : Nat) => stI S54 a57 x53 (vp_nar .boolean 0) fun (S59 : St) => k55 (x53 + 1) S59)) FU 0 S)) fun k2 => lp (κ := Int32 → Option (Int32 × St)) (fun _ => none) (fun k61 x60 => if 900 ≤ x60 then (k2 x60) else (lt (gR S p0 0) fun (a63 : Nat) => ldJ S a63 (250 + x60) fun (v65 : Int64) => if v65 = (Int32.toInt64 p1) then (k2 x60) else (k61 (x60 + 1)))) FU 0
set_option maxHeartbeats 4000000 in
set_option maxRecDepth 100000 in
theorem c_X12_connected (S : St) (p0 : Nat) (p1 : Int32) : Ct yX12_connected cX12_connected 8 (some .boolean) 3 68 [.ref p0, .int p1] [(p0, 11)] S (f_X12_connected S p0 p1) oIS sS := by
  refine Ct_of RX12 rfl (by decide) (Nat.le_of_ble_eq_true rfl) 6 (vs := [some (.ref p0), some (.int p1), none, none, none, none, none, none]) rfl (fun C X E hr ht => ?_)
  have t0_ : tT C p0 11 := ht (p0, 11) (by simp)
  unfold f_X12_connected
  refine s_run X ok_X12_connected 0 2 (pc' := 2) (vs' := [some (.ref p0), some (.int p1), some (.int 0), none, none, none, none, none]) (st' := []) rfl ?_
  refine s_jn (κ := Int32 → Option (Int32 × St)) (fun k2 => ∀ (x1 : Int32), Jd C 8 (QJ C oIS sS) S 31 [some (.ref p0), some (.int p1), some (.int x1), none, none, none, none, none] [] (k2 x1)) (fun x1 => ?_) (fun k2 h3 => ?_)
  · refine s_run X ok_X12_connected 13 2 (pc' := 35) (vs' := [some (.ref p0), some (.int p1), some (.int x1), none, none, none, none, none]) (st' := [.int 900, .int x1]) rfl ?_
    refine s_icmp_ne (tgt := 40) X (dk okd_X12_connected 4 rfl) (by decide) ?_ ?_
    · refine s_run X ok_X12_connected 16 2 (pc' := 42) (vs' := [some (.ref p0), some (.int p1), some (.int x1), some (.int 0), none, none, none, none]) (st' := []) rfl ?_
      refine s_jn (κ := St → Option (Int32 × St)) (fun k5 => ∀ (S4 : St), Jd C 8 (QJ C oIS sS) S4 62 [some (.ref p0), some (.int p1), some (.int x1), none, none, none, none, none] [] (k5 S4)) (fun S4 => ?_) (fun k5 h6 => ?_)
      · refine s_run X ok_X12_connected 25 1 (pc' := 63) (vs' := [some (.ref p0), some (.int p1), some (.int x1), none, none, none, none, none]) (st' := [.ref p0]) rfl ?_
        refine s_getR X fl_X12_17 t0_ (dk okd_X12_connected 9 rfl) (fun a7 (t8 : tT C a7 15) => ?_)
        refine s_run X ok_X12_connected 26 2 (pc' := 68) (vs' := [some (.ref p0), some (.int p1), some (.int x1), none, none, none, none, none]) (st' := [.int 1, .int x1, .ref a7]) rfl ?_
        refine s_zast X t8 (dk okd_X12_connected 10 rfl) (fun S9 => ?_)
        refine s_run X ok_X12_connected 28 4 (pc' := 74) (vs' := [some (.ref p0), some (.int p1), some (.int x1), some (.int 1), some (.int 1), none, none, none]) (st' := []) rfl ?_
        refine s_jn (κ := Int32 → St → Option (Int32 × St)) (fun k12 => ∀ (x10 : Int32) (S11 : St), Jd C 8 (QJ C oIS sS) S11 215 [some (.ref p0), some (.int p1), none, some (.int x10), none, none, none, none] [] (k12 x10 S11)) (fun x10 S11 => ?_) (fun k12 h13 => ?_)
        · refine s_run X ok_X12_connected 85 3 (pc' := 218) (vs' := [some (.ref p0), some (.int p1), none, some (.int x10), none, none, none, none]) (st' := [.int p1, .ref p0, .int x10]) rfl ?_
          refine s_callV (rest := [.int x10]) X E mv_X12_89 (c_X12_areaOf S11 p0 p1) (ta1 t0_) rfl (by decide) t0_ rfl rfl (Nat.le_of_ble_eq_true rfl) (Nat.le_of_ble_eq_true rfl) (Nat.le_of_ble_eq_true rfl) (dk okd_X12_connected 31 rfl) (st' := fun v14 => [.int v14, .int x10]) (fun _ => rfl) (fun v14 => ?_)
          refine s_icmp_ne (tgt := 228) X (dk okd_X12_connected 32 rfl) (by decide) ?_ ?_
          · refine s_run X ok_X12_connected 90 1 (pc' := 229) (vs' := [some (.ref p0), some (.int p1), none, some (.int x10), none, none, none, none]) (st' := [.int 0]) rfl ?_
            exact s_zret0 X hr (dk okd_X12_connected 33 rfl) (by decide) rfl rfl
          · refine s_run X ok_X12_connected 88 2 (pc' := 229) (vs' := [some (.ref p0), some (.int p1), none, some (.int x10), none, none, none, none]) (st' := [.int 1]) rfl ?_
            exact s_zret0 X hr (dk okd_X12_connected 33 rfl) (by decide) rfl rfl
        · refine s_less [true, true, false, true, true, false, false, false] (vs' := [some (.ref p0), some (.int p1), none, some (.int 1), some (.int 1), none, none, none]) rfl ?_
          refine s_lp (κ := Int32 → Int32 → St → Option (Int32 × St)) (fun k18 => ∀ (x15 : Int32) (x16 : Int32) (S17 : St), Jd C 8 (QJ C oIS sS) S17 74 [some (.ref p0), some (.int p1), none, some (.int x15), some (.int x16), none, none, none] [] (k18 x15 x16 S17)) (fun _ _ _ => s_none) (fun k18 h19 x15 x16 S17 => ?_) FU 1 1 S9
          refine s_run X ok_X12_connected 32 1 (pc' := 76) (vs' := [some (.ref p0), some (.int p1), none, some (.int x15), some (.int x16), none, none, none]) (st' := [.int x16]) rfl ?_
          refine s_if_eq (tgt := 215) X (dk okd_X12_connected 11 rfl) (by decide) ?_ ?_
          · exact s_less [true, true, false, true, false, false, false, false] rfl (h13 x15 S17)
          · refine s_run X ok_X12_connected 33 4 (pc' := 85) (vs' := [some (.ref p0), some (.int p1), none, some (.int x15), some (.int 0), some (.int 0), none, none]) (st' := []) rfl ?_
            refine s_jn (κ := Int32 → Int32 → St → Option (Int32 × St)) (fun k23 => ∀ (x20 : Int32) (x21 : Int32) (S22 : St), Jd C 8 (QJ C oIS sS) S22 212 [some (.ref p0), some (.int p1), none, some (.int x20), some (.int x21), none, none, none] [] (k23 x20 x21 S22)) (fun x20 x21 S22 => ?_) (fun k23 h24 => ?_)
            · refine s_run X ok_X12_connected 84 1 (pc' := 74) (vs' := [some (.ref p0), some (.int p1), none, some (.int x20), some (.int x21), none, none, none]) (st' := []) rfl ?_
              exact h19 x20 x21 S22
            · refine s_lp (κ := Int32 → Int32 → Int32 → St → Option (Int32 × St)) (fun k29 => ∀ (x25 : Int32) (x26 : Int32) (x27 : Int32) (S28 : St), Jd C 8 (QJ C oIS sS) S28 85 [some (.ref p0), some (.int p1), none, some (.int x25), some (.int x26), some (.int x27), none, none] [] (k29 x25 x26 x27 S28)) (fun _ _ _ _ => s_none) (fun k29 h30 x25 x26 x27 S28 => ?_) FU x15 0 0 S17
              refine s_run X ok_X12_connected 37 2 (pc' := 90) (vs' := [some (.ref p0), some (.int p1), none, some (.int x25), some (.int x26), some (.int x27), none, none]) (st' := [.int 900, .int x27]) rfl ?_
              refine s_icmp_ge (tgt := 212) X (dk okd_X12_connected 12 rfl) (by decide) ?_ ?_
              · exact s_less [true, true, false, true, true, false, false, false] rfl (h24 x25 x26 S28)
              · refine s_run X ok_X12_connected 39 1 (pc' := 94) (vs' := [some (.ref p0), some (.int p1), none, some (.int x25), some (.int x26), some (.int x27), none, none]) (st' := [.ref p0]) rfl ?_
                refine s_getR X fl_X12_17 t0_ (dk okd_X12_connected 13 rfl) (fun a31 (t32 : tT C a31 15) => ?_)
                refine s_run X ok_X12_connected 40 1 (pc' := 99) (vs' := [some (.ref p0), some (.int p1), none, some (.int x25), some (.int x26), some (.int x27), none, none]) (st' := [.int x27, .ref a31]) rfl ?_
                refine s_zald X t32 (dk okd_X12_connected 14 rfl) (fun v33 => ?_)
                refine s_jn (κ := Int32 → Int32 → St → Option (Int32 × St)) (fun k37 => ∀ (x34 : Int32) (x35 : Int32) (S36 : St), Jd C 8 (QJ C oIS sS) S36 206 [some (.ref p0), some (.int p1), none, some (.int x34), some (.int x35), some (.int x27), none, none] [] (k37 x34 x35 S36)) (fun x34 x35 S36 => ?_) (fun k37 h38 => ?_)
                · refine s_run X ok_X12_connected 82 2 (pc' := 85) (vs' := [some (.ref p0), some (.int p1), none, some (.int x34), some (.int x35), some (.int (x27 + 1)), none, none]) (st' := []) rfl ?_
                  exact h30 x34 x35 (x27 + 1) S36
                · refine s_if_ne (tgt := 206) X (dk okd_X12_connected 15 rfl) (by decide) ?_ ?_
                  · exact h38 x25 x26 S28
                  · refine s_run X ok_X12_connected 41 1 (pc' := 104) (vs' := [some (.ref p0), some (.int p1), none, some (.int x25), some (.int x26), some (.int x27), none, none]) (st' := [.ref p0]) rfl ?_
                    refine s_getR X fl_X12_9 t0_ (dk okd_X12_connected 16 rfl) (fun a39 (t40 : tT C a39 14) => ?_)
                    refine s_run X ok_X12_connected 42 3 (pc' := 113) (vs' := [some (.ref p0), some (.int p1), none, some (.int x25), some (.int x26), some (.int x27), none, none]) (st' := [.int (250 + x27), .ref a39]) rfl ?_
                    refine s_lald X t40 (dk okd_X12_connected 17 rfl) (fun v41 => ?_)
                    refine s_run X ok_X12_connected 45 3 (pc' := 117) (vs' := [some (.ref p0), some (.int p1), none, some (.int x25), some (.int x26), some (.int x27), none, none]) (st' := [.int (lg_cmp v41 (Int32.toInt64 p1))]) rfl ?_
                    refine s_lif_eq (tgt := 123) X (dk okd_X12_connected 18 rfl) (by decide) ?_ ?_
                    · refine s_run X ok_X12_connected 49 2 (pc' := 127) (vs' := [some (.ref p0), some (.int p1), none, some (.int x25), some (.int x26), some (.int x27), none, none]) (st' := [.int 30, .int x27]) rfl ?_
                      refine s_irem0 X (dk okd_X12_connected 19 rfl) (by decide) ?_
                      refine s_nmI (fun v42 => ?_)
                      refine s_run X ok_X12_connected 51 3 (pc' := 134) (vs' := [some (.ref p0), some (.int p1), none, some (.int x25), some (.int x26), some (.int x27), some (.int v42), none]) (st' := [.int 30, .int x27]) rfl ?_
                      refine s_idiv0 X (dk okd_X12_connected 20 rfl) (by decide) ?_
                      refine s_nmI (fun v43 => ?_)
                      refine s_run X ok_X12_connected 54 6 (pc' := 144) (vs' := [some (.ref p0), some (.int p1), none, some (.int x25), some (.int x26), some (.int x27), some (.int v42), some (.int v43)]) (st' := [.int v43, .int (v42 - 1), .ref p0]) rfl ?_
                      refine s_callV (rest := []) X E mv_X12_101 (c_X12_isReached S28 p0 (v42 - 1) v43) (ta1 t0_) rfl (by decide) t0_ rfl rfl (Nat.le_of_ble_eq_true rfl) (Nat.le_of_ble_eq_true rfl) (Nat.le_of_ble_eq_true rfl) (dk okd_X12_connected 21 rfl) (st' := fun v44 => [.int v44]) (fun _ => rfl) (fun v44 => ?_)
                      refine s_jn (κ := Option (Int32 × St)) (fun k45 => Jd C 8 (QJ C oIS sS) S28 192 [some (.ref p0), some (.int p1), none, some (.int x25), none, some (.int x27), none, none] [] k45) ?_ (fun k45 h46 => ?_)
                      · refine s_run X ok_X12_connected 76 1 (pc' := 193) (vs' := [some (.ref p0), some (.int p1), none, some (.int x25), none, some (.int x27), none, none]) (st' := [.ref p0]) rfl ?_
                        refine s_getR X fl_X12_17 t0_ (dk okd_X12_connected 29 rfl) (fun a47 (t48 : tT C a47 15) => ?_)
                        refine s_run X ok_X12_connected 77 2 (pc' := 199) (vs' := [some (.ref p0), some (.int p1), none, some (.int x25), none, some (.int x27), none, none]) (st' := [.int 1, .int x27, .ref a47]) rfl ?_
                        refine s_zast X t48 (dk okd_X12_connected 30 rfl) (fun S49 => ?_)
                        refine s_run X ok_X12_connected 79 3 (pc' := 206) (vs' := [some (.ref p0), some (.int p1), none, some (.int (x25 + 1)), some (.int 1), some (.int x27), none, none]) (st' := []) rfl ?_
                        exact h38 (x25 + 1) 1 S49
                      · refine s_if_ne (tgt := 192) X (dk okd_X12_connected 22 rfl) (by decide) ?_ ?_
                        · exact s_less [true, true, false, true, false, true, false, false] rfl (h46)
                        · refine s_run X ok_X12_connected 60 5 (pc' := 157) (vs' := [some (.ref p0), some (.int p1), none, some (.int x25), some (.int x26), some (.int x27), some (.int v42), some (.int v43)]) (st' := [.int v43, .int (v42 + 1), .ref p0]) rfl ?_
                          refine s_callV (rest := []) X E mv_X12_101 (c_X12_isReached S28 p0 (v42 + 1) v43) (ta1 t0_) rfl (by decide) t0_ rfl rfl (Nat.le_of_ble_eq_true rfl) (Nat.le_of_ble_eq_true rfl) (Nat.le_of_ble_eq_true rfl) (dk okd_X12_connected 23 rfl) (st' := fun v50 => [.int v50]) (fun _ => rfl) (fun v50 => ?_)
                          refine s_if_ne (tgt := 192) X (dk okd_X12_connected 24 rfl) (by decide) ?_ ?_
                          · exact s_less [true, true, false, true, false, true, false, false] rfl (h46)
                          · refine s_run X ok_X12_connected 65 5 (pc' := 170) (vs' := [some (.ref p0), some (.int p1), none, some (.int x25), some (.int x26), some (.int x27), some (.int v42), some (.int v43)]) (st' := [.int (v43 - 1), .int v42, .ref p0]) rfl ?_
                            refine s_callV (rest := []) X E mv_X12_101 (c_X12_isReached S28 p0 v42 (v43 - 1)) (ta1 t0_) rfl (by decide) t0_ rfl rfl (Nat.le_of_ble_eq_true rfl) (Nat.le_of_ble_eq_true rfl) (Nat.le_of_ble_eq_true rfl) (dk okd_X12_connected 25 rfl) (st' := fun v51 => [.int v51]) (fun _ => rfl) (fun v51 => ?_)
                            refine s_if_ne (tgt := 192) X (dk okd_X12_connected 26 rfl) (by decide) ?_ ?_
                            · exact s_less [true, true, false, true, false, true, false, false] rfl (h46)
                            · refine s_run X ok_X12_connected 70 5 (pc' := 183) (vs' := [some (.ref p0), some (.int p1), none, some (.int x25), some (.int x26), some (.int x27), some (.int v42), some (.int v43)]) (st' := [.int (v43 + 1), .int v42, .ref p0]) rfl ?_
                              refine s_callV (rest := []) X E mv_X12_101 (c_X12_isReached S28 p0 v42 (v43 + 1)) (ta1 t0_) rfl (by decide) t0_ rfl rfl (Nat.le_of_ble_eq_true rfl) (Nat.le_of_ble_eq_true rfl) (Nat.le_of_ble_eq_true rfl) (dk okd_X12_connected 27 rfl) (st' := fun v52 => [.int v52]) (fun _ => rfl) (fun v52 => ?_)
                              refine s_if_ne (tgt := 192) X (dk okd_X12_connected 28 rfl) (by decide) ?_ ?_
                              · exact s_less [true, true, false, true, false, true, false, false] rfl (h46)
                              · refine s_run X ok_X12_connected 75 1 (pc' := 206) (vs' := [some (.ref p0), some (.int p1), none, some (.int x25), some (.int x26), some (.int x27), some (.int v42), some (.int v43)]) (st' := []) rfl ?_
                                exact s_less [true, true, false, true, true, true, false, false] rfl (h38 x25 x26 S28)
                    · refine s_run X ok_X12_connected 48 1 (pc' := 206) (vs' := [some (.ref p0), some (.int p1), none, some (.int x25), some (.int x26), some (.int x27), none, none]) (st' := []) rfl ?_
                      exact h38 x25 x26 S28
      · refine s_lp (κ := Int32 → St → Option (Int32 × St)) (fun k55 => ∀ (x53 : Int32) (S54 : St), Jd C 8 (QJ C oIS sS) S54 42 [some (.ref p0), some (.int p1), some (.int x1), some (.int x53), none, none, none, none] [] (k55 x53 S54)) (fun _ _ => s_none) (fun k55 h56 x53 S54 => ?_) FU 0 S
        refine s_run X ok_X12_connected 18 2 (pc' := 46) (vs' := [some (.ref p0), some (.int p1), some (.int x1), some (.int x53), none, none, none, none]) (st' := [.int 900, .int x53]) rfl ?_
        refine s_icmp_ge (tgt := 62) X (dk okd_X12_connected 6 rfl) (by decide) ?_ ?_
        · exact s_less [true, true, true, false, false, false, false, false] rfl (h6 S54)
        · refine s_run X ok_X12_connected 20 1 (pc' := 50) (vs' := [some (.ref p0), some (.int p1), some (.int x1), some (.int x53), none, none, none, none]) (st' := [.ref p0]) rfl ?_
          refine s_getR X fl_X12_17 t0_ (dk okd_X12_connected 7 rfl) (fun a57 (t58 : tT C a57 15) => ?_)
          refine s_run X ok_X12_connected 21 2 (pc' := 55) (vs' := [some (.ref p0), some (.int p1), some (.int x1), some (.int x53), none, none, none, none]) (st' := [.int 0, .int x53, .ref a57]) rfl ?_
          refine s_zast X t58 (dk okd_X12_connected 8 rfl) (fun S59 => ?_)
          refine s_run X ok_X12_connected 23 2 (pc' := 42) (vs' := [some (.ref p0), some (.int p1), some (.int x1), some (.int (x53 + 1)), none, none, none, none]) (st' := []) rfl ?_
          exact h56 (x53 + 1) S59
    · refine s_run X ok_X12_connected 15 1 (pc' := 39) (vs' := [some (.ref p0), some (.int p1), some (.int x1), none, none, none, none, none]) (st' := [.int 0]) rfl ?_
      exact s_zret0 X hr (dk okd_X12_connected 5 rfl) (by decide) rfl rfl
  · refine s_lp (κ := Int32 → Option (Int32 × St)) (fun k61 => ∀ (x60 : Int32), Jd C 8 (QJ C oIS sS) S 2 [some (.ref p0), some (.int p1), some (.int x60), none, none, none, none, none] [] (k61 x60)) (fun _ => s_none) (fun k61 h62 x60 => ?_) FU 0
    refine s_run X ok_X12_connected 2 2 (pc' := 6) (vs' := [some (.ref p0), some (.int p1), some (.int x60), none, none, none, none, none]) (st' := [.int 900, .int x60]) rfl ?_
    refine s_icmp_ge (tgt := 31) X (dk okd_X12_connected 0 rfl) (by decide) ?_ ?_
    · exact h3 x60
    · refine s_run X ok_X12_connected 4 1 (pc' := 10) (vs' := [some (.ref p0), some (.int p1), some (.int x60), none, none, none, none, none]) (st' := [.ref p0]) rfl ?_
      refine s_getR X fl_X12_9 t0_ (dk okd_X12_connected 1 rfl) (fun a63 (t64 : tT C a63 14) => ?_)
      refine s_run X ok_X12_connected 5 3 (pc' := 18) (vs' := [some (.ref p0), some (.int p1), some (.int x60), none, none, none, none, none]) (st' := [.int (250 + x60), .ref a63]) rfl ?_
      refine s_lald X t64 (dk okd_X12_connected 2 rfl) (fun v65 => ?_)
      refine s_run X ok_X12_connected 8 3 (pc' := 22) (vs' := [some (.ref p0), some (.int p1), some (.int x60), none, none, none, none, none]) (st' := [.int (lg_cmp v65 (Int32.toInt64 p1))]) rfl ?_
      refine s_lif_eq (tgt := 31) X (dk okd_X12_connected 3 rfl) (by decide) ?_ ?_
      · exact h3 x60
      · refine s_run X ok_X12_connected 11 2 (pc' := 2) (vs' := [some (.ref p0), some (.int p1), some (.int (x60 + 1)), none, none, none, none, none]) (st' := []) rfl ?_
        exact h62 (x60 + 1)
def tab_X12_isConnected : List En := [(0, 8, 0, 0), (1, 0, 0, 0), (5, 8, 0, 0), (6, 8, 0, 0), (7, 4, 1, 0), (14, 0, 0, 1), (15, 41, 19, 0), (18, 0, 0, 0), (19, 0, 0, 1), (26, 8, 0, 0), (27, 4, 1, 0), (34, 0, 0, 1), (35, 41, 39, 0), (38, 0, 0, 0)]
theorem ok_X12_isConnected : tab_X12_isConnected.all (okE cX12_isConnected) = true := by decide +kernel
def ed_X12_isConnected : List (Nat × Instr × Nat) := [(2, .putfield 50, 3), (8, .invokevirtual 85, 3), (11, .ifCond .ne 7, 3), (20, .invokevirtual 81, 3), (23, .ifCond .ne 15, 3), (28, .invokevirtual 104, 3), (31, .ifCond .eq 7, 3), (39, .ireturn, 1)]
theorem okd_X12_isConnected : ed_X12_isConnected.all (okD cX12_isConnected) = true := by decide +kernel
def f_X12_isConnected (S : St) (p0 : Nat) (p1 : Int32) : Option (Int32 × St) := lt (uI S p0 2 0) fun (S1 : St) => cl (f_X12_isFranchisee S1 p0 p1) fun (v2 : Int32) => jn (κ := Int32 → Option (Int32 × St)) (fun x3 => cl (f_X12_throwsIf S1 p0 x3 1) fun (o6 : Int32 × St) => jn (κ := St → Option (Int32 × St)) (fun S7 => some (0, S7)) fun k8 => if o6.1 = 0 then (cl (f_X12_connected o6.2 p0 p1) fun (o10 : Int32 × St) => if o10.1 = 0 then (k8 o10.2) else (some (1, o10.2))) else (k8 o6.2)) fun k4 => if v2 = 0 then (k4 1) else (k4 0)
set_option maxHeartbeats 4000000 in
set_option maxRecDepth 100000 in
theorem c_X12_isConnected (S : St) (p0 : Nat) (p1 : Int32) : Ct yX12_isConnected cX12_isConnected 2 (some .boolean) 4 95 [.ref p0, .int p1] [(p0, 11)] S (f_X12_isConnected S p0 p1) oIS sS := by
  refine Ct_of RX12 rfl (by decide) (Nat.le_of_ble_eq_true rfl) 0 (vs := [some (.ref p0), some (.int p1)]) rfl (fun C X E hr ht => ?_)
  have t0_ : tT C p0 11 := ht (p0, 11) (by simp)
  unfold f_X12_isConnected
  refine s_run X ok_X12_isConnected 0 2 (pc' := 2) (vs' := [some (.ref p0), some (.int p1)]) (st' := [.int 0, .ref p0]) rfl ?_
  refine s_putI X fp_X12_50 t0_ (dk okd_X12_isConnected 0 rfl) (fun S1 => ?_)
  refine s_run X ok_X12_isConnected 2 3 (pc' := 8) (vs' := [some (.ref p0), some (.int p1)]) (st' := [.int p1, .ref p0, .ref p0]) rfl ?_
  refine s_callV (rest := [.ref p0]) X E mv_X12_85 (c_X12_isFranchisee S1 p0 p1) (ta1 t0_) rfl (by decide) t0_ rfl rfl (Nat.le_of_ble_eq_true rfl) (Nat.le_of_ble_eq_true rfl) (Nat.le_of_ble_eq_true rfl) (dk okd_X12_isConnected 1 rfl) (st' := fun v2 => [.int v2, .ref p0]) (fun _ => rfl) (fun v2 => ?_)
  refine s_jn (κ := Int32 → Option (Int32 × St)) (fun k4 => ∀ (x3 : Int32), Jd C 2 (QJ C oIS sS) S1 19 [some (.ref p0), some (.int p1)] [.int x3, .ref p0] (k4 x3)) (fun x3 => ?_) (fun k4 h5 => ?_)
  · refine s_run X ok_X12_isConnected 8 1 (pc' := 20) (vs' := [some (.ref p0), some (.int p1)]) (st' := [.int 1, .int x3, .ref p0]) rfl ?_
    refine s_callV (rest := []) X E mv_X12_81 (c_X12_throwsIf S1 p0 x3 1) (ta1 t0_) rfl (by decide) t0_ rfl rfl (Nat.le_of_ble_eq_true rfl) (Nat.le_of_ble_eq_true rfl) (Nat.le_of_ble_eq_true rfl) (dk okd_X12_isConnected 3 rfl) (st' := fun o6 => [.int o6.1]) (fun _ => rfl) (fun o6 => ?_)
    refine s_jn (κ := St → Option (Int32 × St)) (fun k8 => ∀ (S7 : St), Jd C 2 (QJ C oIS sS) S7 38 [none, none] [] (k8 S7)) (fun S7 => ?_) (fun k8 h9 => ?_)
    · refine s_run X ok_X12_isConnected 13 1 (pc' := 39) (vs' := [none, none]) (st' := [.int 0]) rfl ?_
      exact s_zret0 X hr (dk okd_X12_isConnected 7 rfl) (by decide) rfl rfl
    · refine s_if_ne (tgt := 38) X (dk okd_X12_isConnected 4 rfl) (by decide) ?_ ?_
      · exact s_less [false, false] rfl (h9 o6.2)
      · refine s_run X ok_X12_isConnected 9 2 (pc' := 28) (vs' := [some (.ref p0), some (.int p1)]) (st' := [.int p1, .ref p0]) rfl ?_
        refine s_callV (rest := []) X E mv_X12_104 (c_X12_connected o6.2 p0 p1) (ta1 t0_) rfl (by decide) t0_ rfl rfl (Nat.le_of_ble_eq_true rfl) (Nat.le_of_ble_eq_true rfl) (Nat.le_of_ble_eq_true rfl) (dk okd_X12_isConnected 5 rfl) (st' := fun o10 => [.int o10.1]) (fun _ => rfl) (fun o10 => ?_)
        refine s_if_eq (tgt := 38) X (dk okd_X12_isConnected 6 rfl) (by decide) ?_ ?_
        · exact s_less [false, false] rfl (h9 o10.2)
        · refine s_run X ok_X12_isConnected 11 2 (pc' := 39) (vs' := [some (.ref p0), some (.int p1)]) (st' := [.int 1]) rfl ?_
          exact s_zret0 X hr (dk okd_X12_isConnected 7 rfl) (by decide) rfl rfl
  · refine s_if_ne (tgt := 18) X (dk okd_X12_isConnected 2 rfl) (by decide) ?_ ?_
    · refine s_run X ok_X12_isConnected 7 1 (pc' := 19) (vs' := [some (.ref p0), some (.int p1)]) (st' := [.int 0, .ref p0]) rfl ?_
      exact h5 0
    · refine s_run X ok_X12_isConnected 5 2 (pc' := 19) (vs' := [some (.ref p0), some (.int p1)]) (st' := [.int 1, .ref p0]) rfl ?_
      exact h5 1
def tab_X12_size : List En := [(0, 4, 0, 0), (4, 4, 0, 0), (5, 22, 0, 0), (6, 41, 10, 0), (9, 4, 0, 0)]
theorem ok_X12_size : tab_X12_size.all (okE cX12_size) = true := by decide +kernel
def ed_X12_size : List (Nat × Instr × Nat) := [(1, .ifCond .ge 8, 3), (10, .ireturn, 1)]
theorem okd_X12_size : ed_X12_size.all (okD cX12_size) = true := by decide +kernel
def f_X12_size (S : St) (p0 : Int32) : Option (Int32) := if 0 ≤ p0 then (some p0) else (some (-p0))
set_option maxHeartbeats 4000000 in
set_option maxRecDepth 100000 in
theorem c_X12_size (S : St) (p0 : Int32) : Ct yX12_size cX12_size 1 (some .int) 0 0 [.int p0] [] S (f_X12_size S p0) oI (fun _ => S) := by
  refine Ct_of RX12 rfl (by decide) (Nat.le_of_ble_eq_true rfl) 0 (vs := [some (.int p0)]) rfl (fun C X E hr ht => ?_)
  unfold f_X12_size
  refine s_run X ok_X12_size 0 1 (pc' := 1) (vs' := [some (.int p0)]) (st' := [.int p0]) rfl ?_
  refine s_if_ge (tgt := 9) X (dk okd_X12_size 0 rfl) (by decide) ?_ ?_
  · refine s_run X ok_X12_size 4 1 (pc' := 10) (vs' := [some (.int p0)]) (st' := [.int p0]) rfl ?_
    exact s_iret X hr (dk okd_X12_size 1 rfl) rfl rfl
  · refine s_run X ok_X12_size 1 3 (pc' := 10) (vs' := [some (.int p0)]) (st' := [.int (-p0)]) rfl ?_
    exact s_iret X hr (dk okd_X12_size 1 rfl) rfl rfl
def tab_X12_apart : List En := [(0, 4, 0, 0), (1, 4, 2, 0), (2, 1, 0, 30), (5, 18, 0, 0), (9, 4, 1, 0), (10, 4, 2, 0), (11, 1, 0, 30), (14, 18, 0, 0), (18, 17, 0, 0)]
theorem ok_X12_apart : tab_X12_apart.all (okE cX12_apart) = true := by decide +kernel
def ed_X12_apart : List (Nat × Instr × Nat) := [(4, .irem, 1), (6, .invokestatic 107, 3), (13, .idiv, 1), (15, .invokestatic 107, 3), (19, .ireturn, 1)]
theorem okd_X12_apart : ed_X12_apart.all (okD cX12_apart) = true := by decide +kernel
def f_X12_apart (S : St) (p0 : Int32) (p1 : Int32) (p2 : Int32) : Option (Int32) := cl (f_X12_size S (p0 - (p2 - p2 / 30 * 30))) fun (v1 : Int32) => cl (f_X12_size S (p1 - (p2 / 30))) fun (v2 : Int32) => some (v1 + v2)
set_option maxHeartbeats 4000000 in
set_option maxRecDepth 100000 in
theorem c_X12_apart (S : St) (p0 : Int32) (p1 : Int32) (p2 : Int32) : Ct yX12_apart cX12_apart 3 (some .int) 1 20 [.int p0, .int p1, .int p2] [] S (f_X12_apart S p0 p1 p2) oI (fun _ => S) := by
  refine Ct_of RX12 rfl (by decide) (Nat.le_of_ble_eq_true rfl) 0 (vs := [some (.int p0), some (.int p1), some (.int p2)]) rfl (fun C X E hr ht => ?_)
  unfold f_X12_apart
  refine s_run X ok_X12_apart 0 3 (pc' := 4) (vs' := [some (.int p0), some (.int p1), some (.int p2)]) (st' := [.int 30, .int p2, .int p0]) rfl ?_
  refine s_irem0 X (dk okd_X12_apart 0 rfl) (by decide) ?_
  refine s_run X ok_X12_apart 3 1 (pc' := 6) (vs' := [some (.int p0), some (.int p1), some (.int p2)]) (st' := [.int (p0 - (p2 - p2 / 30 * 30))]) rfl ?_
  refine s_callS (rest := []) X E ms_X12_107 (c_X12_size S (p0 - (p2 - p2 / 30 * 30))) (ta0) rfl rfl (Nat.le_of_ble_eq_true rfl) (Nat.le_of_ble_eq_true rfl) (Nat.le_of_ble_eq_true rfl) (dk okd_X12_apart 1 rfl) (st' := fun v1 => [.int v1]) (fun _ => rfl) (fun v1 => ?_)
  refine s_run X ok_X12_apart 4 3 (pc' := 13) (vs' := [some (.int p0), some (.int p1), some (.int p2)]) (st' := [.int 30, .int p2, .int p1, .int v1]) rfl ?_
  refine s_idiv0 X (dk okd_X12_apart 2 rfl) (by decide) ?_
  refine s_run X ok_X12_apart 7 1 (pc' := 15) (vs' := [some (.int p0), some (.int p1), some (.int p2)]) (st' := [.int (p1 - (p2 / 30)), .int v1]) rfl ?_
  refine s_callS (rest := [.int v1]) X E ms_X12_107 (c_X12_size S (p1 - (p2 / 30))) (ta0) rfl rfl (Nat.le_of_ble_eq_true rfl) (Nat.le_of_ble_eq_true rfl) (Nat.le_of_ble_eq_true rfl) (dk okd_X12_apart 3 rfl) (st' := fun v2 => [.int v2, .int v1]) (fun _ => rfl) (fun v2 => ?_)
  refine s_run X ok_X12_apart 8 1 (pc' := 19) (vs' := [some (.int p0), some (.int p1), some (.int p2)]) (st' := [.int (v1 + v2)]) rfl ?_
  exact s_iret X hr (dk okd_X12_apart 4 rfl) rfl rfl
def tab_X12_distance : List En := [(0, 8, 0, 0), (1, 0, 0, 0), (5, 8, 0, 0), (6, 8, 0, 0), (7, 4, 1, 0), (14, 0, 0, 1), (15, 41, 19, 0), (18, 0, 0, 0), (19, 0, 0, 1), (26, 8, 0, 0), (27, 4, 2, 0), (28, 4, 3, 0), (35, 0, 0, 1), (36, 41, 40, 0), (39, 0, 0, 0), (40, 0, 0, 2), (47, 0, 0, 0), (49, 0, 0, (-1)), (50, 11, 4, 0), (52, 0, 0, 0), (53, 11, 5, 0), (55, 5, 5, 0), (57, 2, 0, 900), (63, 8, 0, 0), (67, 2, 0, 250), (70, 5, 5, 0), (72, 17, 0, 0), (74, 4, 1, 0), (75, 31, 0, 0), (76, 40, 0, 0), (80, 5, 4, 0), (82, 0, 0, (-1)), (86, 4, 2, 0), (87, 4, 3, 0), (88, 5, 5, 0), (93, 5, 4, 0), (98, 4, 2, 0), (99, 4, 3, 0), (100, 5, 5, 0), (105, 11, 4, 0), (107, 16, 5, 1), (110, 41, 55, 0), (113, 5, 4, 0)]
theorem ok_X12_distance : tab_X12_distance.all (okE cX12_distance) = true := by decide +kernel
def ed_X12_distance : List (Nat × Instr × Nat) := [(2, .putfield 50, 3), (8, .invokevirtual 85, 3), (11, .ifCond .ne 7, 3), (20, .invokevirtual 81, 3), (23, .ifCond .ne 24, 3), (29, .invokestatic 67, 3), (32, .ifCond .ne 7, 3), (41, .invokevirtual 81, 3), (44, .ifCond .eq 5, 3), (48, .ireturn, 1), (60, .if_icmp .ge 53, 3), (64, .getfield 9, 3), (73, .laload, 1), (77, .ifCond .ne 30, 3), (83, .if_icmp .eq 15, 3), (90, .invokestatic 110, 3), (95, .if_icmp .ge 12, 3), (102, .invokestatic 110, 3), (115, .ireturn, 1)]
theorem okd_X12_distance : ed_X12_distance.all (okD cX12_distance) = true := by decide +kernel
def f_X12_distance (S : St) (p0 : Nat) (p1 : Int32) (p2 : Int32) (p3 : Int32) : Option (Int32 × St) := lt (uI S p0 2 0) fun (S1 : St) => cl (f_X12_isFranchisee S1 p0 p1) fun (v2 : Int32) => jn (κ := Int32 → Option (Int32 × St)) (fun x3 => cl (f_X12_throwsIf S1 p0 x3 1) fun (o6 : Int32 × St) => if o6.1 = 0 then (cl (f_X12_isCell o6.2 p2 p3) fun (v7 : Int32) => jn (κ := Int32 → Option (Int32 × St)) (fun x8 => cl (f_X12_throwsIf o6.2 p0 x8 2) fun (o11 : Int32 × St) => if o11.1 = 0 then (jn (κ := Int32 → Option (Int32 × St)) (fun x12 => some (x12, o11.2)) fun k13 => lp (κ := Int32 → Int32 → Option (Int32 × St)) (fun _ _ => none) (fun k17 x15 x16 => if 900 ≤ x16 then (k13 x15) else (lt (gR o11.2 p0 0) fun (a19 : Nat) => ldJ o11.2 a19 (250 + x16) fun (v21 : Int64) => jn (κ := Int32 → Option (Int32 × St)) (fun x22 => k17 x22 (x16 + 1)) fun k23 => if v21 = (Int32.toInt64 p1) then (jn (κ := Option (Int32 × St)) (cl (f_X12_apart o11.2 p2 p3 x16) fun (v27 : Int32) => k23 v27) fun k25 => if x15 = (-1) then (k25) else (cl (f_X12_apart o11.2 p2 p3 x16) fun (v28 : Int32) => if x15 ≤ v28 then (k23 x15) else (k25))) else (k23 x15))) FU (-1) 0) else (some (0, o11.2))) fun k9 => if v7 = 0 then (k9 1) else (k9 0)) else (some (0, o6.2))) fun k4 => if v2 = 0 then (k4 1) else (k4 0)
set_option maxHeartbeats 4000000 in
set_option maxRecDepth 100000 in
theorem c_X12_distance (S : St) (p0 : Nat) (p1 : Int32) (p2 : Int32) (p3 : Int32) : Ct yX12_distance cX12_distance 6 (some .int) 2 46 [.ref p0, .int p1, .int p2, .int p3] [(p0, 11)] S (f_X12_distance S p0 p1 p2 p3) oIS sS := by
  refine Ct_of RX12 rfl (by decide) (Nat.le_of_ble_eq_true rfl) 2 (vs := [some (.ref p0), some (.int p1), some (.int p2), some (.int p3), none, none]) rfl (fun C X E hr ht => ?_)
  have t0_ : tT C p0 11 := ht (p0, 11) (by simp)
  unfold f_X12_distance
  refine s_run X ok_X12_distance 0 2 (pc' := 2) (vs' := [some (.ref p0), some (.int p1), some (.int p2), some (.int p3), none, none]) (st' := [.int 0, .ref p0]) rfl ?_
  refine s_putI X fp_X12_50 t0_ (dk okd_X12_distance 0 rfl) (fun S1 => ?_)
  refine s_run X ok_X12_distance 2 3 (pc' := 8) (vs' := [some (.ref p0), some (.int p1), some (.int p2), some (.int p3), none, none]) (st' := [.int p1, .ref p0, .ref p0]) rfl ?_
  refine s_callV (rest := [.ref p0]) X E mv_X12_85 (c_X12_isFranchisee S1 p0 p1) (ta1 t0_) rfl (by decide) t0_ rfl rfl (Nat.le_of_ble_eq_true rfl) (Nat.le_of_ble_eq_true rfl) (Nat.le_of_ble_eq_true rfl) (dk okd_X12_distance 1 rfl) (st' := fun v2 => [.int v2, .ref p0]) (fun _ => rfl) (fun v2 => ?_)
  refine s_jn (κ := Int32 → Option (Int32 × St)) (fun k4 => ∀ (x3 : Int32), Jd C 6 (QJ C oIS sS) S1 19 [some (.ref p0), some (.int p1), some (.int p2), some (.int p3), none, none] [.int x3, .ref p0] (k4 x3)) (fun x3 => ?_) (fun k4 h5 => ?_)
  · refine s_run X ok_X12_distance 8 1 (pc' := 20) (vs' := [some (.ref p0), some (.int p1), some (.int p2), some (.int p3), none, none]) (st' := [.int 1, .int x3, .ref p0]) rfl ?_
    refine s_callV (rest := []) X E mv_X12_81 (c_X12_throwsIf S1 p0 x3 1) (ta1 t0_) rfl (by decide) t0_ rfl rfl (Nat.le_of_ble_eq_true rfl) (Nat.le_of_ble_eq_true rfl) (Nat.le_of_ble_eq_true rfl) (dk okd_X12_distance 3 rfl) (st' := fun o6 => [.int o6.1]) (fun _ => rfl) (fun o6 => ?_)
    refine s_if_ne (tgt := 47) X (dk okd_X12_distance 4 rfl) (by decide) ?_ ?_
    · refine s_run X ok_X12_distance 16 1 (pc' := 48) (vs' := [some (.ref p0), some (.int p1), some (.int p2), some (.int p3), none, none]) (st' := [.int 0]) rfl ?_
      exact s_iret X hr (dk okd_X12_distance 9 rfl) rfl rfl
    · refine s_run X ok_X12_distance 9 3 (pc' := 29) (vs' := [some (.ref p0), some (.int p1), some (.int p2), some (.int p3), none, none]) (st' := [.int p3, .int p2, .ref p0]) rfl ?_
      refine s_callS (rest := [.ref p0]) X E ms_X12_67 (c_X12_isCell o6.2 p2 p3) (ta0) rfl rfl (Nat.le_of_ble_eq_true rfl) (Nat.le_of_ble_eq_true rfl) (Nat.le_of_ble_eq_true rfl) (dk okd_X12_distance 5 rfl) (st' := fun v7 => [.int v7, .ref p0]) (fun _ => rfl) (fun v7 => ?_)
      refine s_jn (κ := Int32 → Option (Int32 × St)) (fun k9 => ∀ (x8 : Int32), Jd C 6 (QJ C oIS sS) o6.2 40 [some (.ref p0), some (.int p1), some (.int p2), some (.int p3), none, none] [.int x8, .ref p0] (k9 x8)) (fun x8 => ?_) (fun k9 h10 => ?_)
      · refine s_run X ok_X12_distance 15 1 (pc' := 41) (vs' := [some (.ref p0), some (.int p1), some (.int p2), some (.int p3), none, none]) (st' := [.int 2, .int x8, .ref p0]) rfl ?_
        refine s_callV (rest := []) X E mv_X12_81 (c_X12_throwsIf o6.2 p0 x8 2) (ta1 t0_) rfl (by decide) t0_ rfl rfl (Nat.le_of_ble_eq_true rfl) (Nat.le_of_ble_eq_true rfl) (Nat.le_of_ble_eq_true rfl) (dk okd_X12_distance 7 rfl) (st' := fun o11 => [.int o11.1]) (fun _ => rfl) (fun o11 => ?_)
        refine s_if_eq (tgt := 49) X (dk okd_X12_distance 8 rfl) (by decide) ?_ ?_
        · refine s_run X ok_X12_distance 17 4 (pc' := 55) (vs' := [some (.ref p0), some (.int p1), some (.int p2), some (.int p3), some (.int (-1)), some (.int 0)]) (st' := []) rfl ?_
          refine s_jn (κ := Int32 → Option (Int32 × St)) (fun k13 => ∀ (x12 : Int32), Jd C 6 (QJ C oIS sS) o11.2 113 [none, none, none, none, some (.int x12), none] [] (k13 x12)) (fun x12 => ?_) (fun k13 h14 => ?_)
          · refine s_run X ok_X12_distance 42 1 (pc' := 115) (vs' := [none, none, none, none, some (.int x12), none]) (st' := [.int x12]) rfl ?_
            exact s_iret X hr (dk okd_X12_distance 18 rfl) rfl rfl
          · refine s_lp (κ := Int32 → Int32 → Option (Int32 × St)) (fun k17 => ∀ (x15 : Int32) (x16 : Int32), Jd C 6 (QJ C oIS sS) o11.2 55 [some (.ref p0), some (.int p1), some (.int p2), some (.int p3), some (.int x15), some (.int x16)] [] (k17 x15 x16)) (fun _ _ => s_none) (fun k17 h18 x15 x16 => ?_) FU (-1) 0
            refine s_run X ok_X12_distance 21 2 (pc' := 60) (vs' := [some (.ref p0), some (.int p1), some (.int p2), some (.int p3), some (.int x15), some (.int x16)]) (st' := [.int 900, .int x16]) rfl ?_
            refine s_icmp_ge (tgt := 113) X (dk okd_X12_distance 10 rfl) (by decide) ?_ ?_
            · exact s_less [false, false, false, false, true, false] rfl (h14 x15)
            · refine s_run X ok_X12_distance 23 1 (pc' := 64) (vs' := [some (.ref p0), some (.int p1), some (.int p2), some (.int p3), some (.int x15), some (.int x16)]) (st' := [.ref p0]) rfl ?_
              refine s_getR X fl_X12_9 t0_ (dk okd_X12_distance 11 rfl) (fun a19 (t20 : tT C a19 14) => ?_)
              refine s_run X ok_X12_distance 24 3 (pc' := 73) (vs' := [some (.ref p0), some (.int p1), some (.int p2), some (.int p3), some (.int x15), some (.int x16)]) (st' := [.int (250 + x16), .ref a19]) rfl ?_
              refine s_lald X t20 (dk okd_X12_distance 12 rfl) (fun v21 => ?_)
              refine s_run X ok_X12_distance 27 3 (pc' := 77) (vs' := [some (.ref p0), some (.int p1), some (.int p2), some (.int p3), some (.int x15), some (.int x16)]) (st' := [.int (lg_cmp v21 (Int32.toInt64 p1))]) rfl ?_
              refine s_jn (κ := Int32 → Option (Int32 × St)) (fun k23 => ∀ (x22 : Int32), Jd C 6 (QJ C oIS sS) o11.2 107 [some (.ref p0), some (.int p1), some (.int p2), some (.int p3), some (.int x22), some (.int x16)] [] (k23 x22)) (fun x22 => ?_) (fun k23 h24 => ?_)
              · refine s_run X ok_X12_distance 40 2 (pc' := 55) (vs' := [some (.ref p0), some (.int p1), some (.int p2), some (.int p3), some (.int x22), some (.int (x16 + 1))]) (st' := []) rfl ?_
                exact h18 x22 (x16 + 1)
              · refine s_lif_ne (tgt := 107) X (dk okd_X12_distance 13 rfl) (by decide) ?_ ?_
                · exact h24 x15
                · refine s_run X ok_X12_distance 30 2 (pc' := 83) (vs' := [some (.ref p0), some (.int p1), some (.int p2), some (.int p3), some (.int x15), some (.int x16)]) (st' := [.int (-1), .int x15]) rfl ?_
                  refine s_jn (κ := Option (Int32 × St)) (fun k25 => Jd C 6 (QJ C oIS sS) o11.2 98 [some (.ref p0), some (.int p1), some (.int p2), some (.int p3), none, some (.int x16)] [] k25) ?_ (fun k25 h26 => ?_)
                  · refine s_run X ok_X12_distance 36 3 (pc' := 102) (vs' := [some (.ref p0), some (.int p1), some (.int p2), some (.int p3), none, some (.int x16)]) (st' := [.int x16, .int p3, .int p2]) rfl ?_
                    refine s_callS (rest := []) X E ms_X12_110 (c_X12_apart o11.2 p2 p3 x16) (ta0) rfl rfl (Nat.le_of_ble_eq_true rfl) (Nat.le_of_ble_eq_true rfl) (Nat.le_of_ble_eq_true rfl) (dk okd_X12_distance 17 rfl) (st' := fun v27 => [.int v27]) (fun _ => rfl) (fun v27 => ?_)
                    refine s_run X ok_X12_distance 39 1 (pc' := 107) (vs' := [some (.ref p0), some (.int p1), some (.int p2), some (.int p3), some (.int v27), some (.int x16)]) (st' := []) rfl ?_
                    exact h24 v27
                  · refine s_icmp_eq (tgt := 98) X (dk okd_X12_distance 14 rfl) (by decide) ?_ ?_
                    · exact s_less [true, true, true, true, false, true] rfl (h26)
                    · refine s_run X ok_X12_distance 32 3 (pc' := 90) (vs' := [some (.ref p0), some (.int p1), some (.int p2), some (.int p3), some (.int x15), some (.int x16)]) (st' := [.int x16, .int p3, .int p2]) rfl ?_
                      refine s_callS (rest := []) X E ms_X12_110 (c_X12_apart o11.2 p2 p3 x16) (ta0) rfl rfl (Nat.le_of_ble_eq_true rfl) (Nat.le_of_ble_eq_true rfl) (Nat.le_of_ble_eq_true rfl) (dk okd_X12_distance 15 rfl) (st' := fun v28 => [.int v28]) (fun _ => rfl) (fun v28 => ?_)
                      refine s_run X ok_X12_distance 35 1 (pc' := 95) (vs' := [some (.ref p0), some (.int p1), some (.int p2), some (.int p3), some (.int x15), some (.int x16)]) (st' := [.int x15, .int v28]) rfl ?_
                      refine s_icmp_ge (tgt := 107) X (dk okd_X12_distance 16 rfl) (by decide) ?_ ?_
                      · exact h24 x15
                      · exact s_less [true, true, true, true, false, true] rfl (h26)
        · refine s_run X ok_X12_distance 16 1 (pc' := 48) (vs' := [some (.ref p0), some (.int p1), some (.int p2), some (.int p3), none, none]) (st' := [.int 0]) rfl ?_
          exact s_iret X hr (dk okd_X12_distance 9 rfl) rfl rfl
      · refine s_if_ne (tgt := 39) X (dk okd_X12_distance 6 rfl) (by decide) ?_ ?_
        · refine s_run X ok_X12_distance 14 1 (pc' := 40) (vs' := [some (.ref p0), some (.int p1), some (.int p2), some (.int p3), none, none]) (st' := [.int 0, .ref p0]) rfl ?_
          exact h10 0
        · refine s_run X ok_X12_distance 12 2 (pc' := 40) (vs' := [some (.ref p0), some (.int p1), some (.int p2), some (.int p3), none, none]) (st' := [.int 1, .ref p0]) rfl ?_
          exact h10 1
  · refine s_if_ne (tgt := 18) X (dk okd_X12_distance 2 rfl) (by decide) ?_ ?_
    · refine s_run X ok_X12_distance 7 1 (pc' := 19) (vs' := [some (.ref p0), some (.int p1), some (.int p2), some (.int p3), none, none]) (st' := [.int 0, .ref p0]) rfl ?_
      exact h5 0
    · refine s_run X ok_X12_distance 5 2 (pc' := 19) (vs' := [some (.ref p0), some (.int p1), some (.int p2), some (.int p3), none, none]) (st' := [.int 1, .ref p0]) rfl ?_
      exact h5 1
def tab_X12_isOpen : List En := [(0, 8, 0, 0), (1, 4, 1, 0), (2, 0, 0, 0), (9, 40, 0, 0), (13, 0, 0, 1), (14, 41, 18, 0), (17, 0, 0, 0)]
theorem ok_X12_isOpen : tab_X12_isOpen.all (okE cX12_isOpen) = true := by decide +kernel
def ed_X12_isOpen : List (Nat × Instr × Nat) := [(3, .invokevirtual 113, 3), (6, .ldc2_w 48, 3), (10, .ifCond .eq 7, 3), (18, .ireturn, 1)]
theorem okd_X12_isOpen : ed_X12_isOpen.all (okD cX12_isOpen) = true := by decide +kernel
def f_X12_isOpen (S : St) (p0 : Nat) (p1 : Int32) : Option (Int32) := cl (f_X12_ofOutlet S p0 p1 0) fun (v1 : Int64) => if v1 = (-1) then (some 0) else (some 1)
set_option maxHeartbeats 4000000 in
set_option maxRecDepth 100000 in
theorem c_X12_isOpen (S : St) (p0 : Nat) (p1 : Int32) : Ct yX12_isOpen cX12_isOpen 2 (some .boolean) 1 22 [.ref p0, .int p1] [(p0, 11)] S (f_X12_isOpen S p0 p1) oI (fun _ => S) := by
  refine Ct_of RX12 rfl (by decide) (Nat.le_of_ble_eq_true rfl) 0 (vs := [some (.ref p0), some (.int p1)]) rfl (fun C X E hr ht => ?_)
  have t0_ : tT C p0 11 := ht (p0, 11) (by simp)
  unfold f_X12_isOpen
  refine s_run X ok_X12_isOpen 0 3 (pc' := 3) (vs' := [some (.ref p0), some (.int p1)]) (st' := [.int 0, .int p1, .ref p0]) rfl ?_
  refine s_callV (rest := []) X E mv_X12_113 (c_X12_ofOutlet S p0 p1 0) (ta1 t0_) rfl (by decide) t0_ rfl rfl (Nat.le_of_ble_eq_true rfl) (Nat.le_of_ble_eq_true rfl) (Nat.le_of_ble_eq_true rfl) (dk okd_X12_isOpen 0 rfl) (st' := fun v1 => [.long v1]) (fun _ => rfl) (fun v1 => ?_)
  refine s_ldc2 X cl_X12_48 (dk okd_X12_isOpen 1 rfl) ?_
  refine s_run X ok_X12_isOpen 3 1 (pc' := 10) (vs' := [some (.ref p0), some (.int p1)]) (st' := [.int (lg_cmp v1 (-1))]) rfl ?_
  refine s_lif_eq (tgt := 17) X (dk okd_X12_isOpen 2 rfl) (by decide) ?_ ?_
  · refine s_run X ok_X12_isOpen 6 1 (pc' := 18) (vs' := [some (.ref p0), some (.int p1)]) (st' := [.int 0]) rfl ?_
    exact s_zret0 X hr (dk okd_X12_isOpen 3 rfl) (by decide) rfl rfl
  · refine s_run X ok_X12_isOpen 4 2 (pc' := 18) (vs' := [some (.ref p0), some (.int p1)]) (st' := [.int 1]) rfl ?_
    exact s_zret0 X hr (dk okd_X12_isOpen 3 rfl) (by decide) rfl rfl
def tab_X12_cellOf : List En := [(3, 8, 0, 0), (4, 4, 1, 0), (5, 0, 0, 2), (9, 25, 0, 0), (10, 8, 0, 0), (11, 4, 1, 0), (12, 0, 0, 1), (16, 23, 0, 0), (17, 32, 0, 0)]
theorem ok_X12_cellOf : tab_X12_cellOf.all (okE cX12_cellOf) = true := by decide +kernel
def ed_X12_cellOf : List (Nat × Instr × Nat) := [(0, .ldc2_w 116, 3), (6, .invokevirtual 113, 3), (13, .invokevirtual 113, 3), (18, .ireturn, 1)]
theorem okd_X12_cellOf : ed_X12_cellOf.all (okD cX12_cellOf) = true := by decide +kernel
def f_X12_cellOf (S : St) (p0 : Nat) (p1 : Int32) : Option (Int32) := cl (f_X12_ofOutlet S p0 p1 2) fun (v1 : Int64) => cl (f_X12_ofOutlet S p0 p1 1) fun (v2 : Int64) => some (Int64.toInt32 ((30 * v1) + v2))
set_option maxHeartbeats 4000000 in
set_option maxRecDepth 100000 in
theorem c_X12_cellOf (S : St) (p0 : Nat) (p1 : Int32) : Ct yX12_cellOf cX12_cellOf 2 (some .int) 1 22 [.ref p0, .int p1] [(p0, 11)] S (f_X12_cellOf S p0 p1) oI (fun _ => S) := by
  refine Ct_of RX12 rfl (by decide) (Nat.le_of_ble_eq_true rfl) 0 (vs := [some (.ref p0), some (.int p1)]) rfl (fun C X E hr ht => ?_)
  have t0_ : tT C p0 11 := ht (p0, 11) (by simp)
  unfold f_X12_cellOf
  refine s_ldc2 X cl_X12_116 (dk okd_X12_cellOf 0 rfl) ?_
  refine s_run X ok_X12_cellOf 0 3 (pc' := 6) (vs' := [some (.ref p0), some (.int p1)]) (st' := [.int 2, .int p1, .ref p0, .long 30]) rfl ?_
  refine s_callV (rest := [.long 30]) X E mv_X12_113 (c_X12_ofOutlet S p0 p1 2) (ta1 t0_) rfl (by decide) t0_ rfl rfl (Nat.le_of_ble_eq_true rfl) (Nat.le_of_ble_eq_true rfl) (Nat.le_of_ble_eq_true rfl) (dk okd_X12_cellOf 1 rfl) (st' := fun v1 => [.long v1, .long 30]) (fun _ => rfl) (fun v1 => ?_)
  refine s_run X ok_X12_cellOf 3 4 (pc' := 13) (vs' := [some (.ref p0), some (.int p1)]) (st' := [.int 1, .int p1, .ref p0, .long (30 * v1)]) rfl ?_
  refine s_callV (rest := [.long (30 * v1)]) X E mv_X12_113 (c_X12_ofOutlet S p0 p1 1) (ta1 t0_) rfl (by decide) t0_ rfl rfl (Nat.le_of_ble_eq_true rfl) (Nat.le_of_ble_eq_true rfl) (Nat.le_of_ble_eq_true rfl) (dk okd_X12_cellOf 2 rfl) (st' := fun v2 => [.long v2, .long (30 * v1)]) (fun _ => rfl) (fun v2 => ?_)
  refine s_run X ok_X12_cellOf 7 2 (pc' := 18) (vs' := [some (.ref p0), some (.int p1)]) (st' := [.int (Int64.toInt32 ((30 * v1) + v2))]) rfl ?_
  exact s_iret X hr (dk okd_X12_cellOf 3 rfl) rfl rfl
def tab_X12_hasOutlet : List En := [(0, 0, 0, 0), (1, 10, 2, 0), (2, 4, 2, 0), (3, 31, 0, 0), (4, 8, 0, 0), (8, 0, 0, 3), (10, 40, 0, 0), (14, 8, 0, 0), (15, 4, 2, 0), (22, 8, 0, 0), (23, 4, 2, 0), (27, 4, 1, 0), (31, 0, 0, 1), (33, 16, 2, 1), (36, 41, 2, 0), (39, 0, 0, 0)]
theorem ok_X12_hasOutlet : tab_X12_hasOutlet.all (okE cX12_hasOutlet) = true := by decide +kernel
def ed_X12_hasOutlet : List (Nat × Instr × Nat) := [(5, .getfield 9, 3), (9, .laload, 1), (11, .ifCond .ge 28, 3), (16, .invokevirtual 118, 3), (19, .ifCond .eq 14, 3), (24, .invokevirtual 121, 3), (28, .if_icmp .ne 5, 3), (32, .ireturn, 1), (40, .ireturn, 1)]
theorem okd_X12_hasOutlet : ed_X12_hasOutlet.all (okD cX12_hasOutlet) = true := by decide +kernel
def f_X12_hasOutlet (S : St) (p0 : Nat) (p1 : Int32) : Option (Int32) := lp (κ := Int32 → Option (Int32)) (fun _ => none) (fun k2 x1 => lt (gR S p0 0) fun (a4 : Nat) => ldJ S a4 3 fun (v6 : Int64) => if v6 ≤ (Int32.toInt64 x1) then (some 0) else (cl (f_X12_isOpen S p0 x1) fun (v7 : Int32) => jn (κ := Option (Int32)) (k2 (x1 + 1)) fun k8 => if v7 = 0 then (k8) else (cl (f_X12_cellOf S p0 x1) fun (v10 : Int32) => if v10 = p1 then (some 1) else (k8)))) FU 0
set_option maxHeartbeats 4000000 in
set_option maxRecDepth 100000 in
theorem c_X12_hasOutlet (S : St) (p0 : Nat) (p1 : Int32) : Ct yX12_hasOutlet cX12_hasOutlet 3 (some .boolean) 2 43 [.ref p0, .int p1] [(p0, 11)] S (f_X12_hasOutlet S p0 p1) oI (fun _ => S) := by
  refine Ct_of RX12 rfl (by decide) (Nat.le_of_ble_eq_true rfl) 1 (vs := [some (.ref p0), some (.int p1), none]) rfl (fun C X E hr ht => ?_)
  have t0_ : tT C p0 11 := ht (p0, 11) (by simp)
  unfold f_X12_hasOutlet
  refine s_run X ok_X12_hasOutlet 0 2 (pc' := 2) (vs' := [some (.ref p0), some (.int p1), some (.int 0)]) (st' := []) rfl ?_
  refine s_lp (κ := Int32 → Option (Int32)) (fun k2 => ∀ (x1 : Int32), Jd C 3 (QJ C oI (fun _ => S)) S 2 [some (.ref p0), some (.int p1), some (.int x1)] [] (k2 x1)) (fun _ => s_none) (fun k2 h3 x1 => ?_) FU 0
  refine s_run X ok_X12_hasOutlet 2 3 (pc' := 5) (vs' := [some (.ref p0), some (.int p1), some (.int x1)]) (st' := [.ref p0, .long (Int32.toInt64 x1)]) rfl ?_
  refine s_getR X fl_X12_9 t0_ (dk okd_X12_hasOutlet 0 rfl) (fun a4 (t5 : tT C a4 14) => ?_)
  refine s_run X ok_X12_hasOutlet 5 1 (pc' := 9) (vs' := [some (.ref p0), some (.int p1), some (.int x1)]) (st' := [.int 3, .ref a4, .long (Int32.toInt64 x1)]) rfl ?_
  refine s_lald X t5 (dk okd_X12_hasOutlet 1 rfl) (fun v6 => ?_)
  refine s_run X ok_X12_hasOutlet 6 1 (pc' := 11) (vs' := [some (.ref p0), some (.int p1), some (.int x1)]) (st' := [.int (lg_cmp (Int32.toInt64 x1) v6)]) rfl ?_
  refine s_lif_ge (tgt := 39) X (dk okd_X12_hasOutlet 2 rfl) (by decide) ?_ ?_
  · refine s_run X ok_X12_hasOutlet 15 1 (pc' := 40) (vs' := [some (.ref p0), some (.int p1), some (.int x1)]) (st' := [.int 0]) rfl ?_
    exact s_zret0 X hr (dk okd_X12_hasOutlet 8 rfl) (by decide) rfl rfl
  · refine s_run X ok_X12_hasOutlet 7 2 (pc' := 16) (vs' := [some (.ref p0), some (.int p1), some (.int x1)]) (st' := [.int x1, .ref p0]) rfl ?_
    refine s_callV (rest := []) X E mv_X12_118 (c_X12_isOpen S p0 x1) (ta1 t0_) rfl (by decide) t0_ rfl rfl (Nat.le_of_ble_eq_true rfl) (Nat.le_of_ble_eq_true rfl) (Nat.le_of_ble_eq_true rfl) (dk okd_X12_hasOutlet 3 rfl) (st' := fun v7 => [.int v7]) (fun _ => rfl) (fun v7 => ?_)
    refine s_jn (κ := Option (Int32)) (fun k8 => Jd C 3 (QJ C oI (fun _ => S)) S 33 [some (.ref p0), some (.int p1), some (.int x1)] [] k8) ?_ (fun k8 h9 => ?_)
    · refine s_run X ok_X12_hasOutlet 13 2 (pc' := 2) (vs' := [some (.ref p0), some (.int p1), some (.int (x1 + 1))]) (st' := []) rfl ?_
      exact h3 (x1 + 1)
    · refine s_if_eq (tgt := 33) X (dk okd_X12_hasOutlet 4 rfl) (by decide) ?_ ?_
      · exact h9
      · refine s_run X ok_X12_hasOutlet 9 2 (pc' := 24) (vs' := [some (.ref p0), some (.int p1), some (.int x1)]) (st' := [.int x1, .ref p0]) rfl ?_
        refine s_callV (rest := []) X E mv_X12_121 (c_X12_cellOf S p0 x1) (ta1 t0_) rfl (by decide) t0_ rfl rfl (Nat.le_of_ble_eq_true rfl) (Nat.le_of_ble_eq_true rfl) (Nat.le_of_ble_eq_true rfl) (dk okd_X12_hasOutlet 5 rfl) (st' := fun v10 => [.int v10]) (fun _ => rfl) (fun v10 => ?_)
        refine s_run X ok_X12_hasOutlet 11 1 (pc' := 28) (vs' := [some (.ref p0), some (.int p1), some (.int x1)]) (st' := [.int p1, .int v10]) rfl ?_
        refine s_icmp_ne (tgt := 33) X (dk okd_X12_hasOutlet 6 rfl) (by decide) ?_ ?_
        · exact h9
        · refine s_run X ok_X12_hasOutlet 12 1 (pc' := 32) (vs' := [some (.ref p0), some (.int p1), some (.int x1)]) (st' := [.int 1]) rfl ?_
          exact s_zret0 X hr (dk okd_X12_hasOutlet 7 rfl) (by decide) rfl rfl
def tab_X12_isWithin : List En := [(0, 4, 0, 0), (1, 1, 0, 30), (4, 4, 1, 0), (8, 4, 0, 0), (9, 1, 0, 30), (12, 4, 3, 0), (16, 4, 0, 0), (17, 1, 0, 30), (20, 4, 2, 0), (24, 4, 0, 0), (25, 1, 0, 30), (28, 5, 4, 0), (33, 0, 0, 1), (34, 41, 38, 0), (37, 0, 0, 0)]
theorem ok_X12_isWithin : tab_X12_isWithin.all (okE cX12_isWithin) = true := by decide +kernel
def ed_X12_isWithin : List (Nat × Instr × Nat) := [(3, .irem, 1), (5, .if_icmp .lt 32, 3), (11, .irem, 1), (13, .if_icmp .ge 24, 3), (19, .idiv, 1), (21, .if_icmp .lt 16, 3), (27, .idiv, 1), (30, .if_icmp .ge 7, 3), (38, .ireturn, 1)]
theorem okd_X12_isWithin : ed_X12_isWithin.all (okD cX12_isWithin) = true := by decide +kernel
def f_X12_isWithin (S : St) (p0 : Int32) (p1 : Int32) (p2 : Int32) (p3 : Int32) (p4 : Int32) : Option (Int32) := jn (κ := Option (Int32)) (some 0) fun k1 => if (p0 - p0 / 30 * 30) < p1 then (k1) else (if p3 ≤ (p0 - p0 / 30 * 30) then (k1) else (if (p0 / 30) < p2 then (k1) else (if p4 ≤ (p0 / 30) then (k1) else (some 1))))
set_option maxHeartbeats 4000000 in
set_option maxRecDepth 100000 in
theorem c_X12_isWithin (S : St) (p0 : Int32) (p1 : Int32) (p2 : Int32) (p3 : Int32) (p4 : Int32) : Ct yX12_isWithin cX12_isWithin 5 (some .boolean) 0 0 [.int p0, .int p1, .int p2, .int p3, .int p4] [] S (f_X12_isWithin S p0 p1 p2 p3 p4) oI (fun _ => S) := by
  refine Ct_of RX12 rfl (by decide) (Nat.le_of_ble_eq_true rfl) 0 (vs := [some (.int p0), some (.int p1), some (.int p2), some (.int p3), some (.int p4)]) rfl (fun C X E hr ht => ?_)
  unfold f_X12_isWithin
  refine s_run X ok_X12_isWithin 0 2 (pc' := 3) (vs' := [some (.int p0), some (.int p1), some (.int p2), some (.int p3), some (.int p4)]) (st' := [.int 30, .int p0]) rfl ?_
  refine s_irem0 X (dk okd_X12_isWithin 0 rfl) (by decide) ?_
  refine s_run X ok_X12_isWithin 2 1 (pc' := 5) (vs' := [some (.int p0), some (.int p1), some (.int p2), some (.int p3), some (.int p4)]) (st' := [.int p1, .int (p0 - p0 / 30 * 30)]) rfl ?_
  refine s_jn (κ := Option (Int32)) (fun k1 => Jd C 5 (QJ C oI (fun _ => S)) S 37 [none, none, none, none, none] [] k1) ?_ (fun k1 h2 => ?_)
  · refine s_run X ok_X12_isWithin 14 1 (pc' := 38) (vs' := [none, none, none, none, none]) (st' := [.int 0]) rfl ?_
    exact s_zret0 X hr (dk okd_X12_isWithin 8 rfl) (by decide) rfl rfl
  · refine s_icmp_lt (tgt := 37) X (dk okd_X12_isWithin 1 rfl) (by decide) ?_ ?_
    · exact s_less [false, false, false, false, false] rfl (h2)
    · refine s_run X ok_X12_isWithin 3 2 (pc' := 11) (vs' := [some (.int p0), some (.int p1), some (.int p2), some (.int p3), some (.int p4)]) (st' := [.int 30, .int p0]) rfl ?_
      refine s_irem0 X (dk okd_X12_isWithin 2 rfl) (by decide) ?_
      refine s_run X ok_X12_isWithin 5 1 (pc' := 13) (vs' := [some (.int p0), some (.int p1), some (.int p2), some (.int p3), some (.int p4)]) (st' := [.int p3, .int (p0 - p0 / 30 * 30)]) rfl ?_
      refine s_icmp_ge (tgt := 37) X (dk okd_X12_isWithin 3 rfl) (by decide) ?_ ?_
      · exact s_less [false, false, false, false, false] rfl (h2)
      · refine s_run X ok_X12_isWithin 6 2 (pc' := 19) (vs' := [some (.int p0), some (.int p1), some (.int p2), some (.int p3), some (.int p4)]) (st' := [.int 30, .int p0]) rfl ?_
        refine s_idiv0 X (dk okd_X12_isWithin 4 rfl) (by decide) ?_
        refine s_run X ok_X12_isWithin 8 1 (pc' := 21) (vs' := [some (.int p0), some (.int p1), some (.int p2), some (.int p3), some (.int p4)]) (st' := [.int p2, .int (p0 / 30)]) rfl ?_
        refine s_icmp_lt (tgt := 37) X (dk okd_X12_isWithin 5 rfl) (by decide) ?_ ?_
        · exact s_less [false, false, false, false, false] rfl (h2)
        · refine s_run X ok_X12_isWithin 9 2 (pc' := 27) (vs' := [some (.int p0), some (.int p1), some (.int p2), some (.int p3), some (.int p4)]) (st' := [.int 30, .int p0]) rfl ?_
          refine s_idiv0 X (dk okd_X12_isWithin 6 rfl) (by decide) ?_
          refine s_run X ok_X12_isWithin 11 1 (pc' := 30) (vs' := [some (.int p0), some (.int p1), some (.int p2), some (.int p3), some (.int p4)]) (st' := [.int p4, .int (p0 / 30)]) rfl ?_
          refine s_icmp_ge (tgt := 37) X (dk okd_X12_isWithin 7 rfl) (by decide) ?_ ?_
          · exact s_less [false, false, false, false, false] rfl (h2)
          · refine s_run X ok_X12_isWithin 12 2 (pc' := 38) (vs' := [some (.int p0), some (.int p1), some (.int p2), some (.int p3), some (.int p4)]) (st' := [.int 1]) rfl ?_
            exact s_zret0 X hr (dk okd_X12_isWithin 8 rfl) (by decide) rfl rfl
def tab_X12_isArea : List En := [(0, 4, 0, 0), (1, 4, 1, 0), (8, 4, 2, 0), (9, 31, 0, 0), (10, 4, 0, 0), (11, 0, 0, 1), (12, 17, 0, 0), (13, 31, 0, 0), (23, 4, 3, 0), (24, 31, 0, 0), (25, 4, 1, 0), (26, 0, 0, 1), (27, 17, 0, 0), (28, 31, 0, 0), (38, 0, 0, 1), (39, 41, 43, 0), (42, 0, 0, 0)]
theorem ok_X12_isArea : tab_X12_isArea.all (okE cX12_isArea) = true := by decide +kernel
def ed_X12_isArea : List (Nat × Instr × Nat) := [(2, .invokestatic 67, 3), (5, .ifCond .eq 37, 3), (14, .ldc2_w 116, 3), (17, .invokestatic 53, 3), (20, .ifCond .eq 22, 3), (29, .ldc2_w 116, 3), (32, .invokestatic 53, 3), (35, .ifCond .eq 7, 3), (43, .ireturn, 1)]
theorem okd_X12_isArea : ed_X12_isArea.all (okD cX12_isArea) = true := by decide +kernel
def f_X12_isArea (S : St) (p0 : Int32) (p1 : Int32) (p2 : Int32) (p3 : Int32) : Option (Int32) := cl (f_X12_isCell S p0 p1) fun (v1 : Int32) => jn (κ := Option (Int32)) (some 0) fun k2 => if v1 = 0 then (k2) else (cl (f_X12_inRange S (Int32.toInt64 p2) (Int32.toInt64 (p0 + 1)) 30) fun (v4 : Int32) => if v4 = 0 then (k2) else (cl (f_X12_inRange S (Int32.toInt64 p3) (Int32.toInt64 (p1 + 1)) 30) fun (v5 : Int32) => if v5 = 0 then (k2) else (some 1)))
set_option maxHeartbeats 4000000 in
set_option maxRecDepth 100000 in
theorem c_X12_isArea (S : St) (p0 : Int32) (p1 : Int32) (p2 : Int32) (p3 : Int32) : Ct yX12_isArea cX12_isArea 4 (some .boolean) 2 46 [.int p0, .int p1, .int p2, .int p3] [] S (f_X12_isArea S p0 p1 p2 p3) oI (fun _ => S) := by
  refine Ct_of RX12 rfl (by decide) (Nat.le_of_ble_eq_true rfl) 0 (vs := [some (.int p0), some (.int p1), some (.int p2), some (.int p3)]) rfl (fun C X E hr ht => ?_)
  unfold f_X12_isArea
  refine s_run X ok_X12_isArea 0 2 (pc' := 2) (vs' := [some (.int p0), some (.int p1), some (.int p2), some (.int p3)]) (st' := [.int p1, .int p0]) rfl ?_
  refine s_callS (rest := []) X E ms_X12_67 (c_X12_isCell S p0 p1) (ta0) rfl rfl (Nat.le_of_ble_eq_true rfl) (Nat.le_of_ble_eq_true rfl) (Nat.le_of_ble_eq_true rfl) (dk okd_X12_isArea 0 rfl) (st' := fun v1 => [.int v1]) (fun _ => rfl) (fun v1 => ?_)
  refine s_jn (κ := Option (Int32)) (fun k2 => Jd C 4 (QJ C oI (fun _ => S)) S 42 [none, none, none, none] [] k2) ?_ (fun k2 h3 => ?_)
  · refine s_run X ok_X12_isArea 16 1 (pc' := 43) (vs' := [none, none, none, none]) (st' := [.int 0]) rfl ?_
    exact s_zret0 X hr (dk okd_X12_isArea 8 rfl) (by decide) rfl rfl
  · refine s_if_eq (tgt := 42) X (dk okd_X12_isArea 1 rfl) (by decide) ?_ ?_
    · exact s_less [false, false, false, false] rfl (h3)
    · refine s_run X ok_X12_isArea 2 6 (pc' := 14) (vs' := [some (.int p0), some (.int p1), some (.int p2), some (.int p3)]) (st' := [.long (Int32.toInt64 (p0 + 1)), .long (Int32.toInt64 p2)]) rfl ?_
      refine s_ldc2 X cl_X12_116 (dk okd_X12_isArea 2 rfl) ?_
      refine s_callS (rest := []) X E ms_X12_53 (c_X12_inRange S (Int32.toInt64 p2) (Int32.toInt64 (p0 + 1)) 30) (ta0) rfl rfl (Nat.le_of_ble_eq_true rfl) (Nat.le_of_ble_eq_true rfl) (Nat.le_of_ble_eq_true rfl) (dk okd_X12_isArea 3 rfl) (st' := fun v4 => [.int v4]) (fun _ => rfl) (fun v4 => ?_)
      refine s_if_eq (tgt := 42) X (dk okd_X12_isArea 4 rfl) (by decide) ?_ ?_
      · exact s_less [false, false, false, false] rfl (h3)
      · refine s_run X ok_X12_isArea 8 6 (pc' := 29) (vs' := [some (.int p0), some (.int p1), some (.int p2), some (.int p3)]) (st' := [.long (Int32.toInt64 (p1 + 1)), .long (Int32.toInt64 p3)]) rfl ?_
        refine s_ldc2 X cl_X12_116 (dk okd_X12_isArea 5 rfl) ?_
        refine s_callS (rest := []) X E ms_X12_53 (c_X12_inRange S (Int32.toInt64 p3) (Int32.toInt64 (p1 + 1)) 30) (ta0) rfl rfl (Nat.le_of_ble_eq_true rfl) (Nat.le_of_ble_eq_true rfl) (Nat.le_of_ble_eq_true rfl) (dk okd_X12_isArea 6 rfl) (st' := fun v5 => [.int v5]) (fun _ => rfl) (fun v5 => ?_)
        refine s_if_eq (tgt := 42) X (dk okd_X12_isArea 7 rfl) (by decide) ?_ ?_
        · exact s_less [false, false, false, false] rfl (h3)
        · refine s_run X ok_X12_isArea 14 2 (pc' := 43) (vs' := [some (.int p0), some (.int p1), some (.int p2), some (.int p3)]) (st' := [.int 1]) rfl ?_
          exact s_zret0 X hr (dk okd_X12_isArea 8 rfl) (by decide) rfl rfl
def tab_X12_give : List En := [(0, 0, 0, 0), (1, 10, 2, 0), (2, 4, 2, 0), (3, 2, 0, 900), (9, 8, 0, 0), (13, 4, 2, 0), (18, 8, 0, 0), (22, 2, 0, 250), (25, 4, 2, 0), (26, 17, 0, 0), (27, 4, 1, 0), (28, 31, 0, 0), (30, 16, 2, 1), (33, 41, 2, 0)]
theorem ok_X12_give : tab_X12_give.all (okE cX12_give) = true := by decide +kernel
def ed_X12_give : List (Nat × Instr × Nat) := [(6, .if_icmp .ge 30, 3), (10, .getfield 20, 3), (14, .baload, 1), (15, .ifCond .eq 15, 3), (19, .getfield 9, 3), (29, .lastore, 1), (36, .return_, 1)]
theorem okd_X12_give : ed_X12_give.all (okD cX12_give) = true := by decide +kernel
def f_X12_give (S : St) (p0 : Nat) (p1 : Int32) : Option (St) := lp (κ := Int32 → St → Option (St)) (fun _ _ => none) (fun k3 x1 S2 => if 900 ≤ x1 then (some S2) else (lt (gR S2 p0 4) fun (a5 : Nat) => ldI S2 a5 x1 fun (v7 : Int32) => jn (κ := St → Option (St)) (fun S8 => k3 (x1 + 1) S8) fun k9 => if v7 = 0 then (k9 S2) else (lt (gR S2 p0 0) fun (a11 : Nat) => stJ S2 a11 (250 + x1) (Int32.toInt64 p1) fun (S13 : St) => k9 S13))) FU 0 S
set_option maxHeartbeats 4000000 in
set_option maxRecDepth 100000 in
theorem c_X12_give (S : St) (p0 : Nat) (p1 : Int32) : Ct yX12_give cX12_give 3 none 0 0 [.ref p0, .int p1] [(p0, 11)] S (f_X12_give S p0 p1) oV sV := by
  refine Ct_of RX12 rfl (by decide) (Nat.le_of_ble_eq_true rfl) 1 (vs := [some (.ref p0), some (.int p1), none]) rfl (fun C X E hr ht => ?_)
  have t0_ : tT C p0 11 := ht (p0, 11) (by simp)
  unfold f_X12_give
  refine s_run X ok_X12_give 0 2 (pc' := 2) (vs' := [some (.ref p0), some (.int p1), some (.int 0)]) (st' := []) rfl ?_
  refine s_lp (κ := Int32 → St → Option (St)) (fun k3 => ∀ (x1 : Int32) (S2 : St), Jd C 3 (QJ C oV sV) S2 2 [some (.ref p0), some (.int p1), some (.int x1)] [] (k3 x1 S2)) (fun _ _ => s_none) (fun k3 h4 x1 S2 => ?_) FU 0 S
  refine s_run X ok_X12_give 2 2 (pc' := 6) (vs' := [some (.ref p0), some (.int p1), some (.int x1)]) (st' := [.int 900, .int x1]) rfl ?_
  refine s_icmp_ge (tgt := 36) X (dk okd_X12_give 0 rfl) (by decide) ?_ ?_
  · exact s_vret X hr (dk okd_X12_give 6 rfl) rfl rfl
  · refine s_run X ok_X12_give 4 1 (pc' := 10) (vs' := [some (.ref p0), some (.int p1), some (.int x1)]) (st' := [.ref p0]) rfl ?_
    refine s_getR X fl_X12_20 t0_ (dk okd_X12_give 1 rfl) (fun a5 (t6 : tT C a5 15) => ?_)
    refine s_run X ok_X12_give 5 1 (pc' := 14) (vs' := [some (.ref p0), some (.int p1), some (.int x1)]) (st' := [.int x1, .ref a5]) rfl ?_
    refine s_zald X t6 (dk okd_X12_give 2 rfl) (fun v7 => ?_)
    refine s_jn (κ := St → Option (St)) (fun k9 => ∀ (S8 : St), Jd C 3 (QJ C oV sV) S8 30 [some (.ref p0), some (.int p1), some (.int x1)] [] (k9 S8)) (fun S8 => ?_) (fun k9 h10 => ?_)
    · refine s_run X ok_X12_give 12 2 (pc' := 2) (vs' := [some (.ref p0), some (.int p1), some (.int (x1 + 1))]) (st' := []) rfl ?_
      exact h4 (x1 + 1) S8
    · refine s_if_eq (tgt := 30) X (dk okd_X12_give 3 rfl) (by decide) ?_ ?_
      · exact h10 S2
      · refine s_run X ok_X12_give 6 1 (pc' := 19) (vs' := [some (.ref p0), some (.int p1), some (.int x1)]) (st' := [.ref p0]) rfl ?_
        refine s_getR X fl_X12_9 t0_ (dk okd_X12_give 4 rfl) (fun a11 (t12 : tT C a11 14) => ?_)
        refine s_run X ok_X12_give 7 5 (pc' := 29) (vs' := [some (.ref p0), some (.int p1), some (.int x1)]) (st' := [.long (Int32.toInt64 p1), .int (250 + x1), .ref a11]) rfl ?_
        refine s_last X t12 (dk okd_X12_give 5 rfl) (fun S13 => ?_)
        exact h10 S13
def tab_X12_cede : List En := [(0, 8, 0, 0), (1, 0, 0, 0), (5, 8, 0, 0), (6, 8, 0, 0), (7, 4, 1, 0), (14, 8, 0, 0), (15, 4, 2, 0), (22, 0, 0, 1), (23, 41, 27, 0), (26, 0, 0, 0), (27, 0, 0, 1), (34, 8, 0, 0), (35, 4, 1, 0), (36, 4, 2, 0), (40, 4, 3, 0), (41, 5, 4, 0), (43, 5, 5, 0), (45, 5, 6, 0), (53, 0, 0, 1), (54, 41, 58, 0), (57, 0, 0, 0), (58, 0, 0, 2), (65, 0, 0, 0), (67, 8, 0, 0), (68, 4, 1, 0), (75, 8, 0, 0), (76, 4, 2, 0), (83, 1, 0, (-2)), (86, 0, 0, 0), (87, 11, 7, 0), (89, 0, 0, 0), (90, 11, 8, 0), (92, 0, 0, 0), (93, 11, 9, 0), (95, 5, 9, 0), (97, 2, 0, 900), (103, 8, 0, 0), (107, 5, 9, 0), (109, 8, 0, 0), (113, 2, 0, 250), (116, 5, 9, 0), (118, 17, 0, 0), (120, 4, 1, 0), (121, 31, 0, 0), (122, 40, 0, 0), (126, 5, 9, 0), (128, 4, 3, 0), (129, 5, 4, 0), (131, 5, 5, 0), (133, 5, 6, 0), (141, 0, 0, 1), (142, 41, 146, 0), (145, 0, 0, 0), (147, 5, 7, 0), (149, 8, 0, 0), (153, 5, 9, 0), (159, 0, 0, 1), (160, 41, 164, 0), (163, 0, 0, 0), (164, 17, 0, 0), (165, 11, 7, 0), (167, 5, 8, 0), (169, 8, 0, 0), (173, 5, 9, 0), (179, 8, 0, 0), (180, 5, 9, 0), (188, 0, 0, 1), (189, 41, 193, 0), (192, 0, 0, 0), (193, 21, 0, 0), (194, 11, 8, 0), (196, 16, 9, 1), (199, 41, 95, 0), (202, 5, 7, 0), (207, 0, 0, 0), (209, 5, 8, 0), (214, 1, 0, (-2)), (217, 8, 0, 0), (218, 4, 2, 0), (222, 8, 0, 0), (223, 4, 1, 0), (230, 8, 0, 0), (231, 4, 2, 0), (238, 5, 7, 0), (241, 8, 0, 0), (242, 4, 1, 0), (246, 1, 0, (-2))]
theorem ok_X12_cede : tab_X12_cede.all (okE cX12_cede) = true := by decide +kernel
def ed_X12_cede : List (Nat × Instr × Nat) := [(2, .putfield 50, 3), (8, .invokevirtual 85, 3), (11, .ifCond .eq 11, 3), (16, .invokevirtual 85, 3), (19, .ifCond .ne 7, 3), (28, .invokevirtual 81, 3), (31, .ifCond .ne 34, 3), (37, .if_icmp .eq 16, 3), (47, .invokestatic 124, 3), (50, .ifCond .ne 7, 3), (59, .invokevirtual 81, 3), (62, .ifCond .eq 5, 3), (66, .ireturn, 1), (69, .invokevirtual 128, 3), (72, .ifCond .eq 11, 3), (77, .invokevirtual 128, 3), (80, .ifCond .ne 6, 3), (85, .ireturn, 1), (100, .if_icmp .ge 102, 3), (104, .getfield 20, 3), (110, .getfield 9, 3), (119, .laload, 1), (123, .ifCond .ne 22, 3), (135, .invokestatic 131, 3), (138, .ifCond .eq 7, 3), (146, .bastore, 1), (150, .getfield 20, 3), (155, .baload, 1), (156, .ifCond .eq 7, 3), (170, .getfield 20, 3), (175, .baload, 1), (176, .ifCond .eq 16, 3), (182, .invokevirtual 135, 3), (185, .ifCond .eq 7, 3), (204, .ifCond .ne 5, 3), (208, .ireturn, 1), (211, .ifCond .eq 6, 3), (216, .ireturn, 1), (219, .invokevirtual 138, 3), (224, .invokevirtual 104, 3), (227, .ifCond .eq 14, 3), (232, .invokevirtual 104, 3), (235, .ifCond .eq 6, 3), (240, .ireturn, 1), (243, .invokevirtual 138, 3), (248, .ireturn, 1)]
theorem okd_X12_cede : ed_X12_cede.all (okD cX12_cede) = true := by decide +kernel
def f_X12_cede (S : St) (p0 : Nat) (p1 : Int32) (p2 : Int32) (p3 : Int32) (p4 : Int32) (p5 : Int32) (p6 : Int32) : Option (Int32 × St) := lt (uI S p0 2 0) fun (S1 : St) => cl (f_X12_isFranchisee S1 p0 p1) fun (v2 : Int32) => jn (κ := Int32 → Option (Int32 × St)) (fun x3 => cl (f_X12_throwsIf S1 p0 x3 1) fun (o6 : Int32 × St) => if o6.1 = 0 then (jn (κ := Int32 → Option (Int32 × St)) (fun x7 => cl (f_X12_throwsIf o6.2 p0 x7 2) fun (o10 : Int32 × St) => if o10.1 = 0 then (cl (f_X12_isActive o10.2 p0 p1) fun (v11 : Int32) => jn (κ := Option (Int32 × St)) (some ((-2), o10.2)) fun k12 => if v11 = 0 then (k12) else (cl (f_X12_isActive o10.2 p0 p2) fun (v14 : Int32) => if v14 = 0 then (k12) else (jn (κ := Int32 → Int32 → St → Option (Int32 × St)) (fun x15 x16 S17 => if x15 = 0 then (some (0, S17)) else (if x16 = 0 then (cl (f_X12_give S17 p0 p2) fun (S20 : St) => cl (f_X12_connected S20 p0 p1) fun (o21 : Int32 × St) => jn (κ := St → Option (Int32 × St)) (fun S22 => cl (f_X12_give S22 p0 p1) fun (S25 : St) => some ((-2), S25)) fun k23 => if o21.1 = 0 then (k23 o21.2) else (cl (f_X12_connected o21.2 p0 p2) fun (o26 : Int32 × St) => if o26.1 = 0 then (k23 o26.2) else (some (x15, o26.2)))) else (some ((-2), S17)))) fun k18 => lp (κ := Int32 → Int32 → Int32 → St → Option (Int32 × St)) (fun _ _ _ _ => none) (fun k31 x27 x28 x29 S30 => if 900 ≤ x29 then (k18 x27 x28 S30) else (lt (gR S30 p0 4) fun (a33 : Nat) => lt (gR S30 p0 0) fun (a35 : Nat) => ldJ S30 a35 (250 + x29) fun (v37 : Int64) => jn (κ := Int32 → Option (Int32 × St)) (fun x38 => stI S30 a33 x29 (vp_nar .boolean x38) fun (S41 : St) => lt (gR S41 p0 4) fun (a42 : Nat) => ldI S41 a42 x29 fun (v44 : Int32) => jn (κ := Int32 → Option (Int32 × St)) (fun x45 => lt (x27 + x45) fun (v48 : Int32) => lt (gR S41 p0 4) fun (a49 : Nat) => ldI S41 a49 x29 fun (v51 : Int32) => jn (κ := Int32 → Option (Int32 × St)) (fun x52 => lt (x28 ||| x52) fun (v55 : Int32) => k31 v48 v55 (x29 + 1) S41) fun k53 => jn (κ := Option (Int32 × St)) (k53 0) fun k56 => if v51 = 0 then (k56) else (cl (f_X12_hasOutlet S41 p0 x29) fun (v58 : Int32) => if v58 = 0 then (k56) else (k53 1))) fun k46 => if v44 = 0 then (k46 0) else (k46 1)) fun k39 => jn (κ := Option (Int32 × St)) (k39 0) fun k59 => if v37 = (Int32.toInt64 p1) then (cl (f_X12_isWithin S30 x29 p3 p4 p5 p6) fun (v61 : Int32) => if v61 = 0 then (k59) else (k39 1)) else (k59))) FU 0 0 0 o10.2))) else (some (0, o10.2))) fun k8 => jn (κ := Option (Int32 × St)) (k8 1) fun k62 => if p1 = p2 then (k62) else (cl (f_X12_isArea o6.2 p3 p4 p5 p6) fun (v64 : Int32) => if v64 = 0 then (k62) else (k8 0))) else (some (0, o6.2))) fun k4 => jn (κ := Option (Int32 × St)) (k4 1) fun k65 => if v2 = 0 then (k65) else (cl (f_X12_isFranchisee S1 p0 p2) fun (v67 : Int32) => if v67 = 0 then (k65) else (k4 0))
set_option maxHeartbeats 4000000 in
set_option maxRecDepth 100000 in
theorem c_X12_cede (S : St) (p0 : Nat) (p1 : Int32) (p2 : Int32) (p3 : Int32) (p4 : Int32) (p5 : Int32) (p6 : Int32) : Ct yX12_cede cX12_cede 10 (some .int) 4 95 [.ref p0, .int p1, .int p2, .int p3, .int p4, .int p5, .int p6] [(p0, 11)] S (f_X12_cede S p0 p1 p2 p3 p4 p5 p6) oIS sS := by
  refine Ct_of RX12 rfl (by decide) (Nat.le_of_ble_eq_true rfl) 3 (vs := [some (.ref p0), some (.int p1), some (.int p2), some (.int p3), some (.int p4), some (.int p5), some (.int p6), none, none, none]) rfl (fun C X E hr ht => ?_)
  have t0_ : tT C p0 11 := ht (p0, 11) (by simp)
  unfold f_X12_cede
  refine s_run X ok_X12_cede 0 2 (pc' := 2) (vs' := [some (.ref p0), some (.int p1), some (.int p2), some (.int p3), some (.int p4), some (.int p5), some (.int p6), none, none, none]) (st' := [.int 0, .ref p0]) rfl ?_
  refine s_putI X fp_X12_50 t0_ (dk okd_X12_cede 0 rfl) (fun S1 => ?_)
  refine s_run X ok_X12_cede 2 3 (pc' := 8) (vs' := [some (.ref p0), some (.int p1), some (.int p2), some (.int p3), some (.int p4), some (.int p5), some (.int p6), none, none, none]) (st' := [.int p1, .ref p0, .ref p0]) rfl ?_
  refine s_callV (rest := [.ref p0]) X E mv_X12_85 (c_X12_isFranchisee S1 p0 p1) (ta1 t0_) rfl (by decide) t0_ rfl rfl (Nat.le_of_ble_eq_true rfl) (Nat.le_of_ble_eq_true rfl) (Nat.le_of_ble_eq_true rfl) (dk okd_X12_cede 1 rfl) (st' := fun v2 => [.int v2, .ref p0]) (fun _ => rfl) (fun v2 => ?_)
  refine s_jn (κ := Int32 → Option (Int32 × St)) (fun k4 => ∀ (x3 : Int32), Jd C 10 (QJ C oIS sS) S1 27 [some (.ref p0), some (.int p1), some (.int p2), some (.int p3), some (.int p4), some (.int p5), some (.int p6), none, none, none] [.int x3, .ref p0] (k4 x3)) (fun x3 => ?_) (fun k4 h5 => ?_)
  · refine s_run X ok_X12_cede 10 1 (pc' := 28) (vs' := [some (.ref p0), some (.int p1), some (.int p2), some (.int p3), some (.int p4), some (.int p5), some (.int p6), none, none, none]) (st' := [.int 1, .int x3, .ref p0]) rfl ?_
    refine s_callV (rest := []) X E mv_X12_81 (c_X12_throwsIf S1 p0 x3 1) (ta1 t0_) rfl (by decide) t0_ rfl rfl (Nat.le_of_ble_eq_true rfl) (Nat.le_of_ble_eq_true rfl) (Nat.le_of_ble_eq_true rfl) (dk okd_X12_cede 5 rfl) (st' := fun o6 => [.int o6.1]) (fun _ => rfl) (fun o6 => ?_)
    refine s_if_ne (tgt := 65) X (dk okd_X12_cede 6 rfl) (by decide) ?_ ?_
    · refine s_run X ok_X12_cede 22 1 (pc' := 66) (vs' := [some (.ref p0), some (.int p1), some (.int p2), some (.int p3), some (.int p4), some (.int p5), some (.int p6), none, none, none]) (st' := [.int 0]) rfl ?_
      exact s_iret X hr (dk okd_X12_cede 12 rfl) rfl rfl
    · refine s_run X ok_X12_cede 11 3 (pc' := 37) (vs' := [some (.ref p0), some (.int p1), some (.int p2), some (.int p3), some (.int p4), some (.int p5), some (.int p6), none, none, none]) (st' := [.int p2, .int p1, .ref p0]) rfl ?_
      refine s_jn (κ := Int32 → Option (Int32 × St)) (fun k8 => ∀ (x7 : Int32), Jd C 10 (QJ C oIS sS) o6.2 58 [some (.ref p0), some (.int p1), some (.int p2), some (.int p3), some (.int p4), some (.int p5), some (.int p6), none, none, none] [.int x7, .ref p0] (k8 x7)) (fun x7 => ?_) (fun k8 h9 => ?_)
      · refine s_run X ok_X12_cede 21 1 (pc' := 59) (vs' := [some (.ref p0), some (.int p1), some (.int p2), some (.int p3), some (.int p4), some (.int p5), some (.int p6), none, none, none]) (st' := [.int 2, .int x7, .ref p0]) rfl ?_
        refine s_callV (rest := []) X E mv_X12_81 (c_X12_throwsIf o6.2 p0 x7 2) (ta1 t0_) rfl (by decide) t0_ rfl rfl (Nat.le_of_ble_eq_true rfl) (Nat.le_of_ble_eq_true rfl) (Nat.le_of_ble_eq_true rfl) (dk okd_X12_cede 10 rfl) (st' := fun o10 => [.int o10.1]) (fun _ => rfl) (fun o10 => ?_)
        refine s_if_eq (tgt := 67) X (dk okd_X12_cede 11 rfl) (by decide) ?_ ?_
        · refine s_run X ok_X12_cede 23 2 (pc' := 69) (vs' := [some (.ref p0), some (.int p1), some (.int p2), some (.int p3), some (.int p4), some (.int p5), some (.int p6), none, none, none]) (st' := [.int p1, .ref p0]) rfl ?_
          refine s_callV (rest := []) X E mv_X12_128 (c_X12_isActive o10.2 p0 p1) (ta1 t0_) rfl (by decide) t0_ rfl rfl (Nat.le_of_ble_eq_true rfl) (Nat.le_of_ble_eq_true rfl) (Nat.le_of_ble_eq_true rfl) (dk okd_X12_cede 13 rfl) (st' := fun v11 => [.int v11]) (fun _ => rfl) (fun v11 => ?_)
          refine s_jn (κ := Option (Int32 × St)) (fun k12 => Jd C 10 (QJ C oIS sS) o10.2 83 [none, none, none, none, none, none, none, none, none, none] [] k12) ?_ (fun k12 h13 => ?_)
          · refine s_run X ok_X12_cede 27 1 (pc' := 85) (vs' := [none, none, none, none, none, none, none, none, none, none]) (st' := [.int (-2)]) rfl ?_
            exact s_iret X hr (dk okd_X12_cede 17 rfl) rfl rfl
          · refine s_if_eq (tgt := 83) X (dk okd_X12_cede 14 rfl) (by decide) ?_ ?_
            · exact s_less [false, false, false, false, false, false, false, false, false, false] rfl (h13)
            · refine s_run X ok_X12_cede 25 2 (pc' := 77) (vs' := [some (.ref p0), some (.int p1), some (.int p2), some (.int p3), some (.int p4), some (.int p5), some (.int p6), none, none, none]) (st' := [.int p2, .ref p0]) rfl ?_
              refine s_callV (rest := []) X E mv_X12_128 (c_X12_isActive o10.2 p0 p2) (ta1 t0_) rfl (by decide) t0_ rfl rfl (Nat.le_of_ble_eq_true rfl) (Nat.le_of_ble_eq_true rfl) (Nat.le_of_ble_eq_true rfl) (dk okd_X12_cede 15 rfl) (st' := fun v14 => [.int v14]) (fun _ => rfl) (fun v14 => ?_)
              refine s_if_ne (tgt := 86) X (dk okd_X12_cede 16 rfl) (by decide) ?_ ?_
              · refine s_run X ok_X12_cede 28 6 (pc' := 95) (vs' := [some (.ref p0), some (.int p1), some (.int p2), some (.int p3), some (.int p4), some (.int p5), some (.int p6), some (.int 0), some (.int 0), some (.int 0)]) (st' := []) rfl ?_
                refine s_jn (κ := Int32 → Int32 → St → Option (Int32 × St)) (fun k18 => ∀ (x15 : Int32) (x16 : Int32) (S17 : St), Jd C 10 (QJ C oIS sS) S17 202 [some (.ref p0), some (.int p1), some (.int p2), none, none, none, none, some (.int x15), some (.int x16), none] [] (k18 x15 x16 S17)) (fun x15 x16 S17 => ?_) (fun k18 h19 => ?_)
                · refine s_run X ok_X12_cede 73 1 (pc' := 204) (vs' := [some (.ref p0), some (.int p1), some (.int p2), none, none, none, none, some (.int x15), some (.int x16), none]) (st' := [.int x15]) rfl ?_
                  refine s_if_ne (tgt := 209) X (dk okd_X12_cede 34 rfl) (by decide) ?_ ?_
                  · refine s_run X ok_X12_cede 75 1 (pc' := 211) (vs' := [some (.ref p0), some (.int p1), some (.int p2), none, none, none, none, some (.int x15), some (.int x16), none]) (st' := [.int x16]) rfl ?_
                    refine s_if_eq (tgt := 217) X (dk okd_X12_cede 36 rfl) (by decide) ?_ ?_
                    · refine s_run X ok_X12_cede 77 2 (pc' := 219) (vs' := [some (.ref p0), some (.int p1), some (.int p2), none, none, none, none, some (.int x15), some (.int x16), none]) (st' := [.int p2, .ref p0]) rfl ?_
                      refine s_callV (rest := []) X E mv_X12_138 (c_X12_give S17 p0 p2) (ta1 t0_) rfl (by decide) t0_ rfl rfl (Nat.le_of_ble_eq_true rfl) (Nat.le_of_ble_eq_true rfl) (Nat.le_of_ble_eq_true rfl) (dk okd_X12_cede 38 rfl) (st' := fun S20 => []) (fun _ => rfl) (fun S20 => ?_)
                      refine s_run X ok_X12_cede 79 2 (pc' := 224) (vs' := [some (.ref p0), some (.int p1), some (.int p2), none, none, none, none, some (.int x15), some (.int x16), none]) (st' := [.int p1, .ref p0]) rfl ?_
                      refine s_callV (rest := []) X E mv_X12_104 (c_X12_connected S20 p0 p1) (ta1 t0_) rfl (by decide) t0_ rfl rfl (Nat.le_of_ble_eq_true rfl) (Nat.le_of_ble_eq_true rfl) (Nat.le_of_ble_eq_true rfl) (dk okd_X12_cede 39 rfl) (st' := fun o21 => [.int o21.1]) (fun _ => rfl) (fun o21 => ?_)
                      refine s_jn (κ := St → Option (Int32 × St)) (fun k23 => ∀ (S22 : St), Jd C 10 (QJ C oIS sS) S22 241 [some (.ref p0), some (.int p1), none, none, none, none, none, none, none, none] [] (k23 S22)) (fun S22 => ?_) (fun k23 h24 => ?_)
                      · refine s_run X ok_X12_cede 84 2 (pc' := 243) (vs' := [some (.ref p0), some (.int p1), none, none, none, none, none, none, none, none]) (st' := [.int p1, .ref p0]) rfl ?_
                        refine s_callV (rest := []) X E mv_X12_138 (c_X12_give S22 p0 p1) (ta1 t0_) rfl (by decide) t0_ rfl rfl (Nat.le_of_ble_eq_true rfl) (Nat.le_of_ble_eq_true rfl) (Nat.le_of_ble_eq_true rfl) (dk okd_X12_cede 44 rfl) (st' := fun S25 => []) (fun _ => rfl) (fun S25 => ?_)
                        refine s_run X ok_X12_cede 86 1 (pc' := 248) (vs' := [some (.ref p0), some (.int p1), none, none, none, none, none, none, none, none]) (st' := [.int (-2)]) rfl ?_
                        exact s_iret X hr (dk okd_X12_cede 45 rfl) rfl rfl
                      · refine s_if_eq (tgt := 241) X (dk okd_X12_cede 40 rfl) (by decide) ?_ ?_
                        · exact s_less [true, true, false, false, false, false, false, false, false, false] rfl (h24 o21.2)
                        · refine s_run X ok_X12_cede 81 2 (pc' := 232) (vs' := [some (.ref p0), some (.int p1), some (.int p2), none, none, none, none, some (.int x15), some (.int x16), none]) (st' := [.int p2, .ref p0]) rfl ?_
                          refine s_callV (rest := []) X E mv_X12_104 (c_X12_connected o21.2 p0 p2) (ta1 t0_) rfl (by decide) t0_ rfl rfl (Nat.le_of_ble_eq_true rfl) (Nat.le_of_ble_eq_true rfl) (Nat.le_of_ble_eq_true rfl) (dk okd_X12_cede 41 rfl) (st' := fun o26 => [.int o26.1]) (fun _ => rfl) (fun o26 => ?_)
                          refine s_if_eq (tgt := 241) X (dk okd_X12_cede 42 rfl) (by decide) ?_ ?_
                          · exact s_less [true, true, false, false, false, false, false, false, false, false] rfl (h24 o26.2)
                          · refine s_run X ok_X12_cede 83 1 (pc' := 240) (vs' := [some (.ref p0), some (.int p1), some (.int p2), none, none, none, none, some (.int x15), some (.int x16), none]) (st' := [.int x15]) rfl ?_
                            exact s_iret X hr (dk okd_X12_cede 43 rfl) rfl rfl
                    · refine s_run X ok_X12_cede 76 1 (pc' := 216) (vs' := [some (.ref p0), some (.int p1), some (.int p2), none, none, none, none, some (.int x15), some (.int x16), none]) (st' := [.int (-2)]) rfl ?_
                      exact s_iret X hr (dk okd_X12_cede 37 rfl) rfl rfl
                  · refine s_run X ok_X12_cede 74 1 (pc' := 208) (vs' := [some (.ref p0), some (.int p1), some (.int p2), none, none, none, none, some (.int x15), some (.int x16), none]) (st' := [.int 0]) rfl ?_
                    exact s_iret X hr (dk okd_X12_cede 35 rfl) rfl rfl
                · refine s_lp (κ := Int32 → Int32 → Int32 → St → Option (Int32 × St)) (fun k31 => ∀ (x27 : Int32) (x28 : Int32) (x29 : Int32) (S30 : St), Jd C 10 (QJ C oIS sS) S30 95 [some (.ref p0), some (.int p1), some (.int p2), some (.int p3), some (.int p4), some (.int p5), some (.int p6), some (.int x27), some (.int x28), some (.int x29)] [] (k31 x27 x28 x29 S30)) (fun _ _ _ _ => s_none) (fun k31 h32 x27 x28 x29 S30 => ?_) FU 0 0 0 o10.2
                  refine s_run X ok_X12_cede 34 2 (pc' := 100) (vs' := [some (.ref p0), some (.int p1), some (.int p2), some (.int p3), some (.int p4), some (.int p5), some (.int p6), some (.int x27), some (.int x28), some (.int x29)]) (st' := [.int 900, .int x29]) rfl ?_
                  refine s_icmp_ge (tgt := 202) X (dk okd_X12_cede 18 rfl) (by decide) ?_ ?_
                  · exact s_less [true, true, true, false, false, false, false, true, true, false] rfl (h19 x27 x28 S30)
                  · refine s_run X ok_X12_cede 36 1 (pc' := 104) (vs' := [some (.ref p0), some (.int p1), some (.int p2), some (.int p3), some (.int p4), some (.int p5), some (.int p6), some (.int x27), some (.int x28), some (.int x29)]) (st' := [.ref p0]) rfl ?_
                    refine s_getR X fl_X12_20 t0_ (dk okd_X12_cede 19 rfl) (fun a33 (t34 : tT C a33 15) => ?_)
                    refine s_run X ok_X12_cede 37 2 (pc' := 110) (vs' := [some (.ref p0), some (.int p1), some (.int p2), some (.int p3), some (.int p4), some (.int p5), some (.int p6), some (.int x27), some (.int x28), some (.int x29)]) (st' := [.ref p0, .int x29, .ref a33]) rfl ?_
                    refine s_getR X fl_X12_9 t0_ (dk okd_X12_cede 20 rfl) (fun a35 (t36 : tT C a35 14) => ?_)
                    refine s_run X ok_X12_cede 39 3 (pc' := 119) (vs' := [some (.ref p0), some (.int p1), some (.int p2), some (.int p3), some (.int p4), some (.int p5), some (.int p6), some (.int x27), some (.int x28), some (.int x29)]) (st' := [.int (250 + x29), .ref a35, .int x29, .ref a33]) rfl ?_
                    refine s_lald X t36 (dk okd_X12_cede 21 rfl) (fun v37 => ?_)
                    refine s_run X ok_X12_cede 42 3 (pc' := 123) (vs' := [some (.ref p0), some (.int p1), some (.int p2), some (.int p3), some (.int p4), some (.int p5), some (.int p6), some (.int x27), some (.int x28), some (.int x29)]) (st' := [.int (lg_cmp v37 (Int32.toInt64 p1)), .int x29, .ref a33]) rfl ?_
                    refine s_jn (κ := Int32 → Option (Int32 × St)) (fun k39 => ∀ (x38 : Int32), Jd C 10 (QJ C oIS sS) S30 146 [some (.ref p0), some (.int p1), some (.int p2), some (.int p3), some (.int p4), some (.int p5), some (.int p6), some (.int x27), some (.int x28), some (.int x29)] [.int x38, .int x29, .ref a33] (k39 x38)) (fun x38 => ?_) (fun k39 h40 => ?_)
                    · refine s_zast X t34 (dk okd_X12_cede 25 rfl) (fun S41 => ?_)
                      refine s_run X ok_X12_cede 53 2 (pc' := 150) (vs' := [some (.ref p0), some (.int p1), some (.int p2), some (.int p3), some (.int p4), some (.int p5), some (.int p6), some (.int x27), some (.int x28), some (.int x29)]) (st' := [.ref p0, .int x27]) rfl ?_
                      refine s_getR X fl_X12_20 t0_ (dk okd_X12_cede 26 rfl) (fun a42 (t43 : tT C a42 15) => ?_)
                      refine s_run X ok_X12_cede 55 1 (pc' := 155) (vs' := [some (.ref p0), some (.int p1), some (.int p2), some (.int p3), some (.int p4), some (.int p5), some (.int p6), some (.int x27), some (.int x28), some (.int x29)]) (st' := [.int x29, .ref a42, .int x27]) rfl ?_
                      refine s_zald X t43 (dk okd_X12_cede 27 rfl) (fun v44 => ?_)
                      refine s_jn (κ := Int32 → Option (Int32 × St)) (fun k46 => ∀ (x45 : Int32), Jd C 10 (QJ C oIS sS) S41 164 [some (.ref p0), some (.int p1), some (.int p2), some (.int p3), some (.int p4), some (.int p5), some (.int p6), none, some (.int x28), some (.int x29)] [.int x45, .int x27] (k46 x45)) (fun x45 => ?_) (fun k46 h47 => ?_)
                      · refine s_run X ok_X12_cede 59 1 (pc' := 165) (vs' := [some (.ref p0), some (.int p1), some (.int p2), some (.int p3), some (.int p4), some (.int p5), some (.int p6), none, some (.int x28), some (.int x29)]) (st' := [.int (x27 + x45)]) rfl ?_
                        refine s_nmI (fun v48 => ?_)
                        refine s_run X ok_X12_cede 60 3 (pc' := 170) (vs' := [some (.ref p0), some (.int p1), some (.int p2), some (.int p3), some (.int p4), some (.int p5), some (.int p6), some (.int v48), some (.int x28), some (.int x29)]) (st' := [.ref p0, .int x28]) rfl ?_
                        refine s_getR X fl_X12_20 t0_ (dk okd_X12_cede 29 rfl) (fun a49 (t50 : tT C a49 15) => ?_)
                        refine s_run X ok_X12_cede 63 1 (pc' := 175) (vs' := [some (.ref p0), some (.int p1), some (.int p2), some (.int p3), some (.int p4), some (.int p5), some (.int p6), some (.int v48), some (.int x28), some (.int x29)]) (st' := [.int x29, .ref a49, .int x28]) rfl ?_
                        refine s_zald X t50 (dk okd_X12_cede 30 rfl) (fun v51 => ?_)
                        refine s_jn (κ := Int32 → Option (Int32 × St)) (fun k53 => ∀ (x52 : Int32), Jd C 10 (QJ C oIS sS) S41 193 [some (.ref p0), some (.int p1), some (.int p2), some (.int p3), some (.int p4), some (.int p5), some (.int p6), some (.int v48), none, some (.int x29)] [.int x52, .int x28] (k53 x52)) (fun x52 => ?_) (fun k53 h54 => ?_)
                        · refine s_run X ok_X12_cede 69 1 (pc' := 194) (vs' := [some (.ref p0), some (.int p1), some (.int p2), some (.int p3), some (.int p4), some (.int p5), some (.int p6), some (.int v48), none, some (.int x29)]) (st' := [.int (x28 ||| x52)]) rfl ?_
                          refine s_nmI (fun v55 => ?_)
                          refine s_run X ok_X12_cede 70 3 (pc' := 95) (vs' := [some (.ref p0), some (.int p1), some (.int p2), some (.int p3), some (.int p4), some (.int p5), some (.int p6), some (.int v48), some (.int v55), some (.int (x29 + 1))]) (st' := []) rfl ?_
                          exact h32 v48 v55 (x29 + 1) S41
                        · refine s_jn (κ := Option (Int32 × St)) (fun k56 => Jd C 10 (QJ C oIS sS) S41 192 [some (.ref p0), some (.int p1), some (.int p2), some (.int p3), some (.int p4), some (.int p5), some (.int p6), some (.int v48), none, some (.int x29)] [.int x28] k56) ?_ (fun k56 h57 => ?_)
                          · refine s_run X ok_X12_cede 68 1 (pc' := 193) (vs' := [some (.ref p0), some (.int p1), some (.int p2), some (.int p3), some (.int p4), some (.int p5), some (.int p6), some (.int v48), none, some (.int x29)]) (st' := [.int 0, .int x28]) rfl ?_
                            exact h54 0
                          · refine s_if_eq (tgt := 192) X (dk okd_X12_cede 31 rfl) (by decide) ?_ ?_
                            · exact s_less [true, true, true, true, true, true, true, true, false, true] rfl (h57)
                            · refine s_run X ok_X12_cede 64 2 (pc' := 182) (vs' := [some (.ref p0), some (.int p1), some (.int p2), some (.int p3), some (.int p4), some (.int p5), some (.int p6), some (.int v48), some (.int x28), some (.int x29)]) (st' := [.int x29, .ref p0, .int x28]) rfl ?_
                              refine s_callV (rest := [.int x28]) X E mv_X12_135 (c_X12_hasOutlet S41 p0 x29) (ta1 t0_) rfl (by decide) t0_ rfl rfl (Nat.le_of_ble_eq_true rfl) (Nat.le_of_ble_eq_true rfl) (Nat.le_of_ble_eq_true rfl) (dk okd_X12_cede 32 rfl) (st' := fun v58 => [.int v58, .int x28]) (fun _ => rfl) (fun v58 => ?_)
                              refine s_if_eq (tgt := 192) X (dk okd_X12_cede 33 rfl) (by decide) ?_ ?_
                              · exact s_less [true, true, true, true, true, true, true, true, false, true] rfl (h57)
                              · refine s_run X ok_X12_cede 66 2 (pc' := 193) (vs' := [some (.ref p0), some (.int p1), some (.int p2), some (.int p3), some (.int p4), some (.int p5), some (.int p6), some (.int v48), some (.int x28), some (.int x29)]) (st' := [.int 1, .int x28]) rfl ?_
                                exact s_less [true, true, true, true, true, true, true, true, false, true] rfl (h54 1)
                      · refine s_if_eq (tgt := 163) X (dk okd_X12_cede 28 rfl) (by decide) ?_ ?_
                        · refine s_run X ok_X12_cede 58 1 (pc' := 164) (vs' := [some (.ref p0), some (.int p1), some (.int p2), some (.int p3), some (.int p4), some (.int p5), some (.int p6), some (.int x27), some (.int x28), some (.int x29)]) (st' := [.int 0, .int x27]) rfl ?_
                          exact s_less [true, true, true, true, true, true, true, false, true, true] rfl (h47 0)
                        · refine s_run X ok_X12_cede 56 2 (pc' := 164) (vs' := [some (.ref p0), some (.int p1), some (.int p2), some (.int p3), some (.int p4), some (.int p5), some (.int p6), some (.int x27), some (.int x28), some (.int x29)]) (st' := [.int 1, .int x27]) rfl ?_
                          exact s_less [true, true, true, true, true, true, true, false, true, true] rfl (h47 1)
                    · refine s_jn (κ := Option (Int32 × St)) (fun k59 => Jd C 10 (QJ C oIS sS) S30 145 [some (.ref p0), some (.int p1), some (.int p2), some (.int p3), some (.int p4), some (.int p5), some (.int p6), some (.int x27), some (.int x28), some (.int x29)] [.int x29, .ref a33] k59) ?_ (fun k59 h60 => ?_)
                      · refine s_run X ok_X12_cede 52 1 (pc' := 146) (vs' := [some (.ref p0), some (.int p1), some (.int p2), some (.int p3), some (.int p4), some (.int p5), some (.int p6), some (.int x27), some (.int x28), some (.int x29)]) (st' := [.int 0, .int x29, .ref a33]) rfl ?_
                        exact h40 0
                      · refine s_lif_ne (tgt := 145) X (dk okd_X12_cede 22 rfl) (by decide) ?_ ?_
                        · exact h60
                        · refine s_run X ok_X12_cede 45 5 (pc' := 135) (vs' := [some (.ref p0), some (.int p1), some (.int p2), some (.int p3), some (.int p4), some (.int p5), some (.int p6), some (.int x27), some (.int x28), some (.int x29)]) (st' := [.int p6, .int p5, .int p4, .int p3, .int x29, .int x29, .ref a33]) rfl ?_
                          refine s_callS (rest := [.int x29, .ref a33]) X E ms_X12_131 (c_X12_isWithin S30 x29 p3 p4 p5 p6) (ta0) rfl rfl (Nat.le_of_ble_eq_true rfl) (Nat.le_of_ble_eq_true rfl) (Nat.le_of_ble_eq_true rfl) (dk okd_X12_cede 23 rfl) (st' := fun v61 => [.int v61, .int x29, .ref a33]) (fun _ => rfl) (fun v61 => ?_)
                          refine s_if_eq (tgt := 145) X (dk okd_X12_cede 24 rfl) (by decide) ?_ ?_
                          · exact h60
                          · refine s_run X ok_X12_cede 50 2 (pc' := 146) (vs' := [some (.ref p0), some (.int p1), some (.int p2), some (.int p3), some (.int p4), some (.int p5), some (.int p6), some (.int x27), some (.int x28), some (.int x29)]) (st' := [.int 1, .int x29, .ref a33]) rfl ?_
                            exact h40 1
              · exact s_less [false, false, false, false, false, false, false, false, false, false] rfl (h13)
        · refine s_run X ok_X12_cede 22 1 (pc' := 66) (vs' := [some (.ref p0), some (.int p1), some (.int p2), some (.int p3), some (.int p4), some (.int p5), some (.int p6), none, none, none]) (st' := [.int 0]) rfl ?_
          exact s_iret X hr (dk okd_X12_cede 12 rfl) rfl rfl
      · refine s_jn (κ := Option (Int32 × St)) (fun k62 => Jd C 10 (QJ C oIS sS) o6.2 53 [some (.ref p0), some (.int p1), some (.int p2), some (.int p3), some (.int p4), some (.int p5), some (.int p6), none, none, none] [.ref p0] k62) ?_ (fun k62 h63 => ?_)
        · refine s_run X ok_X12_cede 18 2 (pc' := 58) (vs' := [some (.ref p0), some (.int p1), some (.int p2), some (.int p3), some (.int p4), some (.int p5), some (.int p6), none, none, none]) (st' := [.int 1, .ref p0]) rfl ?_
          exact h9 1
        · refine s_icmp_eq (tgt := 53) X (dk okd_X12_cede 7 rfl) (by decide) ?_ ?_
          · exact h63
          · refine s_run X ok_X12_cede 14 4 (pc' := 47) (vs' := [some (.ref p0), some (.int p1), some (.int p2), some (.int p3), some (.int p4), some (.int p5), some (.int p6), none, none, none]) (st' := [.int p6, .int p5, .int p4, .int p3, .ref p0]) rfl ?_
            refine s_callS (rest := [.ref p0]) X E ms_X12_124 (c_X12_isArea o6.2 p3 p4 p5 p6) (ta0) rfl rfl (Nat.le_of_ble_eq_true rfl) (Nat.le_of_ble_eq_true rfl) (Nat.le_of_ble_eq_true rfl) (dk okd_X12_cede 8 rfl) (st' := fun v64 => [.int v64, .ref p0]) (fun _ => rfl) (fun v64 => ?_)
            refine s_if_ne (tgt := 57) X (dk okd_X12_cede 9 rfl) (by decide) ?_ ?_
            · refine s_run X ok_X12_cede 20 1 (pc' := 58) (vs' := [some (.ref p0), some (.int p1), some (.int p2), some (.int p3), some (.int p4), some (.int p5), some (.int p6), none, none, none]) (st' := [.int 0, .ref p0]) rfl ?_
              exact h9 0
            · exact h63
  · refine s_jn (κ := Option (Int32 × St)) (fun k65 => Jd C 10 (QJ C oIS sS) S1 22 [some (.ref p0), some (.int p1), some (.int p2), some (.int p3), some (.int p4), some (.int p5), some (.int p6), none, none, none] [.ref p0] k65) ?_ (fun k65 h66 => ?_)
    · refine s_run X ok_X12_cede 7 2 (pc' := 27) (vs' := [some (.ref p0), some (.int p1), some (.int p2), some (.int p3), some (.int p4), some (.int p5), some (.int p6), none, none, none]) (st' := [.int 1, .ref p0]) rfl ?_
      exact h5 1
    · refine s_if_eq (tgt := 22) X (dk okd_X12_cede 2 rfl) (by decide) ?_ ?_
      · exact h66
      · refine s_run X ok_X12_cede 5 2 (pc' := 16) (vs' := [some (.ref p0), some (.int p1), some (.int p2), some (.int p3), some (.int p4), some (.int p5), some (.int p6), none, none, none]) (st' := [.int p2, .ref p0, .ref p0]) rfl ?_
        refine s_callV (rest := [.ref p0]) X E mv_X12_85 (c_X12_isFranchisee S1 p0 p2) (ta1 t0_) rfl (by decide) t0_ rfl rfl (Nat.le_of_ble_eq_true rfl) (Nat.le_of_ble_eq_true rfl) (Nat.le_of_ble_eq_true rfl) (dk okd_X12_cede 3 rfl) (st' := fun v67 => [.int v67, .ref p0]) (fun _ => rfl) (fun v67 => ?_)
        refine s_if_ne (tgt := 26) X (dk okd_X12_cede 4 rfl) (by decide) ?_ ?_
        · refine s_run X ok_X12_cede 9 1 (pc' := 27) (vs' := [some (.ref p0), some (.int p1), some (.int p2), some (.int p3), some (.int p4), some (.int p5), some (.int p6), none, none, none]) (st' := [.int 0, .ref p0]) rfl ?_
          exact h5 0
        · exact h66
def tab_X12_outletOwner : List En := [(0, 8, 0, 0), (1, 0, 0, 0), (5, 8, 0, 0), (6, 8, 0, 0), (7, 4, 1, 0), (14, 0, 0, 1), (15, 41, 19, 0), (18, 0, 0, 0), (19, 0, 0, 1), (26, 0, 0, 0), (27, 41, 37, 0), (30, 8, 0, 0), (31, 4, 1, 0), (32, 0, 0, 0), (36, 32, 0, 0)]
theorem ok_X12_outletOwner : tab_X12_outletOwner.all (okE cX12_outletOwner) = true := by decide +kernel
def ed_X12_outletOwner : List (Nat × Instr × Nat) := [(2, .putfield 50, 3), (8, .invokevirtual 141, 3), (11, .ifCond .ne 7, 3), (20, .invokevirtual 81, 3), (23, .ifCond .eq 7, 3), (33, .invokevirtual 113, 3), (37, .ireturn, 1)]
theorem okd_X12_outletOwner : ed_X12_outletOwner.all (okD cX12_outletOwner) = true := by decide +kernel
def f_X12_outletOwner (S : St) (p0 : Nat) (p1 : Int32) : Option (Int32 × St) := lt (uI S p0 2 0) fun (S1 : St) => cl (f_X12_isOutlet S1 p0 p1) fun (v2 : Int32) => jn (κ := Int32 → Option (Int32 × St)) (fun x3 => cl (f_X12_throwsIf S1 p0 x3 1) fun (o6 : Int32 × St) => if o6.1 = 0 then (cl (f_X12_ofOutlet o6.2 p0 p1 0) fun (v7 : Int64) => some ((Int64.toInt32 v7), o6.2)) else (some (0, o6.2))) fun k4 => if v2 = 0 then (k4 1) else (k4 0)
set_option maxHeartbeats 4000000 in
set_option maxRecDepth 100000 in
theorem c_X12_outletOwner (S : St) (p0 : Nat) (p1 : Int32) : Ct yX12_outletOwner cX12_outletOwner 2 (some .int) 2 46 [.ref p0, .int p1] [(p0, 11)] S (f_X12_outletOwner S p0 p1) oIS sS := by
  refine Ct_of RX12 rfl (by decide) (Nat.le_of_ble_eq_true rfl) 0 (vs := [some (.ref p0), some (.int p1)]) rfl (fun C X E hr ht => ?_)
  have t0_ : tT C p0 11 := ht (p0, 11) (by simp)
  unfold f_X12_outletOwner
  refine s_run X ok_X12_outletOwner 0 2 (pc' := 2) (vs' := [some (.ref p0), some (.int p1)]) (st' := [.int 0, .ref p0]) rfl ?_
  refine s_putI X fp_X12_50 t0_ (dk okd_X12_outletOwner 0 rfl) (fun S1 => ?_)
  refine s_run X ok_X12_outletOwner 2 3 (pc' := 8) (vs' := [some (.ref p0), some (.int p1)]) (st' := [.int p1, .ref p0, .ref p0]) rfl ?_
  refine s_callV (rest := [.ref p0]) X E mv_X12_141 (c_X12_isOutlet S1 p0 p1) (ta1 t0_) rfl (by decide) t0_ rfl rfl (Nat.le_of_ble_eq_true rfl) (Nat.le_of_ble_eq_true rfl) (Nat.le_of_ble_eq_true rfl) (dk okd_X12_outletOwner 1 rfl) (st' := fun v2 => [.int v2, .ref p0]) (fun _ => rfl) (fun v2 => ?_)
  refine s_jn (κ := Int32 → Option (Int32 × St)) (fun k4 => ∀ (x3 : Int32), Jd C 2 (QJ C oIS sS) S1 19 [some (.ref p0), some (.int p1)] [.int x3, .ref p0] (k4 x3)) (fun x3 => ?_) (fun k4 h5 => ?_)
  · refine s_run X ok_X12_outletOwner 8 1 (pc' := 20) (vs' := [some (.ref p0), some (.int p1)]) (st' := [.int 1, .int x3, .ref p0]) rfl ?_
    refine s_callV (rest := []) X E mv_X12_81 (c_X12_throwsIf S1 p0 x3 1) (ta1 t0_) rfl (by decide) t0_ rfl rfl (Nat.le_of_ble_eq_true rfl) (Nat.le_of_ble_eq_true rfl) (Nat.le_of_ble_eq_true rfl) (dk okd_X12_outletOwner 3 rfl) (st' := fun o6 => [.int o6.1]) (fun _ => rfl) (fun o6 => ?_)
    refine s_if_eq (tgt := 30) X (dk okd_X12_outletOwner 4 rfl) (by decide) ?_ ?_
    · refine s_run X ok_X12_outletOwner 11 3 (pc' := 33) (vs' := [some (.ref p0), some (.int p1)]) (st' := [.int 0, .int p1, .ref p0]) rfl ?_
      refine s_callV (rest := []) X E mv_X12_113 (c_X12_ofOutlet o6.2 p0 p1 0) (ta1 t0_) rfl (by decide) t0_ rfl rfl (Nat.le_of_ble_eq_true rfl) (Nat.le_of_ble_eq_true rfl) (Nat.le_of_ble_eq_true rfl) (dk okd_X12_outletOwner 5 rfl) (st' := fun v7 => [.long v7]) (fun _ => rfl) (fun v7 => ?_)
      refine s_run X ok_X12_outletOwner 14 1 (pc' := 37) (vs' := [some (.ref p0), some (.int p1)]) (st' := [.int (Int64.toInt32 v7)]) rfl ?_
      exact s_iret X hr (dk okd_X12_outletOwner 6 rfl) rfl rfl
    · refine s_run X ok_X12_outletOwner 9 2 (pc' := 37) (vs' := [some (.ref p0), some (.int p1)]) (st' := [.int 0]) rfl ?_
      exact s_iret X hr (dk okd_X12_outletOwner 6 rfl) rfl rfl
  · refine s_if_ne (tgt := 18) X (dk okd_X12_outletOwner 2 rfl) (by decide) ?_ ?_
    · refine s_run X ok_X12_outletOwner 7 1 (pc' := 19) (vs' := [some (.ref p0), some (.int p1)]) (st' := [.int 0, .ref p0]) rfl ?_
      exact h5 0
    · refine s_run X ok_X12_outletOwner 5 2 (pc' := 19) (vs' := [some (.ref p0), some (.int p1)]) (st' := [.int 1, .ref p0]) rfl ?_
      exact h5 1
def tab_X12_outletCell : List En := [(0, 8, 0, 0), (1, 0, 0, 0), (5, 8, 0, 0), (6, 8, 0, 0), (7, 4, 1, 0), (14, 0, 0, 1), (15, 41, 19, 0), (18, 0, 0, 0), (19, 0, 0, 1), (26, 0, 0, 0), (27, 41, 48, 0), (33, 8, 0, 0), (34, 4, 1, 0), (35, 0, 0, 2), (39, 25, 0, 0), (40, 8, 0, 0), (41, 4, 1, 0), (42, 0, 0, 1), (46, 23, 0, 0), (47, 32, 0, 0)]
theorem ok_X12_outletCell : tab_X12_outletCell.all (okE cX12_outletCell) = true := by decide +kernel
def ed_X12_outletCell : List (Nat × Instr × Nat) := [(2, .putfield 50, 3), (8, .invokevirtual 141, 3), (11, .ifCond .ne 7, 3), (20, .invokevirtual 81, 3), (23, .ifCond .eq 7, 3), (30, .ldc2_w 144, 3), (36, .invokevirtual 113, 3), (43, .invokevirtual 113, 3), (48, .ireturn, 1)]
theorem okd_X12_outletCell : ed_X12_outletCell.all (okD cX12_outletCell) = true := by decide +kernel
def f_X12_outletCell (S : St) (p0 : Nat) (p1 : Int32) : Option (Int32 × St) := lt (uI S p0 2 0) fun (S1 : St) => cl (f_X12_isOutlet S1 p0 p1) fun (v2 : Int32) => jn (κ := Int32 → Option (Int32 × St)) (fun x3 => cl (f_X12_throwsIf S1 p0 x3 1) fun (o6 : Int32 × St) => if o6.1 = 0 then (cl (f_X12_ofOutlet o6.2 p0 p1 2) fun (v7 : Int64) => cl (f_X12_ofOutlet o6.2 p0 p1 1) fun (v8 : Int64) => some ((Int64.toInt32 ((100 * v7) + v8)), o6.2)) else (some (0, o6.2))) fun k4 => if v2 = 0 then (k4 1) else (k4 0)
set_option maxHeartbeats 4000000 in
set_option maxRecDepth 100000 in
theorem c_X12_outletCell (S : St) (p0 : Nat) (p1 : Int32) : Ct yX12_outletCell cX12_outletCell 2 (some .int) 2 46 [.ref p0, .int p1] [(p0, 11)] S (f_X12_outletCell S p0 p1) oIS sS := by
  refine Ct_of RX12 rfl (by decide) (Nat.le_of_ble_eq_true rfl) 0 (vs := [some (.ref p0), some (.int p1)]) rfl (fun C X E hr ht => ?_)
  have t0_ : tT C p0 11 := ht (p0, 11) (by simp)
  unfold f_X12_outletCell
  refine s_run X ok_X12_outletCell 0 2 (pc' := 2) (vs' := [some (.ref p0), some (.int p1)]) (st' := [.int 0, .ref p0]) rfl ?_
  refine s_putI X fp_X12_50 t0_ (dk okd_X12_outletCell 0 rfl) (fun S1 => ?_)
  refine s_run X ok_X12_outletCell 2 3 (pc' := 8) (vs' := [some (.ref p0), some (.int p1)]) (st' := [.int p1, .ref p0, .ref p0]) rfl ?_
  refine s_callV (rest := [.ref p0]) X E mv_X12_141 (c_X12_isOutlet S1 p0 p1) (ta1 t0_) rfl (by decide) t0_ rfl rfl (Nat.le_of_ble_eq_true rfl) (Nat.le_of_ble_eq_true rfl) (Nat.le_of_ble_eq_true rfl) (dk okd_X12_outletCell 1 rfl) (st' := fun v2 => [.int v2, .ref p0]) (fun _ => rfl) (fun v2 => ?_)
  refine s_jn (κ := Int32 → Option (Int32 × St)) (fun k4 => ∀ (x3 : Int32), Jd C 2 (QJ C oIS sS) S1 19 [some (.ref p0), some (.int p1)] [.int x3, .ref p0] (k4 x3)) (fun x3 => ?_) (fun k4 h5 => ?_)
  · refine s_run X ok_X12_outletCell 8 1 (pc' := 20) (vs' := [some (.ref p0), some (.int p1)]) (st' := [.int 1, .int x3, .ref p0]) rfl ?_
    refine s_callV (rest := []) X E mv_X12_81 (c_X12_throwsIf S1 p0 x3 1) (ta1 t0_) rfl (by decide) t0_ rfl rfl (Nat.le_of_ble_eq_true rfl) (Nat.le_of_ble_eq_true rfl) (Nat.le_of_ble_eq_true rfl) (dk okd_X12_outletCell 3 rfl) (st' := fun o6 => [.int o6.1]) (fun _ => rfl) (fun o6 => ?_)
    refine s_if_eq (tgt := 30) X (dk okd_X12_outletCell 4 rfl) (by decide) ?_ ?_
    · refine s_ldc2 X cl_X12_144 (dk okd_X12_outletCell 5 rfl) ?_
      refine s_run X ok_X12_outletCell 11 3 (pc' := 36) (vs' := [some (.ref p0), some (.int p1)]) (st' := [.int 2, .int p1, .ref p0, .long 100]) rfl ?_
      refine s_callV (rest := [.long 100]) X E mv_X12_113 (c_X12_ofOutlet o6.2 p0 p1 2) (ta1 t0_) rfl (by decide) t0_ rfl rfl (Nat.le_of_ble_eq_true rfl) (Nat.le_of_ble_eq_true rfl) (Nat.le_of_ble_eq_true rfl) (dk okd_X12_outletCell 6 rfl) (st' := fun v7 => [.long v7, .long 100]) (fun _ => rfl) (fun v7 => ?_)
      refine s_run X ok_X12_outletCell 14 4 (pc' := 43) (vs' := [some (.ref p0), some (.int p1)]) (st' := [.int 1, .int p1, .ref p0, .long (100 * v7)]) rfl ?_
      refine s_callV (rest := [.long (100 * v7)]) X E mv_X12_113 (c_X12_ofOutlet o6.2 p0 p1 1) (ta1 t0_) rfl (by decide) t0_ rfl rfl (Nat.le_of_ble_eq_true rfl) (Nat.le_of_ble_eq_true rfl) (Nat.le_of_ble_eq_true rfl) (dk okd_X12_outletCell 7 rfl) (st' := fun v8 => [.long v8, .long (100 * v7)]) (fun _ => rfl) (fun v8 => ?_)
      refine s_run X ok_X12_outletCell 18 2 (pc' := 48) (vs' := [some (.ref p0), some (.int p1)]) (st' := [.int (Int64.toInt32 ((100 * v7) + v8))]) rfl ?_
      exact s_iret X hr (dk okd_X12_outletCell 8 rfl) rfl rfl
    · refine s_run X ok_X12_outletCell 9 2 (pc' := 48) (vs' := [some (.ref p0), some (.int p1)]) (st' := [.int 0]) rfl ?_
      exact s_iret X hr (dk okd_X12_outletCell 8 rfl) rfl rfl
  · refine s_if_ne (tgt := 18) X (dk okd_X12_outletCell 2 rfl) (by decide) ?_ ?_
    · refine s_run X ok_X12_outletCell 7 1 (pc' := 19) (vs' := [some (.ref p0), some (.int p1)]) (st' := [.int 0, .ref p0]) rfl ?_
      exact h5 0
    · refine s_run X ok_X12_outletCell 5 2 (pc' := 19) (vs' := [some (.ref p0), some (.int p1)]) (st' := [.int 1, .ref p0]) rfl ?_
      exact h5 1
def tab_X12_putOutlet : List En := [(0, 2, 0, 5054), (3, 4, 1, 0), (4, 19, 0, 0), (5, 2, 0, 186), (8, 17, 0, 0), (9, 0, 0, 4), (10, 8, 0, 0), (14, 2, 0, 5054), (17, 4, 1, 0), (18, 19, 0, 0), (19, 0, 0, 3), (20, 17, 0, 0), (22, 32, 0, 0), (23, 19, 0, 0), (24, 17, 0, 0), (25, 11, 5, 0), (27, 8, 0, 0), (31, 5, 5, 0), (33, 0, 0, 0), (34, 17, 0, 0), (35, 4, 2, 0), (36, 31, 0, 0), (38, 8, 0, 0), (42, 5, 5, 0), (44, 0, 0, 1), (45, 17, 0, 0), (46, 4, 3, 0), (47, 31, 0, 0), (49, 8, 0, 0), (53, 5, 5, 0), (55, 0, 0, 2), (56, 17, 0, 0), (57, 5, 4, 0), (59, 31, 0, 0), (61, 8, 0, 0), (65, 5, 5, 0), (67, 0, 0, 3), (68, 17, 0, 0), (69, 3, 0, 0), (71, 8, 0, 0), (75, 2, 0, 5054), (78, 4, 1, 0), (79, 19, 0, 0), (80, 0, 0, 3), (81, 17, 0, 0), (82, 37, 0, 0), (84, 3, 1, 0), (85, 23, 0, 0)]
theorem ok_X12_putOutlet : tab_X12_putOutlet.all (okE cX12_putOutlet) = true := by decide +kernel
def ed_X12_putOutlet : List (Nat × Instr × Nat) := [(11, .getfield 9, 3), (21, .laload, 1), (28, .getfield 9, 3), (37, .lastore, 1), (39, .getfield 9, 3), (48, .lastore, 1), (50, .getfield 9, 3), (60, .lastore, 1), (62, .getfield 9, 3), (70, .lastore, 1), (72, .getfield 9, 3), (83, .laload, 1), (86, .lastore, 1), (87, .return_, 1)]
theorem okd_X12_putOutlet : ed_X12_putOutlet.all (okD cX12_putOutlet) = true := by decide +kernel
def f_X12_putOutlet (S : St) (p0 : Nat) (p1 : Int32) (p2 : Int32) (p3 : Int32) (p4 : Int32) : Option (St) := lt (gR S p0 0) fun (a1 : Nat) => ldJ S a1 ((5054 * p1) + 3) fun (v3 : Int64) => lt (((5054 * p1) + 186) + (4 * (Int64.toInt32 v3))) fun (v4 : Int32) => lt (gR S p0 0) fun (a5 : Nat) => stJ S a5 (v4 + 0) (Int32.toInt64 p2) fun (S7 : St) => lt (gR S7 p0 0) fun (a8 : Nat) => stJ S7 a8 (v4 + 1) (Int32.toInt64 p3) fun (S10 : St) => lt (gR S10 p0 0) fun (a11 : Nat) => stJ S10 a11 (v4 + 2) (Int32.toInt64 p4) fun (S13 : St) => lt (gR S13 p0 0) fun (a14 : Nat) => stJ S13 a14 (v4 + 3) 0 fun (S16 : St) => lt (gR S16 p0 0) fun (a17 : Nat) => ldJ S16 a17 ((5054 * p1) + 3) fun (v19 : Int64) => stJ S16 a17 ((5054 * p1) + 3) (v19 + 1) fun (S20 : St) => some S20
set_option maxHeartbeats 4000000 in
set_option maxRecDepth 100000 in
theorem c_X12_putOutlet (S : St) (p0 : Nat) (p1 : Int32) (p2 : Int32) (p3 : Int32) (p4 : Int32) : Ct yX12_putOutlet cX12_putOutlet 6 none 0 0 [.ref p0, .int p1, .int p2, .int p3, .int p4] [(p0, 11)] S (f_X12_putOutlet S p0 p1 p2 p3 p4) oV sV := by
  refine Ct_of RX12 rfl (by decide) (Nat.le_of_ble_eq_true rfl) 1 (vs := [some (.ref p0), some (.int p1), some (.int p2), some (.int p3), some (.int p4), none]) rfl (fun C X E hr ht => ?_)
  have t0_ : tT C p0 11 := ht (p0, 11) (by simp)
  unfold f_X12_putOutlet
  refine s_run X ok_X12_putOutlet 0 7 (pc' := 11) (vs' := [some (.ref p0), some (.int p1), some (.int p2), some (.int p3), some (.int p4), none]) (st' := [.ref p0, .int 4, .int ((5054 * p1) + 186)]) rfl ?_
  refine s_getR X fl_X12_9 t0_ (dk okd_X12_putOutlet 0 rfl) (fun a1 (t2 : tT C a1 14) => ?_)
  refine s_run X ok_X12_putOutlet 7 5 (pc' := 21) (vs' := [some (.ref p0), some (.int p1), some (.int p2), some (.int p3), some (.int p4), none]) (st' := [.int ((5054 * p1) + 3), .ref a1, .int 4, .int ((5054 * p1) + 186)]) rfl ?_
  refine s_lald X t2 (dk okd_X12_putOutlet 1 rfl) (fun v3 => ?_)
  refine s_run X ok_X12_putOutlet 12 3 (pc' := 25) (vs' := [some (.ref p0), some (.int p1), some (.int p2), some (.int p3), some (.int p4), none]) (st' := [.int (((5054 * p1) + 186) + (4 * (Int64.toInt32 v3)))]) rfl ?_
  refine s_nmI (fun v4 => ?_)
  refine s_run X ok_X12_putOutlet 15 2 (pc' := 28) (vs' := [some (.ref p0), some (.int p1), some (.int p2), some (.int p3), some (.int p4), some (.int v4)]) (st' := [.ref p0]) rfl ?_
  refine s_getR X fl_X12_9 t0_ (dk okd_X12_putOutlet 2 rfl) (fun a5 (t6 : tT C a5 14) => ?_)
  refine s_run X ok_X12_putOutlet 17 5 (pc' := 37) (vs' := [some (.ref p0), some (.int p1), some (.int p2), some (.int p3), some (.int p4), some (.int v4)]) (st' := [.long (Int32.toInt64 p2), .int (v4 + 0), .ref a5]) rfl ?_
  refine s_last X t6 (dk okd_X12_putOutlet 3 rfl) (fun S7 => ?_)
  refine s_run X ok_X12_putOutlet 22 1 (pc' := 39) (vs' := [some (.ref p0), some (.int p1), some (.int p2), some (.int p3), some (.int p4), some (.int v4)]) (st' := [.ref p0]) rfl ?_
  refine s_getR X fl_X12_9 t0_ (dk okd_X12_putOutlet 4 rfl) (fun a8 (t9 : tT C a8 14) => ?_)
  refine s_run X ok_X12_putOutlet 23 5 (pc' := 48) (vs' := [some (.ref p0), some (.int p1), some (.int p2), some (.int p3), some (.int p4), some (.int v4)]) (st' := [.long (Int32.toInt64 p3), .int (v4 + 1), .ref a8]) rfl ?_
  refine s_last X t9 (dk okd_X12_putOutlet 5 rfl) (fun S10 => ?_)
  refine s_run X ok_X12_putOutlet 28 1 (pc' := 50) (vs' := [some (.ref p0), some (.int p1), some (.int p2), some (.int p3), some (.int p4), some (.int v4)]) (st' := [.ref p0]) rfl ?_
  refine s_getR X fl_X12_9 t0_ (dk okd_X12_putOutlet 6 rfl) (fun a11 (t12 : tT C a11 14) => ?_)
  refine s_run X ok_X12_putOutlet 29 5 (pc' := 60) (vs' := [some (.ref p0), some (.int p1), some (.int p2), some (.int p3), some (.int p4), some (.int v4)]) (st' := [.long (Int32.toInt64 p4), .int (v4 + 2), .ref a11]) rfl ?_
  refine s_last X t12 (dk okd_X12_putOutlet 7 rfl) (fun S13 => ?_)
  refine s_run X ok_X12_putOutlet 34 1 (pc' := 62) (vs' := [some (.ref p0), some (.int p1), some (.int p2), some (.int p3), some (.int p4), some (.int v4)]) (st' := [.ref p0]) rfl ?_
  refine s_getR X fl_X12_9 t0_ (dk okd_X12_putOutlet 8 rfl) (fun a14 (t15 : tT C a14 14) => ?_)
  refine s_run X ok_X12_putOutlet 35 4 (pc' := 70) (vs' := [some (.ref p0), some (.int p1), some (.int p2), some (.int p3), some (.int p4), some (.int v4)]) (st' := [.long 0, .int (v4 + 3), .ref a14]) rfl ?_
  refine s_last X t15 (dk okd_X12_putOutlet 9 rfl) (fun S16 => ?_)
  refine s_run X ok_X12_putOutlet 39 1 (pc' := 72) (vs' := [some (.ref p0), some (.int p1), some (.int p2), some (.int p3), some (.int p4), some (.int v4)]) (st' := [.ref p0]) rfl ?_
  refine s_getR X fl_X12_9 t0_ (dk okd_X12_putOutlet 10 rfl) (fun a17 (t18 : tT C a17 14) => ?_)
  refine s_run X ok_X12_putOutlet 40 6 (pc' := 83) (vs' := [some (.ref p0), some (.int p1), some (.int p2), some (.int p3), some (.int p4), some (.int v4)]) (st' := [.int ((5054 * p1) + 3), .ref a17, .int ((5054 * p1) + 3), .ref a17]) rfl ?_
  refine s_lald X t18 (dk okd_X12_putOutlet 11 rfl) (fun v19 => ?_)
  refine s_run X ok_X12_putOutlet 46 2 (pc' := 86) (vs' := [some (.ref p0), some (.int p1), some (.int p2), some (.int p3), some (.int p4), some (.int v4)]) (st' := [.long (v19 + 1), .int ((5054 * p1) + 3), .ref a17]) rfl ?_
  refine s_last X t18 (dk okd_X12_putOutlet 12 rfl) (fun S20 => ?_)
  exact s_vret X hr (dk okd_X12_putOutlet 13 rfl) rfl rfl
def tab_X12_openOutlet : List En := [(0, 8, 0, 0), (1, 0, 0, 0), (5, 8, 0, 0), (6, 8, 0, 0), (7, 4, 1, 0), (14, 0, 0, 1), (15, 41, 19, 0), (18, 0, 0, 0), (19, 0, 0, 1), (26, 8, 0, 0), (27, 4, 2, 0), (28, 4, 3, 0), (35, 0, 0, 1), (36, 41, 40, 0), (39, 0, 0, 0), (40, 0, 0, 2), (47, 0, 0, 0), (49, 8, 0, 0), (50, 4, 1, 0), (57, 8, 0, 0), (58, 4, 2, 0), (59, 4, 3, 0), (63, 4, 1, 0), (67, 8, 0, 0), (68, 1, 0, 30), (70, 4, 3, 0), (71, 19, 0, 0), (72, 4, 2, 0), (73, 17, 0, 0), (80, 1, 0, (-2)), (83, 8, 0, 0), (87, 0, 0, 3), (92, 40, 0, 0), (96, 1, 0, (-3)), (99, 8, 0, 0), (100, 0, 0, 0), (101, 4, 1, 0), (102, 4, 2, 0), (103, 4, 3, 0), (107, 8, 0, 0), (111, 0, 0, 3), (113, 32, 0, 0), (114, 0, 0, 1), (115, 18, 0, 0)]
theorem ok_X12_openOutlet : tab_X12_openOutlet.all (okE cX12_openOutlet) = true := by decide +kernel
def ed_X12_openOutlet : List (Nat × Instr × Nat) := [(2, .putfield 50, 3), (8, .invokevirtual 85, 3), (11, .ifCond .ne 7, 3), (20, .invokevirtual 81, 3), (23, .ifCond .ne 24, 3), (29, .invokestatic 67, 3), (32, .ifCond .ne 7, 3), (41, .invokevirtual 81, 3), (44, .ifCond .eq 5, 3), (48, .ireturn, 1), (51, .invokevirtual 128, 3), (54, .ifCond .eq 26, 3), (60, .invokevirtual 71, 3), (64, .if_icmp .ne 16, 3), (74, .invokevirtual 135, 3), (77, .ifCond .eq 6, 3), (82, .ireturn, 1), (84, .getfield 9, 3), (88, .laload, 1), (89, .ldc2_w 146, 3), (93, .ifCond .ne 6, 3), (98, .ireturn, 1), (104, .invokevirtual 148, 3), (108, .getfield 9, 3), (112, .laload, 1), (116, .ireturn, 1)]
theorem okd_X12_openOutlet : ed_X12_openOutlet.all (okD cX12_openOutlet) = true := by decide +kernel
def f_X12_openOutlet (S : St) (p0 : Nat) (p1 : Int32) (p2 : Int32) (p3 : Int32) : Option (Int32 × St) := lt (uI S p0 2 0) fun (S1 : St) => cl (f_X12_isFranchisee S1 p0 p1) fun (v2 : Int32) => jn (κ := Int32 → Option (Int32 × St)) (fun x3 => cl (f_X12_throwsIf S1 p0 x3 1) fun (o6 : Int32 × St) => if o6.1 = 0 then (cl (f_X12_isCell o6.2 p2 p3) fun (v7 : Int32) => jn (κ := Int32 → Option (Int32 × St)) (fun x8 => cl (f_X12_throwsIf o6.2 p0 x8 2) fun (o11 : Int32 × St) => if o11.1 = 0 then (cl (f_X12_isActive o11.2 p0 p1) fun (v12 : Int32) => jn (κ := Option (Int32 × St)) (some ((-2), o11.2)) fun k13 => if v12 = 0 then (k13) else (cl (f_X12_ownerOf o11.2 p0 p2 p3) fun (v15 : Int32) => if v15 = p1 then (cl (f_X12_hasOutlet o11.2 p0 ((30 * p3) + p2)) fun (v16 : Int32) => if v16 = 0 then (lt (gR o11.2 p0 0) fun (a17 : Nat) => ldJ o11.2 a17 3 fun (v19 : Int64) => if v19 = 16 then (some ((-3), o11.2)) else (cl (f_X12_putOutlet o11.2 p0 0 p1 p2 p3) fun (S20 : St) => lt (gR S20 p0 0) fun (a21 : Nat) => ldJ S20 a21 3 fun (v23 : Int64) => some (((Int64.toInt32 v23) - 1), S20))) else (k13)) else (k13))) else (some (0, o11.2))) fun k9 => if v7 = 0 then (k9 1) else (k9 0)) else (some (0, o6.2))) fun k4 => if v2 = 0 then (k4 1) else (k4 0)
set_option maxHeartbeats 4000000 in
set_option maxRecDepth 100000 in
theorem c_X12_openOutlet (S : St) (p0 : Nat) (p1 : Int32) (p2 : Int32) (p3 : Int32) : Ct yX12_openOutlet cX12_openOutlet 4 (some .int) 3 65 [.ref p0, .int p1, .int p2, .int p3] [(p0, 11)] S (f_X12_openOutlet S p0 p1 p2 p3) oIS sS := by
  refine Ct_of RX12 rfl (by decide) (Nat.le_of_ble_eq_true rfl) 0 (vs := [some (.ref p0), some (.int p1), some (.int p2), some (.int p3)]) rfl (fun C X E hr ht => ?_)
  have t0_ : tT C p0 11 := ht (p0, 11) (by simp)
  unfold f_X12_openOutlet
  refine s_run X ok_X12_openOutlet 0 2 (pc' := 2) (vs' := [some (.ref p0), some (.int p1), some (.int p2), some (.int p3)]) (st' := [.int 0, .ref p0]) rfl ?_
  refine s_putI X fp_X12_50 t0_ (dk okd_X12_openOutlet 0 rfl) (fun S1 => ?_)
  refine s_run X ok_X12_openOutlet 2 3 (pc' := 8) (vs' := [some (.ref p0), some (.int p1), some (.int p2), some (.int p3)]) (st' := [.int p1, .ref p0, .ref p0]) rfl ?_
  refine s_callV (rest := [.ref p0]) X E mv_X12_85 (c_X12_isFranchisee S1 p0 p1) (ta1 t0_) rfl (by decide) t0_ rfl rfl (Nat.le_of_ble_eq_true rfl) (Nat.le_of_ble_eq_true rfl) (Nat.le_of_ble_eq_true rfl) (dk okd_X12_openOutlet 1 rfl) (st' := fun v2 => [.int v2, .ref p0]) (fun _ => rfl) (fun v2 => ?_)
  refine s_jn (κ := Int32 → Option (Int32 × St)) (fun k4 => ∀ (x3 : Int32), Jd C 4 (QJ C oIS sS) S1 19 [some (.ref p0), some (.int p1), some (.int p2), some (.int p3)] [.int x3, .ref p0] (k4 x3)) (fun x3 => ?_) (fun k4 h5 => ?_)
  · refine s_run X ok_X12_openOutlet 8 1 (pc' := 20) (vs' := [some (.ref p0), some (.int p1), some (.int p2), some (.int p3)]) (st' := [.int 1, .int x3, .ref p0]) rfl ?_
    refine s_callV (rest := []) X E mv_X12_81 (c_X12_throwsIf S1 p0 x3 1) (ta1 t0_) rfl (by decide) t0_ rfl rfl (Nat.le_of_ble_eq_true rfl) (Nat.le_of_ble_eq_true rfl) (Nat.le_of_ble_eq_true rfl) (dk okd_X12_openOutlet 3 rfl) (st' := fun o6 => [.int o6.1]) (fun _ => rfl) (fun o6 => ?_)
    refine s_if_ne (tgt := 47) X (dk okd_X12_openOutlet 4 rfl) (by decide) ?_ ?_
    · refine s_run X ok_X12_openOutlet 16 1 (pc' := 48) (vs' := [some (.ref p0), some (.int p1), some (.int p2), some (.int p3)]) (st' := [.int 0]) rfl ?_
      exact s_iret X hr (dk okd_X12_openOutlet 9 rfl) rfl rfl
    · refine s_run X ok_X12_openOutlet 9 3 (pc' := 29) (vs' := [some (.ref p0), some (.int p1), some (.int p2), some (.int p3)]) (st' := [.int p3, .int p2, .ref p0]) rfl ?_
      refine s_callS (rest := [.ref p0]) X E ms_X12_67 (c_X12_isCell o6.2 p2 p3) (ta0) rfl rfl (Nat.le_of_ble_eq_true rfl) (Nat.le_of_ble_eq_true rfl) (Nat.le_of_ble_eq_true rfl) (dk okd_X12_openOutlet 5 rfl) (st' := fun v7 => [.int v7, .ref p0]) (fun _ => rfl) (fun v7 => ?_)
      refine s_jn (κ := Int32 → Option (Int32 × St)) (fun k9 => ∀ (x8 : Int32), Jd C 4 (QJ C oIS sS) o6.2 40 [some (.ref p0), some (.int p1), some (.int p2), some (.int p3)] [.int x8, .ref p0] (k9 x8)) (fun x8 => ?_) (fun k9 h10 => ?_)
      · refine s_run X ok_X12_openOutlet 15 1 (pc' := 41) (vs' := [some (.ref p0), some (.int p1), some (.int p2), some (.int p3)]) (st' := [.int 2, .int x8, .ref p0]) rfl ?_
        refine s_callV (rest := []) X E mv_X12_81 (c_X12_throwsIf o6.2 p0 x8 2) (ta1 t0_) rfl (by decide) t0_ rfl rfl (Nat.le_of_ble_eq_true rfl) (Nat.le_of_ble_eq_true rfl) (Nat.le_of_ble_eq_true rfl) (dk okd_X12_openOutlet 7 rfl) (st' := fun o11 => [.int o11.1]) (fun _ => rfl) (fun o11 => ?_)
        refine s_if_eq (tgt := 49) X (dk okd_X12_openOutlet 8 rfl) (by decide) ?_ ?_
        · refine s_run X ok_X12_openOutlet 17 2 (pc' := 51) (vs' := [some (.ref p0), some (.int p1), some (.int p2), some (.int p3)]) (st' := [.int p1, .ref p0]) rfl ?_
          refine s_callV (rest := []) X E mv_X12_128 (c_X12_isActive o11.2 p0 p1) (ta1 t0_) rfl (by decide) t0_ rfl rfl (Nat.le_of_ble_eq_true rfl) (Nat.le_of_ble_eq_true rfl) (Nat.le_of_ble_eq_true rfl) (dk okd_X12_openOutlet 10 rfl) (st' := fun v12 => [.int v12]) (fun _ => rfl) (fun v12 => ?_)
          refine s_jn (κ := Option (Int32 × St)) (fun k13 => Jd C 4 (QJ C oIS sS) o11.2 80 [none, none, none, none] [] k13) ?_ (fun k13 h14 => ?_)
          · refine s_run X ok_X12_openOutlet 29 1 (pc' := 82) (vs' := [none, none, none, none]) (st' := [.int (-2)]) rfl ?_
            exact s_iret X hr (dk okd_X12_openOutlet 16 rfl) rfl rfl
          · refine s_if_eq (tgt := 80) X (dk okd_X12_openOutlet 11 rfl) (by decide) ?_ ?_
            · exact s_less [false, false, false, false] rfl (h14)
            · refine s_run X ok_X12_openOutlet 19 3 (pc' := 60) (vs' := [some (.ref p0), some (.int p1), some (.int p2), some (.int p3)]) (st' := [.int p3, .int p2, .ref p0]) rfl ?_
              refine s_callV (rest := []) X E mv_X12_71 (c_X12_ownerOf o11.2 p0 p2 p3) (ta1 t0_) rfl (by decide) t0_ rfl rfl (Nat.le_of_ble_eq_true rfl) (Nat.le_of_ble_eq_true rfl) (Nat.le_of_ble_eq_true rfl) (dk okd_X12_openOutlet 12 rfl) (st' := fun v15 => [.int v15]) (fun _ => rfl) (fun v15 => ?_)
              refine s_run X ok_X12_openOutlet 22 1 (pc' := 64) (vs' := [some (.ref p0), some (.int p1), some (.int p2), some (.int p3)]) (st' := [.int p1, .int v15]) rfl ?_
              refine s_icmp_ne (tgt := 80) X (dk okd_X12_openOutlet 13 rfl) (by decide) ?_ ?_
              · exact s_less [false, false, false, false] rfl (h14)
              · refine s_run X ok_X12_openOutlet 23 6 (pc' := 74) (vs' := [some (.ref p0), some (.int p1), some (.int p2), some (.int p3)]) (st' := [.int ((30 * p3) + p2), .ref p0]) rfl ?_
                refine s_callV (rest := []) X E mv_X12_135 (c_X12_hasOutlet o11.2 p0 ((30 * p3) + p2)) (ta1 t0_) rfl (by decide) t0_ rfl rfl (Nat.le_of_ble_eq_true rfl) (Nat.le_of_ble_eq_true rfl) (Nat.le_of_ble_eq_true rfl) (dk okd_X12_openOutlet 14 rfl) (st' := fun v16 => [.int v16]) (fun _ => rfl) (fun v16 => ?_)
                refine s_if_eq (tgt := 83) X (dk okd_X12_openOutlet 15 rfl) (by decide) ?_ ?_
                · refine s_run X ok_X12_openOutlet 30 1 (pc' := 84) (vs' := [some (.ref p0), some (.int p1), some (.int p2), some (.int p3)]) (st' := [.ref p0]) rfl ?_
                  refine s_getR X fl_X12_9 t0_ (dk okd_X12_openOutlet 17 rfl) (fun a17 (t18 : tT C a17 14) => ?_)
                  refine s_run X ok_X12_openOutlet 31 1 (pc' := 88) (vs' := [some (.ref p0), some (.int p1), some (.int p2), some (.int p3)]) (st' := [.int 3, .ref a17]) rfl ?_
                  refine s_lald X t18 (dk okd_X12_openOutlet 18 rfl) (fun v19 => ?_)
                  refine s_ldc2 X cl_X12_146 (dk okd_X12_openOutlet 19 rfl) ?_
                  refine s_run X ok_X12_openOutlet 32 1 (pc' := 93) (vs' := [some (.ref p0), some (.int p1), some (.int p2), some (.int p3)]) (st' := [.int (lg_cmp v19 16)]) rfl ?_
                  refine s_lif_ne (tgt := 99) X (dk okd_X12_openOutlet 20 rfl) (by decide) ?_ ?_
                  · refine s_run X ok_X12_openOutlet 34 5 (pc' := 104) (vs' := [some (.ref p0), some (.int p1), some (.int p2), some (.int p3)]) (st' := [.int p3, .int p2, .int p1, .int 0, .ref p0]) rfl ?_
                    refine s_callV (rest := []) X E mv_X12_148 (c_X12_putOutlet o11.2 p0 0 p1 p2 p3) (ta1 t0_) rfl (by decide) t0_ rfl rfl (Nat.le_of_ble_eq_true rfl) (Nat.le_of_ble_eq_true rfl) (Nat.le_of_ble_eq_true rfl) (dk okd_X12_openOutlet 22 rfl) (st' := fun S20 => []) (fun _ => rfl) (fun S20 => ?_)
                    refine s_run X ok_X12_openOutlet 39 1 (pc' := 108) (vs' := [some (.ref p0), some (.int p1), some (.int p2), some (.int p3)]) (st' := [.ref p0]) rfl ?_
                    refine s_getR X fl_X12_9 t0_ (dk okd_X12_openOutlet 23 rfl) (fun a21 (t22 : tT C a21 14) => ?_)
                    refine s_run X ok_X12_openOutlet 40 1 (pc' := 112) (vs' := [some (.ref p0), some (.int p1), some (.int p2), some (.int p3)]) (st' := [.int 3, .ref a21]) rfl ?_
                    refine s_lald X t22 (dk okd_X12_openOutlet 24 rfl) (fun v23 => ?_)
                    refine s_run X ok_X12_openOutlet 41 3 (pc' := 116) (vs' := [some (.ref p0), some (.int p1), some (.int p2), some (.int p3)]) (st' := [.int ((Int64.toInt32 v23) - 1)]) rfl ?_
                    exact s_iret X hr (dk okd_X12_openOutlet 25 rfl) rfl rfl
                  · refine s_run X ok_X12_openOutlet 33 1 (pc' := 98) (vs' := [some (.ref p0), some (.int p1), some (.int p2), some (.int p3)]) (st' := [.int (-3)]) rfl ?_
                    exact s_iret X hr (dk okd_X12_openOutlet 21 rfl) rfl rfl
                · exact s_less [false, false, false, false] rfl (h14)
        · refine s_run X ok_X12_openOutlet 16 1 (pc' := 48) (vs' := [some (.ref p0), some (.int p1), some (.int p2), some (.int p3)]) (st' := [.int 0]) rfl ?_
          exact s_iret X hr (dk okd_X12_openOutlet 9 rfl) rfl rfl
      · refine s_if_ne (tgt := 39) X (dk okd_X12_openOutlet 6 rfl) (by decide) ?_ ?_
        · refine s_run X ok_X12_openOutlet 14 1 (pc' := 40) (vs' := [some (.ref p0), some (.int p1), some (.int p2), some (.int p3)]) (st' := [.int 0, .ref p0]) rfl ?_
          exact h10 0
        · refine s_run X ok_X12_openOutlet 12 2 (pc' := 40) (vs' := [some (.ref p0), some (.int p1), some (.int p2), some (.int p3)]) (st' := [.int 1, .ref p0]) rfl ?_
          exact h10 1
  · refine s_if_ne (tgt := 18) X (dk okd_X12_openOutlet 2 rfl) (by decide) ?_ ?_
    · refine s_run X ok_X12_openOutlet 7 1 (pc' := 19) (vs' := [some (.ref p0), some (.int p1), some (.int p2), some (.int p3)]) (st' := [.int 0, .ref p0]) rfl ?_
      exact h5 0
    · refine s_run X ok_X12_openOutlet 5 2 (pc' := 19) (vs' := [some (.ref p0), some (.int p1), some (.int p2), some (.int p3)]) (st' := [.int 1, .ref p0]) rfl ?_
      exact h5 1
def tab_X12_nearestOutlet : List En := [(0, 0, 0, (-1)), (1, 10, 3, 0), (2, 0, 0, 0), (3, 11, 4, 0), (5, 5, 4, 0), (7, 31, 0, 0), (8, 8, 0, 0), (12, 0, 0, 3), (14, 40, 0, 0), (18, 8, 0, 0), (19, 5, 4, 0), (27, 4, 2, 0), (28, 0, 0, (-1)), (32, 8, 0, 0), (33, 5, 4, 0), (35, 0, 0, 0), (39, 4, 2, 0), (40, 31, 0, 0), (41, 40, 0, 0), (45, 41, 85, 0), (48, 4, 1, 0), (49, 1, 0, 30), (52, 4, 1, 0), (53, 1, 0, 30), (56, 8, 0, 0), (57, 5, 4, 0), (65, 11, 5, 0), (67, 4, 3, 0), (68, 0, 0, (-1)), (72, 5, 5, 0), (74, 4, 3, 0), (78, 5, 5, 0), (80, 41, 84, 0), (83, 4, 3, 0), (84, 10, 3, 0), (85, 16, 4, 1), (88, 41, 5, 0), (91, 4, 3, 0)]
theorem ok_X12_nearestOutlet : tab_X12_nearestOutlet.all (okE cX12_nearestOutlet) = true := by decide +kernel
def ed_X12_nearestOutlet : List (Nat × Instr × Nat) := [(9, .getfield 9, 3), (13, .laload, 1), (15, .ifCond .ge 76, 3), (21, .invokevirtual 118, 3), (24, .ifCond .eq 61, 3), (29, .if_icmp .eq 19, 3), (36, .invokevirtual 113, 3), (42, .ifCond .eq 6, 3), (51, .irem, 1), (55, .idiv, 1), (59, .invokevirtual 121, 3), (62, .invokestatic 110, 3), (69, .if_icmp .eq 9, 3), (75, .if_icmp .ge 8, 3), (92, .ireturn, 1)]
theorem okd_X12_nearestOutlet : ed_X12_nearestOutlet.all (okD cX12_nearestOutlet) = true := by decide +kernel
def f_X12_nearestOutlet (S : St) (p0 : Nat) (p1 : Int32) (p2 : Int32) : Option (Int32) := jn (κ := Int32 → Option (Int32)) (fun x1 => some x1) fun k2 => lp (κ := Int32 → Int32 → Option (Int32)) (fun _ _ => none) (fun k6 x4 x5 => lt (gR S p0 0) fun (a8 : Nat) => ldJ S a8 3 fun (v10 : Int64) => if v10 ≤ (Int32.toInt64 x5) then (k2 x4) else (cl (f_X12_isOpen S p0 x5) fun (v11 : Int32) => jn (κ := Int32 → Option (Int32)) (fun x12 => k6 x12 (x5 + 1)) fun k13 => if v11 = 0 then (k13 x4) else (jn (κ := Option (Int32)) (cl (f_X12_cellOf S p0 x5) fun (v17 : Int32) => cl (f_X12_apart S (p1 - p1 / 30 * 30) (p1 / 30) v17) fun (v18 : Int32) => jn (κ := Int32 → Option (Int32)) (fun x19 => k13 x19) fun k20 => jn (κ := Option (Int32)) (k20 v18) fun k22 => if x4 = (-1) then (k22) else (if x4 ≤ v18 then (k20 x4) else (k22))) fun k15 => if p2 = (-1) then (k15) else (cl (f_X12_ofOutlet S p0 x5 0) fun (v24 : Int64) => if v24 = (Int32.toInt64 p2) then (k15) else (k13 x4))))) FU (-1) 0
set_option maxHeartbeats 4000000 in
set_option maxRecDepth 100000 in
theorem c_X12_nearestOutlet (S : St) (p0 : Nat) (p1 : Int32) (p2 : Int32) : Ct yX12_nearestOutlet cX12_nearestOutlet 6 (some .int) 2 43 [.ref p0, .int p1, .int p2] [(p0, 11)] S (f_X12_nearestOutlet S p0 p1 p2) oI (fun _ => S) := by
  refine Ct_of RX12 rfl (by decide) (Nat.le_of_ble_eq_true rfl) 3 (vs := [some (.ref p0), some (.int p1), some (.int p2), none, none, none]) rfl (fun C X E hr ht => ?_)
  have t0_ : tT C p0 11 := ht (p0, 11) (by simp)
  unfold f_X12_nearestOutlet
  refine s_run X ok_X12_nearestOutlet 0 4 (pc' := 5) (vs' := [some (.ref p0), some (.int p1), some (.int p2), some (.int (-1)), some (.int 0), none]) (st' := []) rfl ?_
  refine s_jn (κ := Int32 → Option (Int32)) (fun k2 => ∀ (x1 : Int32), Jd C 6 (QJ C oI (fun _ => S)) S 91 [none, none, none, some (.int x1), none, none] [] (k2 x1)) (fun x1 => ?_) (fun k2 h3 => ?_)
  · refine s_run X ok_X12_nearestOutlet 37 1 (pc' := 92) (vs' := [none, none, none, some (.int x1), none, none]) (st' := [.int x1]) rfl ?_
    exact s_iret X hr (dk okd_X12_nearestOutlet 14 rfl) rfl rfl
  · refine s_lp (κ := Int32 → Int32 → Option (Int32)) (fun k6 => ∀ (x4 : Int32) (x5 : Int32), Jd C 6 (QJ C oI (fun _ => S)) S 5 [some (.ref p0), some (.int p1), some (.int p2), some (.int x4), some (.int x5), none] [] (k6 x4 x5)) (fun _ _ => s_none) (fun k6 h7 x4 x5 => ?_) FU (-1) 0
    refine s_run X ok_X12_nearestOutlet 4 3 (pc' := 9) (vs' := [some (.ref p0), some (.int p1), some (.int p2), some (.int x4), some (.int x5), none]) (st' := [.ref p0, .long (Int32.toInt64 x5)]) rfl ?_
    refine s_getR X fl_X12_9 t0_ (dk okd_X12_nearestOutlet 0 rfl) (fun a8 (t9 : tT C a8 14) => ?_)
    refine s_run X ok_X12_nearestOutlet 7 1 (pc' := 13) (vs' := [some (.ref p0), some (.int p1), some (.int p2), some (.int x4), some (.int x5), none]) (st' := [.int 3, .ref a8, .long (Int32.toInt64 x5)]) rfl ?_
    refine s_lald X t9 (dk okd_X12_nearestOutlet 1 rfl) (fun v10 => ?_)
    refine s_run X ok_X12_nearestOutlet 8 1 (pc' := 15) (vs' := [some (.ref p0), some (.int p1), some (.int p2), some (.int x4), some (.int x5), none]) (st' := [.int (lg_cmp (Int32.toInt64 x5) v10)]) rfl ?_
    refine s_lif_ge (tgt := 91) X (dk okd_X12_nearestOutlet 2 rfl) (by decide) ?_ ?_
    · exact s_less [false, false, false, true, false, false] rfl (h3 x4)
    · refine s_run X ok_X12_nearestOutlet 9 2 (pc' := 21) (vs' := [some (.ref p0), some (.int p1), some (.int p2), some (.int x4), some (.int x5), none]) (st' := [.int x5, .ref p0]) rfl ?_
      refine s_callV (rest := []) X E mv_X12_118 (c_X12_isOpen S p0 x5) (ta1 t0_) rfl (by decide) t0_ rfl rfl (Nat.le_of_ble_eq_true rfl) (Nat.le_of_ble_eq_true rfl) (Nat.le_of_ble_eq_true rfl) (dk okd_X12_nearestOutlet 3 rfl) (st' := fun v11 => [.int v11]) (fun _ => rfl) (fun v11 => ?_)
      refine s_jn (κ := Int32 → Option (Int32)) (fun k13 => ∀ (x12 : Int32), Jd C 6 (QJ C oI (fun _ => S)) S 85 [some (.ref p0), some (.int p1), some (.int p2), some (.int x12), some (.int x5), none] [] (k13 x12)) (fun x12 => ?_) (fun k13 h14 => ?_)
      · refine s_run X ok_X12_nearestOutlet 35 2 (pc' := 5) (vs' := [some (.ref p0), some (.int p1), some (.int p2), some (.int x12), some (.int (x5 + 1)), none]) (st' := []) rfl ?_
        exact h7 x12 (x5 + 1)
      · refine s_if_eq (tgt := 85) X (dk okd_X12_nearestOutlet 4 rfl) (by decide) ?_ ?_
        · exact h14 x4
        · refine s_run X ok_X12_nearestOutlet 11 2 (pc' := 29) (vs' := [some (.ref p0), some (.int p1), some (.int p2), some (.int x4), some (.int x5), none]) (st' := [.int (-1), .int p2]) rfl ?_
          refine s_jn (κ := Option (Int32)) (fun k15 => Jd C 6 (QJ C oI (fun _ => S)) S 48 [some (.ref p0), some (.int p1), some (.int p2), some (.int x4), some (.int x5), none] [] k15) ?_ (fun k15 h16 => ?_)
          · refine s_run X ok_X12_nearestOutlet 20 2 (pc' := 51) (vs' := [some (.ref p0), some (.int p1), some (.int p2), some (.int x4), some (.int x5), none]) (st' := [.int 30, .int p1]) rfl ?_
            refine s_irem0 X (dk okd_X12_nearestOutlet 8 rfl) (by decide) ?_
            refine s_run X ok_X12_nearestOutlet 22 2 (pc' := 55) (vs' := [some (.ref p0), some (.int p1), some (.int p2), some (.int x4), some (.int x5), none]) (st' := [.int 30, .int p1, .int (p1 - p1 / 30 * 30)]) rfl ?_
            refine s_idiv0 X (dk okd_X12_nearestOutlet 9 rfl) (by decide) ?_
            refine s_run X ok_X12_nearestOutlet 24 2 (pc' := 59) (vs' := [some (.ref p0), some (.int p1), some (.int p2), some (.int x4), some (.int x5), none]) (st' := [.int x5, .ref p0, .int (p1 / 30), .int (p1 - p1 / 30 * 30)]) rfl ?_
            refine s_callV (rest := [.int (p1 / 30), .int (p1 - p1 / 30 * 30)]) X E mv_X12_121 (c_X12_cellOf S p0 x5) (ta1 t0_) rfl (by decide) t0_ rfl rfl (Nat.le_of_ble_eq_true rfl) (Nat.le_of_ble_eq_true rfl) (Nat.le_of_ble_eq_true rfl) (dk okd_X12_nearestOutlet 10 rfl) (st' := fun v17 => [.int v17, .int (p1 / 30), .int (p1 - p1 / 30 * 30)]) (fun _ => rfl) (fun v17 => ?_)
            refine s_callS (rest := []) X E ms_X12_110 (c_X12_apart S (p1 - p1 / 30 * 30) (p1 / 30) v17) (ta0) rfl rfl (Nat.le_of_ble_eq_true rfl) (Nat.le_of_ble_eq_true rfl) (Nat.le_of_ble_eq_true rfl) (dk okd_X12_nearestOutlet 11 rfl) (st' := fun v18 => [.int v18]) (fun _ => rfl) (fun v18 => ?_)
            refine s_run X ok_X12_nearestOutlet 26 3 (pc' := 69) (vs' := [some (.ref p0), some (.int p1), some (.int p2), some (.int x4), some (.int x5), some (.int v18)]) (st' := [.int (-1), .int x4]) rfl ?_
            refine s_jn (κ := Int32 → Option (Int32)) (fun k20 => ∀ (x19 : Int32), Jd C 6 (QJ C oI (fun _ => S)) S 84 [some (.ref p0), some (.int p1), some (.int p2), none, some (.int x5), none] [.int x19] (k20 x19)) (fun x19 => ?_) (fun k20 h21 => ?_)
            · refine s_run X ok_X12_nearestOutlet 34 1 (pc' := 85) (vs' := [some (.ref p0), some (.int p1), some (.int p2), some (.int x19), some (.int x5), none]) (st' := []) rfl ?_
              exact h14 x19
            · refine s_jn (κ := Option (Int32)) (fun k22 => Jd C 6 (QJ C oI (fun _ => S)) S 78 [some (.ref p0), some (.int p1), some (.int p2), none, some (.int x5), some (.int v18)] [] k22) ?_ (fun k22 h23 => ?_)
              · refine s_run X ok_X12_nearestOutlet 31 2 (pc' := 84) (vs' := [some (.ref p0), some (.int p1), some (.int p2), none, some (.int x5), some (.int v18)]) (st' := [.int v18]) rfl ?_
                exact s_less [true, true, true, false, true, false] rfl (h21 v18)
              · refine s_icmp_eq (tgt := 78) X (dk okd_X12_nearestOutlet 12 rfl) (by decide) ?_ ?_
                · exact s_less [true, true, true, false, true, true] rfl (h23)
                · refine s_run X ok_X12_nearestOutlet 29 2 (pc' := 75) (vs' := [some (.ref p0), some (.int p1), some (.int p2), some (.int x4), some (.int x5), some (.int v18)]) (st' := [.int x4, .int v18]) rfl ?_
                  refine s_icmp_ge (tgt := 83) X (dk okd_X12_nearestOutlet 13 rfl) (by decide) ?_ ?_
                  · refine s_run X ok_X12_nearestOutlet 33 1 (pc' := 84) (vs' := [some (.ref p0), some (.int p1), some (.int p2), some (.int x4), some (.int x5), some (.int v18)]) (st' := [.int x4]) rfl ?_
                    exact s_less [true, true, true, false, true, false] rfl (h21 x4)
                  · exact s_less [true, true, true, false, true, true] rfl (h23)
          · refine s_icmp_eq (tgt := 48) X (dk okd_X12_nearestOutlet 5 rfl) (by decide) ?_ ?_
            · exact h16
            · refine s_run X ok_X12_nearestOutlet 13 3 (pc' := 36) (vs' := [some (.ref p0), some (.int p1), some (.int p2), some (.int x4), some (.int x5), none]) (st' := [.int 0, .int x5, .ref p0]) rfl ?_
              refine s_callV (rest := []) X E mv_X12_113 (c_X12_ofOutlet S p0 x5 0) (ta1 t0_) rfl (by decide) t0_ rfl rfl (Nat.le_of_ble_eq_true rfl) (Nat.le_of_ble_eq_true rfl) (Nat.le_of_ble_eq_true rfl) (dk okd_X12_nearestOutlet 6 rfl) (st' := fun v24 => [.long v24]) (fun _ => rfl) (fun v24 => ?_)
              refine s_run X ok_X12_nearestOutlet 16 3 (pc' := 42) (vs' := [some (.ref p0), some (.int p1), some (.int p2), some (.int x4), some (.int x5), none]) (st' := [.int (lg_cmp v24 (Int32.toInt64 p2))]) rfl ?_
              refine s_lif_eq (tgt := 48) X (dk okd_X12_nearestOutlet 7 rfl) (by decide) ?_ ?_
              · exact h16
              · refine s_run X ok_X12_nearestOutlet 19 1 (pc' := 85) (vs' := [some (.ref p0), some (.int p1), some (.int p2), some (.int x4), some (.int x5), none]) (st' := []) rfl ?_
                exact h14 x4
def tab_X12_bestSite : List En := [(0, 8, 0, 0), (1, 0, 0, 0), (5, 8, 0, 0), (6, 8, 0, 0), (7, 4, 1, 0), (14, 0, 0, 1), (15, 41, 19, 0), (18, 0, 0, 0), (19, 0, 0, 1), (26, 0, 0, 0), (28, 0, 0, (-1)), (29, 10, 2, 0), (30, 0, 0, 0), (31, 10, 3, 0), (32, 4, 3, 0), (33, 2, 0, 900), (39, 8, 0, 0), (43, 2, 0, 250), (46, 4, 3, 0), (47, 17, 0, 0), (49, 4, 1, 0), (50, 31, 0, 0), (51, 40, 0, 0), (55, 8, 0, 0), (56, 4, 3, 0), (63, 41, 88, 0), (66, 4, 2, 0), (67, 0, 0, (-1)), (71, 8, 0, 0), (72, 4, 3, 0), (73, 0, 0, (-1)), (77, 8, 0, 0), (78, 4, 2, 0), (79, 0, 0, (-1)), (86, 4, 3, 0), (87, 10, 2, 0), (88, 16, 3, 1), (91, 41, 32, 0), (94, 4, 2, 0), (95, 0, 0, (-1)), (99, 0, 0, (-1)), (100, 41, 115, 0), (103, 1, 0, 100), (105, 4, 2, 0), (106, 1, 0, 30), (109, 19, 0, 0), (110, 4, 2, 0), (111, 1, 0, 30), (114, 17, 0, 0)]
theorem ok_X12_bestSite : tab_X12_bestSite.all (okE cX12_bestSite) = true := by decide +kernel
def ed_X12_bestSite : List (Nat × Instr × Nat) := [(2, .putfield 50, 3), (8, .invokevirtual 85, 3), (11, .ifCond .ne 7, 3), (20, .invokevirtual 81, 3), (23, .ifCond .eq 5, 3), (27, .ireturn, 1), (36, .if_icmp .ge 58, 3), (40, .getfield 9, 3), (48, .laload, 1), (52, .ifCond .ne 36, 3), (57, .invokevirtual 135, 3), (60, .ifCond .eq 6, 3), (68, .if_icmp .eq 18, 3), (74, .invokevirtual 152, 3), (80, .invokevirtual 152, 3), (83, .if_icmp .le 5, 3), (96, .if_icmp .ne 7, 3), (108, .idiv, 1), (113, .irem, 1), (115, .ireturn, 1)]
theorem okd_X12_bestSite : ed_X12_bestSite.all (okD cX12_bestSite) = true := by decide +kernel
def f_X12_bestSite (S : St) (p0 : Nat) (p1 : Int32) : Option (Int32 × St) := lt (uI S p0 2 0) fun (S1 : St) => cl (f_X12_isFranchisee S1 p0 p1) fun (v2 : Int32) => jn (κ := Int32 → Option (Int32 × St)) (fun x3 => cl (f_X12_throwsIf S1 p0 x3 1) fun (o6 : Int32 × St) => if o6.1 = 0 then (jn (κ := Int32 → Option (Int32 × St)) (fun x7 => if x7 = (-1) then (some ((-1), o6.2)) else (some (((100 * (x7 / 30)) + (x7 - x7 / 30 * 30)), o6.2))) fun k8 => lp (κ := Int32 → Int32 → Option (Int32 × St)) (fun _ _ => none) (fun k12 x10 x11 => if 900 ≤ x11 then (k8 x10) else (lt (gR o6.2 p0 0) fun (a14 : Nat) => ldJ o6.2 a14 (250 + x11) fun (v16 : Int64) => jn (κ := Int32 → Option (Int32 × St)) (fun x17 => k12 x17 (x11 + 1)) fun k18 => if v16 = (Int32.toInt64 p1) then (cl (f_X12_hasOutlet o6.2 p0 x11) fun (v20 : Int32) => if v20 = 0 then (jn (κ := Option (Int32 × St)) (k18 x11) fun k21 => if x10 = (-1) then (k21) else (cl (f_X12_nearestOutlet o6.2 p0 x11 (-1)) fun (v23 : Int32) => cl (f_X12_nearestOutlet o6.2 p0 x10 (-1)) fun (v24 : Int32) => if v23 ≤ v24 then (k18 x10) else (k21))) else (k18 x10)) else (k18 x10))) FU (-1) 0) else (some (0, o6.2))) fun k4 => if v2 = 0 then (k4 1) else (k4 0)
set_option maxHeartbeats 4000000 in
set_option maxRecDepth 100000 in
theorem c_X12_bestSite (S : St) (p0 : Nat) (p1 : Int32) : Ct yX12_bestSite cX12_bestSite 4 (some .int) 3 68 [.ref p0, .int p1] [(p0, 11)] S (f_X12_bestSite S p0 p1) oIS sS := by
  refine Ct_of RX12 rfl (by decide) (Nat.le_of_ble_eq_true rfl) 2 (vs := [some (.ref p0), some (.int p1), none, none]) rfl (fun C X E hr ht => ?_)
  have t0_ : tT C p0 11 := ht (p0, 11) (by simp)
  unfold f_X12_bestSite
  refine s_run X ok_X12_bestSite 0 2 (pc' := 2) (vs' := [some (.ref p0), some (.int p1), none, none]) (st' := [.int 0, .ref p0]) rfl ?_
  refine s_putI X fp_X12_50 t0_ (dk okd_X12_bestSite 0 rfl) (fun S1 => ?_)
  refine s_run X ok_X12_bestSite 2 3 (pc' := 8) (vs' := [some (.ref p0), some (.int p1), none, none]) (st' := [.int p1, .ref p0, .ref p0]) rfl ?_
  refine s_callV (rest := [.ref p0]) X E mv_X12_85 (c_X12_isFranchisee S1 p0 p1) (ta1 t0_) rfl (by decide) t0_ rfl rfl (Nat.le_of_ble_eq_true rfl) (Nat.le_of_ble_eq_true rfl) (Nat.le_of_ble_eq_true rfl) (dk okd_X12_bestSite 1 rfl) (st' := fun v2 => [.int v2, .ref p0]) (fun _ => rfl) (fun v2 => ?_)
  refine s_jn (κ := Int32 → Option (Int32 × St)) (fun k4 => ∀ (x3 : Int32), Jd C 4 (QJ C oIS sS) S1 19 [some (.ref p0), some (.int p1), none, none] [.int x3, .ref p0] (k4 x3)) (fun x3 => ?_) (fun k4 h5 => ?_)
  · refine s_run X ok_X12_bestSite 8 1 (pc' := 20) (vs' := [some (.ref p0), some (.int p1), none, none]) (st' := [.int 1, .int x3, .ref p0]) rfl ?_
    refine s_callV (rest := []) X E mv_X12_81 (c_X12_throwsIf S1 p0 x3 1) (ta1 t0_) rfl (by decide) t0_ rfl rfl (Nat.le_of_ble_eq_true rfl) (Nat.le_of_ble_eq_true rfl) (Nat.le_of_ble_eq_true rfl) (dk okd_X12_bestSite 3 rfl) (st' := fun o6 => [.int o6.1]) (fun _ => rfl) (fun o6 => ?_)
    refine s_if_eq (tgt := 28) X (dk okd_X12_bestSite 4 rfl) (by decide) ?_ ?_
    · refine s_run X ok_X12_bestSite 10 4 (pc' := 32) (vs' := [some (.ref p0), some (.int p1), some (.int (-1)), some (.int 0)]) (st' := []) rfl ?_
      refine s_jn (κ := Int32 → Option (Int32 × St)) (fun k8 => ∀ (x7 : Int32), Jd C 4 (QJ C oIS sS) o6.2 94 [none, none, some (.int x7), none] [] (k8 x7)) (fun x7 => ?_) (fun k8 h9 => ?_)
      · refine s_run X ok_X12_bestSite 38 2 (pc' := 96) (vs' := [none, none, some (.int x7), none]) (st' := [.int (-1), .int x7]) rfl ?_
        refine s_icmp_ne (tgt := 103) X (dk okd_X12_bestSite 16 rfl) (by decide) ?_ ?_
        · refine s_run X ok_X12_bestSite 42 3 (pc' := 108) (vs' := [none, none, some (.int x7), none]) (st' := [.int 30, .int x7, .int 100]) rfl ?_
          refine s_idiv0 X (dk okd_X12_bestSite 17 rfl) (by decide) ?_
          refine s_run X ok_X12_bestSite 45 3 (pc' := 113) (vs' := [none, none, some (.int x7), none]) (st' := [.int 30, .int x7, .int (100 * (x7 / 30))]) rfl ?_
          refine s_irem0 X (dk okd_X12_bestSite 18 rfl) (by decide) ?_
          refine s_run X ok_X12_bestSite 48 1 (pc' := 115) (vs' := [none, none, some (.int x7), none]) (st' := [.int ((100 * (x7 / 30)) + (x7 - x7 / 30 * 30))]) rfl ?_
          exact s_iret X hr (dk okd_X12_bestSite 19 rfl) rfl rfl
        · refine s_run X ok_X12_bestSite 40 2 (pc' := 115) (vs' := [none, none, some (.int x7), none]) (st' := [.int (-1)]) rfl ?_
          exact s_iret X hr (dk okd_X12_bestSite 19 rfl) rfl rfl
      · refine s_lp (κ := Int32 → Int32 → Option (Int32 × St)) (fun k12 => ∀ (x10 : Int32) (x11 : Int32), Jd C 4 (QJ C oIS sS) o6.2 32 [some (.ref p0), some (.int p1), some (.int x10), some (.int x11)] [] (k12 x10 x11)) (fun _ _ => s_none) (fun k12 h13 x10 x11 => ?_) FU (-1) 0
        refine s_run X ok_X12_bestSite 14 2 (pc' := 36) (vs' := [some (.ref p0), some (.int p1), some (.int x10), some (.int x11)]) (st' := [.int 900, .int x11]) rfl ?_
        refine s_icmp_ge (tgt := 94) X (dk okd_X12_bestSite 6 rfl) (by decide) ?_ ?_
        · exact s_less [false, false, true, false] rfl (h9 x10)
        · refine s_run X ok_X12_bestSite 16 1 (pc' := 40) (vs' := [some (.ref p0), some (.int p1), some (.int x10), some (.int x11)]) (st' := [.ref p0]) rfl ?_
          refine s_getR X fl_X12_9 t0_ (dk okd_X12_bestSite 7 rfl) (fun a14 (t15 : tT C a14 14) => ?_)
          refine s_run X ok_X12_bestSite 17 3 (pc' := 48) (vs' := [some (.ref p0), some (.int p1), some (.int x10), some (.int x11)]) (st' := [.int (250 + x11), .ref a14]) rfl ?_
          refine s_lald X t15 (dk okd_X12_bestSite 8 rfl) (fun v16 => ?_)
          refine s_run X ok_X12_bestSite 20 3 (pc' := 52) (vs' := [some (.ref p0), some (.int p1), some (.int x10), some (.int x11)]) (st' := [.int (lg_cmp v16 (Int32.toInt64 p1))]) rfl ?_
          refine s_jn (κ := Int32 → Option (Int32 × St)) (fun k18 => ∀ (x17 : Int32), Jd C 4 (QJ C oIS sS) o6.2 88 [some (.ref p0), some (.int p1), some (.int x17), some (.int x11)] [] (k18 x17)) (fun x17 => ?_) (fun k18 h19 => ?_)
          · refine s_run X ok_X12_bestSite 36 2 (pc' := 32) (vs' := [some (.ref p0), some (.int p1), some (.int x17), some (.int (x11 + 1))]) (st' := []) rfl ?_
            exact h13 x17 (x11 + 1)
          · refine s_lif_ne (tgt := 88) X (dk okd_X12_bestSite 9 rfl) (by decide) ?_ ?_
            · exact h19 x10
            · refine s_run X ok_X12_bestSite 23 2 (pc' := 57) (vs' := [some (.ref p0), some (.int p1), some (.int x10), some (.int x11)]) (st' := [.int x11, .ref p0]) rfl ?_
              refine s_callV (rest := []) X E mv_X12_135 (c_X12_hasOutlet o6.2 p0 x11) (ta1 t0_) rfl (by decide) t0_ rfl rfl (Nat.le_of_ble_eq_true rfl) (Nat.le_of_ble_eq_true rfl) (Nat.le_of_ble_eq_true rfl) (dk okd_X12_bestSite 10 rfl) (st' := fun v20 => [.int v20]) (fun _ => rfl) (fun v20 => ?_)
              refine s_if_eq (tgt := 66) X (dk okd_X12_bestSite 11 rfl) (by decide) ?_ ?_
              · refine s_run X ok_X12_bestSite 26 2 (pc' := 68) (vs' := [some (.ref p0), some (.int p1), some (.int x10), some (.int x11)]) (st' := [.int (-1), .int x10]) rfl ?_
                refine s_jn (κ := Option (Int32 × St)) (fun k21 => Jd C 4 (QJ C oIS sS) o6.2 86 [some (.ref p0), some (.int p1), none, some (.int x11)] [] k21) ?_ (fun k21 h22 => ?_)
                · refine s_run X ok_X12_bestSite 34 2 (pc' := 88) (vs' := [some (.ref p0), some (.int p1), some (.int x11), some (.int x11)]) (st' := []) rfl ?_
                  exact h19 x11
                · refine s_icmp_eq (tgt := 86) X (dk okd_X12_bestSite 12 rfl) (by decide) ?_ ?_
                  · exact s_less [true, true, false, true] rfl (h22)
                  · refine s_run X ok_X12_bestSite 28 3 (pc' := 74) (vs' := [some (.ref p0), some (.int p1), some (.int x10), some (.int x11)]) (st' := [.int (-1), .int x11, .ref p0]) rfl ?_
                    refine s_callV (rest := []) X E mv_X12_152 (c_X12_nearestOutlet o6.2 p0 x11 (-1)) (ta1 t0_) rfl (by decide) t0_ rfl rfl (Nat.le_of_ble_eq_true rfl) (Nat.le_of_ble_eq_true rfl) (Nat.le_of_ble_eq_true rfl) (dk okd_X12_bestSite 13 rfl) (st' := fun v23 => [.int v23]) (fun _ => rfl) (fun v23 => ?_)
                    refine s_run X ok_X12_bestSite 31 3 (pc' := 80) (vs' := [some (.ref p0), some (.int p1), some (.int x10), some (.int x11)]) (st' := [.int (-1), .int x10, .ref p0, .int v23]) rfl ?_
                    refine s_callV (rest := [.int v23]) X E mv_X12_152 (c_X12_nearestOutlet o6.2 p0 x10 (-1)) (ta1 t0_) rfl (by decide) t0_ rfl rfl (Nat.le_of_ble_eq_true rfl) (Nat.le_of_ble_eq_true rfl) (Nat.le_of_ble_eq_true rfl) (dk okd_X12_bestSite 14 rfl) (st' := fun v24 => [.int v24, .int v23]) (fun _ => rfl) (fun v24 => ?_)
                    refine s_icmp_le (tgt := 88) X (dk okd_X12_bestSite 15 rfl) (by decide) ?_ ?_
                    · exact h19 x10
                    · exact s_less [true, true, false, true] rfl (h22)
              · refine s_run X ok_X12_bestSite 25 1 (pc' := 88) (vs' := [some (.ref p0), some (.int p1), some (.int x10), some (.int x11)]) (st' := []) rfl ?_
                exact h19 x10
    · refine s_run X ok_X12_bestSite 9 1 (pc' := 27) (vs' := [some (.ref p0), some (.int p1), none, none]) (st' := [.int 0]) rfl ?_
      exact s_iret X hr (dk okd_X12_bestSite 5 rfl) rfl rfl
  · refine s_if_ne (tgt := 18) X (dk okd_X12_bestSite 2 rfl) (by decide) ?_ ?_
    · refine s_run X ok_X12_bestSite 7 1 (pc' := 19) (vs' := [some (.ref p0), some (.int p1), none, none]) (st' := [.int 0, .ref p0]) rfl ?_
      exact h5 0
    · refine s_run X ok_X12_bestSite 5 2 (pc' := 19) (vs' := [some (.ref p0), some (.int p1), none, none]) (st' := [.int 1, .ref p0]) rfl ?_
      exact h5 1
def tab_X12_coverage : List En := [(0, 8, 0, 0), (1, 0, 0, 0), (5, 8, 0, 0), (6, 8, 0, 0), (7, 4, 1, 0), (14, 0, 0, 1), (15, 41, 19, 0), (18, 0, 0, 0), (19, 0, 0, 1), (26, 8, 0, 0), (27, 4, 2, 0), (28, 31, 0, 0), (29, 3, 0, 0), (39, 0, 0, 1), (40, 41, 44, 0), (43, 0, 0, 0), (44, 0, 0, 2), (51, 0, 0, 0), (53, 0, 0, 0), (54, 10, 3, 0), (55, 0, 0, 0), (56, 11, 4, 0), (58, 5, 4, 0), (60, 2, 0, 900), (66, 8, 0, 0), (70, 2, 0, 250), (73, 5, 4, 0), (75, 17, 0, 0), (77, 4, 1, 0), (78, 31, 0, 0), (79, 40, 0, 0), (83, 4, 3, 0), (84, 8, 0, 0), (85, 5, 4, 0), (87, 4, 1, 0), (91, 31, 0, 0), (92, 3, 0, 0), (93, 4, 2, 0), (94, 31, 0, 0), (101, 0, 0, 1), (102, 41, 106, 0), (105, 0, 0, 0), (106, 17, 0, 0), (107, 10, 3, 0), (108, 16, 4, 1), (111, 41, 58, 0), (114, 4, 3, 0)]
theorem ok_X12_coverage : tab_X12_coverage.all (okE cX12_coverage) = true := by decide +kernel
def ed_X12_coverage : List (Nat × Instr × Nat) := [(2, .putfield 50, 3), (8, .invokevirtual 85, 3), (11, .ifCond .ne 7, 3), (20, .invokevirtual 81, 3), (23, .ifCond .ne 28, 3), (30, .ldc2_w 155, 3), (33, .invokestatic 53, 3), (36, .ifCond .ne 7, 3), (45, .invokevirtual 81, 3), (48, .ifCond .eq 5, 3), (52, .ireturn, 1), (63, .if_icmp .ge 51, 3), (67, .getfield 9, 3), (76, .laload, 1), (80, .ifCond .ne 28, 3), (88, .invokevirtual 152, 3), (95, .invokestatic 53, 3), (98, .ifCond .eq 7, 3), (115, .ireturn, 1)]
theorem okd_X12_coverage : ed_X12_coverage.all (okD cX12_coverage) = true := by decide +kernel
def f_X12_coverage (S : St) (p0 : Nat) (p1 : Int32) (p2 : Int32) : Option (Int32 × St) := lt (uI S p0 2 0) fun (S1 : St) => cl (f_X12_isFranchisee S1 p0 p1) fun (v2 : Int32) => jn (κ := Int32 → Option (Int32 × St)) (fun x3 => cl (f_X12_throwsIf S1 p0 x3 1) fun (o6 : Int32 × St) => if o6.1 = 0 then (cl (f_X12_inRange o6.2 (Int32.toInt64 p2) 0 58) fun (v7 : Int32) => jn (κ := Int32 → Option (Int32 × St)) (fun x8 => cl (f_X12_throwsIf o6.2 p0 x8 2) fun (o11 : Int32 × St) => if o11.1 = 0 then (jn (κ := Int32 → Option (Int32 × St)) (fun x12 => some (x12, o11.2)) fun k13 => lp (κ := Int32 → Int32 → Option (Int32 × St)) (fun _ _ => none) (fun k17 x15 x16 => if 900 ≤ x16 then (k13 x15) else (lt (gR o11.2 p0 0) fun (a19 : Nat) => ldJ o11.2 a19 (250 + x16) fun (v21 : Int64) => jn (κ := Int32 → Option (Int32 × St)) (fun x22 => k17 x22 (x16 + 1)) fun k23 => if v21 = (Int32.toInt64 p1) then (cl (f_X12_nearestOutlet o11.2 p0 x16 p1) fun (v25 : Int32) => cl (f_X12_inRange o11.2 (Int32.toInt64 v25) 0 (Int32.toInt64 p2)) fun (v26 : Int32) => jn (κ := Int32 → Option (Int32 × St)) (fun x27 => lt (x15 + x27) fun (v30 : Int32) => k23 v30) fun k28 => if v26 = 0 then (k28 0) else (k28 1)) else (k23 x15))) FU 0 0) else (some (0, o11.2))) fun k9 => if v7 = 0 then (k9 1) else (k9 0)) else (some (0, o6.2))) fun k4 => if v2 = 0 then (k4 1) else (k4 0)
set_option maxHeartbeats 4000000 in
set_option maxRecDepth 100000 in
theorem c_X12_coverage (S : St) (p0 : Nat) (p1 : Int32) (p2 : Int32) : Ct yX12_coverage cX12_coverage 5 (some .int) 3 68 [.ref p0, .int p1, .int p2] [(p0, 11)] S (f_X12_coverage S p0 p1 p2) oIS sS := by
  refine Ct_of RX12 rfl (by decide) (Nat.le_of_ble_eq_true rfl) 2 (vs := [some (.ref p0), some (.int p1), some (.int p2), none, none]) rfl (fun C X E hr ht => ?_)
  have t0_ : tT C p0 11 := ht (p0, 11) (by simp)
  unfold f_X12_coverage
  refine s_run X ok_X12_coverage 0 2 (pc' := 2) (vs' := [some (.ref p0), some (.int p1), some (.int p2), none, none]) (st' := [.int 0, .ref p0]) rfl ?_
  refine s_putI X fp_X12_50 t0_ (dk okd_X12_coverage 0 rfl) (fun S1 => ?_)
  refine s_run X ok_X12_coverage 2 3 (pc' := 8) (vs' := [some (.ref p0), some (.int p1), some (.int p2), none, none]) (st' := [.int p1, .ref p0, .ref p0]) rfl ?_
  refine s_callV (rest := [.ref p0]) X E mv_X12_85 (c_X12_isFranchisee S1 p0 p1) (ta1 t0_) rfl (by decide) t0_ rfl rfl (Nat.le_of_ble_eq_true rfl) (Nat.le_of_ble_eq_true rfl) (Nat.le_of_ble_eq_true rfl) (dk okd_X12_coverage 1 rfl) (st' := fun v2 => [.int v2, .ref p0]) (fun _ => rfl) (fun v2 => ?_)
  refine s_jn (κ := Int32 → Option (Int32 × St)) (fun k4 => ∀ (x3 : Int32), Jd C 5 (QJ C oIS sS) S1 19 [some (.ref p0), some (.int p1), some (.int p2), none, none] [.int x3, .ref p0] (k4 x3)) (fun x3 => ?_) (fun k4 h5 => ?_)
  · refine s_run X ok_X12_coverage 8 1 (pc' := 20) (vs' := [some (.ref p0), some (.int p1), some (.int p2), none, none]) (st' := [.int 1, .int x3, .ref p0]) rfl ?_
    refine s_callV (rest := []) X E mv_X12_81 (c_X12_throwsIf S1 p0 x3 1) (ta1 t0_) rfl (by decide) t0_ rfl rfl (Nat.le_of_ble_eq_true rfl) (Nat.le_of_ble_eq_true rfl) (Nat.le_of_ble_eq_true rfl) (dk okd_X12_coverage 3 rfl) (st' := fun o6 => [.int o6.1]) (fun _ => rfl) (fun o6 => ?_)
    refine s_if_ne (tgt := 51) X (dk okd_X12_coverage 4 rfl) (by decide) ?_ ?_
    · refine s_run X ok_X12_coverage 17 1 (pc' := 52) (vs' := [some (.ref p0), some (.int p1), some (.int p2), none, none]) (st' := [.int 0]) rfl ?_
      exact s_iret X hr (dk okd_X12_coverage 10 rfl) rfl rfl
    · refine s_run X ok_X12_coverage 9 4 (pc' := 30) (vs' := [some (.ref p0), some (.int p1), some (.int p2), none, none]) (st' := [.long 0, .long (Int32.toInt64 p2), .ref p0]) rfl ?_
      refine s_ldc2 X cl_X12_155 (dk okd_X12_coverage 5 rfl) ?_
      refine s_callS (rest := [.ref p0]) X E ms_X12_53 (c_X12_inRange o6.2 (Int32.toInt64 p2) 0 58) (ta0) rfl rfl (Nat.le_of_ble_eq_true rfl) (Nat.le_of_ble_eq_true rfl) (Nat.le_of_ble_eq_true rfl) (dk okd_X12_coverage 6 rfl) (st' := fun v7 => [.int v7, .ref p0]) (fun _ => rfl) (fun v7 => ?_)
      refine s_jn (κ := Int32 → Option (Int32 × St)) (fun k9 => ∀ (x8 : Int32), Jd C 5 (QJ C oIS sS) o6.2 44 [some (.ref p0), some (.int p1), some (.int p2), none, none] [.int x8, .ref p0] (k9 x8)) (fun x8 => ?_) (fun k9 h10 => ?_)
      · refine s_run X ok_X12_coverage 16 1 (pc' := 45) (vs' := [some (.ref p0), some (.int p1), some (.int p2), none, none]) (st' := [.int 2, .int x8, .ref p0]) rfl ?_
        refine s_callV (rest := []) X E mv_X12_81 (c_X12_throwsIf o6.2 p0 x8 2) (ta1 t0_) rfl (by decide) t0_ rfl rfl (Nat.le_of_ble_eq_true rfl) (Nat.le_of_ble_eq_true rfl) (Nat.le_of_ble_eq_true rfl) (dk okd_X12_coverage 8 rfl) (st' := fun o11 => [.int o11.1]) (fun _ => rfl) (fun o11 => ?_)
        refine s_if_eq (tgt := 53) X (dk okd_X12_coverage 9 rfl) (by decide) ?_ ?_
        · refine s_run X ok_X12_coverage 18 4 (pc' := 58) (vs' := [some (.ref p0), some (.int p1), some (.int p2), some (.int 0), some (.int 0)]) (st' := []) rfl ?_
          refine s_jn (κ := Int32 → Option (Int32 × St)) (fun k13 => ∀ (x12 : Int32), Jd C 5 (QJ C oIS sS) o11.2 114 [none, none, none, some (.int x12), none] [] (k13 x12)) (fun x12 => ?_) (fun k13 h14 => ?_)
          · refine s_run X ok_X12_coverage 46 1 (pc' := 115) (vs' := [none, none, none, some (.int x12), none]) (st' := [.int x12]) rfl ?_
            exact s_iret X hr (dk okd_X12_coverage 18 rfl) rfl rfl
          · refine s_lp (κ := Int32 → Int32 → Option (Int32 × St)) (fun k17 => ∀ (x15 : Int32) (x16 : Int32), Jd C 5 (QJ C oIS sS) o11.2 58 [some (.ref p0), some (.int p1), some (.int p2), some (.int x15), some (.int x16)] [] (k17 x15 x16)) (fun _ _ => s_none) (fun k17 h18 x15 x16 => ?_) FU 0 0
            refine s_run X ok_X12_coverage 22 2 (pc' := 63) (vs' := [some (.ref p0), some (.int p1), some (.int p2), some (.int x15), some (.int x16)]) (st' := [.int 900, .int x16]) rfl ?_
            refine s_icmp_ge (tgt := 114) X (dk okd_X12_coverage 11 rfl) (by decide) ?_ ?_
            · exact s_less [false, false, false, true, false] rfl (h14 x15)
            · refine s_run X ok_X12_coverage 24 1 (pc' := 67) (vs' := [some (.ref p0), some (.int p1), some (.int p2), some (.int x15), some (.int x16)]) (st' := [.ref p0]) rfl ?_
              refine s_getR X fl_X12_9 t0_ (dk okd_X12_coverage 12 rfl) (fun a19 (t20 : tT C a19 14) => ?_)
              refine s_run X ok_X12_coverage 25 3 (pc' := 76) (vs' := [some (.ref p0), some (.int p1), some (.int p2), some (.int x15), some (.int x16)]) (st' := [.int (250 + x16), .ref a19]) rfl ?_
              refine s_lald X t20 (dk okd_X12_coverage 13 rfl) (fun v21 => ?_)
              refine s_run X ok_X12_coverage 28 3 (pc' := 80) (vs' := [some (.ref p0), some (.int p1), some (.int p2), some (.int x15), some (.int x16)]) (st' := [.int (lg_cmp v21 (Int32.toInt64 p1))]) rfl ?_
              refine s_jn (κ := Int32 → Option (Int32 × St)) (fun k23 => ∀ (x22 : Int32), Jd C 5 (QJ C oIS sS) o11.2 108 [some (.ref p0), some (.int p1), some (.int p2), some (.int x22), some (.int x16)] [] (k23 x22)) (fun x22 => ?_) (fun k23 h24 => ?_)
              · refine s_run X ok_X12_coverage 44 2 (pc' := 58) (vs' := [some (.ref p0), some (.int p1), some (.int p2), some (.int x22), some (.int (x16 + 1))]) (st' := []) rfl ?_
                exact h18 x22 (x16 + 1)
              · refine s_lif_ne (tgt := 108) X (dk okd_X12_coverage 14 rfl) (by decide) ?_ ?_
                · exact h24 x15
                · refine s_run X ok_X12_coverage 31 4 (pc' := 88) (vs' := [some (.ref p0), some (.int p1), some (.int p2), some (.int x15), some (.int x16)]) (st' := [.int p1, .int x16, .ref p0, .int x15]) rfl ?_
                  refine s_callV (rest := [.int x15]) X E mv_X12_152 (c_X12_nearestOutlet o11.2 p0 x16 p1) (ta1 t0_) rfl (by decide) t0_ rfl rfl (Nat.le_of_ble_eq_true rfl) (Nat.le_of_ble_eq_true rfl) (Nat.le_of_ble_eq_true rfl) (dk okd_X12_coverage 15 rfl) (st' := fun v25 => [.int v25, .int x15]) (fun _ => rfl) (fun v25 => ?_)
                  refine s_run X ok_X12_coverage 35 4 (pc' := 95) (vs' := [some (.ref p0), some (.int p1), some (.int p2), some (.int x15), some (.int x16)]) (st' := [.long (Int32.toInt64 p2), .long 0, .long (Int32.toInt64 v25), .int x15]) rfl ?_
                  refine s_callS (rest := [.int x15]) X E ms_X12_53 (c_X12_inRange o11.2 (Int32.toInt64 v25) 0 (Int32.toInt64 p2)) (ta0) rfl rfl (Nat.le_of_ble_eq_true rfl) (Nat.le_of_ble_eq_true rfl) (Nat.le_of_ble_eq_true rfl) (dk okd_X12_coverage 16 rfl) (st' := fun v26 => [.int v26, .int x15]) (fun _ => rfl) (fun v26 => ?_)
                  refine s_jn (κ := Int32 → Option (Int32 × St)) (fun k28 => ∀ (x27 : Int32), Jd C 5 (QJ C oIS sS) o11.2 106 [some (.ref p0), some (.int p1), some (.int p2), none, some (.int x16)] [.int x27, .int x15] (k28 x27)) (fun x27 => ?_) (fun k28 h29 => ?_)
                  · refine s_run X ok_X12_coverage 42 1 (pc' := 107) (vs' := [some (.ref p0), some (.int p1), some (.int p2), none, some (.int x16)]) (st' := [.int (x15 + x27)]) rfl ?_
                    refine s_nmI (fun v30 => ?_)
                    refine s_run X ok_X12_coverage 43 1 (pc' := 108) (vs' := [some (.ref p0), some (.int p1), some (.int p2), some (.int v30), some (.int x16)]) (st' := []) rfl ?_
                    exact h24 v30
                  · refine s_if_eq (tgt := 105) X (dk okd_X12_coverage 17 rfl) (by decide) ?_ ?_
                    · refine s_run X ok_X12_coverage 41 1 (pc' := 106) (vs' := [some (.ref p0), some (.int p1), some (.int p2), some (.int x15), some (.int x16)]) (st' := [.int 0, .int x15]) rfl ?_
                      exact s_less [true, true, true, false, true] rfl (h29 0)
                    · refine s_run X ok_X12_coverage 39 2 (pc' := 106) (vs' := [some (.ref p0), some (.int p1), some (.int p2), some (.int x15), some (.int x16)]) (st' := [.int 1, .int x15]) rfl ?_
                      exact s_less [true, true, true, false, true] rfl (h29 1)
        · refine s_run X ok_X12_coverage 17 1 (pc' := 52) (vs' := [some (.ref p0), some (.int p1), some (.int p2), none, none]) (st' := [.int 0]) rfl ?_
          exact s_iret X hr (dk okd_X12_coverage 10 rfl) rfl rfl
      · refine s_if_ne (tgt := 43) X (dk okd_X12_coverage 7 rfl) (by decide) ?_ ?_
        · refine s_run X ok_X12_coverage 15 1 (pc' := 44) (vs' := [some (.ref p0), some (.int p1), some (.int p2), none, none]) (st' := [.int 0, .ref p0]) rfl ?_
          exact h10 0
        · refine s_run X ok_X12_coverage 13 2 (pc' := 44) (vs' := [some (.ref p0), some (.int p1), some (.int p2), none, none]) (st' := [.int 1, .ref p0]) rfl ?_
          exact h10 1
  · refine s_if_ne (tgt := 18) X (dk okd_X12_coverage 2 rfl) (by decide) ?_ ?_
    · refine s_run X ok_X12_coverage 7 1 (pc' := 19) (vs' := [some (.ref p0), some (.int p1), some (.int p2), none, none]) (st' := [.int 0, .ref p0]) rfl ?_
      exact h5 0
    · refine s_run X ok_X12_coverage 5 2 (pc' := 19) (vs' := [some (.ref p0), some (.int p1), some (.int p2), none, none]) (st' := [.int 1, .ref p0]) rfl ?_
      exact h5 1
def tab_X12_rivalCells : List En := [(0, 8, 0, 0), (1, 0, 0, 0), (5, 8, 0, 0), (6, 8, 0, 0), (7, 4, 1, 0), (14, 8, 0, 0), (15, 4, 2, 0), (22, 0, 0, 1), (23, 41, 27, 0), (26, 0, 0, 0), (27, 0, 0, 1), (34, 8, 0, 0), (35, 4, 1, 0), (36, 4, 2, 0), (40, 0, 0, 1), (41, 41, 45, 0), (44, 0, 0, 0), (45, 0, 0, 2), (52, 0, 0, 0), (54, 0, 0, 0), (55, 10, 3, 0), (56, 0, 0, 0), (57, 11, 4, 0), (59, 5, 4, 0), (61, 2, 0, 900), (67, 8, 0, 0), (71, 2, 0, 250), (74, 5, 4, 0), (76, 17, 0, 0), (78, 4, 1, 0), (79, 31, 0, 0), (80, 40, 0, 0), (84, 41, 132, 0), (87, 8, 0, 0), (88, 5, 4, 0), (90, 4, 1, 0), (94, 11, 5, 0), (96, 8, 0, 0), (97, 5, 4, 0), (99, 4, 2, 0), (103, 11, 6, 0), (105, 4, 3, 0), (106, 5, 6, 0), (108, 0, 0, (-1)), (112, 5, 5, 0), (114, 0, 0, (-1)), (118, 5, 6, 0), (120, 5, 5, 0), (125, 0, 0, 1), (126, 41, 130, 0), (129, 0, 0, 0), (130, 17, 0, 0), (131, 10, 3, 0), (132, 16, 4, 1), (135, 41, 59, 0), (138, 4, 3, 0)]
theorem ok_X12_rivalCells : tab_X12_rivalCells.all (okE cX12_rivalCells) = true := by decide +kernel
def ed_X12_rivalCells : List (Nat × Instr × Nat) := [(2, .putfield 50, 3), (8, .invokevirtual 85, 3), (11, .ifCond .eq 11, 3), (16, .invokevirtual 85, 3), (19, .ifCond .ne 7, 3), (28, .invokevirtual 81, 3), (31, .ifCond .ne 21, 3), (37, .if_icmp .ne 7, 3), (46, .invokevirtual 81, 3), (49, .ifCond .eq 5, 3), (53, .ireturn, 1), (64, .if_icmp .ge 74, 3), (68, .getfield 9, 3), (77, .laload, 1), (81, .ifCond .eq 6, 3), (91, .invokevirtual 152, 3), (100, .invokevirtual 152, 3), (109, .if_icmp .eq 20, 3), (115, .if_icmp .eq 10, 3), (122, .if_icmp .ge 7, 3), (139, .ireturn, 1)]
theorem okd_X12_rivalCells : ed_X12_rivalCells.all (okD cX12_rivalCells) = true := by decide +kernel
def f_X12_rivalCells (S : St) (p0 : Nat) (p1 : Int32) (p2 : Int32) : Option (Int32 × St) := lt (uI S p0 2 0) fun (S1 : St) => cl (f_X12_isFranchisee S1 p0 p1) fun (v2 : Int32) => jn (κ := Int32 → Option (Int32 × St)) (fun x3 => cl (f_X12_throwsIf S1 p0 x3 1) fun (o6 : Int32 × St) => if o6.1 = 0 then (jn (κ := Int32 → Option (Int32 × St)) (fun x7 => cl (f_X12_throwsIf o6.2 p0 x7 2) fun (o10 : Int32 × St) => if o10.1 = 0 then (jn (κ := Int32 → Option (Int32 × St)) (fun x11 => some (x11, o10.2)) fun k12 => lp (κ := Int32 → Int32 → Option (Int32 × St)) (fun _ _ => none) (fun k16 x14 x15 => if 900 ≤ x15 then (k12 x14) else (lt (gR o10.2 p0 0) fun (a18 : Nat) => ldJ o10.2 a18 (250 + x15) fun (v20 : Int64) => jn (κ := Int32 → Option (Int32 × St)) (fun x21 => k16 x21 (x15 + 1)) fun k22 => if v20 = (Int32.toInt64 p1) then (cl (f_X12_nearestOutlet o10.2 p0 x15 p1) fun (v24 : Int32) => cl (f_X12_nearestOutlet o10.2 p0 x15 p2) fun (v25 : Int32) => jn (κ := Int32 → Option (Int32 × St)) (fun x26 => lt (x14 + x26) fun (v29 : Int32) => k22 v29) fun k27 => jn (κ := Option (Int32 × St)) (k27 0) fun k30 => if v25 = (-1) then (k30) else (jn (κ := Option (Int32 × St)) (k27 1) fun k32 => if v24 = (-1) then (k32) else (if v24 ≤ v25 then (k30) else (k32)))) else (k22 x14))) FU 0 0) else (some (0, o10.2))) fun k8 => if p1 = p2 then (k8 1) else (k8 0)) else (some (0, o6.2))) fun k4 => jn (κ := Option (Int32 × St)) (k4 1) fun k34 => if v2 = 0 then (k34) else (cl (f_X12_isFranchisee S1 p0 p2) fun (v36 : Int32) => if v36 = 0 then (k34) else (k4 0))
set_option maxHeartbeats 4000000 in
set_option maxRecDepth 100000 in
theorem c_X12_rivalCells (S : St) (p0 : Nat) (p1 : Int32) (p2 : Int32) : Ct yX12_rivalCells cX12_rivalCells 7 (some .int) 3 68 [.ref p0, .int p1, .int p2] [(p0, 11)] S (f_X12_rivalCells S p0 p1 p2) oIS sS := by
  refine Ct_of RX12 rfl (by decide) (Nat.le_of_ble_eq_true rfl) 4 (vs := [some (.ref p0), some (.int p1), some (.int p2), none, none, none, none]) rfl (fun C X E hr ht => ?_)
  have t0_ : tT C p0 11 := ht (p0, 11) (by simp)
  unfold f_X12_rivalCells
  refine s_run X ok_X12_rivalCells 0 2 (pc' := 2) (vs' := [some (.ref p0), some (.int p1), some (.int p2), none, none, none, none]) (st' := [.int 0, .ref p0]) rfl ?_
  refine s_putI X fp_X12_50 t0_ (dk okd_X12_rivalCells 0 rfl) (fun S1 => ?_)
  refine s_run X ok_X12_rivalCells 2 3 (pc' := 8) (vs' := [some (.ref p0), some (.int p1), some (.int p2), none, none, none, none]) (st' := [.int p1, .ref p0, .ref p0]) rfl ?_
  refine s_callV (rest := [.ref p0]) X E mv_X12_85 (c_X12_isFranchisee S1 p0 p1) (ta1 t0_) rfl (by decide) t0_ rfl rfl (Nat.le_of_ble_eq_true rfl) (Nat.le_of_ble_eq_true rfl) (Nat.le_of_ble_eq_true rfl) (dk okd_X12_rivalCells 1 rfl) (st' := fun v2 => [.int v2, .ref p0]) (fun _ => rfl) (fun v2 => ?_)
  refine s_jn (κ := Int32 → Option (Int32 × St)) (fun k4 => ∀ (x3 : Int32), Jd C 7 (QJ C oIS sS) S1 27 [some (.ref p0), some (.int p1), some (.int p2), none, none, none, none] [.int x3, .ref p0] (k4 x3)) (fun x3 => ?_) (fun k4 h5 => ?_)
  · refine s_run X ok_X12_rivalCells 10 1 (pc' := 28) (vs' := [some (.ref p0), some (.int p1), some (.int p2), none, none, none, none]) (st' := [.int 1, .int x3, .ref p0]) rfl ?_
    refine s_callV (rest := []) X E mv_X12_81 (c_X12_throwsIf S1 p0 x3 1) (ta1 t0_) rfl (by decide) t0_ rfl rfl (Nat.le_of_ble_eq_true rfl) (Nat.le_of_ble_eq_true rfl) (Nat.le_of_ble_eq_true rfl) (dk okd_X12_rivalCells 5 rfl) (st' := fun o6 => [.int o6.1]) (fun _ => rfl) (fun o6 => ?_)
    refine s_if_ne (tgt := 52) X (dk okd_X12_rivalCells 6 rfl) (by decide) ?_ ?_
    · refine s_run X ok_X12_rivalCells 18 1 (pc' := 53) (vs' := [some (.ref p0), some (.int p1), some (.int p2), none, none, none, none]) (st' := [.int 0]) rfl ?_
      exact s_iret X hr (dk okd_X12_rivalCells 10 rfl) rfl rfl
    · refine s_run X ok_X12_rivalCells 11 3 (pc' := 37) (vs' := [some (.ref p0), some (.int p1), some (.int p2), none, none, none, none]) (st' := [.int p2, .int p1, .ref p0]) rfl ?_
      refine s_jn (κ := Int32 → Option (Int32 × St)) (fun k8 => ∀ (x7 : Int32), Jd C 7 (QJ C oIS sS) o6.2 45 [some (.ref p0), some (.int p1), some (.int p2), none, none, none, none] [.int x7, .ref p0] (k8 x7)) (fun x7 => ?_) (fun k8 h9 => ?_)
      · refine s_run X ok_X12_rivalCells 17 1 (pc' := 46) (vs' := [some (.ref p0), some (.int p1), some (.int p2), none, none, none, none]) (st' := [.int 2, .int x7, .ref p0]) rfl ?_
        refine s_callV (rest := []) X E mv_X12_81 (c_X12_throwsIf o6.2 p0 x7 2) (ta1 t0_) rfl (by decide) t0_ rfl rfl (Nat.le_of_ble_eq_true rfl) (Nat.le_of_ble_eq_true rfl) (Nat.le_of_ble_eq_true rfl) (dk okd_X12_rivalCells 8 rfl) (st' := fun o10 => [.int o10.1]) (fun _ => rfl) (fun o10 => ?_)
        refine s_if_eq (tgt := 54) X (dk okd_X12_rivalCells 9 rfl) (by decide) ?_ ?_
        · refine s_run X ok_X12_rivalCells 19 4 (pc' := 59) (vs' := [some (.ref p0), some (.int p1), some (.int p2), some (.int 0), some (.int 0), none, none]) (st' := []) rfl ?_
          refine s_jn (κ := Int32 → Option (Int32 × St)) (fun k12 => ∀ (x11 : Int32), Jd C 7 (QJ C oIS sS) o10.2 138 [none, none, none, some (.int x11), none, none, none] [] (k12 x11)) (fun x11 => ?_) (fun k12 h13 => ?_)
          · refine s_run X ok_X12_rivalCells 55 1 (pc' := 139) (vs' := [none, none, none, some (.int x11), none, none, none]) (st' := [.int x11]) rfl ?_
            exact s_iret X hr (dk okd_X12_rivalCells 20 rfl) rfl rfl
          · refine s_lp (κ := Int32 → Int32 → Option (Int32 × St)) (fun k16 => ∀ (x14 : Int32) (x15 : Int32), Jd C 7 (QJ C oIS sS) o10.2 59 [some (.ref p0), some (.int p1), some (.int p2), some (.int x14), some (.int x15), none, none] [] (k16 x14 x15)) (fun _ _ => s_none) (fun k16 h17 x14 x15 => ?_) FU 0 0
            refine s_run X ok_X12_rivalCells 23 2 (pc' := 64) (vs' := [some (.ref p0), some (.int p1), some (.int p2), some (.int x14), some (.int x15), none, none]) (st' := [.int 900, .int x15]) rfl ?_
            refine s_icmp_ge (tgt := 138) X (dk okd_X12_rivalCells 11 rfl) (by decide) ?_ ?_
            · exact s_less [false, false, false, true, false, false, false] rfl (h13 x14)
            · refine s_run X ok_X12_rivalCells 25 1 (pc' := 68) (vs' := [some (.ref p0), some (.int p1), some (.int p2), some (.int x14), some (.int x15), none, none]) (st' := [.ref p0]) rfl ?_
              refine s_getR X fl_X12_9 t0_ (dk okd_X12_rivalCells 12 rfl) (fun a18 (t19 : tT C a18 14) => ?_)
              refine s_run X ok_X12_rivalCells 26 3 (pc' := 77) (vs' := [some (.ref p0), some (.int p1), some (.int p2), some (.int x14), some (.int x15), none, none]) (st' := [.int (250 + x15), .ref a18]) rfl ?_
              refine s_lald X t19 (dk okd_X12_rivalCells 13 rfl) (fun v20 => ?_)
              refine s_run X ok_X12_rivalCells 29 3 (pc' := 81) (vs' := [some (.ref p0), some (.int p1), some (.int p2), some (.int x14), some (.int x15), none, none]) (st' := [.int (lg_cmp v20 (Int32.toInt64 p1))]) rfl ?_
              refine s_jn (κ := Int32 → Option (Int32 × St)) (fun k22 => ∀ (x21 : Int32), Jd C 7 (QJ C oIS sS) o10.2 132 [some (.ref p0), some (.int p1), some (.int p2), some (.int x21), some (.int x15), none, none] [] (k22 x21)) (fun x21 => ?_) (fun k22 h23 => ?_)
              · refine s_run X ok_X12_rivalCells 53 2 (pc' := 59) (vs' := [some (.ref p0), some (.int p1), some (.int p2), some (.int x21), some (.int (x15 + 1)), none, none]) (st' := []) rfl ?_
                exact h17 x21 (x15 + 1)
              · refine s_lif_eq (tgt := 87) X (dk okd_X12_rivalCells 14 rfl) (by decide) ?_ ?_
                · refine s_run X ok_X12_rivalCells 33 3 (pc' := 91) (vs' := [some (.ref p0), some (.int p1), some (.int p2), some (.int x14), some (.int x15), none, none]) (st' := [.int p1, .int x15, .ref p0]) rfl ?_
                  refine s_callV (rest := []) X E mv_X12_152 (c_X12_nearestOutlet o10.2 p0 x15 p1) (ta1 t0_) rfl (by decide) t0_ rfl rfl (Nat.le_of_ble_eq_true rfl) (Nat.le_of_ble_eq_true rfl) (Nat.le_of_ble_eq_true rfl) (dk okd_X12_rivalCells 15 rfl) (st' := fun v24 => [.int v24]) (fun _ => rfl) (fun v24 => ?_)
                  refine s_run X ok_X12_rivalCells 36 4 (pc' := 100) (vs' := [some (.ref p0), some (.int p1), some (.int p2), some (.int x14), some (.int x15), some (.int v24), none]) (st' := [.int p2, .int x15, .ref p0]) rfl ?_
                  refine s_callV (rest := []) X E mv_X12_152 (c_X12_nearestOutlet o10.2 p0 x15 p2) (ta1 t0_) rfl (by decide) t0_ rfl rfl (Nat.le_of_ble_eq_true rfl) (Nat.le_of_ble_eq_true rfl) (Nat.le_of_ble_eq_true rfl) (dk okd_X12_rivalCells 16 rfl) (st' := fun v25 => [.int v25]) (fun _ => rfl) (fun v25 => ?_)
                  refine s_run X ok_X12_rivalCells 40 4 (pc' := 109) (vs' := [some (.ref p0), some (.int p1), some (.int p2), some (.int x14), some (.int x15), some (.int v24), some (.int v25)]) (st' := [.int (-1), .int v25, .int x14]) rfl ?_
                  refine s_jn (κ := Int32 → Option (Int32 × St)) (fun k27 => ∀ (x26 : Int32), Jd C 7 (QJ C oIS sS) o10.2 130 [some (.ref p0), some (.int p1), some (.int p2), none, some (.int x15), none, none] [.int x26, .int x14] (k27 x26)) (fun x26 => ?_) (fun k27 h28 => ?_)
                  · refine s_run X ok_X12_rivalCells 51 1 (pc' := 131) (vs' := [some (.ref p0), some (.int p1), some (.int p2), none, some (.int x15), none, none]) (st' := [.int (x14 + x26)]) rfl ?_
                    refine s_nmI (fun v29 => ?_)
                    refine s_run X ok_X12_rivalCells 52 1 (pc' := 132) (vs' := [some (.ref p0), some (.int p1), some (.int p2), some (.int v29), some (.int x15), none, none]) (st' := []) rfl ?_
                    exact h23 v29
                  · refine s_jn (κ := Option (Int32 × St)) (fun k30 => Jd C 7 (QJ C oIS sS) o10.2 129 [some (.ref p0), some (.int p1), some (.int p2), none, some (.int x15), none, none] [.int x14] k30) ?_ (fun k30 h31 => ?_)
                    · refine s_run X ok_X12_rivalCells 50 1 (pc' := 130) (vs' := [some (.ref p0), some (.int p1), some (.int p2), none, some (.int x15), none, none]) (st' := [.int 0, .int x14]) rfl ?_
                      exact h28 0
                    · refine s_icmp_eq (tgt := 129) X (dk okd_X12_rivalCells 17 rfl) (by decide) ?_ ?_
                      · exact s_less [true, true, true, false, true, false, false] rfl (h31)
                      · refine s_run X ok_X12_rivalCells 44 2 (pc' := 115) (vs' := [some (.ref p0), some (.int p1), some (.int p2), some (.int x14), some (.int x15), some (.int v24), some (.int v25)]) (st' := [.int (-1), .int v24, .int x14]) rfl ?_
                        refine s_jn (κ := Option (Int32 × St)) (fun k32 => Jd C 7 (QJ C oIS sS) o10.2 125 [some (.ref p0), some (.int p1), some (.int p2), none, some (.int x15), none, none] [.int x14] k32) ?_ (fun k32 h33 => ?_)
                        · refine s_run X ok_X12_rivalCells 48 2 (pc' := 130) (vs' := [some (.ref p0), some (.int p1), some (.int p2), none, some (.int x15), none, none]) (st' := [.int 1, .int x14]) rfl ?_
                          exact h28 1
                        · refine s_icmp_eq (tgt := 125) X (dk okd_X12_rivalCells 18 rfl) (by decide) ?_ ?_
                          · exact s_less [true, true, true, false, true, false, false] rfl (h33)
                          · refine s_run X ok_X12_rivalCells 46 2 (pc' := 122) (vs' := [some (.ref p0), some (.int p1), some (.int p2), some (.int x14), some (.int x15), some (.int v24), some (.int v25)]) (st' := [.int v24, .int v25, .int x14]) rfl ?_
                            refine s_icmp_ge (tgt := 129) X (dk okd_X12_rivalCells 19 rfl) (by decide) ?_ ?_
                            · exact s_less [true, true, true, false, true, false, false] rfl (h31)
                            · exact s_less [true, true, true, false, true, false, false] rfl (h33)
                · refine s_run X ok_X12_rivalCells 32 1 (pc' := 132) (vs' := [some (.ref p0), some (.int p1), some (.int p2), some (.int x14), some (.int x15), none, none]) (st' := []) rfl ?_
                  exact h23 x14
        · refine s_run X ok_X12_rivalCells 18 1 (pc' := 53) (vs' := [some (.ref p0), some (.int p1), some (.int p2), none, none, none, none]) (st' := [.int 0]) rfl ?_
          exact s_iret X hr (dk okd_X12_rivalCells 10 rfl) rfl rfl
      · refine s_icmp_ne (tgt := 44) X (dk okd_X12_rivalCells 7 rfl) (by decide) ?_ ?_
        · refine s_run X ok_X12_rivalCells 16 1 (pc' := 45) (vs' := [some (.ref p0), some (.int p1), some (.int p2), none, none, none, none]) (st' := [.int 0, .ref p0]) rfl ?_
          exact h9 0
        · refine s_run X ok_X12_rivalCells 14 2 (pc' := 45) (vs' := [some (.ref p0), some (.int p1), some (.int p2), none, none, none, none]) (st' := [.int 1, .ref p0]) rfl ?_
          exact h9 1
  · refine s_jn (κ := Option (Int32 × St)) (fun k34 => Jd C 7 (QJ C oIS sS) S1 22 [some (.ref p0), some (.int p1), some (.int p2), none, none, none, none] [.ref p0] k34) ?_ (fun k34 h35 => ?_)
    · refine s_run X ok_X12_rivalCells 7 2 (pc' := 27) (vs' := [some (.ref p0), some (.int p1), some (.int p2), none, none, none, none]) (st' := [.int 1, .ref p0]) rfl ?_
      exact h5 1
    · refine s_if_eq (tgt := 22) X (dk okd_X12_rivalCells 2 rfl) (by decide) ?_ ?_
      · exact h35
      · refine s_run X ok_X12_rivalCells 5 2 (pc' := 16) (vs' := [some (.ref p0), some (.int p1), some (.int p2), none, none, none, none]) (st' := [.int p2, .ref p0, .ref p0]) rfl ?_
        refine s_callV (rest := [.ref p0]) X E mv_X12_85 (c_X12_isFranchisee S1 p0 p2) (ta1 t0_) rfl (by decide) t0_ rfl rfl (Nat.le_of_ble_eq_true rfl) (Nat.le_of_ble_eq_true rfl) (Nat.le_of_ble_eq_true rfl) (dk okd_X12_rivalCells 3 rfl) (st' := fun v36 => [.int v36, .ref p0]) (fun _ => rfl) (fun v36 => ?_)
        refine s_if_ne (tgt := 26) X (dk okd_X12_rivalCells 4 rfl) (by decide) ?_ ?_
        · refine s_run X ok_X12_rivalCells 9 1 (pc' := 27) (vs' := [some (.ref p0), some (.int p1), some (.int p2), none, none, none, none]) (st' := [.int 0, .ref p0]) rfl ?_
          exact h5 0
        · exact h35
def tab_X12_cellsBefore : List En := [(0, 0, 0, 0), (1, 10, 3, 0), (2, 0, 0, 0), (3, 11, 4, 0), (5, 5, 4, 0), (7, 2, 0, 900), (13, 4, 3, 0), (14, 8, 0, 0), (18, 2, 0, 250), (21, 5, 4, 0), (23, 17, 0, 0), (25, 4, 1, 0), (26, 31, 0, 0), (27, 40, 0, 0), (31, 4, 2, 0), (32, 1, 0, 100), (37, 5, 4, 0), (39, 1, 0, 30), (42, 4, 2, 0), (46, 41, 61, 0), (49, 5, 4, 0), (51, 1, 0, 30), (54, 4, 2, 0), (55, 1, 0, 100), (57, 18, 0, 0), (61, 0, 0, 1), (62, 41, 66, 0), (65, 0, 0, 0), (66, 17, 0, 0), (67, 10, 3, 0), (68, 16, 4, 1), (71, 41, 5, 0), (74, 4, 3, 0)]
theorem ok_X12_cellsBefore : tab_X12_cellsBefore.all (okE cX12_cellsBefore) = true := by decide +kernel
def ed_X12_cellsBefore : List (Nat × Instr × Nat) := [(10, .if_icmp .ge 64, 3), (15, .getfield 9, 3), (24, .laload, 1), (28, .ifCond .ne 37, 3), (34, .if_icmp .ge 15, 3), (41, .irem, 1), (43, .if_icmp .ge 22, 3), (53, .idiv, 1), (58, .if_icmp .ge 7, 3), (75, .ireturn, 1)]
theorem okd_X12_cellsBefore : ed_X12_cellsBefore.all (okD cX12_cellsBefore) = true := by decide +kernel
def f_X12_cellsBefore (S : St) (p0 : Nat) (p1 : Int32) (p2 : Int32) : Option (Int32) := jn (κ := Int32 → Option (Int32)) (fun x1 => some x1) fun k2 => lp (κ := Int32 → Int32 → Option (Int32)) (fun _ _ => none) (fun k6 x4 x5 => if 900 ≤ x5 then (k2 x4) else (lt (gR S p0 0) fun (a8 : Nat) => ldJ S a8 (250 + x5) fun (v10 : Int64) => jn (κ := Int32 → Option (Int32)) (fun x11 => lt (x4 + x11) fun (v14 : Int32) => k6 v14 (x5 + 1)) fun k12 => jn (κ := Option (Int32)) (k12 0) fun k15 => if v10 = (Int32.toInt64 p1) then (jn (κ := Option (Int32)) (k12 1) fun k17 => if 100 ≤ p2 then (if (p2 - 100) ≤ (x5 / 30) then (k15) else (k17)) else (if p2 ≤ (x5 - x5 / 30 * 30) then (k15) else (k17))) else (k15))) FU 0 0
set_option maxHeartbeats 4000000 in
set_option maxRecDepth 100000 in
theorem c_X12_cellsBefore (S : St) (p0 : Nat) (p1 : Int32) (p2 : Int32) : Ct yX12_cellsBefore cX12_cellsBefore 5 (some .int) 0 0 [.ref p0, .int p1, .int p2] [(p0, 11)] S (f_X12_cellsBefore S p0 p1 p2) oI (fun _ => S) := by
  refine Ct_of RX12 rfl (by decide) (Nat.le_of_ble_eq_true rfl) 2 (vs := [some (.ref p0), some (.int p1), some (.int p2), none, none]) rfl (fun C X E hr ht => ?_)
  have t0_ : tT C p0 11 := ht (p0, 11) (by simp)
  unfold f_X12_cellsBefore
  refine s_run X ok_X12_cellsBefore 0 4 (pc' := 5) (vs' := [some (.ref p0), some (.int p1), some (.int p2), some (.int 0), some (.int 0)]) (st' := []) rfl ?_
  refine s_jn (κ := Int32 → Option (Int32)) (fun k2 => ∀ (x1 : Int32), Jd C 5 (QJ C oI (fun _ => S)) S 74 [none, none, none, some (.int x1), none] [] (k2 x1)) (fun x1 => ?_) (fun k2 h3 => ?_)
  · refine s_run X ok_X12_cellsBefore 32 1 (pc' := 75) (vs' := [none, none, none, some (.int x1), none]) (st' := [.int x1]) rfl ?_
    exact s_iret X hr (dk okd_X12_cellsBefore 9 rfl) rfl rfl
  · refine s_lp (κ := Int32 → Int32 → Option (Int32)) (fun k6 => ∀ (x4 : Int32) (x5 : Int32), Jd C 5 (QJ C oI (fun _ => S)) S 5 [some (.ref p0), some (.int p1), some (.int p2), some (.int x4), some (.int x5)] [] (k6 x4 x5)) (fun _ _ => s_none) (fun k6 h7 x4 x5 => ?_) FU 0 0
    refine s_run X ok_X12_cellsBefore 4 2 (pc' := 10) (vs' := [some (.ref p0), some (.int p1), some (.int p2), some (.int x4), some (.int x5)]) (st' := [.int 900, .int x5]) rfl ?_
    refine s_icmp_ge (tgt := 74) X (dk okd_X12_cellsBefore 0 rfl) (by decide) ?_ ?_
    · exact s_less [false, false, false, true, false] rfl (h3 x4)
    · refine s_run X ok_X12_cellsBefore 6 2 (pc' := 15) (vs' := [some (.ref p0), some (.int p1), some (.int p2), some (.int x4), some (.int x5)]) (st' := [.ref p0, .int x4]) rfl ?_
      refine s_getR X fl_X12_9 t0_ (dk okd_X12_cellsBefore 1 rfl) (fun a8 (t9 : tT C a8 14) => ?_)
      refine s_run X ok_X12_cellsBefore 8 3 (pc' := 24) (vs' := [some (.ref p0), some (.int p1), some (.int p2), some (.int x4), some (.int x5)]) (st' := [.int (250 + x5), .ref a8, .int x4]) rfl ?_
      refine s_lald X t9 (dk okd_X12_cellsBefore 2 rfl) (fun v10 => ?_)
      refine s_run X ok_X12_cellsBefore 11 3 (pc' := 28) (vs' := [some (.ref p0), some (.int p1), some (.int p2), some (.int x4), some (.int x5)]) (st' := [.int (lg_cmp v10 (Int32.toInt64 p1)), .int x4]) rfl ?_
      refine s_jn (κ := Int32 → Option (Int32)) (fun k12 => ∀ (x11 : Int32), Jd C 5 (QJ C oI (fun _ => S)) S 66 [some (.ref p0), some (.int p1), some (.int p2), none, some (.int x5)] [.int x11, .int x4] (k12 x11)) (fun x11 => ?_) (fun k12 h13 => ?_)
      · refine s_run X ok_X12_cellsBefore 28 1 (pc' := 67) (vs' := [some (.ref p0), some (.int p1), some (.int p2), none, some (.int x5)]) (st' := [.int (x4 + x11)]) rfl ?_
        refine s_nmI (fun v14 => ?_)
        refine s_run X ok_X12_cellsBefore 29 3 (pc' := 5) (vs' := [some (.ref p0), some (.int p1), some (.int p2), some (.int v14), some (.int (x5 + 1))]) (st' := []) rfl ?_
        exact h7 v14 (x5 + 1)
      · refine s_jn (κ := Option (Int32)) (fun k15 => Jd C 5 (QJ C oI (fun _ => S)) S 65 [some (.ref p0), some (.int p1), some (.int p2), none, some (.int x5)] [.int x4] k15) ?_ (fun k15 h16 => ?_)
        · refine s_run X ok_X12_cellsBefore 27 1 (pc' := 66) (vs' := [some (.ref p0), some (.int p1), some (.int p2), none, some (.int x5)]) (st' := [.int 0, .int x4]) rfl ?_
          exact h13 0
        · refine s_lif_ne (tgt := 65) X (dk okd_X12_cellsBefore 3 rfl) (by decide) ?_ ?_
          · exact s_less [true, true, true, false, true] rfl (h16)
          · refine s_run X ok_X12_cellsBefore 14 2 (pc' := 34) (vs' := [some (.ref p0), some (.int p1), some (.int p2), some (.int x4), some (.int x5)]) (st' := [.int 100, .int p2, .int x4]) rfl ?_
            refine s_jn (κ := Option (Int32)) (fun k17 => Jd C 5 (QJ C oI (fun _ => S)) S 61 [some (.ref p0), some (.int p1), some (.int p2), none, some (.int x5)] [.int x4] k17) ?_ (fun k17 h18 => ?_)
            · refine s_run X ok_X12_cellsBefore 25 2 (pc' := 66) (vs' := [some (.ref p0), some (.int p1), some (.int p2), none, some (.int x5)]) (st' := [.int 1, .int x4]) rfl ?_
              exact h13 1
            · refine s_icmp_ge (tgt := 49) X (dk okd_X12_cellsBefore 4 rfl) (by decide) ?_ ?_
              · refine s_run X ok_X12_cellsBefore 20 2 (pc' := 53) (vs' := [some (.ref p0), some (.int p1), some (.int p2), some (.int x4), some (.int x5)]) (st' := [.int 30, .int x5, .int x4]) rfl ?_
                refine s_idiv0 X (dk okd_X12_cellsBefore 7 rfl) (by decide) ?_
                refine s_run X ok_X12_cellsBefore 22 3 (pc' := 58) (vs' := [some (.ref p0), some (.int p1), some (.int p2), some (.int x4), some (.int x5)]) (st' := [.int (p2 - 100), .int (x5 / 30), .int x4]) rfl ?_
                refine s_icmp_ge (tgt := 65) X (dk okd_X12_cellsBefore 8 rfl) (by decide) ?_ ?_
                · exact s_less [true, true, true, false, true] rfl (h16)
                · exact s_less [true, true, true, false, true] rfl (h18)
              · refine s_run X ok_X12_cellsBefore 16 2 (pc' := 41) (vs' := [some (.ref p0), some (.int p1), some (.int p2), some (.int x4), some (.int x5)]) (st' := [.int 30, .int x5, .int x4]) rfl ?_
                refine s_irem0 X (dk okd_X12_cellsBefore 5 rfl) (by decide) ?_
                refine s_run X ok_X12_cellsBefore 18 1 (pc' := 43) (vs' := [some (.ref p0), some (.int p1), some (.int p2), some (.int x4), some (.int x5)]) (st' := [.int p2, .int (x5 - x5 / 30 * 30), .int x4]) rfl ?_
                refine s_icmp_ge (tgt := 65) X (dk okd_X12_cellsBefore 6 rfl) (by decide) ?_ ?_
                · exact s_less [true, true, true, false, true] rfl (h16)
                · refine s_run X ok_X12_cellsBefore 19 1 (pc' := 61) (vs' := [some (.ref p0), some (.int p1), some (.int p2), some (.int x4), some (.int x5)]) (st' := [.int x4]) rfl ?_
                  exact s_less [true, true, true, false, true] rfl (h18)
def tab_X12_halvingLine : List En := [(0, 8, 0, 0), (1, 0, 0, 0), (5, 8, 0, 0), (6, 8, 0, 0), (7, 4, 1, 0), (14, 0, 0, 1), (15, 41, 19, 0), (18, 0, 0, 0), (19, 0, 0, 1), (26, 0, 0, 0), (28, 8, 0, 0), (29, 4, 1, 0), (33, 10, 2, 0), (34, 0, 0, (-1)), (35, 10, 3, 0), (36, 0, 0, 0), (37, 11, 4, 0), (39, 0, 0, 0), (40, 11, 5, 0), (42, 5, 5, 0), (44, 1, 0, 58), (49, 4, 2, 0), (53, 5, 5, 0), (55, 1, 0, 29), (60, 5, 5, 0), (62, 0, 0, 1), (63, 17, 0, 0), (64, 41, 75, 0), (67, 1, 0, 100), (69, 5, 5, 0), (71, 17, 0, 0), (72, 1, 0, 28), (74, 18, 0, 0), (75, 11, 6, 0), (77, 4, 2, 0), (78, 0, 0, 2), (79, 8, 0, 0), (80, 4, 1, 0), (81, 5, 6, 0), (86, 19, 0, 0), (87, 18, 0, 0), (91, 11, 7, 0), (93, 4, 3, 0), (94, 0, 0, (-1)), (98, 5, 7, 0), (100, 5, 4, 0), (105, 41, 115, 0), (108, 5, 6, 0), (110, 10, 3, 0), (111, 5, 7, 0), (113, 11, 4, 0), (115, 16, 5, 1), (118, 41, 42, 0), (121, 4, 3, 0)]
theorem ok_X12_halvingLine : tab_X12_halvingLine.all (okE cX12_halvingLine) = true := by decide +kernel
def ed_X12_halvingLine : List (Nat × Instr × Nat) := [(2, .putfield 50, 3), (8, .invokevirtual 85, 3), (11, .ifCond .ne 7, 3), (20, .invokevirtual 81, 3), (23, .ifCond .eq 5, 3), (27, .ireturn, 1), (30, .invokevirtual 89, 3), (46, .if_icmp .ge 75, 3), (50, .ifCond .le 71, 3), (57, .if_icmp .ge 10, 3), (83, .invokevirtual 157, 3), (88, .invokestatic 107, 3), (95, .if_icmp .eq 13, 3), (102, .if_icmp .lt 6, 3), (122, .ireturn, 1)]
theorem okd_X12_halvingLine : ed_X12_halvingLine.all (okD cX12_halvingLine) = true := by decide +kernel
def f_X12_halvingLine (S : St) (p0 : Nat) (p1 : Int32) : Option (Int32 × St) := lt (uI S p0 2 0) fun (S1 : St) => cl (f_X12_isFranchisee S1 p0 p1) fun (v2 : Int32) => jn (κ := Int32 → Option (Int32 × St)) (fun x3 => cl (f_X12_throwsIf S1 p0 x3 1) fun (o6 : Int32 × St) => if o6.1 = 0 then (cl (f_X12_areaOf o6.2 p0 p1) fun (v7 : Int32) => jn (κ := Int32 → Option (Int32 × St)) (fun x8 => some (x8, o6.2)) fun k9 => lp (κ := Int32 → Int32 → Int32 → Option (Int32 × St)) (fun _ _ _ => none) (fun k14 x11 x12 x13 => if 58 ≤ x13 then (k9 x11) else (if v7 ≤ 0 then (k9 x11) else (jn (κ := Int32 → Option (Int32 × St)) (fun x16 => cl (f_X12_cellsBefore o6.2 p0 p1 x16) fun (v19 : Int32) => cl (f_X12_size o6.2 (v7 - (2 * v19))) fun (v20 : Int32) => jn (κ := Int32 → Int32 → Option (Int32 × St)) (fun x21 x22 => k14 x21 x22 (x13 + 1)) fun k23 => jn (κ := Option (Int32 × St)) (k23 x16 v20) fun k25 => if x11 = (-1) then (k25) else (if v20 < x12 then (k25) else (k23 x11 x12))) fun k17 => if 29 ≤ x13 then (k17 ((100 + x13) - 28)) else (k17 (x13 + 1))))) FU (-1) 0 0) else (some (0, o6.2))) fun k4 => if v2 = 0 then (k4 1) else (k4 0)
set_option maxHeartbeats 4000000 in
set_option maxRecDepth 100000 in
theorem c_X12_halvingLine (S : St) (p0 : Nat) (p1 : Int32) : Ct yX12_halvingLine cX12_halvingLine 8 (some .int) 2 46 [.ref p0, .int p1] [(p0, 11)] S (f_X12_halvingLine S p0 p1) oIS sS := by
  refine Ct_of RX12 rfl (by decide) (Nat.le_of_ble_eq_true rfl) 6 (vs := [some (.ref p0), some (.int p1), none, none, none, none, none, none]) rfl (fun C X E hr ht => ?_)
  have t0_ : tT C p0 11 := ht (p0, 11) (by simp)
  unfold f_X12_halvingLine
  refine s_run X ok_X12_halvingLine 0 2 (pc' := 2) (vs' := [some (.ref p0), some (.int p1), none, none, none, none, none, none]) (st' := [.int 0, .ref p0]) rfl ?_
  refine s_putI X fp_X12_50 t0_ (dk okd_X12_halvingLine 0 rfl) (fun S1 => ?_)
  refine s_run X ok_X12_halvingLine 2 3 (pc' := 8) (vs' := [some (.ref p0), some (.int p1), none, none, none, none, none, none]) (st' := [.int p1, .ref p0, .ref p0]) rfl ?_
  refine s_callV (rest := [.ref p0]) X E mv_X12_85 (c_X12_isFranchisee S1 p0 p1) (ta1 t0_) rfl (by decide) t0_ rfl rfl (Nat.le_of_ble_eq_true rfl) (Nat.le_of_ble_eq_true rfl) (Nat.le_of_ble_eq_true rfl) (dk okd_X12_halvingLine 1 rfl) (st' := fun v2 => [.int v2, .ref p0]) (fun _ => rfl) (fun v2 => ?_)
  refine s_jn (κ := Int32 → Option (Int32 × St)) (fun k4 => ∀ (x3 : Int32), Jd C 8 (QJ C oIS sS) S1 19 [some (.ref p0), some (.int p1), none, none, none, none, none, none] [.int x3, .ref p0] (k4 x3)) (fun x3 => ?_) (fun k4 h5 => ?_)
  · refine s_run X ok_X12_halvingLine 8 1 (pc' := 20) (vs' := [some (.ref p0), some (.int p1), none, none, none, none, none, none]) (st' := [.int 1, .int x3, .ref p0]) rfl ?_
    refine s_callV (rest := []) X E mv_X12_81 (c_X12_throwsIf S1 p0 x3 1) (ta1 t0_) rfl (by decide) t0_ rfl rfl (Nat.le_of_ble_eq_true rfl) (Nat.le_of_ble_eq_true rfl) (Nat.le_of_ble_eq_true rfl) (dk okd_X12_halvingLine 3 rfl) (st' := fun o6 => [.int o6.1]) (fun _ => rfl) (fun o6 => ?_)
    refine s_if_eq (tgt := 28) X (dk okd_X12_halvingLine 4 rfl) (by decide) ?_ ?_
    · refine s_run X ok_X12_halvingLine 10 2 (pc' := 30) (vs' := [some (.ref p0), some (.int p1), none, none, none, none, none, none]) (st' := [.int p1, .ref p0]) rfl ?_
      refine s_callV (rest := []) X E mv_X12_89 (c_X12_areaOf o6.2 p0 p1) (ta1 t0_) rfl (by decide) t0_ rfl rfl (Nat.le_of_ble_eq_true rfl) (Nat.le_of_ble_eq_true rfl) (Nat.le_of_ble_eq_true rfl) (dk okd_X12_halvingLine 6 rfl) (st' := fun v7 => [.int v7]) (fun _ => rfl) (fun v7 => ?_)
      refine s_run X ok_X12_halvingLine 12 7 (pc' := 42) (vs' := [some (.ref p0), some (.int p1), some (.int v7), some (.int (-1)), some (.int 0), some (.int 0), none, none]) (st' := []) rfl ?_
      refine s_jn (κ := Int32 → Option (Int32 × St)) (fun k9 => ∀ (x8 : Int32), Jd C 8 (QJ C oIS sS) o6.2 121 [none, none, none, some (.int x8), none, none, none, none] [] (k9 x8)) (fun x8 => ?_) (fun k9 h10 => ?_)
      · refine s_run X ok_X12_halvingLine 53 1 (pc' := 122) (vs' := [none, none, none, some (.int x8), none, none, none, none]) (st' := [.int x8]) rfl ?_
        exact s_iret X hr (dk okd_X12_halvingLine 14 rfl) rfl rfl
      · refine s_lp (κ := Int32 → Int32 → Int32 → Option (Int32 × St)) (fun k14 => ∀ (x11 : Int32) (x12 : Int32) (x13 : Int32), Jd C 8 (QJ C oIS sS) o6.2 42 [some (.ref p0), some (.int p1), some (.int v7), some (.int x11), some (.int x12), some (.int x13), none, none] [] (k14 x11 x12 x13)) (fun _ _ _ => s_none) (fun k14 h15 x11 x12 x13 => ?_) FU (-1) 0 0
        refine s_run X ok_X12_halvingLine 19 2 (pc' := 46) (vs' := [some (.ref p0), some (.int p1), some (.int v7), some (.int x11), some (.int x12), some (.int x13), none, none]) (st' := [.int 58, .int x13]) rfl ?_
        refine s_icmp_ge (tgt := 121) X (dk okd_X12_halvingLine 7 rfl) (by decide) ?_ ?_
        · exact s_less [false, false, false, true, false, false, false, false] rfl (h10 x11)
        · refine s_run X ok_X12_halvingLine 21 1 (pc' := 50) (vs' := [some (.ref p0), some (.int p1), some (.int v7), some (.int x11), some (.int x12), some (.int x13), none, none]) (st' := [.int v7]) rfl ?_
          refine s_if_le (tgt := 121) X (dk okd_X12_halvingLine 8 rfl) (by decide) ?_ ?_
          · exact s_less [false, false, false, true, false, false, false, false] rfl (h10 x11)
          · refine s_run X ok_X12_halvingLine 22 2 (pc' := 57) (vs' := [some (.ref p0), some (.int p1), some (.int v7), some (.int x11), some (.int x12), some (.int x13), none, none]) (st' := [.int 29, .int x13]) rfl ?_
            refine s_jn (κ := Int32 → Option (Int32 × St)) (fun k17 => ∀ (x16 : Int32), Jd C 8 (QJ C oIS sS) o6.2 75 [some (.ref p0), some (.int p1), some (.int v7), some (.int x11), some (.int x12), some (.int x13), none, none] [.int x16] (k17 x16)) (fun x16 => ?_) (fun k17 h18 => ?_)
            · refine s_run X ok_X12_halvingLine 33 6 (pc' := 83) (vs' := [some (.ref p0), some (.int p1), some (.int v7), some (.int x11), some (.int x12), some (.int x13), some (.int x16), none]) (st' := [.int x16, .int p1, .ref p0, .int 2, .int v7]) rfl ?_
              refine s_callV (rest := [.int 2, .int v7]) X E mv_X12_157 (c_X12_cellsBefore o6.2 p0 p1 x16) (ta1 t0_) rfl (by decide) t0_ rfl rfl (Nat.le_of_ble_eq_true rfl) (Nat.le_of_ble_eq_true rfl) (Nat.le_of_ble_eq_true rfl) (dk okd_X12_halvingLine 10 rfl) (st' := fun v19 => [.int v19, .int 2, .int v7]) (fun _ => rfl) (fun v19 => ?_)
              refine s_run X ok_X12_halvingLine 39 2 (pc' := 88) (vs' := [some (.ref p0), some (.int p1), some (.int v7), some (.int x11), some (.int x12), some (.int x13), some (.int x16), none]) (st' := [.int (v7 - (2 * v19))]) rfl ?_
              refine s_callS (rest := []) X E ms_X12_107 (c_X12_size o6.2 (v7 - (2 * v19))) (ta0) rfl rfl (Nat.le_of_ble_eq_true rfl) (Nat.le_of_ble_eq_true rfl) (Nat.le_of_ble_eq_true rfl) (dk okd_X12_halvingLine 11 rfl) (st' := fun v20 => [.int v20]) (fun _ => rfl) (fun v20 => ?_)
              refine s_run X ok_X12_halvingLine 41 3 (pc' := 95) (vs' := [some (.ref p0), some (.int p1), some (.int v7), some (.int x11), some (.int x12), some (.int x13), some (.int x16), some (.int v20)]) (st' := [.int (-1), .int x11]) rfl ?_
              refine s_jn (κ := Int32 → Int32 → Option (Int32 × St)) (fun k23 => ∀ (x21 : Int32) (x22 : Int32), Jd C 8 (QJ C oIS sS) o6.2 115 [some (.ref p0), some (.int p1), some (.int v7), some (.int x21), some (.int x22), some (.int x13), none, none] [] (k23 x21 x22)) (fun x21 x22 => ?_) (fun k23 h24 => ?_)
              · refine s_run X ok_X12_halvingLine 51 2 (pc' := 42) (vs' := [some (.ref p0), some (.int p1), some (.int v7), some (.int x21), some (.int x22), some (.int (x13 + 1)), none, none]) (st' := []) rfl ?_
                exact h15 x21 x22 (x13 + 1)
              · refine s_jn (κ := Option (Int32 × St)) (fun k25 => Jd C 8 (QJ C oIS sS) o6.2 108 [some (.ref p0), some (.int p1), some (.int v7), none, none, some (.int x13), some (.int x16), some (.int v20)] [] k25) ?_ (fun k25 h26 => ?_)
                · refine s_run X ok_X12_halvingLine 47 4 (pc' := 115) (vs' := [some (.ref p0), some (.int p1), some (.int v7), some (.int x16), some (.int v20), some (.int x13), some (.int x16), some (.int v20)]) (st' := []) rfl ?_
                  exact s_less [true, true, true, true, true, true, false, false] rfl (h24 x16 v20)
                · refine s_icmp_eq (tgt := 108) X (dk okd_X12_halvingLine 12 rfl) (by decide) ?_ ?_
                  · exact s_less [true, true, true, false, false, true, true, true] rfl (h26)
                  · refine s_run X ok_X12_halvingLine 44 2 (pc' := 102) (vs' := [some (.ref p0), some (.int p1), some (.int v7), some (.int x11), some (.int x12), some (.int x13), some (.int x16), some (.int v20)]) (st' := [.int x12, .int v20]) rfl ?_
                    refine s_icmp_lt (tgt := 108) X (dk okd_X12_halvingLine 13 rfl) (by decide) ?_ ?_
                    · exact s_less [true, true, true, false, false, true, true, true] rfl (h26)
                    · refine s_run X ok_X12_halvingLine 46 1 (pc' := 115) (vs' := [some (.ref p0), some (.int p1), some (.int v7), some (.int x11), some (.int x12), some (.int x13), some (.int x16), some (.int v20)]) (st' := []) rfl ?_
                      exact s_less [true, true, true, true, true, true, false, false] rfl (h24 x11 x12)
            · refine s_icmp_ge (tgt := 67) X (dk okd_X12_halvingLine 9 rfl) (by decide) ?_ ?_
              · refine s_run X ok_X12_halvingLine 28 5 (pc' := 75) (vs' := [some (.ref p0), some (.int p1), some (.int v7), some (.int x11), some (.int x12), some (.int x13), none, none]) (st' := [.int ((100 + x13) - 28)]) rfl ?_
                exact h18 ((100 + x13) - 28)
              · refine s_run X ok_X12_halvingLine 24 4 (pc' := 75) (vs' := [some (.ref p0), some (.int p1), some (.int v7), some (.int x11), some (.int x12), some (.int x13), none, none]) (st' := [.int (x13 + 1)]) rfl ?_
                exact h18 (x13 + 1)
    · refine s_run X ok_X12_halvingLine 9 1 (pc' := 27) (vs' := [some (.ref p0), some (.int p1), none, none, none, none, none, none]) (st' := [.int 0]) rfl ?_
      exact s_iret X hr (dk okd_X12_halvingLine 5 rfl) rfl rfl
  · refine s_if_ne (tgt := 18) X (dk okd_X12_halvingLine 2 rfl) (by decide) ?_ ?_
    · refine s_run X ok_X12_halvingLine 7 1 (pc' := 19) (vs' := [some (.ref p0), some (.int p1), none, none, none, none, none, none]) (st' := [.int 0, .ref p0]) rfl ?_
      exact h5 0
    · refine s_run X ok_X12_halvingLine 5 2 (pc' := 19) (vs' := [some (.ref p0), some (.int p1), none, none, none, none, none, none]) (st' := [.int 1, .ref p0]) rfl ?_
      exact h5 1
def tab_X12_ofPlan : List En := [(0, 8, 0, 0), (4, 1, 0, 14), (6, 1, 0, 11), (8, 4, 1, 0), (9, 19, 0, 0), (10, 17, 0, 0), (11, 4, 2, 0), (12, 17, 0, 0)]
theorem ok_X12_ofPlan : tab_X12_ofPlan.all (okE cX12_ofPlan) = true := by decide +kernel
def ed_X12_ofPlan : List (Nat × Instr × Nat) := [(1, .getfield 9, 3), (13, .laload, 1), (14, .lreturn, 1)]
theorem okd_X12_ofPlan : ed_X12_ofPlan.all (okD cX12_ofPlan) = true := by decide +kernel
def f_X12_ofPlan (S : St) (p0 : Nat) (p1 : Int32) (p2 : Int32) : Option (Int64) := lt (gR S p0 0) fun (a1 : Nat) => ldJ S a1 ((14 + (11 * p1)) + p2) fun (v3 : Int64) => some v3
set_option maxHeartbeats 4000000 in
set_option maxRecDepth 100000 in
theorem c_X12_ofPlan (S : St) (p0 : Nat) (p1 : Int32) (p2 : Int32) : Ct yX12_ofPlan cX12_ofPlan 3 (some .long) 0 0 [.ref p0, .int p1, .int p2] [(p0, 11)] S (f_X12_ofPlan S p0 p1 p2) oL (fun _ => S) := by
  refine Ct_of RX12 rfl (by decide) (Nat.le_of_ble_eq_true rfl) 0 (vs := [some (.ref p0), some (.int p1), some (.int p2)]) rfl (fun C X E hr ht => ?_)
  have t0_ : tT C p0 11 := ht (p0, 11) (by simp)
  unfold f_X12_ofPlan
  refine s_run X ok_X12_ofPlan 0 1 (pc' := 1) (vs' := [some (.ref p0), some (.int p1), some (.int p2)]) (st' := [.ref p0]) rfl ?_
  refine s_getR X fl_X12_9 t0_ (dk okd_X12_ofPlan 0 rfl) (fun a1 (t2 : tT C a1 14) => ?_)
  refine s_run X ok_X12_ofPlan 1 7 (pc' := 13) (vs' := [some (.ref p0), some (.int p1), some (.int p2)]) (st' := [.int ((14 + (11 * p1)) + p2), .ref a1]) rfl ?_
  refine s_lald X t2 (dk okd_X12_ofPlan 1 rfl) (fun v3 => ?_)
  exact s_lret X hr (dk okd_X12_ofPlan 2 rfl) rfl rfl
def tab_X12_half : List En := [(0, 6, 0, 0), (4, 23, 0, 0)]
theorem ok_X12_half : tab_X12_half.all (okE cX12_half) = true := by decide +kernel
def ed_X12_half : List (Nat × Instr × Nat) := [(1, .ldc2_w 160, 3), (5, .ldc2_w 162, 3), (8, .ldiv, 1), (9, .lreturn, 1)]
theorem okd_X12_half : ed_X12_half.all (okD cX12_half) = true := by decide +kernel
def f_X12_half (S : St) (p0 : Int64) : Option (Int64) := some ((p0 + 5000) / 10000)
set_option maxHeartbeats 4000000 in
set_option maxRecDepth 100000 in
theorem c_X12_half (S : St) (p0 : Int64) : Ct yX12_half cX12_half 2 (some .long) 0 0 [.long p0] [] S (f_X12_half S p0) oL (fun _ => S) := by
  refine Ct_of RX12 rfl (by decide) (Nat.le_of_ble_eq_true rfl) 0 (vs := [some (.long p0), none]) rfl (fun C X E hr ht => ?_)
  unfold f_X12_half
  refine s_run X ok_X12_half 0 1 (pc' := 1) (vs' := [some (.long p0), none]) (st' := [.long p0]) rfl ?_
  refine s_ldc2 X cl_X12_160 (dk okd_X12_half 0 rfl) ?_
  refine s_run X ok_X12_half 1 1 (pc' := 5) (vs' := [some (.long p0), none]) (st' := [.long (p0 + 5000)]) rfl ?_
  refine s_ldc2 X cl_X12_162 (dk okd_X12_half 1 rfl) ?_
  refine s_ldiv0 X (dk okd_X12_half 2 rfl) (by decide) ?_
  exact s_lret X hr (dk okd_X12_half 3 rfl) rfl rfl
def tab_X12_rated : List En := [(0, 6, 0, 0), (1, 6, 2, 0), (2, 25, 0, 0)]
theorem ok_X12_rated : tab_X12_rated.all (okE cX12_rated) = true := by decide +kernel
def ed_X12_rated : List (Nat × Instr × Nat) := [(3, .invokestatic 164, 3), (6, .lreturn, 1)]
theorem okd_X12_rated : ed_X12_rated.all (okD cX12_rated) = true := by decide +kernel
def f_X12_rated (S : St) (p0 : Int64) (p1 : Int64) : Option (Int64) := cl (f_X12_half S (p0 * p1)) fun (v1 : Int64) => some v1
set_option maxHeartbeats 4000000 in
set_option maxRecDepth 100000 in
theorem c_X12_rated (S : St) (p0 : Int64) (p1 : Int64) : Ct yX12_rated cX12_rated 4 (some .long) 1 21 [.long p0, .long p1] [] S (f_X12_rated S p0 p1) oL (fun _ => S) := by
  refine Ct_of RX12 rfl (by decide) (Nat.le_of_ble_eq_true rfl) 0 (vs := [some (.long p0), none, some (.long p1), none]) rfl (fun C X E hr ht => ?_)
  unfold f_X12_rated
  refine s_run X ok_X12_rated 0 3 (pc' := 3) (vs' := [some (.long p0), none, some (.long p1), none]) (st' := [.long (p0 * p1)]) rfl ?_
  refine s_callS (rest := []) X E ms_X12_164 (c_X12_half S (p0 * p1)) (ta0) rfl rfl (Nat.le_of_ble_eq_true rfl) (Nat.le_of_ble_eq_true rfl) (Nat.le_of_ble_eq_true rfl) (dk okd_X12_rated 0 rfl) (st' := fun v1 => [.long v1]) (fun _ => rfl) (fun v1 => ?_)
  exact s_lret X hr (dk okd_X12_rated 1 rfl) rfl rfl
def tab_X12_royaltyOf : List En := [(0, 3, 0, 0), (1, 13, 4, 0), (3, 3, 0, 0), (4, 13, 6, 0), (6, 8, 0, 0), (7, 4, 1, 0), (8, 0, 0, 1), (12, 13, 8, 0), (14, 0, 0, 0), (15, 11, 10, 0), (17, 5, 10, 0), (19, 31, 0, 0), (20, 8, 0, 0), (21, 4, 1, 0), (22, 0, 0, 2), (26, 40, 0, 0), (30, 5, 10, 0), (32, 31, 0, 0), (33, 8, 0, 0), (34, 4, 1, 0), (35, 0, 0, 2), (39, 40, 0, 0), (43, 0, 0, 1), (44, 41, 48, 0), (47, 0, 0, 0), (48, 11, 11, 0), (50, 5, 11, 0), (55, 6, 2, 0), (56, 41, 68, 0), (59, 8, 0, 0), (60, 4, 1, 0), (61, 0, 0, 3), (62, 5, 10, 0), (64, 17, 0, 0), (68, 13, 12, 0), (70, 7, 12, 0), (72, 6, 2, 0), (73, 40, 0, 0), (77, 7, 12, 0), (79, 41, 83, 0), (82, 6, 2, 0), (83, 13, 12, 0), (85, 7, 12, 0), (87, 7, 6, 0), (89, 40, 0, 0), (93, 7, 4, 0), (95, 7, 12, 0), (97, 7, 6, 0), (99, 24, 0, 0), (100, 7, 8, 0), (102, 25, 0, 0), (103, 23, 0, 0), (104, 13, 4, 0), (106, 5, 11, 0), (111, 41, 137, 0), (114, 8, 0, 0), (115, 4, 1, 0), (116, 0, 0, 3), (117, 5, 10, 0), (119, 17, 0, 0), (123, 13, 6, 0), (125, 8, 0, 0), (126, 4, 1, 0), (127, 1, 0, 7), (129, 5, 10, 0), (131, 17, 0, 0), (135, 13, 8, 0), (137, 16, 10, 1), (140, 41, 17, 0), (143, 7, 4, 0)]
theorem ok_X12_royaltyOf : tab_X12_royaltyOf.all (okE cX12_royaltyOf) = true := by decide +kernel
def ed_X12_royaltyOf : List (Nat × Instr × Nat) := [(9, .invokevirtual 168, 3), (23, .invokevirtual 168, 3), (27, .ifCond .gt 116, 3), (36, .invokevirtual 168, 3), (40, .ifCond .ne 7, 3), (52, .ifCond .eq 7, 3), (65, .invokevirtual 168, 3), (74, .ifCond .ge 8, 3), (90, .ifCond .le 16, 3), (108, .ifCond .eq 6, 3), (120, .invokevirtual 168, 3), (132, .invokevirtual 168, 3), (145, .invokestatic 164, 3), (148, .lreturn, 1)]
theorem okd_X12_royaltyOf : ed_X12_royaltyOf.all (okD cX12_royaltyOf) = true := by decide +kernel
def f_X12_royaltyOf (S : St) (p0 : Nat) (p1 : Int32) (p2 : Int64) : Option (Int64) := cl (f_X12_ofPlan S p0 p1 1) fun (v1 : Int64) => jn (κ := Int64 → Option (Int64)) (fun x2 => cl (f_X12_half S x2) fun (v5 : Int64) => some v5) fun k3 => lp (κ := Int64 → Int64 → Int64 → Int32 → Option (Int64)) (fun _ _ _ _ => none) (fun k10 x6 x7 x8 x9 => cl (f_X12_ofPlan S p0 p1 2) fun (v12 : Int64) => if v12 < (Int32.toInt64 x9) then (k3 x6) else (cl (f_X12_ofPlan S p0 p1 2) fun (v13 : Int64) => jn (κ := Int32 → Option (Int64)) (fun x14 => jn (κ := Int64 → Option (Int64)) (fun x17 => jn (κ := Int64 → Option (Int64)) (fun x20 => jn (κ := Int64 → Option (Int64)) (fun x23 => jn (κ := Int64 → Int64 → Option (Int64)) (fun x26 x27 => k10 x23 x26 x27 (x9 + 1)) fun k28 => if x14 = 0 then (cl (f_X12_ofPlan S p0 p1 (3 + x9)) fun (v30 : Int64) => cl (f_X12_ofPlan S p0 p1 (7 + x9)) fun (v31 : Int64) => k28 v30 v31) else (k28 x7 x8)) fun k24 => if x20 ≤ x7 then (k24 x6) else (lt (x6 + ((x20 - x7) * x8)) fun (v32 : Int64) => k24 v32)) fun k21 => if p2 ≤ x17 then (k21 p2) else (k21 x17)) fun k18 => if x14 = 0 then (cl (f_X12_ofPlan S p0 p1 (3 + x9)) fun (v33 : Int64) => k18 v33) else (k18 p2)) fun k15 => if (Int32.toInt64 x9) = v13 then (k15 1) else (k15 0))) FU 0 0 v1 0
set_option maxHeartbeats 4000000 in
set_option maxRecDepth 100000 in
theorem c_X12_royaltyOf (S : St) (p0 : Nat) (p1 : Int32) (p2 : Int64) : Ct yX12_royaltyOf cX12_royaltyOf 14 (some .long) 1 22 [.ref p0, .int p1, .long p2] [(p0, 11)] S (f_X12_royaltyOf S p0 p1 p2) oL (fun _ => S) := by
  refine Ct_of RX12 rfl (by decide) (Nat.le_of_ble_eq_true rfl) 10 (vs := [some (.ref p0), some (.int p1), some (.long p2), none, none, none, none, none, none, none, none, none, none, none]) rfl (fun C X E hr ht => ?_)
  have t0_ : tT C p0 11 := ht (p0, 11) (by simp)
  unfold f_X12_royaltyOf
  refine s_run X ok_X12_royaltyOf 0 7 (pc' := 9) (vs' := [some (.ref p0), some (.int p1), some (.long p2), none, some (.long 0), none, some (.long 0), none, none, none, none, none, none, none]) (st' := [.int 1, .int p1, .ref p0]) rfl ?_
  refine s_callV (rest := []) X E mv_X12_168 (c_X12_ofPlan S p0 p1 1) (ta1 t0_) rfl (by decide) t0_ rfl rfl (Nat.le_of_ble_eq_true rfl) (Nat.le_of_ble_eq_true rfl) (Nat.le_of_ble_eq_true rfl) (dk okd_X12_royaltyOf 0 rfl) (st' := fun v1 => [.long v1]) (fun _ => rfl) (fun v1 => ?_)
  refine s_run X ok_X12_royaltyOf 7 3 (pc' := 17) (vs' := [some (.ref p0), some (.int p1), some (.long p2), none, some (.long 0), none, some (.long 0), none, some (.long v1), none, some (.int 0), none, none, none]) (st' := []) rfl ?_
  refine s_jn (κ := Int64 → Option (Int64)) (fun k3 => ∀ (x2 : Int64), Jd C 14 (QJ C oL (fun _ => S)) S 143 [none, none, none, none, some (.long x2), none, none, none, none, none, none, none, none, none] [] (k3 x2)) (fun x2 => ?_) (fun k3 h4 => ?_)
  · refine s_run X ok_X12_royaltyOf 69 1 (pc' := 145) (vs' := [none, none, none, none, some (.long x2), none, none, none, none, none, none, none, none, none]) (st' := [.long x2]) rfl ?_
    refine s_callS (rest := []) X E ms_X12_164 (c_X12_half S x2) (ta0) rfl rfl (Nat.le_of_ble_eq_true rfl) (Nat.le_of_ble_eq_true rfl) (Nat.le_of_ble_eq_true rfl) (dk okd_X12_royaltyOf 12 rfl) (st' := fun v5 => [.long v5]) (fun _ => rfl) (fun v5 => ?_)
    exact s_lret X hr (dk okd_X12_royaltyOf 13 rfl) rfl rfl
  · refine s_lp (κ := Int64 → Int64 → Int64 → Int32 → Option (Int64)) (fun k10 => ∀ (x6 : Int64) (x7 : Int64) (x8 : Int64) (x9 : Int32), Jd C 14 (QJ C oL (fun _ => S)) S 17 [some (.ref p0), some (.int p1), some (.long p2), none, some (.long x6), none, some (.long x7), none, some (.long x8), none, some (.int x9), none, none, none] [] (k10 x6 x7 x8 x9)) (fun _ _ _ _ => s_none) (fun k10 h11 x6 x7 x8 x9 => ?_) FU 0 0 v1 0
    refine s_run X ok_X12_royaltyOf 10 5 (pc' := 23) (vs' := [some (.ref p0), some (.int p1), some (.long p2), none, some (.long x6), none, some (.long x7), none, some (.long x8), none, some (.int x9), none, none, none]) (st' := [.int 2, .int p1, .ref p0, .long (Int32.toInt64 x9)]) rfl ?_
    refine s_callV (rest := [.long (Int32.toInt64 x9)]) X E mv_X12_168 (c_X12_ofPlan S p0 p1 2) (ta1 t0_) rfl (by decide) t0_ rfl rfl (Nat.le_of_ble_eq_true rfl) (Nat.le_of_ble_eq_true rfl) (Nat.le_of_ble_eq_true rfl) (dk okd_X12_royaltyOf 1 rfl) (st' := fun v12 => [.long v12, .long (Int32.toInt64 x9)]) (fun _ => rfl) (fun v12 => ?_)
    refine s_run X ok_X12_royaltyOf 15 1 (pc' := 27) (vs' := [some (.ref p0), some (.int p1), some (.long p2), none, some (.long x6), none, some (.long x7), none, some (.long x8), none, some (.int x9), none, none, none]) (st' := [.int (lg_cmp (Int32.toInt64 x9) v12)]) rfl ?_
    refine s_lif_gt (tgt := 143) X (dk okd_X12_royaltyOf 2 rfl) (by decide) ?_ ?_
    · exact s_less [false, false, false, false, true, false, false, false, false, false, false, false, false, false] rfl (h4 x6)
    · refine s_run X ok_X12_royaltyOf 16 5 (pc' := 36) (vs' := [some (.ref p0), some (.int p1), some (.long p2), none, some (.long x6), none, some (.long x7), none, some (.long x8), none, some (.int x9), none, none, none]) (st' := [.int 2, .int p1, .ref p0, .long (Int32.toInt64 x9)]) rfl ?_
      refine s_callV (rest := [.long (Int32.toInt64 x9)]) X E mv_X12_168 (c_X12_ofPlan S p0 p1 2) (ta1 t0_) rfl (by decide) t0_ rfl rfl (Nat.le_of_ble_eq_true rfl) (Nat.le_of_ble_eq_true rfl) (Nat.le_of_ble_eq_true rfl) (dk okd_X12_royaltyOf 3 rfl) (st' := fun v13 => [.long v13, .long (Int32.toInt64 x9)]) (fun _ => rfl) (fun v13 => ?_)
      refine s_run X ok_X12_royaltyOf 21 1 (pc' := 40) (vs' := [some (.ref p0), some (.int p1), some (.long p2), none, some (.long x6), none, some (.long x7), none, some (.long x8), none, some (.int x9), none, none, none]) (st' := [.int (lg_cmp (Int32.toInt64 x9) v13)]) rfl ?_
      refine s_jn (κ := Int32 → Option (Int64)) (fun k15 => ∀ (x14 : Int32), Jd C 14 (QJ C oL (fun _ => S)) S 48 [some (.ref p0), some (.int p1), some (.long p2), none, some (.long x6), none, some (.long x7), none, some (.long x8), none, some (.int x9), none, none, none] [.int x14] (k15 x14)) (fun x14 => ?_) (fun k15 h16 => ?_)
      · refine s_run X ok_X12_royaltyOf 25 2 (pc' := 52) (vs' := [some (.ref p0), some (.int p1), some (.long p2), none, some (.long x6), none, some (.long x7), none, some (.long x8), none, some (.int x9), some (.int x14), none, none]) (st' := [.int x14]) rfl ?_
        refine s_jn (κ := Int64 → Option (Int64)) (fun k18 => ∀ (x17 : Int64), Jd C 14 (QJ C oL (fun _ => S)) S 68 [some (.ref p0), some (.int p1), some (.long p2), none, some (.long x6), none, some (.long x7), none, some (.long x8), none, some (.int x9), some (.int x14), none, none] [.long x17] (k18 x17)) (fun x17 => ?_) (fun k18 h19 => ?_)
        · refine s_run X ok_X12_royaltyOf 34 4 (pc' := 74) (vs' := [some (.ref p0), some (.int p1), some (.long p2), none, some (.long x6), none, some (.long x7), none, some (.long x8), none, some (.int x9), some (.int x14), some (.long x17), none]) (st' := [.int (lg_cmp x17 p2)]) rfl ?_
          refine s_jn (κ := Int64 → Option (Int64)) (fun k21 => ∀ (x20 : Int64), Jd C 14 (QJ C oL (fun _ => S)) S 83 [some (.ref p0), some (.int p1), some (.long p2), none, some (.long x6), none, some (.long x7), none, some (.long x8), none, some (.int x9), some (.int x14), none, none] [.long x20] (k21 x20)) (fun x20 => ?_) (fun k21 h22 => ?_)
          · refine s_run X ok_X12_royaltyOf 41 4 (pc' := 90) (vs' := [some (.ref p0), some (.int p1), some (.long p2), none, some (.long x6), none, some (.long x7), none, some (.long x8), none, some (.int x9), some (.int x14), some (.long x20), none]) (st' := [.int (lg_cmp x20 x7)]) rfl ?_
            refine s_jn (κ := Int64 → Option (Int64)) (fun k24 => ∀ (x23 : Int64), Jd C 14 (QJ C oL (fun _ => S)) S 106 [some (.ref p0), some (.int p1), some (.long p2), none, some (.long x23), none, some (.long x7), none, some (.long x8), none, some (.int x9), some (.int x14), none, none] [] (k24 x23)) (fun x23 => ?_) (fun k24 h25 => ?_)
            · refine s_run X ok_X12_royaltyOf 53 1 (pc' := 108) (vs' := [some (.ref p0), some (.int p1), some (.long p2), none, some (.long x23), none, some (.long x7), none, some (.long x8), none, some (.int x9), some (.int x14), none, none]) (st' := [.int x14]) rfl ?_
              refine s_jn (κ := Int64 → Int64 → Option (Int64)) (fun k28 => ∀ (x26 : Int64) (x27 : Int64), Jd C 14 (QJ C oL (fun _ => S)) S 137 [some (.ref p0), some (.int p1), some (.long p2), none, some (.long x23), none, some (.long x26), none, some (.long x27), none, some (.int x9), none, none, none] [] (k28 x26 x27)) (fun x26 x27 => ?_) (fun k28 h29 => ?_)
              · refine s_run X ok_X12_royaltyOf 67 2 (pc' := 17) (vs' := [some (.ref p0), some (.int p1), some (.long p2), none, some (.long x23), none, some (.long x26), none, some (.long x27), none, some (.int (x9 + 1)), none, none, none]) (st' := []) rfl ?_
                exact h11 x23 x26 x27 (x9 + 1)
              · refine s_if_eq (tgt := 114) X (dk okd_X12_royaltyOf 9 rfl) (by decide) ?_ ?_
                · refine s_run X ok_X12_royaltyOf 55 5 (pc' := 120) (vs' := [some (.ref p0), some (.int p1), some (.long p2), none, some (.long x23), none, some (.long x7), none, some (.long x8), none, some (.int x9), some (.int x14), none, none]) (st' := [.int (3 + x9), .int p1, .ref p0]) rfl ?_
                  refine s_callV (rest := []) X E mv_X12_168 (c_X12_ofPlan S p0 p1 (3 + x9)) (ta1 t0_) rfl (by decide) t0_ rfl rfl (Nat.le_of_ble_eq_true rfl) (Nat.le_of_ble_eq_true rfl) (Nat.le_of_ble_eq_true rfl) (dk okd_X12_royaltyOf 10 rfl) (st' := fun v30 => [.long v30]) (fun _ => rfl) (fun v30 => ?_)
                  refine s_run X ok_X12_royaltyOf 60 6 (pc' := 132) (vs' := [some (.ref p0), some (.int p1), some (.long p2), none, some (.long x23), none, some (.long v30), none, some (.long x8), none, some (.int x9), some (.int x14), none, none]) (st' := [.int (7 + x9), .int p1, .ref p0]) rfl ?_
                  refine s_callV (rest := []) X E mv_X12_168 (c_X12_ofPlan S p0 p1 (7 + x9)) (ta1 t0_) rfl (by decide) t0_ rfl rfl (Nat.le_of_ble_eq_true rfl) (Nat.le_of_ble_eq_true rfl) (Nat.le_of_ble_eq_true rfl) (dk okd_X12_royaltyOf 11 rfl) (st' := fun v31 => [.long v31]) (fun _ => rfl) (fun v31 => ?_)
                  refine s_run X ok_X12_royaltyOf 66 1 (pc' := 137) (vs' := [some (.ref p0), some (.int p1), some (.long p2), none, some (.long x23), none, some (.long v30), none, some (.long v31), none, some (.int x9), some (.int x14), none, none]) (st' := []) rfl ?_
                  exact s_less [true, true, true, false, true, false, true, false, true, false, true, false, false, false] rfl (h29 v30 v31)
                · refine s_run X ok_X12_royaltyOf 54 1 (pc' := 137) (vs' := [some (.ref p0), some (.int p1), some (.long p2), none, some (.long x23), none, some (.long x7), none, some (.long x8), none, some (.int x9), some (.int x14), none, none]) (st' := []) rfl ?_
                  exact s_less [true, true, true, false, true, false, true, false, true, false, true, false, false, false] rfl (h29 x7 x8)
            · refine s_lif_le (tgt := 106) X (dk okd_X12_royaltyOf 8 rfl) (by decide) ?_ ?_
              · exact s_less [true, true, true, false, true, false, true, false, true, false, true, true, false, false] rfl (h25 x6)
              · refine s_run X ok_X12_royaltyOf 45 7 (pc' := 104) (vs' := [some (.ref p0), some (.int p1), some (.long p2), none, some (.long x6), none, some (.long x7), none, some (.long x8), none, some (.int x9), some (.int x14), some (.long x20), none]) (st' := [.long (x6 + ((x20 - x7) * x8))]) rfl ?_
                refine s_nmJ (fun v32 => ?_)
                refine s_run X ok_X12_royaltyOf 52 1 (pc' := 106) (vs' := [some (.ref p0), some (.int p1), some (.long p2), none, some (.long v32), none, some (.long x7), none, some (.long x8), none, some (.int x9), some (.int x14), some (.long x20), none]) (st' := []) rfl ?_
                exact s_less [true, true, true, false, true, false, true, false, true, false, true, true, false, false] rfl (h25 v32)
          · refine s_lif_ge (tgt := 82) X (dk okd_X12_royaltyOf 7 rfl) (by decide) ?_ ?_
            · refine s_run X ok_X12_royaltyOf 40 1 (pc' := 83) (vs' := [some (.ref p0), some (.int p1), some (.long p2), none, some (.long x6), none, some (.long x7), none, some (.long x8), none, some (.int x9), some (.int x14), some (.long x17), none]) (st' := [.long p2]) rfl ?_
              exact s_less [true, true, true, false, true, false, true, false, true, false, true, true, false, false] rfl (h22 p2)
            · refine s_run X ok_X12_royaltyOf 38 2 (pc' := 83) (vs' := [some (.ref p0), some (.int p1), some (.long p2), none, some (.long x6), none, some (.long x7), none, some (.long x8), none, some (.int x9), some (.int x14), some (.long x17), none]) (st' := [.long x17]) rfl ?_
              exact s_less [true, true, true, false, true, false, true, false, true, false, true, true, false, false] rfl (h22 x17)
        · refine s_if_eq (tgt := 59) X (dk okd_X12_royaltyOf 5 rfl) (by decide) ?_ ?_
          · refine s_run X ok_X12_royaltyOf 29 5 (pc' := 65) (vs' := [some (.ref p0), some (.int p1), some (.long p2), none, some (.long x6), none, some (.long x7), none, some (.long x8), none, some (.int x9), some (.int x14), none, none]) (st' := [.int (3 + x9), .int p1, .ref p0]) rfl ?_
            refine s_callV (rest := []) X E mv_X12_168 (c_X12_ofPlan S p0 p1 (3 + x9)) (ta1 t0_) rfl (by decide) t0_ rfl rfl (Nat.le_of_ble_eq_true rfl) (Nat.le_of_ble_eq_true rfl) (Nat.le_of_ble_eq_true rfl) (dk okd_X12_royaltyOf 6 rfl) (st' := fun v33 => [.long v33]) (fun _ => rfl) (fun v33 => ?_)
            exact h19 v33
          · refine s_run X ok_X12_royaltyOf 27 2 (pc' := 68) (vs' := [some (.ref p0), some (.int p1), some (.long p2), none, some (.long x6), none, some (.long x7), none, some (.long x8), none, some (.int x9), some (.int x14), none, none]) (st' := [.long p2]) rfl ?_
            exact h19 p2
      · refine s_lif_ne (tgt := 47) X (dk okd_X12_royaltyOf 4 rfl) (by decide) ?_ ?_
        · refine s_run X ok_X12_royaltyOf 24 1 (pc' := 48) (vs' := [some (.ref p0), some (.int p1), some (.long p2), none, some (.long x6), none, some (.long x7), none, some (.long x8), none, some (.int x9), none, none, none]) (st' := [.int 0]) rfl ?_
          exact h16 0
        · refine s_run X ok_X12_royaltyOf 22 2 (pc' := 48) (vs' := [some (.ref p0), some (.int p1), some (.long p2), none, some (.long x6), none, some (.long x7), none, some (.long x8), none, some (.int x9), none, none, none]) (st' := [.int 1]) rfl ?_
          exact h16 1
def tab_X12_royalty : List En := [(0, 8, 0, 0), (1, 0, 0, 0), (5, 8, 0, 0), (6, 8, 0, 0), (7, 4, 1, 0), (14, 0, 0, 1), (15, 41, 19, 0), (18, 0, 0, 0), (19, 0, 0, 1), (26, 8, 0, 0), (27, 6, 2, 0), (28, 3, 0, 0), (38, 0, 0, 1), (39, 41, 43, 0), (42, 0, 0, 0), (43, 0, 0, 2), (50, 3, 0, 0), (51, 41, 60, 0), (54, 8, 0, 0), (55, 4, 1, 0), (56, 6, 2, 0)]
theorem ok_X12_royalty : tab_X12_royalty.all (okE cX12_royalty) = true := by decide +kernel
def ed_X12_royalty : List (Nat × Instr × Nat) := [(2, .putfield 50, 3), (8, .invokevirtual 171, 3), (11, .ifCond .ne 7, 3), (20, .invokevirtual 81, 3), (23, .ifCond .ne 27, 3), (29, .ldc2_w 174, 3), (32, .invokestatic 53, 3), (35, .ifCond .ne 7, 3), (44, .invokevirtual 81, 3), (47, .ifCond .eq 7, 3), (57, .invokevirtual 176, 3), (60, .lreturn, 1)]
theorem okd_X12_royalty : ed_X12_royalty.all (okD cX12_royalty) = true := by decide +kernel
def f_X12_royalty (S : St) (p0 : Nat) (p1 : Int32) (p2 : Int64) : Option (Int64 × St) := lt (uI S p0 2 0) fun (S1 : St) => cl (f_X12_isPlan S1 p0 p1) fun (v2 : Int32) => jn (κ := Int32 → Option (Int64 × St)) (fun x3 => cl (f_X12_throwsIf S1 p0 x3 1) fun (o6 : Int32 × St) => jn (κ := St → Option (Int64 × St)) (fun S7 => some (0, S7)) fun k8 => if o6.1 = 0 then (cl (f_X12_inRange o6.2 p2 0 1000000000) fun (v10 : Int32) => jn (κ := Int32 → Option (Int64 × St)) (fun x11 => cl (f_X12_throwsIf o6.2 p0 x11 2) fun (o14 : Int32 × St) => if o14.1 = 0 then (cl (f_X12_royaltyOf o14.2 p0 p1 p2) fun (v15 : Int64) => some (v15, o14.2)) else (k8 o14.2)) fun k12 => if v10 = 0 then (k12 1) else (k12 0)) else (k8 o6.2)) fun k4 => if v2 = 0 then (k4 1) else (k4 0)
set_option maxHeartbeats 4000000 in
set_option maxRecDepth 100000 in
theorem c_X12_royalty (S : St) (p0 : Nat) (p1 : Int32) (p2 : Int64) : Ct yX12_royalty cX12_royalty 4 (some .long) 2 55 [.ref p0, .int p1, .long p2] [(p0, 11)] S (f_X12_royalty S p0 p1 p2) oLS sL := by
  refine Ct_of RX12 rfl (by decide) (Nat.le_of_ble_eq_true rfl) 0 (vs := [some (.ref p0), some (.int p1), some (.long p2), none]) rfl (fun C X E hr ht => ?_)
  have t0_ : tT C p0 11 := ht (p0, 11) (by simp)
  unfold f_X12_royalty
  refine s_run X ok_X12_royalty 0 2 (pc' := 2) (vs' := [some (.ref p0), some (.int p1), some (.long p2), none]) (st' := [.int 0, .ref p0]) rfl ?_
  refine s_putI X fp_X12_50 t0_ (dk okd_X12_royalty 0 rfl) (fun S1 => ?_)
  refine s_run X ok_X12_royalty 2 3 (pc' := 8) (vs' := [some (.ref p0), some (.int p1), some (.long p2), none]) (st' := [.int p1, .ref p0, .ref p0]) rfl ?_
  refine s_callV (rest := [.ref p0]) X E mv_X12_171 (c_X12_isPlan S1 p0 p1) (ta1 t0_) rfl (by decide) t0_ rfl rfl (Nat.le_of_ble_eq_true rfl) (Nat.le_of_ble_eq_true rfl) (Nat.le_of_ble_eq_true rfl) (dk okd_X12_royalty 1 rfl) (st' := fun v2 => [.int v2, .ref p0]) (fun _ => rfl) (fun v2 => ?_)
  refine s_jn (κ := Int32 → Option (Int64 × St)) (fun k4 => ∀ (x3 : Int32), Jd C 4 (QJ C oLS sL) S1 19 [some (.ref p0), some (.int p1), some (.long p2), none] [.int x3, .ref p0] (k4 x3)) (fun x3 => ?_) (fun k4 h5 => ?_)
  · refine s_run X ok_X12_royalty 8 1 (pc' := 20) (vs' := [some (.ref p0), some (.int p1), some (.long p2), none]) (st' := [.int 1, .int x3, .ref p0]) rfl ?_
    refine s_callV (rest := []) X E mv_X12_81 (c_X12_throwsIf S1 p0 x3 1) (ta1 t0_) rfl (by decide) t0_ rfl rfl (Nat.le_of_ble_eq_true rfl) (Nat.le_of_ble_eq_true rfl) (Nat.le_of_ble_eq_true rfl) (dk okd_X12_royalty 3 rfl) (st' := fun o6 => [.int o6.1]) (fun _ => rfl) (fun o6 => ?_)
    refine s_jn (κ := St → Option (Int64 × St)) (fun k8 => ∀ (S7 : St), Jd C 4 (QJ C oLS sL) S7 50 [none, none, none, none] [] (k8 S7)) (fun S7 => ?_) (fun k8 h9 => ?_)
    · refine s_run X ok_X12_royalty 16 2 (pc' := 60) (vs' := [none, none, none, none]) (st' := [.long 0]) rfl ?_
      exact s_lret X hr (dk okd_X12_royalty 11 rfl) rfl rfl
    · refine s_if_ne (tgt := 50) X (dk okd_X12_royalty 4 rfl) (by decide) ?_ ?_
      · exact s_less [false, false, false, false] rfl (h9 o6.2)
      · refine s_run X ok_X12_royalty 9 3 (pc' := 29) (vs' := [some (.ref p0), some (.int p1), some (.long p2), none]) (st' := [.long 0, .long p2, .ref p0]) rfl ?_
        refine s_ldc2 X cl_X12_174 (dk okd_X12_royalty 5 rfl) ?_
        refine s_callS (rest := [.ref p0]) X E ms_X12_53 (c_X12_inRange o6.2 p2 0 1000000000) (ta0) rfl rfl (Nat.le_of_ble_eq_true rfl) (Nat.le_of_ble_eq_true rfl) (Nat.le_of_ble_eq_true rfl) (dk okd_X12_royalty 6 rfl) (st' := fun v10 => [.int v10, .ref p0]) (fun _ => rfl) (fun v10 => ?_)
        refine s_jn (κ := Int32 → Option (Int64 × St)) (fun k12 => ∀ (x11 : Int32), Jd C 4 (QJ C oLS sL) o6.2 43 [some (.ref p0), some (.int p1), some (.long p2), none] [.int x11, .ref p0] (k12 x11)) (fun x11 => ?_) (fun k12 h13 => ?_)
        · refine s_run X ok_X12_royalty 15 1 (pc' := 44) (vs' := [some (.ref p0), some (.int p1), some (.long p2), none]) (st' := [.int 2, .int x11, .ref p0]) rfl ?_
          refine s_callV (rest := []) X E mv_X12_81 (c_X12_throwsIf o6.2 p0 x11 2) (ta1 t0_) rfl (by decide) t0_ rfl rfl (Nat.le_of_ble_eq_true rfl) (Nat.le_of_ble_eq_true rfl) (Nat.le_of_ble_eq_true rfl) (dk okd_X12_royalty 8 rfl) (st' := fun o14 => [.int o14.1]) (fun _ => rfl) (fun o14 => ?_)
          refine s_if_eq (tgt := 54) X (dk okd_X12_royalty 9 rfl) (by decide) ?_ ?_
          · refine s_run X ok_X12_royalty 18 3 (pc' := 57) (vs' := [some (.ref p0), some (.int p1), some (.long p2), none]) (st' := [.long p2, .int p1, .ref p0]) rfl ?_
            refine s_callV (rest := []) X E mv_X12_176 (c_X12_royaltyOf o14.2 p0 p1 p2) (ta1 t0_) rfl (by decide) t0_ rfl rfl (Nat.le_of_ble_eq_true rfl) (Nat.le_of_ble_eq_true rfl) (Nat.le_of_ble_eq_true rfl) (dk okd_X12_royalty 10 rfl) (st' := fun v15 => [.long v15]) (fun _ => rfl) (fun v15 => ?_)
            exact s_lret X hr (dk okd_X12_royalty 11 rfl) rfl rfl
          · exact s_less [false, false, false, false] rfl (h9 o14.2)
        · refine s_if_ne (tgt := 42) X (dk okd_X12_royalty 7 rfl) (by decide) ?_ ?_
          · refine s_run X ok_X12_royalty 14 1 (pc' := 43) (vs' := [some (.ref p0), some (.int p1), some (.long p2), none]) (st' := [.int 0, .ref p0]) rfl ?_
            exact h13 0
          · refine s_run X ok_X12_royalty 12 2 (pc' := 43) (vs' := [some (.ref p0), some (.int p1), some (.long p2), none]) (st' := [.int 1, .ref p0]) rfl ?_
            exact h13 1
  · refine s_if_ne (tgt := 18) X (dk okd_X12_royalty 2 rfl) (by decide) ?_ ?_
    · refine s_run X ok_X12_royalty 7 1 (pc' := 19) (vs' := [some (.ref p0), some (.int p1), some (.long p2), none]) (st' := [.int 0, .ref p0]) rfl ?_
      exact h5 0
    · refine s_run X ok_X12_royalty 5 2 (pc' := 19) (vs' := [some (.ref p0), some (.int p1), some (.long p2), none]) (st' := [.int 1, .ref p0]) rfl ?_
      exact h5 1
def tab_X12_planNow : List En := [(0, 8, 0, 0), (1, 4, 1, 0), (2, 0, 0, 1), (6, 32, 0, 0)]
theorem ok_X12_planNow : tab_X12_planNow.all (okE cX12_planNow) = true := by decide +kernel
def ed_X12_planNow : List (Nat × Instr × Nat) := [(3, .invokevirtual 63, 3), (7, .ireturn, 1)]
theorem okd_X12_planNow : ed_X12_planNow.all (okD cX12_planNow) = true := by decide +kernel
def f_X12_planNow (S : St) (p0 : Nat) (p1 : Int32) : Option (Int32) := cl (f_X12_of S p0 p1 1) fun (v1 : Int64) => some (Int64.toInt32 v1)
set_option maxHeartbeats 4000000 in
set_option maxRecDepth 100000 in
theorem c_X12_planNow (S : St) (p0 : Nat) (p1 : Int32) : Ct yX12_planNow cX12_planNow 2 (some .int) 1 22 [.ref p0, .int p1] [(p0, 11)] S (f_X12_planNow S p0 p1) oI (fun _ => S) := by
  refine Ct_of RX12 rfl (by decide) (Nat.le_of_ble_eq_true rfl) 0 (vs := [some (.ref p0), some (.int p1)]) rfl (fun C X E hr ht => ?_)
  have t0_ : tT C p0 11 := ht (p0, 11) (by simp)
  unfold f_X12_planNow
  refine s_run X ok_X12_planNow 0 3 (pc' := 3) (vs' := [some (.ref p0), some (.int p1)]) (st' := [.int 1, .int p1, .ref p0]) rfl ?_
  refine s_callV (rest := []) X E mv_X12_63 (c_X12_of S p0 p1 1) (ta1 t0_) rfl (by decide) t0_ rfl rfl (Nat.le_of_ble_eq_true rfl) (Nat.le_of_ble_eq_true rfl) (Nat.le_of_ble_eq_true rfl) (dk okd_X12_planNow 0 rfl) (st' := fun v1 => [.long v1]) (fun _ => rfl) (fun v1 => ?_)
  refine s_run X ok_X12_planNow 3 1 (pc' := 7) (vs' := [some (.ref p0), some (.int p1)]) (st' := [.int (Int64.toInt32 v1)]) rfl ?_
  exact s_iret X hr (dk okd_X12_planNow 1 rfl) rfl rfl
def tab_X12_planOf : List En := [(0, 8, 0, 0), (1, 0, 0, 0), (5, 8, 0, 0), (6, 8, 0, 0), (7, 4, 1, 0), (14, 0, 0, 1), (15, 41, 19, 0), (18, 0, 0, 0), (19, 0, 0, 1), (26, 0, 0, 0), (27, 41, 35, 0), (30, 8, 0, 0), (31, 4, 1, 0)]
theorem ok_X12_planOf : tab_X12_planOf.all (okE cX12_planOf) = true := by decide +kernel
def ed_X12_planOf : List (Nat × Instr × Nat) := [(2, .putfield 50, 3), (8, .invokevirtual 85, 3), (11, .ifCond .ne 7, 3), (20, .invokevirtual 81, 3), (23, .ifCond .eq 7, 3), (32, .invokevirtual 180, 3), (35, .ireturn, 1)]
theorem okd_X12_planOf : ed_X12_planOf.all (okD cX12_planOf) = true := by decide +kernel
def f_X12_planOf (S : St) (p0 : Nat) (p1 : Int32) : Option (Int32 × St) := lt (uI S p0 2 0) fun (S1 : St) => cl (f_X12_isFranchisee S1 p0 p1) fun (v2 : Int32) => jn (κ := Int32 → Option (Int32 × St)) (fun x3 => cl (f_X12_throwsIf S1 p0 x3 1) fun (o6 : Int32 × St) => if o6.1 = 0 then (cl (f_X12_planNow o6.2 p0 p1) fun (v7 : Int32) => some (v7, o6.2)) else (some (0, o6.2))) fun k4 => if v2 = 0 then (k4 1) else (k4 0)
set_option maxHeartbeats 4000000 in
set_option maxRecDepth 100000 in
theorem c_X12_planOf (S : St) (p0 : Nat) (p1 : Int32) : Ct yX12_planOf cX12_planOf 2 (some .int) 2 46 [.ref p0, .int p1] [(p0, 11)] S (f_X12_planOf S p0 p1) oIS sS := by
  refine Ct_of RX12 rfl (by decide) (Nat.le_of_ble_eq_true rfl) 0 (vs := [some (.ref p0), some (.int p1)]) rfl (fun C X E hr ht => ?_)
  have t0_ : tT C p0 11 := ht (p0, 11) (by simp)
  unfold f_X12_planOf
  refine s_run X ok_X12_planOf 0 2 (pc' := 2) (vs' := [some (.ref p0), some (.int p1)]) (st' := [.int 0, .ref p0]) rfl ?_
  refine s_putI X fp_X12_50 t0_ (dk okd_X12_planOf 0 rfl) (fun S1 => ?_)
  refine s_run X ok_X12_planOf 2 3 (pc' := 8) (vs' := [some (.ref p0), some (.int p1)]) (st' := [.int p1, .ref p0, .ref p0]) rfl ?_
  refine s_callV (rest := [.ref p0]) X E mv_X12_85 (c_X12_isFranchisee S1 p0 p1) (ta1 t0_) rfl (by decide) t0_ rfl rfl (Nat.le_of_ble_eq_true rfl) (Nat.le_of_ble_eq_true rfl) (Nat.le_of_ble_eq_true rfl) (dk okd_X12_planOf 1 rfl) (st' := fun v2 => [.int v2, .ref p0]) (fun _ => rfl) (fun v2 => ?_)
  refine s_jn (κ := Int32 → Option (Int32 × St)) (fun k4 => ∀ (x3 : Int32), Jd C 2 (QJ C oIS sS) S1 19 [some (.ref p0), some (.int p1)] [.int x3, .ref p0] (k4 x3)) (fun x3 => ?_) (fun k4 h5 => ?_)
  · refine s_run X ok_X12_planOf 8 1 (pc' := 20) (vs' := [some (.ref p0), some (.int p1)]) (st' := [.int 1, .int x3, .ref p0]) rfl ?_
    refine s_callV (rest := []) X E mv_X12_81 (c_X12_throwsIf S1 p0 x3 1) (ta1 t0_) rfl (by decide) t0_ rfl rfl (Nat.le_of_ble_eq_true rfl) (Nat.le_of_ble_eq_true rfl) (Nat.le_of_ble_eq_true rfl) (dk okd_X12_planOf 3 rfl) (st' := fun o6 => [.int o6.1]) (fun _ => rfl) (fun o6 => ?_)
    refine s_if_eq (tgt := 30) X (dk okd_X12_planOf 4 rfl) (by decide) ?_ ?_
    · refine s_run X ok_X12_planOf 11 2 (pc' := 32) (vs' := [some (.ref p0), some (.int p1)]) (st' := [.int p1, .ref p0]) rfl ?_
      refine s_callV (rest := []) X E mv_X12_180 (c_X12_planNow o6.2 p0 p1) (ta1 t0_) rfl (by decide) t0_ rfl rfl (Nat.le_of_ble_eq_true rfl) (Nat.le_of_ble_eq_true rfl) (Nat.le_of_ble_eq_true rfl) (dk okd_X12_planOf 5 rfl) (st' := fun v7 => [.int v7]) (fun _ => rfl) (fun v7 => ?_)
      exact s_iret X hr (dk okd_X12_planOf 6 rfl) rfl rfl
    · refine s_run X ok_X12_planOf 9 2 (pc' := 35) (vs' := [some (.ref p0), some (.int p1)]) (st' := [.int 0]) rfl ?_
      exact s_iret X hr (dk okd_X12_planOf 6 rfl) rfl rfl
  · refine s_if_ne (tgt := 18) X (dk okd_X12_planOf 2 rfl) (by decide) ?_ ?_
    · refine s_run X ok_X12_planOf 7 1 (pc' := 19) (vs' := [some (.ref p0), some (.int p1)]) (st' := [.int 0, .ref p0]) rfl ?_
      exact h5 0
    · refine s_run X ok_X12_planOf 5 2 (pc' := 19) (vs' := [some (.ref p0), some (.int p1)]) (st' := [.int 1, .ref p0]) rfl ?_
      exact h5 1
def tab_X12_setPlan : List En := [(0, 8, 0, 0), (1, 0, 0, 0), (5, 8, 0, 0), (6, 8, 0, 0), (7, 4, 1, 0), (14, 8, 0, 0), (15, 4, 2, 0), (22, 0, 0, 1), (23, 41, 27, 0), (26, 0, 0, 0), (27, 0, 0, 1), (34, 0, 0, 0), (36, 8, 0, 0), (37, 4, 1, 0), (41, 10, 3, 0), (42, 8, 0, 0), (43, 4, 1, 0), (44, 0, 0, 1), (45, 4, 2, 0), (46, 31, 0, 0), (50, 4, 3, 0)]
theorem ok_X12_setPlan : tab_X12_setPlan.all (okE cX12_setPlan) = true := by decide +kernel
def ed_X12_setPlan : List (Nat × Instr × Nat) := [(2, .putfield 50, 3), (8, .invokevirtual 85, 3), (11, .ifCond .eq 11, 3), (16, .invokevirtual 171, 3), (19, .ifCond .ne 7, 3), (28, .invokevirtual 81, 3), (31, .ifCond .eq 5, 3), (35, .ireturn, 1), (38, .invokevirtual 180, 3), (47, .invokevirtual 183, 3), (51, .ireturn, 1)]
theorem okd_X12_setPlan : ed_X12_setPlan.all (okD cX12_setPlan) = true := by decide +kernel
def f_X12_setPlan (S : St) (p0 : Nat) (p1 : Int32) (p2 : Int32) : Option (Int32 × St) := lt (uI S p0 2 0) fun (S1 : St) => cl (f_X12_isFranchisee S1 p0 p1) fun (v2 : Int32) => jn (κ := Int32 → Option (Int32 × St)) (fun x3 => cl (f_X12_throwsIf S1 p0 x3 1) fun (o6 : Int32 × St) => if o6.1 = 0 then (cl (f_X12_planNow o6.2 p0 p1) fun (v7 : Int32) => cl (f_X12_set o6.2 p0 p1 1 (Int32.toInt64 p2)) fun (S8 : St) => some (v7, S8)) else (some (0, o6.2))) fun k4 => jn (κ := Option (Int32 × St)) (k4 1) fun k9 => if v2 = 0 then (k9) else (cl (f_X12_isPlan S1 p0 p2) fun (v11 : Int32) => if v11 = 0 then (k9) else (k4 0))
set_option maxHeartbeats 4000000 in
set_option maxRecDepth 100000 in
theorem c_X12_setPlan (S : St) (p0 : Nat) (p1 : Int32) (p2 : Int32) : Ct yX12_setPlan cX12_setPlan 4 (some .int) 2 46 [.ref p0, .int p1, .int p2] [(p0, 11)] S (f_X12_setPlan S p0 p1 p2) oIS sS := by
  refine Ct_of RX12 rfl (by decide) (Nat.le_of_ble_eq_true rfl) 1 (vs := [some (.ref p0), some (.int p1), some (.int p2), none]) rfl (fun C X E hr ht => ?_)
  have t0_ : tT C p0 11 := ht (p0, 11) (by simp)
  unfold f_X12_setPlan
  refine s_run X ok_X12_setPlan 0 2 (pc' := 2) (vs' := [some (.ref p0), some (.int p1), some (.int p2), none]) (st' := [.int 0, .ref p0]) rfl ?_
  refine s_putI X fp_X12_50 t0_ (dk okd_X12_setPlan 0 rfl) (fun S1 => ?_)
  refine s_run X ok_X12_setPlan 2 3 (pc' := 8) (vs' := [some (.ref p0), some (.int p1), some (.int p2), none]) (st' := [.int p1, .ref p0, .ref p0]) rfl ?_
  refine s_callV (rest := [.ref p0]) X E mv_X12_85 (c_X12_isFranchisee S1 p0 p1) (ta1 t0_) rfl (by decide) t0_ rfl rfl (Nat.le_of_ble_eq_true rfl) (Nat.le_of_ble_eq_true rfl) (Nat.le_of_ble_eq_true rfl) (dk okd_X12_setPlan 1 rfl) (st' := fun v2 => [.int v2, .ref p0]) (fun _ => rfl) (fun v2 => ?_)
  refine s_jn (κ := Int32 → Option (Int32 × St)) (fun k4 => ∀ (x3 : Int32), Jd C 4 (QJ C oIS sS) S1 27 [some (.ref p0), some (.int p1), some (.int p2), none] [.int x3, .ref p0] (k4 x3)) (fun x3 => ?_) (fun k4 h5 => ?_)
  · refine s_run X ok_X12_setPlan 10 1 (pc' := 28) (vs' := [some (.ref p0), some (.int p1), some (.int p2), none]) (st' := [.int 1, .int x3, .ref p0]) rfl ?_
    refine s_callV (rest := []) X E mv_X12_81 (c_X12_throwsIf S1 p0 x3 1) (ta1 t0_) rfl (by decide) t0_ rfl rfl (Nat.le_of_ble_eq_true rfl) (Nat.le_of_ble_eq_true rfl) (Nat.le_of_ble_eq_true rfl) (dk okd_X12_setPlan 5 rfl) (st' := fun o6 => [.int o6.1]) (fun _ => rfl) (fun o6 => ?_)
    refine s_if_eq (tgt := 36) X (dk okd_X12_setPlan 6 rfl) (by decide) ?_ ?_
    · refine s_run X ok_X12_setPlan 12 2 (pc' := 38) (vs' := [some (.ref p0), some (.int p1), some (.int p2), none]) (st' := [.int p1, .ref p0]) rfl ?_
      refine s_callV (rest := []) X E mv_X12_180 (c_X12_planNow o6.2 p0 p1) (ta1 t0_) rfl (by decide) t0_ rfl rfl (Nat.le_of_ble_eq_true rfl) (Nat.le_of_ble_eq_true rfl) (Nat.le_of_ble_eq_true rfl) (dk okd_X12_setPlan 8 rfl) (st' := fun v7 => [.int v7]) (fun _ => rfl) (fun v7 => ?_)
      refine s_run X ok_X12_setPlan 14 6 (pc' := 47) (vs' := [some (.ref p0), some (.int p1), some (.int p2), some (.int v7)]) (st' := [.long (Int32.toInt64 p2), .int 1, .int p1, .ref p0]) rfl ?_
      refine s_callV (rest := []) X E mv_X12_183 (c_X12_set o6.2 p0 p1 1 (Int32.toInt64 p2)) (ta1 t0_) rfl (by decide) t0_ rfl rfl (Nat.le_of_ble_eq_true rfl) (Nat.le_of_ble_eq_true rfl) (Nat.le_of_ble_eq_true rfl) (dk okd_X12_setPlan 9 rfl) (st' := fun S8 => []) (fun _ => rfl) (fun S8 => ?_)
      refine s_run X ok_X12_setPlan 20 1 (pc' := 51) (vs' := [some (.ref p0), some (.int p1), some (.int p2), some (.int v7)]) (st' := [.int v7]) rfl ?_
      exact s_iret X hr (dk okd_X12_setPlan 10 rfl) rfl rfl
    · refine s_run X ok_X12_setPlan 11 1 (pc' := 35) (vs' := [some (.ref p0), some (.int p1), some (.int p2), none]) (st' := [.int 0]) rfl ?_
      exact s_iret X hr (dk okd_X12_setPlan 7 rfl) rfl rfl
  · refine s_jn (κ := Option (Int32 × St)) (fun k9 => Jd C 4 (QJ C oIS sS) S1 22 [some (.ref p0), some (.int p1), some (.int p2), none] [.ref p0] k9) ?_ (fun k9 h10 => ?_)
    · refine s_run X ok_X12_setPlan 7 2 (pc' := 27) (vs' := [some (.ref p0), some (.int p1), some (.int p2), none]) (st' := [.int 1, .ref p0]) rfl ?_
      exact h5 1
    · refine s_if_eq (tgt := 22) X (dk okd_X12_setPlan 2 rfl) (by decide) ?_ ?_
      · exact h10
      · refine s_run X ok_X12_setPlan 5 2 (pc' := 16) (vs' := [some (.ref p0), some (.int p1), some (.int p2), none]) (st' := [.int p2, .ref p0, .ref p0]) rfl ?_
        refine s_callV (rest := [.ref p0]) X E mv_X12_171 (c_X12_isPlan S1 p0 p2) (ta1 t0_) rfl (by decide) t0_ rfl rfl (Nat.le_of_ble_eq_true rfl) (Nat.le_of_ble_eq_true rfl) (Nat.le_of_ble_eq_true rfl) (dk okd_X12_setPlan 3 rfl) (st' := fun v11 => [.int v11, .ref p0]) (fun _ => rfl) (fun v11 => ?_)
        refine s_if_ne (tgt := 26) X (dk okd_X12_setPlan 4 rfl) (by decide) ?_ ?_
        · refine s_run X ok_X12_setPlan 9 1 (pc' := 27) (vs' := [some (.ref p0), some (.int p1), some (.int p2), none]) (st' := [.int 0, .ref p0]) rfl ?_
          exact h5 0
        · exact h10
def tab_X12_salesNow : List En := [(0, 3, 0, 0), (1, 12, 3, 0), (2, 0, 0, 0), (3, 11, 5, 0), (5, 5, 5, 0), (7, 31, 0, 0), (8, 8, 0, 0), (12, 0, 0, 3), (14, 40, 0, 0), (18, 8, 0, 0), (19, 5, 5, 0), (21, 0, 0, 0), (25, 4, 1, 0), (26, 31, 0, 0), (27, 40, 0, 0), (31, 6, 3, 0), (32, 8, 0, 0), (33, 5, 5, 0), (35, 0, 0, 3), (39, 4, 2, 0), (40, 31, 0, 0), (41, 25, 0, 0), (46, 23, 0, 0), (47, 12, 3, 0), (48, 16, 5, 1), (51, 41, 5, 0), (54, 6, 3, 0)]
theorem ok_X12_salesNow : tab_X12_salesNow.all (okE cX12_salesNow) = true := by decide +kernel
def ed_X12_salesNow : List (Nat × Instr × Nat) := [(9, .getfield 9, 3), (13, .laload, 1), (15, .ifCond .ge 39, 3), (22, .invokevirtual 113, 3), (28, .ifCond .ne 20, 3), (36, .invokevirtual 113, 3), (42, .ldc2_w 144, 3), (45, .ldiv, 1), (55, .lreturn, 1)]
theorem okd_X12_salesNow : ed_X12_salesNow.all (okD cX12_salesNow) = true := by decide +kernel
def f_X12_salesNow (S : St) (p0 : Nat) (p1 : Int32) (p2 : Int32) : Option (Int64) := jn (κ := Int64 → Option (Int64)) (fun x1 => some x1) fun k2 => lp (κ := Int64 → Int32 → Option (Int64)) (fun _ _ => none) (fun k6 x4 x5 => lt (gR S p0 0) fun (a8 : Nat) => ldJ S a8 3 fun (v10 : Int64) => if v10 ≤ (Int32.toInt64 x5) then (k2 x4) else (cl (f_X12_ofOutlet S p0 x5 0) fun (v11 : Int64) => jn (κ := Int64 → Option (Int64)) (fun x12 => k6 x12 (x5 + 1)) fun k13 => if v11 = (Int32.toInt64 p1) then (cl (f_X12_ofOutlet S p0 x5 3) fun (v15 : Int64) => lt (x4 + ((v15 * (Int32.toInt64 p2)) / 100)) fun (v16 : Int64) => k13 v16) else (k13 x4))) FU 0 0
set_option maxHeartbeats 4000000 in
set_option maxRecDepth 100000 in
theorem c_X12_salesNow (S : St) (p0 : Nat) (p1 : Int32) (p2 : Int32) : Ct yX12_salesNow cX12_salesNow 6 (some .long) 1 22 [.ref p0, .int p1, .int p2] [(p0, 11)] S (f_X12_salesNow S p0 p1 p2) oL (fun _ => S) := by
  refine Ct_of RX12 rfl (by decide) (Nat.le_of_ble_eq_true rfl) 3 (vs := [some (.ref p0), some (.int p1), some (.int p2), none, none, none]) rfl (fun C X E hr ht => ?_)
  have t0_ : tT C p0 11 := ht (p0, 11) (by simp)
  unfold f_X12_salesNow
  refine s_run X ok_X12_salesNow 0 4 (pc' := 5) (vs' := [some (.ref p0), some (.int p1), some (.int p2), some (.long 0), none, some (.int 0)]) (st' := []) rfl ?_
  refine s_jn (κ := Int64 → Option (Int64)) (fun k2 => ∀ (x1 : Int64), Jd C 6 (QJ C oL (fun _ => S)) S 54 [none, none, none, some (.long x1), none, none] [] (k2 x1)) (fun x1 => ?_) (fun k2 h3 => ?_)
  · refine s_run X ok_X12_salesNow 26 1 (pc' := 55) (vs' := [none, none, none, some (.long x1), none, none]) (st' := [.long x1]) rfl ?_
    exact s_lret X hr (dk okd_X12_salesNow 8 rfl) rfl rfl
  · refine s_lp (κ := Int64 → Int32 → Option (Int64)) (fun k6 => ∀ (x4 : Int64) (x5 : Int32), Jd C 6 (QJ C oL (fun _ => S)) S 5 [some (.ref p0), some (.int p1), some (.int p2), some (.long x4), none, some (.int x5)] [] (k6 x4 x5)) (fun _ _ => s_none) (fun k6 h7 x4 x5 => ?_) FU 0 0
    refine s_run X ok_X12_salesNow 4 3 (pc' := 9) (vs' := [some (.ref p0), some (.int p1), some (.int p2), some (.long x4), none, some (.int x5)]) (st' := [.ref p0, .long (Int32.toInt64 x5)]) rfl ?_
    refine s_getR X fl_X12_9 t0_ (dk okd_X12_salesNow 0 rfl) (fun a8 (t9 : tT C a8 14) => ?_)
    refine s_run X ok_X12_salesNow 7 1 (pc' := 13) (vs' := [some (.ref p0), some (.int p1), some (.int p2), some (.long x4), none, some (.int x5)]) (st' := [.int 3, .ref a8, .long (Int32.toInt64 x5)]) rfl ?_
    refine s_lald X t9 (dk okd_X12_salesNow 1 rfl) (fun v10 => ?_)
    refine s_run X ok_X12_salesNow 8 1 (pc' := 15) (vs' := [some (.ref p0), some (.int p1), some (.int p2), some (.long x4), none, some (.int x5)]) (st' := [.int (lg_cmp (Int32.toInt64 x5) v10)]) rfl ?_
    refine s_lif_ge (tgt := 54) X (dk okd_X12_salesNow 2 rfl) (by decide) ?_ ?_
    · exact s_less [false, false, false, true, false, false] rfl (h3 x4)
    · refine s_run X ok_X12_salesNow 9 3 (pc' := 22) (vs' := [some (.ref p0), some (.int p1), some (.int p2), some (.long x4), none, some (.int x5)]) (st' := [.int 0, .int x5, .ref p0]) rfl ?_
      refine s_callV (rest := []) X E mv_X12_113 (c_X12_ofOutlet S p0 x5 0) (ta1 t0_) rfl (by decide) t0_ rfl rfl (Nat.le_of_ble_eq_true rfl) (Nat.le_of_ble_eq_true rfl) (Nat.le_of_ble_eq_true rfl) (dk okd_X12_salesNow 3 rfl) (st' := fun v11 => [.long v11]) (fun _ => rfl) (fun v11 => ?_)
      refine s_run X ok_X12_salesNow 12 3 (pc' := 28) (vs' := [some (.ref p0), some (.int p1), some (.int p2), some (.long x4), none, some (.int x5)]) (st' := [.int (lg_cmp v11 (Int32.toInt64 p1))]) rfl ?_
      refine s_jn (κ := Int64 → Option (Int64)) (fun k13 => ∀ (x12 : Int64), Jd C 6 (QJ C oL (fun _ => S)) S 48 [some (.ref p0), some (.int p1), some (.int p2), some (.long x12), none, some (.int x5)] [] (k13 x12)) (fun x12 => ?_) (fun k13 h14 => ?_)
      · refine s_run X ok_X12_salesNow 24 2 (pc' := 5) (vs' := [some (.ref p0), some (.int p1), some (.int p2), some (.long x12), none, some (.int (x5 + 1))]) (st' := []) rfl ?_
        exact h7 x12 (x5 + 1)
      · refine s_lif_ne (tgt := 48) X (dk okd_X12_salesNow 4 rfl) (by decide) ?_ ?_
        · exact h14 x4
        · refine s_run X ok_X12_salesNow 15 4 (pc' := 36) (vs' := [some (.ref p0), some (.int p1), some (.int p2), some (.long x4), none, some (.int x5)]) (st' := [.int 3, .int x5, .ref p0, .long x4]) rfl ?_
          refine s_callV (rest := [.long x4]) X E mv_X12_113 (c_X12_ofOutlet S p0 x5 3) (ta1 t0_) rfl (by decide) t0_ rfl rfl (Nat.le_of_ble_eq_true rfl) (Nat.le_of_ble_eq_true rfl) (Nat.le_of_ble_eq_true rfl) (dk okd_X12_salesNow 5 rfl) (st' := fun v15 => [.long v15, .long x4]) (fun _ => rfl) (fun v15 => ?_)
          refine s_run X ok_X12_salesNow 19 3 (pc' := 42) (vs' := [some (.ref p0), some (.int p1), some (.int p2), some (.long x4), none, some (.int x5)]) (st' := [.long (v15 * (Int32.toInt64 p2)), .long x4]) rfl ?_
          refine s_ldc2 X cl_X12_144 (dk okd_X12_salesNow 6 rfl) ?_
          refine s_ldiv0 X (dk okd_X12_salesNow 7 rfl) (by decide) ?_
          refine s_run X ok_X12_salesNow 22 1 (pc' := 47) (vs' := [some (.ref p0), some (.int p1), some (.int p2), some (.long x4), none, some (.int x5)]) (st' := [.long (x4 + ((v15 * (Int32.toInt64 p2)) / 100))]) rfl ?_
          refine s_nmJ (fun v16 => ?_)
          refine s_run X ok_X12_salesNow 23 1 (pc' := 48) (vs' := [some (.ref p0), some (.int p1), some (.int p2), some (.long v16), none, some (.int x5)]) (st' := []) rfl ?_
          exact h14 v16
