theorem cl_X11_430 : Cond.constantLong RX11 430 5000 ∈ TT := TT_5 (i := 42) rfl rfl
theorem cl_X11_432 : Cond.constantLong RX11 432 10000 ∈ TT := TT_5 (i := 43) rfl rfl
theorem cl_X12_116 : Cond.constantLong RX12 116 30 ∈ TT := TT_8 (i := 152) rfl rfl
theorem cl_X12_48 : Cond.constantLong RX12 48 (-1) ∈ TT := TT_7 (i := 224) rfl rfl
theorem cl_X12_61 : Cond.constantLong RX12 61 29 ∈ TT := TT_8 (i := 86) rfl rfl
theorem fl_X12_13 : FL RX12 13 11 1 2 := ⟨RX12, TX12, 22, rfl, by decide, uw_X12, TT_7 (i := 226) rfl rfl, rfl, rfl, by decide⟩
theorem fl_X12_17 : FL RX12 17 11 3 2 := ⟨RX12, TX12, 22, rfl, by decide, uw_X12, TT_7 (i := 228) rfl rfl, rfl, rfl, by decide⟩
theorem fl_X12_20 : FL RX12 20 11 4 2 := ⟨RX12, TX12, 22, rfl, by decide, uw_X12, TT_7 (i := 229) rfl rfl, rfl, rfl, by decide⟩
theorem fl_X12_50 : FL RX12 50 11 2 0 := ⟨RX12, TX12, 22, rfl, by decide, uw_X12, TT_7 (i := 227) rfl rfl, rfl, rfl, by decide⟩
theorem fl_X12_75 : FL RX12 75 11 19 0 := ⟨RX12, TX12, 22, rfl, by decide, uw_X12, TT_8 (i := 4) rfl rfl, rfl, rfl, by decide⟩
theorem fl_X12_78 : FL RX12 78 11 20 0 := ⟨RX12, TX12, 22, rfl, by decide, uw_X12, TT_8 (i := 5) rfl rfl, rfl, rfl, by decide⟩
theorem fl_X12_9 : FL RX12 9 11 0 2 := ⟨RX12, TX12, 22, rfl, by decide, uw_X12, TT_7 (i := 225) rfl rfl, rfl, rfl, by decide⟩
theorem fp_X12_50 : FP RX12 50 11 2 0 := ⟨RX12, TX12, 22, tyX12, tyX12 2, rfl, by decide, uw_X12, TT_7 (i := 227) rfl rfl, rfl, rfl, by decide, tyX12_ok, nmX12, rfl, tyX12_ok 2 (by decide), fun h => rfl, fun h => absurd h (by decide), fun h => absurd h (by decide)⟩
theorem ms_X12_107 : MS RX12 107 yX12_size cX12_size 1 (some .int) 1 := ⟨TT_8 (i := 142) rfl rfl, TT_8 (i := 143) rfl rfl, TT_1 (i := 13) rfl rfl, TT_8 (i := 144) rfl rfl, ⟨by decide, by decide, by decide +kernel⟩⟩
theorem ms_X12_110 : MS RX12 110 yX12_apart cX12_apart 3 (some .int) 3 := ⟨TT_8 (i := 139) rfl rfl, TT_8 (i := 140) rfl rfl, TT_1 (i := 13) rfl rfl, TT_8 (i := 141) rfl rfl, ⟨by decide, by decide, by decide +kernel⟩⟩
theorem ms_X12_53 : MS RX12 53 yX12_inRange cX12_inRange 6 (some .boolean) 3 := ⟨TT_8 (i := 60) rfl rfl, TT_8 (i := 61) rfl rfl, TT_1 (i := 13) rfl rfl, TT_8 (i := 62) rfl rfl, ⟨by decide, by decide, by decide +kernel⟩⟩
theorem ms_X12_67 : MS RX12 67 yX12_isCell cX12_isCell 2 (some .boolean) 2 := ⟨TT_8 (i := 83) rfl rfl, TT_8 (i := 84) rfl rfl, TT_1 (i := 13) rfl rfl, TT_8 (i := 85) rfl rfl, ⟨by decide, by decide, by decide +kernel⟩⟩
theorem mv_X12_101 : MV RX12 101 yX12_isReached cX12_isReached 3 (some .boolean) 2 := ⟨TT_8 (i := 131) rfl rfl, TT_8 (i := 133) rfl rfl, TT_s (i := 39) (by decide +kernel) (by decide +kernel), TT_1 (i := 13) rfl rfl, TT_8 (i := 134) rfl rfl, ⟨by decide, by decide, by decide +kernel⟩⟩
theorem mv_X12_104 : MV RX12 104 yX12_connected cX12_connected 8 (some .boolean) 1 := ⟨TT_8 (i := 127) rfl rfl, TT_8 (i := 129) rfl rfl, TT_s (i := 38) (by decide +kernel) (by decide +kernel), TT_1 (i := 13) rfl rfl, TT_8 (i := 130) rfl rfl, ⟨by decide, by decide, by decide +kernel⟩⟩
theorem mv_X12_113 : MV RX12 113 yX12_ofOutlet cX12_ofOutlet 3 (some .long) 2 := ⟨TT_8 (i := 172) rfl rfl, TT_8 (i := 174) rfl rfl, TT_s (i := 44) (by decide +kernel) (by decide +kernel), TT_1 (i := 13) rfl rfl, TT_8 (i := 175) rfl rfl, ⟨by decide, by decide, by decide +kernel⟩⟩
theorem mv_X12_118 : MV RX12 118 yX12_isOpen cX12_isOpen 2 (some .boolean) 1 := ⟨TT_8 (i := 168) rfl rfl, TT_8 (i := 170) rfl rfl, TT_s (i := 43) (by decide +kernel) (by decide +kernel), TT_1 (i := 13) rfl rfl, TT_8 (i := 171) rfl rfl, ⟨by decide, by decide, by decide +kernel⟩⟩
theorem mv_X12_121 : MV RX12 121 yX12_cellOf cX12_cellOf 2 (some .int) 1 := ⟨TT_8 (i := 176) rfl rfl, TT_8 (i := 178) rfl rfl, TT_s (i := 45) (by decide +kernel) (by decide +kernel), TT_1 (i := 13) rfl rfl, TT_8 (i := 179) rfl rfl, ⟨by decide, by decide, by decide +kernel⟩⟩
theorem mv_X12_57 : MV RX12 57 yX12_copyBlock cX12_copyBlock 4 none 2 := ⟨TT_8 (i := 63) rfl rfl, TT_8 (i := 65) rfl rfl, TT_s (i := 31) (by decide +kernel) (by decide +kernel), TT_1 (i := 13) rfl rfl, TT_8 (i := 66) rfl rfl, ⟨by decide, by decide, by decide +kernel⟩⟩
theorem mv_X12_63 : MV RX12 63 yX12_of cX12_of 3 (some .long) 2 := ⟨TT_8 (i := 157) rfl rfl, TT_8 (i := 159) rfl rfl, TT_s (i := 41) (by decide +kernel) (by decide +kernel), TT_1 (i := 13) rfl rfl, TT_8 (i := 160) rfl rfl, ⟨by decide, by decide, by decide +kernel⟩⟩
theorem mv_X12_71 : MV RX12 71 yX12_ownerOf cX12_ownerOf 3 (some .int) 2 := ⟨TT_8 (i := 91) rfl rfl, TT_8 (i := 93) rfl rfl, TT_s (i := 33) (by decide +kernel) (by decide +kernel), TT_1 (i := 13) rfl rfl, TT_8 (i := 94) rfl rfl, ⟨by decide, by decide, by decide +kernel⟩⟩
theorem mv_X12_81 : MV RX12 81 yX12_throwsIf cX12_throwsIf 3 (some .boolean) 2 := ⟨TT_8 (i := 87) rfl rfl, TT_8 (i := 89) rfl rfl, TT_s (i := 32) (by decide +kernel) (by decide +kernel), TT_1 (i := 13) rfl rfl, TT_8 (i := 90) rfl rfl, ⟨by decide, by decide, by decide +kernel⟩⟩
theorem mv_X12_85 : MV RX12 85 yX12_isFranchisee cX12_isFranchisee 2 (some .boolean) 1 := ⟨TT_8 (i := 99) rfl rfl, TT_8 (i := 101) rfl rfl, TT_s (i := 34) (by decide +kernel) (by decide +kernel), TT_1 (i := 13) rfl rfl, TT_8 (i := 102) rfl rfl, ⟨by decide, by decide, by decide +kernel⟩⟩
theorem mv_X12_89 : MV RX12 89 yX12_areaOf cX12_areaOf 4 (some .int) 1 := ⟨TT_8 (i := 103) rfl rfl, TT_8 (i := 105) rfl rfl, TT_s (i := 35) (by decide +kernel) (by decide +kernel), TT_1 (i := 13) rfl rfl, TT_8 (i := 106) rfl rfl, ⟨by decide, by decide, by decide +kernel⟩⟩
theorem mv_X12_93 : MV RX12 93 yX12_owns cX12_owns 4 (some .boolean) 3 := ⟨TT_8 (i := 115) rfl rfl, TT_8 (i := 117) rfl rfl, TT_s (i := 37) (by decide +kernel) (by decide +kernel), TT_1 (i := 13) rfl rfl, TT_8 (i := 118) rfl rfl, ⟨by decide, by decide, by decide +kernel⟩⟩
theorem mv_X12_97 : MV RX12 97 yX12_neighboursOf cX12_neighboursOf 4 (some .int) 3 := ⟨TT_8 (i := 111) rfl rfl, TT_8 (i := 113) rfl rfl, TT_s (i := 36) (by decide +kernel) (by decide +kernel), TT_1 (i := 13) rfl rfl, TT_8 (i := 114) rfl rfl, ⟨by decide, by decide, by decide +kernel⟩⟩
def tab_X11_cellCode : List En := [(0, 1, 0, 100), (2, 4, 1, 0), (3, 19, 0, 0), (4, 4, 0, 0), (5, 17, 0, 0)]
theorem ok_X11_cellCode : tab_X11_cellCode.all (okE cX11_cellCode) = true := by decide +kernel
def ed_X11_cellCode : List (Nat × Instr × Nat) := [(6, .ireturn, 1)]
theorem okd_X11_cellCode : ed_X11_cellCode.all (okD cX11_cellCode) = true := by decide +kernel
def f_X11_cellCode (S : St) (p0 : Int32) (p1 : Int32) : Option (Int32) := some ((100 * p1) + p0)
set_option maxHeartbeats 4000000 in
set_option maxRecDepth 100000 in
theorem c_X11_cellCode (S : St) (p0 : Int32) (p1 : Int32) : Ct yX11_cellCode cX11_cellCode 2 (some .int) 0 0 (fun _ => [.int p0, .int p1]) [] S (f_X11_cellCode S p0 p1) oI (fun _ => S) := by
  refine Ct_of RX11 rfl (by decide) (fun _ => Nat.le_of_ble_eq_true rfl) 0 (vs := fun _ => [some (.int p0), some (.int p1)]) (fun _ => rfl) (fun C X E hr ht => ?_)
  show Jd C 2 (QJ C oI (fun _ => S)) S 0 [some (.int p0), some (.int p1)] [] (f_X11_cellCode S p0 p1)
  unfold f_X11_cellCode
  refine s_run X ok_X11_cellCode 0 5 (pc' := 6) (vs' := [some (.int p0), some (.int p1)]) (st' := [.int ((100 * p1) + p0)]) rfl ?_
  exact s_iret X hr (dk okd_X11_cellCode 0 rfl) rfl rfl
def tab_X11_rateOf : List En := [(0, 6, 0, 0), (1, 6, 2, 0), (2, 25, 0, 0), (6, 23, 0, 0)]
theorem ok_X11_rateOf : tab_X11_rateOf.all (okE cX11_rateOf) = true := by decide +kernel
def ed_X11_rateOf : List (Nat × Instr × Nat) := [(3, .ldc2_w 430, 3), (7, .ldc2_w 432, 3), (10, .ldiv, 1), (11, .lreturn, 1)]
theorem okd_X11_rateOf : ed_X11_rateOf.all (okD cX11_rateOf) = true := by decide +kernel
def f_X11_rateOf (S : St) (p0 : Int64) (p1 : Int64) : Option (Int64) := some (((p0 * p1) + 5000) / 10000)
set_option maxHeartbeats 4000000 in
set_option maxRecDepth 100000 in
theorem c_X11_rateOf (S : St) (p0 : Int64) (p1 : Int64) : Ct yX11_rateOf cX11_rateOf 4 (some .long) 0 0 (fun _ => [.long p0, .long p1]) [] S (f_X11_rateOf S p0 p1) oL (fun _ => S) := by
  refine Ct_of RX11 rfl (by decide) (fun _ => Nat.le_of_ble_eq_true rfl) 0 (vs := fun _ => [some (.long p0), none, some (.long p1), none]) (fun _ => rfl) (fun C X E hr ht => ?_)
  show Jd C 4 (QJ C oL (fun _ => S)) S 0 [some (.long p0), none, some (.long p1), none] [] (f_X11_rateOf S p0 p1)
  unfold f_X11_rateOf
  refine s_run X ok_X11_rateOf 0 3 (pc' := 3) (vs' := [some (.long p0), none, some (.long p1), none]) (st' := [.long (p0 * p1)]) rfl ?_
  refine s_ldc2 X cl_X11_430 (dk okd_X11_rateOf 0 rfl) ?_
  refine s_run X ok_X11_rateOf 3 1 (pc' := 7) (vs' := [some (.long p0), none, some (.long p1), none]) (st' := [.long ((p0 * p1) + 5000)]) rfl ?_
  refine s_ldc2 X cl_X11_432 (dk okd_X11_rateOf 1 rfl) ?_
  refine s_ldiv0 X (dk okd_X11_rateOf 2 rfl) (by decide) ?_
  exact s_lret X hr (dk okd_X11_rateOf 3 rfl) rfl rfl
def tab_X12_clearBlock : List En := [(0, 0, 0, 0), (1, 10, 2, 0), (2, 4, 2, 0), (3, 2, 0, 5054), (9, 8, 0, 0), (13, 2, 0, 5054), (16, 4, 1, 0), (17, 19, 0, 0), (18, 4, 2, 0), (19, 17, 0, 0), (20, 3, 0, 0), (22, 16, 2, 1), (25, 41, 2, 0), (28, 0, 0, 0), (29, 10, 2, 0), (30, 4, 2, 0), (31, 2, 0, 900), (37, 8, 0, 0), (41, 2, 0, 5054), (44, 4, 1, 0), (45, 19, 0, 0), (46, 2, 0, 250), (49, 17, 0, 0), (50, 4, 2, 0), (51, 17, 0, 0), (56, 16, 2, 1), (59, 41, 30, 0)]
theorem ok_X12_clearBlock : tab_X12_clearBlock.all (okE cX12_clearBlock) = true := by decide +kernel
def ed_X12_clearBlock : List (Nat × Instr × Nat) := [(6, .if_icmp .ge 22, 3), (10, .getfield 9, 3), (21, .lastore, 1), (34, .if_icmp .ge 28, 3), (38, .getfield 9, 3), (52, .ldc2_w 48, 3), (55, .lastore, 1), (62, .return_, 1)]
theorem okd_X12_clearBlock : ed_X12_clearBlock.all (okD cX12_clearBlock) = true := by decide +kernel
def f_X12_clearBlock (S : St) (p0 : Nat) (p1 : Int32) : Option (St) := jn (κ := St → Option (St)) (fun S1 => lp (κ := Int32 → St → Option (St)) (fun _ _ => none) (fun k6 x4 S5 => if 900 ≤ x4 then (some S5) else (lt (gR S5 p0 0) fun (a8 : Nat) => stJ S5 a8 (((5054 * p1) + 250) + x4) (-1) fun (S10 : St) => k6 (x4 + 1) S10)) FU 0 S1) fun k2 => lp (κ := Int32 → St → Option (St)) (fun _ _ => none) (fun k13 x11 S12 => if 5054 ≤ x11 then (k2 S12) else (lt (gR S12 p0 0) fun (a15 : Nat) => stJ S12 a15 ((5054 * p1) + x11) 0 fun (S17 : St) => k13 (x11 + 1) S17)) FU 0 S
set_option maxHeartbeats 4000000 in
set_option maxRecDepth 100000 in
theorem c_X12_clearBlock (S : St) (p0 : Nat) (p1 : Int32) : Ct yX12_clearBlock cX12_clearBlock 3 none 0 0 (fun _ => [.ref p0, .int p1]) [(p0, 11)] S (f_X12_clearBlock S p0 p1) oV sV := by
  refine Ct_of RX12 rfl (by decide) (fun _ => Nat.le_of_ble_eq_true rfl) 1 (vs := fun _ => [some (.ref p0), some (.int p1), none]) (fun _ => rfl) (fun C X E hr ht => ?_)
  have t0_ : tT C p0 11 := ht (p0, 11) (by simp)
  show Jd C 3 (QJ C oV sV) S 0 [some (.ref p0), some (.int p1), none] [] (f_X12_clearBlock S p0 p1)
  unfold f_X12_clearBlock
  refine s_run X ok_X12_clearBlock 0 2 (pc' := 2) (vs' := [some (.ref p0), some (.int p1), some (.int 0)]) (st' := []) rfl ?_
  refine s_jn (κ := St → Option (St)) (fun k2 => ∀ (S1 : St), Jd C 3 (QJ C oV sV) S1 28 [some (.ref p0), some (.int p1), none] [] (k2 S1)) (fun S1 => ?_) (fun k2 h3 => ?_)
  · refine s_run X ok_X12_clearBlock 13 2 (pc' := 30) (vs' := [some (.ref p0), some (.int p1), some (.int 0)]) (st' := []) rfl ?_
    refine s_lp (κ := Int32 → St → Option (St)) (fun k6 => ∀ (x4 : Int32) (S5 : St), Jd C 3 (QJ C oV sV) S5 30 [some (.ref p0), some (.int p1), some (.int x4)] [] (k6 x4 S5)) (fun _ _ => s_none) (fun k6 h7 x4 S5 => ?_) FU 0 S1
    refine s_run X ok_X12_clearBlock 15 2 (pc' := 34) (vs' := [some (.ref p0), some (.int p1), some (.int x4)]) (st' := [.int 900, .int x4]) rfl ?_
    refine s_icmp_ge (tgt := 62) X (dk okd_X12_clearBlock 3 rfl) (by decide) ?_ ?_
    · exact s_vret X hr (dk okd_X12_clearBlock 7 rfl) rfl rfl
    · refine s_run X ok_X12_clearBlock 17 1 (pc' := 38) (vs' := [some (.ref p0), some (.int p1), some (.int x4)]) (st' := [.ref p0]) rfl ?_
      refine s_getR X fl_X12_9 t0_ (dk okd_X12_clearBlock 4 rfl) (fun a8 (t9 : tT C a8 14) => ?_)
      refine s_run X ok_X12_clearBlock 18 7 (pc' := 52) (vs' := [some (.ref p0), some (.int p1), some (.int x4)]) (st' := [.int (((5054 * p1) + 250) + x4), .ref a8]) rfl ?_
      refine s_ldc2 X cl_X12_48 (dk okd_X12_clearBlock 5 rfl) ?_
      refine s_last X t9 (dk okd_X12_clearBlock 6 rfl) (fun S10 => ?_)
      refine s_run X ok_X12_clearBlock 25 2 (pc' := 30) (vs' := [some (.ref p0), some (.int p1), some (.int (x4 + 1))]) (st' := []) rfl ?_
      exact h7 (x4 + 1) S10
  · refine s_lp (κ := Int32 → St → Option (St)) (fun k13 => ∀ (x11 : Int32) (S12 : St), Jd C 3 (QJ C oV sV) S12 2 [some (.ref p0), some (.int p1), some (.int x11)] [] (k13 x11 S12)) (fun _ _ => s_none) (fun k13 h14 x11 S12 => ?_) FU 0 S
    refine s_run X ok_X12_clearBlock 2 2 (pc' := 6) (vs' := [some (.ref p0), some (.int p1), some (.int x11)]) (st' := [.int 5054, .int x11]) rfl ?_
    refine s_icmp_ge (tgt := 28) X (dk okd_X12_clearBlock 0 rfl) (by decide) ?_ ?_
    · exact s_less [true, true, false] rfl (h3 S12)
    · refine s_run X ok_X12_clearBlock 4 1 (pc' := 10) (vs' := [some (.ref p0), some (.int p1), some (.int x11)]) (st' := [.ref p0]) rfl ?_
      refine s_getR X fl_X12_9 t0_ (dk okd_X12_clearBlock 1 rfl) (fun a15 (t16 : tT C a15 14) => ?_)
      refine s_run X ok_X12_clearBlock 5 6 (pc' := 21) (vs' := [some (.ref p0), some (.int p1), some (.int x11)]) (st' := [.long 0, .int ((5054 * p1) + x11), .ref a15]) rfl ?_
      refine s_last X t16 (dk okd_X12_clearBlock 2 rfl) (fun S17 => ?_)
      refine s_run X ok_X12_clearBlock 11 2 (pc' := 2) (vs' := [some (.ref p0), some (.int p1), some (.int (x11 + 1))]) (st' := []) rfl ?_
      exact h14 (x11 + 1) S17
def tab_X12_copyBlock : List En := [(0, 0, 0, 0), (1, 10, 3, 0), (2, 4, 3, 0), (3, 2, 0, 5054), (9, 8, 0, 0), (13, 2, 0, 5054), (16, 4, 2, 0), (17, 19, 0, 0), (18, 4, 3, 0), (19, 17, 0, 0), (20, 8, 0, 0), (24, 2, 0, 5054), (27, 4, 1, 0), (28, 19, 0, 0), (29, 4, 3, 0), (30, 17, 0, 0), (33, 16, 3, 1), (36, 41, 2, 0)]
theorem ok_X12_copyBlock : tab_X12_copyBlock.all (okE cX12_copyBlock) = true := by decide +kernel
def ed_X12_copyBlock : List (Nat × Instr × Nat) := [(6, .if_icmp .ge 33, 3), (10, .getfield 9, 3), (21, .getfield 9, 3), (31, .laload, 1), (32, .lastore, 1), (39, .return_, 1)]
theorem okd_X12_copyBlock : ed_X12_copyBlock.all (okD cX12_copyBlock) = true := by decide +kernel
def f_X12_copyBlock (S : St) (p0 : Nat) (p1 : Int32) (p2 : Int32) : Option (St) := lp (κ := Int32 → St → Option (St)) (fun _ _ => none) (fun k3 x1 S2 => if 5054 ≤ x1 then (some S2) else (lt (gR S2 p0 0) fun (a5 : Nat) => lt (gR S2 p0 0) fun (a7 : Nat) => ldJ S2 a7 ((5054 * p1) + x1) fun (v9 : Int64) => stJ S2 a5 ((5054 * p2) + x1) v9 fun (S10 : St) => k3 (x1 + 1) S10)) FU 0 S
set_option maxHeartbeats 4000000 in
set_option maxRecDepth 100000 in
theorem c_X12_copyBlock (S : St) (p0 : Nat) (p1 : Int32) (p2 : Int32) : Ct yX12_copyBlock cX12_copyBlock 4 none 0 0 (fun _ => [.ref p0, .int p1, .int p2]) [(p0, 11)] S (f_X12_copyBlock S p0 p1 p2) oV sV := by
  refine Ct_of RX12 rfl (by decide) (fun _ => Nat.le_of_ble_eq_true rfl) 1 (vs := fun _ => [some (.ref p0), some (.int p1), some (.int p2), none]) (fun _ => rfl) (fun C X E hr ht => ?_)
  have t0_ : tT C p0 11 := ht (p0, 11) (by simp)
  show Jd C 4 (QJ C oV sV) S 0 [some (.ref p0), some (.int p1), some (.int p2), none] [] (f_X12_copyBlock S p0 p1 p2)
  unfold f_X12_copyBlock
  refine s_run X ok_X12_copyBlock 0 2 (pc' := 2) (vs' := [some (.ref p0), some (.int p1), some (.int p2), some (.int 0)]) (st' := []) rfl ?_
  refine s_lp (κ := Int32 → St → Option (St)) (fun k3 => ∀ (x1 : Int32) (S2 : St), Jd C 4 (QJ C oV sV) S2 2 [some (.ref p0), some (.int p1), some (.int p2), some (.int x1)] [] (k3 x1 S2)) (fun _ _ => s_none) (fun k3 h4 x1 S2 => ?_) FU 0 S
  refine s_run X ok_X12_copyBlock 2 2 (pc' := 6) (vs' := [some (.ref p0), some (.int p1), some (.int p2), some (.int x1)]) (st' := [.int 5054, .int x1]) rfl ?_
  refine s_icmp_ge (tgt := 39) X (dk okd_X12_copyBlock 0 rfl) (by decide) ?_ ?_
  · exact s_vret X hr (dk okd_X12_copyBlock 5 rfl) rfl rfl
  · refine s_run X ok_X12_copyBlock 4 1 (pc' := 10) (vs' := [some (.ref p0), some (.int p1), some (.int p2), some (.int x1)]) (st' := [.ref p0]) rfl ?_
    refine s_getR X fl_X12_9 t0_ (dk okd_X12_copyBlock 1 rfl) (fun a5 (t6 : tT C a5 14) => ?_)
    refine s_run X ok_X12_copyBlock 5 6 (pc' := 21) (vs' := [some (.ref p0), some (.int p1), some (.int p2), some (.int x1)]) (st' := [.ref p0, .int ((5054 * p2) + x1), .ref a5]) rfl ?_
    refine s_getR X fl_X12_9 t0_ (dk okd_X12_copyBlock 2 rfl) (fun a7 (t8 : tT C a7 14) => ?_)
    refine s_run X ok_X12_copyBlock 11 5 (pc' := 31) (vs' := [some (.ref p0), some (.int p1), some (.int p2), some (.int x1)]) (st' := [.int ((5054 * p1) + x1), .ref a7, .int ((5054 * p2) + x1), .ref a5]) rfl ?_
    refine s_lald X t8 (dk okd_X12_copyBlock 3 rfl) (fun v9 => ?_)
    refine s_last X t6 (dk okd_X12_copyBlock 4 rfl) (fun S10 => ?_)
    refine s_run X ok_X12_copyBlock 16 2 (pc' := 2) (vs' := [some (.ref p0), some (.int p1), some (.int p2), some (.int (x1 + 1))]) (st' := []) rfl ?_
    exact h4 (x1 + 1) S10
def tab_X12_thrown : List En := [(0, 8, 0, 0)]
theorem ok_X12_thrown : tab_X12_thrown.all (okE cX12_thrown) = true := by decide +kernel
def ed_X12_thrown : List (Nat × Instr × Nat) := [(1, .getfield 50, 3), (4, .ireturn, 1)]
theorem okd_X12_thrown : ed_X12_thrown.all (okD cX12_thrown) = true := by decide +kernel
def f_X12_thrown (S : St) (p0 : Nat) : Option (Int32) := lt (gI S p0 2) fun (v1 : Int32) => some v1
set_option maxHeartbeats 4000000 in
set_option maxRecDepth 100000 in
theorem c_X12_thrown (S : St) (p0 : Nat) : Ct yX12_thrown cX12_thrown 1 (some .int) 0 0 (fun _ => [.ref p0]) [(p0, 11)] S (f_X12_thrown S p0) oI (fun _ => S) := by
  refine Ct_of RX12 rfl (by decide) (fun _ => Nat.le_of_ble_eq_true rfl) 0 (vs := fun _ => [some (.ref p0)]) (fun _ => rfl) (fun C X E hr ht => ?_)
  have t0_ : tT C p0 11 := ht (p0, 11) (by simp)
  show Jd C 1 (QJ C oI (fun _ => S)) S 0 [some (.ref p0)] [] (f_X12_thrown S p0)
  unfold f_X12_thrown
  refine s_run X ok_X12_thrown 0 1 (pc' := 1) (vs' := [some (.ref p0)]) (st' := [.ref p0]) rfl ?_
  refine s_getI X fl_X12_50 t0_ (dk okd_X12_thrown 0 rfl) (fun v1 => ?_)
  exact s_iret X hr (dk okd_X12_thrown 1 rfl) rfl rfl
def tab_X12_throwsIf : List En := [(0, 4, 1, 0), (4, 8, 0, 0), (5, 4, 2, 0), (9, 4, 1, 0)]
theorem ok_X12_throwsIf : tab_X12_throwsIf.all (okE cX12_throwsIf) = true := by decide +kernel
def ed_X12_throwsIf : List (Nat × Instr × Nat) := [(1, .ifCond .eq 8, 3), (6, .putfield 50, 3), (10, .ireturn, 1)]
theorem okd_X12_throwsIf : ed_X12_throwsIf.all (okD cX12_throwsIf) = true := by decide +kernel
def f_X12_throwsIf (S : St) (p0 : Nat) (p1 : Int32) (p2 : Int32) : Option (Int32 × St) := jn (κ := St → Option (Int32 × St)) (fun S1 => zc p1 (some (p1, S1))) fun k2 => if p1 = 0 then (k2 S) else (lt (uI S p0 2 p2) fun (S4 : St) => k2 S4)
set_option maxHeartbeats 4000000 in
set_option maxRecDepth 100000 in
theorem c_X12_throwsIf (S : St) (p0 : Nat) (p1 : Int32) (p2 : Int32) : Ct yX12_throwsIf cX12_throwsIf 3 (some .boolean) 0 0 (fun _ => [.ref p0, .int p1, .int p2]) [(p0, 11)] S (f_X12_throwsIf S p0 p1 p2) oIS sS := by
  refine Ct_of RX12 rfl (by decide) (fun _ => Nat.le_of_ble_eq_true rfl) 0 (vs := fun _ => [some (.ref p0), some (.int p1), some (.int p2)]) (fun _ => rfl) (fun C X E hr ht => ?_)
  have t0_ : tT C p0 11 := ht (p0, 11) (by simp)
  show Jd C 3 (QJ C oIS sS) S 0 [some (.ref p0), some (.int p1), some (.int p2)] [] (f_X12_throwsIf S p0 p1 p2)
  unfold f_X12_throwsIf
  refine s_run X ok_X12_throwsIf 0 1 (pc' := 1) (vs' := [some (.ref p0), some (.int p1), some (.int p2)]) (st' := [.int p1]) rfl ?_
  refine s_jn (κ := St → Option (Int32 × St)) (fun k2 => ∀ (S1 : St), Jd C 3 (QJ C oIS sS) S1 9 [none, some (.int p1), none] [] (k2 S1)) (fun S1 => ?_) (fun k2 h3 => ?_)
  · refine s_run X ok_X12_throwsIf 3 1 (pc' := 10) (vs' := [none, some (.int p1), none]) (st' := [.int p1]) rfl ?_
    exact s_zret X hr (dk okd_X12_throwsIf 2 rfl) rfl rfl
  · refine s_if_eq (tgt := 9) X (dk okd_X12_throwsIf 0 rfl) (by decide) ?_ ?_
    · exact s_less [false, true, false] rfl (h3 S)
    · refine s_run X ok_X12_throwsIf 1 2 (pc' := 6) (vs' := [some (.ref p0), some (.int p1), some (.int p2)]) (st' := [.int p2, .ref p0]) rfl ?_
      refine s_putI X fp_X12_50 t0_ (dk okd_X12_throwsIf 1 rfl) (fun S4 => ?_)
      exact s_less [false, true, false] rfl (h3 S4)
def tab_X12_inRange : List En := [(0, 6, 0, 0), (1, 6, 2, 0), (2, 40, 0, 0), (6, 6, 0, 0), (7, 7, 4, 0), (9, 40, 0, 0), (13, 0, 0, 1), (14, 41, 18, 0), (17, 0, 0, 0)]
theorem ok_X12_inRange : tab_X12_inRange.all (okE cX12_inRange) = true := by decide +kernel
def ed_X12_inRange : List (Nat × Instr × Nat) := [(3, .ifCond .lt 14, 3), (10, .ifCond .gt 7, 3), (18, .ireturn, 1)]
theorem okd_X12_inRange : ed_X12_inRange.all (okD cX12_inRange) = true := by decide +kernel
def f_X12_inRange (S : St) (p0 : Int64) (p1 : Int64) (p2 : Int64) : Option (Int32) := jn (κ := Option (Int32)) (some 0) fun k1 => if p0 < p1 then (k1) else (if p2 < p0 then (k1) else (some 1))
set_option maxHeartbeats 4000000 in
set_option maxRecDepth 100000 in
theorem c_X12_inRange (S : St) (p0 : Int64) (p1 : Int64) (p2 : Int64) : Ct yX12_inRange cX12_inRange 6 (some .boolean) 0 0 (fun _ => [.long p0, .long p1, .long p2]) [] S (f_X12_inRange S p0 p1 p2) oI (fun _ => S) := by
  refine Ct_of RX12 rfl (by decide) (fun _ => Nat.le_of_ble_eq_true rfl) 0 (vs := fun _ => [some (.long p0), none, some (.long p1), none, some (.long p2), none]) (fun _ => rfl) (fun C X E hr ht => ?_)
  show Jd C 6 (QJ C oI (fun _ => S)) S 0 [some (.long p0), none, some (.long p1), none, some (.long p2), none] [] (f_X12_inRange S p0 p1 p2)
  unfold f_X12_inRange
  refine s_run X ok_X12_inRange 0 3 (pc' := 3) (vs' := [some (.long p0), none, some (.long p1), none, some (.long p2), none]) (st' := [.int (lg_cmp p0 p1)]) rfl ?_
  refine s_jn (κ := Option (Int32)) (fun k1 => Jd C 6 (QJ C oI (fun _ => S)) S 17 [none, none, none, none, none, none] [] k1) ?_ (fun k1 h2 => ?_)
  · refine s_run X ok_X12_inRange 8 1 (pc' := 18) (vs' := [none, none, none, none, none, none]) (st' := [.int 0]) rfl ?_
    exact s_zret0 X hr (dk okd_X12_inRange 2 rfl) (by decide) rfl rfl
  · refine s_lif_lt (tgt := 17) X (dk okd_X12_inRange 0 rfl) (by decide) ?_ ?_
    · exact s_less [false, false, false, false, false, false] rfl (h2)
    · refine s_run X ok_X12_inRange 3 3 (pc' := 10) (vs' := [some (.long p0), none, some (.long p1), none, some (.long p2), none]) (st' := [.int (lg_cmp p0 p2)]) rfl ?_
      refine s_lif_gt (tgt := 17) X (dk okd_X12_inRange 1 rfl) (by decide) ?_ ?_
      · exact s_less [false, false, false, false, false, false] rfl (h2)
      · refine s_run X ok_X12_inRange 6 2 (pc' := 18) (vs' := [some (.long p0), none, some (.long p1), none, some (.long p2), none]) (st' := [.int 1]) rfl ?_
        exact s_zret0 X hr (dk okd_X12_inRange 2 rfl) (by decide) rfl rfl
def tab_X12_saveSnapshot : List En := [(0, 8, 0, 0), (1, 0, 0, 0), (5, 4, 1, 0), (6, 31, 0, 0), (7, 3, 0, 0), (8, 3, 1, 0), (15, 0, 0, 0), (17, 8, 0, 0), (18, 0, 0, 0), (19, 0, 0, 1), (20, 4, 1, 0), (21, 17, 0, 0), (25, 8, 0, 0), (29, 4, 1, 0), (30, 0, 0, 1), (32, 0, 0, 1)]
theorem ok_X12_saveSnapshot : tab_X12_saveSnapshot.all (okE cX12_saveSnapshot) = true := by decide +kernel
def ed_X12_saveSnapshot : List (Nat × Instr × Nat) := [(2, .putfield 50, 3), (9, .invokestatic 53, 3), (12, .ifCond .ne 5, 3), (16, .ireturn, 1), (22, .invokevirtual 57, 3), (26, .getfield 13, 3), (31, .bastore, 1), (33, .ireturn, 1)]
theorem okd_X12_saveSnapshot : ed_X12_saveSnapshot.all (okD cX12_saveSnapshot) = true := by decide +kernel
def f_X12_saveSnapshot (S : St) (p0 : Nat) (p1 : Int32) : Option (Int32 × St) := lt (uI S p0 2 0) fun (S1 : St) => cl (f_X12_inRange S1 (Int32.toInt64 p1) 0 1) fun (v2 : Int32) => if v2 = 0 then (some (0, S1)) else (cl (f_X12_copyBlock S1 p0 0 (1 + p1)) fun (S3 : St) => lt (gR S3 p0 1) fun (a4 : Nat) => stI S3 a4 p1 (vp_nar .boolean 1) fun (S6 : St) => some (1, S6))
set_option maxHeartbeats 4000000 in
set_option maxRecDepth 100000 in
theorem c_X12_saveSnapshot (S : St) (p0 : Nat) (p1 : Int32) : Ct yX12_saveSnapshot cX12_saveSnapshot 2 (some .boolean) 1 25 (fun _ => [.ref p0, .int p1]) [(p0, 11)] S (f_X12_saveSnapshot S p0 p1) oIS sS := by
  refine Ct_of RX12 rfl (by decide) (fun _ => Nat.le_of_ble_eq_true rfl) 0 (vs := fun _ => [some (.ref p0), some (.int p1)]) (fun _ => rfl) (fun C X E hr ht => ?_)
  have t0_ : tT C p0 11 := ht (p0, 11) (by simp)
  show Jd C 2 (QJ C oIS sS) S 0 [some (.ref p0), some (.int p1)] [] (f_X12_saveSnapshot S p0 p1)
  unfold f_X12_saveSnapshot
  refine s_run X ok_X12_saveSnapshot 0 2 (pc' := 2) (vs' := [some (.ref p0), some (.int p1)]) (st' := [.int 0, .ref p0]) rfl ?_
  refine s_putI X fp_X12_50 t0_ (dk okd_X12_saveSnapshot 0 rfl) (fun S1 => ?_)
  refine s_run X ok_X12_saveSnapshot 2 4 (pc' := 9) (vs' := [some (.ref p0), some (.int p1)]) (st' := [.long 1, .long 0, .long (Int32.toInt64 p1)]) rfl ?_
  refine s_callS (As := [.long (Int32.toInt64 p1), .long 0, .long 1]) (rest := []) X E ms_X12_53 (c_X12_inRange S1 (Int32.toInt64 p1) 0 1) rfl (ta0) rfl rfl (Nat.le_of_ble_eq_true rfl) (Nat.le_of_ble_eq_true rfl) (Nat.le_of_ble_eq_true rfl) (dk okd_X12_saveSnapshot 1 rfl) (st' := fun v2 => [.int v2]) (fun _ => rfl) (fun v2 => ?_)
  refine s_if_ne (tgt := 17) X (dk okd_X12_saveSnapshot 2 rfl) (by decide) ?_ ?_
  · refine s_run X ok_X12_saveSnapshot 7 5 (pc' := 22) (vs' := [some (.ref p0), some (.int p1)]) (st' := [.int (1 + p1), .int 0, .ref p0]) rfl ?_
    refine s_callV (b := p0) (As := [.int 0, .int (1 + p1)]) (rest := []) X E mv_X12_57 (c_X12_copyBlock S1 p0 0 (1 + p1)) rfl (ta1 t0_) rfl (by decide) t0_ rfl rfl (Nat.le_of_ble_eq_true rfl) (Nat.le_of_ble_eq_true rfl) (Nat.le_of_ble_eq_true rfl) (dk okd_X12_saveSnapshot 4 rfl) (st' := fun S3 => []) (fun _ => rfl) (fun S3 => ?_)
    refine s_run X ok_X12_saveSnapshot 12 1 (pc' := 26) (vs' := [some (.ref p0), some (.int p1)]) (st' := [.ref p0]) rfl ?_
    refine s_getR X fl_X12_13 t0_ (dk okd_X12_saveSnapshot 5 rfl) (fun a4 (t5 : tT C a4 15) => ?_)
    refine s_run X ok_X12_saveSnapshot 13 2 (pc' := 31) (vs' := [some (.ref p0), some (.int p1)]) (st' := [.int 1, .int p1, .ref a4]) rfl ?_
    refine s_zast X t5 (dk okd_X12_saveSnapshot 6 rfl) (fun S6 => ?_)
    refine s_run X ok_X12_saveSnapshot 15 1 (pc' := 33) (vs' := [some (.ref p0), some (.int p1)]) (st' := [.int 1]) rfl ?_
    exact s_zret0 X hr (dk okd_X12_saveSnapshot 7 rfl) (by decide) rfl rfl
  · refine s_run X ok_X12_saveSnapshot 6 1 (pc' := 16) (vs' := [some (.ref p0), some (.int p1)]) (st' := [.int 0]) rfl ?_
    exact s_zret0 X hr (dk okd_X12_saveSnapshot 3 rfl) (by decide) rfl rfl
def tab_X12_restoreSnapshot : List En := [(0, 8, 0, 0), (1, 0, 0, 0), (5, 4, 1, 0), (6, 31, 0, 0), (7, 3, 0, 0), (8, 3, 1, 0), (15, 8, 0, 0), (19, 4, 1, 0), (24, 0, 0, 0), (26, 8, 0, 0), (27, 0, 0, 1), (28, 4, 1, 0), (29, 17, 0, 0), (30, 0, 0, 0), (34, 0, 0, 1)]
theorem ok_X12_restoreSnapshot : tab_X12_restoreSnapshot.all (okE cX12_restoreSnapshot) = true := by decide +kernel
def ed_X12_restoreSnapshot : List (Nat × Instr × Nat) := [(2, .putfield 50, 3), (9, .invokestatic 53, 3), (12, .ifCond .eq 12, 3), (16, .getfield 13, 3), (20, .baload, 1), (21, .ifCond .ne 5, 3), (25, .ireturn, 1), (31, .invokevirtual 57, 3), (35, .ireturn, 1)]
theorem okd_X12_restoreSnapshot : ed_X12_restoreSnapshot.all (okD cX12_restoreSnapshot) = true := by decide +kernel
def f_X12_restoreSnapshot (S : St) (p0 : Nat) (p1 : Int32) : Option (Int32 × St) := lt (uI S p0 2 0) fun (S1 : St) => cl (f_X12_inRange S1 (Int32.toInt64 p1) 0 1) fun (v2 : Int32) => if v2 = 0 then (some (0, S1)) else (lt (gR S1 p0 1) fun (a3 : Nat) => ldI S1 a3 p1 fun (v5 : Int32) => if v5 = 0 then (some (0, S1)) else (cl (f_X12_copyBlock S1 p0 (1 + p1) 0) fun (S6 : St) => some (1, S6)))
set_option maxHeartbeats 4000000 in
set_option maxRecDepth 100000 in
theorem c_X12_restoreSnapshot (S : St) (p0 : Nat) (p1 : Int32) : Ct yX12_restoreSnapshot cX12_restoreSnapshot 2 (some .boolean) 1 25 (fun _ => [.ref p0, .int p1]) [(p0, 11)] S (f_X12_restoreSnapshot S p0 p1) oIS sS := by
  refine Ct_of RX12 rfl (by decide) (fun _ => Nat.le_of_ble_eq_true rfl) 0 (vs := fun _ => [some (.ref p0), some (.int p1)]) (fun _ => rfl) (fun C X E hr ht => ?_)
  have t0_ : tT C p0 11 := ht (p0, 11) (by simp)
  show Jd C 2 (QJ C oIS sS) S 0 [some (.ref p0), some (.int p1)] [] (f_X12_restoreSnapshot S p0 p1)
  unfold f_X12_restoreSnapshot
  refine s_run X ok_X12_restoreSnapshot 0 2 (pc' := 2) (vs' := [some (.ref p0), some (.int p1)]) (st' := [.int 0, .ref p0]) rfl ?_
  refine s_putI X fp_X12_50 t0_ (dk okd_X12_restoreSnapshot 0 rfl) (fun S1 => ?_)
  refine s_run X ok_X12_restoreSnapshot 2 4 (pc' := 9) (vs' := [some (.ref p0), some (.int p1)]) (st' := [.long 1, .long 0, .long (Int32.toInt64 p1)]) rfl ?_
  refine s_callS (As := [.long (Int32.toInt64 p1), .long 0, .long 1]) (rest := []) X E ms_X12_53 (c_X12_inRange S1 (Int32.toInt64 p1) 0 1) rfl (ta0) rfl rfl (Nat.le_of_ble_eq_true rfl) (Nat.le_of_ble_eq_true rfl) (Nat.le_of_ble_eq_true rfl) (dk okd_X12_restoreSnapshot 1 rfl) (st' := fun v2 => [.int v2]) (fun _ => rfl) (fun v2 => ?_)
  refine s_if_eq (tgt := 24) X (dk okd_X12_restoreSnapshot 2 rfl) (by decide) ?_ ?_
  · refine s_run X ok_X12_restoreSnapshot 8 1 (pc' := 25) (vs' := [some (.ref p0), some (.int p1)]) (st' := [.int 0]) rfl ?_
    exact s_zret0 X hr (dk okd_X12_restoreSnapshot 6 rfl) (by decide) rfl rfl
  · refine s_run X ok_X12_restoreSnapshot 6 1 (pc' := 16) (vs' := [some (.ref p0), some (.int p1)]) (st' := [.ref p0]) rfl ?_
    refine s_getR X fl_X12_13 t0_ (dk okd_X12_restoreSnapshot 3 rfl) (fun a3 (t4 : tT C a3 15) => ?_)
    refine s_run X ok_X12_restoreSnapshot 7 1 (pc' := 20) (vs' := [some (.ref p0), some (.int p1)]) (st' := [.int p1, .ref a3]) rfl ?_
    refine s_zald X t4 (dk okd_X12_restoreSnapshot 4 rfl) (fun v5 => ?_)
    refine s_if_ne (tgt := 26) X (dk okd_X12_restoreSnapshot 5 rfl) (by decide) ?_ ?_
    · refine s_run X ok_X12_restoreSnapshot 9 5 (pc' := 31) (vs' := [some (.ref p0), some (.int p1)]) (st' := [.int 0, .int (1 + p1), .ref p0]) rfl ?_
      refine s_callV (b := p0) (As := [.int (1 + p1), .int 0]) (rest := []) X E mv_X12_57 (c_X12_copyBlock S1 p0 (1 + p1) 0) rfl (ta1 t0_) rfl (by decide) t0_ rfl rfl (Nat.le_of_ble_eq_true rfl) (Nat.le_of_ble_eq_true rfl) (Nat.le_of_ble_eq_true rfl) (dk okd_X12_restoreSnapshot 7 rfl) (st' := fun S6 => []) (fun _ => rfl) (fun S6 => ?_)
      refine s_run X ok_X12_restoreSnapshot 14 1 (pc' := 35) (vs' := [some (.ref p0), some (.int p1)]) (st' := [.int 1]) rfl ?_
      exact s_zret0 X hr (dk okd_X12_restoreSnapshot 8 rfl) (by decide) rfl rfl
    · refine s_run X ok_X12_restoreSnapshot 8 1 (pc' := 25) (vs' := [some (.ref p0), some (.int p1)]) (st' := [.int 0]) rfl ?_
      exact s_zret0 X hr (dk okd_X12_restoreSnapshot 6 rfl) (by decide) rfl rfl
def tab_X12_isPlan : List En := [(0, 4, 1, 0), (1, 31, 0, 0), (2, 3, 0, 0), (3, 8, 0, 0), (7, 0, 0, 1), (9, 3, 1, 0), (10, 24, 0, 0)]
theorem ok_X12_isPlan : tab_X12_isPlan.all (okE cX12_isPlan) = true := by decide +kernel
def ed_X12_isPlan : List (Nat × Instr × Nat) := [(4, .getfield 9, 3), (8, .laload, 1), (11, .invokestatic 53, 3), (14, .ireturn, 1)]
theorem okd_X12_isPlan : ed_X12_isPlan.all (okD cX12_isPlan) = true := by decide +kernel
def f_X12_isPlan (S : St) (p0 : Nat) (p1 : Int32) : Option (Int32) := lt (gR S p0 0) fun (a1 : Nat) => ldJ S a1 1 fun (v3 : Int64) => cl (f_X12_inRange S (Int32.toInt64 p1) 0 (v3 - 1)) fun (v4 : Int32) => zc v4 (some v4)
set_option maxHeartbeats 4000000 in
set_option maxRecDepth 100000 in
theorem c_X12_isPlan (S : St) (p0 : Nat) (p1 : Int32) : Ct yX12_isPlan cX12_isPlan 2 (some .boolean) 1 25 (fun _ => [.ref p0, .int p1]) [(p0, 11)] S (f_X12_isPlan S p0 p1) oI (fun _ => S) := by
  refine Ct_of RX12 rfl (by decide) (fun _ => Nat.le_of_ble_eq_true rfl) 0 (vs := fun _ => [some (.ref p0), some (.int p1)]) (fun _ => rfl) (fun C X E hr ht => ?_)
  have t0_ : tT C p0 11 := ht (p0, 11) (by simp)
  show Jd C 2 (QJ C oI (fun _ => S)) S 0 [some (.ref p0), some (.int p1)] [] (f_X12_isPlan S p0 p1)
  unfold f_X12_isPlan
  refine s_run X ok_X12_isPlan 0 4 (pc' := 4) (vs' := [some (.ref p0), some (.int p1)]) (st' := [.ref p0, .long 0, .long (Int32.toInt64 p1)]) rfl ?_
  refine s_getR X fl_X12_9 t0_ (dk okd_X12_isPlan 0 rfl) (fun a1 (t2 : tT C a1 14) => ?_)
  refine s_run X ok_X12_isPlan 4 1 (pc' := 8) (vs' := [some (.ref p0), some (.int p1)]) (st' := [.int 1, .ref a1, .long 0, .long (Int32.toInt64 p1)]) rfl ?_
  refine s_lald X t2 (dk okd_X12_isPlan 1 rfl) (fun v3 => ?_)
  refine s_run X ok_X12_isPlan 5 2 (pc' := 11) (vs' := [some (.ref p0), some (.int p1)]) (st' := [.long (v3 - 1), .long 0, .long (Int32.toInt64 p1)]) rfl ?_
  refine s_callS (As := [.long (Int32.toInt64 p1), .long 0, .long (v3 - 1)]) (rest := []) X E ms_X12_53 (c_X12_inRange S (Int32.toInt64 p1) 0 (v3 - 1)) rfl (ta0) rfl rfl (Nat.le_of_ble_eq_true rfl) (Nat.le_of_ble_eq_true rfl) (Nat.le_of_ble_eq_true rfl) (dk okd_X12_isPlan 2 rfl) (st' := fun v4 => [.int v4]) (fun _ => rfl) (fun v4 => ?_)
  exact s_zret X hr (dk okd_X12_isPlan 3 rfl) rfl rfl
def tab_X12_isFranchisee : List En := [(0, 4, 1, 0), (1, 31, 0, 0), (2, 3, 0, 0), (3, 8, 0, 0), (7, 0, 0, 2), (9, 3, 1, 0), (10, 24, 0, 0)]
theorem ok_X12_isFranchisee : tab_X12_isFranchisee.all (okE cX12_isFranchisee) = true := by decide +kernel
def ed_X12_isFranchisee : List (Nat × Instr × Nat) := [(4, .getfield 9, 3), (8, .laload, 1), (11, .invokestatic 53, 3), (14, .ireturn, 1)]
theorem okd_X12_isFranchisee : ed_X12_isFranchisee.all (okD cX12_isFranchisee) = true := by decide +kernel
def f_X12_isFranchisee (S : St) (p0 : Nat) (p1 : Int32) : Option (Int32) := lt (gR S p0 0) fun (a1 : Nat) => ldJ S a1 2 fun (v3 : Int64) => cl (f_X12_inRange S (Int32.toInt64 p1) 0 (v3 - 1)) fun (v4 : Int32) => zc v4 (some v4)
set_option maxHeartbeats 4000000 in
set_option maxRecDepth 100000 in
theorem c_X12_isFranchisee (S : St) (p0 : Nat) (p1 : Int32) : Ct yX12_isFranchisee cX12_isFranchisee 2 (some .boolean) 1 25 (fun _ => [.ref p0, .int p1]) [(p0, 11)] S (f_X12_isFranchisee S p0 p1) oI (fun _ => S) := by
  refine Ct_of RX12 rfl (by decide) (fun _ => Nat.le_of_ble_eq_true rfl) 0 (vs := fun _ => [some (.ref p0), some (.int p1)]) (fun _ => rfl) (fun C X E hr ht => ?_)
  have t0_ : tT C p0 11 := ht (p0, 11) (by simp)
  show Jd C 2 (QJ C oI (fun _ => S)) S 0 [some (.ref p0), some (.int p1)] [] (f_X12_isFranchisee S p0 p1)
  unfold f_X12_isFranchisee
  refine s_run X ok_X12_isFranchisee 0 4 (pc' := 4) (vs' := [some (.ref p0), some (.int p1)]) (st' := [.ref p0, .long 0, .long (Int32.toInt64 p1)]) rfl ?_
  refine s_getR X fl_X12_9 t0_ (dk okd_X12_isFranchisee 0 rfl) (fun a1 (t2 : tT C a1 14) => ?_)
  refine s_run X ok_X12_isFranchisee 4 1 (pc' := 8) (vs' := [some (.ref p0), some (.int p1)]) (st' := [.int 2, .ref a1, .long 0, .long (Int32.toInt64 p1)]) rfl ?_
  refine s_lald X t2 (dk okd_X12_isFranchisee 1 rfl) (fun v3 => ?_)
  refine s_run X ok_X12_isFranchisee 5 2 (pc' := 11) (vs' := [some (.ref p0), some (.int p1)]) (st' := [.long (v3 - 1), .long 0, .long (Int32.toInt64 p1)]) rfl ?_
  refine s_callS (As := [.long (Int32.toInt64 p1), .long 0, .long (v3 - 1)]) (rest := []) X E ms_X12_53 (c_X12_inRange S (Int32.toInt64 p1) 0 (v3 - 1)) rfl (ta0) rfl rfl (Nat.le_of_ble_eq_true rfl) (Nat.le_of_ble_eq_true rfl) (Nat.le_of_ble_eq_true rfl) (dk okd_X12_isFranchisee 2 rfl) (st' := fun v4 => [.int v4]) (fun _ => rfl) (fun v4 => ?_)
  exact s_zret X hr (dk okd_X12_isFranchisee 3 rfl) rfl rfl
def tab_X12_isOutlet : List En := [(0, 4, 1, 0), (1, 31, 0, 0), (2, 3, 0, 0), (3, 8, 0, 0), (7, 0, 0, 3), (9, 3, 1, 0), (10, 24, 0, 0)]
theorem ok_X12_isOutlet : tab_X12_isOutlet.all (okE cX12_isOutlet) = true := by decide +kernel
def ed_X12_isOutlet : List (Nat × Instr × Nat) := [(4, .getfield 9, 3), (8, .laload, 1), (11, .invokestatic 53, 3), (14, .ireturn, 1)]
theorem okd_X12_isOutlet : ed_X12_isOutlet.all (okD cX12_isOutlet) = true := by decide +kernel
def f_X12_isOutlet (S : St) (p0 : Nat) (p1 : Int32) : Option (Int32) := lt (gR S p0 0) fun (a1 : Nat) => ldJ S a1 3 fun (v3 : Int64) => cl (f_X12_inRange S (Int32.toInt64 p1) 0 (v3 - 1)) fun (v4 : Int32) => zc v4 (some v4)
set_option maxHeartbeats 4000000 in
set_option maxRecDepth 100000 in
theorem c_X12_isOutlet (S : St) (p0 : Nat) (p1 : Int32) : Ct yX12_isOutlet cX12_isOutlet 2 (some .boolean) 1 25 (fun _ => [.ref p0, .int p1]) [(p0, 11)] S (f_X12_isOutlet S p0 p1) oI (fun _ => S) := by
  refine Ct_of RX12 rfl (by decide) (fun _ => Nat.le_of_ble_eq_true rfl) 0 (vs := fun _ => [some (.ref p0), some (.int p1)]) (fun _ => rfl) (fun C X E hr ht => ?_)
  have t0_ : tT C p0 11 := ht (p0, 11) (by simp)
  show Jd C 2 (QJ C oI (fun _ => S)) S 0 [some (.ref p0), some (.int p1)] [] (f_X12_isOutlet S p0 p1)
  unfold f_X12_isOutlet
  refine s_run X ok_X12_isOutlet 0 4 (pc' := 4) (vs' := [some (.ref p0), some (.int p1)]) (st' := [.ref p0, .long 0, .long (Int32.toInt64 p1)]) rfl ?_
  refine s_getR X fl_X12_9 t0_ (dk okd_X12_isOutlet 0 rfl) (fun a1 (t2 : tT C a1 14) => ?_)
  refine s_run X ok_X12_isOutlet 4 1 (pc' := 8) (vs' := [some (.ref p0), some (.int p1)]) (st' := [.int 3, .ref a1, .long 0, .long (Int32.toInt64 p1)]) rfl ?_
  refine s_lald X t2 (dk okd_X12_isOutlet 1 rfl) (fun v3 => ?_)
  refine s_run X ok_X12_isOutlet 5 2 (pc' := 11) (vs' := [some (.ref p0), some (.int p1)]) (st' := [.long (v3 - 1), .long 0, .long (Int32.toInt64 p1)]) rfl ?_
  refine s_callS (As := [.long (Int32.toInt64 p1), .long 0, .long (v3 - 1)]) (rest := []) X E ms_X12_53 (c_X12_inRange S (Int32.toInt64 p1) 0 (v3 - 1)) rfl (ta0) rfl rfl (Nat.le_of_ble_eq_true rfl) (Nat.le_of_ble_eq_true rfl) (Nat.le_of_ble_eq_true rfl) (dk okd_X12_isOutlet 2 rfl) (st' := fun v4 => [.int v4]) (fun _ => rfl) (fun v4 => ?_)
  exact s_zret X hr (dk okd_X12_isOutlet 3 rfl) rfl rfl
def tab_X12_isCell : List En := [(0, 4, 0, 0), (1, 31, 0, 0), (2, 3, 0, 0), (12, 4, 1, 0), (13, 31, 0, 0), (14, 3, 0, 0), (24, 0, 0, 1), (25, 41, 29, 0), (28, 0, 0, 0)]
theorem ok_X12_isCell : tab_X12_isCell.all (okE cX12_isCell) = true := by decide +kernel
def ed_X12_isCell : List (Nat × Instr × Nat) := [(3, .ldc2_w 61, 3), (6, .invokestatic 53, 3), (9, .ifCond .eq 19, 3), (15, .ldc2_w 61, 3), (18, .invokestatic 53, 3), (21, .ifCond .eq 7, 3), (29, .ireturn, 1)]
theorem okd_X12_isCell : ed_X12_isCell.all (okD cX12_isCell) = true := by decide +kernel
def f_X12_isCell (S : St) (p0 : Int32) (p1 : Int32) : Option (Int32) := cl (f_X12_inRange S (Int32.toInt64 p0) 0 29) fun (v1 : Int32) => jn (κ := Option (Int32)) (some 0) fun k2 => if v1 = 0 then (k2) else (cl (f_X12_inRange S (Int32.toInt64 p1) 0 29) fun (v4 : Int32) => if v4 = 0 then (k2) else (some 1))
set_option maxHeartbeats 4000000 in
set_option maxRecDepth 100000 in
theorem c_X12_isCell (S : St) (p0 : Int32) (p1 : Int32) : Ct yX12_isCell cX12_isCell 2 (some .boolean) 1 25 (fun _ => [.int p0, .int p1]) [] S (f_X12_isCell S p0 p1) oI (fun _ => S) := by
  refine Ct_of RX12 rfl (by decide) (fun _ => Nat.le_of_ble_eq_true rfl) 0 (vs := fun _ => [some (.int p0), some (.int p1)]) (fun _ => rfl) (fun C X E hr ht => ?_)
  show Jd C 2 (QJ C oI (fun _ => S)) S 0 [some (.int p0), some (.int p1)] [] (f_X12_isCell S p0 p1)
  unfold f_X12_isCell
  refine s_run X ok_X12_isCell 0 3 (pc' := 3) (vs' := [some (.int p0), some (.int p1)]) (st' := [.long 0, .long (Int32.toInt64 p0)]) rfl ?_
  refine s_ldc2 X cl_X12_61 (dk okd_X12_isCell 0 rfl) ?_
  refine s_callS (As := [.long (Int32.toInt64 p0), .long 0, .long 29]) (rest := []) X E ms_X12_53 (c_X12_inRange S (Int32.toInt64 p0) 0 29) rfl (ta0) rfl rfl (Nat.le_of_ble_eq_true rfl) (Nat.le_of_ble_eq_true rfl) (Nat.le_of_ble_eq_true rfl) (dk okd_X12_isCell 1 rfl) (st' := fun v1 => [.int v1]) (fun _ => rfl) (fun v1 => ?_)
  refine s_jn (κ := Option (Int32)) (fun k2 => Jd C 2 (QJ C oI (fun _ => S)) S 28 [none, none] [] k2) ?_ (fun k2 h3 => ?_)
  · refine s_run X ok_X12_isCell 8 1 (pc' := 29) (vs' := [none, none]) (st' := [.int 0]) rfl ?_
    exact s_zret0 X hr (dk okd_X12_isCell 6 rfl) (by decide) rfl rfl
  · refine s_if_eq (tgt := 28) X (dk okd_X12_isCell 2 rfl) (by decide) ?_ ?_
    · exact s_less [false, false] rfl (h3)
    · refine s_run X ok_X12_isCell 3 3 (pc' := 15) (vs' := [some (.int p0), some (.int p1)]) (st' := [.long 0, .long (Int32.toInt64 p1)]) rfl ?_
      refine s_ldc2 X cl_X12_61 (dk okd_X12_isCell 3 rfl) ?_
      refine s_callS (As := [.long (Int32.toInt64 p1), .long 0, .long 29]) (rest := []) X E ms_X12_53 (c_X12_inRange S (Int32.toInt64 p1) 0 29) rfl (ta0) rfl rfl (Nat.le_of_ble_eq_true rfl) (Nat.le_of_ble_eq_true rfl) (Nat.le_of_ble_eq_true rfl) (dk okd_X12_isCell 4 rfl) (st' := fun v4 => [.int v4]) (fun _ => rfl) (fun v4 => ?_)
      refine s_if_eq (tgt := 28) X (dk okd_X12_isCell 5 rfl) (by decide) ?_ ?_
      · exact s_less [false, false] rfl (h3)
      · refine s_run X ok_X12_isCell 6 2 (pc' := 29) (vs' := [some (.int p0), some (.int p1)]) (st' := [.int 1]) rfl ?_
        exact s_zret0 X hr (dk okd_X12_isCell 6 rfl) (by decide) rfl rfl
def tab_X12_of : List En := [(0, 8, 0, 0), (4, 1, 0, 58), (6, 1, 0, 16), (8, 4, 1, 0), (9, 19, 0, 0), (10, 17, 0, 0), (11, 4, 2, 0), (12, 17, 0, 0)]
theorem ok_X12_of : tab_X12_of.all (okE cX12_of) = true := by decide +kernel
def ed_X12_of : List (Nat × Instr × Nat) := [(1, .getfield 9, 3), (13, .laload, 1), (14, .lreturn, 1)]
theorem okd_X12_of : ed_X12_of.all (okD cX12_of) = true := by decide +kernel
def f_X12_of (S : St) (p0 : Nat) (p1 : Int32) (p2 : Int32) : Option (Int64) := lt (gR S p0 0) fun (a1 : Nat) => ldJ S a1 ((58 + (16 * p1)) + p2) fun (v3 : Int64) => some v3
set_option maxHeartbeats 4000000 in
set_option maxRecDepth 100000 in
theorem c_X12_of (S : St) (p0 : Nat) (p1 : Int32) (p2 : Int32) : Ct yX12_of cX12_of 3 (some .long) 0 0 (fun _ => [.ref p0, .int p1, .int p2]) [(p0, 11)] S (f_X12_of S p0 p1 p2) oL (fun _ => S) := by
  refine Ct_of RX12 rfl (by decide) (fun _ => Nat.le_of_ble_eq_true rfl) 0 (vs := fun _ => [some (.ref p0), some (.int p1), some (.int p2)]) (fun _ => rfl) (fun C X E hr ht => ?_)
  have t0_ : tT C p0 11 := ht (p0, 11) (by simp)
  show Jd C 3 (QJ C oL (fun _ => S)) S 0 [some (.ref p0), some (.int p1), some (.int p2)] [] (f_X12_of S p0 p1 p2)
  unfold f_X12_of
  refine s_run X ok_X12_of 0 1 (pc' := 1) (vs' := [some (.ref p0), some (.int p1), some (.int p2)]) (st' := [.ref p0]) rfl ?_
  refine s_getR X fl_X12_9 t0_ (dk okd_X12_of 0 rfl) (fun a1 (t2 : tT C a1 14) => ?_)
  refine s_run X ok_X12_of 1 7 (pc' := 13) (vs' := [some (.ref p0), some (.int p1), some (.int p2)]) (st' := [.int ((58 + (16 * p1)) + p2), .ref a1]) rfl ?_
  refine s_lald X t2 (dk okd_X12_of 1 rfl) (fun v3 => ?_)
  exact s_lret X hr (dk okd_X12_of 2 rfl) rfl rfl
def tab_X12_set : List En := [(0, 8, 0, 0), (4, 1, 0, 58), (6, 1, 0, 16), (8, 4, 1, 0), (9, 19, 0, 0), (10, 17, 0, 0), (11, 4, 2, 0), (12, 17, 0, 0), (13, 6, 3, 0)]
theorem ok_X12_set : tab_X12_set.all (okE cX12_set) = true := by decide +kernel
def ed_X12_set : List (Nat × Instr × Nat) := [(1, .getfield 9, 3), (14, .lastore, 1), (15, .return_, 1)]
theorem okd_X12_set : ed_X12_set.all (okD cX12_set) = true := by decide +kernel
def f_X12_set (S : St) (p0 : Nat) (p1 : Int32) (p2 : Int32) (p3 : Int64) : Option (St) := lt (gR S p0 0) fun (a1 : Nat) => stJ S a1 ((58 + (16 * p1)) + p2) p3 fun (S3 : St) => some S3
set_option maxHeartbeats 4000000 in
set_option maxRecDepth 100000 in
theorem c_X12_set (S : St) (p0 : Nat) (p1 : Int32) (p2 : Int32) (p3 : Int64) : Ct yX12_set cX12_set 5 none 0 0 (fun _ => [.ref p0, .int p1, .int p2, .long p3]) [(p0, 11)] S (f_X12_set S p0 p1 p2 p3) oV sV := by
  refine Ct_of RX12 rfl (by decide) (fun _ => Nat.le_of_ble_eq_true rfl) 0 (vs := fun _ => [some (.ref p0), some (.int p1), some (.int p2), some (.long p3), none]) (fun _ => rfl) (fun C X E hr ht => ?_)
  have t0_ : tT C p0 11 := ht (p0, 11) (by simp)
  show Jd C 5 (QJ C oV sV) S 0 [some (.ref p0), some (.int p1), some (.int p2), some (.long p3), none] [] (f_X12_set S p0 p1 p2 p3)
  unfold f_X12_set
  refine s_run X ok_X12_set 0 1 (pc' := 1) (vs' := [some (.ref p0), some (.int p1), some (.int p2), some (.long p3), none]) (st' := [.ref p0]) rfl ?_
  refine s_getR X fl_X12_9 t0_ (dk okd_X12_set 0 rfl) (fun a1 (t2 : tT C a1 14) => ?_)
  refine s_run X ok_X12_set 1 8 (pc' := 14) (vs' := [some (.ref p0), some (.int p1), some (.int p2), some (.long p3), none]) (st' := [.long p3, .int ((58 + (16 * p1)) + p2), .ref a1]) rfl ?_
  refine s_last X t2 (dk okd_X12_set 1 rfl) (fun S3 => ?_)
  exact s_vret X hr (dk okd_X12_set 2 rfl) rfl rfl
def tab_X12_add : List En := [(0, 8, 0, 0), (4, 1, 0, 58), (6, 1, 0, 16), (8, 4, 1, 0), (9, 19, 0, 0), (10, 17, 0, 0), (11, 4, 2, 0), (12, 17, 0, 0), (13, 37, 0, 0), (15, 6, 3, 0), (16, 23, 0, 0)]
theorem ok_X12_add : tab_X12_add.all (okE cX12_add) = true := by decide +kernel
def ed_X12_add : List (Nat × Instr × Nat) := [(1, .getfield 9, 3), (14, .laload, 1), (17, .lastore, 1), (18, .return_, 1)]
theorem okd_X12_add : ed_X12_add.all (okD cX12_add) = true := by decide +kernel
def f_X12_add (S : St) (p0 : Nat) (p1 : Int32) (p2 : Int32) (p3 : Int64) : Option (St) := lt (gR S p0 0) fun (a1 : Nat) => ldJ S a1 ((58 + (16 * p1)) + p2) fun (v3 : Int64) => stJ S a1 ((58 + (16 * p1)) + p2) (v3 + p3) fun (S4 : St) => some S4
set_option maxHeartbeats 4000000 in
set_option maxRecDepth 100000 in
theorem c_X12_add (S : St) (p0 : Nat) (p1 : Int32) (p2 : Int32) (p3 : Int64) : Ct yX12_add cX12_add 5 none 0 0 (fun _ => [.ref p0, .int p1, .int p2, .long p3]) [(p0, 11)] S (f_X12_add S p0 p1 p2 p3) oV sV := by
  refine Ct_of RX12 rfl (by decide) (fun _ => Nat.le_of_ble_eq_true rfl) 0 (vs := fun _ => [some (.ref p0), some (.int p1), some (.int p2), some (.long p3), none]) (fun _ => rfl) (fun C X E hr ht => ?_)
  have t0_ : tT C p0 11 := ht (p0, 11) (by simp)
  show Jd C 5 (QJ C oV sV) S 0 [some (.ref p0), some (.int p1), some (.int p2), some (.long p3), none] [] (f_X12_add S p0 p1 p2 p3)
  unfold f_X12_add
  refine s_run X ok_X12_add 0 1 (pc' := 1) (vs' := [some (.ref p0), some (.int p1), some (.int p2), some (.long p3), none]) (st' := [.ref p0]) rfl ?_
  refine s_getR X fl_X12_9 t0_ (dk okd_X12_add 0 rfl) (fun a1 (t2 : tT C a1 14) => ?_)
  refine s_run X ok_X12_add 1 8 (pc' := 14) (vs' := [some (.ref p0), some (.int p1), some (.int p2), some (.long p3), none]) (st' := [.int ((58 + (16 * p1)) + p2), .ref a1, .int ((58 + (16 * p1)) + p2), .ref a1]) rfl ?_
  refine s_lald X t2 (dk okd_X12_add 1 rfl) (fun v3 => ?_)
  refine s_run X ok_X12_add 9 2 (pc' := 17) (vs' := [some (.ref p0), some (.int p1), some (.int p2), some (.long p3), none]) (st' := [.long (v3 + p3), .int ((58 + (16 * p1)) + p2), .ref a1]) rfl ?_
  refine s_last X t2 (dk okd_X12_add 2 rfl) (fun S4 => ?_)
  exact s_vret X hr (dk okd_X12_add 3 rfl) rfl rfl
def tab_X12_isActive : List En := [(0, 8, 0, 0), (1, 4, 1, 0), (2, 0, 0, 3), (6, 3, 0, 0), (7, 40, 0, 0), (11, 0, 0, 1), (12, 41, 16, 0), (15, 0, 0, 0)]
theorem ok_X12_isActive : tab_X12_isActive.all (okE cX12_isActive) = true := by decide +kernel
def ed_X12_isActive : List (Nat × Instr × Nat) := [(3, .invokevirtual 63, 3), (8, .ifCond .ne 7, 3), (16, .ireturn, 1)]
theorem okd_X12_isActive : ed_X12_isActive.all (okD cX12_isActive) = true := by decide +kernel
def f_X12_isActive (S : St) (p0 : Nat) (p1 : Int32) : Option (Int32) := cl (f_X12_of S p0 p1 3) fun (v1 : Int64) => if v1 = 0 then (some 1) else (some 0)
set_option maxHeartbeats 4000000 in
set_option maxRecDepth 100000 in
theorem c_X12_isActive (S : St) (p0 : Nat) (p1 : Int32) : Ct yX12_isActive cX12_isActive 2 (some .boolean) 1 22 (fun _ => [.ref p0, .int p1]) [(p0, 11)] S (f_X12_isActive S p0 p1) oI (fun _ => S) := by
  refine Ct_of RX12 rfl (by decide) (fun _ => Nat.le_of_ble_eq_true rfl) 0 (vs := fun _ => [some (.ref p0), some (.int p1)]) (fun _ => rfl) (fun C X E hr ht => ?_)
  have t0_ : tT C p0 11 := ht (p0, 11) (by simp)
  show Jd C 2 (QJ C oI (fun _ => S)) S 0 [some (.ref p0), some (.int p1)] [] (f_X12_isActive S p0 p1)
  unfold f_X12_isActive
  refine s_run X ok_X12_isActive 0 3 (pc' := 3) (vs' := [some (.ref p0), some (.int p1)]) (st' := [.int 3, .int p1, .ref p0]) rfl ?_
  refine s_callV (b := p0) (As := [.int p1, .int 3]) (rest := []) X E mv_X12_63 (c_X12_of S p0 p1 3) rfl (ta1 t0_) rfl (by decide) t0_ rfl rfl (Nat.le_of_ble_eq_true rfl) (Nat.le_of_ble_eq_true rfl) (Nat.le_of_ble_eq_true rfl) (dk okd_X12_isActive 0 rfl) (st' := fun v1 => [.long v1]) (fun _ => rfl) (fun v1 => ?_)
  refine s_run X ok_X12_isActive 3 2 (pc' := 8) (vs' := [some (.ref p0), some (.int p1)]) (st' := [.int (lg_cmp v1 0)]) rfl ?_
  refine s_lif_ne (tgt := 15) X (dk okd_X12_isActive 1 rfl) (by decide) ?_ ?_
  · refine s_run X ok_X12_isActive 7 1 (pc' := 16) (vs' := [some (.ref p0), some (.int p1)]) (st' := [.int 0]) rfl ?_
    exact s_zret0 X hr (dk okd_X12_isActive 2 rfl) (by decide) rfl rfl
  · refine s_run X ok_X12_isActive 5 2 (pc' := 16) (vs' := [some (.ref p0), some (.int p1)]) (st' := [.int 1]) rfl ?_
    exact s_zret0 X hr (dk okd_X12_isActive 2 rfl) (by decide) rfl rfl
def tab_X12_ofOutlet : List En := [(0, 8, 0, 0), (4, 2, 0, 186), (7, 0, 0, 4), (8, 4, 1, 0), (9, 19, 0, 0), (10, 17, 0, 0), (11, 4, 2, 0), (12, 17, 0, 0)]
theorem ok_X12_ofOutlet : tab_X12_ofOutlet.all (okE cX12_ofOutlet) = true := by decide +kernel
def ed_X12_ofOutlet : List (Nat × Instr × Nat) := [(1, .getfield 9, 3), (13, .laload, 1), (14, .lreturn, 1)]
theorem okd_X12_ofOutlet : ed_X12_ofOutlet.all (okD cX12_ofOutlet) = true := by decide +kernel
def f_X12_ofOutlet (S : St) (p0 : Nat) (p1 : Int32) (p2 : Int32) : Option (Int64) := lt (gR S p0 0) fun (a1 : Nat) => ldJ S a1 ((186 + (4 * p1)) + p2) fun (v3 : Int64) => some v3
set_option maxHeartbeats 4000000 in
set_option maxRecDepth 100000 in
theorem c_X12_ofOutlet (S : St) (p0 : Nat) (p1 : Int32) (p2 : Int32) : Ct yX12_ofOutlet cX12_ofOutlet 3 (some .long) 0 0 (fun _ => [.ref p0, .int p1, .int p2]) [(p0, 11)] S (f_X12_ofOutlet S p0 p1 p2) oL (fun _ => S) := by
  refine Ct_of RX12 rfl (by decide) (fun _ => Nat.le_of_ble_eq_true rfl) 0 (vs := fun _ => [some (.ref p0), some (.int p1), some (.int p2)]) (fun _ => rfl) (fun C X E hr ht => ?_)
  have t0_ : tT C p0 11 := ht (p0, 11) (by simp)
  show Jd C 3 (QJ C oL (fun _ => S)) S 0 [some (.ref p0), some (.int p1), some (.int p2)] [] (f_X12_ofOutlet S p0 p1 p2)
  unfold f_X12_ofOutlet
  refine s_run X ok_X12_ofOutlet 0 1 (pc' := 1) (vs' := [some (.ref p0), some (.int p1), some (.int p2)]) (st' := [.ref p0]) rfl ?_
  refine s_getR X fl_X12_9 t0_ (dk okd_X12_ofOutlet 0 rfl) (fun a1 (t2 : tT C a1 14) => ?_)
  refine s_run X ok_X12_ofOutlet 1 7 (pc' := 13) (vs' := [some (.ref p0), some (.int p1), some (.int p2)]) (st' := [.int ((186 + (4 * p1)) + p2), .ref a1]) rfl ?_
  refine s_lald X t2 (dk okd_X12_ofOutlet 1 rfl) (fun v3 => ?_)
  exact s_lret X hr (dk okd_X12_ofOutlet 2 rfl) rfl rfl
def tab_X12_ownerOf : List En := [(0, 8, 0, 0), (4, 2, 0, 250), (7, 1, 0, 30), (9, 4, 2, 0), (10, 19, 0, 0), (11, 17, 0, 0), (12, 4, 1, 0), (13, 17, 0, 0), (15, 32, 0, 0)]
theorem ok_X12_ownerOf : tab_X12_ownerOf.all (okE cX12_ownerOf) = true := by decide +kernel
def ed_X12_ownerOf : List (Nat × Instr × Nat) := [(1, .getfield 9, 3), (14, .laload, 1), (16, .ireturn, 1)]
theorem okd_X12_ownerOf : ed_X12_ownerOf.all (okD cX12_ownerOf) = true := by decide +kernel
def f_X12_ownerOf (S : St) (p0 : Nat) (p1 : Int32) (p2 : Int32) : Option (Int32) := lt (gR S p0 0) fun (a1 : Nat) => ldJ S a1 ((250 + (30 * p2)) + p1) fun (v3 : Int64) => some (Int64.toInt32 v3)
set_option maxHeartbeats 4000000 in
set_option maxRecDepth 100000 in
theorem c_X12_ownerOf (S : St) (p0 : Nat) (p1 : Int32) (p2 : Int32) : Ct yX12_ownerOf cX12_ownerOf 3 (some .int) 0 0 (fun _ => [.ref p0, .int p1, .int p2]) [(p0, 11)] S (f_X12_ownerOf S p0 p1 p2) oI (fun _ => S) := by
  refine Ct_of RX12 rfl (by decide) (fun _ => Nat.le_of_ble_eq_true rfl) 0 (vs := fun _ => [some (.ref p0), some (.int p1), some (.int p2)]) (fun _ => rfl) (fun C X E hr ht => ?_)
  have t0_ : tT C p0 11 := ht (p0, 11) (by simp)
  show Jd C 3 (QJ C oI (fun _ => S)) S 0 [some (.ref p0), some (.int p1), some (.int p2)] [] (f_X12_ownerOf S p0 p1 p2)
  unfold f_X12_ownerOf
  refine s_run X ok_X12_ownerOf 0 1 (pc' := 1) (vs' := [some (.ref p0), some (.int p1), some (.int p2)]) (st' := [.ref p0]) rfl ?_
  refine s_getR X fl_X12_9 t0_ (dk okd_X12_ownerOf 0 rfl) (fun a1 (t2 : tT C a1 14) => ?_)
  refine s_run X ok_X12_ownerOf 1 7 (pc' := 14) (vs' := [some (.ref p0), some (.int p1), some (.int p2)]) (st' := [.int ((250 + (30 * p2)) + p1), .ref a1]) rfl ?_
  refine s_lald X t2 (dk okd_X12_ownerOf 1 rfl) (fun v3 => ?_)
  refine s_run X ok_X12_ownerOf 8 1 (pc' := 16) (vs' := [some (.ref p0), some (.int p1), some (.int p2)]) (st' := [.int (Int64.toInt32 v3)]) rfl ?_
  exact s_iret X hr (dk okd_X12_ownerOf 2 rfl) rfl rfl
def tab_X12_owns : List En := [(0, 4, 2, 0), (1, 4, 3, 0), (8, 8, 0, 0), (9, 4, 2, 0), (10, 4, 3, 0), (14, 4, 1, 0), (18, 0, 0, 1), (19, 41, 23, 0), (22, 0, 0, 0)]
theorem ok_X12_owns : tab_X12_owns.all (okE cX12_owns) = true := by decide +kernel
def ed_X12_owns : List (Nat × Instr × Nat) := [(2, .invokestatic 67, 3), (5, .ifCond .eq 17, 3), (11, .invokevirtual 71, 3), (15, .if_icmp .ne 7, 3), (23, .ireturn, 1)]
theorem okd_X12_owns : ed_X12_owns.all (okD cX12_owns) = true := by decide +kernel
def f_X12_owns (S : St) (p0 : Nat) (p1 : Int32) (p2 : Int32) (p3 : Int32) : Option (Int32) := cl (f_X12_isCell S p2 p3) fun (v1 : Int32) => jn (κ := Option (Int32)) (some 0) fun k2 => if v1 = 0 then (k2) else (cl (f_X12_ownerOf S p0 p2 p3) fun (v4 : Int32) => if v4 = p1 then (some 1) else (k2))
set_option maxHeartbeats 4000000 in
set_option maxRecDepth 100000 in
theorem c_X12_owns (S : St) (p0 : Nat) (p1 : Int32) (p2 : Int32) (p3 : Int32) : Ct yX12_owns cX12_owns 4 (some .boolean) 2 46 (fun _ => [.ref p0, .int p1, .int p2, .int p3]) [(p0, 11)] S (f_X12_owns S p0 p1 p2 p3) oI (fun _ => S) := by
  refine Ct_of RX12 rfl (by decide) (fun _ => Nat.le_of_ble_eq_true rfl) 0 (vs := fun _ => [some (.ref p0), some (.int p1), some (.int p2), some (.int p3)]) (fun _ => rfl) (fun C X E hr ht => ?_)
  have t0_ : tT C p0 11 := ht (p0, 11) (by simp)
  show Jd C 4 (QJ C oI (fun _ => S)) S 0 [some (.ref p0), some (.int p1), some (.int p2), some (.int p3)] [] (f_X12_owns S p0 p1 p2 p3)
  unfold f_X12_owns
  refine s_run X ok_X12_owns 0 2 (pc' := 2) (vs' := [some (.ref p0), some (.int p1), some (.int p2), some (.int p3)]) (st' := [.int p3, .int p2]) rfl ?_
  refine s_callS (As := [.int p2, .int p3]) (rest := []) X E ms_X12_67 (c_X12_isCell S p2 p3) rfl (ta0) rfl rfl (Nat.le_of_ble_eq_true rfl) (Nat.le_of_ble_eq_true rfl) (Nat.le_of_ble_eq_true rfl) (dk okd_X12_owns 0 rfl) (st' := fun v1 => [.int v1]) (fun _ => rfl) (fun v1 => ?_)
  refine s_jn (κ := Option (Int32)) (fun k2 => Jd C 4 (QJ C oI (fun _ => S)) S 22 [none, none, none, none] [] k2) ?_ (fun k2 h3 => ?_)
  · refine s_run X ok_X12_owns 8 1 (pc' := 23) (vs' := [none, none, none, none]) (st' := [.int 0]) rfl ?_
    exact s_zret0 X hr (dk okd_X12_owns 4 rfl) (by decide) rfl rfl
  · refine s_if_eq (tgt := 22) X (dk okd_X12_owns 1 rfl) (by decide) ?_ ?_
    · exact s_less [false, false, false, false] rfl (h3)
    · refine s_run X ok_X12_owns 2 3 (pc' := 11) (vs' := [some (.ref p0), some (.int p1), some (.int p2), some (.int p3)]) (st' := [.int p3, .int p2, .ref p0]) rfl ?_
      refine s_callV (b := p0) (As := [.int p2, .int p3]) (rest := []) X E mv_X12_71 (c_X12_ownerOf S p0 p2 p3) rfl (ta1 t0_) rfl (by decide) t0_ rfl rfl (Nat.le_of_ble_eq_true rfl) (Nat.le_of_ble_eq_true rfl) (Nat.le_of_ble_eq_true rfl) (dk okd_X12_owns 2 rfl) (st' := fun v4 => [.int v4]) (fun _ => rfl) (fun v4 => ?_)
      refine s_run X ok_X12_owns 5 1 (pc' := 15) (vs' := [some (.ref p0), some (.int p1), some (.int p2), some (.int p3)]) (st' := [.int p1, .int v4]) rfl ?_
      refine s_icmp_ne (tgt := 22) X (dk okd_X12_owns 3 rfl) (by decide) ?_ ?_
      · exact s_less [false, false, false, false] rfl (h3)
      · refine s_run X ok_X12_owns 6 2 (pc' := 23) (vs' := [some (.ref p0), some (.int p1), some (.int p2), some (.int p3)]) (st' := [.int 1]) rfl ?_
        exact s_zret0 X hr (dk okd_X12_owns 4 rfl) (by decide) rfl rfl
def tab_X12_count : List En := [(0, 8, 0, 0), (1, 0, 0, 0), (5, 4, 1, 0), (36, 8, 0, 0), (40, 0, 0, 1), (42, 32, 0, 0), (44, 8, 0, 0), (48, 0, 0, 2), (50, 32, 0, 0), (52, 8, 0, 0), (56, 0, 0, 3), (58, 32, 0, 0), (60, 8, 0, 0), (64, 8, 0, 0), (68, 18, 0, 0), (70, 0, 0, (-1))]
theorem ok_X12_count : tab_X12_count.all (okE cX12_count) = true := by decide +kernel
def ed_X12_count : List (Nat × Instr × Nat) := [(2, .putfield 50, 3), (6, .tableswitch 64 0 3 #[30, 38, 46, 54], 30), (37, .getfield 9, 3), (41, .laload, 1), (43, .ireturn, 1), (45, .getfield 9, 3), (49, .laload, 1), (51, .ireturn, 1), (53, .getfield 9, 3), (57, .laload, 1), (59, .ireturn, 1), (61, .getfield 75, 3), (65, .getfield 78, 3), (69, .ireturn, 1), (71, .ireturn, 1)]
theorem okd_X12_count : ed_X12_count.all (okD cX12_count) = true := by decide +kernel
def f_X12_count (S : St) (p0 : Nat) (p1 : Int32) : Option (Int32 × St) := lt (uI S p0 2 0) fun (S1 : St) => if p1 = 0 then (lt (gR S1 p0 0) fun (a2 : Nat) => ldJ S1 a2 1 fun (v4 : Int64) => some ((Int64.toInt32 v4), S1)) else (if p1 = 1 then (lt (gR S1 p0 0) fun (a5 : Nat) => ldJ S1 a5 2 fun (v7 : Int64) => some ((Int64.toInt32 v7), S1)) else (if p1 = 2 then (lt (gR S1 p0 0) fun (a8 : Nat) => ldJ S1 a8 3 fun (v10 : Int64) => some ((Int64.toInt32 v10), S1)) else (if p1 = 3 then (lt (gI S1 p0 19) fun (v11 : Int32) => lt (gI S1 p0 20) fun (v12 : Int32) => some ((v11 - v12), S1)) else (some ((-1), S1)))))
set_option maxHeartbeats 4000000 in
set_option maxRecDepth 100000 in
theorem c_X12_count (S : St) (p0 : Nat) (p1 : Int32) : Ct yX12_count cX12_count 2 (some .int) 0 0 (fun _ => [.ref p0, .int p1]) [(p0, 11)] S (f_X12_count S p0 p1) oIS sS := by
  refine Ct_of RX12 rfl (by decide) (fun _ => Nat.le_of_ble_eq_true rfl) 0 (vs := fun _ => [some (.ref p0), some (.int p1)]) (fun _ => rfl) (fun C X E hr ht => ?_)
  have t0_ : tT C p0 11 := ht (p0, 11) (by simp)
  show Jd C 2 (QJ C oIS sS) S 0 [some (.ref p0), some (.int p1)] [] (f_X12_count S p0 p1)
  unfold f_X12_count
  refine s_run X ok_X12_count 0 2 (pc' := 2) (vs' := [some (.ref p0), some (.int p1)]) (st' := [.int 0, .ref p0]) rfl ?_
  refine s_putI X fp_X12_50 t0_ (dk okd_X12_count 0 rfl) (fun S1 => ?_)
  refine s_run X ok_X12_count 2 1 (pc' := 6) (vs' := [some (.ref p0), some (.int p1)]) (st' := [.int p1]) rfl ?_
  refine s_tabc (c := 0) (tgt := 36) X (dk okd_X12_count 1 rfl) (by decide) (by decide) rfl (by decide) ?_ (fun n0 => ?_)
  · refine s_run X ok_X12_count 3 1 (pc' := 37) (vs' := [some (.ref p0), some (.int p1)]) (st' := [.ref p0]) rfl ?_
    refine s_getR X fl_X12_9 t0_ (dk okd_X12_count 2 rfl) (fun a2 (t3 : tT C a2 14) => ?_)
    refine s_run X ok_X12_count 4 1 (pc' := 41) (vs' := [some (.ref p0), some (.int p1)]) (st' := [.int 1, .ref a2]) rfl ?_
    refine s_lald X t3 (dk okd_X12_count 3 rfl) (fun v4 => ?_)
    refine s_run X ok_X12_count 5 1 (pc' := 43) (vs' := [some (.ref p0), some (.int p1)]) (st' := [.int (Int64.toInt32 v4)]) rfl ?_
    exact s_iret X hr (dk okd_X12_count 4 rfl) rfl rfl
  refine s_tabc (c := 1) (tgt := 44) X (dk okd_X12_count 1 rfl) (by decide) (by decide) rfl (by decide) ?_ (fun n1 => ?_)
  · refine s_run X ok_X12_count 6 1 (pc' := 45) (vs' := [some (.ref p0), some (.int p1)]) (st' := [.ref p0]) rfl ?_
    refine s_getR X fl_X12_9 t0_ (dk okd_X12_count 5 rfl) (fun a5 (t6 : tT C a5 14) => ?_)
    refine s_run X ok_X12_count 7 1 (pc' := 49) (vs' := [some (.ref p0), some (.int p1)]) (st' := [.int 2, .ref a5]) rfl ?_
    refine s_lald X t6 (dk okd_X12_count 6 rfl) (fun v7 => ?_)
    refine s_run X ok_X12_count 8 1 (pc' := 51) (vs' := [some (.ref p0), some (.int p1)]) (st' := [.int (Int64.toInt32 v7)]) rfl ?_
    exact s_iret X hr (dk okd_X12_count 7 rfl) rfl rfl
  refine s_tabc (c := 2) (tgt := 52) X (dk okd_X12_count 1 rfl) (by decide) (by decide) rfl (by decide) ?_ (fun n2 => ?_)
  · refine s_run X ok_X12_count 9 1 (pc' := 53) (vs' := [some (.ref p0), some (.int p1)]) (st' := [.ref p0]) rfl ?_
    refine s_getR X fl_X12_9 t0_ (dk okd_X12_count 8 rfl) (fun a8 (t9 : tT C a8 14) => ?_)
    refine s_run X ok_X12_count 10 1 (pc' := 57) (vs' := [some (.ref p0), some (.int p1)]) (st' := [.int 3, .ref a8]) rfl ?_
    refine s_lald X t9 (dk okd_X12_count 9 rfl) (fun v10 => ?_)
    refine s_run X ok_X12_count 11 1 (pc' := 59) (vs' := [some (.ref p0), some (.int p1)]) (st' := [.int (Int64.toInt32 v10)]) rfl ?_
    exact s_iret X hr (dk okd_X12_count 10 rfl) rfl rfl
  refine s_tabc (c := 3) (tgt := 60) X (dk okd_X12_count 1 rfl) (by decide) (by decide) rfl (by decide) ?_ (fun n3 => ?_)
  · refine s_run X ok_X12_count 12 1 (pc' := 61) (vs' := [some (.ref p0), some (.int p1)]) (st' := [.ref p0]) rfl ?_
    refine s_getI X fl_X12_75 t0_ (dk okd_X12_count 11 rfl) (fun v11 => ?_)
    refine s_run X ok_X12_count 13 1 (pc' := 65) (vs' := [some (.ref p0), some (.int p1)]) (st' := [.ref p0, .int v11]) rfl ?_
    refine s_getI X fl_X12_78 t0_ (dk okd_X12_count 12 rfl) (fun v12 => ?_)
    refine s_run X ok_X12_count 14 1 (pc' := 69) (vs' := [some (.ref p0), some (.int p1)]) (st' := [.int (v11 - v12)]) rfl ?_
    exact s_iret X hr (dk okd_X12_count 13 rfl) rfl rfl
  refine s_tabd (tgt := 70) X (dk okd_X12_count 1 rfl) (tabout (n := 4) (by decide) (fun j hj => match j, hj with | 0, _ => n0 | 1, _ => n1 | 2, _ => n2 | 3, _ => n3)) (by decide) ?_
  refine s_run X ok_X12_count 15 1 (pc' := 71) (vs' := [some (.ref p0), some (.int p1)]) (st' := [.int (-1)]) rfl ?_
  exact s_iret X hr (dk okd_X12_count 14 rfl) rfl rfl
def tab_X12_month : List En := [(0, 8, 0, 0), (1, 0, 0, 0), (5, 8, 0, 0), (9, 0, 0, 0), (11, 32, 0, 0)]
theorem ok_X12_month : tab_X12_month.all (okE cX12_month) = true := by decide +kernel
def ed_X12_month : List (Nat × Instr × Nat) := [(2, .putfield 50, 3), (6, .getfield 9, 3), (10, .laload, 1), (12, .ireturn, 1)]
theorem okd_X12_month : ed_X12_month.all (okD cX12_month) = true := by decide +kernel
def f_X12_month (S : St) (p0 : Nat) : Option (Int32 × St) := lt (uI S p0 2 0) fun (S1 : St) => lt (gR S1 p0 0) fun (a2 : Nat) => ldJ S1 a2 0 fun (v4 : Int64) => some ((Int64.toInt32 v4), S1)
set_option maxHeartbeats 4000000 in
set_option maxRecDepth 100000 in
theorem c_X12_month (S : St) (p0 : Nat) : Ct yX12_month cX12_month 1 (some .int) 0 0 (fun _ => [.ref p0]) [(p0, 11)] S (f_X12_month S p0) oIS sS := by
  refine Ct_of RX12 rfl (by decide) (fun _ => Nat.le_of_ble_eq_true rfl) 0 (vs := fun _ => [some (.ref p0)]) (fun _ => rfl) (fun C X E hr ht => ?_)
  have t0_ : tT C p0 11 := ht (p0, 11) (by simp)
  show Jd C 1 (QJ C oIS sS) S 0 [some (.ref p0)] [] (f_X12_month S p0)
  unfold f_X12_month
  refine s_run X ok_X12_month 0 2 (pc' := 2) (vs' := [some (.ref p0)]) (st' := [.int 0, .ref p0]) rfl ?_
  refine s_putI X fp_X12_50 t0_ (dk okd_X12_month 0 rfl) (fun S1 => ?_)
  refine s_run X ok_X12_month 2 1 (pc' := 6) (vs' := [some (.ref p0)]) (st' := [.ref p0]) rfl ?_
  refine s_getR X fl_X12_9 t0_ (dk okd_X12_month 1 rfl) (fun a2 (t3 : tT C a2 14) => ?_)
  refine s_run X ok_X12_month 3 1 (pc' := 10) (vs' := [some (.ref p0)]) (st' := [.int 0, .ref a2]) rfl ?_
  refine s_lald X t3 (dk okd_X12_month 2 rfl) (fun v4 => ?_)
  refine s_run X ok_X12_month 4 1 (pc' := 12) (vs' := [some (.ref p0)]) (st' := [.int (Int64.toInt32 v4)]) rfl ?_
  exact s_iret X hr (dk okd_X12_month 3 rfl) rfl rfl
def tab_X12_owner : List En := [(0, 8, 0, 0), (1, 0, 0, 0), (5, 8, 0, 0), (6, 4, 1, 0), (7, 4, 2, 0), (14, 0, 0, 1), (15, 41, 19, 0), (18, 0, 0, 0), (19, 0, 0, 1), (26, 0, 0, 0), (27, 41, 36, 0), (30, 8, 0, 0), (31, 4, 1, 0), (32, 4, 2, 0)]
theorem ok_X12_owner : tab_X12_owner.all (okE cX12_owner) = true := by decide +kernel
def ed_X12_owner : List (Nat × Instr × Nat) := [(2, .putfield 50, 3), (8, .invokestatic 67, 3), (11, .ifCond .ne 7, 3), (20, .invokevirtual 81, 3), (23, .ifCond .eq 7, 3), (33, .invokevirtual 71, 3), (36, .ireturn, 1)]
theorem okd_X12_owner : ed_X12_owner.all (okD cX12_owner) = true := by decide +kernel
def f_X12_owner (S : St) (p0 : Nat) (p1 : Int32) (p2 : Int32) : Option (Int32 × St) := lt (uI S p0 2 0) fun (S1 : St) => cl (f_X12_isCell S1 p1 p2) fun (v2 : Int32) => jn (κ := Int32 → Option (Int32 × St)) (fun x3 => cl (f_X12_throwsIf S1 p0 x3 1) fun (o6 : Int32 × St) => if o6.1 = 0 then (cl (f_X12_ownerOf o6.2 p0 p1 p2) fun (v7 : Int32) => some (v7, o6.2)) else (some (0, o6.2))) fun k4 => if v2 = 0 then (k4 1) else (k4 0)
set_option maxHeartbeats 4000000 in
set_option maxRecDepth 100000 in
theorem c_X12_owner (S : St) (p0 : Nat) (p1 : Int32) (p2 : Int32) : Ct yX12_owner cX12_owner 3 (some .int) 2 46 (fun _ => [.ref p0, .int p1, .int p2]) [(p0, 11)] S (f_X12_owner S p0 p1 p2) oIS sS := by
  refine Ct_of RX12 rfl (by decide) (fun _ => Nat.le_of_ble_eq_true rfl) 0 (vs := fun _ => [some (.ref p0), some (.int p1), some (.int p2)]) (fun _ => rfl) (fun C X E hr ht => ?_)
  have t0_ : tT C p0 11 := ht (p0, 11) (by simp)
  show Jd C 3 (QJ C oIS sS) S 0 [some (.ref p0), some (.int p1), some (.int p2)] [] (f_X12_owner S p0 p1 p2)
  unfold f_X12_owner
  refine s_run X ok_X12_owner 0 2 (pc' := 2) (vs' := [some (.ref p0), some (.int p1), some (.int p2)]) (st' := [.int 0, .ref p0]) rfl ?_
  refine s_putI X fp_X12_50 t0_ (dk okd_X12_owner 0 rfl) (fun S1 => ?_)
  refine s_run X ok_X12_owner 2 3 (pc' := 8) (vs' := [some (.ref p0), some (.int p1), some (.int p2)]) (st' := [.int p2, .int p1, .ref p0]) rfl ?_
  refine s_callS (As := [.int p1, .int p2]) (rest := [.ref p0]) X E ms_X12_67 (c_X12_isCell S1 p1 p2) rfl (ta0) rfl rfl (Nat.le_of_ble_eq_true rfl) (Nat.le_of_ble_eq_true rfl) (Nat.le_of_ble_eq_true rfl) (dk okd_X12_owner 1 rfl) (st' := fun v2 => [.int v2, .ref p0]) (fun _ => rfl) (fun v2 => ?_)
  refine s_jn (κ := Int32 → Option (Int32 × St)) (fun k4 => ∀ (x3 : Int32), Jd C 3 (QJ C oIS sS) S1 19 [some (.ref p0), some (.int p1), some (.int p2)] [.int x3, .ref p0] (k4 x3)) (fun x3 => ?_) (fun k4 h5 => ?_)
  · refine s_run X ok_X12_owner 8 1 (pc' := 20) (vs' := [some (.ref p0), some (.int p1), some (.int p2)]) (st' := [.int 1, .int x3, .ref p0]) rfl ?_
    refine s_callV (b := p0) (As := [.int x3, .int 1]) (rest := []) X E mv_X12_81 (c_X12_throwsIf S1 p0 x3 1) rfl (ta1 t0_) rfl (by decide) t0_ rfl rfl (Nat.le_of_ble_eq_true rfl) (Nat.le_of_ble_eq_true rfl) (Nat.le_of_ble_eq_true rfl) (dk okd_X12_owner 3 rfl) (st' := fun o6 => [.int o6.1]) (fun _ => rfl) (fun o6 => ?_)
    refine s_if_eq (tgt := 30) X (dk okd_X12_owner 4 rfl) (by decide) ?_ ?_
    · refine s_run X ok_X12_owner 11 3 (pc' := 33) (vs' := [some (.ref p0), some (.int p1), some (.int p2)]) (st' := [.int p2, .int p1, .ref p0]) rfl ?_
      refine s_callV (b := p0) (As := [.int p1, .int p2]) (rest := []) X E mv_X12_71 (c_X12_ownerOf o6.2 p0 p1 p2) rfl (ta1 t0_) rfl (by decide) t0_ rfl rfl (Nat.le_of_ble_eq_true rfl) (Nat.le_of_ble_eq_true rfl) (Nat.le_of_ble_eq_true rfl) (dk okd_X12_owner 5 rfl) (st' := fun v7 => [.int v7]) (fun _ => rfl) (fun v7 => ?_)
      exact s_iret X hr (dk okd_X12_owner 6 rfl) rfl rfl
    · refine s_run X ok_X12_owner 9 2 (pc' := 36) (vs' := [some (.ref p0), some (.int p1), some (.int p2)]) (st' := [.int 0]) rfl ?_
      exact s_iret X hr (dk okd_X12_owner 6 rfl) rfl rfl
  · refine s_if_ne (tgt := 18) X (dk okd_X12_owner 2 rfl) (by decide) ?_ ?_
    · refine s_run X ok_X12_owner 7 1 (pc' := 19) (vs' := [some (.ref p0), some (.int p1), some (.int p2)]) (st' := [.int 0, .ref p0]) rfl ?_
      exact h5 0
    · refine s_run X ok_X12_owner 5 2 (pc' := 19) (vs' := [some (.ref p0), some (.int p1), some (.int p2)]) (st' := [.int 1, .ref p0]) rfl ?_
      exact h5 1
def tab_X12_areaOf : List En := [(0, 0, 0, 0), (1, 10, 2, 0), (2, 0, 0, 0), (3, 10, 3, 0), (4, 4, 3, 0), (5, 2, 0, 900), (11, 4, 2, 0), (12, 8, 0, 0), (16, 2, 0, 250), (19, 4, 3, 0), (20, 17, 0, 0), (22, 4, 1, 0), (23, 31, 0, 0), (24, 40, 0, 0), (28, 0, 0, 1), (29, 41, 33, 0), (32, 0, 0, 0), (33, 17, 0, 0), (34, 10, 2, 0), (35, 16, 3, 1), (38, 41, 4, 0), (41, 4, 2, 0)]
theorem ok_X12_areaOf : tab_X12_areaOf.all (okE cX12_areaOf) = true := by decide +kernel
def ed_X12_areaOf : List (Nat × Instr × Nat) := [(8, .if_icmp .ge 33, 3), (13, .getfield 9, 3), (21, .laload, 1), (25, .ifCond .ne 7, 3), (42, .ireturn, 1)]
theorem okd_X12_areaOf : ed_X12_areaOf.all (okD cX12_areaOf) = true := by decide +kernel
def f_X12_areaOf (S : St) (p0 : Nat) (p1 : Int32) : Option (Int32) := jn (κ := Int32 → Option (Int32)) (fun x1 => some x1) fun k2 => lp (κ := Int32 → Int32 → Option (Int32)) (fun _ _ => none) (fun k6 x4 x5 => if 900 ≤ x5 then (k2 x4) else (lt (gR S p0 0) fun (a8 : Nat) => ldJ S a8 (250 + x5) fun (v10 : Int64) => jn (κ := Int32 → Option (Int32)) (fun x11 => lt (x4 + x11) fun (v14 : Int32) => k6 v14 (x5 + 1)) fun k12 => if v10 = (Int32.toInt64 p1) then (k12 1) else (k12 0))) FU 0 0
set_option maxHeartbeats 4000000 in
set_option maxRecDepth 100000 in
theorem c_X12_areaOf (S : St) (p0 : Nat) (p1 : Int32) : Ct yX12_areaOf cX12_areaOf 4 (some .int) 0 0 (fun _ => [.ref p0, .int p1]) [(p0, 11)] S (f_X12_areaOf S p0 p1) oI (fun _ => S) := by
  refine Ct_of RX12 rfl (by decide) (fun _ => Nat.le_of_ble_eq_true rfl) 2 (vs := fun _ => [some (.ref p0), some (.int p1), none, none]) (fun _ => rfl) (fun C X E hr ht => ?_)
  have t0_ : tT C p0 11 := ht (p0, 11) (by simp)
  show Jd C 4 (QJ C oI (fun _ => S)) S 0 [some (.ref p0), some (.int p1), none, none] [] (f_X12_areaOf S p0 p1)
  unfold f_X12_areaOf
  refine s_run X ok_X12_areaOf 0 4 (pc' := 4) (vs' := [some (.ref p0), some (.int p1), some (.int 0), some (.int 0)]) (st' := []) rfl ?_
  refine s_jn (κ := Int32 → Option (Int32)) (fun k2 => ∀ (x1 : Int32), Jd C 4 (QJ C oI (fun _ => S)) S 41 [none, none, some (.int x1), none] [] (k2 x1)) (fun x1 => ?_) (fun k2 h3 => ?_)
  · refine s_run X ok_X12_areaOf 21 1 (pc' := 42) (vs' := [none, none, some (.int x1), none]) (st' := [.int x1]) rfl ?_
    exact s_iret X hr (dk okd_X12_areaOf 4 rfl) rfl rfl
  · refine s_lp (κ := Int32 → Int32 → Option (Int32)) (fun k6 => ∀ (x4 : Int32) (x5 : Int32), Jd C 4 (QJ C oI (fun _ => S)) S 4 [some (.ref p0), some (.int p1), some (.int x4), some (.int x5)] [] (k6 x4 x5)) (fun _ _ => s_none) (fun k6 h7 x4 x5 => ?_) FU 0 0
    refine s_run X ok_X12_areaOf 4 2 (pc' := 8) (vs' := [some (.ref p0), some (.int p1), some (.int x4), some (.int x5)]) (st' := [.int 900, .int x5]) rfl ?_
    refine s_icmp_ge (tgt := 41) X (dk okd_X12_areaOf 0 rfl) (by decide) ?_ ?_
    · exact s_less [false, false, true, false] rfl (h3 x4)
    · refine s_run X ok_X12_areaOf 6 2 (pc' := 13) (vs' := [some (.ref p0), some (.int p1), some (.int x4), some (.int x5)]) (st' := [.ref p0, .int x4]) rfl ?_
      refine s_getR X fl_X12_9 t0_ (dk okd_X12_areaOf 1 rfl) (fun a8 (t9 : tT C a8 14) => ?_)
      refine s_run X ok_X12_areaOf 8 3 (pc' := 21) (vs' := [some (.ref p0), some (.int p1), some (.int x4), some (.int x5)]) (st' := [.int (250 + x5), .ref a8, .int x4]) rfl ?_
      refine s_lald X t9 (dk okd_X12_areaOf 2 rfl) (fun v10 => ?_)
      refine s_run X ok_X12_areaOf 11 3 (pc' := 25) (vs' := [some (.ref p0), some (.int p1), some (.int x4), some (.int x5)]) (st' := [.int (lg_cmp v10 (Int32.toInt64 p1)), .int x4]) rfl ?_
      refine s_jn (κ := Int32 → Option (Int32)) (fun k12 => ∀ (x11 : Int32), Jd C 4 (QJ C oI (fun _ => S)) S 33 [some (.ref p0), some (.int p1), none, some (.int x5)] [.int x11, .int x4] (k12 x11)) (fun x11 => ?_) (fun k12 h13 => ?_)
      · refine s_run X ok_X12_areaOf 17 1 (pc' := 34) (vs' := [some (.ref p0), some (.int p1), none, some (.int x5)]) (st' := [.int (x4 + x11)]) rfl ?_
        refine s_nmI (fun v14 => ?_)
        refine s_run X ok_X12_areaOf 18 3 (pc' := 4) (vs' := [some (.ref p0), some (.int p1), some (.int v14), some (.int (x5 + 1))]) (st' := []) rfl ?_
        exact h7 v14 (x5 + 1)
      · refine s_lif_ne (tgt := 32) X (dk okd_X12_areaOf 3 rfl) (by decide) ?_ ?_
        · refine s_run X ok_X12_areaOf 16 1 (pc' := 33) (vs' := [some (.ref p0), some (.int p1), some (.int x4), some (.int x5)]) (st' := [.int 0, .int x4]) rfl ?_
          exact s_less [true, true, false, true] rfl (h13 0)
        · refine s_run X ok_X12_areaOf 14 2 (pc' := 33) (vs' := [some (.ref p0), some (.int p1), some (.int x4), some (.int x5)]) (st' := [.int 1, .int x4]) rfl ?_
          exact s_less [true, true, false, true] rfl (h13 1)
def tab_X12_area : List En := [(0, 8, 0, 0), (1, 0, 0, 0), (5, 8, 0, 0), (6, 8, 0, 0), (7, 4, 1, 0), (14, 0, 0, 1), (15, 41, 19, 0), (18, 0, 0, 0), (19, 0, 0, 1), (26, 0, 0, 0), (27, 41, 35, 0), (30, 8, 0, 0), (31, 4, 1, 0)]
theorem ok_X12_area : tab_X12_area.all (okE cX12_area) = true := by decide +kernel
def ed_X12_area : List (Nat × Instr × Nat) := [(2, .putfield 50, 3), (8, .invokevirtual 85, 3), (11, .ifCond .ne 7, 3), (20, .invokevirtual 81, 3), (23, .ifCond .eq 7, 3), (32, .invokevirtual 89, 3), (35, .ireturn, 1)]
theorem okd_X12_area : ed_X12_area.all (okD cX12_area) = true := by decide +kernel
def f_X12_area (S : St) (p0 : Nat) (p1 : Int32) : Option (Int32 × St) := lt (uI S p0 2 0) fun (S1 : St) => cl (f_X12_isFranchisee S1 p0 p1) fun (v2 : Int32) => jn (κ := Int32 → Option (Int32 × St)) (fun x3 => cl (f_X12_throwsIf S1 p0 x3 1) fun (o6 : Int32 × St) => if o6.1 = 0 then (cl (f_X12_areaOf o6.2 p0 p1) fun (v7 : Int32) => some (v7, o6.2)) else (some (0, o6.2))) fun k4 => if v2 = 0 then (k4 1) else (k4 0)
set_option maxHeartbeats 4000000 in
set_option maxRecDepth 100000 in
theorem c_X12_area (S : St) (p0 : Nat) (p1 : Int32) : Ct yX12_area cX12_area 2 (some .int) 2 46 (fun _ => [.ref p0, .int p1]) [(p0, 11)] S (f_X12_area S p0 p1) oIS sS := by
  refine Ct_of RX12 rfl (by decide) (fun _ => Nat.le_of_ble_eq_true rfl) 0 (vs := fun _ => [some (.ref p0), some (.int p1)]) (fun _ => rfl) (fun C X E hr ht => ?_)
  have t0_ : tT C p0 11 := ht (p0, 11) (by simp)
  show Jd C 2 (QJ C oIS sS) S 0 [some (.ref p0), some (.int p1)] [] (f_X12_area S p0 p1)
  unfold f_X12_area
  refine s_run X ok_X12_area 0 2 (pc' := 2) (vs' := [some (.ref p0), some (.int p1)]) (st' := [.int 0, .ref p0]) rfl ?_
  refine s_putI X fp_X12_50 t0_ (dk okd_X12_area 0 rfl) (fun S1 => ?_)
  refine s_run X ok_X12_area 2 3 (pc' := 8) (vs' := [some (.ref p0), some (.int p1)]) (st' := [.int p1, .ref p0, .ref p0]) rfl ?_
  refine s_callV (b := p0) (As := [.int p1]) (rest := [.ref p0]) X E mv_X12_85 (c_X12_isFranchisee S1 p0 p1) rfl (ta1 t0_) rfl (by decide) t0_ rfl rfl (Nat.le_of_ble_eq_true rfl) (Nat.le_of_ble_eq_true rfl) (Nat.le_of_ble_eq_true rfl) (dk okd_X12_area 1 rfl) (st' := fun v2 => [.int v2, .ref p0]) (fun _ => rfl) (fun v2 => ?_)
  refine s_jn (κ := Int32 → Option (Int32 × St)) (fun k4 => ∀ (x3 : Int32), Jd C 2 (QJ C oIS sS) S1 19 [some (.ref p0), some (.int p1)] [.int x3, .ref p0] (k4 x3)) (fun x3 => ?_) (fun k4 h5 => ?_)
  · refine s_run X ok_X12_area 8 1 (pc' := 20) (vs' := [some (.ref p0), some (.int p1)]) (st' := [.int 1, .int x3, .ref p0]) rfl ?_
    refine s_callV (b := p0) (As := [.int x3, .int 1]) (rest := []) X E mv_X12_81 (c_X12_throwsIf S1 p0 x3 1) rfl (ta1 t0_) rfl (by decide) t0_ rfl rfl (Nat.le_of_ble_eq_true rfl) (Nat.le_of_ble_eq_true rfl) (Nat.le_of_ble_eq_true rfl) (dk okd_X12_area 3 rfl) (st' := fun o6 => [.int o6.1]) (fun _ => rfl) (fun o6 => ?_)
    refine s_if_eq (tgt := 30) X (dk okd_X12_area 4 rfl) (by decide) ?_ ?_
    · refine s_run X ok_X12_area 11 2 (pc' := 32) (vs' := [some (.ref p0), some (.int p1)]) (st' := [.int p1, .ref p0]) rfl ?_
      refine s_callV (b := p0) (As := [.int p1]) (rest := []) X E mv_X12_89 (c_X12_areaOf o6.2 p0 p1) rfl (ta1 t0_) rfl (by decide) t0_ rfl rfl (Nat.le_of_ble_eq_true rfl) (Nat.le_of_ble_eq_true rfl) (Nat.le_of_ble_eq_true rfl) (dk okd_X12_area 5 rfl) (st' := fun v7 => [.int v7]) (fun _ => rfl) (fun v7 => ?_)
      exact s_iret X hr (dk okd_X12_area 6 rfl) rfl rfl
    · refine s_run X ok_X12_area 9 2 (pc' := 35) (vs' := [some (.ref p0), some (.int p1)]) (st' := [.int 0]) rfl ?_
      exact s_iret X hr (dk okd_X12_area 6 rfl) rfl rfl
  · refine s_if_ne (tgt := 18) X (dk okd_X12_area 2 rfl) (by decide) ?_ ?_
    · refine s_run X ok_X12_area 7 1 (pc' := 19) (vs' := [some (.ref p0), some (.int p1)]) (st' := [.int 0, .ref p0]) rfl ?_
      exact h5 0
    · refine s_run X ok_X12_area 5 2 (pc' := 19) (vs' := [some (.ref p0), some (.int p1)]) (st' := [.int 1, .ref p0]) rfl ?_
      exact h5 1
def tab_X12_neighboursOf : List En := [(0, 8, 0, 0), (1, 4, 1, 0), (2, 4, 2, 0), (3, 0, 0, 1), (4, 18, 0, 0), (5, 4, 3, 0), (12, 0, 0, 1), (13, 41, 17, 0), (16, 0, 0, 0), (17, 8, 0, 0), (18, 4, 1, 0), (19, 4, 2, 0), (20, 0, 0, 1), (21, 17, 0, 0), (22, 4, 3, 0), (29, 0, 0, 1), (30, 41, 34, 0), (33, 0, 0, 0), (34, 17, 0, 0), (35, 8, 0, 0), (36, 4, 1, 0), (37, 4, 2, 0), (38, 4, 3, 0), (39, 0, 0, 1), (40, 18, 0, 0), (47, 0, 0, 1), (48, 41, 52, 0), (51, 0, 0, 0), (52, 17, 0, 0), (53, 8, 0, 0), (54, 4, 1, 0), (55, 4, 2, 0), (56, 4, 3, 0), (57, 0, 0, 1), (58, 17, 0, 0), (65, 0, 0, 1), (66, 41, 70, 0), (69, 0, 0, 0), (70, 17, 0, 0)]
theorem ok_X12_neighboursOf : tab_X12_neighboursOf.all (okE cX12_neighboursOf) = true := by decide +kernel
def ed_X12_neighboursOf : List (Nat × Instr × Nat) := [(6, .invokevirtual 93, 3), (9, .ifCond .eq 7, 3), (23, .invokevirtual 93, 3), (26, .ifCond .eq 7, 3), (41, .invokevirtual 93, 3), (44, .ifCond .eq 7, 3), (59, .invokevirtual 93, 3), (62, .ifCond .eq 7, 3), (71, .ireturn, 1)]
theorem okd_X12_neighboursOf : ed_X12_neighboursOf.all (okD cX12_neighboursOf) = true := by decide +kernel
def f_X12_neighboursOf (S : St) (p0 : Nat) (p1 : Int32) (p2 : Int32) (p3 : Int32) : Option (Int32) := cl (f_X12_owns S p0 p1 (p2 - 1) p3) fun (v1 : Int32) => jn (κ := Int32 → Option (Int32)) (fun x2 => cl (f_X12_owns S p0 p1 (p2 + 1) p3) fun (v5 : Int32) => jn (κ := Int32 → Option (Int32)) (fun x6 => cl (f_X12_owns S p0 p1 p2 (p3 - 1)) fun (v9 : Int32) => jn (κ := Int32 → Option (Int32)) (fun x10 => cl (f_X12_owns S p0 p1 p2 (p3 + 1)) fun (v13 : Int32) => jn (κ := Int32 → Option (Int32)) (fun x14 => some (((x2 + x6) + x10) + x14)) fun k15 => if v13 = 0 then (k15 0) else (k15 1)) fun k11 => if v9 = 0 then (k11 0) else (k11 1)) fun k7 => if v5 = 0 then (k7 0) else (k7 1)) fun k3 => if v1 = 0 then (k3 0) else (k3 1)
set_option maxHeartbeats 4000000 in
set_option maxRecDepth 100000 in
theorem c_X12_neighboursOf (S : St) (p0 : Nat) (p1 : Int32) (p2 : Int32) (p3 : Int32) : Ct yX12_neighboursOf cX12_neighboursOf 4 (some .int) 3 69 (fun _ => [.ref p0, .int p1, .int p2, .int p3]) [(p0, 11)] S (f_X12_neighboursOf S p0 p1 p2 p3) oI (fun _ => S) := by
  refine Ct_of RX12 rfl (by decide) (fun _ => Nat.le_of_ble_eq_true rfl) 0 (vs := fun _ => [some (.ref p0), some (.int p1), some (.int p2), some (.int p3)]) (fun _ => rfl) (fun C X E hr ht => ?_)
  have t0_ : tT C p0 11 := ht (p0, 11) (by simp)
  show Jd C 4 (QJ C oI (fun _ => S)) S 0 [some (.ref p0), some (.int p1), some (.int p2), some (.int p3)] [] (f_X12_neighboursOf S p0 p1 p2 p3)
  unfold f_X12_neighboursOf
  refine s_run X ok_X12_neighboursOf 0 6 (pc' := 6) (vs' := [some (.ref p0), some (.int p1), some (.int p2), some (.int p3)]) (st' := [.int p3, .int (p2 - 1), .int p1, .ref p0]) rfl ?_
  refine s_callV (b := p0) (As := [.int p1, .int (p2 - 1), .int p3]) (rest := []) X E mv_X12_93 (c_X12_owns S p0 p1 (p2 - 1) p3) rfl (ta1 t0_) rfl (by decide) t0_ rfl rfl (Nat.le_of_ble_eq_true rfl) (Nat.le_of_ble_eq_true rfl) (Nat.le_of_ble_eq_true rfl) (dk okd_X12_neighboursOf 0 rfl) (st' := fun v1 => [.int v1]) (fun _ => rfl) (fun v1 => ?_)
  refine s_jn (κ := Int32 → Option (Int32)) (fun k3 => ∀ (x2 : Int32), Jd C 4 (QJ C oI (fun _ => S)) S 17 [some (.ref p0), some (.int p1), some (.int p2), some (.int p3)] [.int x2] (k3 x2)) (fun x2 => ?_) (fun k3 h4 => ?_)
  · refine s_run X ok_X12_neighboursOf 9 6 (pc' := 23) (vs' := [some (.ref p0), some (.int p1), some (.int p2), some (.int p3)]) (st' := [.int p3, .int (p2 + 1), .int p1, .ref p0, .int x2]) rfl ?_
    refine s_callV (b := p0) (As := [.int p1, .int (p2 + 1), .int p3]) (rest := [.int x2]) X E mv_X12_93 (c_X12_owns S p0 p1 (p2 + 1) p3) rfl (ta1 t0_) rfl (by decide) t0_ rfl rfl (Nat.le_of_ble_eq_true rfl) (Nat.le_of_ble_eq_true rfl) (Nat.le_of_ble_eq_true rfl) (dk okd_X12_neighboursOf 2 rfl) (st' := fun v5 => [.int v5, .int x2]) (fun _ => rfl) (fun v5 => ?_)
    refine s_jn (κ := Int32 → Option (Int32)) (fun k7 => ∀ (x6 : Int32), Jd C 4 (QJ C oI (fun _ => S)) S 34 [some (.ref p0), some (.int p1), some (.int p2), some (.int p3)] [.int x6, .int x2] (k7 x6)) (fun x6 => ?_) (fun k7 h8 => ?_)
    · refine s_run X ok_X12_neighboursOf 18 7 (pc' := 41) (vs' := [some (.ref p0), some (.int p1), some (.int p2), some (.int p3)]) (st' := [.int (p3 - 1), .int p2, .int p1, .ref p0, .int (x2 + x6)]) rfl ?_
      refine s_callV (b := p0) (As := [.int p1, .int p2, .int (p3 - 1)]) (rest := [.int (x2 + x6)]) X E mv_X12_93 (c_X12_owns S p0 p1 p2 (p3 - 1)) rfl (ta1 t0_) rfl (by decide) t0_ rfl rfl (Nat.le_of_ble_eq_true rfl) (Nat.le_of_ble_eq_true rfl) (Nat.le_of_ble_eq_true rfl) (dk okd_X12_neighboursOf 4 rfl) (st' := fun v9 => [.int v9, .int (x2 + x6)]) (fun _ => rfl) (fun v9 => ?_)
      refine s_jn (κ := Int32 → Option (Int32)) (fun k11 => ∀ (x10 : Int32), Jd C 4 (QJ C oI (fun _ => S)) S 52 [some (.ref p0), some (.int p1), some (.int p2), some (.int p3)] [.int x10, .int (x2 + x6)] (k11 x10)) (fun x10 => ?_) (fun k11 h12 => ?_)
      · refine s_run X ok_X12_neighboursOf 28 7 (pc' := 59) (vs' := [some (.ref p0), some (.int p1), some (.int p2), some (.int p3)]) (st' := [.int (p3 + 1), .int p2, .int p1, .ref p0, .int ((x2 + x6) + x10)]) rfl ?_
        refine s_callV (b := p0) (As := [.int p1, .int p2, .int (p3 + 1)]) (rest := [.int ((x2 + x6) + x10)]) X E mv_X12_93 (c_X12_owns S p0 p1 p2 (p3 + 1)) rfl (ta1 t0_) rfl (by decide) t0_ rfl rfl (Nat.le_of_ble_eq_true rfl) (Nat.le_of_ble_eq_true rfl) (Nat.le_of_ble_eq_true rfl) (dk okd_X12_neighboursOf 6 rfl) (st' := fun v13 => [.int v13, .int ((x2 + x6) + x10)]) (fun _ => rfl) (fun v13 => ?_)
        refine s_jn (κ := Int32 → Option (Int32)) (fun k15 => ∀ (x14 : Int32), Jd C 4 (QJ C oI (fun _ => S)) S 70 [none, none, none, none] [.int x14, .int ((x2 + x6) + x10)] (k15 x14)) (fun x14 => ?_) (fun k15 h16 => ?_)
        · refine s_run X ok_X12_neighboursOf 38 1 (pc' := 71) (vs' := [none, none, none, none]) (st' := [.int (((x2 + x6) + x10) + x14)]) rfl ?_
          exact s_iret X hr (dk okd_X12_neighboursOf 8 rfl) rfl rfl
        · refine s_if_eq (tgt := 69) X (dk okd_X12_neighboursOf 7 rfl) (by decide) ?_ ?_
          · refine s_run X ok_X12_neighboursOf 37 1 (pc' := 70) (vs' := [some (.ref p0), some (.int p1), some (.int p2), some (.int p3)]) (st' := [.int 0, .int ((x2 + x6) + x10)]) rfl ?_
            exact s_less [false, false, false, false] rfl (h16 0)
          · refine s_run X ok_X12_neighboursOf 35 2 (pc' := 70) (vs' := [some (.ref p0), some (.int p1), some (.int p2), some (.int p3)]) (st' := [.int 1, .int ((x2 + x6) + x10)]) rfl ?_
            exact s_less [false, false, false, false] rfl (h16 1)
      · refine s_if_eq (tgt := 51) X (dk okd_X12_neighboursOf 5 rfl) (by decide) ?_ ?_
        · refine s_run X ok_X12_neighboursOf 27 1 (pc' := 52) (vs' := [some (.ref p0), some (.int p1), some (.int p2), some (.int p3)]) (st' := [.int 0, .int (x2 + x6)]) rfl ?_
          exact h12 0
        · refine s_run X ok_X12_neighboursOf 25 2 (pc' := 52) (vs' := [some (.ref p0), some (.int p1), some (.int p2), some (.int p3)]) (st' := [.int 1, .int (x2 + x6)]) rfl ?_
          exact h12 1
    · refine s_if_eq (tgt := 33) X (dk okd_X12_neighboursOf 3 rfl) (by decide) ?_ ?_
      · refine s_run X ok_X12_neighboursOf 17 1 (pc' := 34) (vs' := [some (.ref p0), some (.int p1), some (.int p2), some (.int p3)]) (st' := [.int 0, .int x2]) rfl ?_
        exact h8 0
      · refine s_run X ok_X12_neighboursOf 15 2 (pc' := 34) (vs' := [some (.ref p0), some (.int p1), some (.int p2), some (.int p3)]) (st' := [.int 1, .int x2]) rfl ?_
        exact h8 1
  · refine s_if_eq (tgt := 16) X (dk okd_X12_neighboursOf 1 rfl) (by decide) ?_ ?_
    · refine s_run X ok_X12_neighboursOf 8 1 (pc' := 17) (vs' := [some (.ref p0), some (.int p1), some (.int p2), some (.int p3)]) (st' := [.int 0]) rfl ?_
      exact h4 0
    · refine s_run X ok_X12_neighboursOf 6 2 (pc' := 17) (vs' := [some (.ref p0), some (.int p1), some (.int p2), some (.int p3)]) (st' := [.int 1]) rfl ?_
      exact h4 1
def tab_X12_perimeter : List En := [(0, 8, 0, 0), (1, 0, 0, 0), (5, 8, 0, 0), (6, 8, 0, 0), (7, 4, 1, 0), (14, 0, 0, 1), (15, 41, 19, 0), (18, 0, 0, 0), (19, 0, 0, 1), (26, 0, 0, 0), (28, 0, 0, 0), (29, 10, 2, 0), (30, 0, 0, 0), (31, 10, 3, 0), (32, 4, 3, 0), (33, 2, 0, 900), (39, 8, 0, 0), (43, 2, 0, 250), (46, 4, 3, 0), (47, 17, 0, 0), (49, 4, 1, 0), (50, 31, 0, 0), (51, 40, 0, 0), (55, 4, 2, 0), (56, 0, 0, 4), (57, 8, 0, 0), (58, 4, 1, 0), (59, 4, 3, 0), (60, 1, 0, 30), (63, 4, 3, 0), (64, 1, 0, 30), (70, 18, 0, 0), (71, 17, 0, 0), (72, 10, 2, 0), (73, 16, 3, 1), (76, 41, 32, 0), (79, 4, 2, 0)]
theorem ok_X12_perimeter : tab_X12_perimeter.all (okE cX12_perimeter) = true := by decide +kernel
def ed_X12_perimeter : List (Nat × Instr × Nat) := [(2, .putfield 50, 3), (8, .invokevirtual 85, 3), (11, .ifCond .ne 7, 3), (20, .invokevirtual 81, 3), (23, .ifCond .eq 5, 3), (27, .ireturn, 1), (36, .if_icmp .ge 43, 3), (40, .getfield 9, 3), (48, .laload, 1), (52, .ifCond .ne 21, 3), (62, .irem, 1), (66, .idiv, 1), (67, .invokevirtual 97, 3), (80, .ireturn, 1)]
theorem okd_X12_perimeter : ed_X12_perimeter.all (okD cX12_perimeter) = true := by decide +kernel
def f_X12_perimeter (S : St) (p0 : Nat) (p1 : Int32) : Option (Int32 × St) := lt (uI S p0 2 0) fun (S1 : St) => cl (f_X12_isFranchisee S1 p0 p1) fun (v2 : Int32) => jn (κ := Int32 → Option (Int32 × St)) (fun x3 => cl (f_X12_throwsIf S1 p0 x3 1) fun (o6 : Int32 × St) => if o6.1 = 0 then (jn (κ := Int32 → Option (Int32 × St)) (fun x7 => some (x7, o6.2)) fun k8 => lp (κ := Int32 → Int32 → Option (Int32 × St)) (fun _ _ => none) (fun k12 x10 x11 => if 900 ≤ x11 then (k8 x10) else (lt (gR o6.2 p0 0) fun (a14 : Nat) => ldJ o6.2 a14 (250 + x11) fun (v16 : Int64) => jn (κ := Int32 → Option (Int32 × St)) (fun x17 => k12 x17 (x11 + 1)) fun k18 => if v16 = (Int32.toInt64 p1) then (cl (f_X12_neighboursOf o6.2 p0 p1 (x11 - x11 / 30 * 30) (x11 / 30)) fun (v20 : Int32) => lt (x10 + (4 - v20)) fun (v21 : Int32) => k18 v21) else (k18 x10))) FU 0 0) else (some (0, o6.2))) fun k4 => if v2 = 0 then (k4 1) else (k4 0)
set_option maxHeartbeats 4000000 in
set_option maxRecDepth 100000 in
theorem c_X12_perimeter (S : St) (p0 : Nat) (p1 : Int32) : Ct yX12_perimeter cX12_perimeter 4 (some .int) 4 92 (fun _ => [.ref p0, .int p1]) [(p0, 11)] S (f_X12_perimeter S p0 p1) oIS sS := by
  refine Ct_of RX12 rfl (by decide) (fun _ => Nat.le_of_ble_eq_true rfl) 2 (vs := fun _ => [some (.ref p0), some (.int p1), none, none]) (fun _ => rfl) (fun C X E hr ht => ?_)
  have t0_ : tT C p0 11 := ht (p0, 11) (by simp)
  show Jd C 4 (QJ C oIS sS) S 0 [some (.ref p0), some (.int p1), none, none] [] (f_X12_perimeter S p0 p1)
  unfold f_X12_perimeter
  refine s_run X ok_X12_perimeter 0 2 (pc' := 2) (vs' := [some (.ref p0), some (.int p1), none, none]) (st' := [.int 0, .ref p0]) rfl ?_
  refine s_putI X fp_X12_50 t0_ (dk okd_X12_perimeter 0 rfl) (fun S1 => ?_)
  refine s_run X ok_X12_perimeter 2 3 (pc' := 8) (vs' := [some (.ref p0), some (.int p1), none, none]) (st' := [.int p1, .ref p0, .ref p0]) rfl ?_
  refine s_callV (b := p0) (As := [.int p1]) (rest := [.ref p0]) X E mv_X12_85 (c_X12_isFranchisee S1 p0 p1) rfl (ta1 t0_) rfl (by decide) t0_ rfl rfl (Nat.le_of_ble_eq_true rfl) (Nat.le_of_ble_eq_true rfl) (Nat.le_of_ble_eq_true rfl) (dk okd_X12_perimeter 1 rfl) (st' := fun v2 => [.int v2, .ref p0]) (fun _ => rfl) (fun v2 => ?_)
  refine s_jn (κ := Int32 → Option (Int32 × St)) (fun k4 => ∀ (x3 : Int32), Jd C 4 (QJ C oIS sS) S1 19 [some (.ref p0), some (.int p1), none, none] [.int x3, .ref p0] (k4 x3)) (fun x3 => ?_) (fun k4 h5 => ?_)
  · refine s_run X ok_X12_perimeter 8 1 (pc' := 20) (vs' := [some (.ref p0), some (.int p1), none, none]) (st' := [.int 1, .int x3, .ref p0]) rfl ?_
    refine s_callV (b := p0) (As := [.int x3, .int 1]) (rest := []) X E mv_X12_81 (c_X12_throwsIf S1 p0 x3 1) rfl (ta1 t0_) rfl (by decide) t0_ rfl rfl (Nat.le_of_ble_eq_true rfl) (Nat.le_of_ble_eq_true rfl) (Nat.le_of_ble_eq_true rfl) (dk okd_X12_perimeter 3 rfl) (st' := fun o6 => [.int o6.1]) (fun _ => rfl) (fun o6 => ?_)
    refine s_if_eq (tgt := 28) X (dk okd_X12_perimeter 4 rfl) (by decide) ?_ ?_
    · refine s_run X ok_X12_perimeter 10 4 (pc' := 32) (vs' := [some (.ref p0), some (.int p1), some (.int 0), some (.int 0)]) (st' := []) rfl ?_
      refine s_jn (κ := Int32 → Option (Int32 × St)) (fun k8 => ∀ (x7 : Int32), Jd C 4 (QJ C oIS sS) o6.2 79 [none, none, some (.int x7), none] [] (k8 x7)) (fun x7 => ?_) (fun k8 h9 => ?_)
      · refine s_run X ok_X12_perimeter 36 1 (pc' := 80) (vs' := [none, none, some (.int x7), none]) (st' := [.int x7]) rfl ?_
        exact s_iret X hr (dk okd_X12_perimeter 13 rfl) rfl rfl
      · refine s_lp (κ := Int32 → Int32 → Option (Int32 × St)) (fun k12 => ∀ (x10 : Int32) (x11 : Int32), Jd C 4 (QJ C oIS sS) o6.2 32 [some (.ref p0), some (.int p1), some (.int x10), some (.int x11)] [] (k12 x10 x11)) (fun _ _ => s_none) (fun k12 h13 x10 x11 => ?_) FU 0 0
        refine s_run X ok_X12_perimeter 14 2 (pc' := 36) (vs' := [some (.ref p0), some (.int p1), some (.int x10), some (.int x11)]) (st' := [.int 900, .int x11]) rfl ?_
        refine s_icmp_ge (tgt := 79) X (dk okd_X12_perimeter 6 rfl) (by decide) ?_ ?_
        · exact s_less [false, false, true, false] rfl (h9 x10)
        · refine s_run X ok_X12_perimeter 16 1 (pc' := 40) (vs' := [some (.ref p0), some (.int p1), some (.int x10), some (.int x11)]) (st' := [.ref p0]) rfl ?_
          refine s_getR X fl_X12_9 t0_ (dk okd_X12_perimeter 7 rfl) (fun a14 (t15 : tT C a14 14) => ?_)
          refine s_run X ok_X12_perimeter 17 3 (pc' := 48) (vs' := [some (.ref p0), some (.int p1), some (.int x10), some (.int x11)]) (st' := [.int (250 + x11), .ref a14]) rfl ?_
          refine s_lald X t15 (dk okd_X12_perimeter 8 rfl) (fun v16 => ?_)
          refine s_run X ok_X12_perimeter 20 3 (pc' := 52) (vs' := [some (.ref p0), some (.int p1), some (.int x10), some (.int x11)]) (st' := [.int (lg_cmp v16 (Int32.toInt64 p1))]) rfl ?_
          refine s_jn (κ := Int32 → Option (Int32 × St)) (fun k18 => ∀ (x17 : Int32), Jd C 4 (QJ C oIS sS) o6.2 73 [some (.ref p0), some (.int p1), some (.int x17), some (.int x11)] [] (k18 x17)) (fun x17 => ?_) (fun k18 h19 => ?_)
          · refine s_run X ok_X12_perimeter 34 2 (pc' := 32) (vs' := [some (.ref p0), some (.int p1), some (.int x17), some (.int (x11 + 1))]) (st' := []) rfl ?_
            exact h13 x17 (x11 + 1)
          · refine s_lif_ne (tgt := 73) X (dk okd_X12_perimeter 9 rfl) (by decide) ?_ ?_
            · exact h19 x10
            · refine s_run X ok_X12_perimeter 23 6 (pc' := 62) (vs' := [some (.ref p0), some (.int p1), some (.int x10), some (.int x11)]) (st' := [.int 30, .int x11, .int p1, .ref p0, .int 4, .int x10]) rfl ?_
              refine s_irem0 X (dk okd_X12_perimeter 10 rfl) (by decide) ?_
              refine s_run X ok_X12_perimeter 29 2 (pc' := 66) (vs' := [some (.ref p0), some (.int p1), some (.int x10), some (.int x11)]) (st' := [.int 30, .int x11, .int (x11 - x11 / 30 * 30), .int p1, .ref p0, .int 4, .int x10]) rfl ?_
              refine s_idiv0 X (dk okd_X12_perimeter 11 rfl) (by decide) ?_
              refine s_callV (b := p0) (As := [.int p1, .int (x11 - x11 / 30 * 30), .int (x11 / 30)]) (rest := [.int 4, .int x10]) X E mv_X12_97 (c_X12_neighboursOf o6.2 p0 p1 (x11 - x11 / 30 * 30) (x11 / 30)) rfl (ta1 t0_) rfl (by decide) t0_ rfl rfl (Nat.le_of_ble_eq_true rfl) (Nat.le_of_ble_eq_true rfl) (Nat.le_of_ble_eq_true rfl) (dk okd_X12_perimeter 12 rfl) (st' := fun v20 => [.int v20, .int 4, .int x10]) (fun _ => rfl) (fun v20 => ?_)
              refine s_run X ok_X12_perimeter 31 2 (pc' := 72) (vs' := [some (.ref p0), some (.int p1), some (.int x10), some (.int x11)]) (st' := [.int (x10 + (4 - v20))]) rfl ?_
              refine s_nmI (fun v21 => ?_)
              refine s_run X ok_X12_perimeter 33 1 (pc' := 73) (vs' := [some (.ref p0), some (.int p1), some (.int v21), some (.int x11)]) (st' := []) rfl ?_
              exact h19 v21
    · refine s_run X ok_X12_perimeter 9 1 (pc' := 27) (vs' := [some (.ref p0), some (.int p1), none, none]) (st' := [.int 0]) rfl ?_
      exact s_iret X hr (dk okd_X12_perimeter 5 rfl) rfl rfl
  · refine s_if_ne (tgt := 18) X (dk okd_X12_perimeter 2 rfl) (by decide) ?_ ?_
    · refine s_run X ok_X12_perimeter 7 1 (pc' := 19) (vs' := [some (.ref p0), some (.int p1), none, none]) (st' := [.int 0, .ref p0]) rfl ?_
      exact h5 0
    · refine s_run X ok_X12_perimeter 5 2 (pc' := 19) (vs' := [some (.ref p0), some (.int p1), none, none]) (st' := [.int 1, .ref p0]) rfl ?_
      exact h5 1
def tab_X12_border : List En := [(0, 8, 0, 0), (1, 0, 0, 0), (5, 8, 0, 0), (6, 8, 0, 0), (7, 4, 1, 0), (14, 8, 0, 0), (15, 4, 2, 0), (22, 0, 0, 1), (23, 41, 27, 0), (26, 0, 0, 0), (27, 0, 0, 1), (34, 4, 1, 0), (35, 4, 2, 0), (39, 0, 0, 0), (41, 0, 0, 0), (42, 10, 3, 0), (43, 0, 0, 0), (44, 11, 4, 0), (46, 5, 4, 0), (48, 2, 0, 900), (54, 8, 0, 0), (58, 2, 0, 250), (61, 5, 4, 0), (63, 17, 0, 0), (65, 4, 1, 0), (66, 31, 0, 0), (67, 40, 0, 0), (71, 4, 3, 0), (72, 8, 0, 0), (73, 4, 2, 0), (74, 5, 4, 0), (76, 1, 0, 30), (79, 5, 4, 0), (81, 1, 0, 30), (87, 17, 0, 0), (88, 10, 3, 0), (89, 16, 4, 1), (92, 41, 46, 0), (95, 4, 3, 0)]
theorem ok_X12_border : tab_X12_border.all (okE cX12_border) = true := by decide +kernel
def ed_X12_border : List (Nat × Instr × Nat) := [(2, .putfield 50, 3), (8, .invokevirtual 85, 3), (11, .ifCond .eq 11, 3), (16, .invokevirtual 85, 3), (19, .ifCond .ne 7, 3), (28, .invokevirtual 81, 3), (31, .ifCond .ne 8, 3), (36, .if_icmp .ne 5, 3), (40, .ireturn, 1), (51, .if_icmp .ge 44, 3), (55, .getfield 9, 3), (64, .laload, 1), (68, .ifCond .ne 21, 3), (78, .irem, 1), (83, .idiv, 1), (84, .invokevirtual 97, 3), (96, .ireturn, 1)]
theorem okd_X12_border : ed_X12_border.all (okD cX12_border) = true := by decide +kernel
def f_X12_border (S : St) (p0 : Nat) (p1 : Int32) (p2 : Int32) : Option (Int32 × St) := lt (uI S p0 2 0) fun (S1 : St) => cl (f_X12_isFranchisee S1 p0 p1) fun (v2 : Int32) => jn (κ := Int32 → Option (Int32 × St)) (fun x3 => cl (f_X12_throwsIf S1 p0 x3 1) fun (o6 : Int32 × St) => if o6.1 = 0 then (if p1 = p2 then (some (0, o6.2)) else (jn (κ := Int32 → Option (Int32 × St)) (fun x7 => some (x7, o6.2)) fun k8 => lp (κ := Int32 → Int32 → Option (Int32 × St)) (fun _ _ => none) (fun k12 x10 x11 => if 900 ≤ x11 then (k8 x10) else (lt (gR o6.2 p0 0) fun (a14 : Nat) => ldJ o6.2 a14 (250 + x11) fun (v16 : Int64) => jn (κ := Int32 → Option (Int32 × St)) (fun x17 => k12 x17 (x11 + 1)) fun k18 => if v16 = (Int32.toInt64 p1) then (cl (f_X12_neighboursOf o6.2 p0 p2 (x11 - x11 / 30 * 30) (x11 / 30)) fun (v20 : Int32) => lt (x10 + v20) fun (v21 : Int32) => k18 v21) else (k18 x10))) FU 0 0)) else (some (0, o6.2))) fun k4 => jn (κ := Option (Int32 × St)) (k4 1) fun k22 => if v2 = 0 then (k22) else (cl (f_X12_isFranchisee S1 p0 p2) fun (v24 : Int32) => if v24 = 0 then (k22) else (k4 0))
set_option maxHeartbeats 4000000 in
set_option maxRecDepth 100000 in
theorem c_X12_border (S : St) (p0 : Nat) (p1 : Int32) (p2 : Int32) : Ct yX12_border cX12_border 5 (some .int) 4 92 (fun _ => [.ref p0, .int p1, .int p2]) [(p0, 11)] S (f_X12_border S p0 p1 p2) oIS sS := by
  refine Ct_of RX12 rfl (by decide) (fun _ => Nat.le_of_ble_eq_true rfl) 2 (vs := fun _ => [some (.ref p0), some (.int p1), some (.int p2), none, none]) (fun _ => rfl) (fun C X E hr ht => ?_)
  have t0_ : tT C p0 11 := ht (p0, 11) (by simp)
  show Jd C 5 (QJ C oIS sS) S 0 [some (.ref p0), some (.int p1), some (.int p2), none, none] [] (f_X12_border S p0 p1 p2)
  unfold f_X12_border
  refine s_run X ok_X12_border 0 2 (pc' := 2) (vs' := [some (.ref p0), some (.int p1), some (.int p2), none, none]) (st' := [.int 0, .ref p0]) rfl ?_
  refine s_putI X fp_X12_50 t0_ (dk okd_X12_border 0 rfl) (fun S1 => ?_)
  refine s_run X ok_X12_border 2 3 (pc' := 8) (vs' := [some (.ref p0), some (.int p1), some (.int p2), none, none]) (st' := [.int p1, .ref p0, .ref p0]) rfl ?_
  refine s_callV (b := p0) (As := [.int p1]) (rest := [.ref p0]) X E mv_X12_85 (c_X12_isFranchisee S1 p0 p1) rfl (ta1 t0_) rfl (by decide) t0_ rfl rfl (Nat.le_of_ble_eq_true rfl) (Nat.le_of_ble_eq_true rfl) (Nat.le_of_ble_eq_true rfl) (dk okd_X12_border 1 rfl) (st' := fun v2 => [.int v2, .ref p0]) (fun _ => rfl) (fun v2 => ?_)
  refine s_jn (κ := Int32 → Option (Int32 × St)) (fun k4 => ∀ (x3 : Int32), Jd C 5 (QJ C oIS sS) S1 27 [some (.ref p0), some (.int p1), some (.int p2), none, none] [.int x3, .ref p0] (k4 x3)) (fun x3 => ?_) (fun k4 h5 => ?_)
  · refine s_run X ok_X12_border 10 1 (pc' := 28) (vs' := [some (.ref p0), some (.int p1), some (.int p2), none, none]) (st' := [.int 1, .int x3, .ref p0]) rfl ?_
    refine s_callV (b := p0) (As := [.int x3, .int 1]) (rest := []) X E mv_X12_81 (c_X12_throwsIf S1 p0 x3 1) rfl (ta1 t0_) rfl (by decide) t0_ rfl rfl (Nat.le_of_ble_eq_true rfl) (Nat.le_of_ble_eq_true rfl) (Nat.le_of_ble_eq_true rfl) (dk okd_X12_border 5 rfl) (st' := fun o6 => [.int o6.1]) (fun _ => rfl) (fun o6 => ?_)
    refine s_if_ne (tgt := 39) X (dk okd_X12_border 6 rfl) (by decide) ?_ ?_
    · refine s_run X ok_X12_border 13 1 (pc' := 40) (vs' := [some (.ref p0), some (.int p1), some (.int p2), none, none]) (st' := [.int 0]) rfl ?_
      exact s_iret X hr (dk okd_X12_border 8 rfl) rfl rfl
    · refine s_run X ok_X12_border 11 2 (pc' := 36) (vs' := [some (.ref p0), some (.int p1), some (.int p2), none, none]) (st' := [.int p2, .int p1]) rfl ?_
      refine s_icmp_ne (tgt := 41) X (dk okd_X12_border 7 rfl) (by decide) ?_ ?_
      · refine s_run X ok_X12_border 14 4 (pc' := 46) (vs' := [some (.ref p0), some (.int p1), some (.int p2), some (.int 0), some (.int 0)]) (st' := []) rfl ?_
        refine s_jn (κ := Int32 → Option (Int32 × St)) (fun k8 => ∀ (x7 : Int32), Jd C 5 (QJ C oIS sS) o6.2 95 [none, none, none, some (.int x7), none] [] (k8 x7)) (fun x7 => ?_) (fun k8 h9 => ?_)
        · refine s_run X ok_X12_border 38 1 (pc' := 96) (vs' := [none, none, none, some (.int x7), none]) (st' := [.int x7]) rfl ?_
          exact s_iret X hr (dk okd_X12_border 16 rfl) rfl rfl
        · refine s_lp (κ := Int32 → Int32 → Option (Int32 × St)) (fun k12 => ∀ (x10 : Int32) (x11 : Int32), Jd C 5 (QJ C oIS sS) o6.2 46 [some (.ref p0), some (.int p1), some (.int p2), some (.int x10), some (.int x11)] [] (k12 x10 x11)) (fun _ _ => s_none) (fun k12 h13 x10 x11 => ?_) FU 0 0
          refine s_run X ok_X12_border 18 2 (pc' := 51) (vs' := [some (.ref p0), some (.int p1), some (.int p2), some (.int x10), some (.int x11)]) (st' := [.int 900, .int x11]) rfl ?_
          refine s_icmp_ge (tgt := 95) X (dk okd_X12_border 9 rfl) (by decide) ?_ ?_
          · exact s_less [false, false, false, true, false] rfl (h9 x10)
          · refine s_run X ok_X12_border 20 1 (pc' := 55) (vs' := [some (.ref p0), some (.int p1), some (.int p2), some (.int x10), some (.int x11)]) (st' := [.ref p0]) rfl ?_
            refine s_getR X fl_X12_9 t0_ (dk okd_X12_border 10 rfl) (fun a14 (t15 : tT C a14 14) => ?_)
            refine s_run X ok_X12_border 21 3 (pc' := 64) (vs' := [some (.ref p0), some (.int p1), some (.int p2), some (.int x10), some (.int x11)]) (st' := [.int (250 + x11), .ref a14]) rfl ?_
            refine s_lald X t15 (dk okd_X12_border 11 rfl) (fun v16 => ?_)
            refine s_run X ok_X12_border 24 3 (pc' := 68) (vs' := [some (.ref p0), some (.int p1), some (.int p2), some (.int x10), some (.int x11)]) (st' := [.int (lg_cmp v16 (Int32.toInt64 p1))]) rfl ?_
            refine s_jn (κ := Int32 → Option (Int32 × St)) (fun k18 => ∀ (x17 : Int32), Jd C 5 (QJ C oIS sS) o6.2 89 [some (.ref p0), some (.int p1), some (.int p2), some (.int x17), some (.int x11)] [] (k18 x17)) (fun x17 => ?_) (fun k18 h19 => ?_)
            · refine s_run X ok_X12_border 36 2 (pc' := 46) (vs' := [some (.ref p0), some (.int p1), some (.int p2), some (.int x17), some (.int (x11 + 1))]) (st' := []) rfl ?_
              exact h13 x17 (x11 + 1)
            · refine s_lif_ne (tgt := 89) X (dk okd_X12_border 12 rfl) (by decide) ?_ ?_
              · exact h19 x10
              · refine s_run X ok_X12_border 27 5 (pc' := 78) (vs' := [some (.ref p0), some (.int p1), some (.int p2), some (.int x10), some (.int x11)]) (st' := [.int 30, .int x11, .int p2, .ref p0, .int x10]) rfl ?_
                refine s_irem0 X (dk okd_X12_border 13 rfl) (by decide) ?_
                refine s_run X ok_X12_border 32 2 (pc' := 83) (vs' := [some (.ref p0), some (.int p1), some (.int p2), some (.int x10), some (.int x11)]) (st' := [.int 30, .int x11, .int (x11 - x11 / 30 * 30), .int p2, .ref p0, .int x10]) rfl ?_
                refine s_idiv0 X (dk okd_X12_border 14 rfl) (by decide) ?_
                refine s_callV (b := p0) (As := [.int p2, .int (x11 - x11 / 30 * 30), .int (x11 / 30)]) (rest := [.int x10]) X E mv_X12_97 (c_X12_neighboursOf o6.2 p0 p2 (x11 - x11 / 30 * 30) (x11 / 30)) rfl (ta1 t0_) rfl (by decide) t0_ rfl rfl (Nat.le_of_ble_eq_true rfl) (Nat.le_of_ble_eq_true rfl) (Nat.le_of_ble_eq_true rfl) (dk okd_X12_border 15 rfl) (st' := fun v20 => [.int v20, .int x10]) (fun _ => rfl) (fun v20 => ?_)
                refine s_run X ok_X12_border 34 1 (pc' := 88) (vs' := [some (.ref p0), some (.int p1), some (.int p2), some (.int x10), some (.int x11)]) (st' := [.int (x10 + v20)]) rfl ?_
                refine s_nmI (fun v21 => ?_)
                refine s_run X ok_X12_border 35 1 (pc' := 89) (vs' := [some (.ref p0), some (.int p1), some (.int p2), some (.int v21), some (.int x11)]) (st' := []) rfl ?_
                exact h19 v21
      · refine s_run X ok_X12_border 13 1 (pc' := 40) (vs' := [some (.ref p0), some (.int p1), some (.int p2), none, none]) (st' := [.int 0]) rfl ?_
        exact s_iret X hr (dk okd_X12_border 8 rfl) rfl rfl
  · refine s_jn (κ := Option (Int32 × St)) (fun k22 => Jd C 5 (QJ C oIS sS) S1 22 [some (.ref p0), some (.int p1), some (.int p2), none, none] [.ref p0] k22) ?_ (fun k22 h23 => ?_)
    · refine s_run X ok_X12_border 7 2 (pc' := 27) (vs' := [some (.ref p0), some (.int p1), some (.int p2), none, none]) (st' := [.int 1, .ref p0]) rfl ?_
      exact h5 1
    · refine s_if_eq (tgt := 22) X (dk okd_X12_border 2 rfl) (by decide) ?_ ?_
      · exact h23
      · refine s_run X ok_X12_border 5 2 (pc' := 16) (vs' := [some (.ref p0), some (.int p1), some (.int p2), none, none]) (st' := [.int p2, .ref p0, .ref p0]) rfl ?_
        refine s_callV (b := p0) (As := [.int p2]) (rest := [.ref p0]) X E mv_X12_85 (c_X12_isFranchisee S1 p0 p2) rfl (ta1 t0_) rfl (by decide) t0_ rfl rfl (Nat.le_of_ble_eq_true rfl) (Nat.le_of_ble_eq_true rfl) (Nat.le_of_ble_eq_true rfl) (dk okd_X12_border 3 rfl) (st' := fun v24 => [.int v24, .ref p0]) (fun _ => rfl) (fun v24 => ?_)
        refine s_if_ne (tgt := 26) X (dk okd_X12_border 4 rfl) (by decide) ?_ ?_
        · refine s_run X ok_X12_border 9 1 (pc' := 27) (vs' := [some (.ref p0), some (.int p1), some (.int p2), none, none]) (st' := [.int 0, .ref p0]) rfl ?_
          exact h5 0
        · exact h23
def tab_X12_isReached : List En := [(0, 4, 1, 0), (1, 4, 2, 0), (8, 8, 0, 0), (12, 1, 0, 30), (14, 4, 2, 0), (15, 19, 0, 0), (16, 4, 1, 0), (17, 17, 0, 0), (22, 0, 0, 1), (23, 41, 27, 0), (26, 0, 0, 0)]
theorem ok_X12_isReached : tab_X12_isReached.all (okE cX12_isReached) = true := by decide +kernel
def ed_X12_isReached : List (Nat × Instr × Nat) := [(2, .invokestatic 67, 3), (5, .ifCond .eq 21, 3), (9, .getfield 17, 3), (18, .baload, 1), (19, .ifCond .eq 7, 3), (27, .ireturn, 1)]
theorem okd_X12_isReached : ed_X12_isReached.all (okD cX12_isReached) = true := by decide +kernel
def f_X12_isReached (S : St) (p0 : Nat) (p1 : Int32) (p2 : Int32) : Option (Int32) := cl (f_X12_isCell S p1 p2) fun (v1 : Int32) => jn (κ := Option (Int32)) (some 0) fun k2 => if v1 = 0 then (k2) else (lt (gR S p0 3) fun (a4 : Nat) => ldI S a4 ((30 * p2) + p1) fun (v6 : Int32) => if v6 = 0 then (k2) else (some 1))
set_option maxHeartbeats 4000000 in
set_option maxRecDepth 100000 in
theorem c_X12_isReached (S : St) (p0 : Nat) (p1 : Int32) (p2 : Int32) : Ct yX12_isReached cX12_isReached 3 (some .boolean) 2 46 (fun _ => [.ref p0, .int p1, .int p2]) [(p0, 11)] S (f_X12_isReached S p0 p1 p2) oI (fun _ => S) := by
  refine Ct_of RX12 rfl (by decide) (fun _ => Nat.le_of_ble_eq_true rfl) 0 (vs := fun _ => [some (.ref p0), some (.int p1), some (.int p2)]) (fun _ => rfl) (fun C X E hr ht => ?_)
  have t0_ : tT C p0 11 := ht (p0, 11) (by simp)
  show Jd C 3 (QJ C oI (fun _ => S)) S 0 [some (.ref p0), some (.int p1), some (.int p2)] [] (f_X12_isReached S p0 p1 p2)
  unfold f_X12_isReached
  refine s_run X ok_X12_isReached 0 2 (pc' := 2) (vs' := [some (.ref p0), some (.int p1), some (.int p2)]) (st' := [.int p2, .int p1]) rfl ?_
  refine s_callS (As := [.int p1, .int p2]) (rest := []) X E ms_X12_67 (c_X12_isCell S p1 p2) rfl (ta0) rfl rfl (Nat.le_of_ble_eq_true rfl) (Nat.le_of_ble_eq_true rfl) (Nat.le_of_ble_eq_true rfl) (dk okd_X12_isReached 0 rfl) (st' := fun v1 => [.int v1]) (fun _ => rfl) (fun v1 => ?_)
  refine s_jn (κ := Option (Int32)) (fun k2 => Jd C 3 (QJ C oI (fun _ => S)) S 26 [none, none, none] [] k2) ?_ (fun k2 h3 => ?_)
  · refine s_run X ok_X12_isReached 10 1 (pc' := 27) (vs' := [none, none, none]) (st' := [.int 0]) rfl ?_
    exact s_zret0 X hr (dk okd_X12_isReached 5 rfl) (by decide) rfl rfl
  · refine s_if_eq (tgt := 26) X (dk okd_X12_isReached 1 rfl) (by decide) ?_ ?_
    · exact s_less [false, false, false] rfl (h3)
    · refine s_run X ok_X12_isReached 2 1 (pc' := 9) (vs' := [some (.ref p0), some (.int p1), some (.int p2)]) (st' := [.ref p0]) rfl ?_
      refine s_getR X fl_X12_17 t0_ (dk okd_X12_isReached 2 rfl) (fun a4 (t5 : tT C a4 15) => ?_)
      refine s_run X ok_X12_isReached 3 5 (pc' := 18) (vs' := [some (.ref p0), some (.int p1), some (.int p2)]) (st' := [.int ((30 * p2) + p1), .ref a4]) rfl ?_
      refine s_zald X t5 (dk okd_X12_isReached 3 rfl) (fun v6 => ?_)
      refine s_if_eq (tgt := 26) X (dk okd_X12_isReached 4 rfl) (by decide) ?_ ?_
      · exact s_less [false, false, false] rfl (h3)
      · refine s_run X ok_X12_isReached 8 2 (pc' := 27) (vs' := [some (.ref p0), some (.int p1), some (.int p2)]) (st' := [.int 1]) rfl ?_
        exact s_zret0 X hr (dk okd_X12_isReached 5 rfl) (by decide) rfl rfl
def tab_X12_connected : List En := [(0, 0, 0, 0), (1, 10, 2, 0), (2, 4, 2, 0), (3, 2, 0, 900), (9, 8, 0, 0), (13, 2, 0, 250), (16, 4, 2, 0), (17, 17, 0, 0), (19, 4, 1, 0), (20, 31, 0, 0), (21, 40, 0, 0), (25, 16, 2, 1), (28, 41, 2, 0), (31, 4, 2, 0), (32, 2, 0, 900), (38, 0, 0, 0), (40, 0, 0, 0), (41, 10, 3, 0), (42, 4, 3, 0), (43, 2, 0, 900), (49, 8, 0, 0), (53, 4, 3, 0), (54, 0, 0, 0), (56, 16, 3, 1), (59, 41, 42, 0), (62, 8, 0, 0), (66, 4, 2, 0), (67, 0, 0, 1), (69, 0, 0, 1), (70, 10, 3, 0), (71, 0, 0, 1), (72, 11, 4, 0), (74, 5, 4, 0), (79, 0, 0, 0), (80, 11, 4, 0), (82, 0, 0, 0), (83, 11, 5, 0), (85, 5, 5, 0), (87, 2, 0, 900), (93, 8, 0, 0), (97, 5, 5, 0), (103, 8, 0, 0), (107, 2, 0, 250), (110, 5, 5, 0), (112, 17, 0, 0), (114, 4, 1, 0), (115, 31, 0, 0), (116, 40, 0, 0), (120, 41, 206, 0), (123, 5, 5, 0), (125, 1, 0, 30), (128, 11, 6, 0), (130, 5, 5, 0), (132, 1, 0, 30), (135, 11, 7, 0), (137, 8, 0, 0), (138, 5, 6, 0), (140, 0, 0, 1), (141, 18, 0, 0), (142, 5, 7, 0), (150, 8, 0, 0), (151, 5, 6, 0), (153, 0, 0, 1), (154, 17, 0, 0), (155, 5, 7, 0), (163, 8, 0, 0), (164, 5, 6, 0), (166, 5, 7, 0), (168, 0, 0, 1), (169, 18, 0, 0), (176, 8, 0, 0), (177, 5, 6, 0), (179, 5, 7, 0), (181, 0, 0, 1), (182, 17, 0, 0), (189, 41, 206, 0), (192, 8, 0, 0), (196, 5, 5, 0), (198, 0, 0, 1), (200, 16, 3, 1), (203, 0, 0, 1), (204, 11, 4, 0), (206, 16, 5, 1), (209, 41, 85, 0), (212, 41, 74, 0), (215, 4, 3, 0), (216, 8, 0, 0), (217, 4, 1, 0), (224, 0, 0, 1), (225, 41, 229, 0), (228, 0, 0, 0)]
theorem ok_X12_connected : tab_X12_connected.all (okE cX12_connected) = true := by decide +kernel
def ed_X12_connected : List (Nat × Instr × Nat) := [(6, .if_icmp .ge 25, 3), (10, .getfield 9, 3), (18, .laload, 1), (22, .ifCond .eq 9, 3), (35, .if_icmp .ne 5, 3), (39, .ireturn, 1), (46, .if_icmp .ge 16, 3), (50, .getfield 17, 3), (55, .bastore, 1), (63, .getfield 17, 3), (68, .bastore, 1), (76, .ifCond .eq 139, 3), (90, .if_icmp .ge 122, 3), (94, .getfield 17, 3), (99, .baload, 1), (100, .ifCond .ne 106, 3), (104, .getfield 9, 3), (113, .laload, 1), (117, .ifCond .eq 6, 3), (127, .irem, 1), (134, .idiv, 1), (144, .invokevirtual 101, 3), (147, .ifCond .ne 45, 3), (157, .invokevirtual 101, 3), (160, .ifCond .ne 32, 3), (170, .invokevirtual 101, 3), (173, .ifCond .ne 19, 3), (183, .invokevirtual 101, 3), (186, .ifCond .ne 6, 3), (193, .getfield 17, 3), (199, .bastore, 1), (218, .invokevirtual 89, 3), (221, .if_icmp .ne 7, 3), (229, .ireturn, 1)]
theorem okd_X12_connected : ed_X12_connected.all (okD cX12_connected) = true := by decide +kernel
def f_X12_connected (S : St) (p0 : Nat) (p1 : Int32) : Option (Int32 × St) := jn (κ := Int32 → Option (Int32 × St)) (fun x1 => if x1 = 900 then (some (0, S)) else (jn (κ := St → Option (Int32 × St)) (fun S4 => lt (gR S4 p0 3) fun (a7 : Nat) => stI S4 a7 x1 (vp_nar .boolean 1) fun (S9 : St) => jn (κ := Int32 → St → Option (Int32 × St)) (fun x10 S11 => cl (f_X12_areaOf S11 p0 p1) fun (v14 : Int32) => if x10 = v14 then (some (1, S11)) else (some (0, S11))) fun k12 => lp (κ := Int32 → Int32 → St → Option (Int32 × St)) (fun _ _ _ => none) (fun k18 x15 x16 S17 => if x16 = 0 then (k12 x15 S17) else (jn (κ := Int32 → Int32 → St → Option (Int32 × St)) (fun x20 x21 S22 => k18 x20 x21 S22) fun k23 => lp (κ := Int32 → Int32 → Int32 → St → Option (Int32 × St)) (fun _ _ _ _ => none) (fun k29 x25 x26 x27 S28 => if 900 ≤ x27 then (k23 x25 x26 S28) else (lt (gR S28 p0 3) fun (a31 : Nat) => ldI S28 a31 x27 fun (v33 : Int32) => jn (κ := Int32 → Int32 → St → Option (Int32 × St)) (fun x34 x35 S36 => k29 x34 x35 (x27 + 1) S36) fun k37 => if v33 = 0 then (lt (gR S28 p0 0) fun (a39 : Nat) => ldJ S28 a39 (250 + x27) fun (v41 : Int64) => if v41 = (Int32.toInt64 p1) then (lt (x27 - x27 / 30 * 30) fun (v42 : Int32) => lt (x27 / 30) fun (v43 : Int32) => cl (f_X12_isReached S28 p0 (v42 - 1) v43) fun (v44 : Int32) => jn (κ := Option (Int32 × St)) (lt (gR S28 p0 3) fun (a47 : Nat) => stI S28 a47 x27 (vp_nar .boolean 1) fun (S49 : St) => k37 (x25 + 1) 1 S49) fun k45 => if v44 = 0 then (cl (f_X12_isReached S28 p0 (v42 + 1) v43) fun (v50 : Int32) => if v50 = 0 then (cl (f_X12_isReached S28 p0 v42 (v43 - 1)) fun (v51 : Int32) => if v51 = 0 then (cl (f_X12_isReached S28 p0 v42 (v43 + 1)) fun (v52 : Int32) => if v52 = 0 then (k37 x25 x26 S28) else (k45)) else (k45)) else (k45)) else (k45)) else (k37 x25 x26 S28)) else (k37 x25 x26 S28))) FU x15 0 0 S17)) FU 1 1 S9) fun k5 => lp (κ := Int32 → St → Option (Int32 × St)) (fun _ _ => none) (fun k55 x53 S54 => if 900 ≤ x53 then (k5 S54) else (lt (gR S54 p0 3) fun (a57 : Nat) => stI S54 a57 x53 (vp_nar .boolean 0) fun (S59 : St) => k55 (x53 + 1) S59)) FU 0 S)) fun k2 => lp (κ := Int32 → Option (Int32 × St)) (fun _ => none) (fun k61 x60 => if 900 ≤ x60 then (k2 x60) else (lt (gR S p0 0) fun (a63 : Nat) => ldJ S a63 (250 + x60) fun (v65 : Int64) => if v65 = (Int32.toInt64 p1) then (k2 x60) else (k61 (x60 + 1)))) FU 0
set_option maxHeartbeats 4000000 in
set_option maxRecDepth 100000 in
theorem c_X12_connected (S : St) (p0 : Nat) (p1 : Int32) : Ct yX12_connected cX12_connected 8 (some .boolean) 3 68 (fun _ => [.ref p0, .int p1]) [(p0, 11)] S (f_X12_connected S p0 p1) oIS sS := by
  refine Ct_of RX12 rfl (by decide) (fun _ => Nat.le_of_ble_eq_true rfl) 6 (vs := fun _ => [some (.ref p0), some (.int p1), none, none, none, none, none, none]) (fun _ => rfl) (fun C X E hr ht => ?_)
  have t0_ : tT C p0 11 := ht (p0, 11) (by simp)
  show Jd C 8 (QJ C oIS sS) S 0 [some (.ref p0), some (.int p1), none, none, none, none, none, none] [] (f_X12_connected S p0 p1)
  unfold f_X12_connected
  refine s_run X ok_X12_connected 0 2 (pc' := 2) (vs' := [some (.ref p0), some (.int p1), some (.int 0), none, none, none, none, none]) (st' := []) rfl ?_
  refine s_jn (κ := Int32 → Option (Int32 × St)) (fun k2 => ∀ (x1 : Int32), Jd C 8 (QJ C oIS sS) S 31 [some (.ref p0), some (.int p1), some (.int x1), none, none, none, none, none] [] (k2 x1)) (fun x1 => ?_) (fun k2 h3 => ?_)
  · refine s_run X ok_X12_connected 13 2 (pc' := 35) (vs' := [some (.ref p0), some (.int p1), some (.int x1), none, none, none, none, none]) (st' := [.int 900, .int x1]) rfl ?_
    refine s_icmp_ne (tgt := 40) X (dk okd_X12_connected 4 rfl) (by decide) ?_ ?_
    · refine s_run X ok_X12_connected 16 2 (pc' := 42) (vs' := [some (.ref p0), some (.int p1), some (.int x1), some (.int 0), none, none, none, none]) (st' := []) rfl ?_
      refine s_jn (κ := St → Option (Int32 × St)) (fun k5 => ∀ (S4 : St), Jd C 8 (QJ C oIS sS) S4 62 [some (.ref p0), some (.int p1), some (.int x1), none, none, none, none, none] [] (k5 S4)) (fun S4 => ?_) (fun k5 h6 => ?_)
      · refine s_run X ok_X12_connected 25 1 (pc' := 63) (vs' := [some (.ref p0), some (.int p1), some (.int x1), none, none, none, none, none]) (st' := [.ref p0]) rfl ?_
        refine s_getR X fl_X12_17 t0_ (dk okd_X12_connected 9 rfl) (fun a7 (t8 : tT C a7 15) => ?_)
        refine s_run X ok_X12_connected 26 2 (pc' := 68) (vs' := [some (.ref p0), some (.int p1), some (.int x1), none, none, none, none, none]) (st' := [.int 1, .int x1, .ref a7]) rfl ?_
        refine s_zast X t8 (dk okd_X12_connected 10 rfl) (fun S9 => ?_)
        refine s_run X ok_X12_connected 28 4 (pc' := 74) (vs' := [some (.ref p0), some (.int p1), some (.int x1), some (.int 1), some (.int 1), none, none, none]) (st' := []) rfl ?_
        refine s_jn (κ := Int32 → St → Option (Int32 × St)) (fun k12 => ∀ (x10 : Int32) (S11 : St), Jd C 8 (QJ C oIS sS) S11 215 [some (.ref p0), some (.int p1), none, some (.int x10), none, none, none, none] [] (k12 x10 S11)) (fun x10 S11 => ?_) (fun k12 h13 => ?_)
        · refine s_run X ok_X12_connected 85 3 (pc' := 218) (vs' := [some (.ref p0), some (.int p1), none, some (.int x10), none, none, none, none]) (st' := [.int p1, .ref p0, .int x10]) rfl ?_
          refine s_callV (b := p0) (As := [.int p1]) (rest := [.int x10]) X E mv_X12_89 (c_X12_areaOf S11 p0 p1) rfl (ta1 t0_) rfl (by decide) t0_ rfl rfl (Nat.le_of_ble_eq_true rfl) (Nat.le_of_ble_eq_true rfl) (Nat.le_of_ble_eq_true rfl) (dk okd_X12_connected 31 rfl) (st' := fun v14 => [.int v14, .int x10]) (fun _ => rfl) (fun v14 => ?_)
          refine s_icmp_ne (tgt := 228) X (dk okd_X12_connected 32 rfl) (by decide) ?_ ?_
          · refine s_run X ok_X12_connected 90 1 (pc' := 229) (vs' := [some (.ref p0), some (.int p1), none, some (.int x10), none, none, none, none]) (st' := [.int 0]) rfl ?_
            exact s_zret0 X hr (dk okd_X12_connected 33 rfl) (by decide) rfl rfl
          · refine s_run X ok_X12_connected 88 2 (pc' := 229) (vs' := [some (.ref p0), some (.int p1), none, some (.int x10), none, none, none, none]) (st' := [.int 1]) rfl ?_
            exact s_zret0 X hr (dk okd_X12_connected 33 rfl) (by decide) rfl rfl
        · refine s_less [true, true, false, true, true, false, false, false] (vs' := [some (.ref p0), some (.int p1), none, some (.int 1), some (.int 1), none, none, none]) rfl ?_
          refine s_lp (κ := Int32 → Int32 → St → Option (Int32 × St)) (fun k18 => ∀ (x15 : Int32) (x16 : Int32) (S17 : St), Jd C 8 (QJ C oIS sS) S17 74 [some (.ref p0), some (.int p1), none, some (.int x15), some (.int x16), none, none, none] [] (k18 x15 x16 S17)) (fun _ _ _ => s_none) (fun k18 h19 x15 x16 S17 => ?_) FU 1 1 S9
          refine s_run X ok_X12_connected 32 1 (pc' := 76) (vs' := [some (.ref p0), some (.int p1), none, some (.int x15), some (.int x16), none, none, none]) (st' := [.int x16]) rfl ?_
          refine s_if_eq (tgt := 215) X (dk okd_X12_connected 11 rfl) (by decide) ?_ ?_
          · exact s_less [true, true, false, true, false, false, false, false] rfl (h13 x15 S17)
          · refine s_run X ok_X12_connected 33 4 (pc' := 85) (vs' := [some (.ref p0), some (.int p1), none, some (.int x15), some (.int 0), some (.int 0), none, none]) (st' := []) rfl ?_
            refine s_jn (κ := Int32 → Int32 → St → Option (Int32 × St)) (fun k23 => ∀ (x20 : Int32) (x21 : Int32) (S22 : St), Jd C 8 (QJ C oIS sS) S22 212 [some (.ref p0), some (.int p1), none, some (.int x20), some (.int x21), none, none, none] [] (k23 x20 x21 S22)) (fun x20 x21 S22 => ?_) (fun k23 h24 => ?_)
            · refine s_run X ok_X12_connected 84 1 (pc' := 74) (vs' := [some (.ref p0), some (.int p1), none, some (.int x20), some (.int x21), none, none, none]) (st' := []) rfl ?_
              exact h19 x20 x21 S22
            · refine s_lp (κ := Int32 → Int32 → Int32 → St → Option (Int32 × St)) (fun k29 => ∀ (x25 : Int32) (x26 : Int32) (x27 : Int32) (S28 : St), Jd C 8 (QJ C oIS sS) S28 85 [some (.ref p0), some (.int p1), none, some (.int x25), some (.int x26), some (.int x27), none, none] [] (k29 x25 x26 x27 S28)) (fun _ _ _ _ => s_none) (fun k29 h30 x25 x26 x27 S28 => ?_) FU x15 0 0 S17
              refine s_run X ok_X12_connected 37 2 (pc' := 90) (vs' := [some (.ref p0), some (.int p1), none, some (.int x25), some (.int x26), some (.int x27), none, none]) (st' := [.int 900, .int x27]) rfl ?_
              refine s_icmp_ge (tgt := 212) X (dk okd_X12_connected 12 rfl) (by decide) ?_ ?_
              · exact s_less [true, true, false, true, true, false, false, false] rfl (h24 x25 x26 S28)
              · refine s_run X ok_X12_connected 39 1 (pc' := 94) (vs' := [some (.ref p0), some (.int p1), none, some (.int x25), some (.int x26), some (.int x27), none, none]) (st' := [.ref p0]) rfl ?_
                refine s_getR X fl_X12_17 t0_ (dk okd_X12_connected 13 rfl) (fun a31 (t32 : tT C a31 15) => ?_)
                refine s_run X ok_X12_connected 40 1 (pc' := 99) (vs' := [some (.ref p0), some (.int p1), none, some (.int x25), some (.int x26), some (.int x27), none, none]) (st' := [.int x27, .ref a31]) rfl ?_
                refine s_zald X t32 (dk okd_X12_connected 14 rfl) (fun v33 => ?_)
                refine s_jn (κ := Int32 → Int32 → St → Option (Int32 × St)) (fun k37 => ∀ (x34 : Int32) (x35 : Int32) (S36 : St), Jd C 8 (QJ C oIS sS) S36 206 [some (.ref p0), some (.int p1), none, some (.int x34), some (.int x35), some (.int x27), none, none] [] (k37 x34 x35 S36)) (fun x34 x35 S36 => ?_) (fun k37 h38 => ?_)
                · refine s_run X ok_X12_connected 82 2 (pc' := 85) (vs' := [some (.ref p0), some (.int p1), none, some (.int x34), some (.int x35), some (.int (x27 + 1)), none, none]) (st' := []) rfl ?_
                  exact h30 x34 x35 (x27 + 1) S36
                · refine s_if_ne (tgt := 206) X (dk okd_X12_connected 15 rfl) (by decide) ?_ ?_
                  · exact h38 x25 x26 S28
                  · refine s_run X ok_X12_connected 41 1 (pc' := 104) (vs' := [some (.ref p0), some (.int p1), none, some (.int x25), some (.int x26), some (.int x27), none, none]) (st' := [.ref p0]) rfl ?_
                    refine s_getR X fl_X12_9 t0_ (dk okd_X12_connected 16 rfl) (fun a39 (t40 : tT C a39 14) => ?_)
                    refine s_run X ok_X12_connected 42 3 (pc' := 113) (vs' := [some (.ref p0), some (.int p1), none, some (.int x25), some (.int x26), some (.int x27), none, none]) (st' := [.int (250 + x27), .ref a39]) rfl ?_
                    refine s_lald X t40 (dk okd_X12_connected 17 rfl) (fun v41 => ?_)
                    refine s_run X ok_X12_connected 45 3 (pc' := 117) (vs' := [some (.ref p0), some (.int p1), none, some (.int x25), some (.int x26), some (.int x27), none, none]) (st' := [.int (lg_cmp v41 (Int32.toInt64 p1))]) rfl ?_
                    refine s_lif_eq (tgt := 123) X (dk okd_X12_connected 18 rfl) (by decide) ?_ ?_
                    · refine s_run X ok_X12_connected 49 2 (pc' := 127) (vs' := [some (.ref p0), some (.int p1), none, some (.int x25), some (.int x26), some (.int x27), none, none]) (st' := [.int 30, .int x27]) rfl ?_
                      refine s_irem0 X (dk okd_X12_connected 19 rfl) (by decide) ?_
                      refine s_nmI (fun v42 => ?_)
                      refine s_run X ok_X12_connected 51 3 (pc' := 134) (vs' := [some (.ref p0), some (.int p1), none, some (.int x25), some (.int x26), some (.int x27), some (.int v42), none]) (st' := [.int 30, .int x27]) rfl ?_
                      refine s_idiv0 X (dk okd_X12_connected 20 rfl) (by decide) ?_
                      refine s_nmI (fun v43 => ?_)
                      refine s_run X ok_X12_connected 54 6 (pc' := 144) (vs' := [some (.ref p0), some (.int p1), none, some (.int x25), some (.int x26), some (.int x27), some (.int v42), some (.int v43)]) (st' := [.int v43, .int (v42 - 1), .ref p0]) rfl ?_
                      refine s_callV (b := p0) (As := [.int (v42 - 1), .int v43]) (rest := []) X E mv_X12_101 (c_X12_isReached S28 p0 (v42 - 1) v43) rfl (ta1 t0_) rfl (by decide) t0_ rfl rfl (Nat.le_of_ble_eq_true rfl) (Nat.le_of_ble_eq_true rfl) (Nat.le_of_ble_eq_true rfl) (dk okd_X12_connected 21 rfl) (st' := fun v44 => [.int v44]) (fun _ => rfl) (fun v44 => ?_)
                      refine s_jn (κ := Option (Int32 × St)) (fun k45 => Jd C 8 (QJ C oIS sS) S28 192 [some (.ref p0), some (.int p1), none, some (.int x25), none, some (.int x27), none, none] [] k45) ?_ (fun k45 h46 => ?_)
                      · refine s_run X ok_X12_connected 76 1 (pc' := 193) (vs' := [some (.ref p0), some (.int p1), none, some (.int x25), none, some (.int x27), none, none]) (st' := [.ref p0]) rfl ?_
                        refine s_getR X fl_X12_17 t0_ (dk okd_X12_connected 29 rfl) (fun a47 (t48 : tT C a47 15) => ?_)
                        refine s_run X ok_X12_connected 77 2 (pc' := 199) (vs' := [some (.ref p0), some (.int p1), none, some (.int x25), none, some (.int x27), none, none]) (st' := [.int 1, .int x27, .ref a47]) rfl ?_
                        refine s_zast X t48 (dk okd_X12_connected 30 rfl) (fun S49 => ?_)
                        refine s_run X ok_X12_connected 79 3 (pc' := 206) (vs' := [some (.ref p0), some (.int p1), none, some (.int (x25 + 1)), some (.int 1), some (.int x27), none, none]) (st' := []) rfl ?_
                        exact h38 (x25 + 1) 1 S49
                      · refine s_if_ne (tgt := 192) X (dk okd_X12_connected 22 rfl) (by decide) ?_ ?_
                        · exact s_less [true, true, false, true, false, true, false, false] rfl (h46)
                        · refine s_run X ok_X12_connected 60 5 (pc' := 157) (vs' := [some (.ref p0), some (.int p1), none, some (.int x25), some (.int x26), some (.int x27), some (.int v42), some (.int v43)]) (st' := [.int v43, .int (v42 + 1), .ref p0]) rfl ?_
                          refine s_callV (b := p0) (As := [.int (v42 + 1), .int v43]) (rest := []) X E mv_X12_101 (c_X12_isReached S28 p0 (v42 + 1) v43) rfl (ta1 t0_) rfl (by decide) t0_ rfl rfl (Nat.le_of_ble_eq_true rfl) (Nat.le_of_ble_eq_true rfl) (Nat.le_of_ble_eq_true rfl) (dk okd_X12_connected 23 rfl) (st' := fun v50 => [.int v50]) (fun _ => rfl) (fun v50 => ?_)
                          refine s_if_ne (tgt := 192) X (dk okd_X12_connected 24 rfl) (by decide) ?_ ?_
                          · exact s_less [true, true, false, true, false, true, false, false] rfl (h46)
                          · refine s_run X ok_X12_connected 65 5 (pc' := 170) (vs' := [some (.ref p0), some (.int p1), none, some (.int x25), some (.int x26), some (.int x27), some (.int v42), some (.int v43)]) (st' := [.int (v43 - 1), .int v42, .ref p0]) rfl ?_
                            refine s_callV (b := p0) (As := [.int v42, .int (v43 - 1)]) (rest := []) X E mv_X12_101 (c_X12_isReached S28 p0 v42 (v43 - 1)) rfl (ta1 t0_) rfl (by decide) t0_ rfl rfl (Nat.le_of_ble_eq_true rfl) (Nat.le_of_ble_eq_true rfl) (Nat.le_of_ble_eq_true rfl) (dk okd_X12_connected 25 rfl) (st' := fun v51 => [.int v51]) (fun _ => rfl) (fun v51 => ?_)
                            refine s_if_ne (tgt := 192) X (dk okd_X12_connected 26 rfl) (by decide) ?_ ?_
                            · exact s_less [true, true, false, true, false, true, false, false] rfl (h46)
                            · refine s_run X ok_X12_connected 70 5 (pc' := 183) (vs' := [some (.ref p0), some (.int p1), none, some (.int x25), some (.int x26), some (.int x27), some (.int v42), some (.int v43)]) (st' := [.int (v43 + 1), .int v42, .ref p0]) rfl ?_
                              refine s_callV (b := p0) (As := [.int v42, .int (v43 + 1)]) (rest := []) X E mv_X12_101 (c_X12_isReached S28 p0 v42 (v43 + 1)) rfl (ta1 t0_) rfl (by decide) t0_ rfl rfl (Nat.le_of_ble_eq_true rfl) (Nat.le_of_ble_eq_true rfl) (Nat.le_of_ble_eq_true rfl) (dk okd_X12_connected 27 rfl) (st' := fun v52 => [.int v52]) (fun _ => rfl) (fun v52 => ?_)
                              refine s_if_ne (tgt := 192) X (dk okd_X12_connected 28 rfl) (by decide) ?_ ?_
                              · exact s_less [true, true, false, true, false, true, false, false] rfl (h46)
                              · refine s_run X ok_X12_connected 75 1 (pc' := 206) (vs' := [some (.ref p0), some (.int p1), none, some (.int x25), some (.int x26), some (.int x27), some (.int v42), some (.int v43)]) (st' := []) rfl ?_
                                exact s_less [true, true, false, true, true, true, false, false] rfl (h38 x25 x26 S28)
                    · refine s_run X ok_X12_connected 48 1 (pc' := 206) (vs' := [some (.ref p0), some (.int p1), none, some (.int x25), some (.int x26), some (.int x27), none, none]) (st' := []) rfl ?_
                      exact h38 x25 x26 S28
      · refine s_lp (κ := Int32 → St → Option (Int32 × St)) (fun k55 => ∀ (x53 : Int32) (S54 : St), Jd C 8 (QJ C oIS sS) S54 42 [some (.ref p0), some (.int p1), some (.int x1), some (.int x53), none, none, none, none] [] (k55 x53 S54)) (fun _ _ => s_none) (fun k55 h56 x53 S54 => ?_) FU 0 S
        refine s_run X ok_X12_connected 18 2 (pc' := 46) (vs' := [some (.ref p0), some (.int p1), some (.int x1), some (.int x53), none, none, none, none]) (st' := [.int 900, .int x53]) rfl ?_
        refine s_icmp_ge (tgt := 62) X (dk okd_X12_connected 6 rfl) (by decide) ?_ ?_
        · exact s_less [true, true, true, false, false, false, false, false] rfl (h6 S54)
        · refine s_run X ok_X12_connected 20 1 (pc' := 50) (vs' := [some (.ref p0), some (.int p1), some (.int x1), some (.int x53), none, none, none, none]) (st' := [.ref p0]) rfl ?_
          refine s_getR X fl_X12_17 t0_ (dk okd_X12_connected 7 rfl) (fun a57 (t58 : tT C a57 15) => ?_)
          refine s_run X ok_X12_connected 21 2 (pc' := 55) (vs' := [some (.ref p0), some (.int p1), some (.int x1), some (.int x53), none, none, none, none]) (st' := [.int 0, .int x53, .ref a57]) rfl ?_
          refine s_zast X t58 (dk okd_X12_connected 8 rfl) (fun S59 => ?_)
          refine s_run X ok_X12_connected 23 2 (pc' := 42) (vs' := [some (.ref p0), some (.int p1), some (.int x1), some (.int (x53 + 1)), none, none, none, none]) (st' := []) rfl ?_
          exact h56 (x53 + 1) S59
    · refine s_run X ok_X12_connected 15 1 (pc' := 39) (vs' := [some (.ref p0), some (.int p1), some (.int x1), none, none, none, none, none]) (st' := [.int 0]) rfl ?_
      exact s_zret0 X hr (dk okd_X12_connected 5 rfl) (by decide) rfl rfl
  · refine s_lp (κ := Int32 → Option (Int32 × St)) (fun k61 => ∀ (x60 : Int32), Jd C 8 (QJ C oIS sS) S 2 [some (.ref p0), some (.int p1), some (.int x60), none, none, none, none, none] [] (k61 x60)) (fun _ => s_none) (fun k61 h62 x60 => ?_) FU 0
    refine s_run X ok_X12_connected 2 2 (pc' := 6) (vs' := [some (.ref p0), some (.int p1), some (.int x60), none, none, none, none, none]) (st' := [.int 900, .int x60]) rfl ?_
    refine s_icmp_ge (tgt := 31) X (dk okd_X12_connected 0 rfl) (by decide) ?_ ?_
    · exact h3 x60
    · refine s_run X ok_X12_connected 4 1 (pc' := 10) (vs' := [some (.ref p0), some (.int p1), some (.int x60), none, none, none, none, none]) (st' := [.ref p0]) rfl ?_
      refine s_getR X fl_X12_9 t0_ (dk okd_X12_connected 1 rfl) (fun a63 (t64 : tT C a63 14) => ?_)
      refine s_run X ok_X12_connected 5 3 (pc' := 18) (vs' := [some (.ref p0), some (.int p1), some (.int x60), none, none, none, none, none]) (st' := [.int (250 + x60), .ref a63]) rfl ?_
      refine s_lald X t64 (dk okd_X12_connected 2 rfl) (fun v65 => ?_)
      refine s_run X ok_X12_connected 8 3 (pc' := 22) (vs' := [some (.ref p0), some (.int p1), some (.int x60), none, none, none, none, none]) (st' := [.int (lg_cmp v65 (Int32.toInt64 p1))]) rfl ?_
      refine s_lif_eq (tgt := 31) X (dk okd_X12_connected 3 rfl) (by decide) ?_ ?_
      · exact h3 x60
      · refine s_run X ok_X12_connected 11 2 (pc' := 2) (vs' := [some (.ref p0), some (.int p1), some (.int (x60 + 1)), none, none, none, none, none]) (st' := []) rfl ?_
        exact h62 (x60 + 1)
def tab_X12_isConnected : List En := [(0, 8, 0, 0), (1, 0, 0, 0), (5, 8, 0, 0), (6, 8, 0, 0), (7, 4, 1, 0), (14, 0, 0, 1), (15, 41, 19, 0), (18, 0, 0, 0), (19, 0, 0, 1), (26, 8, 0, 0), (27, 4, 1, 0), (34, 0, 0, 1), (35, 41, 39, 0), (38, 0, 0, 0)]
theorem ok_X12_isConnected : tab_X12_isConnected.all (okE cX12_isConnected) = true := by decide +kernel
def ed_X12_isConnected : List (Nat × Instr × Nat) := [(2, .putfield 50, 3), (8, .invokevirtual 85, 3), (11, .ifCond .ne 7, 3), (20, .invokevirtual 81, 3), (23, .ifCond .ne 15, 3), (28, .invokevirtual 104, 3), (31, .ifCond .eq 7, 3), (39, .ireturn, 1)]
theorem okd_X12_isConnected : ed_X12_isConnected.all (okD cX12_isConnected) = true := by decide +kernel
def f_X12_isConnected (S : St) (p0 : Nat) (p1 : Int32) : Option (Int32 × St) := lt (uI S p0 2 0) fun (S1 : St) => cl (f_X12_isFranchisee S1 p0 p1) fun (v2 : Int32) => jn (κ := Int32 → Option (Int32 × St)) (fun x3 => cl (f_X12_throwsIf S1 p0 x3 1) fun (o6 : Int32 × St) => jn (κ := St → Option (Int32 × St)) (fun S7 => some (0, S7)) fun k8 => if o6.1 = 0 then (cl (f_X12_connected o6.2 p0 p1) fun (o10 : Int32 × St) => if o10.1 = 0 then (k8 o10.2) else (some (1, o10.2))) else (k8 o6.2)) fun k4 => if v2 = 0 then (k4 1) else (k4 0)
set_option maxHeartbeats 4000000 in
set_option maxRecDepth 100000 in
theorem c_X12_isConnected (S : St) (p0 : Nat) (p1 : Int32) : Ct yX12_isConnected cX12_isConnected 2 (some .boolean) 4 95 (fun _ => [.ref p0, .int p1]) [(p0, 11)] S (f_X12_isConnected S p0 p1) oIS sS := by
  refine Ct_of RX12 rfl (by decide) (fun _ => Nat.le_of_ble_eq_true rfl) 0 (vs := fun _ => [some (.ref p0), some (.int p1)]) (fun _ => rfl) (fun C X E hr ht => ?_)
  have t0_ : tT C p0 11 := ht (p0, 11) (by simp)
  show Jd C 2 (QJ C oIS sS) S 0 [some (.ref p0), some (.int p1)] [] (f_X12_isConnected S p0 p1)
  unfold f_X12_isConnected
  refine s_run X ok_X12_isConnected 0 2 (pc' := 2) (vs' := [some (.ref p0), some (.int p1)]) (st' := [.int 0, .ref p0]) rfl ?_
  refine s_putI X fp_X12_50 t0_ (dk okd_X12_isConnected 0 rfl) (fun S1 => ?_)
  refine s_run X ok_X12_isConnected 2 3 (pc' := 8) (vs' := [some (.ref p0), some (.int p1)]) (st' := [.int p1, .ref p0, .ref p0]) rfl ?_
  refine s_callV (b := p0) (As := [.int p1]) (rest := [.ref p0]) X E mv_X12_85 (c_X12_isFranchisee S1 p0 p1) rfl (ta1 t0_) rfl (by decide) t0_ rfl rfl (Nat.le_of_ble_eq_true rfl) (Nat.le_of_ble_eq_true rfl) (Nat.le_of_ble_eq_true rfl) (dk okd_X12_isConnected 1 rfl) (st' := fun v2 => [.int v2, .ref p0]) (fun _ => rfl) (fun v2 => ?_)
  refine s_jn (κ := Int32 → Option (Int32 × St)) (fun k4 => ∀ (x3 : Int32), Jd C 2 (QJ C oIS sS) S1 19 [some (.ref p0), some (.int p1)] [.int x3, .ref p0] (k4 x3)) (fun x3 => ?_) (fun k4 h5 => ?_)
  · refine s_run X ok_X12_isConnected 8 1 (pc' := 20) (vs' := [some (.ref p0), some (.int p1)]) (st' := [.int 1, .int x3, .ref p0]) rfl ?_
    refine s_callV (b := p0) (As := [.int x3, .int 1]) (rest := []) X E mv_X12_81 (c_X12_throwsIf S1 p0 x3 1) rfl (ta1 t0_) rfl (by decide) t0_ rfl rfl (Nat.le_of_ble_eq_true rfl) (Nat.le_of_ble_eq_true rfl) (Nat.le_of_ble_eq_true rfl) (dk okd_X12_isConnected 3 rfl) (st' := fun o6 => [.int o6.1]) (fun _ => rfl) (fun o6 => ?_)
    refine s_jn (κ := St → Option (Int32 × St)) (fun k8 => ∀ (S7 : St), Jd C 2 (QJ C oIS sS) S7 38 [none, none] [] (k8 S7)) (fun S7 => ?_) (fun k8 h9 => ?_)
    · refine s_run X ok_X12_isConnected 13 1 (pc' := 39) (vs' := [none, none]) (st' := [.int 0]) rfl ?_
      exact s_zret0 X hr (dk okd_X12_isConnected 7 rfl) (by decide) rfl rfl
    · refine s_if_ne (tgt := 38) X (dk okd_X12_isConnected 4 rfl) (by decide) ?_ ?_
      · exact s_less [false, false] rfl (h9 o6.2)
      · refine s_run X ok_X12_isConnected 9 2 (pc' := 28) (vs' := [some (.ref p0), some (.int p1)]) (st' := [.int p1, .ref p0]) rfl ?_
        refine s_callV (b := p0) (As := [.int p1]) (rest := []) X E mv_X12_104 (c_X12_connected o6.2 p0 p1) rfl (ta1 t0_) rfl (by decide) t0_ rfl rfl (Nat.le_of_ble_eq_true rfl) (Nat.le_of_ble_eq_true rfl) (Nat.le_of_ble_eq_true rfl) (dk okd_X12_isConnected 5 rfl) (st' := fun o10 => [.int o10.1]) (fun _ => rfl) (fun o10 => ?_)
        refine s_if_eq (tgt := 38) X (dk okd_X12_isConnected 6 rfl) (by decide) ?_ ?_
        · exact s_less [false, false] rfl (h9 o10.2)
        · refine s_run X ok_X12_isConnected 11 2 (pc' := 39) (vs' := [some (.ref p0), some (.int p1)]) (st' := [.int 1]) rfl ?_
          exact s_zret0 X hr (dk okd_X12_isConnected 7 rfl) (by decide) rfl rfl
  · refine s_if_ne (tgt := 18) X (dk okd_X12_isConnected 2 rfl) (by decide) ?_ ?_
    · refine s_run X ok_X12_isConnected 7 1 (pc' := 19) (vs' := [some (.ref p0), some (.int p1)]) (st' := [.int 0, .ref p0]) rfl ?_
      exact h5 0
    · refine s_run X ok_X12_isConnected 5 2 (pc' := 19) (vs' := [some (.ref p0), some (.int p1)]) (st' := [.int 1, .ref p0]) rfl ?_
      exact h5 1
def tab_X12_size : List En := [(0, 4, 0, 0), (4, 4, 0, 0), (5, 22, 0, 0), (6, 41, 10, 0), (9, 4, 0, 0)]
theorem ok_X12_size : tab_X12_size.all (okE cX12_size) = true := by decide +kernel
def ed_X12_size : List (Nat × Instr × Nat) := [(1, .ifCond .ge 8, 3), (10, .ireturn, 1)]
theorem okd_X12_size : ed_X12_size.all (okD cX12_size) = true := by decide +kernel
def f_X12_size (S : St) (p0 : Int32) : Option (Int32) := if 0 ≤ p0 then (some p0) else (some (-p0))
set_option maxHeartbeats 4000000 in
set_option maxRecDepth 100000 in
theorem c_X12_size (S : St) (p0 : Int32) : Ct yX12_size cX12_size 1 (some .int) 0 0 (fun _ => [.int p0]) [] S (f_X12_size S p0) oI (fun _ => S) := by
  refine Ct_of RX12 rfl (by decide) (fun _ => Nat.le_of_ble_eq_true rfl) 0 (vs := fun _ => [some (.int p0)]) (fun _ => rfl) (fun C X E hr ht => ?_)
  show Jd C 1 (QJ C oI (fun _ => S)) S 0 [some (.int p0)] [] (f_X12_size S p0)
  unfold f_X12_size
  refine s_run X ok_X12_size 0 1 (pc' := 1) (vs' := [some (.int p0)]) (st' := [.int p0]) rfl ?_
  refine s_if_ge (tgt := 9) X (dk okd_X12_size 0 rfl) (by decide) ?_ ?_
  · refine s_run X ok_X12_size 4 1 (pc' := 10) (vs' := [some (.int p0)]) (st' := [.int p0]) rfl ?_
    exact s_iret X hr (dk okd_X12_size 1 rfl) rfl rfl
  · refine s_run X ok_X12_size 1 3 (pc' := 10) (vs' := [some (.int p0)]) (st' := [.int (-p0)]) rfl ?_
    exact s_iret X hr (dk okd_X12_size 1 rfl) rfl rfl
def tab_X12_apart : List En := [(0, 4, 0, 0), (1, 4, 2, 0), (2, 1, 0, 30), (5, 18, 0, 0), (9, 4, 1, 0), (10, 4, 2, 0), (11, 1, 0, 30), (14, 18, 0, 0), (18, 17, 0, 0)]
theorem ok_X12_apart : tab_X12_apart.all (okE cX12_apart) = true := by decide +kernel
def ed_X12_apart : List (Nat × Instr × Nat) := [(4, .irem, 1), (6, .invokestatic 107, 3), (13, .idiv, 1), (15, .invokestatic 107, 3), (19, .ireturn, 1)]
theorem okd_X12_apart : ed_X12_apart.all (okD cX12_apart) = true := by decide +kernel
def f_X12_apart (S : St) (p0 : Int32) (p1 : Int32) (p2 : Int32) : Option (Int32) := cl (f_X12_size S (p0 - (p2 - p2 / 30 * 30))) fun (v1 : Int32) => cl (f_X12_size S (p1 - (p2 / 30))) fun (v2 : Int32) => some (v1 + v2)
set_option maxHeartbeats 4000000 in
set_option maxRecDepth 100000 in
theorem c_X12_apart (S : St) (p0 : Int32) (p1 : Int32) (p2 : Int32) : Ct yX12_apart cX12_apart 3 (some .int) 1 20 (fun _ => [.int p0, .int p1, .int p2]) [] S (f_X12_apart S p0 p1 p2) oI (fun _ => S) := by
  refine Ct_of RX12 rfl (by decide) (fun _ => Nat.le_of_ble_eq_true rfl) 0 (vs := fun _ => [some (.int p0), some (.int p1), some (.int p2)]) (fun _ => rfl) (fun C X E hr ht => ?_)
  show Jd C 3 (QJ C oI (fun _ => S)) S 0 [some (.int p0), some (.int p1), some (.int p2)] [] (f_X12_apart S p0 p1 p2)
  unfold f_X12_apart
  refine s_run X ok_X12_apart 0 3 (pc' := 4) (vs' := [some (.int p0), some (.int p1), some (.int p2)]) (st' := [.int 30, .int p2, .int p0]) rfl ?_
  refine s_irem0 X (dk okd_X12_apart 0 rfl) (by decide) ?_
  refine s_run X ok_X12_apart 3 1 (pc' := 6) (vs' := [some (.int p0), some (.int p1), some (.int p2)]) (st' := [.int (p0 - (p2 - p2 / 30 * 30))]) rfl ?_
  refine s_callS (As := [.int (p0 - (p2 - p2 / 30 * 30))]) (rest := []) X E ms_X12_107 (c_X12_size S (p0 - (p2 - p2 / 30 * 30))) rfl (ta0) rfl rfl (Nat.le_of_ble_eq_true rfl) (Nat.le_of_ble_eq_true rfl) (Nat.le_of_ble_eq_true rfl) (dk okd_X12_apart 1 rfl) (st' := fun v1 => [.int v1]) (fun _ => rfl) (fun v1 => ?_)
  refine s_run X ok_X12_apart 4 3 (pc' := 13) (vs' := [some (.int p0), some (.int p1), some (.int p2)]) (st' := [.int 30, .int p2, .int p1, .int v1]) rfl ?_
  refine s_idiv0 X (dk okd_X12_apart 2 rfl) (by decide) ?_
  refine s_run X ok_X12_apart 7 1 (pc' := 15) (vs' := [some (.int p0), some (.int p1), some (.int p2)]) (st' := [.int (p1 - (p2 / 30)), .int v1]) rfl ?_
  refine s_callS (As := [.int (p1 - (p2 / 30))]) (rest := [.int v1]) X E ms_X12_107 (c_X12_size S (p1 - (p2 / 30))) rfl (ta0) rfl rfl (Nat.le_of_ble_eq_true rfl) (Nat.le_of_ble_eq_true rfl) (Nat.le_of_ble_eq_true rfl) (dk okd_X12_apart 3 rfl) (st' := fun v2 => [.int v2, .int v1]) (fun _ => rfl) (fun v2 => ?_)
  refine s_run X ok_X12_apart 8 1 (pc' := 19) (vs' := [some (.int p0), some (.int p1), some (.int p2)]) (st' := [.int (v1 + v2)]) rfl ?_
  exact s_iret X hr (dk okd_X12_apart 4 rfl) rfl rfl
def tab_X12_distance : List En := [(0, 8, 0, 0), (1, 0, 0, 0), (5, 8, 0, 0), (6, 8, 0, 0), (7, 4, 1, 0), (14, 0, 0, 1), (15, 41, 19, 0), (18, 0, 0, 0), (19, 0, 0, 1), (26, 8, 0, 0), (27, 4, 2, 0), (28, 4, 3, 0), (35, 0, 0, 1), (36, 41, 40, 0), (39, 0, 0, 0), (40, 0, 0, 2), (47, 0, 0, 0), (49, 0, 0, (-1)), (50, 11, 4, 0), (52, 0, 0, 0), (53, 11, 5, 0), (55, 5, 5, 0), (57, 2, 0, 900), (63, 8, 0, 0), (67, 2, 0, 250), (70, 5, 5, 0), (72, 17, 0, 0), (74, 4, 1, 0), (75, 31, 0, 0), (76, 40, 0, 0), (80, 5, 4, 0), (82, 0, 0, (-1)), (86, 4, 2, 0), (87, 4, 3, 0), (88, 5, 5, 0), (93, 5, 4, 0), (98, 4, 2, 0), (99, 4, 3, 0), (100, 5, 5, 0), (105, 11, 4, 0), (107, 16, 5, 1), (110, 41, 55, 0), (113, 5, 4, 0)]
theorem ok_X12_distance : tab_X12_distance.all (okE cX12_distance) = true := by decide +kernel
def ed_X12_distance : List (Nat × Instr × Nat) := [(2, .putfield 50, 3), (8, .invokevirtual 85, 3), (11, .ifCond .ne 7, 3), (20, .invokevirtual 81, 3), (23, .ifCond .ne 24, 3), (29, .invokestatic 67, 3), (32, .ifCond .ne 7, 3), (41, .invokevirtual 81, 3), (44, .ifCond .eq 5, 3), (48, .ireturn, 1), (60, .if_icmp .ge 53, 3), (64, .getfield 9, 3), (73, .laload, 1), (77, .ifCond .ne 30, 3), (83, .if_icmp .eq 15, 3), (90, .invokestatic 110, 3), (95, .if_icmp .ge 12, 3), (102, .invokestatic 110, 3), (115, .ireturn, 1)]
theorem okd_X12_distance : ed_X12_distance.all (okD cX12_distance) = true := by decide +kernel
def f_X12_distance (S : St) (p0 : Nat) (p1 : Int32) (p2 : Int32) (p3 : Int32) : Option (Int32 × St) := lt (uI S p0 2 0) fun (S1 : St) => cl (f_X12_isFranchisee S1 p0 p1) fun (v2 : Int32) => jn (κ := Int32 → Option (Int32 × St)) (fun x3 => cl (f_X12_throwsIf S1 p0 x3 1) fun (o6 : Int32 × St) => if o6.1 = 0 then (cl (f_X12_isCell o6.2 p2 p3) fun (v7 : Int32) => jn (κ := Int32 → Option (Int32 × St)) (fun x8 => cl (f_X12_throwsIf o6.2 p0 x8 2) fun (o11 : Int32 × St) => if o11.1 = 0 then (jn (κ := Int32 → Option (Int32 × St)) (fun x12 => some (x12, o11.2)) fun k13 => lp (κ := Int32 → Int32 → Option (Int32 × St)) (fun _ _ => none) (fun k17 x15 x16 => if 900 ≤ x16 then (k13 x15) else (lt (gR o11.2 p0 0) fun (a19 : Nat) => ldJ o11.2 a19 (250 + x16) fun (v21 : Int64) => jn (κ := Int32 → Option (Int32 × St)) (fun x22 => k17 x22 (x16 + 1)) fun k23 => if v21 = (Int32.toInt64 p1) then (jn (κ := Option (Int32 × St)) (cl (f_X12_apart o11.2 p2 p3 x16) fun (v27 : Int32) => k23 v27) fun k25 => if x15 = (-1) then (k25) else (cl (f_X12_apart o11.2 p2 p3 x16) fun (v28 : Int32) => if x15 ≤ v28 then (k23 x15) else (k25))) else (k23 x15))) FU (-1) 0) else (some (0, o11.2))) fun k9 => if v7 = 0 then (k9 1) else (k9 0)) else (some (0, o6.2))) fun k4 => if v2 = 0 then (k4 1) else (k4 0)
set_option maxHeartbeats 4000000 in
set_option maxRecDepth 100000 in
theorem c_X12_distance (S : St) (p0 : Nat) (p1 : Int32) (p2 : Int32) (p3 : Int32) : Ct yX12_distance cX12_distance 6 (some .int) 2 46 (fun _ => [.ref p0, .int p1, .int p2, .int p3]) [(p0, 11)] S (f_X12_distance S p0 p1 p2 p3) oIS sS := by
  refine Ct_of RX12 rfl (by decide) (fun _ => Nat.le_of_ble_eq_true rfl) 2 (vs := fun _ => [some (.ref p0), some (.int p1), some (.int p2), some (.int p3), none, none]) (fun _ => rfl) (fun C X E hr ht => ?_)
  have t0_ : tT C p0 11 := ht (p0, 11) (by simp)
  show Jd C 6 (QJ C oIS sS) S 0 [some (.ref p0), some (.int p1), some (.int p2), some (.int p3), none, none] [] (f_X12_distance S p0 p1 p2 p3)
  unfold f_X12_distance
  refine s_run X ok_X12_distance 0 2 (pc' := 2) (vs' := [some (.ref p0), some (.int p1), some (.int p2), some (.int p3), none, none]) (st' := [.int 0, .ref p0]) rfl ?_
  refine s_putI X fp_X12_50 t0_ (dk okd_X12_distance 0 rfl) (fun S1 => ?_)
  refine s_run X ok_X12_distance 2 3 (pc' := 8) (vs' := [some (.ref p0), some (.int p1), some (.int p2), some (.int p3), none, none]) (st' := [.int p1, .ref p0, .ref p0]) rfl ?_
  refine s_callV (b := p0) (As := [.int p1]) (rest := [.ref p0]) X E mv_X12_85 (c_X12_isFranchisee S1 p0 p1) rfl (ta1 t0_) rfl (by decide) t0_ rfl rfl (Nat.le_of_ble_eq_true rfl) (Nat.le_of_ble_eq_true rfl) (Nat.le_of_ble_eq_true rfl) (dk okd_X12_distance 1 rfl) (st' := fun v2 => [.int v2, .ref p0]) (fun _ => rfl) (fun v2 => ?_)
  refine s_jn (κ := Int32 → Option (Int32 × St)) (fun k4 => ∀ (x3 : Int32), Jd C 6 (QJ C oIS sS) S1 19 [some (.ref p0), some (.int p1), some (.int p2), some (.int p3), none, none] [.int x3, .ref p0] (k4 x3)) (fun x3 => ?_) (fun k4 h5 => ?_)
  · refine s_run X ok_X12_distance 8 1 (pc' := 20) (vs' := [some (.ref p0), some (.int p1), some (.int p2), some (.int p3), none, none]) (st' := [.int 1, .int x3, .ref p0]) rfl ?_
    refine s_callV (b := p0) (As := [.int x3, .int 1]) (rest := []) X E mv_X12_81 (c_X12_throwsIf S1 p0 x3 1) rfl (ta1 t0_) rfl (by decide) t0_ rfl rfl (Nat.le_of_ble_eq_true rfl) (Nat.le_of_ble_eq_true rfl) (Nat.le_of_ble_eq_true rfl) (dk okd_X12_distance 3 rfl) (st' := fun o6 => [.int o6.1]) (fun _ => rfl) (fun o6 => ?_)
    refine s_if_ne (tgt := 47) X (dk okd_X12_distance 4 rfl) (by decide) ?_ ?_
    · refine s_run X ok_X12_distance 16 1 (pc' := 48) (vs' := [some (.ref p0), some (.int p1), some (.int p2), some (.int p3), none, none]) (st' := [.int 0]) rfl ?_
      exact s_iret X hr (dk okd_X12_distance 9 rfl) rfl rfl
    · refine s_run X ok_X12_distance 9 3 (pc' := 29) (vs' := [some (.ref p0), some (.int p1), some (.int p2), some (.int p3), none, none]) (st' := [.int p3, .int p2, .ref p0]) rfl ?_
      refine s_callS (As := [.int p2, .int p3]) (rest := [.ref p0]) X E ms_X12_67 (c_X12_isCell o6.2 p2 p3) rfl (ta0) rfl rfl (Nat.le_of_ble_eq_true rfl) (Nat.le_of_ble_eq_true rfl) (Nat.le_of_ble_eq_true rfl) (dk okd_X12_distance 5 rfl) (st' := fun v7 => [.int v7, .ref p0]) (fun _ => rfl) (fun v7 => ?_)
      refine s_jn (κ := Int32 → Option (Int32 × St)) (fun k9 => ∀ (x8 : Int32), Jd C 6 (QJ C oIS sS) o6.2 40 [some (.ref p0), some (.int p1), some (.int p2), some (.int p3), none, none] [.int x8, .ref p0] (k9 x8)) (fun x8 => ?_) (fun k9 h10 => ?_)
      · refine s_run X ok_X12_distance 15 1 (pc' := 41) (vs' := [some (.ref p0), some (.int p1), some (.int p2), some (.int p3), none, none]) (st' := [.int 2, .int x8, .ref p0]) rfl ?_
        refine s_callV (b := p0) (As := [.int x8, .int 2]) (rest := []) X E mv_X12_81 (c_X12_throwsIf o6.2 p0 x8 2) rfl (ta1 t0_) rfl (by decide) t0_ rfl rfl (Nat.le_of_ble_eq_true rfl) (Nat.le_of_ble_eq_true rfl) (Nat.le_of_ble_eq_true rfl) (dk okd_X12_distance 7 rfl) (st' := fun o11 => [.int o11.1]) (fun _ => rfl) (fun o11 => ?_)
        refine s_if_eq (tgt := 49) X (dk okd_X12_distance 8 rfl) (by decide) ?_ ?_
        · refine s_run X ok_X12_distance 17 4 (pc' := 55) (vs' := [some (.ref p0), some (.int p1), some (.int p2), some (.int p3), some (.int (-1)), some (.int 0)]) (st' := []) rfl ?_
          refine s_jn (κ := Int32 → Option (Int32 × St)) (fun k13 => ∀ (x12 : Int32), Jd C 6 (QJ C oIS sS) o11.2 113 [none, none, none, none, some (.int x12), none] [] (k13 x12)) (fun x12 => ?_) (fun k13 h14 => ?_)
          · refine s_run X ok_X12_distance 42 1 (pc' := 115) (vs' := [none, none, none, none, some (.int x12), none]) (st' := [.int x12]) rfl ?_
            exact s_iret X hr (dk okd_X12_distance 18 rfl) rfl rfl
          · refine s_lp (κ := Int32 → Int32 → Option (Int32 × St)) (fun k17 => ∀ (x15 : Int32) (x16 : Int32), Jd C 6 (QJ C oIS sS) o11.2 55 [some (.ref p0), some (.int p1), some (.int p2), some (.int p3), some (.int x15), some (.int x16)] [] (k17 x15 x16)) (fun _ _ => s_none) (fun k17 h18 x15 x16 => ?_) FU (-1) 0
            refine s_run X ok_X12_distance 21 2 (pc' := 60) (vs' := [some (.ref p0), some (.int p1), some (.int p2), some (.int p3), some (.int x15), some (.int x16)]) (st' := [.int 900, .int x16]) rfl ?_
            refine s_icmp_ge (tgt := 113) X (dk okd_X12_distance 10 rfl) (by decide) ?_ ?_
            · exact s_less [false, false, false, false, true, false] rfl (h14 x15)
            · refine s_run X ok_X12_distance 23 1 (pc' := 64) (vs' := [some (.ref p0), some (.int p1), some (.int p2), some (.int p3), some (.int x15), some (.int x16)]) (st' := [.ref p0]) rfl ?_
              refine s_getR X fl_X12_9 t0_ (dk okd_X12_distance 11 rfl) (fun a19 (t20 : tT C a19 14) => ?_)
              refine s_run X ok_X12_distance 24 3 (pc' := 73) (vs' := [some (.ref p0), some (.int p1), some (.int p2), some (.int p3), some (.int x15), some (.int x16)]) (st' := [.int (250 + x16), .ref a19]) rfl ?_
              refine s_lald X t20 (dk okd_X12_distance 12 rfl) (fun v21 => ?_)
              refine s_run X ok_X12_distance 27 3 (pc' := 77) (vs' := [some (.ref p0), some (.int p1), some (.int p2), some (.int p3), some (.int x15), some (.int x16)]) (st' := [.int (lg_cmp v21 (Int32.toInt64 p1))]) rfl ?_
              refine s_jn (κ := Int32 → Option (Int32 × St)) (fun k23 => ∀ (x22 : Int32), Jd C 6 (QJ C oIS sS) o11.2 107 [some (.ref p0), some (.int p1), some (.int p2), some (.int p3), some (.int x22), some (.int x16)] [] (k23 x22)) (fun x22 => ?_) (fun k23 h24 => ?_)
              · refine s_run X ok_X12_distance 40 2 (pc' := 55) (vs' := [some (.ref p0), some (.int p1), some (.int p2), some (.int p3), some (.int x22), some (.int (x16 + 1))]) (st' := []) rfl ?_
                exact h18 x22 (x16 + 1)
              · refine s_lif_ne (tgt := 107) X (dk okd_X12_distance 13 rfl) (by decide) ?_ ?_
                · exact h24 x15
                · refine s_run X ok_X12_distance 30 2 (pc' := 83) (vs' := [some (.ref p0), some (.int p1), some (.int p2), some (.int p3), some (.int x15), some (.int x16)]) (st' := [.int (-1), .int x15]) rfl ?_
                  refine s_jn (κ := Option (Int32 × St)) (fun k25 => Jd C 6 (QJ C oIS sS) o11.2 98 [some (.ref p0), some (.int p1), some (.int p2), some (.int p3), none, some (.int x16)] [] k25) ?_ (fun k25 h26 => ?_)
                  · refine s_run X ok_X12_distance 36 3 (pc' := 102) (vs' := [some (.ref p0), some (.int p1), some (.int p2), some (.int p3), none, some (.int x16)]) (st' := [.int x16, .int p3, .int p2]) rfl ?_
                    refine s_callS (As := [.int p2, .int p3, .int x16]) (rest := []) X E ms_X12_110 (c_X12_apart o11.2 p2 p3 x16) rfl (ta0) rfl rfl (Nat.le_of_ble_eq_true rfl) (Nat.le_of_ble_eq_true rfl) (Nat.le_of_ble_eq_true rfl) (dk okd_X12_distance 17 rfl) (st' := fun v27 => [.int v27]) (fun _ => rfl) (fun v27 => ?_)
                    refine s_run X ok_X12_distance 39 1 (pc' := 107) (vs' := [some (.ref p0), some (.int p1), some (.int p2), some (.int p3), some (.int v27), some (.int x16)]) (st' := []) rfl ?_
                    exact h24 v27
                  · refine s_icmp_eq (tgt := 98) X (dk okd_X12_distance 14 rfl) (by decide) ?_ ?_
                    · exact s_less [true, true, true, true, false, true] rfl (h26)
                    · refine s_run X ok_X12_distance 32 3 (pc' := 90) (vs' := [some (.ref p0), some (.int p1), some (.int p2), some (.int p3), some (.int x15), some (.int x16)]) (st' := [.int x16, .int p3, .int p2]) rfl ?_
                      refine s_callS (As := [.int p2, .int p3, .int x16]) (rest := []) X E ms_X12_110 (c_X12_apart o11.2 p2 p3 x16) rfl (ta0) rfl rfl (Nat.le_of_ble_eq_true rfl) (Nat.le_of_ble_eq_true rfl) (Nat.le_of_ble_eq_true rfl) (dk okd_X12_distance 15 rfl) (st' := fun v28 => [.int v28]) (fun _ => rfl) (fun v28 => ?_)
                      refine s_run X ok_X12_distance 35 1 (pc' := 95) (vs' := [some (.ref p0), some (.int p1), some (.int p2), some (.int p3), some (.int x15), some (.int x16)]) (st' := [.int x15, .int v28]) rfl ?_
                      refine s_icmp_ge (tgt := 107) X (dk okd_X12_distance 16 rfl) (by decide) ?_ ?_
                      · exact h24 x15
                      · exact s_less [true, true, true, true, false, true] rfl (h26)
        · refine s_run X ok_X12_distance 16 1 (pc' := 48) (vs' := [some (.ref p0), some (.int p1), some (.int p2), some (.int p3), none, none]) (st' := [.int 0]) rfl ?_
          exact s_iret X hr (dk okd_X12_distance 9 rfl) rfl rfl
      · refine s_if_ne (tgt := 39) X (dk okd_X12_distance 6 rfl) (by decide) ?_ ?_
        · refine s_run X ok_X12_distance 14 1 (pc' := 40) (vs' := [some (.ref p0), some (.int p1), some (.int p2), some (.int p3), none, none]) (st' := [.int 0, .ref p0]) rfl ?_
          exact h10 0
        · refine s_run X ok_X12_distance 12 2 (pc' := 40) (vs' := [some (.ref p0), some (.int p1), some (.int p2), some (.int p3), none, none]) (st' := [.int 1, .ref p0]) rfl ?_
          exact h10 1
  · refine s_if_ne (tgt := 18) X (dk okd_X12_distance 2 rfl) (by decide) ?_ ?_
    · refine s_run X ok_X12_distance 7 1 (pc' := 19) (vs' := [some (.ref p0), some (.int p1), some (.int p2), some (.int p3), none, none]) (st' := [.int 0, .ref p0]) rfl ?_
      exact h5 0
    · refine s_run X ok_X12_distance 5 2 (pc' := 19) (vs' := [some (.ref p0), some (.int p1), some (.int p2), some (.int p3), none, none]) (st' := [.int 1, .ref p0]) rfl ?_
      exact h5 1
def tab_X12_isOpen : List En := [(0, 8, 0, 0), (1, 4, 1, 0), (2, 0, 0, 0), (9, 40, 0, 0), (13, 0, 0, 1), (14, 41, 18, 0), (17, 0, 0, 0)]
theorem ok_X12_isOpen : tab_X12_isOpen.all (okE cX12_isOpen) = true := by decide +kernel
def ed_X12_isOpen : List (Nat × Instr × Nat) := [(3, .invokevirtual 113, 3), (6, .ldc2_w 48, 3), (10, .ifCond .eq 7, 3), (18, .ireturn, 1)]
theorem okd_X12_isOpen : ed_X12_isOpen.all (okD cX12_isOpen) = true := by decide +kernel
def f_X12_isOpen (S : St) (p0 : Nat) (p1 : Int32) : Option (Int32) := cl (f_X12_ofOutlet S p0 p1 0) fun (v1 : Int64) => if v1 = (-1) then (some 0) else (some 1)
set_option maxHeartbeats 4000000 in
set_option maxRecDepth 100000 in
theorem c_X12_isOpen (S : St) (p0 : Nat) (p1 : Int32) : Ct yX12_isOpen cX12_isOpen 2 (some .boolean) 1 22 (fun _ => [.ref p0, .int p1]) [(p0, 11)] S (f_X12_isOpen S p0 p1) oI (fun _ => S) := by
  refine Ct_of RX12 rfl (by decide) (fun _ => Nat.le_of_ble_eq_true rfl) 0 (vs := fun _ => [some (.ref p0), some (.int p1)]) (fun _ => rfl) (fun C X E hr ht => ?_)
  have t0_ : tT C p0 11 := ht (p0, 11) (by simp)
  show Jd C 2 (QJ C oI (fun _ => S)) S 0 [some (.ref p0), some (.int p1)] [] (f_X12_isOpen S p0 p1)
  unfold f_X12_isOpen
  refine s_run X ok_X12_isOpen 0 3 (pc' := 3) (vs' := [some (.ref p0), some (.int p1)]) (st' := [.int 0, .int p1, .ref p0]) rfl ?_
  refine s_callV (b := p0) (As := [.int p1, .int 0]) (rest := []) X E mv_X12_113 (c_X12_ofOutlet S p0 p1 0) rfl (ta1 t0_) rfl (by decide) t0_ rfl rfl (Nat.le_of_ble_eq_true rfl) (Nat.le_of_ble_eq_true rfl) (Nat.le_of_ble_eq_true rfl) (dk okd_X12_isOpen 0 rfl) (st' := fun v1 => [.long v1]) (fun _ => rfl) (fun v1 => ?_)
  refine s_ldc2 X cl_X12_48 (dk okd_X12_isOpen 1 rfl) ?_
  refine s_run X ok_X12_isOpen 3 1 (pc' := 10) (vs' := [some (.ref p0), some (.int p1)]) (st' := [.int (lg_cmp v1 (-1))]) rfl ?_
  refine s_lif_eq (tgt := 17) X (dk okd_X12_isOpen 2 rfl) (by decide) ?_ ?_
  · refine s_run X ok_X12_isOpen 6 1 (pc' := 18) (vs' := [some (.ref p0), some (.int p1)]) (st' := [.int 0]) rfl ?_
    exact s_zret0 X hr (dk okd_X12_isOpen 3 rfl) (by decide) rfl rfl
  · refine s_run X ok_X12_isOpen 4 2 (pc' := 18) (vs' := [some (.ref p0), some (.int p1)]) (st' := [.int 1]) rfl ?_
    exact s_zret0 X hr (dk okd_X12_isOpen 3 rfl) (by decide) rfl rfl
def tab_X12_cellOf : List En := [(3, 8, 0, 0), (4, 4, 1, 0), (5, 0, 0, 2), (9, 25, 0, 0), (10, 8, 0, 0), (11, 4, 1, 0), (12, 0, 0, 1), (16, 23, 0, 0), (17, 32, 0, 0)]
theorem ok_X12_cellOf : tab_X12_cellOf.all (okE cX12_cellOf) = true := by decide +kernel
def ed_X12_cellOf : List (Nat × Instr × Nat) := [(0, .ldc2_w 116, 3), (6, .invokevirtual 113, 3), (13, .invokevirtual 113, 3), (18, .ireturn, 1)]
theorem okd_X12_cellOf : ed_X12_cellOf.all (okD cX12_cellOf) = true := by decide +kernel
def f_X12_cellOf (S : St) (p0 : Nat) (p1 : Int32) : Option (Int32) := cl (f_X12_ofOutlet S p0 p1 2) fun (v1 : Int64) => cl (f_X12_ofOutlet S p0 p1 1) fun (v2 : Int64) => some (Int64.toInt32 ((30 * v1) + v2))
set_option maxHeartbeats 4000000 in
set_option maxRecDepth 100000 in
theorem c_X12_cellOf (S : St) (p0 : Nat) (p1 : Int32) : Ct yX12_cellOf cX12_cellOf 2 (some .int) 1 22 (fun _ => [.ref p0, .int p1]) [(p0, 11)] S (f_X12_cellOf S p0 p1) oI (fun _ => S) := by
  refine Ct_of RX12 rfl (by decide) (fun _ => Nat.le_of_ble_eq_true rfl) 0 (vs := fun _ => [some (.ref p0), some (.int p1)]) (fun _ => rfl) (fun C X E hr ht => ?_)
  have t0_ : tT C p0 11 := ht (p0, 11) (by simp)
  show Jd C 2 (QJ C oI (fun _ => S)) S 0 [some (.ref p0), some (.int p1)] [] (f_X12_cellOf S p0 p1)
  unfold f_X12_cellOf
  refine s_ldc2 X cl_X12_116 (dk okd_X12_cellOf 0 rfl) ?_
  refine s_run X ok_X12_cellOf 0 3 (pc' := 6) (vs' := [some (.ref p0), some (.int p1)]) (st' := [.int 2, .int p1, .ref p0, .long 30]) rfl ?_
  refine s_callV (b := p0) (As := [.int p1, .int 2]) (rest := [.long 30]) X E mv_X12_113 (c_X12_ofOutlet S p0 p1 2) rfl (ta1 t0_) rfl (by decide) t0_ rfl rfl (Nat.le_of_ble_eq_true rfl) (Nat.le_of_ble_eq_true rfl) (Nat.le_of_ble_eq_true rfl) (dk okd_X12_cellOf 1 rfl) (st' := fun v1 => [.long v1, .long 30]) (fun _ => rfl) (fun v1 => ?_)
  refine s_run X ok_X12_cellOf 3 4 (pc' := 13) (vs' := [some (.ref p0), some (.int p1)]) (st' := [.int 1, .int p1, .ref p0, .long (30 * v1)]) rfl ?_
  refine s_callV (b := p0) (As := [.int p1, .int 1]) (rest := [.long (30 * v1)]) X E mv_X12_113 (c_X12_ofOutlet S p0 p1 1) rfl (ta1 t0_) rfl (by decide) t0_ rfl rfl (Nat.le_of_ble_eq_true rfl) (Nat.le_of_ble_eq_true rfl) (Nat.le_of_ble_eq_true rfl) (dk okd_X12_cellOf 2 rfl) (st' := fun v2 => [.long v2, .long (30 * v1)]) (fun _ => rfl) (fun v2 => ?_)
  refine s_run X ok_X12_cellOf 7 2 (pc' := 18) (vs' := [some (.ref p0), some (.int p1)]) (st' := [.int (Int64.toInt32 ((30 * v1) + v2))]) rfl ?_
  exact s_iret X hr (dk okd_X12_cellOf 3 rfl) rfl rfl
def tab_X12_hasOutlet : List En := [(0, 0, 0, 0), (1, 10, 2, 0), (2, 4, 2, 0), (3, 31, 0, 0), (4, 8, 0, 0), (8, 0, 0, 3), (10, 40, 0, 0), (14, 8, 0, 0), (15, 4, 2, 0), (22, 8, 0, 0), (23, 4, 2, 0), (27, 4, 1, 0), (31, 0, 0, 1), (33, 16, 2, 1), (36, 41, 2, 0), (39, 0, 0, 0)]
theorem ok_X12_hasOutlet : tab_X12_hasOutlet.all (okE cX12_hasOutlet) = true := by decide +kernel
def ed_X12_hasOutlet : List (Nat × Instr × Nat) := [(5, .getfield 9, 3), (9, .laload, 1), (11, .ifCond .ge 28, 3), (16, .invokevirtual 118, 3), (19, .ifCond .eq 14, 3), (24, .invokevirtual 121, 3), (28, .if_icmp .ne 5, 3), (32, .ireturn, 1), (40, .ireturn, 1)]
theorem okd_X12_hasOutlet : ed_X12_hasOutlet.all (okD cX12_hasOutlet) = true := by decide +kernel
def f_X12_hasOutlet (S : St) (p0 : Nat) (p1 : Int32) : Option (Int32) := lp (κ := Int32 → Option (Int32)) (fun _ => none) (fun k2 x1 => lt (gR S p0 0) fun (a4 : Nat) => ldJ S a4 3 fun (v6 : Int64) => if v6 ≤ (Int32.toInt64 x1) then (some 0) else (cl (f_X12_isOpen S p0 x1) fun (v7 : Int32) => jn (κ := Option (Int32)) (k2 (x1 + 1)) fun k8 => if v7 = 0 then (k8) else (cl (f_X12_cellOf S p0 x1) fun (v10 : Int32) => if v10 = p1 then (some 1) else (k8)))) FU 0
set_option maxHeartbeats 4000000 in
set_option maxRecDepth 100000 in
theorem c_X12_hasOutlet (S : St) (p0 : Nat) (p1 : Int32) : Ct yX12_hasOutlet cX12_hasOutlet 3 (some .boolean) 2 43 (fun _ => [.ref p0, .int p1]) [(p0, 11)] S (f_X12_hasOutlet S p0 p1) oI (fun _ => S) := by
  refine Ct_of RX12 rfl (by decide) (fun _ => Nat.le_of_ble_eq_true rfl) 1 (vs := fun _ => [some (.ref p0), some (.int p1), none]) (fun _ => rfl) (fun C X E hr ht => ?_)
  have t0_ : tT C p0 11 := ht (p0, 11) (by simp)
  show Jd C 3 (QJ C oI (fun _ => S)) S 0 [some (.ref p0), some (.int p1), none] [] (f_X12_hasOutlet S p0 p1)
  unfold f_X12_hasOutlet
  refine s_run X ok_X12_hasOutlet 0 2 (pc' := 2) (vs' := [some (.ref p0), some (.int p1), some (.int 0)]) (st' := []) rfl ?_
  refine s_lp (κ := Int32 → Option (Int32)) (fun k2 => ∀ (x1 : Int32), Jd C 3 (QJ C oI (fun _ => S)) S 2 [some (.ref p0), some (.int p1), some (.int x1)] [] (k2 x1)) (fun _ => s_none) (fun k2 h3 x1 => ?_) FU 0
  refine s_run X ok_X12_hasOutlet 2 3 (pc' := 5) (vs' := [some (.ref p0), some (.int p1), some (.int x1)]) (st' := [.ref p0, .long (Int32.toInt64 x1)]) rfl ?_
  refine s_getR X fl_X12_9 t0_ (dk okd_X12_hasOutlet 0 rfl) (fun a4 (t5 : tT C a4 14) => ?_)
  refine s_run X ok_X12_hasOutlet 5 1 (pc' := 9) (vs' := [some (.ref p0), some (.int p1), some (.int x1)]) (st' := [.int 3, .ref a4, .long (Int32.toInt64 x1)]) rfl ?_
  refine s_lald X t5 (dk okd_X12_hasOutlet 1 rfl) (fun v6 => ?_)
  refine s_run X ok_X12_hasOutlet 6 1 (pc' := 11) (vs' := [some (.ref p0), some (.int p1), some (.int x1)]) (st' := [.int (lg_cmp (Int32.toInt64 x1) v6)]) rfl ?_
  refine s_lif_ge (tgt := 39) X (dk okd_X12_hasOutlet 2 rfl) (by decide) ?_ ?_
  · refine s_run X ok_X12_hasOutlet 15 1 (pc' := 40) (vs' := [some (.ref p0), some (.int p1), some (.int x1)]) (st' := [.int 0]) rfl ?_
    exact s_zret0 X hr (dk okd_X12_hasOutlet 8 rfl) (by decide) rfl rfl
  · refine s_run X ok_X12_hasOutlet 7 2 (pc' := 16) (vs' := [some (.ref p0), some (.int p1), some (.int x1)]) (st' := [.int x1, .ref p0]) rfl ?_
    refine s_callV (b := p0) (As := [.int x1]) (rest := []) X E mv_X12_118 (c_X12_isOpen S p0 x1) rfl (ta1 t0_) rfl (by decide) t0_ rfl rfl (Nat.le_of_ble_eq_true rfl) (Nat.le_of_ble_eq_true rfl) (Nat.le_of_ble_eq_true rfl) (dk okd_X12_hasOutlet 3 rfl) (st' := fun v7 => [.int v7]) (fun _ => rfl) (fun v7 => ?_)
    refine s_jn (κ := Option (Int32)) (fun k8 => Jd C 3 (QJ C oI (fun _ => S)) S 33 [some (.ref p0), some (.int p1), some (.int x1)] [] k8) ?_ (fun k8 h9 => ?_)
    · refine s_run X ok_X12_hasOutlet 13 2 (pc' := 2) (vs' := [some (.ref p0), some (.int p1), some (.int (x1 + 1))]) (st' := []) rfl ?_
      exact h3 (x1 + 1)
    · refine s_if_eq (tgt := 33) X (dk okd_X12_hasOutlet 4 rfl) (by decide) ?_ ?_
      · exact h9
      · refine s_run X ok_X12_hasOutlet 9 2 (pc' := 24) (vs' := [some (.ref p0), some (.int p1), some (.int x1)]) (st' := [.int x1, .ref p0]) rfl ?_
        refine s_callV (b := p0) (As := [.int x1]) (rest := []) X E mv_X12_121 (c_X12_cellOf S p0 x1) rfl (ta1 t0_) rfl (by decide) t0_ rfl rfl (Nat.le_of_ble_eq_true rfl) (Nat.le_of_ble_eq_true rfl) (Nat.le_of_ble_eq_true rfl) (dk okd_X12_hasOutlet 5 rfl) (st' := fun v10 => [.int v10]) (fun _ => rfl) (fun v10 => ?_)
        refine s_run X ok_X12_hasOutlet 11 1 (pc' := 28) (vs' := [some (.ref p0), some (.int p1), some (.int x1)]) (st' := [.int p1, .int v10]) rfl ?_
        refine s_icmp_ne (tgt := 33) X (dk okd_X12_hasOutlet 6 rfl) (by decide) ?_ ?_
        · exact h9
        · refine s_run X ok_X12_hasOutlet 12 1 (pc' := 32) (vs' := [some (.ref p0), some (.int p1), some (.int x1)]) (st' := [.int 1]) rfl ?_
          exact s_zret0 X hr (dk okd_X12_hasOutlet 7 rfl) (by decide) rfl rfl
def tab_X12_isWithin : List En := [(0, 4, 0, 0), (1, 1, 0, 30), (4, 4, 1, 0), (8, 4, 0, 0), (9, 1, 0, 30), (12, 4, 3, 0), (16, 4, 0, 0), (17, 1, 0, 30), (20, 4, 2, 0), (24, 4, 0, 0), (25, 1, 0, 30), (28, 5, 4, 0), (33, 0, 0, 1), (34, 41, 38, 0), (37, 0, 0, 0)]
theorem ok_X12_isWithin : tab_X12_isWithin.all (okE cX12_isWithin) = true := by decide +kernel
def ed_X12_isWithin : List (Nat × Instr × Nat) := [(3, .irem, 1), (5, .if_icmp .lt 32, 3), (11, .irem, 1), (13, .if_icmp .ge 24, 3), (19, .idiv, 1), (21, .if_icmp .lt 16, 3), (27, .idiv, 1), (30, .if_icmp .ge 7, 3), (38, .ireturn, 1)]
theorem okd_X12_isWithin : ed_X12_isWithin.all (okD cX12_isWithin) = true := by decide +kernel
def f_X12_isWithin (S : St) (p0 : Int32) (p1 : Int32) (p2 : Int32) (p3 : Int32) (p4 : Int32) : Option (Int32) := jn (κ := Option (Int32)) (some 0) fun k1 => if (p0 - p0 / 30 * 30) < p1 then (k1) else (if p3 ≤ (p0 - p0 / 30 * 30) then (k1) else (if (p0 / 30) < p2 then (k1) else (if p4 ≤ (p0 / 30) then (k1) else (some 1))))
set_option maxHeartbeats 4000000 in
set_option maxRecDepth 100000 in
theorem c_X12_isWithin (S : St) (p0 : Int32) (p1 : Int32) (p2 : Int32) (p3 : Int32) (p4 : Int32) : Ct yX12_isWithin cX12_isWithin 5 (some .boolean) 0 0 (fun _ => [.int p0, .int p1, .int p2, .int p3, .int p4]) [] S (f_X12_isWithin S p0 p1 p2 p3 p4) oI (fun _ => S) := by
  refine Ct_of RX12 rfl (by decide) (fun _ => Nat.le_of_ble_eq_true rfl) 0 (vs := fun _ => [some (.int p0), some (.int p1), some (.int p2), some (.int p3), some (.int p4)]) (fun _ => rfl) (fun C X E hr ht => ?_)
  show Jd C 5 (QJ C oI (fun _ => S)) S 0 [some (.int p0), some (.int p1), some (.int p2), some (.int p3), some (.int p4)] [] (f_X12_isWithin S p0 p1 p2 p3 p4)
  unfold f_X12_isWithin
  refine s_run X ok_X12_isWithin 0 2 (pc' := 3) (vs' := [some (.int p0), some (.int p1), some (.int p2), some (.int p3), some (.int p4)]) (st' := [.int 30, .int p0]) rfl ?_
  refine s_irem0 X (dk okd_X12_isWithin 0 rfl) (by decide) ?_
  refine s_run X ok_X12_isWithin 2 1 (pc' := 5) (vs' := [some (.int p0), some (.int p1), some (.int p2), some (.int p3), some (.int p4)]) (st' := [.int p1, .int (p0 - p0 / 30 * 30)]) rfl ?_
  refine s_jn (κ := Option (Int32)) (fun k1 => Jd C 5 (QJ C oI (fun _ => S)) S 37 [none, none, none, none, none] [] k1) ?_ (fun k1 h2 => ?_)
  · refine s_run X ok_X12_isWithin 14 1 (pc' := 38) (vs' := [none, none, none, none, none]) (st' := [.int 0]) rfl ?_
    exact s_zret0 X hr (dk okd_X12_isWithin 8 rfl) (by decide) rfl rfl
  · refine s_icmp_lt (tgt := 37) X (dk okd_X12_isWithin 1 rfl) (by decide) ?_ ?_
    · exact s_less [false, false, false, false, false] rfl (h2)
    · refine s_run X ok_X12_isWithin 3 2 (pc' := 11) (vs' := [some (.int p0), some (.int p1), some (.int p2), some (.int p3), some (.int p4)]) (st' := [.int 30, .int p0]) rfl ?_
      refine s_irem0 X (dk okd_X12_isWithin 2 rfl) (by decide) ?_
      refine s_run X ok_X12_isWithin 5 1 (pc' := 13) (vs' := [some (.int p0), some (.int p1), some (.int p2), some (.int p3), some (.int p4)]) (st' := [.int p3, .int (p0 - p0 / 30 * 30)]) rfl ?_
      refine s_icmp_ge (tgt := 37) X (dk okd_X12_isWithin 3 rfl) (by decide) ?_ ?_
      · exact s_less [false, false, false, false, false] rfl (h2)
      · refine s_run X ok_X12_isWithin 6 2 (pc' := 19) (vs' := [some (.int p0), some (.int p1), some (.int p2), some (.int p3), some (.int p4)]) (st' := [.int 30, .int p0]) rfl ?_
        refine s_idiv0 X (dk okd_X12_isWithin 4 rfl) (by decide) ?_
        refine s_run X ok_X12_isWithin 8 1 (pc' := 21) (vs' := [some (.int p0), some (.int p1), some (.int p2), some (.int p3), some (.int p4)]) (st' := [.int p2, .int (p0 / 30)]) rfl ?_
        refine s_icmp_lt (tgt := 37) X (dk okd_X12_isWithin 5 rfl) (by decide) ?_ ?_
        · exact s_less [false, false, false, false, false] rfl (h2)
        · refine s_run X ok_X12_isWithin 9 2 (pc' := 27) (vs' := [some (.int p0), some (.int p1), some (.int p2), some (.int p3), some (.int p4)]) (st' := [.int 30, .int p0]) rfl ?_
          refine s_idiv0 X (dk okd_X12_isWithin 6 rfl) (by decide) ?_
          refine s_run X ok_X12_isWithin 11 1 (pc' := 30) (vs' := [some (.int p0), some (.int p1), some (.int p2), some (.int p3), some (.int p4)]) (st' := [.int p4, .int (p0 / 30)]) rfl ?_
          refine s_icmp_ge (tgt := 37) X (dk okd_X12_isWithin 7 rfl) (by decide) ?_ ?_
          · exact s_less [false, false, false, false, false] rfl (h2)
          · refine s_run X ok_X12_isWithin 12 2 (pc' := 38) (vs' := [some (.int p0), some (.int p1), some (.int p2), some (.int p3), some (.int p4)]) (st' := [.int 1]) rfl ?_
            exact s_zret0 X hr (dk okd_X12_isWithin 8 rfl) (by decide) rfl rfl
def tab_X12_isArea : List En := [(0, 4, 0, 0), (1, 4, 1, 0), (8, 4, 2, 0), (9, 31, 0, 0), (10, 4, 0, 0), (11, 0, 0, 1), (12, 17, 0, 0), (13, 31, 0, 0), (23, 4, 3, 0), (24, 31, 0, 0), (25, 4, 1, 0), (26, 0, 0, 1), (27, 17, 0, 0), (28, 31, 0, 0), (38, 0, 0, 1), (39, 41, 43, 0), (42, 0, 0, 0)]
theorem ok_X12_isArea : tab_X12_isArea.all (okE cX12_isArea) = true := by decide +kernel
def ed_X12_isArea : List (Nat × Instr × Nat) := [(2, .invokestatic 67, 3), (5, .ifCond .eq 37, 3), (14, .ldc2_w 116, 3), (17, .invokestatic 53, 3), (20, .ifCond .eq 22, 3), (29, .ldc2_w 116, 3), (32, .invokestatic 53, 3), (35, .ifCond .eq 7, 3), (43, .ireturn, 1)]
theorem okd_X12_isArea : ed_X12_isArea.all (okD cX12_isArea) = true := by decide +kernel
def f_X12_isArea (S : St) (p0 : Int32) (p1 : Int32) (p2 : Int32) (p3 : Int32) : Option (Int32) := cl (f_X12_isCell S p0 p1) fun (v1 : Int32) => jn (κ := Option (Int32)) (some 0) fun k2 => if v1 = 0 then (k2) else (cl (f_X12_inRange S (Int32.toInt64 p2) (Int32.toInt64 (p0 + 1)) 30) fun (v4 : Int32) => if v4 = 0 then (k2) else (cl (f_X12_inRange S (Int32.toInt64 p3) (Int32.toInt64 (p1 + 1)) 30) fun (v5 : Int32) => if v5 = 0 then (k2) else (some 1)))
set_option maxHeartbeats 4000000 in
set_option maxRecDepth 100000 in
theorem c_X12_isArea (S : St) (p0 : Int32) (p1 : Int32) (p2 : Int32) (p3 : Int32) : Ct yX12_isArea cX12_isArea 4 (some .boolean) 2 46 (fun _ => [.int p0, .int p1, .int p2, .int p3]) [] S (f_X12_isArea S p0 p1 p2 p3) oI (fun _ => S) := by
  refine Ct_of RX12 rfl (by decide) (fun _ => Nat.le_of_ble_eq_true rfl) 0 (vs := fun _ => [some (.int p0), some (.int p1), some (.int p2), some (.int p3)]) (fun _ => rfl) (fun C X E hr ht => ?_)
  show Jd C 4 (QJ C oI (fun _ => S)) S 0 [some (.int p0), some (.int p1), some (.int p2), some (.int p3)] [] (f_X12_isArea S p0 p1 p2 p3)
  unfold f_X12_isArea
  refine s_run X ok_X12_isArea 0 2 (pc' := 2) (vs' := [some (.int p0), some (.int p1), some (.int p2), some (.int p3)]) (st' := [.int p1, .int p0]) rfl ?_
  refine s_callS (As := [.int p0, .int p1]) (rest := []) X E ms_X12_67 (c_X12_isCell S p0 p1) rfl (ta0) rfl rfl (Nat.le_of_ble_eq_true rfl) (Nat.le_of_ble_eq_true rfl) (Nat.le_of_ble_eq_true rfl) (dk okd_X12_isArea 0 rfl) (st' := fun v1 => [.int v1]) (fun _ => rfl) (fun v1 => ?_)
  refine s_jn (κ := Option (Int32)) (fun k2 => Jd C 4 (QJ C oI (fun _ => S)) S 42 [none, none, none, none] [] k2) ?_ (fun k2 h3 => ?_)
  · refine s_run X ok_X12_isArea 16 1 (pc' := 43) (vs' := [none, none, none, none]) (st' := [.int 0]) rfl ?_
    exact s_zret0 X hr (dk okd_X12_isArea 8 rfl) (by decide) rfl rfl
  · refine s_if_eq (tgt := 42) X (dk okd_X12_isArea 1 rfl) (by decide) ?_ ?_
    · exact s_less [false, false, false, false] rfl (h3)
    · refine s_run X ok_X12_isArea 2 6 (pc' := 14) (vs' := [some (.int p0), some (.int p1), some (.int p2), some (.int p3)]) (st' := [.long (Int32.toInt64 (p0 + 1)), .long (Int32.toInt64 p2)]) rfl ?_
      refine s_ldc2 X cl_X12_116 (dk okd_X12_isArea 2 rfl) ?_
      refine s_callS (As := [.long (Int32.toInt64 p2), .long (Int32.toInt64 (p0 + 1)), .long 30]) (rest := []) X E ms_X12_53 (c_X12_inRange S (Int32.toInt64 p2) (Int32.toInt64 (p0 + 1)) 30) rfl (ta0) rfl rfl (Nat.le_of_ble_eq_true rfl) (Nat.le_of_ble_eq_true rfl) (Nat.le_of_ble_eq_true rfl) (dk okd_X12_isArea 3 rfl) (st' := fun v4 => [.int v4]) (fun _ => rfl) (fun v4 => ?_)
      refine s_if_eq (tgt := 42) X (dk okd_X12_isArea 4 rfl) (by decide) ?_ ?_
      · exact s_less [false, false, false, false] rfl (h3)
      · refine s_run X ok_X12_isArea 8 6 (pc' := 29) (vs' := [some (.int p0), some (.int p1), some (.int p2), some (.int p3)]) (st' := [.long (Int32.toInt64 (p1 + 1)), .long (Int32.toInt64 p3)]) rfl ?_
        refine s_ldc2 X cl_X12_116 (dk okd_X12_isArea 5 rfl) ?_
        refine s_callS (As := [.long (Int32.toInt64 p3), .long (Int32.toInt64 (p1 + 1)), .long 30]) (rest := []) X E ms_X12_53 (c_X12_inRange S (Int32.toInt64 p3) (Int32.toInt64 (p1 + 1)) 30) rfl (ta0) rfl rfl (Nat.le_of_ble_eq_true rfl) (Nat.le_of_ble_eq_true rfl) (Nat.le_of_ble_eq_true rfl) (dk okd_X12_isArea 6 rfl) (st' := fun v5 => [.int v5]) (fun _ => rfl) (fun v5 => ?_)
        refine s_if_eq (tgt := 42) X (dk okd_X12_isArea 7 rfl) (by decide) ?_ ?_
        · exact s_less [false, false, false, false] rfl (h3)
        · refine s_run X ok_X12_isArea 14 2 (pc' := 43) (vs' := [some (.int p0), some (.int p1), some (.int p2), some (.int p3)]) (st' := [.int 1]) rfl ?_
          exact s_zret0 X hr (dk okd_X12_isArea 8 rfl) (by decide) rfl rfl
def tab_X12_give : List En := [(0, 0, 0, 0), (1, 10, 2, 0), (2, 4, 2, 0), (3, 2, 0, 900), (9, 8, 0, 0), (13, 4, 2, 0), (18, 8, 0, 0), (22, 2, 0, 250), (25, 4, 2, 0), (26, 17, 0, 0), (27, 4, 1, 0), (28, 31, 0, 0), (30, 16, 2, 1), (33, 41, 2, 0)]
theorem ok_X12_give : tab_X12_give.all (okE cX12_give) = true := by decide +kernel
def ed_X12_give : List (Nat × Instr × Nat) := [(6, .if_icmp .ge 30, 3), (10, .getfield 20, 3), (14, .baload, 1), (15, .ifCond .eq 15, 3), (19, .getfield 9, 3), (29, .lastore, 1), (36, .return_, 1)]
theorem okd_X12_give : ed_X12_give.all (okD cX12_give) = true := by decide +kernel
def f_X12_give (S : St) (p0 : Nat) (p1 : Int32) : Option (St) := lp (κ := Int32 → St → Option (St)) (fun _ _ => none) (fun k3 x1 S2 => if 900 ≤ x1 then (some S2) else (lt (gR S2 p0 4) fun (a5 : Nat) => ldI S2 a5 x1 fun (v7 : Int32) => jn (κ := St → Option (St)) (fun S8 => k3 (x1 + 1) S8) fun k9 => if v7 = 0 then (k9 S2) else (lt (gR S2 p0 0) fun (a11 : Nat) => stJ S2 a11 (250 + x1) (Int32.toInt64 p1) fun (S13 : St) => k9 S13))) FU 0 S
set_option maxHeartbeats 4000000 in
set_option maxRecDepth 100000 in
theorem c_X12_give (S : St) (p0 : Nat) (p1 : Int32) : Ct yX12_give cX12_give 3 none 0 0 (fun _ => [.ref p0, .int p1]) [(p0, 11)] S (f_X12_give S p0 p1) oV sV := by
  refine Ct_of RX12 rfl (by decide) (fun _ => Nat.le_of_ble_eq_true rfl) 1 (vs := fun _ => [some (.ref p0), some (.int p1), none]) (fun _ => rfl) (fun C X E hr ht => ?_)
  have t0_ : tT C p0 11 := ht (p0, 11) (by simp)
  show Jd C 3 (QJ C oV sV) S 0 [some (.ref p0), some (.int p1), none] [] (f_X12_give S p0 p1)
  unfold f_X12_give
  refine s_run X ok_X12_give 0 2 (pc' := 2) (vs' := [some (.ref p0), some (.int p1), some (.int 0)]) (st' := []) rfl ?_
  refine s_lp (κ := Int32 → St → Option (St)) (fun k3 => ∀ (x1 : Int32) (S2 : St), Jd C 3 (QJ C oV sV) S2 2 [some (.ref p0), some (.int p1), some (.int x1)] [] (k3 x1 S2)) (fun _ _ => s_none) (fun k3 h4 x1 S2 => ?_) FU 0 S
  refine s_run X ok_X12_give 2 2 (pc' := 6) (vs' := [some (.ref p0), some (.int p1), some (.int x1)]) (st' := [.int 900, .int x1]) rfl ?_
  refine s_icmp_ge (tgt := 36) X (dk okd_X12_give 0 rfl) (by decide) ?_ ?_
  · exact s_vret X hr (dk okd_X12_give 6 rfl) rfl rfl
  · refine s_run X ok_X12_give 4 1 (pc' := 10) (vs' := [some (.ref p0), some (.int p1), some (.int x1)]) (st' := [.ref p0]) rfl ?_
    refine s_getR X fl_X12_20 t0_ (dk okd_X12_give 1 rfl) (fun a5 (t6 : tT C a5 15) => ?_)
    refine s_run X ok_X12_give 5 1 (pc' := 14) (vs' := [some (.ref p0), some (.int p1), some (.int x1)]) (st' := [.int x1, .ref a5]) rfl ?_
    refine s_zald X t6 (dk okd_X12_give 2 rfl) (fun v7 => ?_)
    refine s_jn (κ := St → Option (St)) (fun k9 => ∀ (S8 : St), Jd C 3 (QJ C oV sV) S8 30 [some (.ref p0), some (.int p1), some (.int x1)] [] (k9 S8)) (fun S8 => ?_) (fun k9 h10 => ?_)
    · refine s_run X ok_X12_give 12 2 (pc' := 2) (vs' := [some (.ref p0), some (.int p1), some (.int (x1 + 1))]) (st' := []) rfl ?_
      exact h4 (x1 + 1) S8
    · refine s_if_eq (tgt := 30) X (dk okd_X12_give 3 rfl) (by decide) ?_ ?_
      · exact h10 S2
      · refine s_run X ok_X12_give 6 1 (pc' := 19) (vs' := [some (.ref p0), some (.int p1), some (.int x1)]) (st' := [.ref p0]) rfl ?_
        refine s_getR X fl_X12_9 t0_ (dk okd_X12_give 4 rfl) (fun a11 (t12 : tT C a11 14) => ?_)
        refine s_run X ok_X12_give 7 5 (pc' := 29) (vs' := [some (.ref p0), some (.int p1), some (.int x1)]) (st' := [.long (Int32.toInt64 p1), .int (250 + x1), .ref a11]) rfl ?_
        refine s_last X t12 (dk okd_X12_give 5 rfl) (fun S13 => ?_)
        exact h10 S13
