theorem mv_L_15 : MV RL 15 yX11_owner cX11_owner 3 (some .int) 2 := ⟨TT_5 (i := 136) rfl rfl, TT_5 (i := 137) rfl rfl, TT_5 (i := 138) rfl rfl, TT_1 (i := 1) rfl rfl, TT_5 (i := 139) rfl rfl, ⟨by decide, by decide, by decide +kernel⟩⟩
theorem mv_L_19 : MV RL 19 yX11_area cX11_area 2 (some .int) 1 := ⟨TT_5 (i := 146) rfl rfl, TT_5 (i := 147) rfl rfl, TT_5 (i := 148) rfl rfl, TT_1 (i := 1) rfl rfl, TT_5 (i := 149) rfl rfl, ⟨by decide, by decide, by decide +kernel⟩⟩
theorem mv_L_24 : MV RL 24 yX11_perimeter cX11_perimeter 2 (some .int) 1 := ⟨TT_5 (i := 178) rfl rfl, TT_5 (i := 179) rfl rfl, TT_5 (i := 180) rfl rfl, TT_1 (i := 1) rfl rfl, TT_5 (i := 181) rfl rfl, ⟨by decide, by decide, by decide +kernel⟩⟩
theorem mv_L_27 : MV RL 27 yX11_border cX11_border 3 (some .int) 2 := ⟨TT_5 (i := 193) rfl rfl, TT_5 (i := 194) rfl rfl, TT_5 (i := 195) rfl rfl, TT_1 (i := 1) rfl rfl, TT_5 (i := 196) rfl rfl, ⟨by decide, by decide, by decide +kernel⟩⟩
theorem mv_L_30 : MV RL 30 yX11_isConnected cX11_isConnected 2 (some .boolean) 1 := ⟨TT_5 (i := 204) rfl rfl, TT_5 (i := 205) rfl rfl, TT_5 (i := 206) rfl rfl, TT_1 (i := 1) rfl rfl, TT_5 (i := 207) rfl rfl, ⟨by decide, by decide, by decide +kernel⟩⟩
theorem mv_L_34 : MV RL 34 yX11_distance cX11_distance 4 (some .int) 3 := ⟨TT_5 (i := 220) rfl rfl, TT_5 (i := 221) rfl rfl, TT_5 (i := 222) rfl rfl, TT_1 (i := 1) rfl rfl, TT_5 (i := 223) rfl rfl, ⟨by decide, by decide, by decide +kernel⟩⟩
theorem mv_L_38 : MV RL 38 yX11_cede cX11_cede 8 (some .int) 6 := ⟨TT_5 (i := 233) rfl rfl, TT_5 (i := 234) rfl rfl, TT_5 (i := 235) rfl rfl, TT_1 (i := 1) rfl rfl, TT_5 (i := 236) rfl rfl, ⟨by decide, by decide, by decide +kernel⟩⟩
theorem mv_L_42 : MV RL 42 yX11_outletOwner cX11_outletOwner 2 (some .int) 1 := ⟨TT_6 (i := 7) rfl rfl, TT_6 (i := 8) rfl rfl, TT_6 (i := 9) rfl rfl, TT_1 (i := 1) rfl rfl, TT_6 (i := 10) rfl rfl, ⟨by decide, by decide, by decide +kernel⟩⟩
theorem mv_L_45 : MV RL 45 yX11_outletCell cX11_outletCell 2 (some .int) 1 := ⟨TT_6 (i := 20) rfl rfl, TT_6 (i := 21) rfl rfl, TT_6 (i := 22) rfl rfl, TT_1 (i := 1) rfl rfl, TT_6 (i := 23) rfl rfl, ⟨by decide, by decide, by decide +kernel⟩⟩
theorem mv_L_48 : MV RL 48 yX11_openOutlet cX11_openOutlet 4 (some .int) 3 := ⟨TT_6 (i := 30) rfl rfl, TT_6 (i := 31) rfl rfl, TT_6 (i := 32) rfl rfl, TT_1 (i := 1) rfl rfl, TT_6 (i := 33) rfl rfl, ⟨by decide, by decide, by decide +kernel⟩⟩
theorem mv_L_51 : MV RL 51 yX11_bestSite cX11_bestSite 2 (some .int) 1 := ⟨TT_6 (i := 39) rfl rfl, TT_6 (i := 40) rfl rfl, TT_6 (i := 41) rfl rfl, TT_1 (i := 1) rfl rfl, TT_6 (i := 42) rfl rfl, ⟨by decide, by decide, by decide +kernel⟩⟩
theorem mv_L_54 : MV RL 54 yX11_coverage cX11_coverage 3 (some .int) 2 := ⟨TT_6 (i := 51) rfl rfl, TT_6 (i := 52) rfl rfl, TT_6 (i := 53) rfl rfl, TT_1 (i := 1) rfl rfl, TT_6 (i := 54) rfl rfl, ⟨by decide, by decide, by decide +kernel⟩⟩
theorem mv_L_57 : MV RL 57 yX11_rivalCells cX11_rivalCells 3 (some .int) 2 := ⟨TT_6 (i := 62) rfl rfl, TT_6 (i := 63) rfl rfl, TT_6 (i := 64) rfl rfl, TT_1 (i := 1) rfl rfl, TT_6 (i := 65) rfl rfl, ⟨by decide, by decide, by decide +kernel⟩⟩
theorem mv_L_60 : MV RL 60 yX11_halvingLine cX11_halvingLine 2 (some .int) 1 := ⟨TT_6 (i := 73) rfl rfl, TT_6 (i := 74) rfl rfl, TT_6 (i := 75) rfl rfl, TT_1 (i := 1) rfl rfl, TT_6 (i := 76) rfl rfl, ⟨by decide, by decide, by decide +kernel⟩⟩
theorem mv_L_63 : MV RL 63 yX11_royalty cX11_royalty 4 (some .long) 2 := ⟨TT_6 (i := 88) rfl rfl, TT_6 (i := 89) rfl rfl, TT_6 (i := 90) rfl rfl, TT_1 (i := 1) rfl rfl, TT_6 (i := 91) rfl rfl, ⟨by decide, by decide, by decide +kernel⟩⟩
theorem mv_L_67 : MV RL 67 yX11_planOf cX11_planOf 2 (some .int) 1 := ⟨TT_6 (i := 102) rfl rfl, TT_6 (i := 103) rfl rfl, TT_6 (i := 104) rfl rfl, TT_1 (i := 1) rfl rfl, TT_6 (i := 105) rfl rfl, ⟨by decide, by decide, by decide +kernel⟩⟩
theorem mv_L_7 : MV RL 7 yX11_runJournal cX11_runJournal 5 (some .int) 1 := ⟨TT_4 (i := 133) rfl rfl, TT_4 (i := 134) rfl rfl, TT_4 (i := 135) rfl rfl, TT_1 (i := 1) rfl rfl, TT_4 (i := 136) rfl rfl, ⟨by decide, by decide, by decide +kernel⟩⟩
theorem mv_L_70 : MV RL 70 yX11_setPlan cX11_setPlan 4 (some .int) 2 := ⟨TT_6 (i := 109) rfl rfl, TT_6 (i := 110) rfl rfl, TT_6 (i := 111) rfl rfl, TT_1 (i := 1) rfl rfl, TT_6 (i := 112) rfl rfl, ⟨by decide, by decide, by decide +kernel⟩⟩
theorem mv_L_73 : MV RL 73 yX11_cheapestPlan cX11_cheapestPlan 2 (some .int) 1 := ⟨TT_6 (i := 116) rfl rfl, TT_6 (i := 117) rfl rfl, TT_6 (i := 118) rfl rfl, TT_1 (i := 1) rfl rfl, TT_6 (i := 119) rfl rfl, ⟨by decide, by decide, by decide +kernel⟩⟩
theorem mv_L_76 : MV RL 76 yX11_reportSales cX11_reportSales 4 (some .long) 2 := ⟨TT_6 (i := 132) rfl rfl, TT_6 (i := 133) rfl rfl, TT_6 (i := 134) rfl rfl, TT_1 (i := 1) rfl rfl, TT_6 (i := 135) rfl rfl, ⟨by decide, by decide, by decide +kernel⟩⟩
theorem mv_L_81 : MV RL 81 yX11_deliver cX11_deliver 6 (some .long) 4 := ⟨TT_6 (i := 162) rfl rfl, TT_6 (i := 163) rfl rfl, TT_6 (i := 164) rfl rfl, TT_1 (i := 1) rfl rfl, TT_6 (i := 165) rfl rfl, ⟨by decide, by decide, by decide +kernel⟩⟩
theorem mv_L_85 : MV RL 85 yX11_sales cX11_sales 2 (some .long) 1 := ⟨TT_6 (i := 170) rfl rfl, TT_6 (i := 171) rfl rfl, TT_6 (i := 172) rfl rfl, TT_1 (i := 1) rfl rfl, TT_6 (i := 173) rfl rfl, ⟨by decide, by decide, by decide +kernel⟩⟩
theorem mv_L_89 : MV RL 89 yX11_salesOf cX11_salesOf 3 (some .long) 2 := ⟨TT_6 (i := 177) rfl rfl, TT_6 (i := 178) rfl rfl, TT_6 (i := 179) rfl rfl, TT_1 (i := 1) rfl rfl, TT_6 (i := 180) rfl rfl, ⟨by decide, by decide, by decide +kernel⟩⟩
theorem mv_L_93 : MV RL 93 yX11_creditDue cX11_creditDue 3 (some .long) 2 := ⟨TT_6 (i := 190) rfl rfl, TT_6 (i := 191) rfl rfl, TT_6 (i := 192) rfl rfl, TT_1 (i := 1) rfl rfl, TT_6 (i := 193) rfl rfl, ⟨by decide, by decide, by decide +kernel⟩⟩
def tab_L_runJournal : List En := [(0, 8, 2, 0), (1, 0, 0, 0), (2, 8, 0, 0), (3, 4, 1, 0), (7, 31, 0, 0), (9, 41, 15, 0), (12, 14, 3, 0), (13, 0, 0, 1), (15, 0, 0, 0)]
theorem ok_L_runJournal : tab_L_runJournal.all (okE cL_runJournal) = true := by decide +kernel
def ed_L_runJournal : List (Nat × Instr × Nat) := [(4, .invokevirtual 7, 3), (8, .lastore, 1), (14, .ireturn, 1), (16, .ireturn, 1)]
theorem okd_L_runJournal : ed_L_runJournal.all (okD cL_runJournal) = true := by decide +kernel
def f_L_runJournal (S : St) (p0 : Nat) (p1 : Int32) (p2 : Nat) : Option (Int32 × St × Nat) := clc (f_X11_runJournal S p0 p1) (fun (o1 : Int32 × St) => stJ o1.2 p2 0 (Int32.toInt64 o1.1) fun (S2 : St) => some (0, S2, 0)) (fun n => if n = 2 then some (1, S, 1) else none)
theorem hc_L_runJournal_2 : HC RL cL_runJournal 4 [(0, 9, 12, 13)] 4 2 1 := ⟨[], (0, 9, 12, 13), [], 3, 1, 13, 1, rfl, (fun z hz => absurd hz List.not_mem_nil), by decide, by decide, TT_4 (i := 132) rfl rfl, List.mem_filter.mpr ⟨lw_4 (List.mem_of_getElem? (i := 142) rfl), rfl⟩, Or.inl ⟨by decide +kernel, by decide, rfl⟩, by decide, rfl, by decide +kernel, by decide, by decide +kernel⟩
set_option maxHeartbeats 4000000 in
set_option maxRecDepth 100000 in
theorem c_L_runJournal (S : St) (p0 : Nat) (p1 : Int32) (p2 : Nat) : CtL yL_runJournal cL_runJournal 4 [(0, 9, 12, 13)] 8 162 [.ref p0, .int p1, .ref p2] [(p0, 10), (p2, 14)] S (f_L_runJournal S p0 p1 p2) := by
  refine CtL_of RL rfl (by decide) (Nat.le_of_ble_eq_true rfl) 1 (vs := [some (.ref p0), some (.int p1), some (.ref p2), none]) rfl (fun C X E hr tl ht => ?_)
  have t0_ : tT C p0 10 := ht (p0, 10) (by simp)
  have t2_ : tT C p2 14 := ht (p2, 14) (by simp)
  unfold f_L_runJournal
  refine s_run X ok_L_runJournal 0 4 (pc' := 4) (vs' := [some (.ref p0), some (.int p1), some (.ref p2), none]) (st' := [.int p1, .ref p0, .int 0, .ref p2]) rfl ?_
  refine s_callVC (hh := [(0, 9, 12, 13)]) (b := p0) (As := [.int p1]) (rest := [.int 0, .ref p2]) X E hr tl mv_L_7 (c_X11_runJournal S p0 p1) rfl (ta1 t0_) rfl (by decide) t0_ rfl rfl (Nat.le_of_ble_eq_true rfl) (Nat.le_of_ble_eq_true rfl) (Nat.le_of_ble_eq_true rfl) (dk okd_L_runJournal 0 rfl) (fun j o h => by
      by_cases e2 : j = 2
      · subst e2
        have h : some ((1 : Int32), S, 1) = some o := h
        cases h
        exact ⟨_, rfl, hc_L_runJournal_2⟩
      simp [e2] at h) (st' := fun o1 => [.int o1.1, .int 0, .ref p2]) (fun _ => rfl) (fun o1 => ?_)
  refine s_run X ok_L_runJournal 4 1 (pc' := 8) (vs' := [some (.ref p0), some (.int p1), some (.ref p2), none]) (st' := [.long (Int32.toInt64 o1.1), .int 0, .ref p2]) rfl ?_
  refine s_last X t2_ (dk okd_L_runJournal 1 rfl) (fun S2 => ?_)
  refine s_run X ok_L_runJournal 5 1 (pc' := 15) (vs' := [some (.ref p0), some (.int p1), some (.ref p2), none]) (st' := []) rfl ?_
  refine s_run X ok_L_runJournal 8 1 (pc' := 16) (vs' := [some (.ref p0), some (.int p1), some (.ref p2), none]) (st' := [.int 0]) rfl ?_
  exact s_iretL X hr tl (dk okd_L_runJournal 3 rfl)
def tab_L_owner : List En := [(0, 8, 3, 0), (1, 0, 0, 0), (2, 8, 0, 0), (3, 4, 1, 0), (4, 4, 2, 0), (8, 31, 0, 0), (10, 41, 17, 0), (13, 15, 4, 0), (15, 0, 0, 1), (17, 0, 0, 0)]
theorem ok_L_owner : tab_L_owner.all (okE cL_owner) = true := by decide +kernel
def ed_L_owner : List (Nat × Instr × Nat) := [(5, .invokevirtual 15, 3), (9, .lastore, 1), (16, .ireturn, 1), (18, .ireturn, 1)]
theorem okd_L_owner : ed_L_owner.all (okD cL_owner) = true := by decide +kernel
def f_L_owner (S : St) (p0 : Nat) (p1 : Int32) (p2 : Int32) (p3 : Nat) : Option (Int32 × St × Nat) := clc (f_X11_owner S p0 p1 p2) (fun (v1 : Int32) => stJ S p3 0 (Int32.toInt64 v1) fun (S2 : St) => some (0, S2, 0)) (fun n => if n = 2 then some (1, S, 1) else none)
theorem hc_L_owner_2 : HC RL cL_owner 5 [(0, 10, 13, 13)] 5 2 1 := ⟨[], (0, 10, 13, 13), [], 4, 2, 15, 1, rfl, (fun z hz => absurd hz List.not_mem_nil), by decide, by decide, TT_4 (i := 132) rfl rfl, List.mem_filter.mpr ⟨lw_4 (List.mem_of_getElem? (i := 142) rfl), rfl⟩, Or.inr ⟨by decide +kernel, rfl⟩, by decide, rfl, by decide +kernel, by decide, by decide +kernel⟩
set_option maxHeartbeats 4000000 in
set_option maxRecDepth 100000 in
theorem c_L_owner (S : St) (p0 : Nat) (p1 : Int32) (p2 : Int32) (p3 : Nat) : CtL yL_owner cL_owner 5 [(0, 10, 13, 13)] 8 132 [.ref p0, .int p1, .int p2, .ref p3] [(p0, 10), (p3, 14)] S (f_L_owner S p0 p1 p2 p3) := by
  refine CtL_of RL rfl (by decide) (Nat.le_of_ble_eq_true rfl) 1 (vs := [some (.ref p0), some (.int p1), some (.int p2), some (.ref p3), none]) rfl (fun C X E hr tl ht => ?_)
  have t0_ : tT C p0 10 := ht (p0, 10) (by simp)
  have t3_ : tT C p3 14 := ht (p3, 14) (by simp)
  unfold f_L_owner
  refine s_run X ok_L_owner 0 5 (pc' := 5) (vs' := [some (.ref p0), some (.int p1), some (.int p2), some (.ref p3), none]) (st' := [.int p2, .int p1, .ref p0, .int 0, .ref p3]) rfl ?_
  refine s_callVC (hh := [(0, 10, 13, 13)]) (b := p0) (As := [.int p1, .int p2]) (rest := [.int 0, .ref p3]) X E hr tl mv_L_15 (c_X11_owner S p0 p1 p2) rfl (ta1 t0_) rfl (by decide) t0_ rfl rfl (Nat.le_of_ble_eq_true rfl) (Nat.le_of_ble_eq_true rfl) (Nat.le_of_ble_eq_true rfl) (dk okd_L_owner 0 rfl) (fun j o h => by
      by_cases e2 : j = 2
      · subst e2
        have h : some ((1 : Int32), S, 1) = some o := h
        cases h
        exact ⟨_, rfl, hc_L_owner_2⟩
      simp [e2] at h) (st' := fun v1 => [.int v1, .int 0, .ref p3]) (fun _ => rfl) (fun v1 => ?_)
  refine s_run X ok_L_owner 5 1 (pc' := 9) (vs' := [some (.ref p0), some (.int p1), some (.int p2), some (.ref p3), none]) (st' := [.long (Int32.toInt64 v1), .int 0, .ref p3]) rfl ?_
  refine s_last X t3_ (dk okd_L_owner 1 rfl) (fun S2 => ?_)
  refine s_run X ok_L_owner 6 1 (pc' := 17) (vs' := [some (.ref p0), some (.int p1), some (.int p2), some (.ref p3), none]) (st' := []) rfl ?_
  refine s_run X ok_L_owner 9 1 (pc' := 18) (vs' := [some (.ref p0), some (.int p1), some (.int p2), some (.ref p3), none]) (st' := [.int 0]) rfl ?_
  exact s_iretL X hr tl (dk okd_L_owner 3 rfl)
def tab_L_area : List En := [(0, 8, 2, 0), (1, 0, 0, 0), (2, 8, 0, 0), (3, 4, 1, 0), (7, 31, 0, 0), (9, 41, 15, 0), (12, 14, 3, 0), (13, 0, 0, 1), (15, 0, 0, 0)]
theorem ok_L_area : tab_L_area.all (okE cL_area) = true := by decide +kernel
def ed_L_area : List (Nat × Instr × Nat) := [(4, .invokevirtual 19, 3), (8, .lastore, 1), (14, .ireturn, 1), (16, .ireturn, 1)]
theorem okd_L_area : ed_L_area.all (okD cL_area) = true := by decide +kernel
def f_L_area (S : St) (p0 : Nat) (p1 : Int32) (p2 : Nat) : Option (Int32 × St × Nat) := clc (f_X11_area S p0 p1) (fun (v1 : Int32) => stJ S p2 0 (Int32.toInt64 v1) fun (S2 : St) => some (0, S2, 0)) (fun n => if n = 1 then some (1, S, 1) else none)
theorem hc_L_area_1 : HC RL cL_area 4 [(0, 9, 12, 22)] 4 1 1 := ⟨[], (0, 9, 12, 22), [], 3, 1, 13, 1, rfl, (fun z hz => absurd hz List.not_mem_nil), by decide, by decide, TT_5 (i := 145) rfl rfl, List.mem_filter.mpr ⟨lw_5 (List.mem_of_getElem? (i := 157) rfl), rfl⟩, Or.inl ⟨by decide +kernel, by decide, rfl⟩, by decide, rfl, by decide +kernel, by decide, by decide +kernel⟩
set_option maxHeartbeats 4000000 in
set_option maxRecDepth 100000 in
theorem c_L_area (S : St) (p0 : Nat) (p1 : Int32) (p2 : Nat) : CtL yL_area cL_area 4 [(0, 9, 12, 22)] 8 132 [.ref p0, .int p1, .ref p2] [(p0, 10), (p2, 14)] S (f_L_area S p0 p1 p2) := by
  refine CtL_of RL rfl (by decide) (Nat.le_of_ble_eq_true rfl) 1 (vs := [some (.ref p0), some (.int p1), some (.ref p2), none]) rfl (fun C X E hr tl ht => ?_)
  have t0_ : tT C p0 10 := ht (p0, 10) (by simp)
  have t2_ : tT C p2 14 := ht (p2, 14) (by simp)
  unfold f_L_area
  refine s_run X ok_L_area 0 4 (pc' := 4) (vs' := [some (.ref p0), some (.int p1), some (.ref p2), none]) (st' := [.int p1, .ref p0, .int 0, .ref p2]) rfl ?_
  refine s_callVC (hh := [(0, 9, 12, 22)]) (b := p0) (As := [.int p1]) (rest := [.int 0, .ref p2]) X E hr tl mv_L_19 (c_X11_area S p0 p1) rfl (ta1 t0_) rfl (by decide) t0_ rfl rfl (Nat.le_of_ble_eq_true rfl) (Nat.le_of_ble_eq_true rfl) (Nat.le_of_ble_eq_true rfl) (dk okd_L_area 0 rfl) (fun j o h => by
      by_cases e1 : j = 1
      · subst e1
        have h : some ((1 : Int32), S, 1) = some o := h
        cases h
        exact ⟨_, rfl, hc_L_area_1⟩
      simp [e1] at h) (st' := fun v1 => [.int v1, .int 0, .ref p2]) (fun _ => rfl) (fun v1 => ?_)
  refine s_run X ok_L_area 4 1 (pc' := 8) (vs' := [some (.ref p0), some (.int p1), some (.ref p2), none]) (st' := [.long (Int32.toInt64 v1), .int 0, .ref p2]) rfl ?_
  refine s_last X t2_ (dk okd_L_area 1 rfl) (fun S2 => ?_)
  refine s_run X ok_L_area 5 1 (pc' := 15) (vs' := [some (.ref p0), some (.int p1), some (.ref p2), none]) (st' := []) rfl ?_
  refine s_run X ok_L_area 8 1 (pc' := 16) (vs' := [some (.ref p0), some (.int p1), some (.ref p2), none]) (st' := [.int 0]) rfl ?_
  exact s_iretL X hr tl (dk okd_L_area 3 rfl)
def tab_L_perimeter : List En := [(0, 8, 2, 0), (1, 0, 0, 0), (2, 8, 0, 0), (3, 4, 1, 0), (7, 31, 0, 0), (9, 41, 15, 0), (12, 14, 3, 0), (13, 0, 0, 1), (15, 0, 0, 0)]
theorem ok_L_perimeter : tab_L_perimeter.all (okE cL_perimeter) = true := by decide +kernel
def ed_L_perimeter : List (Nat × Instr × Nat) := [(4, .invokevirtual 24, 3), (8, .lastore, 1), (14, .ireturn, 1), (16, .ireturn, 1)]
theorem okd_L_perimeter : ed_L_perimeter.all (okD cL_perimeter) = true := by decide +kernel
def f_L_perimeter (S : St) (p0 : Nat) (p1 : Int32) (p2 : Nat) : Option (Int32 × St × Nat) := clc (f_X11_perimeter S p0 p1) (fun (v1 : Int32) => stJ S p2 0 (Int32.toInt64 v1) fun (S2 : St) => some (0, S2, 0)) (fun n => if n = 1 then some (1, S, 1) else none)
theorem hc_L_perimeter_1 : HC RL cL_perimeter 4 [(0, 9, 12, 22)] 4 1 1 := ⟨[], (0, 9, 12, 22), [], 3, 1, 13, 1, rfl, (fun z hz => absurd hz List.not_mem_nil), by decide, by decide, TT_5 (i := 145) rfl rfl, List.mem_filter.mpr ⟨lw_5 (List.mem_of_getElem? (i := 157) rfl), rfl⟩, Or.inl ⟨by decide +kernel, by decide, rfl⟩, by decide, rfl, by decide +kernel, by decide, by decide +kernel⟩
set_option maxHeartbeats 4000000 in
set_option maxRecDepth 100000 in
theorem c_L_perimeter (S : St) (p0 : Nat) (p1 : Int32) (p2 : Nat) : CtL yL_perimeter cL_perimeter 4 [(0, 9, 12, 22)] 8 132 [.ref p0, .int p1, .ref p2] [(p0, 10), (p2, 14)] S (f_L_perimeter S p0 p1 p2) := by
  refine CtL_of RL rfl (by decide) (Nat.le_of_ble_eq_true rfl) 1 (vs := [some (.ref p0), some (.int p1), some (.ref p2), none]) rfl (fun C X E hr tl ht => ?_)
  have t0_ : tT C p0 10 := ht (p0, 10) (by simp)
  have t2_ : tT C p2 14 := ht (p2, 14) (by simp)
  unfold f_L_perimeter
  refine s_run X ok_L_perimeter 0 4 (pc' := 4) (vs' := [some (.ref p0), some (.int p1), some (.ref p2), none]) (st' := [.int p1, .ref p0, .int 0, .ref p2]) rfl ?_
  refine s_callVC (hh := [(0, 9, 12, 22)]) (b := p0) (As := [.int p1]) (rest := [.int 0, .ref p2]) X E hr tl mv_L_24 (c_X11_perimeter S p0 p1) rfl (ta1 t0_) rfl (by decide) t0_ rfl rfl (Nat.le_of_ble_eq_true rfl) (Nat.le_of_ble_eq_true rfl) (Nat.le_of_ble_eq_true rfl) (dk okd_L_perimeter 0 rfl) (fun j o h => by
      by_cases e1 : j = 1
      · subst e1
        have h : some ((1 : Int32), S, 1) = some o := h
        cases h
        exact ⟨_, rfl, hc_L_perimeter_1⟩
      simp [e1] at h) (st' := fun v1 => [.int v1, .int 0, .ref p2]) (fun _ => rfl) (fun v1 => ?_)
  refine s_run X ok_L_perimeter 4 1 (pc' := 8) (vs' := [some (.ref p0), some (.int p1), some (.ref p2), none]) (st' := [.long (Int32.toInt64 v1), .int 0, .ref p2]) rfl ?_
  refine s_last X t2_ (dk okd_L_perimeter 1 rfl) (fun S2 => ?_)
  refine s_run X ok_L_perimeter 5 1 (pc' := 15) (vs' := [some (.ref p0), some (.int p1), some (.ref p2), none]) (st' := []) rfl ?_
  refine s_run X ok_L_perimeter 8 1 (pc' := 16) (vs' := [some (.ref p0), some (.int p1), some (.ref p2), none]) (st' := [.int 0]) rfl ?_
  exact s_iretL X hr tl (dk okd_L_perimeter 3 rfl)
def tab_L_border : List En := [(0, 8, 3, 0), (1, 0, 0, 0), (2, 8, 0, 0), (3, 4, 1, 0), (4, 4, 2, 0), (8, 31, 0, 0), (10, 41, 17, 0), (13, 15, 4, 0), (15, 0, 0, 1), (17, 0, 0, 0)]
theorem ok_L_border : tab_L_border.all (okE cL_border) = true := by decide +kernel
def ed_L_border : List (Nat × Instr × Nat) := [(5, .invokevirtual 27, 3), (9, .lastore, 1), (16, .ireturn, 1), (18, .ireturn, 1)]
theorem okd_L_border : ed_L_border.all (okD cL_border) = true := by decide +kernel
def f_L_border (S : St) (p0 : Nat) (p1 : Int32) (p2 : Int32) (p3 : Nat) : Option (Int32 × St × Nat) := clc (f_X11_border S p0 p1 p2) (fun (v1 : Int32) => stJ S p3 0 (Int32.toInt64 v1) fun (S2 : St) => some (0, S2, 0)) (fun n => if n = 1 then some (1, S, 1) else none)
theorem hc_L_border_1 : HC RL cL_border 5 [(0, 10, 13, 22)] 5 1 1 := ⟨[], (0, 10, 13, 22), [], 4, 2, 15, 1, rfl, (fun z hz => absurd hz List.not_mem_nil), by decide, by decide, TT_5 (i := 145) rfl rfl, List.mem_filter.mpr ⟨lw_5 (List.mem_of_getElem? (i := 157) rfl), rfl⟩, Or.inr ⟨by decide +kernel, rfl⟩, by decide, rfl, by decide +kernel, by decide, by decide +kernel⟩
set_option maxHeartbeats 4000000 in
set_option maxRecDepth 100000 in
theorem c_L_border (S : St) (p0 : Nat) (p1 : Int32) (p2 : Int32) (p3 : Nat) : CtL yL_border cL_border 5 [(0, 10, 13, 22)] 8 133 [.ref p0, .int p1, .int p2, .ref p3] [(p0, 10), (p3, 14)] S (f_L_border S p0 p1 p2 p3) := by
  refine CtL_of RL rfl (by decide) (Nat.le_of_ble_eq_true rfl) 1 (vs := [some (.ref p0), some (.int p1), some (.int p2), some (.ref p3), none]) rfl (fun C X E hr tl ht => ?_)
  have t0_ : tT C p0 10 := ht (p0, 10) (by simp)
  have t3_ : tT C p3 14 := ht (p3, 14) (by simp)
  unfold f_L_border
  refine s_run X ok_L_border 0 5 (pc' := 5) (vs' := [some (.ref p0), some (.int p1), some (.int p2), some (.ref p3), none]) (st' := [.int p2, .int p1, .ref p0, .int 0, .ref p3]) rfl ?_
  refine s_callVC (hh := [(0, 10, 13, 22)]) (b := p0) (As := [.int p1, .int p2]) (rest := [.int 0, .ref p3]) X E hr tl mv_L_27 (c_X11_border S p0 p1 p2) rfl (ta1 t0_) rfl (by decide) t0_ rfl rfl (Nat.le_of_ble_eq_true rfl) (Nat.le_of_ble_eq_true rfl) (Nat.le_of_ble_eq_true rfl) (dk okd_L_border 0 rfl) (fun j o h => by
      by_cases e1 : j = 1
      · subst e1
        have h : some ((1 : Int32), S, 1) = some o := h
        cases h
        exact ⟨_, rfl, hc_L_border_1⟩
      simp [e1] at h) (st' := fun v1 => [.int v1, .int 0, .ref p3]) (fun _ => rfl) (fun v1 => ?_)
  refine s_run X ok_L_border 5 1 (pc' := 9) (vs' := [some (.ref p0), some (.int p1), some (.int p2), some (.ref p3), none]) (st' := [.long (Int32.toInt64 v1), .int 0, .ref p3]) rfl ?_
  refine s_last X t3_ (dk okd_L_border 1 rfl) (fun S2 => ?_)
  refine s_run X ok_L_border 6 1 (pc' := 17) (vs' := [some (.ref p0), some (.int p1), some (.int p2), some (.ref p3), none]) (st' := []) rfl ?_
  refine s_run X ok_L_border 9 1 (pc' := 18) (vs' := [some (.ref p0), some (.int p1), some (.int p2), some (.ref p3), none]) (st' := [.int 0]) rfl ?_
  exact s_iretL X hr tl (dk okd_L_border 3 rfl)
def tab_L_isConnected : List En := [(0, 8, 2, 0), (1, 0, 0, 0), (2, 8, 0, 0), (3, 4, 1, 0), (10, 3, 1, 0), (11, 41, 15, 0), (14, 3, 0, 0), (16, 41, 22, 0), (19, 14, 3, 0), (20, 0, 0, 1), (22, 0, 0, 0)]
theorem ok_L_isConnected : tab_L_isConnected.all (okE cL_isConnected) = true := by decide +kernel
def ed_L_isConnected : List (Nat × Instr × Nat) := [(4, .invokevirtual 30, 3), (7, .ifCond .eq 7, 3), (15, .lastore, 1), (21, .ireturn, 1), (23, .ireturn, 1)]
theorem okd_L_isConnected : ed_L_isConnected.all (okD cL_isConnected) = true := by decide +kernel
def f_L_isConnected (S : St) (p0 : Nat) (p1 : Int32) (p2 : Nat) : Option (Int32 × St × Nat) := clc (f_X11_isConnected S p0 p1) (fun (o1 : Int32 × St) => jn (κ := Int64 → Option (Int32 × St × Nat)) (fun x2 => stJ o1.2 p2 0 x2 fun (S5 : St) => some (0, S5, 0)) fun k3 => if o1.1 = 0 then (k3 0) else (k3 1)) (fun n => if n = 1 then some (1, S, 1) else none)
theorem hc_L_isConnected_1 : HC RL cL_isConnected 4 [(0, 16, 19, 22)] 4 1 1 := ⟨[], (0, 16, 19, 22), [], 3, 1, 20, 1, rfl, (fun z hz => absurd hz List.not_mem_nil), by decide, by decide, TT_5 (i := 145) rfl rfl, List.mem_filter.mpr ⟨lw_5 (List.mem_of_getElem? (i := 157) rfl), rfl⟩, Or.inl ⟨by decide +kernel, by decide, rfl⟩, by decide, rfl, by decide +kernel, by decide, by decide +kernel⟩
set_option maxHeartbeats 4000000 in
set_option maxRecDepth 100000 in
theorem c_L_isConnected (S : St) (p0 : Nat) (p1 : Int32) (p2 : Nat) : CtL yL_isConnected cL_isConnected 4 [(0, 16, 19, 22)] 8 132 [.ref p0, .int p1, .ref p2] [(p0, 10), (p2, 14)] S (f_L_isConnected S p0 p1 p2) := by
  refine CtL_of RL rfl (by decide) (Nat.le_of_ble_eq_true rfl) 1 (vs := [some (.ref p0), some (.int p1), some (.ref p2), none]) rfl (fun C X E hr tl ht => ?_)
  have t0_ : tT C p0 10 := ht (p0, 10) (by simp)
  have t2_ : tT C p2 14 := ht (p2, 14) (by simp)
  unfold f_L_isConnected
  refine s_run X ok_L_isConnected 0 4 (pc' := 4) (vs' := [some (.ref p0), some (.int p1), some (.ref p2), none]) (st' := [.int p1, .ref p0, .int 0, .ref p2]) rfl ?_
  refine s_callVC (hh := [(0, 16, 19, 22)]) (b := p0) (As := [.int p1]) (rest := [.int 0, .ref p2]) X E hr tl mv_L_30 (c_X11_isConnected S p0 p1) rfl (ta1 t0_) rfl (by decide) t0_ rfl rfl (Nat.le_of_ble_eq_true rfl) (Nat.le_of_ble_eq_true rfl) (Nat.le_of_ble_eq_true rfl) (dk okd_L_isConnected 0 rfl) (fun j o h => by
      by_cases e1 : j = 1
      · subst e1
        have h : some ((1 : Int32), S, 1) = some o := h
        cases h
        exact ⟨_, rfl, hc_L_isConnected_1⟩
      simp [e1] at h) (st' := fun o1 => [.int o1.1, .int 0, .ref p2]) (fun _ => rfl) (fun o1 => ?_)
  refine s_jn (κ := Int64 → Option (Int32 × St × Nat)) (fun k3 => ∀ (x2 : Int64), Jd C 4 (QL C) o1.2 15 [none, none, none, none] [.long x2, .int 0, .ref p2] (k3 x2)) (fun x2 => ?_) (fun k3 h4 => ?_)
  · refine s_last X t2_ (dk okd_L_isConnected 2 rfl) (fun S5 => ?_)
    refine s_run X ok_L_isConnected 7 1 (pc' := 22) (vs' := [none, none, none, none]) (st' := []) rfl ?_
    refine s_run X ok_L_isConnected 10 1 (pc' := 23) (vs' := [none, none, none, none]) (st' := [.int 0]) rfl ?_
    exact s_iretL X hr tl (dk okd_L_isConnected 4 rfl)
  · refine s_if_eq (tgt := 14) X (dk okd_L_isConnected 1 rfl) (by decide) ?_ ?_
    · refine s_run X ok_L_isConnected 6 1 (pc' := 15) (vs' := [some (.ref p0), some (.int p1), some (.ref p2), none]) (st' := [.long 0, .int 0, .ref p2]) rfl ?_
      exact s_less [false, false, false, false] rfl (h4 0)
    · refine s_run X ok_L_isConnected 4 2 (pc' := 15) (vs' := [some (.ref p0), some (.int p1), some (.ref p2), none]) (st' := [.long 1, .int 0, .ref p2]) rfl ?_
      exact s_less [false, false, false, false] rfl (h4 1)
def tab_L_distance : List En := [(0, 9, 4, 0), (2, 0, 0, 0), (3, 8, 0, 0), (4, 4, 1, 0), (5, 4, 2, 0), (6, 4, 3, 0), (10, 31, 0, 0), (12, 41, 23, 0), (15, 15, 5, 0), (17, 0, 0, 1), (19, 15, 5, 0), (21, 0, 0, 2), (23, 0, 0, 0)]
theorem ok_L_distance : tab_L_distance.all (okE cL_distance) = true := by decide +kernel
def ed_L_distance : List (Nat × Instr × Nat) := [(7, .invokevirtual 34, 3), (11, .lastore, 1), (18, .ireturn, 1), (22, .ireturn, 1), (24, .ireturn, 1)]
theorem okd_L_distance : ed_L_distance.all (okD cL_distance) = true := by decide +kernel
def f_L_distance (S : St) (p0 : Nat) (p1 : Int32) (p2 : Int32) (p3 : Int32) (p4 : Nat) : Option (Int32 × St × Nat) := clc (f_X11_distance S p0 p1 p2 p3) (fun (v1 : Int32) => stJ S p4 0 (Int32.toInt64 v1) fun (S2 : St) => some (0, S2, 0)) (fun n => if n = 1 then some (1, S, 1) else if n = 2 then some (2, S, 1) else none)
theorem hc_L_distance_1 : HC RL cL_distance 6 [(0, 12, 15, 22), (0, 12, 19, 13)] 7 1 1 := ⟨[], (0, 12, 15, 22), [(0, 12, 19, 13)], 5, 2, 17, 1, rfl, (fun z hz => absurd hz List.not_mem_nil), by decide, by decide, TT_5 (i := 145) rfl rfl, List.mem_filter.mpr ⟨lw_5 (List.mem_of_getElem? (i := 157) rfl), rfl⟩, Or.inr ⟨by decide +kernel, rfl⟩, by decide, rfl, by decide +kernel, by decide, by decide +kernel⟩
theorem hc_L_distance_2 : HC RL cL_distance 6 [(0, 12, 15, 22), (0, 12, 19, 13)] 7 2 2 := ⟨[(0, 12, 15, 22)], (0, 12, 19, 13), [], 5, 2, 21, 2, rfl, (List.forall_mem_cons.mpr ⟨⟨by decide, 1, TT_5 (i := 145) rfl rfl, Or.inl ⟨rfl, rfl⟩⟩, fun z hz => absurd hz List.not_mem_nil⟩), by decide, by decide, TT_4 (i := 132) rfl rfl, List.mem_filter.mpr ⟨lw_4 (List.mem_of_getElem? (i := 142) rfl), rfl⟩, Or.inr ⟨by decide +kernel, rfl⟩, by decide, rfl, by decide +kernel, by decide, by decide +kernel⟩
set_option maxHeartbeats 4000000 in
set_option maxRecDepth 100000 in
theorem c_L_distance (S : St) (p0 : Nat) (p1 : Int32) (p2 : Int32) (p3 : Int32) (p4 : Nat) : CtL yL_distance cL_distance 6 [(0, 12, 15, 22), (0, 12, 19, 13)] 8 134 [.ref p0, .int p1, .int p2, .int p3, .ref p4] [(p0, 10), (p4, 14)] S (f_L_distance S p0 p1 p2 p3 p4) := by
  refine CtL_of RL rfl (by decide) (Nat.le_of_ble_eq_true rfl) 1 (vs := [some (.ref p0), some (.int p1), some (.int p2), some (.int p3), some (.ref p4), none]) rfl (fun C X E hr tl ht => ?_)
  have t0_ : tT C p0 10 := ht (p0, 10) (by simp)
  have t4_ : tT C p4 14 := ht (p4, 14) (by simp)
  unfold f_L_distance
  refine s_run X ok_L_distance 0 6 (pc' := 7) (vs' := [some (.ref p0), some (.int p1), some (.int p2), some (.int p3), some (.ref p4), none]) (st' := [.int p3, .int p2, .int p1, .ref p0, .int 0, .ref p4]) rfl ?_
  refine s_callVC (hh := [(0, 12, 15, 22), (0, 12, 19, 13)]) (b := p0) (As := [.int p1, .int p2, .int p3]) (rest := [.int 0, .ref p4]) X E hr tl mv_L_34 (c_X11_distance S p0 p1 p2 p3) rfl (ta1 t0_) rfl (by decide) t0_ rfl rfl (Nat.le_of_ble_eq_true rfl) (Nat.le_of_ble_eq_true rfl) (Nat.le_of_ble_eq_true rfl) (dk okd_L_distance 0 rfl) (fun j o h => by
      by_cases e1 : j = 1
      · subst e1
        have h : some ((1 : Int32), S, 1) = some o := h
        cases h
        exact ⟨_, rfl, hc_L_distance_1⟩
      by_cases e2 : j = 2
      · subst e2
        have h : some ((2 : Int32), S, 1) = some o := h
        cases h
        exact ⟨_, rfl, hc_L_distance_2⟩
      simp [e1, e2] at h) (st' := fun v1 => [.int v1, .int 0, .ref p4]) (fun _ => rfl) (fun v1 => ?_)
  refine s_run X ok_L_distance 6 1 (pc' := 11) (vs' := [some (.ref p0), some (.int p1), some (.int p2), some (.int p3), some (.ref p4), none]) (st' := [.long (Int32.toInt64 v1), .int 0, .ref p4]) rfl ?_
  refine s_last X t4_ (dk okd_L_distance 1 rfl) (fun S2 => ?_)
  refine s_run X ok_L_distance 7 1 (pc' := 23) (vs' := [some (.ref p0), some (.int p1), some (.int p2), some (.int p3), some (.ref p4), none]) (st' := []) rfl ?_
  refine s_run X ok_L_distance 12 1 (pc' := 24) (vs' := [some (.ref p0), some (.int p1), some (.int p2), some (.int p3), some (.ref p4), none]) (st' := [.int 0]) rfl ?_
  exact s_iretL X hr tl (dk okd_L_distance 4 rfl)
def tab_L_cede : List En := [(0, 9, 7, 0), (2, 0, 0, 0), (3, 8, 0, 0), (4, 4, 1, 0), (5, 4, 2, 0), (6, 4, 3, 0), (7, 5, 4, 0), (9, 5, 5, 0), (11, 5, 6, 0), (16, 31, 0, 0), (18, 41, 29, 0), (21, 15, 8, 0), (23, 0, 0, 1), (25, 15, 8, 0), (27, 0, 0, 2), (29, 0, 0, 0)]
theorem ok_L_cede : tab_L_cede.all (okE cL_cede) = true := by decide +kernel
def ed_L_cede : List (Nat × Instr × Nat) := [(13, .invokevirtual 38, 3), (17, .lastore, 1), (24, .ireturn, 1), (28, .ireturn, 1), (30, .ireturn, 1)]
theorem okd_L_cede : ed_L_cede.all (okD cL_cede) = true := by decide +kernel
def f_L_cede (S : St) (p0 : Nat) (p1 : Int32) (p2 : Int32) (p3 : Int32) (p4 : Int32) (p5 : Int32) (p6 : Int32) (p7 : Nat) : Option (Int32 × St × Nat) := clc (f_X11_cede S p0 p1 p2 p3 p4 p5 p6) (fun (o1 : Int32 × St) => stJ o1.2 p7 0 (Int32.toInt64 o1.1) fun (S2 : St) => some (0, S2, 0)) (fun n => if n = 1 then some (1, S, 1) else if n = 2 then some (2, S, 1) else none)
theorem hc_L_cede_1 : HC RL cL_cede 9 [(0, 18, 21, 22), (0, 18, 25, 13)] 13 1 1 := ⟨[], (0, 18, 21, 22), [(0, 18, 25, 13)], 8, 2, 23, 1, rfl, (fun z hz => absurd hz List.not_mem_nil), by decide, by decide, TT_5 (i := 145) rfl rfl, List.mem_filter.mpr ⟨lw_5 (List.mem_of_getElem? (i := 157) rfl), rfl⟩, Or.inr ⟨by decide +kernel, rfl⟩, by decide, rfl, by decide +kernel, by decide, by decide +kernel⟩
theorem hc_L_cede_2 : HC RL cL_cede 9 [(0, 18, 21, 22), (0, 18, 25, 13)] 13 2 2 := ⟨[(0, 18, 21, 22)], (0, 18, 25, 13), [], 8, 2, 27, 2, rfl, (List.forall_mem_cons.mpr ⟨⟨by decide, 1, TT_5 (i := 145) rfl rfl, Or.inl ⟨rfl, rfl⟩⟩, fun z hz => absurd hz List.not_mem_nil⟩), by decide, by decide, TT_4 (i := 132) rfl rfl, List.mem_filter.mpr ⟨lw_4 (List.mem_of_getElem? (i := 142) rfl), rfl⟩, Or.inr ⟨by decide +kernel, rfl⟩, by decide, rfl, by decide +kernel, by decide, by decide +kernel⟩
set_option maxHeartbeats 4000000 in
set_option maxRecDepth 100000 in
theorem c_L_cede (S : St) (p0 : Nat) (p1 : Int32) (p2 : Int32) (p3 : Int32) (p4 : Int32) (p5 : Int32) (p6 : Int32) (p7 : Nat) : CtL yL_cede cL_cede 9 [(0, 18, 21, 22), (0, 18, 25, 13)] 8 138 [.ref p0, .int p1, .int p2, .int p3, .int p4, .int p5, .int p6, .ref p7] [(p0, 10), (p7, 14)] S (f_L_cede S p0 p1 p2 p3 p4 p5 p6 p7) := by
  refine CtL_of RL rfl (by decide) (Nat.le_of_ble_eq_true rfl) 1 (vs := [some (.ref p0), some (.int p1), some (.int p2), some (.int p3), some (.int p4), some (.int p5), some (.int p6), some (.ref p7), none]) rfl (fun C X E hr tl ht => ?_)
  have t0_ : tT C p0 10 := ht (p0, 10) (by simp)
  have t7_ : tT C p7 14 := ht (p7, 14) (by simp)
  unfold f_L_cede
  refine s_run X ok_L_cede 0 9 (pc' := 13) (vs' := [some (.ref p0), some (.int p1), some (.int p2), some (.int p3), some (.int p4), some (.int p5), some (.int p6), some (.ref p7), none]) (st' := [.int p6, .int p5, .int p4, .int p3, .int p2, .int p1, .ref p0, .int 0, .ref p7]) rfl ?_
  refine s_callVC (hh := [(0, 18, 21, 22), (0, 18, 25, 13)]) (b := p0) (As := [.int p1, .int p2, .int p3, .int p4, .int p5, .int p6]) (rest := [.int 0, .ref p7]) X E hr tl mv_L_38 (c_X11_cede S p0 p1 p2 p3 p4 p5 p6) rfl (ta1 t0_) rfl (by decide) t0_ rfl rfl (Nat.le_of_ble_eq_true rfl) (Nat.le_of_ble_eq_true rfl) (Nat.le_of_ble_eq_true rfl) (dk okd_L_cede 0 rfl) (fun j o h => by
      by_cases e1 : j = 1
      · subst e1
        have h : some ((1 : Int32), S, 1) = some o := h
        cases h
        exact ⟨_, rfl, hc_L_cede_1⟩
      by_cases e2 : j = 2
      · subst e2
        have h : some ((2 : Int32), S, 1) = some o := h
        cases h
        exact ⟨_, rfl, hc_L_cede_2⟩
      simp [e1, e2] at h) (st' := fun o1 => [.int o1.1, .int 0, .ref p7]) (fun _ => rfl) (fun o1 => ?_)
  refine s_run X ok_L_cede 9 1 (pc' := 17) (vs' := [some (.ref p0), some (.int p1), some (.int p2), some (.int p3), some (.int p4), some (.int p5), some (.int p6), some (.ref p7), none]) (st' := [.long (Int32.toInt64 o1.1), .int 0, .ref p7]) rfl ?_
  refine s_last X t7_ (dk okd_L_cede 1 rfl) (fun S2 => ?_)
  refine s_run X ok_L_cede 10 1 (pc' := 29) (vs' := [some (.ref p0), some (.int p1), some (.int p2), some (.int p3), some (.int p4), some (.int p5), some (.int p6), some (.ref p7), none]) (st' := []) rfl ?_
  refine s_run X ok_L_cede 15 1 (pc' := 30) (vs' := [some (.ref p0), some (.int p1), some (.int p2), some (.int p3), some (.int p4), some (.int p5), some (.int p6), some (.ref p7), none]) (st' := [.int 0]) rfl ?_
  exact s_iretL X hr tl (dk okd_L_cede 4 rfl)
def tab_L_outletOwner : List En := [(0, 8, 2, 0), (1, 0, 0, 0), (2, 8, 0, 0), (3, 4, 1, 0), (7, 31, 0, 0), (9, 41, 15, 0), (12, 14, 3, 0), (13, 0, 0, 1), (15, 0, 0, 0)]
theorem ok_L_outletOwner : tab_L_outletOwner.all (okE cL_outletOwner) = true := by decide +kernel
def ed_L_outletOwner : List (Nat × Instr × Nat) := [(4, .invokevirtual 42, 3), (8, .lastore, 1), (14, .ireturn, 1), (16, .ireturn, 1)]
theorem okd_L_outletOwner : ed_L_outletOwner.all (okD cL_outletOwner) = true := by decide +kernel
def f_L_outletOwner (S : St) (p0 : Nat) (p1 : Int32) (p2 : Nat) : Option (Int32 × St × Nat) := clc (f_X11_outletOwner S p0 p1) (fun (v1 : Int32) => stJ S p2 0 (Int32.toInt64 v1) fun (S2 : St) => some (0, S2, 0)) (fun n => if n = 1 then some (1, S, 1) else none)
theorem hc_L_outletOwner_1 : HC RL cL_outletOwner 4 [(0, 9, 12, 22)] 4 1 1 := ⟨[], (0, 9, 12, 22), [], 3, 1, 13, 1, rfl, (fun z hz => absurd hz List.not_mem_nil), by decide, by decide, TT_5 (i := 145) rfl rfl, List.mem_filter.mpr ⟨lw_5 (List.mem_of_getElem? (i := 157) rfl), rfl⟩, Or.inl ⟨by decide +kernel, by decide, rfl⟩, by decide, rfl, by decide +kernel, by decide, by decide +kernel⟩
set_option maxHeartbeats 4000000 in
set_option maxRecDepth 100000 in
theorem c_L_outletOwner (S : St) (p0 : Nat) (p1 : Int32) (p2 : Nat) : CtL yL_outletOwner cL_outletOwner 4 [(0, 9, 12, 22)] 8 132 [.ref p0, .int p1, .ref p2] [(p0, 10), (p2, 14)] S (f_L_outletOwner S p0 p1 p2) := by
  refine CtL_of RL rfl (by decide) (Nat.le_of_ble_eq_true rfl) 1 (vs := [some (.ref p0), some (.int p1), some (.ref p2), none]) rfl (fun C X E hr tl ht => ?_)
  have t0_ : tT C p0 10 := ht (p0, 10) (by simp)
  have t2_ : tT C p2 14 := ht (p2, 14) (by simp)
  unfold f_L_outletOwner
  refine s_run X ok_L_outletOwner 0 4 (pc' := 4) (vs' := [some (.ref p0), some (.int p1), some (.ref p2), none]) (st' := [.int p1, .ref p0, .int 0, .ref p2]) rfl ?_
  refine s_callVC (hh := [(0, 9, 12, 22)]) (b := p0) (As := [.int p1]) (rest := [.int 0, .ref p2]) X E hr tl mv_L_42 (c_X11_outletOwner S p0 p1) rfl (ta1 t0_) rfl (by decide) t0_ rfl rfl (Nat.le_of_ble_eq_true rfl) (Nat.le_of_ble_eq_true rfl) (Nat.le_of_ble_eq_true rfl) (dk okd_L_outletOwner 0 rfl) (fun j o h => by
      by_cases e1 : j = 1
      · subst e1
        have h : some ((1 : Int32), S, 1) = some o := h
        cases h
        exact ⟨_, rfl, hc_L_outletOwner_1⟩
      simp [e1] at h) (st' := fun v1 => [.int v1, .int 0, .ref p2]) (fun _ => rfl) (fun v1 => ?_)
  refine s_run X ok_L_outletOwner 4 1 (pc' := 8) (vs' := [some (.ref p0), some (.int p1), some (.ref p2), none]) (st' := [.long (Int32.toInt64 v1), .int 0, .ref p2]) rfl ?_
  refine s_last X t2_ (dk okd_L_outletOwner 1 rfl) (fun S2 => ?_)
  refine s_run X ok_L_outletOwner 5 1 (pc' := 15) (vs' := [some (.ref p0), some (.int p1), some (.ref p2), none]) (st' := []) rfl ?_
  refine s_run X ok_L_outletOwner 8 1 (pc' := 16) (vs' := [some (.ref p0), some (.int p1), some (.ref p2), none]) (st' := [.int 0]) rfl ?_
  exact s_iretL X hr tl (dk okd_L_outletOwner 3 rfl)
def tab_L_outletCell : List En := [(0, 8, 2, 0), (1, 0, 0, 0), (2, 8, 0, 0), (3, 4, 1, 0), (7, 31, 0, 0), (9, 41, 15, 0), (12, 14, 3, 0), (13, 0, 0, 1), (15, 0, 0, 0)]
theorem ok_L_outletCell : tab_L_outletCell.all (okE cL_outletCell) = true := by decide +kernel
def ed_L_outletCell : List (Nat × Instr × Nat) := [(4, .invokevirtual 45, 3), (8, .lastore, 1), (14, .ireturn, 1), (16, .ireturn, 1)]
theorem okd_L_outletCell : ed_L_outletCell.all (okD cL_outletCell) = true := by decide +kernel
def f_L_outletCell (S : St) (p0 : Nat) (p1 : Int32) (p2 : Nat) : Option (Int32 × St × Nat) := clc (f_X11_outletCell S p0 p1) (fun (v1 : Int32) => stJ S p2 0 (Int32.toInt64 v1) fun (S2 : St) => some (0, S2, 0)) (fun n => if n = 1 then some (1, S, 1) else none)
theorem hc_L_outletCell_1 : HC RL cL_outletCell 4 [(0, 9, 12, 22)] 4 1 1 := ⟨[], (0, 9, 12, 22), [], 3, 1, 13, 1, rfl, (fun z hz => absurd hz List.not_mem_nil), by decide, by decide, TT_5 (i := 145) rfl rfl, List.mem_filter.mpr ⟨lw_5 (List.mem_of_getElem? (i := 157) rfl), rfl⟩, Or.inl ⟨by decide +kernel, by decide, rfl⟩, by decide, rfl, by decide +kernel, by decide, by decide +kernel⟩
set_option maxHeartbeats 4000000 in
set_option maxRecDepth 100000 in
theorem c_L_outletCell (S : St) (p0 : Nat) (p1 : Int32) (p2 : Nat) : CtL yL_outletCell cL_outletCell 4 [(0, 9, 12, 22)] 8 132 [.ref p0, .int p1, .ref p2] [(p0, 10), (p2, 14)] S (f_L_outletCell S p0 p1 p2) := by
  refine CtL_of RL rfl (by decide) (Nat.le_of_ble_eq_true rfl) 1 (vs := [some (.ref p0), some (.int p1), some (.ref p2), none]) rfl (fun C X E hr tl ht => ?_)
  have t0_ : tT C p0 10 := ht (p0, 10) (by simp)
  have t2_ : tT C p2 14 := ht (p2, 14) (by simp)
  unfold f_L_outletCell
  refine s_run X ok_L_outletCell 0 4 (pc' := 4) (vs' := [some (.ref p0), some (.int p1), some (.ref p2), none]) (st' := [.int p1, .ref p0, .int 0, .ref p2]) rfl ?_
  refine s_callVC (hh := [(0, 9, 12, 22)]) (b := p0) (As := [.int p1]) (rest := [.int 0, .ref p2]) X E hr tl mv_L_45 (c_X11_outletCell S p0 p1) rfl (ta1 t0_) rfl (by decide) t0_ rfl rfl (Nat.le_of_ble_eq_true rfl) (Nat.le_of_ble_eq_true rfl) (Nat.le_of_ble_eq_true rfl) (dk okd_L_outletCell 0 rfl) (fun j o h => by
      by_cases e1 : j = 1
      · subst e1
        have h : some ((1 : Int32), S, 1) = some o := h
        cases h
        exact ⟨_, rfl, hc_L_outletCell_1⟩
      simp [e1] at h) (st' := fun v1 => [.int v1, .int 0, .ref p2]) (fun _ => rfl) (fun v1 => ?_)
  refine s_run X ok_L_outletCell 4 1 (pc' := 8) (vs' := [some (.ref p0), some (.int p1), some (.ref p2), none]) (st' := [.long (Int32.toInt64 v1), .int 0, .ref p2]) rfl ?_
  refine s_last X t2_ (dk okd_L_outletCell 1 rfl) (fun S2 => ?_)
  refine s_run X ok_L_outletCell 5 1 (pc' := 15) (vs' := [some (.ref p0), some (.int p1), some (.ref p2), none]) (st' := []) rfl ?_
  refine s_run X ok_L_outletCell 8 1 (pc' := 16) (vs' := [some (.ref p0), some (.int p1), some (.ref p2), none]) (st' := [.int 0]) rfl ?_
  exact s_iretL X hr tl (dk okd_L_outletCell 3 rfl)
def tab_L_openOutlet : List En := [(0, 9, 4, 0), (2, 0, 0, 0), (3, 8, 0, 0), (4, 4, 1, 0), (5, 4, 2, 0), (6, 4, 3, 0), (10, 31, 0, 0), (12, 41, 23, 0), (15, 15, 5, 0), (17, 0, 0, 1), (19, 15, 5, 0), (21, 0, 0, 2), (23, 0, 0, 0)]
theorem ok_L_openOutlet : tab_L_openOutlet.all (okE cL_openOutlet) = true := by decide +kernel
def ed_L_openOutlet : List (Nat × Instr × Nat) := [(7, .invokevirtual 48, 3), (11, .lastore, 1), (18, .ireturn, 1), (22, .ireturn, 1), (24, .ireturn, 1)]
theorem okd_L_openOutlet : ed_L_openOutlet.all (okD cL_openOutlet) = true := by decide +kernel
def f_L_openOutlet (S : St) (p0 : Nat) (p1 : Int32) (p2 : Int32) (p3 : Int32) (p4 : Nat) : Option (Int32 × St × Nat) := clc (f_X11_openOutlet S p0 p1 p2 p3) (fun (o1 : Int32 × St) => stJ o1.2 p4 0 (Int32.toInt64 o1.1) fun (S2 : St) => some (0, S2, 0)) (fun n => if n = 1 then some (1, S, 1) else if n = 2 then some (2, S, 1) else none)
theorem hc_L_openOutlet_1 : HC RL cL_openOutlet 6 [(0, 12, 15, 22), (0, 12, 19, 13)] 7 1 1 := ⟨[], (0, 12, 15, 22), [(0, 12, 19, 13)], 5, 2, 17, 1, rfl, (fun z hz => absurd hz List.not_mem_nil), by decide, by decide, TT_5 (i := 145) rfl rfl, List.mem_filter.mpr ⟨lw_5 (List.mem_of_getElem? (i := 157) rfl), rfl⟩, Or.inr ⟨by decide +kernel, rfl⟩, by decide, rfl, by decide +kernel, by decide, by decide +kernel⟩
theorem hc_L_openOutlet_2 : HC RL cL_openOutlet 6 [(0, 12, 15, 22), (0, 12, 19, 13)] 7 2 2 := ⟨[(0, 12, 15, 22)], (0, 12, 19, 13), [], 5, 2, 21, 2, rfl, (List.forall_mem_cons.mpr ⟨⟨by decide, 1, TT_5 (i := 145) rfl rfl, Or.inl ⟨rfl, rfl⟩⟩, fun z hz => absurd hz List.not_mem_nil⟩), by decide, by decide, TT_4 (i := 132) rfl rfl, List.mem_filter.mpr ⟨lw_4 (List.mem_of_getElem? (i := 142) rfl), rfl⟩, Or.inr ⟨by decide +kernel, rfl⟩, by decide, rfl, by decide +kernel, by decide, by decide +kernel⟩
set_option maxHeartbeats 4000000 in
set_option maxRecDepth 100000 in
theorem c_L_openOutlet (S : St) (p0 : Nat) (p1 : Int32) (p2 : Int32) (p3 : Int32) (p4 : Nat) : CtL yL_openOutlet cL_openOutlet 6 [(0, 12, 15, 22), (0, 12, 19, 13)] 8 134 [.ref p0, .int p1, .int p2, .int p3, .ref p4] [(p0, 10), (p4, 14)] S (f_L_openOutlet S p0 p1 p2 p3 p4) := by
  refine CtL_of RL rfl (by decide) (Nat.le_of_ble_eq_true rfl) 1 (vs := [some (.ref p0), some (.int p1), some (.int p2), some (.int p3), some (.ref p4), none]) rfl (fun C X E hr tl ht => ?_)
  have t0_ : tT C p0 10 := ht (p0, 10) (by simp)
  have t4_ : tT C p4 14 := ht (p4, 14) (by simp)
  unfold f_L_openOutlet
  refine s_run X ok_L_openOutlet 0 6 (pc' := 7) (vs' := [some (.ref p0), some (.int p1), some (.int p2), some (.int p3), some (.ref p4), none]) (st' := [.int p3, .int p2, .int p1, .ref p0, .int 0, .ref p4]) rfl ?_
  refine s_callVC (hh := [(0, 12, 15, 22), (0, 12, 19, 13)]) (b := p0) (As := [.int p1, .int p2, .int p3]) (rest := [.int 0, .ref p4]) X E hr tl mv_L_48 (c_X11_openOutlet S p0 p1 p2 p3) rfl (ta1 t0_) rfl (by decide) t0_ rfl rfl (Nat.le_of_ble_eq_true rfl) (Nat.le_of_ble_eq_true rfl) (Nat.le_of_ble_eq_true rfl) (dk okd_L_openOutlet 0 rfl) (fun j o h => by
      by_cases e1 : j = 1
      · subst e1
        have h : some ((1 : Int32), S, 1) = some o := h
        cases h
        exact ⟨_, rfl, hc_L_openOutlet_1⟩
      by_cases e2 : j = 2
      · subst e2
        have h : some ((2 : Int32), S, 1) = some o := h
        cases h
        exact ⟨_, rfl, hc_L_openOutlet_2⟩
      simp [e1, e2] at h) (st' := fun o1 => [.int o1.1, .int 0, .ref p4]) (fun _ => rfl) (fun o1 => ?_)
  refine s_run X ok_L_openOutlet 6 1 (pc' := 11) (vs' := [some (.ref p0), some (.int p1), some (.int p2), some (.int p3), some (.ref p4), none]) (st' := [.long (Int32.toInt64 o1.1), .int 0, .ref p4]) rfl ?_
  refine s_last X t4_ (dk okd_L_openOutlet 1 rfl) (fun S2 => ?_)
  refine s_run X ok_L_openOutlet 7 1 (pc' := 23) (vs' := [some (.ref p0), some (.int p1), some (.int p2), some (.int p3), some (.ref p4), none]) (st' := []) rfl ?_
  refine s_run X ok_L_openOutlet 12 1 (pc' := 24) (vs' := [some (.ref p0), some (.int p1), some (.int p2), some (.int p3), some (.ref p4), none]) (st' := [.int 0]) rfl ?_
  exact s_iretL X hr tl (dk okd_L_openOutlet 4 rfl)
def tab_L_bestSite : List En := [(0, 8, 2, 0), (1, 0, 0, 0), (2, 8, 0, 0), (3, 4, 1, 0), (7, 31, 0, 0), (9, 41, 15, 0), (12, 14, 3, 0), (13, 0, 0, 1), (15, 0, 0, 0)]
theorem ok_L_bestSite : tab_L_bestSite.all (okE cL_bestSite) = true := by decide +kernel
def ed_L_bestSite : List (Nat × Instr × Nat) := [(4, .invokevirtual 51, 3), (8, .lastore, 1), (14, .ireturn, 1), (16, .ireturn, 1)]
theorem okd_L_bestSite : ed_L_bestSite.all (okD cL_bestSite) = true := by decide +kernel
def f_L_bestSite (S : St) (p0 : Nat) (p1 : Int32) (p2 : Nat) : Option (Int32 × St × Nat) := clc (f_X11_bestSite S p0 p1) (fun (v1 : Int32) => stJ S p2 0 (Int32.toInt64 v1) fun (S2 : St) => some (0, S2, 0)) (fun n => if n = 1 then some (1, S, 1) else none)
theorem hc_L_bestSite_1 : HC RL cL_bestSite 4 [(0, 9, 12, 22)] 4 1 1 := ⟨[], (0, 9, 12, 22), [], 3, 1, 13, 1, rfl, (fun z hz => absurd hz List.not_mem_nil), by decide, by decide, TT_5 (i := 145) rfl rfl, List.mem_filter.mpr ⟨lw_5 (List.mem_of_getElem? (i := 157) rfl), rfl⟩, Or.inl ⟨by decide +kernel, by decide, rfl⟩, by decide, rfl, by decide +kernel, by decide, by decide +kernel⟩
set_option maxHeartbeats 4000000 in
set_option maxRecDepth 100000 in
theorem c_L_bestSite (S : St) (p0 : Nat) (p1 : Int32) (p2 : Nat) : CtL yL_bestSite cL_bestSite 4 [(0, 9, 12, 22)] 8 132 [.ref p0, .int p1, .ref p2] [(p0, 10), (p2, 14)] S (f_L_bestSite S p0 p1 p2) := by
  refine CtL_of RL rfl (by decide) (Nat.le_of_ble_eq_true rfl) 1 (vs := [some (.ref p0), some (.int p1), some (.ref p2), none]) rfl (fun C X E hr tl ht => ?_)
  have t0_ : tT C p0 10 := ht (p0, 10) (by simp)
  have t2_ : tT C p2 14 := ht (p2, 14) (by simp)
  unfold f_L_bestSite
  refine s_run X ok_L_bestSite 0 4 (pc' := 4) (vs' := [some (.ref p0), some (.int p1), some (.ref p2), none]) (st' := [.int p1, .ref p0, .int 0, .ref p2]) rfl ?_
  refine s_callVC (hh := [(0, 9, 12, 22)]) (b := p0) (As := [.int p1]) (rest := [.int 0, .ref p2]) X E hr tl mv_L_51 (c_X11_bestSite S p0 p1) rfl (ta1 t0_) rfl (by decide) t0_ rfl rfl (Nat.le_of_ble_eq_true rfl) (Nat.le_of_ble_eq_true rfl) (Nat.le_of_ble_eq_true rfl) (dk okd_L_bestSite 0 rfl) (fun j o h => by
      by_cases e1 : j = 1
      · subst e1
        have h : some ((1 : Int32), S, 1) = some o := h
        cases h
        exact ⟨_, rfl, hc_L_bestSite_1⟩
      simp [e1] at h) (st' := fun v1 => [.int v1, .int 0, .ref p2]) (fun _ => rfl) (fun v1 => ?_)
  refine s_run X ok_L_bestSite 4 1 (pc' := 8) (vs' := [some (.ref p0), some (.int p1), some (.ref p2), none]) (st' := [.long (Int32.toInt64 v1), .int 0, .ref p2]) rfl ?_
  refine s_last X t2_ (dk okd_L_bestSite 1 rfl) (fun S2 => ?_)
  refine s_run X ok_L_bestSite 5 1 (pc' := 15) (vs' := [some (.ref p0), some (.int p1), some (.ref p2), none]) (st' := []) rfl ?_
  refine s_run X ok_L_bestSite 8 1 (pc' := 16) (vs' := [some (.ref p0), some (.int p1), some (.ref p2), none]) (st' := [.int 0]) rfl ?_
  exact s_iretL X hr tl (dk okd_L_bestSite 3 rfl)
def tab_L_coverage : List En := [(0, 8, 3, 0), (1, 0, 0, 0), (2, 8, 0, 0), (3, 4, 1, 0), (4, 4, 2, 0), (8, 31, 0, 0), (10, 41, 21, 0), (13, 15, 4, 0), (15, 0, 0, 1), (17, 15, 4, 0), (19, 0, 0, 2), (21, 0, 0, 0)]
theorem ok_L_coverage : tab_L_coverage.all (okE cL_coverage) = true := by decide +kernel
def ed_L_coverage : List (Nat × Instr × Nat) := [(5, .invokevirtual 54, 3), (9, .lastore, 1), (16, .ireturn, 1), (20, .ireturn, 1), (22, .ireturn, 1)]
theorem okd_L_coverage : ed_L_coverage.all (okD cL_coverage) = true := by decide +kernel
def f_L_coverage (S : St) (p0 : Nat) (p1 : Int32) (p2 : Int32) (p3 : Nat) : Option (Int32 × St × Nat) := clc (f_X11_coverage S p0 p1 p2) (fun (v1 : Int32) => stJ S p3 0 (Int32.toInt64 v1) fun (S2 : St) => some (0, S2, 0)) (fun n => if n = 1 then some (1, S, 1) else if n = 2 then some (2, S, 1) else none)
theorem hc_L_coverage_1 : HC RL cL_coverage 5 [(0, 10, 13, 22), (0, 10, 17, 13)] 5 1 1 := ⟨[], (0, 10, 13, 22), [(0, 10, 17, 13)], 4, 2, 15, 1, rfl, (fun z hz => absurd hz List.not_mem_nil), by decide, by decide, TT_5 (i := 145) rfl rfl, List.mem_filter.mpr ⟨lw_5 (List.mem_of_getElem? (i := 157) rfl), rfl⟩, Or.inr ⟨by decide +kernel, rfl⟩, by decide, rfl, by decide +kernel, by decide, by decide +kernel⟩
theorem hc_L_coverage_2 : HC RL cL_coverage 5 [(0, 10, 13, 22), (0, 10, 17, 13)] 5 2 2 := ⟨[(0, 10, 13, 22)], (0, 10, 17, 13), [], 4, 2, 19, 2, rfl, (List.forall_mem_cons.mpr ⟨⟨by decide, 1, TT_5 (i := 145) rfl rfl, Or.inl ⟨rfl, rfl⟩⟩, fun z hz => absurd hz List.not_mem_nil⟩), by decide, by decide, TT_4 (i := 132) rfl rfl, List.mem_filter.mpr ⟨lw_4 (List.mem_of_getElem? (i := 142) rfl), rfl⟩, Or.inr ⟨by decide +kernel, rfl⟩, by decide, rfl, by decide +kernel, by decide, by decide +kernel⟩
set_option maxHeartbeats 4000000 in
set_option maxRecDepth 100000 in
theorem c_L_coverage (S : St) (p0 : Nat) (p1 : Int32) (p2 : Int32) (p3 : Nat) : CtL yL_coverage cL_coverage 5 [(0, 10, 13, 22), (0, 10, 17, 13)] 8 133 [.ref p0, .int p1, .int p2, .ref p3] [(p0, 10), (p3, 14)] S (f_L_coverage S p0 p1 p2 p3) := by
  refine CtL_of RL rfl (by decide) (Nat.le_of_ble_eq_true rfl) 1 (vs := [some (.ref p0), some (.int p1), some (.int p2), some (.ref p3), none]) rfl (fun C X E hr tl ht => ?_)
  have t0_ : tT C p0 10 := ht (p0, 10) (by simp)
  have t3_ : tT C p3 14 := ht (p3, 14) (by simp)
  unfold f_L_coverage
  refine s_run X ok_L_coverage 0 5 (pc' := 5) (vs' := [some (.ref p0), some (.int p1), some (.int p2), some (.ref p3), none]) (st' := [.int p2, .int p1, .ref p0, .int 0, .ref p3]) rfl ?_
  refine s_callVC (hh := [(0, 10, 13, 22), (0, 10, 17, 13)]) (b := p0) (As := [.int p1, .int p2]) (rest := [.int 0, .ref p3]) X E hr tl mv_L_54 (c_X11_coverage S p0 p1 p2) rfl (ta1 t0_) rfl (by decide) t0_ rfl rfl (Nat.le_of_ble_eq_true rfl) (Nat.le_of_ble_eq_true rfl) (Nat.le_of_ble_eq_true rfl) (dk okd_L_coverage 0 rfl) (fun j o h => by
      by_cases e1 : j = 1
      · subst e1
        have h : some ((1 : Int32), S, 1) = some o := h
        cases h
        exact ⟨_, rfl, hc_L_coverage_1⟩
      by_cases e2 : j = 2
      · subst e2
        have h : some ((2 : Int32), S, 1) = some o := h
        cases h
        exact ⟨_, rfl, hc_L_coverage_2⟩
      simp [e1, e2] at h) (st' := fun v1 => [.int v1, .int 0, .ref p3]) (fun _ => rfl) (fun v1 => ?_)
  refine s_run X ok_L_coverage 5 1 (pc' := 9) (vs' := [some (.ref p0), some (.int p1), some (.int p2), some (.ref p3), none]) (st' := [.long (Int32.toInt64 v1), .int 0, .ref p3]) rfl ?_
  refine s_last X t3_ (dk okd_L_coverage 1 rfl) (fun S2 => ?_)
  refine s_run X ok_L_coverage 6 1 (pc' := 21) (vs' := [some (.ref p0), some (.int p1), some (.int p2), some (.ref p3), none]) (st' := []) rfl ?_
  refine s_run X ok_L_coverage 11 1 (pc' := 22) (vs' := [some (.ref p0), some (.int p1), some (.int p2), some (.ref p3), none]) (st' := [.int 0]) rfl ?_
  exact s_iretL X hr tl (dk okd_L_coverage 4 rfl)
def tab_L_rivalCells : List En := [(0, 8, 3, 0), (1, 0, 0, 0), (2, 8, 0, 0), (3, 4, 1, 0), (4, 4, 2, 0), (8, 31, 0, 0), (10, 41, 21, 0), (13, 15, 4, 0), (15, 0, 0, 1), (17, 15, 4, 0), (19, 0, 0, 2), (21, 0, 0, 0)]
theorem ok_L_rivalCells : tab_L_rivalCells.all (okE cL_rivalCells) = true := by decide +kernel
def ed_L_rivalCells : List (Nat × Instr × Nat) := [(5, .invokevirtual 57, 3), (9, .lastore, 1), (16, .ireturn, 1), (20, .ireturn, 1), (22, .ireturn, 1)]
theorem okd_L_rivalCells : ed_L_rivalCells.all (okD cL_rivalCells) = true := by decide +kernel
def f_L_rivalCells (S : St) (p0 : Nat) (p1 : Int32) (p2 : Int32) (p3 : Nat) : Option (Int32 × St × Nat) := clc (f_X11_rivalCells S p0 p1 p2) (fun (v1 : Int32) => stJ S p3 0 (Int32.toInt64 v1) fun (S2 : St) => some (0, S2, 0)) (fun n => if n = 1 then some (1, S, 1) else if n = 2 then some (2, S, 1) else none)
theorem hc_L_rivalCells_1 : HC RL cL_rivalCells 5 [(0, 10, 13, 22), (0, 10, 17, 13)] 5 1 1 := ⟨[], (0, 10, 13, 22), [(0, 10, 17, 13)], 4, 2, 15, 1, rfl, (fun z hz => absurd hz List.not_mem_nil), by decide, by decide, TT_5 (i := 145) rfl rfl, List.mem_filter.mpr ⟨lw_5 (List.mem_of_getElem? (i := 157) rfl), rfl⟩, Or.inr ⟨by decide +kernel, rfl⟩, by decide, rfl, by decide +kernel, by decide, by decide +kernel⟩
theorem hc_L_rivalCells_2 : HC RL cL_rivalCells 5 [(0, 10, 13, 22), (0, 10, 17, 13)] 5 2 2 := ⟨[(0, 10, 13, 22)], (0, 10, 17, 13), [], 4, 2, 19, 2, rfl, (List.forall_mem_cons.mpr ⟨⟨by decide, 1, TT_5 (i := 145) rfl rfl, Or.inl ⟨rfl, rfl⟩⟩, fun z hz => absurd hz List.not_mem_nil⟩), by decide, by decide, TT_4 (i := 132) rfl rfl, List.mem_filter.mpr ⟨lw_4 (List.mem_of_getElem? (i := 142) rfl), rfl⟩, Or.inr ⟨by decide +kernel, rfl⟩, by decide, rfl, by decide +kernel, by decide, by decide +kernel⟩
set_option maxHeartbeats 4000000 in
set_option maxRecDepth 100000 in
theorem c_L_rivalCells (S : St) (p0 : Nat) (p1 : Int32) (p2 : Int32) (p3 : Nat) : CtL yL_rivalCells cL_rivalCells 5 [(0, 10, 13, 22), (0, 10, 17, 13)] 8 133 [.ref p0, .int p1, .int p2, .ref p3] [(p0, 10), (p3, 14)] S (f_L_rivalCells S p0 p1 p2 p3) := by
  refine CtL_of RL rfl (by decide) (Nat.le_of_ble_eq_true rfl) 1 (vs := [some (.ref p0), some (.int p1), some (.int p2), some (.ref p3), none]) rfl (fun C X E hr tl ht => ?_)
  have t0_ : tT C p0 10 := ht (p0, 10) (by simp)
  have t3_ : tT C p3 14 := ht (p3, 14) (by simp)
  unfold f_L_rivalCells
  refine s_run X ok_L_rivalCells 0 5 (pc' := 5) (vs' := [some (.ref p0), some (.int p1), some (.int p2), some (.ref p3), none]) (st' := [.int p2, .int p1, .ref p0, .int 0, .ref p3]) rfl ?_
  refine s_callVC (hh := [(0, 10, 13, 22), (0, 10, 17, 13)]) (b := p0) (As := [.int p1, .int p2]) (rest := [.int 0, .ref p3]) X E hr tl mv_L_57 (c_X11_rivalCells S p0 p1 p2) rfl (ta1 t0_) rfl (by decide) t0_ rfl rfl (Nat.le_of_ble_eq_true rfl) (Nat.le_of_ble_eq_true rfl) (Nat.le_of_ble_eq_true rfl) (dk okd_L_rivalCells 0 rfl) (fun j o h => by
      by_cases e1 : j = 1
      · subst e1
        have h : some ((1 : Int32), S, 1) = some o := h
        cases h
        exact ⟨_, rfl, hc_L_rivalCells_1⟩
      by_cases e2 : j = 2
      · subst e2
        have h : some ((2 : Int32), S, 1) = some o := h
        cases h
        exact ⟨_, rfl, hc_L_rivalCells_2⟩
      simp [e1, e2] at h) (st' := fun v1 => [.int v1, .int 0, .ref p3]) (fun _ => rfl) (fun v1 => ?_)
  refine s_run X ok_L_rivalCells 5 1 (pc' := 9) (vs' := [some (.ref p0), some (.int p1), some (.int p2), some (.ref p3), none]) (st' := [.long (Int32.toInt64 v1), .int 0, .ref p3]) rfl ?_
  refine s_last X t3_ (dk okd_L_rivalCells 1 rfl) (fun S2 => ?_)
  refine s_run X ok_L_rivalCells 6 1 (pc' := 21) (vs' := [some (.ref p0), some (.int p1), some (.int p2), some (.ref p3), none]) (st' := []) rfl ?_
  refine s_run X ok_L_rivalCells 11 1 (pc' := 22) (vs' := [some (.ref p0), some (.int p1), some (.int p2), some (.ref p3), none]) (st' := [.int 0]) rfl ?_
  exact s_iretL X hr tl (dk okd_L_rivalCells 4 rfl)
def tab_L_halvingLine : List En := [(0, 8, 2, 0), (1, 0, 0, 0), (2, 8, 0, 0), (3, 4, 1, 0), (7, 31, 0, 0), (9, 41, 15, 0), (12, 14, 3, 0), (13, 0, 0, 1), (15, 0, 0, 0)]
theorem ok_L_halvingLine : tab_L_halvingLine.all (okE cL_halvingLine) = true := by decide +kernel
def ed_L_halvingLine : List (Nat × Instr × Nat) := [(4, .invokevirtual 60, 3), (8, .lastore, 1), (14, .ireturn, 1), (16, .ireturn, 1)]
theorem okd_L_halvingLine : ed_L_halvingLine.all (okD cL_halvingLine) = true := by decide +kernel
def f_L_halvingLine (S : St) (p0 : Nat) (p1 : Int32) (p2 : Nat) : Option (Int32 × St × Nat) := clc (f_X11_halvingLine S p0 p1) (fun (v1 : Int32) => stJ S p2 0 (Int32.toInt64 v1) fun (S2 : St) => some (0, S2, 0)) (fun n => if n = 1 then some (1, S, 1) else none)
theorem hc_L_halvingLine_1 : HC RL cL_halvingLine 4 [(0, 9, 12, 22)] 4 1 1 := ⟨[], (0, 9, 12, 22), [], 3, 1, 13, 1, rfl, (fun z hz => absurd hz List.not_mem_nil), by decide, by decide, TT_5 (i := 145) rfl rfl, List.mem_filter.mpr ⟨lw_5 (List.mem_of_getElem? (i := 157) rfl), rfl⟩, Or.inl ⟨by decide +kernel, by decide, rfl⟩, by decide, rfl, by decide +kernel, by decide, by decide +kernel⟩
set_option maxHeartbeats 4000000 in
set_option maxRecDepth 100000 in
theorem c_L_halvingLine (S : St) (p0 : Nat) (p1 : Int32) (p2 : Nat) : CtL yL_halvingLine cL_halvingLine 4 [(0, 9, 12, 22)] 8 132 [.ref p0, .int p1, .ref p2] [(p0, 10), (p2, 14)] S (f_L_halvingLine S p0 p1 p2) := by
  refine CtL_of RL rfl (by decide) (Nat.le_of_ble_eq_true rfl) 1 (vs := [some (.ref p0), some (.int p1), some (.ref p2), none]) rfl (fun C X E hr tl ht => ?_)
  have t0_ : tT C p0 10 := ht (p0, 10) (by simp)
  have t2_ : tT C p2 14 := ht (p2, 14) (by simp)
  unfold f_L_halvingLine
  refine s_run X ok_L_halvingLine 0 4 (pc' := 4) (vs' := [some (.ref p0), some (.int p1), some (.ref p2), none]) (st' := [.int p1, .ref p0, .int 0, .ref p2]) rfl ?_
  refine s_callVC (hh := [(0, 9, 12, 22)]) (b := p0) (As := [.int p1]) (rest := [.int 0, .ref p2]) X E hr tl mv_L_60 (c_X11_halvingLine S p0 p1) rfl (ta1 t0_) rfl (by decide) t0_ rfl rfl (Nat.le_of_ble_eq_true rfl) (Nat.le_of_ble_eq_true rfl) (Nat.le_of_ble_eq_true rfl) (dk okd_L_halvingLine 0 rfl) (fun j o h => by
      by_cases e1 : j = 1
      · subst e1
        have h : some ((1 : Int32), S, 1) = some o := h
        cases h
        exact ⟨_, rfl, hc_L_halvingLine_1⟩
      simp [e1] at h) (st' := fun v1 => [.int v1, .int 0, .ref p2]) (fun _ => rfl) (fun v1 => ?_)
  refine s_run X ok_L_halvingLine 4 1 (pc' := 8) (vs' := [some (.ref p0), some (.int p1), some (.ref p2), none]) (st' := [.long (Int32.toInt64 v1), .int 0, .ref p2]) rfl ?_
  refine s_last X t2_ (dk okd_L_halvingLine 1 rfl) (fun S2 => ?_)
  refine s_run X ok_L_halvingLine 5 1 (pc' := 15) (vs' := [some (.ref p0), some (.int p1), some (.ref p2), none]) (st' := []) rfl ?_
  refine s_run X ok_L_halvingLine 8 1 (pc' := 16) (vs' := [some (.ref p0), some (.int p1), some (.ref p2), none]) (st' := [.int 0]) rfl ?_
  exact s_iretL X hr tl (dk okd_L_halvingLine 3 rfl)
def tab_L_royalty : List En := [(0, 9, 4, 0), (2, 0, 0, 0), (3, 8, 0, 0), (4, 4, 1, 0), (5, 6, 2, 0), (10, 41, 21, 0), (13, 15, 5, 0), (15, 0, 0, 1), (17, 15, 5, 0), (19, 0, 0, 2), (21, 0, 0, 0)]
theorem ok_L_royalty : tab_L_royalty.all (okE cL_royalty) = true := by decide +kernel
def ed_L_royalty : List (Nat × Instr × Nat) := [(6, .invokevirtual 63, 3), (9, .lastore, 1), (16, .ireturn, 1), (20, .ireturn, 1), (22, .ireturn, 1)]
theorem okd_L_royalty : ed_L_royalty.all (okD cL_royalty) = true := by decide +kernel
def f_L_royalty (S : St) (p0 : Nat) (p1 : Int32) (p2 : Int64) (p3 : Nat) : Option (Int32 × St × Nat) := clc (f_X11_royalty S p0 p1 p2) (fun (v1 : Int64) => stJ S p3 0 v1 fun (S2 : St) => some (0, S2, 0)) (fun n => if n = 1 then some (1, S, 1) else if n = 2 then some (2, S, 1) else none)
theorem hc_L_royalty_1 : HC RL cL_royalty 6 [(0, 10, 13, 22), (0, 10, 17, 13)] 6 1 1 := ⟨[], (0, 10, 13, 22), [(0, 10, 17, 13)], 5, 2, 15, 1, rfl, (fun z hz => absurd hz List.not_mem_nil), by decide, by decide, TT_5 (i := 145) rfl rfl, List.mem_filter.mpr ⟨lw_5 (List.mem_of_getElem? (i := 157) rfl), rfl⟩, Or.inr ⟨by decide +kernel, rfl⟩, by decide, rfl, by decide +kernel, by decide, by decide +kernel⟩
theorem hc_L_royalty_2 : HC RL cL_royalty 6 [(0, 10, 13, 22), (0, 10, 17, 13)] 6 2 2 := ⟨[(0, 10, 13, 22)], (0, 10, 17, 13), [], 5, 2, 19, 2, rfl, (List.forall_mem_cons.mpr ⟨⟨by decide, 1, TT_5 (i := 145) rfl rfl, Or.inl ⟨rfl, rfl⟩⟩, fun z hz => absurd hz List.not_mem_nil⟩), by decide, by decide, TT_4 (i := 132) rfl rfl, List.mem_filter.mpr ⟨lw_4 (List.mem_of_getElem? (i := 142) rfl), rfl⟩, Or.inr ⟨by decide +kernel, rfl⟩, by decide, rfl, by decide +kernel, by decide, by decide +kernel⟩
set_option maxHeartbeats 4000000 in
set_option maxRecDepth 100000 in
theorem c_L_royalty (S : St) (p0 : Nat) (p1 : Int32) (p2 : Int64) (p3 : Nat) : CtL yL_royalty cL_royalty 6 [(0, 10, 13, 22), (0, 10, 17, 13)] 8 134 [.ref p0, .int p1, .long p2, .ref p3] [(p0, 10), (p3, 14)] S (f_L_royalty S p0 p1 p2 p3) := by
  refine CtL_of RL rfl (by decide) (Nat.le_of_ble_eq_true rfl) 1 (vs := [some (.ref p0), some (.int p1), some (.long p2), none, some (.ref p3), none]) rfl (fun C X E hr tl ht => ?_)
  have t0_ : tT C p0 10 := ht (p0, 10) (by simp)
  have t3_ : tT C p3 14 := ht (p3, 14) (by simp)
  unfold f_L_royalty
  refine s_run X ok_L_royalty 0 5 (pc' := 6) (vs' := [some (.ref p0), some (.int p1), some (.long p2), none, some (.ref p3), none]) (st' := [.long p2, .int p1, .ref p0, .int 0, .ref p3]) rfl ?_
  refine s_callVC (hh := [(0, 10, 13, 22), (0, 10, 17, 13)]) (b := p0) (As := [.int p1, .long p2]) (rest := [.int 0, .ref p3]) X E hr tl mv_L_63 (c_X11_royalty S p0 p1 p2) rfl (ta1 t0_) rfl (by decide) t0_ rfl rfl (Nat.le_of_ble_eq_true rfl) (Nat.le_of_ble_eq_true rfl) (Nat.le_of_ble_eq_true rfl) (dk okd_L_royalty 0 rfl) (fun j o h => by
      by_cases e1 : j = 1
      · subst e1
        have h : some ((1 : Int32), S, 1) = some o := h
        cases h
        exact ⟨_, rfl, hc_L_royalty_1⟩
      by_cases e2 : j = 2
      · subst e2
        have h : some ((2 : Int32), S, 1) = some o := h
        cases h
        exact ⟨_, rfl, hc_L_royalty_2⟩
      simp [e1, e2] at h) (st' := fun v1 => [.long v1, .int 0, .ref p3]) (fun _ => rfl) (fun v1 => ?_)
  refine s_last X t3_ (dk okd_L_royalty 1 rfl) (fun S2 => ?_)
  refine s_run X ok_L_royalty 5 1 (pc' := 21) (vs' := [some (.ref p0), some (.int p1), some (.long p2), none, some (.ref p3), none]) (st' := []) rfl ?_
  refine s_run X ok_L_royalty 10 1 (pc' := 22) (vs' := [some (.ref p0), some (.int p1), some (.long p2), none, some (.ref p3), none]) (st' := [.int 0]) rfl ?_
  exact s_iretL X hr tl (dk okd_L_royalty 4 rfl)
def tab_L_planOf : List En := [(0, 8, 2, 0), (1, 0, 0, 0), (2, 8, 0, 0), (3, 4, 1, 0), (7, 31, 0, 0), (9, 41, 15, 0), (12, 14, 3, 0), (13, 0, 0, 1), (15, 0, 0, 0)]
theorem ok_L_planOf : tab_L_planOf.all (okE cL_planOf) = true := by decide +kernel
def ed_L_planOf : List (Nat × Instr × Nat) := [(4, .invokevirtual 67, 3), (8, .lastore, 1), (14, .ireturn, 1), (16, .ireturn, 1)]
theorem okd_L_planOf : ed_L_planOf.all (okD cL_planOf) = true := by decide +kernel
def f_L_planOf (S : St) (p0 : Nat) (p1 : Int32) (p2 : Nat) : Option (Int32 × St × Nat) := clc (f_X11_planOf S p0 p1) (fun (v1 : Int32) => stJ S p2 0 (Int32.toInt64 v1) fun (S2 : St) => some (0, S2, 0)) (fun n => if n = 1 then some (1, S, 1) else none)
theorem hc_L_planOf_1 : HC RL cL_planOf 4 [(0, 9, 12, 22)] 4 1 1 := ⟨[], (0, 9, 12, 22), [], 3, 1, 13, 1, rfl, (fun z hz => absurd hz List.not_mem_nil), by decide, by decide, TT_5 (i := 145) rfl rfl, List.mem_filter.mpr ⟨lw_5 (List.mem_of_getElem? (i := 157) rfl), rfl⟩, Or.inl ⟨by decide +kernel, by decide, rfl⟩, by decide, rfl, by decide +kernel, by decide, by decide +kernel⟩
set_option maxHeartbeats 4000000 in
set_option maxRecDepth 100000 in
theorem c_L_planOf (S : St) (p0 : Nat) (p1 : Int32) (p2 : Nat) : CtL yL_planOf cL_planOf 4 [(0, 9, 12, 22)] 8 132 [.ref p0, .int p1, .ref p2] [(p0, 10), (p2, 14)] S (f_L_planOf S p0 p1 p2) := by
  refine CtL_of RL rfl (by decide) (Nat.le_of_ble_eq_true rfl) 1 (vs := [some (.ref p0), some (.int p1), some (.ref p2), none]) rfl (fun C X E hr tl ht => ?_)
  have t0_ : tT C p0 10 := ht (p0, 10) (by simp)
  have t2_ : tT C p2 14 := ht (p2, 14) (by simp)
  unfold f_L_planOf
  refine s_run X ok_L_planOf 0 4 (pc' := 4) (vs' := [some (.ref p0), some (.int p1), some (.ref p2), none]) (st' := [.int p1, .ref p0, .int 0, .ref p2]) rfl ?_
  refine s_callVC (hh := [(0, 9, 12, 22)]) (b := p0) (As := [.int p1]) (rest := [.int 0, .ref p2]) X E hr tl mv_L_67 (c_X11_planOf S p0 p1) rfl (ta1 t0_) rfl (by decide) t0_ rfl rfl (Nat.le_of_ble_eq_true rfl) (Nat.le_of_ble_eq_true rfl) (Nat.le_of_ble_eq_true rfl) (dk okd_L_planOf 0 rfl) (fun j o h => by
      by_cases e1 : j = 1
      · subst e1
        have h : some ((1 : Int32), S, 1) = some o := h
        cases h
        exact ⟨_, rfl, hc_L_planOf_1⟩
      simp [e1] at h) (st' := fun v1 => [.int v1, .int 0, .ref p2]) (fun _ => rfl) (fun v1 => ?_)
  refine s_run X ok_L_planOf 4 1 (pc' := 8) (vs' := [some (.ref p0), some (.int p1), some (.ref p2), none]) (st' := [.long (Int32.toInt64 v1), .int 0, .ref p2]) rfl ?_
  refine s_last X t2_ (dk okd_L_planOf 1 rfl) (fun S2 => ?_)
  refine s_run X ok_L_planOf 5 1 (pc' := 15) (vs' := [some (.ref p0), some (.int p1), some (.ref p2), none]) (st' := []) rfl ?_
  refine s_run X ok_L_planOf 8 1 (pc' := 16) (vs' := [some (.ref p0), some (.int p1), some (.ref p2), none]) (st' := [.int 0]) rfl ?_
  exact s_iretL X hr tl (dk okd_L_planOf 3 rfl)
def tab_L_setPlan : List En := [(0, 8, 3, 0), (1, 0, 0, 0), (2, 8, 0, 0), (3, 4, 1, 0), (4, 4, 2, 0), (8, 31, 0, 0), (10, 41, 17, 0), (13, 15, 4, 0), (15, 0, 0, 1), (17, 0, 0, 0)]
theorem ok_L_setPlan : tab_L_setPlan.all (okE cL_setPlan) = true := by decide +kernel
def ed_L_setPlan : List (Nat × Instr × Nat) := [(5, .invokevirtual 70, 3), (9, .lastore, 1), (16, .ireturn, 1), (18, .ireturn, 1)]
theorem okd_L_setPlan : ed_L_setPlan.all (okD cL_setPlan) = true := by decide +kernel
def f_L_setPlan (S : St) (p0 : Nat) (p1 : Int32) (p2 : Int32) (p3 : Nat) : Option (Int32 × St × Nat) := clc (f_X11_setPlan S p0 p1 p2) (fun (o1 : Int32 × St) => stJ o1.2 p3 0 (Int32.toInt64 o1.1) fun (S2 : St) => some (0, S2, 0)) (fun n => if n = 1 then some (1, S, 1) else none)
theorem hc_L_setPlan_1 : HC RL cL_setPlan 5 [(0, 10, 13, 22)] 5 1 1 := ⟨[], (0, 10, 13, 22), [], 4, 2, 15, 1, rfl, (fun z hz => absurd hz List.not_mem_nil), by decide, by decide, TT_5 (i := 145) rfl rfl, List.mem_filter.mpr ⟨lw_5 (List.mem_of_getElem? (i := 157) rfl), rfl⟩, Or.inr ⟨by decide +kernel, rfl⟩, by decide, rfl, by decide +kernel, by decide, by decide +kernel⟩
set_option maxHeartbeats 4000000 in
set_option maxRecDepth 100000 in
theorem c_L_setPlan (S : St) (p0 : Nat) (p1 : Int32) (p2 : Int32) (p3 : Nat) : CtL yL_setPlan cL_setPlan 5 [(0, 10, 13, 22)] 8 134 [.ref p0, .int p1, .int p2, .ref p3] [(p0, 10), (p3, 14)] S (f_L_setPlan S p0 p1 p2 p3) := by
  refine CtL_of RL rfl (by decide) (Nat.le_of_ble_eq_true rfl) 1 (vs := [some (.ref p0), some (.int p1), some (.int p2), some (.ref p3), none]) rfl (fun C X E hr tl ht => ?_)
  have t0_ : tT C p0 10 := ht (p0, 10) (by simp)
  have t3_ : tT C p3 14 := ht (p3, 14) (by simp)
  unfold f_L_setPlan
  refine s_run X ok_L_setPlan 0 5 (pc' := 5) (vs' := [some (.ref p0), some (.int p1), some (.int p2), some (.ref p3), none]) (st' := [.int p2, .int p1, .ref p0, .int 0, .ref p3]) rfl ?_
  refine s_callVC (hh := [(0, 10, 13, 22)]) (b := p0) (As := [.int p1, .int p2]) (rest := [.int 0, .ref p3]) X E hr tl mv_L_70 (c_X11_setPlan S p0 p1 p2) rfl (ta1 t0_) rfl (by decide) t0_ rfl rfl (Nat.le_of_ble_eq_true rfl) (Nat.le_of_ble_eq_true rfl) (Nat.le_of_ble_eq_true rfl) (dk okd_L_setPlan 0 rfl) (fun j o h => by
      by_cases e1 : j = 1
      · subst e1
        have h : some ((1 : Int32), S, 1) = some o := h
        cases h
        exact ⟨_, rfl, hc_L_setPlan_1⟩
      simp [e1] at h) (st' := fun o1 => [.int o1.1, .int 0, .ref p3]) (fun _ => rfl) (fun o1 => ?_)
  refine s_run X ok_L_setPlan 5 1 (pc' := 9) (vs' := [some (.ref p0), some (.int p1), some (.int p2), some (.ref p3), none]) (st' := [.long (Int32.toInt64 o1.1), .int 0, .ref p3]) rfl ?_
  refine s_last X t3_ (dk okd_L_setPlan 1 rfl) (fun S2 => ?_)
  refine s_run X ok_L_setPlan 6 1 (pc' := 17) (vs' := [some (.ref p0), some (.int p1), some (.int p2), some (.ref p3), none]) (st' := []) rfl ?_
  refine s_run X ok_L_setPlan 9 1 (pc' := 18) (vs' := [some (.ref p0), some (.int p1), some (.int p2), some (.ref p3), none]) (st' := [.int 0]) rfl ?_
  exact s_iretL X hr tl (dk okd_L_setPlan 3 rfl)
def tab_L_cheapestPlan : List En := [(0, 8, 2, 0), (1, 0, 0, 0), (2, 8, 0, 0), (3, 4, 1, 0), (7, 31, 0, 0), (9, 41, 15, 0), (12, 14, 3, 0), (13, 0, 0, 1), (15, 0, 0, 0)]
theorem ok_L_cheapestPlan : tab_L_cheapestPlan.all (okE cL_cheapestPlan) = true := by decide +kernel
def ed_L_cheapestPlan : List (Nat × Instr × Nat) := [(4, .invokevirtual 73, 3), (8, .lastore, 1), (14, .ireturn, 1), (16, .ireturn, 1)]
theorem okd_L_cheapestPlan : ed_L_cheapestPlan.all (okD cL_cheapestPlan) = true := by decide +kernel
def f_L_cheapestPlan (S : St) (p0 : Nat) (p1 : Int32) (p2 : Nat) : Option (Int32 × St × Nat) := clc (f_X11_cheapestPlan S p0 p1) (fun (v1 : Int32) => stJ S p2 0 (Int32.toInt64 v1) fun (S2 : St) => some (0, S2, 0)) (fun n => if n = 1 then some (1, S, 1) else none)
theorem hc_L_cheapestPlan_1 : HC RL cL_cheapestPlan 4 [(0, 9, 12, 22)] 4 1 1 := ⟨[], (0, 9, 12, 22), [], 3, 1, 13, 1, rfl, (fun z hz => absurd hz List.not_mem_nil), by decide, by decide, TT_5 (i := 145) rfl rfl, List.mem_filter.mpr ⟨lw_5 (List.mem_of_getElem? (i := 157) rfl), rfl⟩, Or.inl ⟨by decide +kernel, by decide, rfl⟩, by decide, rfl, by decide +kernel, by decide, by decide +kernel⟩
set_option maxHeartbeats 4000000 in
set_option maxRecDepth 100000 in
theorem c_L_cheapestPlan (S : St) (p0 : Nat) (p1 : Int32) (p2 : Nat) : CtL yL_cheapestPlan cL_cheapestPlan 4 [(0, 9, 12, 22)] 8 132 [.ref p0, .int p1, .ref p2] [(p0, 10), (p2, 14)] S (f_L_cheapestPlan S p0 p1 p2) := by
  refine CtL_of RL rfl (by decide) (Nat.le_of_ble_eq_true rfl) 1 (vs := [some (.ref p0), some (.int p1), some (.ref p2), none]) rfl (fun C X E hr tl ht => ?_)
  have t0_ : tT C p0 10 := ht (p0, 10) (by simp)
  have t2_ : tT C p2 14 := ht (p2, 14) (by simp)
  unfold f_L_cheapestPlan
  refine s_run X ok_L_cheapestPlan 0 4 (pc' := 4) (vs' := [some (.ref p0), some (.int p1), some (.ref p2), none]) (st' := [.int p1, .ref p0, .int 0, .ref p2]) rfl ?_
  refine s_callVC (hh := [(0, 9, 12, 22)]) (b := p0) (As := [.int p1]) (rest := [.int 0, .ref p2]) X E hr tl mv_L_73 (c_X11_cheapestPlan S p0 p1) rfl (ta1 t0_) rfl (by decide) t0_ rfl rfl (Nat.le_of_ble_eq_true rfl) (Nat.le_of_ble_eq_true rfl) (Nat.le_of_ble_eq_true rfl) (dk okd_L_cheapestPlan 0 rfl) (fun j o h => by
      by_cases e1 : j = 1
      · subst e1
        have h : some ((1 : Int32), S, 1) = some o := h
        cases h
        exact ⟨_, rfl, hc_L_cheapestPlan_1⟩
      simp [e1] at h) (st' := fun v1 => [.int v1, .int 0, .ref p2]) (fun _ => rfl) (fun v1 => ?_)
  refine s_run X ok_L_cheapestPlan 4 1 (pc' := 8) (vs' := [some (.ref p0), some (.int p1), some (.ref p2), none]) (st' := [.long (Int32.toInt64 v1), .int 0, .ref p2]) rfl ?_
  refine s_last X t2_ (dk okd_L_cheapestPlan 1 rfl) (fun S2 => ?_)
  refine s_run X ok_L_cheapestPlan 5 1 (pc' := 15) (vs' := [some (.ref p0), some (.int p1), some (.ref p2), none]) (st' := []) rfl ?_
  refine s_run X ok_L_cheapestPlan 8 1 (pc' := 16) (vs' := [some (.ref p0), some (.int p1), some (.ref p2), none]) (st' := [.int 0]) rfl ?_
  exact s_iretL X hr tl (dk okd_L_cheapestPlan 3 rfl)
def tab_L_reportSales : List En := [(0, 9, 4, 0), (2, 0, 0, 0), (3, 8, 0, 0), (4, 4, 1, 0), (5, 6, 2, 0), (10, 41, 25, 0), (13, 15, 5, 0), (15, 0, 0, 1), (17, 15, 5, 0), (19, 0, 0, 2), (21, 15, 5, 0), (23, 0, 0, 3), (25, 0, 0, 0)]
theorem ok_L_reportSales : tab_L_reportSales.all (okE cL_reportSales) = true := by decide +kernel
def ed_L_reportSales : List (Nat × Instr × Nat) := [(6, .invokevirtual 76, 3), (9, .lastore, 1), (16, .ireturn, 1), (20, .ireturn, 1), (24, .ireturn, 1), (26, .ireturn, 1)]
theorem okd_L_reportSales : ed_L_reportSales.all (okD cL_reportSales) = true := by decide +kernel
def f_L_reportSales (S : St) (p0 : Nat) (p1 : Int32) (p2 : Int64) (p3 : Nat) : Option (Int32 × St × Nat) := clc (f_X11_reportSales S p0 p1 p2) (fun (o1 : Int64 × St) => stJ o1.2 p3 0 o1.1 fun (S2 : St) => some (0, S2, 0)) (fun n => if n = 1 then some (1, S, 1) else if n = 2 then some (2, S, 1) else if n = 3 then some (3, S, 1) else none)
theorem hc_L_reportSales_1 : HC RL cL_reportSales 6 [(0, 10, 13, 22), (0, 10, 17, 13), (0, 10, 21, 79)] 6 1 1 := ⟨[], (0, 10, 13, 22), [(0, 10, 17, 13), (0, 10, 21, 79)], 5, 2, 15, 1, rfl, (fun z hz => absurd hz List.not_mem_nil), by decide, by decide, TT_5 (i := 145) rfl rfl, List.mem_filter.mpr ⟨lw_5 (List.mem_of_getElem? (i := 157) rfl), rfl⟩, Or.inr ⟨by decide +kernel, rfl⟩, by decide, rfl, by decide +kernel, by decide, by decide +kernel⟩
theorem hc_L_reportSales_2 : HC RL cL_reportSales 6 [(0, 10, 13, 22), (0, 10, 17, 13), (0, 10, 21, 79)] 6 2 2 := ⟨[(0, 10, 13, 22)], (0, 10, 17, 13), [(0, 10, 21, 79)], 5, 2, 19, 2, rfl, (List.forall_mem_cons.mpr ⟨⟨by decide, 1, TT_5 (i := 145) rfl rfl, Or.inl ⟨rfl, rfl⟩⟩, fun z hz => absurd hz List.not_mem_nil⟩), by decide, by decide, TT_4 (i := 132) rfl rfl, List.mem_filter.mpr ⟨lw_4 (List.mem_of_getElem? (i := 142) rfl), rfl⟩, Or.inr ⟨by decide +kernel, rfl⟩, by decide, rfl, by decide +kernel, by decide, by decide +kernel⟩
theorem hc_L_reportSales_3 : HC RL cL_reportSales 6 [(0, 10, 13, 22), (0, 10, 17, 13), (0, 10, 21, 79)] 6 3 3 := ⟨[(0, 10, 13, 22), (0, 10, 17, 13)], (0, 10, 21, 79), [], 5, 2, 23, 3, rfl, (List.forall_mem_cons.mpr ⟨⟨by decide, 1, TT_5 (i := 145) rfl rfl, Or.inr (Or.inl ⟨rfl, rfl⟩)⟩, (List.forall_mem_cons.mpr ⟨⟨by decide, 2, TT_4 (i := 132) rfl rfl, Or.inr (Or.inr ⟨rfl, rfl⟩)⟩, fun z hz => absurd hz List.not_mem_nil⟩)⟩), by decide, by decide, TT_6 (i := 131) rfl rfl, List.mem_filter.mpr ⟨lw_6 (List.mem_of_getElem? (i := 144) rfl), rfl⟩, Or.inr ⟨by decide +kernel, rfl⟩, by decide, rfl, by decide +kernel, by decide, by decide +kernel⟩
set_option maxHeartbeats 4000000 in
set_option maxRecDepth 100000 in
theorem c_L_reportSales (S : St) (p0 : Nat) (p1 : Int32) (p2 : Int64) (p3 : Nat) : CtL yL_reportSales cL_reportSales 6 [(0, 10, 13, 22), (0, 10, 17, 13), (0, 10, 21, 79)] 8 134 [.ref p0, .int p1, .long p2, .ref p3] [(p0, 10), (p3, 14)] S (f_L_reportSales S p0 p1 p2 p3) := by
  refine CtL_of RL rfl (by decide) (Nat.le_of_ble_eq_true rfl) 1 (vs := [some (.ref p0), some (.int p1), some (.long p2), none, some (.ref p3), none]) rfl (fun C X E hr tl ht => ?_)
  have t0_ : tT C p0 10 := ht (p0, 10) (by simp)
  have t3_ : tT C p3 14 := ht (p3, 14) (by simp)
  unfold f_L_reportSales
  refine s_run X ok_L_reportSales 0 5 (pc' := 6) (vs' := [some (.ref p0), some (.int p1), some (.long p2), none, some (.ref p3), none]) (st' := [.long p2, .int p1, .ref p0, .int 0, .ref p3]) rfl ?_
  refine s_callVC (hh := [(0, 10, 13, 22), (0, 10, 17, 13), (0, 10, 21, 79)]) (b := p0) (As := [.int p1, .long p2]) (rest := [.int 0, .ref p3]) X E hr tl mv_L_76 (c_X11_reportSales S p0 p1 p2) rfl (ta1 t0_) rfl (by decide) t0_ rfl rfl (Nat.le_of_ble_eq_true rfl) (Nat.le_of_ble_eq_true rfl) (Nat.le_of_ble_eq_true rfl) (dk okd_L_reportSales 0 rfl) (fun j o h => by
      by_cases e1 : j = 1
      · subst e1
        have h : some ((1 : Int32), S, 1) = some o := h
        cases h
        exact ⟨_, rfl, hc_L_reportSales_1⟩
      by_cases e2 : j = 2
      · subst e2
        have h : some ((2 : Int32), S, 1) = some o := h
        cases h
        exact ⟨_, rfl, hc_L_reportSales_2⟩
      by_cases e3 : j = 3
      · subst e3
        have h : some ((3 : Int32), S, 1) = some o := h
        cases h
        exact ⟨_, rfl, hc_L_reportSales_3⟩
      simp [e1, e2, e3] at h) (st' := fun o1 => [.long o1.1, .int 0, .ref p3]) (fun _ => rfl) (fun o1 => ?_)
  refine s_last X t3_ (dk okd_L_reportSales 1 rfl) (fun S2 => ?_)
  refine s_run X ok_L_reportSales 5 1 (pc' := 25) (vs' := [some (.ref p0), some (.int p1), some (.long p2), none, some (.ref p3), none]) (st' := []) rfl ?_
  refine s_run X ok_L_reportSales 12 1 (pc' := 26) (vs' := [some (.ref p0), some (.int p1), some (.long p2), none, some (.ref p3), none]) (st' := [.int 0]) rfl ?_
  exact s_iretL X hr tl (dk okd_L_reportSales 5 rfl)
def tab_L_deliver : List En := [(0, 9, 6, 0), (2, 0, 0, 0), (3, 8, 0, 0), (4, 4, 1, 0), (5, 4, 2, 0), (6, 4, 3, 0), (7, 7, 4, 0), (13, 41, 28, 0), (16, 15, 7, 0), (18, 0, 0, 1), (20, 15, 7, 0), (22, 0, 0, 2), (24, 15, 7, 0), (26, 0, 0, 3), (28, 0, 0, 0)]
theorem ok_L_deliver : tab_L_deliver.all (okE cL_deliver) = true := by decide +kernel
def ed_L_deliver : List (Nat × Instr × Nat) := [(9, .invokevirtual 81, 3), (12, .lastore, 1), (19, .ireturn, 1), (23, .ireturn, 1), (27, .ireturn, 1), (29, .ireturn, 1)]
theorem okd_L_deliver : ed_L_deliver.all (okD cL_deliver) = true := by decide +kernel
def f_L_deliver (S : St) (p0 : Nat) (p1 : Int32) (p2 : Int32) (p3 : Int32) (p4 : Int64) (p5 : Nat) : Option (Int32 × St × Nat) := clc (f_X11_deliver S p0 p1 p2 p3 p4) (fun (o1 : Int64 × St) => stJ o1.2 p5 0 o1.1 fun (S2 : St) => some (0, S2, 0)) (fun n => if n = 1 then some (1, S, 1) else if n = 2 then some (2, S, 1) else if n = 3 then some (3, S, 1) else none)
theorem hc_L_deliver_1 : HC RL cL_deliver 8 [(0, 13, 16, 22), (0, 13, 20, 13), (0, 13, 24, 79)] 9 1 1 := ⟨[], (0, 13, 16, 22), [(0, 13, 20, 13), (0, 13, 24, 79)], 7, 2, 18, 1, rfl, (fun z hz => absurd hz List.not_mem_nil), by decide, by decide, TT_5 (i := 145) rfl rfl, List.mem_filter.mpr ⟨lw_5 (List.mem_of_getElem? (i := 157) rfl), rfl⟩, Or.inr ⟨by decide +kernel, rfl⟩, by decide, rfl, by decide +kernel, by decide, by decide +kernel⟩
theorem hc_L_deliver_2 : HC RL cL_deliver 8 [(0, 13, 16, 22), (0, 13, 20, 13), (0, 13, 24, 79)] 9 2 2 := ⟨[(0, 13, 16, 22)], (0, 13, 20, 13), [(0, 13, 24, 79)], 7, 2, 22, 2, rfl, (List.forall_mem_cons.mpr ⟨⟨by decide, 1, TT_5 (i := 145) rfl rfl, Or.inl ⟨rfl, rfl⟩⟩, fun z hz => absurd hz List.not_mem_nil⟩), by decide, by decide, TT_4 (i := 132) rfl rfl, List.mem_filter.mpr ⟨lw_4 (List.mem_of_getElem? (i := 142) rfl), rfl⟩, Or.inr ⟨by decide +kernel, rfl⟩, by decide, rfl, by decide +kernel, by decide, by decide +kernel⟩
theorem hc_L_deliver_3 : HC RL cL_deliver 8 [(0, 13, 16, 22), (0, 13, 20, 13), (0, 13, 24, 79)] 9 3 3 := ⟨[(0, 13, 16, 22), (0, 13, 20, 13)], (0, 13, 24, 79), [], 7, 2, 26, 3, rfl, (List.forall_mem_cons.mpr ⟨⟨by decide, 1, TT_5 (i := 145) rfl rfl, Or.inr (Or.inl ⟨rfl, rfl⟩)⟩, (List.forall_mem_cons.mpr ⟨⟨by decide, 2, TT_4 (i := 132) rfl rfl, Or.inr (Or.inr ⟨rfl, rfl⟩)⟩, fun z hz => absurd hz List.not_mem_nil⟩)⟩), by decide, by decide, TT_6 (i := 131) rfl rfl, List.mem_filter.mpr ⟨lw_6 (List.mem_of_getElem? (i := 144) rfl), rfl⟩, Or.inr ⟨by decide +kernel, rfl⟩, by decide, rfl, by decide +kernel, by decide, by decide +kernel⟩
set_option maxHeartbeats 4000000 in
set_option maxRecDepth 100000 in
theorem c_L_deliver (S : St) (p0 : Nat) (p1 : Int32) (p2 : Int32) (p3 : Int32) (p4 : Int64) (p5 : Nat) : CtL yL_deliver cL_deliver 8 [(0, 13, 16, 22), (0, 13, 20, 13), (0, 13, 24, 79)] 8 136 [.ref p0, .int p1, .int p2, .int p3, .long p4, .ref p5] [(p0, 10), (p5, 14)] S (f_L_deliver S p0 p1 p2 p3 p4 p5) := by
  refine CtL_of RL rfl (by decide) (Nat.le_of_ble_eq_true rfl) 1 (vs := [some (.ref p0), some (.int p1), some (.int p2), some (.int p3), some (.long p4), none, some (.ref p5), none]) rfl (fun C X E hr tl ht => ?_)
  have t0_ : tT C p0 10 := ht (p0, 10) (by simp)
  have t5_ : tT C p5 14 := ht (p5, 14) (by simp)
  unfold f_L_deliver
  refine s_run X ok_L_deliver 0 7 (pc' := 9) (vs' := [some (.ref p0), some (.int p1), some (.int p2), some (.int p3), some (.long p4), none, some (.ref p5), none]) (st' := [.long p4, .int p3, .int p2, .int p1, .ref p0, .int 0, .ref p5]) rfl ?_
  refine s_callVC (hh := [(0, 13, 16, 22), (0, 13, 20, 13), (0, 13, 24, 79)]) (b := p0) (As := [.int p1, .int p2, .int p3, .long p4]) (rest := [.int 0, .ref p5]) X E hr tl mv_L_81 (c_X11_deliver S p0 p1 p2 p3 p4) rfl (ta1 t0_) rfl (by decide) t0_ rfl rfl (Nat.le_of_ble_eq_true rfl) (Nat.le_of_ble_eq_true rfl) (Nat.le_of_ble_eq_true rfl) (dk okd_L_deliver 0 rfl) (fun j o h => by
      by_cases e1 : j = 1
      · subst e1
        have h : some ((1 : Int32), S, 1) = some o := h
        cases h
        exact ⟨_, rfl, hc_L_deliver_1⟩
      by_cases e2 : j = 2
      · subst e2
        have h : some ((2 : Int32), S, 1) = some o := h
        cases h
        exact ⟨_, rfl, hc_L_deliver_2⟩
      by_cases e3 : j = 3
      · subst e3
        have h : some ((3 : Int32), S, 1) = some o := h
        cases h
        exact ⟨_, rfl, hc_L_deliver_3⟩
      simp [e1, e2, e3] at h) (st' := fun o1 => [.long o1.1, .int 0, .ref p5]) (fun _ => rfl) (fun o1 => ?_)
  refine s_last X t5_ (dk okd_L_deliver 1 rfl) (fun S2 => ?_)
  refine s_run X ok_L_deliver 7 1 (pc' := 28) (vs' := [some (.ref p0), some (.int p1), some (.int p2), some (.int p3), some (.long p4), none, some (.ref p5), none]) (st' := []) rfl ?_
  refine s_run X ok_L_deliver 14 1 (pc' := 29) (vs' := [some (.ref p0), some (.int p1), some (.int p2), some (.int p3), some (.long p4), none, some (.ref p5), none]) (st' := [.int 0]) rfl ?_
  exact s_iretL X hr tl (dk okd_L_deliver 5 rfl)
def tab_L_sales : List En := [(0, 8, 2, 0), (1, 0, 0, 0), (2, 8, 0, 0), (3, 4, 1, 0), (8, 41, 14, 0), (11, 14, 3, 0), (12, 0, 0, 1), (14, 0, 0, 0)]
theorem ok_L_sales : tab_L_sales.all (okE cL_sales) = true := by decide +kernel
def ed_L_sales : List (Nat × Instr × Nat) := [(4, .invokevirtual 85, 3), (7, .lastore, 1), (13, .ireturn, 1), (15, .ireturn, 1)]
theorem okd_L_sales : ed_L_sales.all (okD cL_sales) = true := by decide +kernel
def f_L_sales (S : St) (p0 : Nat) (p1 : Int32) (p2 : Nat) : Option (Int32 × St × Nat) := clc (f_X11_sales S p0 p1) (fun (v1 : Int64) => stJ S p2 0 v1 fun (S2 : St) => some (0, S2, 0)) (fun n => if n = 1 then some (1, S, 1) else none)
theorem hc_L_sales_1 : HC RL cL_sales 4 [(0, 8, 11, 22)] 4 1 1 := ⟨[], (0, 8, 11, 22), [], 3, 1, 12, 1, rfl, (fun z hz => absurd hz List.not_mem_nil), by decide, by decide, TT_5 (i := 145) rfl rfl, List.mem_filter.mpr ⟨lw_5 (List.mem_of_getElem? (i := 157) rfl), rfl⟩, Or.inl ⟨by decide +kernel, by decide, rfl⟩, by decide, rfl, by decide +kernel, by decide, by decide +kernel⟩
set_option maxHeartbeats 4000000 in
set_option maxRecDepth 100000 in
theorem c_L_sales (S : St) (p0 : Nat) (p1 : Int32) (p2 : Nat) : CtL yL_sales cL_sales 4 [(0, 8, 11, 22)] 8 132 [.ref p0, .int p1, .ref p2] [(p0, 10), (p2, 14)] S (f_L_sales S p0 p1 p2) := by
  refine CtL_of RL rfl (by decide) (Nat.le_of_ble_eq_true rfl) 1 (vs := [some (.ref p0), some (.int p1), some (.ref p2), none]) rfl (fun C X E hr tl ht => ?_)
  have t0_ : tT C p0 10 := ht (p0, 10) (by simp)
  have t2_ : tT C p2 14 := ht (p2, 14) (by simp)
  unfold f_L_sales
  refine s_run X ok_L_sales 0 4 (pc' := 4) (vs' := [some (.ref p0), some (.int p1), some (.ref p2), none]) (st' := [.int p1, .ref p0, .int 0, .ref p2]) rfl ?_
  refine s_callVC (hh := [(0, 8, 11, 22)]) (b := p0) (As := [.int p1]) (rest := [.int 0, .ref p2]) X E hr tl mv_L_85 (c_X11_sales S p0 p1) rfl (ta1 t0_) rfl (by decide) t0_ rfl rfl (Nat.le_of_ble_eq_true rfl) (Nat.le_of_ble_eq_true rfl) (Nat.le_of_ble_eq_true rfl) (dk okd_L_sales 0 rfl) (fun j o h => by
      by_cases e1 : j = 1
      · subst e1
        have h : some ((1 : Int32), S, 1) = some o := h
        cases h
        exact ⟨_, rfl, hc_L_sales_1⟩
      simp [e1] at h) (st' := fun v1 => [.long v1, .int 0, .ref p2]) (fun _ => rfl) (fun v1 => ?_)
  refine s_last X t2_ (dk okd_L_sales 1 rfl) (fun S2 => ?_)
  refine s_run X ok_L_sales 4 1 (pc' := 14) (vs' := [some (.ref p0), some (.int p1), some (.ref p2), none]) (st' := []) rfl ?_
  refine s_run X ok_L_sales 7 1 (pc' := 15) (vs' := [some (.ref p0), some (.int p1), some (.ref p2), none]) (st' := [.int 0]) rfl ?_
  exact s_iretL X hr tl (dk okd_L_sales 3 rfl)
def tab_L_salesOf : List En := [(0, 8, 3, 0), (1, 0, 0, 0), (2, 8, 0, 0), (3, 4, 1, 0), (4, 4, 2, 0), (9, 41, 20, 0), (12, 15, 4, 0), (14, 0, 0, 1), (16, 15, 4, 0), (18, 0, 0, 2), (20, 0, 0, 0)]
theorem ok_L_salesOf : tab_L_salesOf.all (okE cL_salesOf) = true := by decide +kernel
def ed_L_salesOf : List (Nat × Instr × Nat) := [(5, .invokevirtual 89, 3), (8, .lastore, 1), (15, .ireturn, 1), (19, .ireturn, 1), (21, .ireturn, 1)]
theorem okd_L_salesOf : ed_L_salesOf.all (okD cL_salesOf) = true := by decide +kernel
def f_L_salesOf (S : St) (p0 : Nat) (p1 : Int32) (p2 : Int32) (p3 : Nat) : Option (Int32 × St × Nat) := clc (f_X11_salesOf S p0 p1 p2) (fun (v1 : Int64) => stJ S p3 0 v1 fun (S2 : St) => some (0, S2, 0)) (fun n => if n = 1 then some (1, S, 1) else if n = 2 then some (2, S, 1) else none)
theorem hc_L_salesOf_1 : HC RL cL_salesOf 5 [(0, 9, 12, 22), (0, 9, 16, 13)] 5 1 1 := ⟨[], (0, 9, 12, 22), [(0, 9, 16, 13)], 4, 2, 14, 1, rfl, (fun z hz => absurd hz List.not_mem_nil), by decide, by decide, TT_5 (i := 145) rfl rfl, List.mem_filter.mpr ⟨lw_5 (List.mem_of_getElem? (i := 157) rfl), rfl⟩, Or.inr ⟨by decide +kernel, rfl⟩, by decide, rfl, by decide +kernel, by decide, by decide +kernel⟩
theorem hc_L_salesOf_2 : HC RL cL_salesOf 5 [(0, 9, 12, 22), (0, 9, 16, 13)] 5 2 2 := ⟨[(0, 9, 12, 22)], (0, 9, 16, 13), [], 4, 2, 18, 2, rfl, (List.forall_mem_cons.mpr ⟨⟨by decide, 1, TT_5 (i := 145) rfl rfl, Or.inl ⟨rfl, rfl⟩⟩, fun z hz => absurd hz List.not_mem_nil⟩), by decide, by decide, TT_4 (i := 132) rfl rfl, List.mem_filter.mpr ⟨lw_4 (List.mem_of_getElem? (i := 142) rfl), rfl⟩, Or.inr ⟨by decide +kernel, rfl⟩, by decide, rfl, by decide +kernel, by decide, by decide +kernel⟩
set_option maxHeartbeats 4000000 in
set_option maxRecDepth 100000 in
theorem c_L_salesOf (S : St) (p0 : Nat) (p1 : Int32) (p2 : Int32) (p3 : Nat) : CtL yL_salesOf cL_salesOf 5 [(0, 9, 12, 22), (0, 9, 16, 13)] 8 133 [.ref p0, .int p1, .int p2, .ref p3] [(p0, 10), (p3, 14)] S (f_L_salesOf S p0 p1 p2 p3) := by
  refine CtL_of RL rfl (by decide) (Nat.le_of_ble_eq_true rfl) 1 (vs := [some (.ref p0), some (.int p1), some (.int p2), some (.ref p3), none]) rfl (fun C X E hr tl ht => ?_)
  have t0_ : tT C p0 10 := ht (p0, 10) (by simp)
  have t3_ : tT C p3 14 := ht (p3, 14) (by simp)
  unfold f_L_salesOf
  refine s_run X ok_L_salesOf 0 5 (pc' := 5) (vs' := [some (.ref p0), some (.int p1), some (.int p2), some (.ref p3), none]) (st' := [.int p2, .int p1, .ref p0, .int 0, .ref p3]) rfl ?_
  refine s_callVC (hh := [(0, 9, 12, 22), (0, 9, 16, 13)]) (b := p0) (As := [.int p1, .int p2]) (rest := [.int 0, .ref p3]) X E hr tl mv_L_89 (c_X11_salesOf S p0 p1 p2) rfl (ta1 t0_) rfl (by decide) t0_ rfl rfl (Nat.le_of_ble_eq_true rfl) (Nat.le_of_ble_eq_true rfl) (Nat.le_of_ble_eq_true rfl) (dk okd_L_salesOf 0 rfl) (fun j o h => by
      by_cases e1 : j = 1
      · subst e1
        have h : some ((1 : Int32), S, 1) = some o := h
        cases h
        exact ⟨_, rfl, hc_L_salesOf_1⟩
      by_cases e2 : j = 2
      · subst e2
        have h : some ((2 : Int32), S, 1) = some o := h
        cases h
        exact ⟨_, rfl, hc_L_salesOf_2⟩
      simp [e1, e2] at h) (st' := fun v1 => [.long v1, .int 0, .ref p3]) (fun _ => rfl) (fun v1 => ?_)
  refine s_last X t3_ (dk okd_L_salesOf 1 rfl) (fun S2 => ?_)
  refine s_run X ok_L_salesOf 5 1 (pc' := 20) (vs' := [some (.ref p0), some (.int p1), some (.int p2), some (.ref p3), none]) (st' := []) rfl ?_
  refine s_run X ok_L_salesOf 10 1 (pc' := 21) (vs' := [some (.ref p0), some (.int p1), some (.int p2), some (.ref p3), none]) (st' := [.int 0]) rfl ?_
  exact s_iretL X hr tl (dk okd_L_salesOf 4 rfl)
def tab_L_creditDue : List En := [(0, 8, 3, 0), (1, 0, 0, 0), (2, 8, 0, 0), (3, 4, 1, 0), (4, 4, 2, 0), (9, 41, 16, 0), (12, 15, 4, 0), (14, 0, 0, 1), (16, 0, 0, 0)]
theorem ok_L_creditDue : tab_L_creditDue.all (okE cL_creditDue) = true := by decide +kernel
def ed_L_creditDue : List (Nat × Instr × Nat) := [(5, .invokevirtual 93, 3), (8, .lastore, 1), (15, .ireturn, 1), (17, .ireturn, 1)]
theorem okd_L_creditDue : ed_L_creditDue.all (okD cL_creditDue) = true := by decide +kernel
def f_L_creditDue (S : St) (p0 : Nat) (p1 : Int32) (p2 : Int32) (p3 : Nat) : Option (Int32 × St × Nat) := clc (f_X11_creditDue S p0 p1 p2) (fun (v1 : Int64) => stJ S p3 0 v1 fun (S2 : St) => some (0, S2, 0)) (fun n => if n = 1 then some (1, S, 1) else none)
theorem hc_L_creditDue_1 : HC RL cL_creditDue 5 [(0, 9, 12, 22)] 5 1 1 := ⟨[], (0, 9, 12, 22), [], 4, 2, 14, 1, rfl, (fun z hz => absurd hz List.not_mem_nil), by decide, by decide, TT_5 (i := 145) rfl rfl, List.mem_filter.mpr ⟨lw_5 (List.mem_of_getElem? (i := 157) rfl), rfl⟩, Or.inr ⟨by decide +kernel, rfl⟩, by decide, rfl, by decide +kernel, by decide, by decide +kernel⟩
set_option maxHeartbeats 4000000 in
set_option maxRecDepth 100000 in
theorem c_L_creditDue (S : St) (p0 : Nat) (p1 : Int32) (p2 : Int32) (p3 : Nat) : CtL yL_creditDue cL_creditDue 5 [(0, 9, 12, 22)] 8 133 [.ref p0, .int p1, .int p2, .ref p3] [(p0, 10), (p3, 14)] S (f_L_creditDue S p0 p1 p2 p3) := by
  refine CtL_of RL rfl (by decide) (Nat.le_of_ble_eq_true rfl) 1 (vs := [some (.ref p0), some (.int p1), some (.int p2), some (.ref p3), none]) rfl (fun C X E hr tl ht => ?_)
  have t0_ : tT C p0 10 := ht (p0, 10) (by simp)
  have t3_ : tT C p3 14 := ht (p3, 14) (by simp)
  unfold f_L_creditDue
  refine s_run X ok_L_creditDue 0 5 (pc' := 5) (vs' := [some (.ref p0), some (.int p1), some (.int p2), some (.ref p3), none]) (st' := [.int p2, .int p1, .ref p0, .int 0, .ref p3]) rfl ?_
  refine s_callVC (hh := [(0, 9, 12, 22)]) (b := p0) (As := [.int p1, .int p2]) (rest := [.int 0, .ref p3]) X E hr tl mv_L_93 (c_X11_creditDue S p0 p1 p2) rfl (ta1 t0_) rfl (by decide) t0_ rfl rfl (Nat.le_of_ble_eq_true rfl) (Nat.le_of_ble_eq_true rfl) (Nat.le_of_ble_eq_true rfl) (dk okd_L_creditDue 0 rfl) (fun j o h => by
      by_cases e1 : j = 1
      · subst e1
        have h : some ((1 : Int32), S, 1) = some o := h
        cases h
        exact ⟨_, rfl, hc_L_creditDue_1⟩
      simp [e1] at h) (st' := fun v1 => [.long v1, .int 0, .ref p3]) (fun _ => rfl) (fun v1 => ?_)
  refine s_last X t3_ (dk okd_L_creditDue 1 rfl) (fun S2 => ?_)
  refine s_run X ok_L_creditDue 5 1 (pc' := 16) (vs' := [some (.ref p0), some (.int p1), some (.int p2), some (.ref p3), none]) (st' := []) rfl ?_
  refine s_run X ok_L_creditDue 8 1 (pc' := 17) (vs' := [some (.ref p0), some (.int p1), some (.int p2), some (.ref p3), none]) (st' := [.int 0]) rfl ?_
  exact s_iretL X hr tl (dk okd_L_creditDue 3 rfl)
