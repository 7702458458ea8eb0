theorem mv_L_100 : MV RL 100 yX11_invoice cX11_invoice 4 (some .long) 3 := ⟨TT_6 (i := 206) rfl rfl, TT_6 (i := 207) rfl rfl, TT_6 (i := 208) rfl rfl, TT_1 (i := 1) rfl rfl, TT_6 (i := 209) rfl rfl, ⟨by decide, by decide, by decide +kernel⟩⟩
theorem mv_L_104 : MV RL 104 yX11_predictDue cX11_predictDue 3 (some .long) 2 := ⟨TT_6 (i := 217) rfl rfl, TT_6 (i := 218) rfl rfl, TT_6 (i := 219) rfl rfl, TT_1 (i := 1) rfl rfl, TT_6 (i := 220) rfl rfl, ⟨by decide, by decide, by decide +kernel⟩⟩
theorem mv_L_107 : MV RL 107 yX11_balance cX11_balance 2 (some .long) 1 := ⟨TT_6 (i := 226) rfl rfl, TT_6 (i := 227) rfl rfl, TT_6 (i := 228) rfl rfl, TT_1 (i := 1) rfl rfl, TT_6 (i := 229) rfl rfl, ⟨by decide, by decide, by decide +kernel⟩⟩
theorem mv_L_110 : MV RL 110 yX11_pay cX11_pay 4 (some .long) 2 := ⟨TT_6 (i := 233) rfl rfl, TT_6 (i := 234) rfl rfl, TT_6 (i := 235) rfl rfl, TT_1 (i := 1) rfl rfl, TT_6 (i := 236) rfl rfl, ⟨by decide, by decide, by decide +kernel⟩⟩
theorem mv_L_113 : MV RL 113 yX11_monthsOverdue cX11_monthsOverdue 2 (some .int) 1 := ⟨TT_7 (i := 4) rfl rfl, TT_7 (i := 5) rfl rfl, TT_7 (i := 6) rfl rfl, TT_1 (i := 1) rfl rfl, TT_7 (i := 7) rfl rfl, ⟨by decide, by decide, by decide +kernel⟩⟩
theorem mv_L_116 : MV RL 116 yX11_payOff cX11_payOff 4 (some .int) 2 := ⟨TT_7 (i := 11) rfl rfl, TT_7 (i := 12) rfl rfl, TT_7 (i := 13) rfl rfl, TT_1 (i := 1) rfl rfl, TT_7 (i := 14) rfl rfl, ⟨by decide, by decide, by decide +kernel⟩⟩
theorem mv_L_120 : MV RL 120 yX11_terminate cX11_terminate 2 (some .boolean) 1 := ⟨TT_7 (i := 22) rfl rfl, TT_7 (i := 23) rfl rfl, TT_7 (i := 24) rfl rfl, TT_1 (i := 1) rfl rfl, TT_7 (i := 25) rfl rfl, ⟨by decide, by decide, by decide +kernel⟩⟩
theorem mv_L_123 : MV RL 123 yX11_status cX11_status 2 (some .int) 1 := ⟨TT_7 (i := 46) rfl rfl, TT_7 (i := 47) rfl rfl, TT_7 (i := 48) rfl rfl, TT_1 (i := 1) rfl rfl, TT_7 (i := 49) rfl rfl, ⟨by decide, by decide, by decide +kernel⟩⟩
theorem mv_L_126 : MV RL 126 yX11_contributions cX11_contributions 2 (some .long) 1 := ⟨TT_7 (i := 53) rfl rfl, TT_7 (i := 54) rfl rfl, TT_7 (i := 55) rfl rfl, TT_1 (i := 1) rfl rfl, TT_7 (i := 56) rfl rfl, ⟨by decide, by decide, by decide +kernel⟩⟩
theorem mv_L_129 : MV RL 129 yX11_spent cX11_spent 2 (some .long) 1 := ⟨TT_7 (i := 60) rfl rfl, TT_7 (i := 61) rfl rfl, TT_7 (i := 62) rfl rfl, TT_1 (i := 1) rfl rfl, TT_7 (i := 63) rfl rfl, ⟨by decide, by decide, by decide +kernel⟩⟩
theorem mv_L_132 : MV RL 132 yX11_campaign cX11_campaign 3 (some .boolean) 1 := ⟨TT_7 (i := 67) rfl rfl, TT_7 (i := 68) rfl rfl, TT_7 (i := 69) rfl rfl, TT_1 (i := 1) rfl rfl, TT_7 (i := 70) rfl rfl, ⟨by decide, by decide, by decide +kernel⟩⟩
theorem mv_L_136 : MV RL 136 yX11_grant cX11_grant 4 (some .boolean) 2 := ⟨TT_7 (i := 75) rfl rfl, TT_7 (i := 76) rfl rfl, TT_7 (i := 77) rfl rfl, TT_1 (i := 1) rfl rfl, TT_7 (i := 78) rfl rfl, ⟨by decide, by decide, by decide +kernel⟩⟩
theorem mv_L_140 : MV RL 140 yX11_allowance cX11_allowance 2 (some .long) 1 := ⟨TT_7 (i := 83) rfl rfl, TT_7 (i := 84) rfl rfl, TT_7 (i := 85) rfl rfl, TT_1 (i := 1) rfl rfl, TT_7 (i := 86) rfl rfl, ⟨by decide, by decide, by decide +kernel⟩⟩
theorem mv_L_143 : MV RL 143 yX11_nationalShare cX11_nationalShare 2 (some .long) 1 := ⟨TT_7 (i := 91) rfl rfl, TT_7 (i := 92) rfl rfl, TT_7 (i := 93) rfl rfl, TT_1 (i := 1) rfl rfl, TT_7 (i := 94) rfl rfl, ⟨by decide, by decide, by decide +kernel⟩⟩
theorem mv_L_146 : MV RL 146 yX11_requestTransfer cX11_requestTransfer 5 (some .boolean) 3 := ⟨TT_7 (i := 102) rfl rfl, TT_7 (i := 103) rfl rfl, TT_7 (i := 104) rfl rfl, TT_1 (i := 1) rfl rfl, TT_7 (i := 105) rfl rfl, ⟨by decide, by decide, by decide +kernel⟩⟩
theorem mv_L_150 : MV RL 150 yX11_vote cX11_vote 4 (some .int) 3 := ⟨TT_7 (i := 118) rfl rfl, TT_7 (i := 119) rfl rfl, TT_7 (i := 120) rfl rfl, TT_1 (i := 1) rfl rfl, TT_7 (i := 121) rfl rfl, ⟨by decide, by decide, by decide +kernel⟩⟩
theorem mv_L_154 : MV RL 154 yX11_exercise cX11_exercise 2 (some .boolean) 1 := ⟨TT_7 (i := 126) rfl rfl, TT_7 (i := 127) rfl rfl, TT_7 (i := 128) rfl rfl, TT_1 (i := 1) rfl rfl, TT_7 (i := 129) rfl rfl, ⟨by decide, by decide, by decide +kernel⟩⟩
theorem mv_L_157 : MV RL 157 yX11_withdraw cX11_withdraw 2 (some .boolean) 1 := ⟨TT_7 (i := 137) rfl rfl, TT_7 (i := 138) rfl rfl, TT_7 (i := 139) rfl rfl, TT_1 (i := 1) rfl rfl, TT_7 (i := 140) rfl rfl, ⟨by decide, by decide, by decide +kernel⟩⟩
theorem mv_L_160 : MV RL 160 yX11_transferState cX11_transferState 2 (some .int) 1 := ⟨TT_7 (i := 145) rfl rfl, TT_7 (i := 146) rfl rfl, TT_7 (i := 147) rfl rfl, TT_1 (i := 1) rfl rfl, TT_7 (i := 148) rfl rfl, ⟨by decide, by decide, by decide +kernel⟩⟩
theorem mv_L_163 : MV RL 163 yX11_transferWait cX11_transferWait 2 (some .int) 1 := ⟨TT_7 (i := 152) rfl rfl, TT_7 (i := 153) rfl rfl, TT_7 (i := 154) rfl rfl, TT_1 (i := 1) rfl rfl, TT_7 (i := 155) rfl rfl, ⟨by decide, by decide, by decide +kernel⟩⟩
theorem mv_L_166 : MV RL 166 yX11_generation cX11_generation 2 (some .int) 1 := ⟨TT_7 (i := 161) rfl rfl, TT_7 (i := 162) rfl rfl, TT_7 (i := 163) rfl rfl, TT_1 (i := 1) rfl rfl, TT_7 (i := 164) rfl rfl, ⟨by decide, by decide, by decide +kernel⟩⟩
theorem mv_L_169 : MV RL 169 yX11_worth cX11_worth 2 (some .int) 1 := ⟨TT_7 (i := 168) rfl rfl, TT_7 (i := 169) rfl rfl, TT_7 (i := 170) rfl rfl, TT_1 (i := 1) rfl rfl, TT_7 (i := 171) rfl rfl, ⟨by decide, by decide, by decide +kernel⟩⟩
theorem mv_L_172 : MV RL 172 yX11_formatInvoice cX11_formatInvoice 3 (some .int) 2 := ⟨TT_7 (i := 175) rfl rfl, TT_7 (i := 176) rfl rfl, TT_7 (i := 177) rfl rfl, TT_1 (i := 1) rfl rfl, TT_7 (i := 178) rfl rfl, ⟨by decide, by decide, by decide +kernel⟩⟩
theorem mv_L_96 : MV RL 96 yX11_closeMonth cX11_closeMonth 1 (some .int) 0 := ⟨TT_6 (i := 198) rfl rfl, TT_6 (i := 199) rfl rfl, TT_6 (i := 200) rfl rfl, TT_1 (i := 1) rfl rfl, TT_6 (i := 201) rfl rfl, ⟨by decide, by decide, by decide +kernel⟩⟩
def tab_L_closeMonth : List En := [(0, 8, 1, 0), (1, 0, 0, 0), (2, 8, 0, 0), (6, 31, 0, 0), (8, 41, 14, 0), (11, 14, 2, 0), (12, 0, 0, 1), (14, 0, 0, 0)]
theorem ok_L_closeMonth : tab_L_closeMonth.all (okE cL_closeMonth) = true := by decide +kernel
def ed_L_closeMonth : List (Nat × Instr × Nat) := [(3, .invokevirtual 96, 3), (7, .lastore, 1), (13, .ireturn, 1), (15, .ireturn, 1)]
theorem okd_L_closeMonth : ed_L_closeMonth.all (okD cL_closeMonth) = true := by decide +kernel
def f_L_closeMonth (S : St) (p0 : Nat) (p1 : Nat) : Option (Int32 × St × Nat) := clc (f_X11_closeMonth S p0) (fun (o1 : Int32 × St) => stJ o1.2 p1 0 (Int32.toInt64 o1.1) fun (S2 : St) => some (0, S2, 0)) (fun n => if n = 3 then some (1, S, 1) else none)
theorem hc_L_closeMonth_3 : HC RL cL_closeMonth 3 [(0, 8, 11, 79)] 3 3 1 := ⟨[], (0, 8, 11, 79), [], 2, 1, 12, 1, rfl, (fun z hz => absurd hz List.not_mem_nil), by decide, by decide, TT_6 (i := 131) rfl rfl, List.mem_filter.mpr ⟨lw_6 (List.mem_of_getElem? (i := 144) rfl), rfl⟩, Or.inl ⟨by decide +kernel, by decide, rfl⟩, by decide, rfl, by decide +kernel, by decide, by decide +kernel⟩
set_option maxHeartbeats 4000000 in
set_option maxRecDepth 100000 in
theorem c_L_closeMonth (S : St) (p0 : Nat) (p1 : Nat) : CtL yL_closeMonth cL_closeMonth 3 [(0, 8, 11, 79)] 8 136 [.ref p0, .ref p1] [(p0, 10), (p1, 14)] S (f_L_closeMonth S p0 p1) := by
  refine CtL_of RL rfl (by decide) (Nat.le_of_ble_eq_true rfl) 1 (vs := [some (.ref p0), some (.ref p1), none]) rfl (fun C X E hr tl ht => ?_)
  have t0_ : tT C p0 10 := ht (p0, 10) (by simp)
  have t1_ : tT C p1 14 := ht (p1, 14) (by simp)
  unfold f_L_closeMonth
  refine s_run X ok_L_closeMonth 0 3 (pc' := 3) (vs' := [some (.ref p0), some (.ref p1), none]) (st' := [.ref p0, .int 0, .ref p1]) rfl ?_
  refine s_callVC (hh := [(0, 8, 11, 79)]) (b := p0) (As := []) (rest := [.int 0, .ref p1]) X E hr tl mv_L_96 (c_X11_closeMonth S p0) rfl (ta1 t0_) rfl (by decide) t0_ rfl rfl (Nat.le_of_ble_eq_true rfl) (Nat.le_of_ble_eq_true rfl) (Nat.le_of_ble_eq_true rfl) (dk okd_L_closeMonth 0 rfl) (fun j o h => by
      by_cases e3 : j = 3
      · subst e3
        have h : some ((1 : Int32), S, 1) = some o := h
        cases h
        exact ⟨_, rfl, hc_L_closeMonth_3⟩
      simp [e3] at h) (st' := fun o1 => [.int o1.1, .int 0, .ref p1]) (fun _ => rfl) (fun o1 => ?_)
  refine s_run X ok_L_closeMonth 3 1 (pc' := 7) (vs' := [some (.ref p0), some (.ref p1), none]) (st' := [.long (Int32.toInt64 o1.1), .int 0, .ref p1]) rfl ?_
  refine s_last X t1_ (dk okd_L_closeMonth 1 rfl) (fun S2 => ?_)
  refine s_run X ok_L_closeMonth 4 1 (pc' := 14) (vs' := [some (.ref p0), some (.ref p1), none]) (st' := []) rfl ?_
  refine s_run X ok_L_closeMonth 7 1 (pc' := 15) (vs' := [some (.ref p0), some (.ref p1), none]) (st' := [.int 0]) rfl ?_
  exact s_iretL X hr tl (dk okd_L_closeMonth 3 rfl)
def tab_L_invoice : List En := [(0, 9, 4, 0), (2, 0, 0, 0), (3, 8, 0, 0), (4, 4, 1, 0), (5, 4, 2, 0), (6, 4, 3, 0), (11, 41, 22, 0), (14, 15, 5, 0), (16, 0, 0, 1), (18, 15, 5, 0), (20, 0, 0, 2), (22, 0, 0, 0)]
theorem ok_L_invoice : tab_L_invoice.all (okE cL_invoice) = true := by decide +kernel
def ed_L_invoice : List (Nat × Instr × Nat) := [(7, .invokevirtual 100, 3), (10, .lastore, 1), (17, .ireturn, 1), (21, .ireturn, 1), (23, .ireturn, 1)]
theorem okd_L_invoice : ed_L_invoice.all (okD cL_invoice) = true := by decide +kernel
def f_L_invoice (S : St) (p0 : Nat) (p1 : Int32) (p2 : Int32) (p3 : Int32) (p4 : Nat) : Option (Int32 × St × Nat) := clc (f_X11_invoice S p0 p1 p2 p3) (fun (v1 : Int64) => stJ S p4 0 v1 fun (S2 : St) => some (0, S2, 0)) (fun n => if n = 1 then some (1, S, 1) else if n = 2 then some (2, S, 1) else none)
theorem hc_L_invoice_1 : HC RL cL_invoice 6 [(0, 11, 14, 22), (0, 11, 18, 13)] 7 1 1 := ⟨[], (0, 11, 14, 22), [(0, 11, 18, 13)], 5, 2, 16, 1, rfl, (fun z hz => absurd hz List.not_mem_nil), by decide, by decide, TT_5 (i := 145) rfl rfl, List.mem_filter.mpr ⟨lw_5 (List.mem_of_getElem? (i := 157) rfl), rfl⟩, Or.inr ⟨by decide +kernel, rfl⟩, by decide, rfl, by decide +kernel, by decide, by decide +kernel⟩
theorem hc_L_invoice_2 : HC RL cL_invoice 6 [(0, 11, 14, 22), (0, 11, 18, 13)] 7 2 2 := ⟨[(0, 11, 14, 22)], (0, 11, 18, 13), [], 5, 2, 20, 2, rfl, (List.forall_mem_cons.mpr ⟨⟨by decide, 1, TT_5 (i := 145) rfl rfl, Or.inl ⟨rfl, rfl⟩⟩, fun z hz => absurd hz List.not_mem_nil⟩), by decide, by decide, TT_4 (i := 132) rfl rfl, List.mem_filter.mpr ⟨lw_4 (List.mem_of_getElem? (i := 142) rfl), rfl⟩, Or.inr ⟨by decide +kernel, rfl⟩, by decide, rfl, by decide +kernel, by decide, by decide +kernel⟩
set_option maxHeartbeats 4000000 in
set_option maxRecDepth 100000 in
theorem c_L_invoice (S : St) (p0 : Nat) (p1 : Int32) (p2 : Int32) (p3 : Int32) (p4 : Nat) : CtL yL_invoice cL_invoice 6 [(0, 11, 14, 22), (0, 11, 18, 13)] 8 134 [.ref p0, .int p1, .int p2, .int p3, .ref p4] [(p0, 10), (p4, 14)] S (f_L_invoice S p0 p1 p2 p3 p4) := by
  refine CtL_of RL rfl (by decide) (Nat.le_of_ble_eq_true rfl) 1 (vs := [some (.ref p0), some (.int p1), some (.int p2), some (.int p3), some (.ref p4), none]) rfl (fun C X E hr tl ht => ?_)
  have t0_ : tT C p0 10 := ht (p0, 10) (by simp)
  have t4_ : tT C p4 14 := ht (p4, 14) (by simp)
  unfold f_L_invoice
  refine s_run X ok_L_invoice 0 6 (pc' := 7) (vs' := [some (.ref p0), some (.int p1), some (.int p2), some (.int p3), some (.ref p4), none]) (st' := [.int p3, .int p2, .int p1, .ref p0, .int 0, .ref p4]) rfl ?_
  refine s_callVC (hh := [(0, 11, 14, 22), (0, 11, 18, 13)]) (b := p0) (As := [.int p1, .int p2, .int p3]) (rest := [.int 0, .ref p4]) X E hr tl mv_L_100 (c_X11_invoice S p0 p1 p2 p3) rfl (ta1 t0_) rfl (by decide) t0_ rfl rfl (Nat.le_of_ble_eq_true rfl) (Nat.le_of_ble_eq_true rfl) (Nat.le_of_ble_eq_true rfl) (dk okd_L_invoice 0 rfl) (fun j o h => by
      by_cases e1 : j = 1
      · subst e1
        have h : some ((1 : Int32), S, 1) = some o := h
        cases h
        exact ⟨_, rfl, hc_L_invoice_1⟩
      by_cases e2 : j = 2
      · subst e2
        have h : some ((2 : Int32), S, 1) = some o := h
        cases h
        exact ⟨_, rfl, hc_L_invoice_2⟩
      simp [e1, e2] at h) (st' := fun v1 => [.long v1, .int 0, .ref p4]) (fun _ => rfl) (fun v1 => ?_)
  refine s_last X t4_ (dk okd_L_invoice 1 rfl) (fun S2 => ?_)
  refine s_run X ok_L_invoice 6 1 (pc' := 22) (vs' := [some (.ref p0), some (.int p1), some (.int p2), some (.int p3), some (.ref p4), none]) (st' := []) rfl ?_
  refine s_run X ok_L_invoice 11 1 (pc' := 23) (vs' := [some (.ref p0), some (.int p1), some (.int p2), some (.int p3), some (.ref p4), none]) (st' := [.int 0]) rfl ?_
  exact s_iretL X hr tl (dk okd_L_invoice 4 rfl)
def tab_L_predictDue : List En := [(0, 8, 3, 0), (1, 0, 0, 0), (2, 8, 0, 0), (3, 4, 1, 0), (4, 4, 2, 0), (9, 41, 20, 0), (12, 15, 4, 0), (14, 0, 0, 1), (16, 15, 4, 0), (18, 0, 0, 2), (20, 0, 0, 0)]
theorem ok_L_predictDue : tab_L_predictDue.all (okE cL_predictDue) = true := by decide +kernel
def ed_L_predictDue : List (Nat × Instr × Nat) := [(5, .invokevirtual 104, 3), (8, .lastore, 1), (15, .ireturn, 1), (19, .ireturn, 1), (21, .ireturn, 1)]
theorem okd_L_predictDue : ed_L_predictDue.all (okD cL_predictDue) = true := by decide +kernel
def f_L_predictDue (S : St) (p0 : Nat) (p1 : Int32) (p2 : Int32) (p3 : Nat) : Option (Int32 × St × Nat) := clc (f_X11_predictDue S p0 p1 p2) (fun (o1 : Int64 × St) => stJ o1.2 p3 0 o1.1 fun (S2 : St) => some (0, S2, 0)) (fun n => if n = 1 then some (1, S, 1) else if n = 2 then some (2, S, 1) else none)
theorem hc_L_predictDue_1 : HC RL cL_predictDue 5 [(0, 9, 12, 22), (0, 9, 16, 13)] 5 1 1 := ⟨[], (0, 9, 12, 22), [(0, 9, 16, 13)], 4, 2, 14, 1, rfl, (fun z hz => absurd hz List.not_mem_nil), by decide, by decide, TT_5 (i := 145) rfl rfl, List.mem_filter.mpr ⟨lw_5 (List.mem_of_getElem? (i := 157) rfl), rfl⟩, Or.inr ⟨by decide +kernel, rfl⟩, by decide, rfl, by decide +kernel, by decide, by decide +kernel⟩
theorem hc_L_predictDue_2 : HC RL cL_predictDue 5 [(0, 9, 12, 22), (0, 9, 16, 13)] 5 2 2 := ⟨[(0, 9, 12, 22)], (0, 9, 16, 13), [], 4, 2, 18, 2, rfl, (List.forall_mem_cons.mpr ⟨⟨by decide, 1, TT_5 (i := 145) rfl rfl, Or.inl ⟨rfl, rfl⟩⟩, fun z hz => absurd hz List.not_mem_nil⟩), by decide, by decide, TT_4 (i := 132) rfl rfl, List.mem_filter.mpr ⟨lw_4 (List.mem_of_getElem? (i := 142) rfl), rfl⟩, Or.inr ⟨by decide +kernel, rfl⟩, by decide, rfl, by decide +kernel, by decide, by decide +kernel⟩
set_option maxHeartbeats 4000000 in
set_option maxRecDepth 100000 in
theorem c_L_predictDue (S : St) (p0 : Nat) (p1 : Int32) (p2 : Int32) (p3 : Nat) : CtL yL_predictDue cL_predictDue 5 [(0, 9, 12, 22), (0, 9, 16, 13)] 8 133 [.ref p0, .int p1, .int p2, .ref p3] [(p0, 10), (p3, 14)] S (f_L_predictDue S p0 p1 p2 p3) := by
  refine CtL_of RL rfl (by decide) (Nat.le_of_ble_eq_true rfl) 1 (vs := [some (.ref p0), some (.int p1), some (.int p2), some (.ref p3), none]) rfl (fun C X E hr tl ht => ?_)
  have t0_ : tT C p0 10 := ht (p0, 10) (by simp)
  have t3_ : tT C p3 14 := ht (p3, 14) (by simp)
  unfold f_L_predictDue
  refine s_run X ok_L_predictDue 0 5 (pc' := 5) (vs' := [some (.ref p0), some (.int p1), some (.int p2), some (.ref p3), none]) (st' := [.int p2, .int p1, .ref p0, .int 0, .ref p3]) rfl ?_
  refine s_callVC (hh := [(0, 9, 12, 22), (0, 9, 16, 13)]) (b := p0) (As := [.int p1, .int p2]) (rest := [.int 0, .ref p3]) X E hr tl mv_L_104 (c_X11_predictDue S p0 p1 p2) rfl (ta1 t0_) rfl (by decide) t0_ rfl rfl (Nat.le_of_ble_eq_true rfl) (Nat.le_of_ble_eq_true rfl) (Nat.le_of_ble_eq_true rfl) (dk okd_L_predictDue 0 rfl) (fun j o h => by
      by_cases e1 : j = 1
      · subst e1
        have h : some ((1 : Int32), S, 1) = some o := h
        cases h
        exact ⟨_, rfl, hc_L_predictDue_1⟩
      by_cases e2 : j = 2
      · subst e2
        have h : some ((2 : Int32), S, 1) = some o := h
        cases h
        exact ⟨_, rfl, hc_L_predictDue_2⟩
      simp [e1, e2] at h) (st' := fun o1 => [.long o1.1, .int 0, .ref p3]) (fun _ => rfl) (fun o1 => ?_)
  refine s_last X t3_ (dk okd_L_predictDue 1 rfl) (fun S2 => ?_)
  refine s_run X ok_L_predictDue 5 1 (pc' := 20) (vs' := [some (.ref p0), some (.int p1), some (.int p2), some (.ref p3), none]) (st' := []) rfl ?_
  refine s_run X ok_L_predictDue 10 1 (pc' := 21) (vs' := [some (.ref p0), some (.int p1), some (.int p2), some (.ref p3), none]) (st' := [.int 0]) rfl ?_
  exact s_iretL X hr tl (dk okd_L_predictDue 4 rfl)
def tab_L_balance : List En := [(0, 8, 2, 0), (1, 0, 0, 0), (2, 8, 0, 0), (3, 4, 1, 0), (8, 41, 14, 0), (11, 14, 3, 0), (12, 0, 0, 1), (14, 0, 0, 0)]
theorem ok_L_balance : tab_L_balance.all (okE cL_balance) = true := by decide +kernel
def ed_L_balance : List (Nat × Instr × Nat) := [(4, .invokevirtual 107, 3), (7, .lastore, 1), (13, .ireturn, 1), (15, .ireturn, 1)]
theorem okd_L_balance : ed_L_balance.all (okD cL_balance) = true := by decide +kernel
def f_L_balance (S : St) (p0 : Nat) (p1 : Int32) (p2 : Nat) : Option (Int32 × St × Nat) := clc (f_X11_balance S p0 p1) (fun (v1 : Int64) => stJ S p2 0 v1 fun (S2 : St) => some (0, S2, 0)) (fun n => if n = 1 then some (1, S, 1) else none)
theorem hc_L_balance_1 : HC RL cL_balance 4 [(0, 8, 11, 22)] 4 1 1 := ⟨[], (0, 8, 11, 22), [], 3, 1, 12, 1, rfl, (fun z hz => absurd hz List.not_mem_nil), by decide, by decide, TT_5 (i := 145) rfl rfl, List.mem_filter.mpr ⟨lw_5 (List.mem_of_getElem? (i := 157) rfl), rfl⟩, Or.inl ⟨by decide +kernel, by decide, rfl⟩, by decide, rfl, by decide +kernel, by decide, by decide +kernel⟩
set_option maxHeartbeats 4000000 in
set_option maxRecDepth 100000 in
theorem c_L_balance (S : St) (p0 : Nat) (p1 : Int32) (p2 : Nat) : CtL yL_balance cL_balance 4 [(0, 8, 11, 22)] 8 132 [.ref p0, .int p1, .ref p2] [(p0, 10), (p2, 14)] S (f_L_balance S p0 p1 p2) := by
  refine CtL_of RL rfl (by decide) (Nat.le_of_ble_eq_true rfl) 1 (vs := [some (.ref p0), some (.int p1), some (.ref p2), none]) rfl (fun C X E hr tl ht => ?_)
  have t0_ : tT C p0 10 := ht (p0, 10) (by simp)
  have t2_ : tT C p2 14 := ht (p2, 14) (by simp)
  unfold f_L_balance
  refine s_run X ok_L_balance 0 4 (pc' := 4) (vs' := [some (.ref p0), some (.int p1), some (.ref p2), none]) (st' := [.int p1, .ref p0, .int 0, .ref p2]) rfl ?_
  refine s_callVC (hh := [(0, 8, 11, 22)]) (b := p0) (As := [.int p1]) (rest := [.int 0, .ref p2]) X E hr tl mv_L_107 (c_X11_balance S p0 p1) rfl (ta1 t0_) rfl (by decide) t0_ rfl rfl (Nat.le_of_ble_eq_true rfl) (Nat.le_of_ble_eq_true rfl) (Nat.le_of_ble_eq_true rfl) (dk okd_L_balance 0 rfl) (fun j o h => by
      by_cases e1 : j = 1
      · subst e1
        have h : some ((1 : Int32), S, 1) = some o := h
        cases h
        exact ⟨_, rfl, hc_L_balance_1⟩
      simp [e1] at h) (st' := fun v1 => [.long v1, .int 0, .ref p2]) (fun _ => rfl) (fun v1 => ?_)
  refine s_last X t2_ (dk okd_L_balance 1 rfl) (fun S2 => ?_)
  refine s_run X ok_L_balance 4 1 (pc' := 14) (vs' := [some (.ref p0), some (.int p1), some (.ref p2), none]) (st' := []) rfl ?_
  refine s_run X ok_L_balance 7 1 (pc' := 15) (vs' := [some (.ref p0), some (.int p1), some (.ref p2), none]) (st' := [.int 0]) rfl ?_
  exact s_iretL X hr tl (dk okd_L_balance 3 rfl)
def tab_L_pay : List En := [(0, 9, 4, 0), (2, 0, 0, 0), (3, 8, 0, 0), (4, 4, 1, 0), (5, 6, 2, 0), (10, 41, 21, 0), (13, 15, 5, 0), (15, 0, 0, 1), (17, 15, 5, 0), (19, 0, 0, 2), (21, 0, 0, 0)]
theorem ok_L_pay : tab_L_pay.all (okE cL_pay) = true := by decide +kernel
def ed_L_pay : List (Nat × Instr × Nat) := [(6, .invokevirtual 110, 3), (9, .lastore, 1), (16, .ireturn, 1), (20, .ireturn, 1), (22, .ireturn, 1)]
theorem okd_L_pay : ed_L_pay.all (okD cL_pay) = true := by decide +kernel
def f_L_pay (S : St) (p0 : Nat) (p1 : Int32) (p2 : Int64) (p3 : Nat) : Option (Int32 × St × Nat) := clc (f_X11_pay S p0 p1 p2) (fun (o1 : Int64 × St) => stJ o1.2 p3 0 o1.1 fun (S2 : St) => some (0, S2, 0)) (fun n => if n = 1 then some (1, S, 1) else if n = 2 then some (2, S, 1) else none)
theorem hc_L_pay_1 : HC RL cL_pay 6 [(0, 10, 13, 22), (0, 10, 17, 13)] 6 1 1 := ⟨[], (0, 10, 13, 22), [(0, 10, 17, 13)], 5, 2, 15, 1, rfl, (fun z hz => absurd hz List.not_mem_nil), by decide, by decide, TT_5 (i := 145) rfl rfl, List.mem_filter.mpr ⟨lw_5 (List.mem_of_getElem? (i := 157) rfl), rfl⟩, Or.inr ⟨by decide +kernel, rfl⟩, by decide, rfl, by decide +kernel, by decide, by decide +kernel⟩
theorem hc_L_pay_2 : HC RL cL_pay 6 [(0, 10, 13, 22), (0, 10, 17, 13)] 6 2 2 := ⟨[(0, 10, 13, 22)], (0, 10, 17, 13), [], 5, 2, 19, 2, rfl, (List.forall_mem_cons.mpr ⟨⟨by decide, 1, TT_5 (i := 145) rfl rfl, Or.inl ⟨rfl, rfl⟩⟩, fun z hz => absurd hz List.not_mem_nil⟩), by decide, by decide, TT_4 (i := 132) rfl rfl, List.mem_filter.mpr ⟨lw_4 (List.mem_of_getElem? (i := 142) rfl), rfl⟩, Or.inr ⟨by decide +kernel, rfl⟩, by decide, rfl, by decide +kernel, by decide, by decide +kernel⟩
set_option maxHeartbeats 4000000 in
set_option maxRecDepth 100000 in
theorem c_L_pay (S : St) (p0 : Nat) (p1 : Int32) (p2 : Int64) (p3 : Nat) : CtL yL_pay cL_pay 6 [(0, 10, 13, 22), (0, 10, 17, 13)] 9 154 [.ref p0, .int p1, .long p2, .ref p3] [(p0, 10), (p3, 14)] S (f_L_pay S p0 p1 p2 p3) := by
  refine CtL_of RL rfl (by decide) (Nat.le_of_ble_eq_true rfl) 1 (vs := [some (.ref p0), some (.int p1), some (.long p2), none, some (.ref p3), none]) rfl (fun C X E hr tl ht => ?_)
  have t0_ : tT C p0 10 := ht (p0, 10) (by simp)
  have t3_ : tT C p3 14 := ht (p3, 14) (by simp)
  unfold f_L_pay
  refine s_run X ok_L_pay 0 5 (pc' := 6) (vs' := [some (.ref p0), some (.int p1), some (.long p2), none, some (.ref p3), none]) (st' := [.long p2, .int p1, .ref p0, .int 0, .ref p3]) rfl ?_
  refine s_callVC (hh := [(0, 10, 13, 22), (0, 10, 17, 13)]) (b := p0) (As := [.int p1, .long p2]) (rest := [.int 0, .ref p3]) X E hr tl mv_L_110 (c_X11_pay S p0 p1 p2) rfl (ta1 t0_) rfl (by decide) t0_ rfl rfl (Nat.le_of_ble_eq_true rfl) (Nat.le_of_ble_eq_true rfl) (Nat.le_of_ble_eq_true rfl) (dk okd_L_pay 0 rfl) (fun j o h => by
      by_cases e1 : j = 1
      · subst e1
        have h : some ((1 : Int32), S, 1) = some o := h
        cases h
        exact ⟨_, rfl, hc_L_pay_1⟩
      by_cases e2 : j = 2
      · subst e2
        have h : some ((2 : Int32), S, 1) = some o := h
        cases h
        exact ⟨_, rfl, hc_L_pay_2⟩
      simp [e1, e2] at h) (st' := fun o1 => [.long o1.1, .int 0, .ref p3]) (fun _ => rfl) (fun o1 => ?_)
  refine s_last X t3_ (dk okd_L_pay 1 rfl) (fun S2 => ?_)
  refine s_run X ok_L_pay 5 1 (pc' := 21) (vs' := [some (.ref p0), some (.int p1), some (.long p2), none, some (.ref p3), none]) (st' := []) rfl ?_
  refine s_run X ok_L_pay 10 1 (pc' := 22) (vs' := [some (.ref p0), some (.int p1), some (.long p2), none, some (.ref p3), none]) (st' := [.int 0]) rfl ?_
  exact s_iretL X hr tl (dk okd_L_pay 4 rfl)
def tab_L_monthsOverdue : List En := [(0, 8, 2, 0), (1, 0, 0, 0), (2, 8, 0, 0), (3, 4, 1, 0), (7, 31, 0, 0), (9, 41, 15, 0), (12, 14, 3, 0), (13, 0, 0, 1), (15, 0, 0, 0)]
theorem ok_L_monthsOverdue : tab_L_monthsOverdue.all (okE cL_monthsOverdue) = true := by decide +kernel
def ed_L_monthsOverdue : List (Nat × Instr × Nat) := [(4, .invokevirtual 113, 3), (8, .lastore, 1), (14, .ireturn, 1), (16, .ireturn, 1)]
theorem okd_L_monthsOverdue : ed_L_monthsOverdue.all (okD cL_monthsOverdue) = true := by decide +kernel
def f_L_monthsOverdue (S : St) (p0 : Nat) (p1 : Int32) (p2 : Nat) : Option (Int32 × St × Nat) := clc (f_X11_monthsOverdue S p0 p1) (fun (v1 : Int32) => stJ S p2 0 (Int32.toInt64 v1) fun (S2 : St) => some (0, S2, 0)) (fun n => if n = 1 then some (1, S, 1) else none)
theorem hc_L_monthsOverdue_1 : HC RL cL_monthsOverdue 4 [(0, 9, 12, 22)] 4 1 1 := ⟨[], (0, 9, 12, 22), [], 3, 1, 13, 1, rfl, (fun z hz => absurd hz List.not_mem_nil), by decide, by decide, TT_5 (i := 145) rfl rfl, List.mem_filter.mpr ⟨lw_5 (List.mem_of_getElem? (i := 157) rfl), rfl⟩, Or.inl ⟨by decide +kernel, by decide, rfl⟩, by decide, rfl, by decide +kernel, by decide, by decide +kernel⟩
set_option maxHeartbeats 4000000 in
set_option maxRecDepth 100000 in
theorem c_L_monthsOverdue (S : St) (p0 : Nat) (p1 : Int32) (p2 : Nat) : CtL yL_monthsOverdue cL_monthsOverdue 4 [(0, 9, 12, 22)] 8 132 [.ref p0, .int p1, .ref p2] [(p0, 10), (p2, 14)] S (f_L_monthsOverdue S p0 p1 p2) := by
  refine CtL_of RL rfl (by decide) (Nat.le_of_ble_eq_true rfl) 1 (vs := [some (.ref p0), some (.int p1), some (.ref p2), none]) rfl (fun C X E hr tl ht => ?_)
  have t0_ : tT C p0 10 := ht (p0, 10) (by simp)
  have t2_ : tT C p2 14 := ht (p2, 14) (by simp)
  unfold f_L_monthsOverdue
  refine s_run X ok_L_monthsOverdue 0 4 (pc' := 4) (vs' := [some (.ref p0), some (.int p1), some (.ref p2), none]) (st' := [.int p1, .ref p0, .int 0, .ref p2]) rfl ?_
  refine s_callVC (hh := [(0, 9, 12, 22)]) (b := p0) (As := [.int p1]) (rest := [.int 0, .ref p2]) X E hr tl mv_L_113 (c_X11_monthsOverdue S p0 p1) rfl (ta1 t0_) rfl (by decide) t0_ rfl rfl (Nat.le_of_ble_eq_true rfl) (Nat.le_of_ble_eq_true rfl) (Nat.le_of_ble_eq_true rfl) (dk okd_L_monthsOverdue 0 rfl) (fun j o h => by
      by_cases e1 : j = 1
      · subst e1
        have h : some ((1 : Int32), S, 1) = some o := h
        cases h
        exact ⟨_, rfl, hc_L_monthsOverdue_1⟩
      simp [e1] at h) (st' := fun v1 => [.int v1, .int 0, .ref p2]) (fun _ => rfl) (fun v1 => ?_)
  refine s_run X ok_L_monthsOverdue 4 1 (pc' := 8) (vs' := [some (.ref p0), some (.int p1), some (.ref p2), none]) (st' := [.long (Int32.toInt64 v1), .int 0, .ref p2]) rfl ?_
  refine s_last X t2_ (dk okd_L_monthsOverdue 1 rfl) (fun S2 => ?_)
  refine s_run X ok_L_monthsOverdue 5 1 (pc' := 15) (vs' := [some (.ref p0), some (.int p1), some (.ref p2), none]) (st' := []) rfl ?_
  refine s_run X ok_L_monthsOverdue 8 1 (pc' := 16) (vs' := [some (.ref p0), some (.int p1), some (.ref p2), none]) (st' := [.int 0]) rfl ?_
  exact s_iretL X hr tl (dk okd_L_monthsOverdue 3 rfl)
def tab_L_payOff : List En := [(0, 9, 4, 0), (2, 0, 0, 0), (3, 8, 0, 0), (4, 4, 1, 0), (5, 6, 2, 0), (9, 31, 0, 0), (11, 41, 22, 0), (14, 15, 5, 0), (16, 0, 0, 1), (18, 15, 5, 0), (20, 0, 0, 2), (22, 0, 0, 0)]
theorem ok_L_payOff : tab_L_payOff.all (okE cL_payOff) = true := by decide +kernel
def ed_L_payOff : List (Nat × Instr × Nat) := [(6, .invokevirtual 116, 3), (10, .lastore, 1), (17, .ireturn, 1), (21, .ireturn, 1), (23, .ireturn, 1)]
theorem okd_L_payOff : ed_L_payOff.all (okD cL_payOff) = true := by decide +kernel
def f_L_payOff (S : St) (p0 : Nat) (p1 : Int32) (p2 : Int64) (p3 : Nat) : Option (Int32 × St × Nat) := clc (f_X11_payOff S p0 p1 p2) (fun (v1 : Int32) => stJ S p3 0 (Int32.toInt64 v1) fun (S2 : St) => some (0, S2, 0)) (fun n => if n = 1 then some (1, S, 1) else if n = 2 then some (2, S, 1) else none)
theorem hc_L_payOff_1 : HC RL cL_payOff 6 [(0, 11, 14, 22), (0, 11, 18, 13)] 6 1 1 := ⟨[], (0, 11, 14, 22), [(0, 11, 18, 13)], 5, 2, 16, 1, rfl, (fun z hz => absurd hz List.not_mem_nil), by decide, by decide, TT_5 (i := 145) rfl rfl, List.mem_filter.mpr ⟨lw_5 (List.mem_of_getElem? (i := 157) rfl), rfl⟩, Or.inr ⟨by decide +kernel, rfl⟩, by decide, rfl, by decide +kernel, by decide, by decide +kernel⟩
theorem hc_L_payOff_2 : HC RL cL_payOff 6 [(0, 11, 14, 22), (0, 11, 18, 13)] 6 2 2 := ⟨[(0, 11, 14, 22)], (0, 11, 18, 13), [], 5, 2, 20, 2, rfl, (List.forall_mem_cons.mpr ⟨⟨by decide, 1, TT_5 (i := 145) rfl rfl, Or.inl ⟨rfl, rfl⟩⟩, fun z hz => absurd hz List.not_mem_nil⟩), by decide, by decide, TT_4 (i := 132) rfl rfl, List.mem_filter.mpr ⟨lw_4 (List.mem_of_getElem? (i := 142) rfl), rfl⟩, Or.inr ⟨by decide +kernel, rfl⟩, by decide, rfl, by decide +kernel, by decide, by decide +kernel⟩
set_option maxHeartbeats 4000000 in
set_option maxRecDepth 100000 in
theorem c_L_payOff (S : St) (p0 : Nat) (p1 : Int32) (p2 : Int64) (p3 : Nat) : CtL yL_payOff cL_payOff 6 [(0, 11, 14, 22), (0, 11, 18, 13)] 9 154 [.ref p0, .int p1, .long p2, .ref p3] [(p0, 10), (p3, 14)] S (f_L_payOff S p0 p1 p2 p3) := by
  refine CtL_of RL rfl (by decide) (Nat.le_of_ble_eq_true rfl) 1 (vs := [some (.ref p0), some (.int p1), some (.long p2), none, some (.ref p3), none]) rfl (fun C X E hr tl ht => ?_)
  have t0_ : tT C p0 10 := ht (p0, 10) (by simp)
  have t3_ : tT C p3 14 := ht (p3, 14) (by simp)
  unfold f_L_payOff
  refine s_run X ok_L_payOff 0 5 (pc' := 6) (vs' := [some (.ref p0), some (.int p1), some (.long p2), none, some (.ref p3), none]) (st' := [.long p2, .int p1, .ref p0, .int 0, .ref p3]) rfl ?_
  refine s_callVC (hh := [(0, 11, 14, 22), (0, 11, 18, 13)]) (b := p0) (As := [.int p1, .long p2]) (rest := [.int 0, .ref p3]) X E hr tl mv_L_116 (c_X11_payOff S p0 p1 p2) rfl (ta1 t0_) rfl (by decide) t0_ rfl rfl (Nat.le_of_ble_eq_true rfl) (Nat.le_of_ble_eq_true rfl) (Nat.le_of_ble_eq_true rfl) (dk okd_L_payOff 0 rfl) (fun j o h => by
      by_cases e1 : j = 1
      · subst e1
        have h : some ((1 : Int32), S, 1) = some o := h
        cases h
        exact ⟨_, rfl, hc_L_payOff_1⟩
      by_cases e2 : j = 2
      · subst e2
        have h : some ((2 : Int32), S, 1) = some o := h
        cases h
        exact ⟨_, rfl, hc_L_payOff_2⟩
      simp [e1, e2] at h) (st' := fun v1 => [.int v1, .int 0, .ref p3]) (fun _ => rfl) (fun v1 => ?_)
  refine s_run X ok_L_payOff 5 1 (pc' := 10) (vs' := [some (.ref p0), some (.int p1), some (.long p2), none, some (.ref p3), none]) (st' := [.long (Int32.toInt64 v1), .int 0, .ref p3]) rfl ?_
  refine s_last X t3_ (dk okd_L_payOff 1 rfl) (fun S2 => ?_)
  refine s_run X ok_L_payOff 6 1 (pc' := 22) (vs' := [some (.ref p0), some (.int p1), some (.long p2), none, some (.ref p3), none]) (st' := []) rfl ?_
  refine s_run X ok_L_payOff 11 1 (pc' := 23) (vs' := [some (.ref p0), some (.int p1), some (.long p2), none, some (.ref p3), none]) (st' := [.int 0]) rfl ?_
  exact s_iretL X hr tl (dk okd_L_payOff 4 rfl)
def tab_L_terminate : List En := [(0, 8, 2, 0), (1, 0, 0, 0), (2, 8, 0, 0), (3, 4, 1, 0), (10, 3, 1, 0), (11, 41, 15, 0), (14, 3, 0, 0), (16, 41, 22, 0), (19, 14, 3, 0), (20, 0, 0, 1), (22, 0, 0, 0)]
theorem ok_L_terminate : tab_L_terminate.all (okE cL_terminate) = true := by decide +kernel
def ed_L_terminate : List (Nat × Instr × Nat) := [(4, .invokevirtual 120, 3), (7, .ifCond .eq 7, 3), (15, .lastore, 1), (21, .ireturn, 1), (23, .ireturn, 1)]
theorem okd_L_terminate : ed_L_terminate.all (okD cL_terminate) = true := by decide +kernel
def f_L_terminate (S : St) (p0 : Nat) (p1 : Int32) (p2 : Nat) : Option (Int32 × St × Nat) := clc (f_X11_terminate S p0 p1) (fun (o1 : Int32 × St) => jn (κ := Int64 → Option (Int32 × St × Nat)) (fun x2 => stJ o1.2 p2 0 x2 fun (S5 : St) => some (0, S5, 0)) fun k3 => if o1.1 = 0 then (k3 0) else (k3 1)) (fun n => if n = 1 then some (1, S, 1) else none)
theorem hc_L_terminate_1 : HC RL cL_terminate 4 [(0, 16, 19, 22)] 4 1 1 := ⟨[], (0, 16, 19, 22), [], 3, 1, 20, 1, rfl, (fun z hz => absurd hz List.not_mem_nil), by decide, by decide, TT_5 (i := 145) rfl rfl, List.mem_filter.mpr ⟨lw_5 (List.mem_of_getElem? (i := 157) rfl), rfl⟩, Or.inl ⟨by decide +kernel, by decide, rfl⟩, by decide, rfl, by decide +kernel, by decide, by decide +kernel⟩
set_option maxHeartbeats 4000000 in
set_option maxRecDepth 100000 in
theorem c_L_terminate (S : St) (p0 : Nat) (p1 : Int32) (p2 : Nat) : CtL yL_terminate cL_terminate 4 [(0, 16, 19, 22)] 8 132 [.ref p0, .int p1, .ref p2] [(p0, 10), (p2, 14)] S (f_L_terminate S p0 p1 p2) := by
  refine CtL_of RL rfl (by decide) (Nat.le_of_ble_eq_true rfl) 1 (vs := [some (.ref p0), some (.int p1), some (.ref p2), none]) rfl (fun C X E hr tl ht => ?_)
  have t0_ : tT C p0 10 := ht (p0, 10) (by simp)
  have t2_ : tT C p2 14 := ht (p2, 14) (by simp)
  unfold f_L_terminate
  refine s_run X ok_L_terminate 0 4 (pc' := 4) (vs' := [some (.ref p0), some (.int p1), some (.ref p2), none]) (st' := [.int p1, .ref p0, .int 0, .ref p2]) rfl ?_
  refine s_callVC (hh := [(0, 16, 19, 22)]) (b := p0) (As := [.int p1]) (rest := [.int 0, .ref p2]) X E hr tl mv_L_120 (c_X11_terminate S p0 p1) rfl (ta1 t0_) rfl (by decide) t0_ rfl rfl (Nat.le_of_ble_eq_true rfl) (Nat.le_of_ble_eq_true rfl) (Nat.le_of_ble_eq_true rfl) (dk okd_L_terminate 0 rfl) (fun j o h => by
      by_cases e1 : j = 1
      · subst e1
        have h : some ((1 : Int32), S, 1) = some o := h
        cases h
        exact ⟨_, rfl, hc_L_terminate_1⟩
      simp [e1] at h) (st' := fun o1 => [.int o1.1, .int 0, .ref p2]) (fun _ => rfl) (fun o1 => ?_)
  refine s_jn (κ := Int64 → Option (Int32 × St × Nat)) (fun k3 => ∀ (x2 : Int64), Jd C 4 (QL C) o1.2 15 [none, none, none, none] [.long x2, .int 0, .ref p2] (k3 x2)) (fun x2 => ?_) (fun k3 h4 => ?_)
  · refine s_last X t2_ (dk okd_L_terminate 2 rfl) (fun S5 => ?_)
    refine s_run X ok_L_terminate 7 1 (pc' := 22) (vs' := [none, none, none, none]) (st' := []) rfl ?_
    refine s_run X ok_L_terminate 10 1 (pc' := 23) (vs' := [none, none, none, none]) (st' := [.int 0]) rfl ?_
    exact s_iretL X hr tl (dk okd_L_terminate 4 rfl)
  · refine s_if_eq (tgt := 14) X (dk okd_L_terminate 1 rfl) (by decide) ?_ ?_
    · refine s_run X ok_L_terminate 6 1 (pc' := 15) (vs' := [some (.ref p0), some (.int p1), some (.ref p2), none]) (st' := [.long 0, .int 0, .ref p2]) rfl ?_
      exact s_less [false, false, false, false] rfl (h4 0)
    · refine s_run X ok_L_terminate 4 2 (pc' := 15) (vs' := [some (.ref p0), some (.int p1), some (.ref p2), none]) (st' := [.long 1, .int 0, .ref p2]) rfl ?_
      exact s_less [false, false, false, false] rfl (h4 1)
def tab_L_status : List En := [(0, 8, 2, 0), (1, 0, 0, 0), (2, 8, 0, 0), (3, 4, 1, 0), (7, 31, 0, 0), (9, 41, 15, 0), (12, 14, 3, 0), (13, 0, 0, 1), (15, 0, 0, 0)]
theorem ok_L_status : tab_L_status.all (okE cL_status) = true := by decide +kernel
def ed_L_status : List (Nat × Instr × Nat) := [(4, .invokevirtual 123, 3), (8, .lastore, 1), (14, .ireturn, 1), (16, .ireturn, 1)]
theorem okd_L_status : ed_L_status.all (okD cL_status) = true := by decide +kernel
def f_L_status (S : St) (p0 : Nat) (p1 : Int32) (p2 : Nat) : Option (Int32 × St × Nat) := clc (f_X11_status S p0 p1) (fun (v1 : Int32) => stJ S p2 0 (Int32.toInt64 v1) fun (S2 : St) => some (0, S2, 0)) (fun n => if n = 1 then some (1, S, 1) else none)
theorem hc_L_status_1 : HC RL cL_status 4 [(0, 9, 12, 22)] 4 1 1 := ⟨[], (0, 9, 12, 22), [], 3, 1, 13, 1, rfl, (fun z hz => absurd hz List.not_mem_nil), by decide, by decide, TT_5 (i := 145) rfl rfl, List.mem_filter.mpr ⟨lw_5 (List.mem_of_getElem? (i := 157) rfl), rfl⟩, Or.inl ⟨by decide +kernel, by decide, rfl⟩, by decide, rfl, by decide +kernel, by decide, by decide +kernel⟩
set_option maxHeartbeats 4000000 in
set_option maxRecDepth 100000 in
theorem c_L_status (S : St) (p0 : Nat) (p1 : Int32) (p2 : Nat) : CtL yL_status cL_status 4 [(0, 9, 12, 22)] 8 132 [.ref p0, .int p1, .ref p2] [(p0, 10), (p2, 14)] S (f_L_status S p0 p1 p2) := by
  refine CtL_of RL rfl (by decide) (Nat.le_of_ble_eq_true rfl) 1 (vs := [some (.ref p0), some (.int p1), some (.ref p2), none]) rfl (fun C X E hr tl ht => ?_)
  have t0_ : tT C p0 10 := ht (p0, 10) (by simp)
  have t2_ : tT C p2 14 := ht (p2, 14) (by simp)
  unfold f_L_status
  refine s_run X ok_L_status 0 4 (pc' := 4) (vs' := [some (.ref p0), some (.int p1), some (.ref p2), none]) (st' := [.int p1, .ref p0, .int 0, .ref p2]) rfl ?_
  refine s_callVC (hh := [(0, 9, 12, 22)]) (b := p0) (As := [.int p1]) (rest := [.int 0, .ref p2]) X E hr tl mv_L_123 (c_X11_status S p0 p1) rfl (ta1 t0_) rfl (by decide) t0_ rfl rfl (Nat.le_of_ble_eq_true rfl) (Nat.le_of_ble_eq_true rfl) (Nat.le_of_ble_eq_true rfl) (dk okd_L_status 0 rfl) (fun j o h => by
      by_cases e1 : j = 1
      · subst e1
        have h : some ((1 : Int32), S, 1) = some o := h
        cases h
        exact ⟨_, rfl, hc_L_status_1⟩
      simp [e1] at h) (st' := fun v1 => [.int v1, .int 0, .ref p2]) (fun _ => rfl) (fun v1 => ?_)
  refine s_run X ok_L_status 4 1 (pc' := 8) (vs' := [some (.ref p0), some (.int p1), some (.ref p2), none]) (st' := [.long (Int32.toInt64 v1), .int 0, .ref p2]) rfl ?_
  refine s_last X t2_ (dk okd_L_status 1 rfl) (fun S2 => ?_)
  refine s_run X ok_L_status 5 1 (pc' := 15) (vs' := [some (.ref p0), some (.int p1), some (.ref p2), none]) (st' := []) rfl ?_
  refine s_run X ok_L_status 8 1 (pc' := 16) (vs' := [some (.ref p0), some (.int p1), some (.ref p2), none]) (st' := [.int 0]) rfl ?_
  exact s_iretL X hr tl (dk okd_L_status 3 rfl)
def tab_L_contributions : List En := [(0, 8, 2, 0), (1, 0, 0, 0), (2, 8, 0, 0), (3, 4, 1, 0), (8, 41, 14, 0), (11, 14, 3, 0), (12, 0, 0, 1), (14, 0, 0, 0)]
theorem ok_L_contributions : tab_L_contributions.all (okE cL_contributions) = true := by decide +kernel
def ed_L_contributions : List (Nat × Instr × Nat) := [(4, .invokevirtual 126, 3), (7, .lastore, 1), (13, .ireturn, 1), (15, .ireturn, 1)]
theorem okd_L_contributions : ed_L_contributions.all (okD cL_contributions) = true := by decide +kernel
def f_L_contributions (S : St) (p0 : Nat) (p1 : Int32) (p2 : Nat) : Option (Int32 × St × Nat) := clc (f_X11_contributions S p0 p1) (fun (v1 : Int64) => stJ S p2 0 v1 fun (S2 : St) => some (0, S2, 0)) (fun n => if n = 1 then some (1, S, 1) else none)
theorem hc_L_contributions_1 : HC RL cL_contributions 4 [(0, 8, 11, 22)] 4 1 1 := ⟨[], (0, 8, 11, 22), [], 3, 1, 12, 1, rfl, (fun z hz => absurd hz List.not_mem_nil), by decide, by decide, TT_5 (i := 145) rfl rfl, List.mem_filter.mpr ⟨lw_5 (List.mem_of_getElem? (i := 157) rfl), rfl⟩, Or.inl ⟨by decide +kernel, by decide, rfl⟩, by decide, rfl, by decide +kernel, by decide, by decide +kernel⟩
set_option maxHeartbeats 4000000 in
set_option maxRecDepth 100000 in
theorem c_L_contributions (S : St) (p0 : Nat) (p1 : Int32) (p2 : Nat) : CtL yL_contributions cL_contributions 4 [(0, 8, 11, 22)] 8 132 [.ref p0, .int p1, .ref p2] [(p0, 10), (p2, 14)] S (f_L_contributions S p0 p1 p2) := by
  refine CtL_of RL rfl (by decide) (Nat.le_of_ble_eq_true rfl) 1 (vs := [some (.ref p0), some (.int p1), some (.ref p2), none]) rfl (fun C X E hr tl ht => ?_)
  have t0_ : tT C p0 10 := ht (p0, 10) (by simp)
  have t2_ : tT C p2 14 := ht (p2, 14) (by simp)
  unfold f_L_contributions
  refine s_run X ok_L_contributions 0 4 (pc' := 4) (vs' := [some (.ref p0), some (.int p1), some (.ref p2), none]) (st' := [.int p1, .ref p0, .int 0, .ref p2]) rfl ?_
  refine s_callVC (hh := [(0, 8, 11, 22)]) (b := p0) (As := [.int p1]) (rest := [.int 0, .ref p2]) X E hr tl mv_L_126 (c_X11_contributions S p0 p1) rfl (ta1 t0_) rfl (by decide) t0_ rfl rfl (Nat.le_of_ble_eq_true rfl) (Nat.le_of_ble_eq_true rfl) (Nat.le_of_ble_eq_true rfl) (dk okd_L_contributions 0 rfl) (fun j o h => by
      by_cases e1 : j = 1
      · subst e1
        have h : some ((1 : Int32), S, 1) = some o := h
        cases h
        exact ⟨_, rfl, hc_L_contributions_1⟩
      simp [e1] at h) (st' := fun v1 => [.long v1, .int 0, .ref p2]) (fun _ => rfl) (fun v1 => ?_)
  refine s_last X t2_ (dk okd_L_contributions 1 rfl) (fun S2 => ?_)
  refine s_run X ok_L_contributions 4 1 (pc' := 14) (vs' := [some (.ref p0), some (.int p1), some (.ref p2), none]) (st' := []) rfl ?_
  refine s_run X ok_L_contributions 7 1 (pc' := 15) (vs' := [some (.ref p0), some (.int p1), some (.ref p2), none]) (st' := [.int 0]) rfl ?_
  exact s_iretL X hr tl (dk okd_L_contributions 3 rfl)
def tab_L_spent : List En := [(0, 8, 2, 0), (1, 0, 0, 0), (2, 8, 0, 0), (3, 4, 1, 0), (8, 41, 14, 0), (11, 14, 3, 0), (12, 0, 0, 1), (14, 0, 0, 0)]
theorem ok_L_spent : tab_L_spent.all (okE cL_spent) = true := by decide +kernel
def ed_L_spent : List (Nat × Instr × Nat) := [(4, .invokevirtual 129, 3), (7, .lastore, 1), (13, .ireturn, 1), (15, .ireturn, 1)]
theorem okd_L_spent : ed_L_spent.all (okD cL_spent) = true := by decide +kernel
def f_L_spent (S : St) (p0 : Nat) (p1 : Int32) (p2 : Nat) : Option (Int32 × St × Nat) := clc (f_X11_spent S p0 p1) (fun (v1 : Int64) => stJ S p2 0 v1 fun (S2 : St) => some (0, S2, 0)) (fun n => if n = 2 then some (1, S, 1) else none)
theorem hc_L_spent_2 : HC RL cL_spent 4 [(0, 8, 11, 13)] 4 2 1 := ⟨[], (0, 8, 11, 13), [], 3, 1, 12, 1, rfl, (fun z hz => absurd hz List.not_mem_nil), by decide, by decide, TT_4 (i := 132) rfl rfl, List.mem_filter.mpr ⟨lw_4 (List.mem_of_getElem? (i := 142) rfl), rfl⟩, Or.inl ⟨by decide +kernel, by decide, rfl⟩, by decide, rfl, by decide +kernel, by decide, by decide +kernel⟩
set_option maxHeartbeats 4000000 in
set_option maxRecDepth 100000 in
theorem c_L_spent (S : St) (p0 : Nat) (p1 : Int32) (p2 : Nat) : CtL yL_spent cL_spent 4 [(0, 8, 11, 13)] 8 131 [.ref p0, .int p1, .ref p2] [(p0, 10), (p2, 14)] S (f_L_spent S p0 p1 p2) := by
  refine CtL_of RL rfl (by decide) (Nat.le_of_ble_eq_true rfl) 1 (vs := [some (.ref p0), some (.int p1), some (.ref p2), none]) rfl (fun C X E hr tl ht => ?_)
  have t0_ : tT C p0 10 := ht (p0, 10) (by simp)
  have t2_ : tT C p2 14 := ht (p2, 14) (by simp)
  unfold f_L_spent
  refine s_run X ok_L_spent 0 4 (pc' := 4) (vs' := [some (.ref p0), some (.int p1), some (.ref p2), none]) (st' := [.int p1, .ref p0, .int 0, .ref p2]) rfl ?_
  refine s_callVC (hh := [(0, 8, 11, 13)]) (b := p0) (As := [.int p1]) (rest := [.int 0, .ref p2]) X E hr tl mv_L_129 (c_X11_spent S p0 p1) rfl (ta1 t0_) rfl (by decide) t0_ rfl rfl (Nat.le_of_ble_eq_true rfl) (Nat.le_of_ble_eq_true rfl) (Nat.le_of_ble_eq_true rfl) (dk okd_L_spent 0 rfl) (fun j o h => by
      by_cases e2 : j = 2
      · subst e2
        have h : some ((1 : Int32), S, 1) = some o := h
        cases h
        exact ⟨_, rfl, hc_L_spent_2⟩
      simp [e2] at h) (st' := fun v1 => [.long v1, .int 0, .ref p2]) (fun _ => rfl) (fun v1 => ?_)
  refine s_last X t2_ (dk okd_L_spent 1 rfl) (fun S2 => ?_)
  refine s_run X ok_L_spent 4 1 (pc' := 14) (vs' := [some (.ref p0), some (.int p1), some (.ref p2), none]) (st' := []) rfl ?_
  refine s_run X ok_L_spent 7 1 (pc' := 15) (vs' := [some (.ref p0), some (.int p1), some (.ref p2), none]) (st' := [.int 0]) rfl ?_
  exact s_iretL X hr tl (dk okd_L_spent 3 rfl)
def tab_L_campaign : List En := [(0, 8, 3, 0), (1, 0, 0, 0), (2, 8, 0, 0), (3, 6, 1, 0), (10, 3, 1, 0), (11, 41, 15, 0), (14, 3, 0, 0), (16, 41, 23, 0), (19, 15, 4, 0), (21, 0, 0, 1), (23, 0, 0, 0)]
theorem ok_L_campaign : tab_L_campaign.all (okE cL_campaign) = true := by decide +kernel
def ed_L_campaign : List (Nat × Instr × Nat) := [(4, .invokevirtual 132, 3), (7, .ifCond .eq 7, 3), (15, .lastore, 1), (22, .ireturn, 1), (24, .ireturn, 1)]
theorem okd_L_campaign : ed_L_campaign.all (okD cL_campaign) = true := by decide +kernel
def f_L_campaign (S : St) (p0 : Nat) (p1 : Int64) (p2 : Nat) : Option (Int32 × St × Nat) := clc (f_X11_campaign S p0 p1) (fun (o1 : Int32 × St) => jn (κ := Int64 → Option (Int32 × St × Nat)) (fun x2 => stJ o1.2 p2 0 x2 fun (S5 : St) => some (0, S5, 0)) fun k3 => if o1.1 = 0 then (k3 0) else (k3 1)) (fun n => if n = 2 then some (1, S, 1) else none)
theorem hc_L_campaign_2 : HC RL cL_campaign 5 [(0, 16, 19, 13)] 4 2 1 := ⟨[], (0, 16, 19, 13), [], 4, 2, 21, 1, rfl, (fun z hz => absurd hz List.not_mem_nil), by decide, by decide, TT_4 (i := 132) rfl rfl, List.mem_filter.mpr ⟨lw_4 (List.mem_of_getElem? (i := 142) rfl), rfl⟩, Or.inr ⟨by decide +kernel, rfl⟩, by decide, rfl, by decide +kernel, by decide, by decide +kernel⟩
set_option maxHeartbeats 4000000 in
set_option maxRecDepth 100000 in
theorem c_L_campaign (S : St) (p0 : Nat) (p1 : Int64) (p2 : Nat) : CtL yL_campaign cL_campaign 5 [(0, 16, 19, 13)] 9 153 [.ref p0, .long p1, .ref p2] [(p0, 10), (p2, 14)] S (f_L_campaign S p0 p1 p2) := by
  refine CtL_of RL rfl (by decide) (Nat.le_of_ble_eq_true rfl) 1 (vs := [some (.ref p0), some (.long p1), none, some (.ref p2), none]) rfl (fun C X E hr tl ht => ?_)
  have t0_ : tT C p0 10 := ht (p0, 10) (by simp)
  have t2_ : tT C p2 14 := ht (p2, 14) (by simp)
  unfold f_L_campaign
  refine s_run X ok_L_campaign 0 4 (pc' := 4) (vs' := [some (.ref p0), some (.long p1), none, some (.ref p2), none]) (st' := [.long p1, .ref p0, .int 0, .ref p2]) rfl ?_
  refine s_callVC (hh := [(0, 16, 19, 13)]) (b := p0) (As := [.long p1]) (rest := [.int 0, .ref p2]) X E hr tl mv_L_132 (c_X11_campaign S p0 p1) rfl (ta1 t0_) rfl (by decide) t0_ rfl rfl (Nat.le_of_ble_eq_true rfl) (Nat.le_of_ble_eq_true rfl) (Nat.le_of_ble_eq_true rfl) (dk okd_L_campaign 0 rfl) (fun j o h => by
      by_cases e2 : j = 2
      · subst e2
        have h : some ((1 : Int32), S, 1) = some o := h
        cases h
        exact ⟨_, rfl, hc_L_campaign_2⟩
      simp [e2] at h) (st' := fun o1 => [.int o1.1, .int 0, .ref p2]) (fun _ => rfl) (fun o1 => ?_)
  refine s_jn (κ := Int64 → Option (Int32 × St × Nat)) (fun k3 => ∀ (x2 : Int64), Jd C 5 (QL C) o1.2 15 [none, none, none, none, none] [.long x2, .int 0, .ref p2] (k3 x2)) (fun x2 => ?_) (fun k3 h4 => ?_)
  · refine s_last X t2_ (dk okd_L_campaign 2 rfl) (fun S5 => ?_)
    refine s_run X ok_L_campaign 7 1 (pc' := 23) (vs' := [none, none, none, none, none]) (st' := []) rfl ?_
    refine s_run X ok_L_campaign 10 1 (pc' := 24) (vs' := [none, none, none, none, none]) (st' := [.int 0]) rfl ?_
    exact s_iretL X hr tl (dk okd_L_campaign 4 rfl)
  · refine s_if_eq (tgt := 14) X (dk okd_L_campaign 1 rfl) (by decide) ?_ ?_
    · refine s_run X ok_L_campaign 6 1 (pc' := 15) (vs' := [some (.ref p0), some (.long p1), none, some (.ref p2), none]) (st' := [.long 0, .int 0, .ref p2]) rfl ?_
      exact s_less [false, false, false, false, false] rfl (h4 0)
    · refine s_run X ok_L_campaign 4 2 (pc' := 15) (vs' := [some (.ref p0), some (.long p1), none, some (.ref p2), none]) (st' := [.long 1, .int 0, .ref p2]) rfl ?_
      exact s_less [false, false, false, false, false] rfl (h4 1)
def tab_L_grant : List En := [(0, 9, 4, 0), (2, 0, 0, 0), (3, 8, 0, 0), (4, 4, 1, 0), (5, 6, 2, 0), (12, 3, 1, 0), (13, 41, 17, 0), (16, 3, 0, 0), (18, 41, 29, 0), (21, 15, 5, 0), (23, 0, 0, 1), (25, 15, 5, 0), (27, 0, 0, 2), (29, 0, 0, 0)]
theorem ok_L_grant : tab_L_grant.all (okE cL_grant) = true := by decide +kernel
def ed_L_grant : List (Nat × Instr × Nat) := [(6, .invokevirtual 136, 3), (9, .ifCond .eq 7, 3), (17, .lastore, 1), (24, .ireturn, 1), (28, .ireturn, 1), (30, .ireturn, 1)]
theorem okd_L_grant : ed_L_grant.all (okD cL_grant) = true := by decide +kernel
def f_L_grant (S : St) (p0 : Nat) (p1 : Int32) (p2 : Int64) (p3 : Nat) : Option (Int32 × St × Nat) := clc (f_X11_grant S p0 p1 p2) (fun (o1 : Int32 × St) => jn (κ := Int64 → Option (Int32 × St × Nat)) (fun x2 => stJ o1.2 p3 0 x2 fun (S5 : St) => some (0, S5, 0)) fun k3 => if o1.1 = 0 then (k3 0) else (k3 1)) (fun n => if n = 1 then some (1, S, 1) else if n = 2 then some (2, S, 1) else none)
theorem hc_L_grant_1 : HC RL cL_grant 6 [(0, 18, 21, 22), (0, 18, 25, 13)] 6 1 1 := ⟨[], (0, 18, 21, 22), [(0, 18, 25, 13)], 5, 2, 23, 1, rfl, (fun z hz => absurd hz List.not_mem_nil), by decide, by decide, TT_5 (i := 145) rfl rfl, List.mem_filter.mpr ⟨lw_5 (List.mem_of_getElem? (i := 157) rfl), rfl⟩, Or.inr ⟨by decide +kernel, rfl⟩, by decide, rfl, by decide +kernel, by decide, by decide +kernel⟩
theorem hc_L_grant_2 : HC RL cL_grant 6 [(0, 18, 21, 22), (0, 18, 25, 13)] 6 2 2 := ⟨[(0, 18, 21, 22)], (0, 18, 25, 13), [], 5, 2, 27, 2, rfl, (List.forall_mem_cons.mpr ⟨⟨by decide, 1, TT_5 (i := 145) rfl rfl, Or.inl ⟨rfl, rfl⟩⟩, fun z hz => absurd hz List.not_mem_nil⟩), by decide, by decide, TT_4 (i := 132) rfl rfl, List.mem_filter.mpr ⟨lw_4 (List.mem_of_getElem? (i := 142) rfl), rfl⟩, Or.inr ⟨by decide +kernel, rfl⟩, by decide, rfl, by decide +kernel, by decide, by decide +kernel⟩
set_option maxHeartbeats 4000000 in
set_option maxRecDepth 100000 in
theorem c_L_grant (S : St) (p0 : Nat) (p1 : Int32) (p2 : Int64) (p3 : Nat) : CtL yL_grant cL_grant 6 [(0, 18, 21, 22), (0, 18, 25, 13)] 9 154 [.ref p0, .int p1, .long p2, .ref p3] [(p0, 10), (p3, 14)] S (f_L_grant S p0 p1 p2 p3) := by
  refine CtL_of RL rfl (by decide) (Nat.le_of_ble_eq_true rfl) 1 (vs := [some (.ref p0), some (.int p1), some (.long p2), none, some (.ref p3), none]) rfl (fun C X E hr tl ht => ?_)
  have t0_ : tT C p0 10 := ht (p0, 10) (by simp)
  have t3_ : tT C p3 14 := ht (p3, 14) (by simp)
  unfold f_L_grant
  refine s_run X ok_L_grant 0 5 (pc' := 6) (vs' := [some (.ref p0), some (.int p1), some (.long p2), none, some (.ref p3), none]) (st' := [.long p2, .int p1, .ref p0, .int 0, .ref p3]) rfl ?_
  refine s_callVC (hh := [(0, 18, 21, 22), (0, 18, 25, 13)]) (b := p0) (As := [.int p1, .long p2]) (rest := [.int 0, .ref p3]) X E hr tl mv_L_136 (c_X11_grant S p0 p1 p2) rfl (ta1 t0_) rfl (by decide) t0_ rfl rfl (Nat.le_of_ble_eq_true rfl) (Nat.le_of_ble_eq_true rfl) (Nat.le_of_ble_eq_true rfl) (dk okd_L_grant 0 rfl) (fun j o h => by
      by_cases e1 : j = 1
      · subst e1
        have h : some ((1 : Int32), S, 1) = some o := h
        cases h
        exact ⟨_, rfl, hc_L_grant_1⟩
      by_cases e2 : j = 2
      · subst e2
        have h : some ((2 : Int32), S, 1) = some o := h
        cases h
        exact ⟨_, rfl, hc_L_grant_2⟩
      simp [e1, e2] at h) (st' := fun o1 => [.int o1.1, .int 0, .ref p3]) (fun _ => rfl) (fun o1 => ?_)
  refine s_jn (κ := Int64 → Option (Int32 × St × Nat)) (fun k3 => ∀ (x2 : Int64), Jd C 6 (QL C) o1.2 17 [none, none, none, none, none, none] [.long x2, .int 0, .ref p3] (k3 x2)) (fun x2 => ?_) (fun k3 h4 => ?_)
  · refine s_last X t3_ (dk okd_L_grant 2 rfl) (fun S5 => ?_)
    refine s_run X ok_L_grant 8 1 (pc' := 29) (vs' := [none, none, none, none, none, none]) (st' := []) rfl ?_
    refine s_run X ok_L_grant 13 1 (pc' := 30) (vs' := [none, none, none, none, none, none]) (st' := [.int 0]) rfl ?_
    exact s_iretL X hr tl (dk okd_L_grant 5 rfl)
  · refine s_if_eq (tgt := 16) X (dk okd_L_grant 1 rfl) (by decide) ?_ ?_
    · refine s_run X ok_L_grant 7 1 (pc' := 17) (vs' := [some (.ref p0), some (.int p1), some (.long p2), none, some (.ref p3), none]) (st' := [.long 0, .int 0, .ref p3]) rfl ?_
      exact s_less [false, false, false, false, false, false] rfl (h4 0)
    · refine s_run X ok_L_grant 5 2 (pc' := 17) (vs' := [some (.ref p0), some (.int p1), some (.long p2), none, some (.ref p3), none]) (st' := [.long 1, .int 0, .ref p3]) rfl ?_
      exact s_less [false, false, false, false, false, false] rfl (h4 1)
def tab_L_allowance : List En := [(0, 8, 2, 0), (1, 0, 0, 0), (2, 8, 0, 0), (3, 4, 1, 0), (8, 41, 14, 0), (11, 14, 3, 0), (12, 0, 0, 1), (14, 0, 0, 0)]
theorem ok_L_allowance : tab_L_allowance.all (okE cL_allowance) = true := by decide +kernel
def ed_L_allowance : List (Nat × Instr × Nat) := [(4, .invokevirtual 140, 3), (7, .lastore, 1), (13, .ireturn, 1), (15, .ireturn, 1)]
theorem okd_L_allowance : ed_L_allowance.all (okD cL_allowance) = true := by decide +kernel
def f_L_allowance (S : St) (p0 : Nat) (p1 : Int32) (p2 : Nat) : Option (Int32 × St × Nat) := clc (f_X11_allowance S p0 p1) (fun (v1 : Int64) => stJ S p2 0 v1 fun (S2 : St) => some (0, S2, 0)) (fun n => if n = 1 then some (1, S, 1) else none)
theorem hc_L_allowance_1 : HC RL cL_allowance 4 [(0, 8, 11, 22)] 4 1 1 := ⟨[], (0, 8, 11, 22), [], 3, 1, 12, 1, rfl, (fun z hz => absurd hz List.not_mem_nil), by decide, by decide, TT_5 (i := 145) rfl rfl, List.mem_filter.mpr ⟨lw_5 (List.mem_of_getElem? (i := 157) rfl), rfl⟩, Or.inl ⟨by decide +kernel, by decide, rfl⟩, by decide, rfl, by decide +kernel, by decide, by decide +kernel⟩
set_option maxHeartbeats 4000000 in
set_option maxRecDepth 100000 in
theorem c_L_allowance (S : St) (p0 : Nat) (p1 : Int32) (p2 : Nat) : CtL yL_allowance cL_allowance 4 [(0, 8, 11, 22)] 8 132 [.ref p0, .int p1, .ref p2] [(p0, 10), (p2, 14)] S (f_L_allowance S p0 p1 p2) := by
  refine CtL_of RL rfl (by decide) (Nat.le_of_ble_eq_true rfl) 1 (vs := [some (.ref p0), some (.int p1), some (.ref p2), none]) rfl (fun C X E hr tl ht => ?_)
  have t0_ : tT C p0 10 := ht (p0, 10) (by simp)
  have t2_ : tT C p2 14 := ht (p2, 14) (by simp)
  unfold f_L_allowance
  refine s_run X ok_L_allowance 0 4 (pc' := 4) (vs' := [some (.ref p0), some (.int p1), some (.ref p2), none]) (st' := [.int p1, .ref p0, .int 0, .ref p2]) rfl ?_
  refine s_callVC (hh := [(0, 8, 11, 22)]) (b := p0) (As := [.int p1]) (rest := [.int 0, .ref p2]) X E hr tl mv_L_140 (c_X11_allowance S p0 p1) rfl (ta1 t0_) rfl (by decide) t0_ rfl rfl (Nat.le_of_ble_eq_true rfl) (Nat.le_of_ble_eq_true rfl) (Nat.le_of_ble_eq_true rfl) (dk okd_L_allowance 0 rfl) (fun j o h => by
      by_cases e1 : j = 1
      · subst e1
        have h : some ((1 : Int32), S, 1) = some o := h
        cases h
        exact ⟨_, rfl, hc_L_allowance_1⟩
      simp [e1] at h) (st' := fun v1 => [.long v1, .int 0, .ref p2]) (fun _ => rfl) (fun v1 => ?_)
  refine s_last X t2_ (dk okd_L_allowance 1 rfl) (fun S2 => ?_)
  refine s_run X ok_L_allowance 4 1 (pc' := 14) (vs' := [some (.ref p0), some (.int p1), some (.ref p2), none]) (st' := []) rfl ?_
  refine s_run X ok_L_allowance 7 1 (pc' := 15) (vs' := [some (.ref p0), some (.int p1), some (.ref p2), none]) (st' := [.int 0]) rfl ?_
  exact s_iretL X hr tl (dk okd_L_allowance 3 rfl)
def tab_L_nationalShare : List En := [(0, 8, 2, 0), (1, 0, 0, 0), (2, 8, 0, 0), (3, 4, 1, 0), (8, 41, 14, 0), (11, 14, 3, 0), (12, 0, 0, 1), (14, 0, 0, 0)]
theorem ok_L_nationalShare : tab_L_nationalShare.all (okE cL_nationalShare) = true := by decide +kernel
def ed_L_nationalShare : List (Nat × Instr × Nat) := [(4, .invokevirtual 143, 3), (7, .lastore, 1), (13, .ireturn, 1), (15, .ireturn, 1)]
theorem okd_L_nationalShare : ed_L_nationalShare.all (okD cL_nationalShare) = true := by decide +kernel
def f_L_nationalShare (S : St) (p0 : Nat) (p1 : Int32) (p2 : Nat) : Option (Int32 × St × Nat) := clc (f_X11_nationalShare S p0 p1) (fun (v1 : Int64) => stJ S p2 0 v1 fun (S2 : St) => some (0, S2, 0)) (fun n => if n = 1 then some (1, S, 1) else none)
theorem hc_L_nationalShare_1 : HC RL cL_nationalShare 4 [(0, 8, 11, 22)] 4 1 1 := ⟨[], (0, 8, 11, 22), [], 3, 1, 12, 1, rfl, (fun z hz => absurd hz List.not_mem_nil), by decide, by decide, TT_5 (i := 145) rfl rfl, List.mem_filter.mpr ⟨lw_5 (List.mem_of_getElem? (i := 157) rfl), rfl⟩, Or.inl ⟨by decide +kernel, by decide, rfl⟩, by decide, rfl, by decide +kernel, by decide, by decide +kernel⟩
set_option maxHeartbeats 4000000 in
set_option maxRecDepth 100000 in
theorem c_L_nationalShare (S : St) (p0 : Nat) (p1 : Int32) (p2 : Nat) : CtL yL_nationalShare cL_nationalShare 4 [(0, 8, 11, 22)] 8 132 [.ref p0, .int p1, .ref p2] [(p0, 10), (p2, 14)] S (f_L_nationalShare S p0 p1 p2) := by
  refine CtL_of RL rfl (by decide) (Nat.le_of_ble_eq_true rfl) 1 (vs := [some (.ref p0), some (.int p1), some (.ref p2), none]) rfl (fun C X E hr tl ht => ?_)
  have t0_ : tT C p0 10 := ht (p0, 10) (by simp)
  have t2_ : tT C p2 14 := ht (p2, 14) (by simp)
  unfold f_L_nationalShare
  refine s_run X ok_L_nationalShare 0 4 (pc' := 4) (vs' := [some (.ref p0), some (.int p1), some (.ref p2), none]) (st' := [.int p1, .ref p0, .int 0, .ref p2]) rfl ?_
  refine s_callVC (hh := [(0, 8, 11, 22)]) (b := p0) (As := [.int p1]) (rest := [.int 0, .ref p2]) X E hr tl mv_L_143 (c_X11_nationalShare S p0 p1) rfl (ta1 t0_) rfl (by decide) t0_ rfl rfl (Nat.le_of_ble_eq_true rfl) (Nat.le_of_ble_eq_true rfl) (Nat.le_of_ble_eq_true rfl) (dk okd_L_nationalShare 0 rfl) (fun j o h => by
      by_cases e1 : j = 1
      · subst e1
        have h : some ((1 : Int32), S, 1) = some o := h
        cases h
        exact ⟨_, rfl, hc_L_nationalShare_1⟩
      simp [e1] at h) (st' := fun v1 => [.long v1, .int 0, .ref p2]) (fun _ => rfl) (fun v1 => ?_)
  refine s_last X t2_ (dk okd_L_nationalShare 1 rfl) (fun S2 => ?_)
  refine s_run X ok_L_nationalShare 4 1 (pc' := 14) (vs' := [some (.ref p0), some (.int p1), some (.ref p2), none]) (st' := []) rfl ?_
  refine s_run X ok_L_nationalShare 7 1 (pc' := 15) (vs' := [some (.ref p0), some (.int p1), some (.ref p2), none]) (st' := [.int 0]) rfl ?_
  exact s_iretL X hr tl (dk okd_L_nationalShare 3 rfl)
def tab_L_requestTransfer : List En := [(0, 9, 5, 0), (2, 0, 0, 0), (3, 8, 0, 0), (4, 4, 1, 0), (5, 4, 2, 0), (6, 6, 3, 0), (13, 3, 1, 0), (14, 41, 18, 0), (17, 3, 0, 0), (19, 41, 30, 0), (22, 15, 6, 0), (24, 0, 0, 1), (26, 15, 6, 0), (28, 0, 0, 2), (30, 0, 0, 0)]
theorem ok_L_requestTransfer : tab_L_requestTransfer.all (okE cL_requestTransfer) = true := by decide +kernel
def ed_L_requestTransfer : List (Nat × Instr × Nat) := [(7, .invokevirtual 146, 3), (10, .ifCond .eq 7, 3), (18, .lastore, 1), (25, .ireturn, 1), (29, .ireturn, 1), (31, .ireturn, 1)]
theorem okd_L_requestTransfer : ed_L_requestTransfer.all (okD cL_requestTransfer) = true := by decide +kernel
def f_L_requestTransfer (S : St) (p0 : Nat) (p1 : Int32) (p2 : Int32) (p3 : Int64) (p4 : Nat) : Option (Int32 × St × Nat) := clc (f_X11_requestTransfer S p0 p1 p2 p3) (fun (o1 : Int32 × St) => jn (κ := Int64 → Option (Int32 × St × Nat)) (fun x2 => stJ o1.2 p4 0 x2 fun (S5 : St) => some (0, S5, 0)) fun k3 => if o1.1 = 0 then (k3 0) else (k3 1)) (fun n => if n = 1 then some (1, S, 1) else if n = 2 then some (2, S, 1) else none)
theorem hc_L_requestTransfer_1 : HC RL cL_requestTransfer 7 [(0, 19, 22, 22), (0, 19, 26, 13)] 7 1 1 := ⟨[], (0, 19, 22, 22), [(0, 19, 26, 13)], 6, 2, 24, 1, rfl, (fun z hz => absurd hz List.not_mem_nil), by decide, by decide, TT_5 (i := 145) rfl rfl, List.mem_filter.mpr ⟨lw_5 (List.mem_of_getElem? (i := 157) rfl), rfl⟩, Or.inr ⟨by decide +kernel, rfl⟩, by decide, rfl, by decide +kernel, by decide, by decide +kernel⟩
theorem hc_L_requestTransfer_2 : HC RL cL_requestTransfer 7 [(0, 19, 22, 22), (0, 19, 26, 13)] 7 2 2 := ⟨[(0, 19, 22, 22)], (0, 19, 26, 13), [], 6, 2, 28, 2, rfl, (List.forall_mem_cons.mpr ⟨⟨by decide, 1, TT_5 (i := 145) rfl rfl, Or.inl ⟨rfl, rfl⟩⟩, fun z hz => absurd hz List.not_mem_nil⟩), by decide, by decide, TT_4 (i := 132) rfl rfl, List.mem_filter.mpr ⟨lw_4 (List.mem_of_getElem? (i := 142) rfl), rfl⟩, Or.inr ⟨by decide +kernel, rfl⟩, by decide, rfl, by decide +kernel, by decide, by decide +kernel⟩
set_option maxHeartbeats 4000000 in
set_option maxRecDepth 100000 in
theorem c_L_requestTransfer (S : St) (p0 : Nat) (p1 : Int32) (p2 : Int32) (p3 : Int64) (p4 : Nat) : CtL yL_requestTransfer cL_requestTransfer 7 [(0, 19, 22, 22), (0, 19, 26, 13)] 8 135 [.ref p0, .int p1, .int p2, .long p3, .ref p4] [(p0, 10), (p4, 14)] S (f_L_requestTransfer S p0 p1 p2 p3 p4) := by
  refine CtL_of RL rfl (by decide) (Nat.le_of_ble_eq_true rfl) 1 (vs := [some (.ref p0), some (.int p1), some (.int p2), some (.long p3), none, some (.ref p4), none]) rfl (fun C X E hr tl ht => ?_)
  have t0_ : tT C p0 10 := ht (p0, 10) (by simp)
  have t4_ : tT C p4 14 := ht (p4, 14) (by simp)
  unfold f_L_requestTransfer
  refine s_run X ok_L_requestTransfer 0 6 (pc' := 7) (vs' := [some (.ref p0), some (.int p1), some (.int p2), some (.long p3), none, some (.ref p4), none]) (st' := [.long p3, .int p2, .int p1, .ref p0, .int 0, .ref p4]) rfl ?_
  refine s_callVC (hh := [(0, 19, 22, 22), (0, 19, 26, 13)]) (b := p0) (As := [.int p1, .int p2, .long p3]) (rest := [.int 0, .ref p4]) X E hr tl mv_L_146 (c_X11_requestTransfer S p0 p1 p2 p3) rfl (ta1 t0_) rfl (by decide) t0_ rfl rfl (Nat.le_of_ble_eq_true rfl) (Nat.le_of_ble_eq_true rfl) (Nat.le_of_ble_eq_true rfl) (dk okd_L_requestTransfer 0 rfl) (fun j o h => by
      by_cases e1 : j = 1
      · subst e1
        have h : some ((1 : Int32), S, 1) = some o := h
        cases h
        exact ⟨_, rfl, hc_L_requestTransfer_1⟩
      by_cases e2 : j = 2
      · subst e2
        have h : some ((2 : Int32), S, 1) = some o := h
        cases h
        exact ⟨_, rfl, hc_L_requestTransfer_2⟩
      simp [e1, e2] at h) (st' := fun o1 => [.int o1.1, .int 0, .ref p4]) (fun _ => rfl) (fun o1 => ?_)
  refine s_jn (κ := Int64 → Option (Int32 × St × Nat)) (fun k3 => ∀ (x2 : Int64), Jd C 7 (QL C) o1.2 18 [none, none, none, none, none, none, none] [.long x2, .int 0, .ref p4] (k3 x2)) (fun x2 => ?_) (fun k3 h4 => ?_)
  · refine s_last X t4_ (dk okd_L_requestTransfer 2 rfl) (fun S5 => ?_)
    refine s_run X ok_L_requestTransfer 9 1 (pc' := 30) (vs' := [none, none, none, none, none, none, none]) (st' := []) rfl ?_
    refine s_run X ok_L_requestTransfer 14 1 (pc' := 31) (vs' := [none, none, none, none, none, none, none]) (st' := [.int 0]) rfl ?_
    exact s_iretL X hr tl (dk okd_L_requestTransfer 5 rfl)
  · refine s_if_eq (tgt := 17) X (dk okd_L_requestTransfer 1 rfl) (by decide) ?_ ?_
    · refine s_run X ok_L_requestTransfer 8 1 (pc' := 18) (vs' := [some (.ref p0), some (.int p1), some (.int p2), some (.long p3), none, some (.ref p4), none]) (st' := [.long 0, .int 0, .ref p4]) rfl ?_
      exact s_less [false, false, false, false, false, false, false] rfl (h4 0)
    · refine s_run X ok_L_requestTransfer 6 2 (pc' := 18) (vs' := [some (.ref p0), some (.int p1), some (.int p2), some (.long p3), none, some (.ref p4), none]) (st' := [.long 1, .int 0, .ref p4]) rfl ?_
      exact s_less [false, false, false, false, false, false, false] rfl (h4 1)
def tab_L_vote : List En := [(0, 9, 4, 0), (2, 0, 0, 0), (3, 8, 0, 0), (4, 4, 1, 0), (5, 4, 2, 0), (6, 4, 3, 0), (10, 31, 0, 0), (12, 41, 23, 0), (15, 15, 5, 0), (17, 0, 0, 1), (19, 15, 5, 0), (21, 0, 0, 2), (23, 0, 0, 0)]
theorem ok_L_vote : tab_L_vote.all (okE cL_vote) = true := by decide +kernel
def ed_L_vote : List (Nat × Instr × Nat) := [(7, .invokevirtual 150, 3), (11, .lastore, 1), (18, .ireturn, 1), (22, .ireturn, 1), (24, .ireturn, 1)]
theorem okd_L_vote : ed_L_vote.all (okD cL_vote) = true := by decide +kernel
def f_L_vote (S : St) (p0 : Nat) (p1 : Int32) (p2 : Int32) (p3 : Int32) (p4 : Nat) : Option (Int32 × St × Nat) := clc (f_X11_vote S p0 p1 p2 p3) (fun (o1 : Int32 × St) => stJ o1.2 p4 0 (Int32.toInt64 o1.1) fun (S2 : St) => some (0, S2, 0)) (fun n => if n = 1 then some (1, S, 1) else if n = 2 then some (2, S, 1) else none)
theorem hc_L_vote_1 : HC RL cL_vote 6 [(0, 12, 15, 22), (0, 12, 19, 13)] 7 1 1 := ⟨[], (0, 12, 15, 22), [(0, 12, 19, 13)], 5, 2, 17, 1, rfl, (fun z hz => absurd hz List.not_mem_nil), by decide, by decide, TT_5 (i := 145) rfl rfl, List.mem_filter.mpr ⟨lw_5 (List.mem_of_getElem? (i := 157) rfl), rfl⟩, Or.inr ⟨by decide +kernel, rfl⟩, by decide, rfl, by decide +kernel, by decide, by decide +kernel⟩
theorem hc_L_vote_2 : HC RL cL_vote 6 [(0, 12, 15, 22), (0, 12, 19, 13)] 7 2 2 := ⟨[(0, 12, 15, 22)], (0, 12, 19, 13), [], 5, 2, 21, 2, rfl, (List.forall_mem_cons.mpr ⟨⟨by decide, 1, TT_5 (i := 145) rfl rfl, Or.inl ⟨rfl, rfl⟩⟩, fun z hz => absurd hz List.not_mem_nil⟩), by decide, by decide, TT_4 (i := 132) rfl rfl, List.mem_filter.mpr ⟨lw_4 (List.mem_of_getElem? (i := 142) rfl), rfl⟩, Or.inr ⟨by decide +kernel, rfl⟩, by decide, rfl, by decide +kernel, by decide, by decide +kernel⟩
set_option maxHeartbeats 4000000 in
set_option maxRecDepth 100000 in
theorem c_L_vote (S : St) (p0 : Nat) (p1 : Int32) (p2 : Int32) (p3 : Int32) (p4 : Nat) : CtL yL_vote cL_vote 6 [(0, 12, 15, 22), (0, 12, 19, 13)] 8 134 [.ref p0, .int p1, .int p2, .int p3, .ref p4] [(p0, 10), (p4, 14)] S (f_L_vote S p0 p1 p2 p3 p4) := by
  refine CtL_of RL rfl (by decide) (Nat.le_of_ble_eq_true rfl) 1 (vs := [some (.ref p0), some (.int p1), some (.int p2), some (.int p3), some (.ref p4), none]) rfl (fun C X E hr tl ht => ?_)
  have t0_ : tT C p0 10 := ht (p0, 10) (by simp)
  have t4_ : tT C p4 14 := ht (p4, 14) (by simp)
  unfold f_L_vote
  refine s_run X ok_L_vote 0 6 (pc' := 7) (vs' := [some (.ref p0), some (.int p1), some (.int p2), some (.int p3), some (.ref p4), none]) (st' := [.int p3, .int p2, .int p1, .ref p0, .int 0, .ref p4]) rfl ?_
  refine s_callVC (hh := [(0, 12, 15, 22), (0, 12, 19, 13)]) (b := p0) (As := [.int p1, .int p2, .int p3]) (rest := [.int 0, .ref p4]) X E hr tl mv_L_150 (c_X11_vote S p0 p1 p2 p3) rfl (ta1 t0_) rfl (by decide) t0_ rfl rfl (Nat.le_of_ble_eq_true rfl) (Nat.le_of_ble_eq_true rfl) (Nat.le_of_ble_eq_true rfl) (dk okd_L_vote 0 rfl) (fun j o h => by
      by_cases e1 : j = 1
      · subst e1
        have h : some ((1 : Int32), S, 1) = some o := h
        cases h
        exact ⟨_, rfl, hc_L_vote_1⟩
      by_cases e2 : j = 2
      · subst e2
        have h : some ((2 : Int32), S, 1) = some o := h
        cases h
        exact ⟨_, rfl, hc_L_vote_2⟩
      simp [e1, e2] at h) (st' := fun o1 => [.int o1.1, .int 0, .ref p4]) (fun _ => rfl) (fun o1 => ?_)
  refine s_run X ok_L_vote 6 1 (pc' := 11) (vs' := [some (.ref p0), some (.int p1), some (.int p2), some (.int p3), some (.ref p4), none]) (st' := [.long (Int32.toInt64 o1.1), .int 0, .ref p4]) rfl ?_
  refine s_last X t4_ (dk okd_L_vote 1 rfl) (fun S2 => ?_)
  refine s_run X ok_L_vote 7 1 (pc' := 23) (vs' := [some (.ref p0), some (.int p1), some (.int p2), some (.int p3), some (.ref p4), none]) (st' := []) rfl ?_
  refine s_run X ok_L_vote 12 1 (pc' := 24) (vs' := [some (.ref p0), some (.int p1), some (.int p2), some (.int p3), some (.ref p4), none]) (st' := [.int 0]) rfl ?_
  exact s_iretL X hr tl (dk okd_L_vote 4 rfl)
def tab_L_exercise : List En := [(0, 8, 2, 0), (1, 0, 0, 0), (2, 8, 0, 0), (3, 4, 1, 0), (10, 3, 1, 0), (11, 41, 15, 0), (14, 3, 0, 0), (16, 41, 22, 0), (19, 14, 3, 0), (20, 0, 0, 1), (22, 0, 0, 0)]
theorem ok_L_exercise : tab_L_exercise.all (okE cL_exercise) = true := by decide +kernel
def ed_L_exercise : List (Nat × Instr × Nat) := [(4, .invokevirtual 154, 3), (7, .ifCond .eq 7, 3), (15, .lastore, 1), (21, .ireturn, 1), (23, .ireturn, 1)]
theorem okd_L_exercise : ed_L_exercise.all (okD cL_exercise) = true := by decide +kernel
def f_L_exercise (S : St) (p0 : Nat) (p1 : Int32) (p2 : Nat) : Option (Int32 × St × Nat) := clc (f_X11_exercise S p0 p1) (fun (o1 : Int32 × St) => jn (κ := Int64 → Option (Int32 × St × Nat)) (fun x2 => stJ o1.2 p2 0 x2 fun (S5 : St) => some (0, S5, 0)) fun k3 => if o1.1 = 0 then (k3 0) else (k3 1)) (fun n => if n = 1 then some (1, S, 1) else none)
theorem hc_L_exercise_1 : HC RL cL_exercise 4 [(0, 16, 19, 22)] 4 1 1 := ⟨[], (0, 16, 19, 22), [], 3, 1, 20, 1, rfl, (fun z hz => absurd hz List.not_mem_nil), by decide, by decide, TT_5 (i := 145) rfl rfl, List.mem_filter.mpr ⟨lw_5 (List.mem_of_getElem? (i := 157) rfl), rfl⟩, Or.inl ⟨by decide +kernel, by decide, rfl⟩, by decide, rfl, by decide +kernel, by decide, by decide +kernel⟩
set_option maxHeartbeats 4000000 in
set_option maxRecDepth 100000 in
theorem c_L_exercise (S : St) (p0 : Nat) (p1 : Int32) (p2 : Nat) : CtL yL_exercise cL_exercise 4 [(0, 16, 19, 22)] 8 132 [.ref p0, .int p1, .ref p2] [(p0, 10), (p2, 14)] S (f_L_exercise S p0 p1 p2) := by
  refine CtL_of RL rfl (by decide) (Nat.le_of_ble_eq_true rfl) 1 (vs := [some (.ref p0), some (.int p1), some (.ref p2), none]) rfl (fun C X E hr tl ht => ?_)
  have t0_ : tT C p0 10 := ht (p0, 10) (by simp)
  have t2_ : tT C p2 14 := ht (p2, 14) (by simp)
  unfold f_L_exercise
  refine s_run X ok_L_exercise 0 4 (pc' := 4) (vs' := [some (.ref p0), some (.int p1), some (.ref p2), none]) (st' := [.int p1, .ref p0, .int 0, .ref p2]) rfl ?_
  refine s_callVC (hh := [(0, 16, 19, 22)]) (b := p0) (As := [.int p1]) (rest := [.int 0, .ref p2]) X E hr tl mv_L_154 (c_X11_exercise S p0 p1) rfl (ta1 t0_) rfl (by decide) t0_ rfl rfl (Nat.le_of_ble_eq_true rfl) (Nat.le_of_ble_eq_true rfl) (Nat.le_of_ble_eq_true rfl) (dk okd_L_exercise 0 rfl) (fun j o h => by
      by_cases e1 : j = 1
      · subst e1
        have h : some ((1 : Int32), S, 1) = some o := h
        cases h
        exact ⟨_, rfl, hc_L_exercise_1⟩
      simp [e1] at h) (st' := fun o1 => [.int o1.1, .int 0, .ref p2]) (fun _ => rfl) (fun o1 => ?_)
  refine s_jn (κ := Int64 → Option (Int32 × St × Nat)) (fun k3 => ∀ (x2 : Int64), Jd C 4 (QL C) o1.2 15 [none, none, none, none] [.long x2, .int 0, .ref p2] (k3 x2)) (fun x2 => ?_) (fun k3 h4 => ?_)
  · refine s_last X t2_ (dk okd_L_exercise 2 rfl) (fun S5 => ?_)
    refine s_run X ok_L_exercise 7 1 (pc' := 22) (vs' := [none, none, none, none]) (st' := []) rfl ?_
    refine s_run X ok_L_exercise 10 1 (pc' := 23) (vs' := [none, none, none, none]) (st' := [.int 0]) rfl ?_
    exact s_iretL X hr tl (dk okd_L_exercise 4 rfl)
  · refine s_if_eq (tgt := 14) X (dk okd_L_exercise 1 rfl) (by decide) ?_ ?_
    · refine s_run X ok_L_exercise 6 1 (pc' := 15) (vs' := [some (.ref p0), some (.int p1), some (.ref p2), none]) (st' := [.long 0, .int 0, .ref p2]) rfl ?_
      exact s_less [false, false, false, false] rfl (h4 0)
    · refine s_run X ok_L_exercise 4 2 (pc' := 15) (vs' := [some (.ref p0), some (.int p1), some (.ref p2), none]) (st' := [.long 1, .int 0, .ref p2]) rfl ?_
      exact s_less [false, false, false, false] rfl (h4 1)
def tab_L_withdraw : List En := [(0, 8, 2, 0), (1, 0, 0, 0), (2, 8, 0, 0), (3, 4, 1, 0), (10, 3, 1, 0), (11, 41, 15, 0), (14, 3, 0, 0), (16, 41, 22, 0), (19, 14, 3, 0), (20, 0, 0, 1), (22, 0, 0, 0)]
theorem ok_L_withdraw : tab_L_withdraw.all (okE cL_withdraw) = true := by decide +kernel
def ed_L_withdraw : List (Nat × Instr × Nat) := [(4, .invokevirtual 157, 3), (7, .ifCond .eq 7, 3), (15, .lastore, 1), (21, .ireturn, 1), (23, .ireturn, 1)]
theorem okd_L_withdraw : ed_L_withdraw.all (okD cL_withdraw) = true := by decide +kernel
def f_L_withdraw (S : St) (p0 : Nat) (p1 : Int32) (p2 : Nat) : Option (Int32 × St × Nat) := clc (f_X11_withdraw S p0 p1) (fun (o1 : Int32 × St) => jn (κ := Int64 → Option (Int32 × St × Nat)) (fun x2 => stJ o1.2 p2 0 x2 fun (S5 : St) => some (0, S5, 0)) fun k3 => if o1.1 = 0 then (k3 0) else (k3 1)) (fun n => if n = 1 then some (1, S, 1) else none)
theorem hc_L_withdraw_1 : HC RL cL_withdraw 4 [(0, 16, 19, 22)] 4 1 1 := ⟨[], (0, 16, 19, 22), [], 3, 1, 20, 1, rfl, (fun z hz => absurd hz List.not_mem_nil), by decide, by decide, TT_5 (i := 145) rfl rfl, List.mem_filter.mpr ⟨lw_5 (List.mem_of_getElem? (i := 157) rfl), rfl⟩, Or.inl ⟨by decide +kernel, by decide, rfl⟩, by decide, rfl, by decide +kernel, by decide, by decide +kernel⟩
set_option maxHeartbeats 4000000 in
set_option maxRecDepth 100000 in
theorem c_L_withdraw (S : St) (p0 : Nat) (p1 : Int32) (p2 : Nat) : CtL yL_withdraw cL_withdraw 4 [(0, 16, 19, 22)] 8 132 [.ref p0, .int p1, .ref p2] [(p0, 10), (p2, 14)] S (f_L_withdraw S p0 p1 p2) := by
  refine CtL_of RL rfl (by decide) (Nat.le_of_ble_eq_true rfl) 1 (vs := [some (.ref p0), some (.int p1), some (.ref p2), none]) rfl (fun C X E hr tl ht => ?_)
  have t0_ : tT C p0 10 := ht (p0, 10) (by simp)
  have t2_ : tT C p2 14 := ht (p2, 14) (by simp)
  unfold f_L_withdraw
  refine s_run X ok_L_withdraw 0 4 (pc' := 4) (vs' := [some (.ref p0), some (.int p1), some (.ref p2), none]) (st' := [.int p1, .ref p0, .int 0, .ref p2]) rfl ?_
  refine s_callVC (hh := [(0, 16, 19, 22)]) (b := p0) (As := [.int p1]) (rest := [.int 0, .ref p2]) X E hr tl mv_L_157 (c_X11_withdraw S p0 p1) rfl (ta1 t0_) rfl (by decide) t0_ rfl rfl (Nat.le_of_ble_eq_true rfl) (Nat.le_of_ble_eq_true rfl) (Nat.le_of_ble_eq_true rfl) (dk okd_L_withdraw 0 rfl) (fun j o h => by
      by_cases e1 : j = 1
      · subst e1
        have h : some ((1 : Int32), S, 1) = some o := h
        cases h
        exact ⟨_, rfl, hc_L_withdraw_1⟩
      simp [e1] at h) (st' := fun o1 => [.int o1.1, .int 0, .ref p2]) (fun _ => rfl) (fun o1 => ?_)
  refine s_jn (κ := Int64 → Option (Int32 × St × Nat)) (fun k3 => ∀ (x2 : Int64), Jd C 4 (QL C) o1.2 15 [none, none, none, none] [.long x2, .int 0, .ref p2] (k3 x2)) (fun x2 => ?_) (fun k3 h4 => ?_)
  · refine s_last X t2_ (dk okd_L_withdraw 2 rfl) (fun S5 => ?_)
    refine s_run X ok_L_withdraw 7 1 (pc' := 22) (vs' := [none, none, none, none]) (st' := []) rfl ?_
    refine s_run X ok_L_withdraw 10 1 (pc' := 23) (vs' := [none, none, none, none]) (st' := [.int 0]) rfl ?_
    exact s_iretL X hr tl (dk okd_L_withdraw 4 rfl)
  · refine s_if_eq (tgt := 14) X (dk okd_L_withdraw 1 rfl) (by decide) ?_ ?_
    · refine s_run X ok_L_withdraw 6 1 (pc' := 15) (vs' := [some (.ref p0), some (.int p1), some (.ref p2), none]) (st' := [.long 0, .int 0, .ref p2]) rfl ?_
      exact s_less [false, false, false, false] rfl (h4 0)
    · refine s_run X ok_L_withdraw 4 2 (pc' := 15) (vs' := [some (.ref p0), some (.int p1), some (.ref p2), none]) (st' := [.long 1, .int 0, .ref p2]) rfl ?_
      exact s_less [false, false, false, false] rfl (h4 1)
def tab_L_transferState : List En := [(0, 8, 2, 0), (1, 0, 0, 0), (2, 8, 0, 0), (3, 4, 1, 0), (7, 31, 0, 0), (9, 41, 15, 0), (12, 14, 3, 0), (13, 0, 0, 1), (15, 0, 0, 0)]
theorem ok_L_transferState : tab_L_transferState.all (okE cL_transferState) = true := by decide +kernel
def ed_L_transferState : List (Nat × Instr × Nat) := [(4, .invokevirtual 160, 3), (8, .lastore, 1), (14, .ireturn, 1), (16, .ireturn, 1)]
theorem okd_L_transferState : ed_L_transferState.all (okD cL_transferState) = true := by decide +kernel
def f_L_transferState (S : St) (p0 : Nat) (p1 : Int32) (p2 : Nat) : Option (Int32 × St × Nat) := clc (f_X11_transferState S p0 p1) (fun (v1 : Int32) => stJ S p2 0 (Int32.toInt64 v1) fun (S2 : St) => some (0, S2, 0)) (fun n => if n = 1 then some (1, S, 1) else none)
theorem hc_L_transferState_1 : HC RL cL_transferState 4 [(0, 9, 12, 22)] 4 1 1 := ⟨[], (0, 9, 12, 22), [], 3, 1, 13, 1, rfl, (fun z hz => absurd hz List.not_mem_nil), by decide, by decide, TT_5 (i := 145) rfl rfl, List.mem_filter.mpr ⟨lw_5 (List.mem_of_getElem? (i := 157) rfl), rfl⟩, Or.inl ⟨by decide +kernel, by decide, rfl⟩, by decide, rfl, by decide +kernel, by decide, by decide +kernel⟩
set_option maxHeartbeats 4000000 in
set_option maxRecDepth 100000 in
theorem c_L_transferState (S : St) (p0 : Nat) (p1 : Int32) (p2 : Nat) : CtL yL_transferState cL_transferState 4 [(0, 9, 12, 22)] 8 132 [.ref p0, .int p1, .ref p2] [(p0, 10), (p2, 14)] S (f_L_transferState S p0 p1 p2) := by
  refine CtL_of RL rfl (by decide) (Nat.le_of_ble_eq_true rfl) 1 (vs := [some (.ref p0), some (.int p1), some (.ref p2), none]) rfl (fun C X E hr tl ht => ?_)
  have t0_ : tT C p0 10 := ht (p0, 10) (by simp)
  have t2_ : tT C p2 14 := ht (p2, 14) (by simp)
  unfold f_L_transferState
  refine s_run X ok_L_transferState 0 4 (pc' := 4) (vs' := [some (.ref p0), some (.int p1), some (.ref p2), none]) (st' := [.int p1, .ref p0, .int 0, .ref p2]) rfl ?_
  refine s_callVC (hh := [(0, 9, 12, 22)]) (b := p0) (As := [.int p1]) (rest := [.int 0, .ref p2]) X E hr tl mv_L_160 (c_X11_transferState S p0 p1) rfl (ta1 t0_) rfl (by decide) t0_ rfl rfl (Nat.le_of_ble_eq_true rfl) (Nat.le_of_ble_eq_true rfl) (Nat.le_of_ble_eq_true rfl) (dk okd_L_transferState 0 rfl) (fun j o h => by
      by_cases e1 : j = 1
      · subst e1
        have h : some ((1 : Int32), S, 1) = some o := h
        cases h
        exact ⟨_, rfl, hc_L_transferState_1⟩
      simp [e1] at h) (st' := fun v1 => [.int v1, .int 0, .ref p2]) (fun _ => rfl) (fun v1 => ?_)
  refine s_run X ok_L_transferState 4 1 (pc' := 8) (vs' := [some (.ref p0), some (.int p1), some (.ref p2), none]) (st' := [.long (Int32.toInt64 v1), .int 0, .ref p2]) rfl ?_
  refine s_last X t2_ (dk okd_L_transferState 1 rfl) (fun S2 => ?_)
  refine s_run X ok_L_transferState 5 1 (pc' := 15) (vs' := [some (.ref p0), some (.int p1), some (.ref p2), none]) (st' := []) rfl ?_
  refine s_run X ok_L_transferState 8 1 (pc' := 16) (vs' := [some (.ref p0), some (.int p1), some (.ref p2), none]) (st' := [.int 0]) rfl ?_
  exact s_iretL X hr tl (dk okd_L_transferState 3 rfl)
def tab_L_transferWait : List En := [(0, 8, 2, 0), (1, 0, 0, 0), (2, 8, 0, 0), (3, 4, 1, 0), (7, 31, 0, 0), (9, 41, 15, 0), (12, 14, 3, 0), (13, 0, 0, 1), (15, 0, 0, 0)]
theorem ok_L_transferWait : tab_L_transferWait.all (okE cL_transferWait) = true := by decide +kernel
def ed_L_transferWait : List (Nat × Instr × Nat) := [(4, .invokevirtual 163, 3), (8, .lastore, 1), (14, .ireturn, 1), (16, .ireturn, 1)]
theorem okd_L_transferWait : ed_L_transferWait.all (okD cL_transferWait) = true := by decide +kernel
def f_L_transferWait (S : St) (p0 : Nat) (p1 : Int32) (p2 : Nat) : Option (Int32 × St × Nat) := clc (f_X11_transferWait S p0 p1) (fun (v1 : Int32) => stJ S p2 0 (Int32.toInt64 v1) fun (S2 : St) => some (0, S2, 0)) (fun n => if n = 1 then some (1, S, 1) else none)
theorem hc_L_transferWait_1 : HC RL cL_transferWait 4 [(0, 9, 12, 22)] 4 1 1 := ⟨[], (0, 9, 12, 22), [], 3, 1, 13, 1, rfl, (fun z hz => absurd hz List.not_mem_nil), by decide, by decide, TT_5 (i := 145) rfl rfl, List.mem_filter.mpr ⟨lw_5 (List.mem_of_getElem? (i := 157) rfl), rfl⟩, Or.inl ⟨by decide +kernel, by decide, rfl⟩, by decide, rfl, by decide +kernel, by decide, by decide +kernel⟩
set_option maxHeartbeats 4000000 in
set_option maxRecDepth 100000 in
theorem c_L_transferWait (S : St) (p0 : Nat) (p1 : Int32) (p2 : Nat) : CtL yL_transferWait cL_transferWait 4 [(0, 9, 12, 22)] 8 132 [.ref p0, .int p1, .ref p2] [(p0, 10), (p2, 14)] S (f_L_transferWait S p0 p1 p2) := by
  refine CtL_of RL rfl (by decide) (Nat.le_of_ble_eq_true rfl) 1 (vs := [some (.ref p0), some (.int p1), some (.ref p2), none]) rfl (fun C X E hr tl ht => ?_)
  have t0_ : tT C p0 10 := ht (p0, 10) (by simp)
  have t2_ : tT C p2 14 := ht (p2, 14) (by simp)
  unfold f_L_transferWait
  refine s_run X ok_L_transferWait 0 4 (pc' := 4) (vs' := [some (.ref p0), some (.int p1), some (.ref p2), none]) (st' := [.int p1, .ref p0, .int 0, .ref p2]) rfl ?_
  refine s_callVC (hh := [(0, 9, 12, 22)]) (b := p0) (As := [.int p1]) (rest := [.int 0, .ref p2]) X E hr tl mv_L_163 (c_X11_transferWait S p0 p1) rfl (ta1 t0_) rfl (by decide) t0_ rfl rfl (Nat.le_of_ble_eq_true rfl) (Nat.le_of_ble_eq_true rfl) (Nat.le_of_ble_eq_true rfl) (dk okd_L_transferWait 0 rfl) (fun j o h => by
      by_cases e1 : j = 1
      · subst e1
        have h : some ((1 : Int32), S, 1) = some o := h
        cases h
        exact ⟨_, rfl, hc_L_transferWait_1⟩
      simp [e1] at h) (st' := fun v1 => [.int v1, .int 0, .ref p2]) (fun _ => rfl) (fun v1 => ?_)
  refine s_run X ok_L_transferWait 4 1 (pc' := 8) (vs' := [some (.ref p0), some (.int p1), some (.ref p2), none]) (st' := [.long (Int32.toInt64 v1), .int 0, .ref p2]) rfl ?_
  refine s_last X t2_ (dk okd_L_transferWait 1 rfl) (fun S2 => ?_)
  refine s_run X ok_L_transferWait 5 1 (pc' := 15) (vs' := [some (.ref p0), some (.int p1), some (.ref p2), none]) (st' := []) rfl ?_
  refine s_run X ok_L_transferWait 8 1 (pc' := 16) (vs' := [some (.ref p0), some (.int p1), some (.ref p2), none]) (st' := [.int 0]) rfl ?_
  exact s_iretL X hr tl (dk okd_L_transferWait 3 rfl)
def tab_L_generation : List En := [(0, 8, 2, 0), (1, 0, 0, 0), (2, 8, 0, 0), (3, 4, 1, 0), (7, 31, 0, 0), (9, 41, 15, 0), (12, 14, 3, 0), (13, 0, 0, 1), (15, 0, 0, 0)]
theorem ok_L_generation : tab_L_generation.all (okE cL_generation) = true := by decide +kernel
def ed_L_generation : List (Nat × Instr × Nat) := [(4, .invokevirtual 166, 3), (8, .lastore, 1), (14, .ireturn, 1), (16, .ireturn, 1)]
theorem okd_L_generation : ed_L_generation.all (okD cL_generation) = true := by decide +kernel
def f_L_generation (S : St) (p0 : Nat) (p1 : Int32) (p2 : Nat) : Option (Int32 × St × Nat) := clc (f_X11_generation S p0 p1) (fun (v1 : Int32) => stJ S p2 0 (Int32.toInt64 v1) fun (S2 : St) => some (0, S2, 0)) (fun n => if n = 1 then some (1, S, 1) else none)
theorem hc_L_generation_1 : HC RL cL_generation 4 [(0, 9, 12, 22)] 4 1 1 := ⟨[], (0, 9, 12, 22), [], 3, 1, 13, 1, rfl, (fun z hz => absurd hz List.not_mem_nil), by decide, by decide, TT_5 (i := 145) rfl rfl, List.mem_filter.mpr ⟨lw_5 (List.mem_of_getElem? (i := 157) rfl), rfl⟩, Or.inl ⟨by decide +kernel, by decide, rfl⟩, by decide, rfl, by decide +kernel, by decide, by decide +kernel⟩
set_option maxHeartbeats 4000000 in
set_option maxRecDepth 100000 in
theorem c_L_generation (S : St) (p0 : Nat) (p1 : Int32) (p2 : Nat) : CtL yL_generation cL_generation 4 [(0, 9, 12, 22)] 8 132 [.ref p0, .int p1, .ref p2] [(p0, 10), (p2, 14)] S (f_L_generation S p0 p1 p2) := by
  refine CtL_of RL rfl (by decide) (Nat.le_of_ble_eq_true rfl) 1 (vs := [some (.ref p0), some (.int p1), some (.ref p2), none]) rfl (fun C X E hr tl ht => ?_)
  have t0_ : tT C p0 10 := ht (p0, 10) (by simp)
  have t2_ : tT C p2 14 := ht (p2, 14) (by simp)
  unfold f_L_generation
  refine s_run X ok_L_generation 0 4 (pc' := 4) (vs' := [some (.ref p0), some (.int p1), some (.ref p2), none]) (st' := [.int p1, .ref p0, .int 0, .ref p2]) rfl ?_
  refine s_callVC (hh := [(0, 9, 12, 22)]) (b := p0) (As := [.int p1]) (rest := [.int 0, .ref p2]) X E hr tl mv_L_166 (c_X11_generation S p0 p1) rfl (ta1 t0_) rfl (by decide) t0_ rfl rfl (Nat.le_of_ble_eq_true rfl) (Nat.le_of_ble_eq_true rfl) (Nat.le_of_ble_eq_true rfl) (dk okd_L_generation 0 rfl) (fun j o h => by
      by_cases e1 : j = 1
      · subst e1
        have h : some ((1 : Int32), S, 1) = some o := h
        cases h
        exact ⟨_, rfl, hc_L_generation_1⟩
      simp [e1] at h) (st' := fun v1 => [.int v1, .int 0, .ref p2]) (fun _ => rfl) (fun v1 => ?_)
  refine s_run X ok_L_generation 4 1 (pc' := 8) (vs' := [some (.ref p0), some (.int p1), some (.ref p2), none]) (st' := [.long (Int32.toInt64 v1), .int 0, .ref p2]) rfl ?_
  refine s_last X t2_ (dk okd_L_generation 1 rfl) (fun S2 => ?_)
  refine s_run X ok_L_generation 5 1 (pc' := 15) (vs' := [some (.ref p0), some (.int p1), some (.ref p2), none]) (st' := []) rfl ?_
  refine s_run X ok_L_generation 8 1 (pc' := 16) (vs' := [some (.ref p0), some (.int p1), some (.ref p2), none]) (st' := [.int 0]) rfl ?_
  exact s_iretL X hr tl (dk okd_L_generation 3 rfl)
def tab_L_worth : List En := [(0, 8, 2, 0), (1, 0, 0, 0), (2, 8, 0, 0), (3, 4, 1, 0), (7, 31, 0, 0), (9, 41, 15, 0), (12, 14, 3, 0), (13, 0, 0, 1), (15, 0, 0, 0)]
theorem ok_L_worth : tab_L_worth.all (okE cL_worth) = true := by decide +kernel
def ed_L_worth : List (Nat × Instr × Nat) := [(4, .invokevirtual 169, 3), (8, .lastore, 1), (14, .ireturn, 1), (16, .ireturn, 1)]
theorem okd_L_worth : ed_L_worth.all (okD cL_worth) = true := by decide +kernel
def f_L_worth (S : St) (p0 : Nat) (p1 : Int32) (p2 : Nat) : Option (Int32 × St × Nat) := clc (f_X11_worth S p0 p1) (fun (v1 : Int32) => stJ S p2 0 (Int32.toInt64 v1) fun (S2 : St) => some (0, S2, 0)) (fun n => if n = 1 then some (1, S, 1) else none)
theorem hc_L_worth_1 : HC RL cL_worth 4 [(0, 9, 12, 22)] 4 1 1 := ⟨[], (0, 9, 12, 22), [], 3, 1, 13, 1, rfl, (fun z hz => absurd hz List.not_mem_nil), by decide, by decide, TT_5 (i := 145) rfl rfl, List.mem_filter.mpr ⟨lw_5 (List.mem_of_getElem? (i := 157) rfl), rfl⟩, Or.inl ⟨by decide +kernel, by decide, rfl⟩, by decide, rfl, by decide +kernel, by decide, by decide +kernel⟩
set_option maxHeartbeats 4000000 in
set_option maxRecDepth 100000 in
theorem c_L_worth (S : St) (p0 : Nat) (p1 : Int32) (p2 : Nat) : CtL yL_worth cL_worth 4 [(0, 9, 12, 22)] 8 132 [.ref p0, .int p1, .ref p2] [(p0, 10), (p2, 14)] S (f_L_worth S p0 p1 p2) := by
  refine CtL_of RL rfl (by decide) (Nat.le_of_ble_eq_true rfl) 1 (vs := [some (.ref p0), some (.int p1), some (.ref p2), none]) rfl (fun C X E hr tl ht => ?_)
  have t0_ : tT C p0 10 := ht (p0, 10) (by simp)
  have t2_ : tT C p2 14 := ht (p2, 14) (by simp)
  unfold f_L_worth
  refine s_run X ok_L_worth 0 4 (pc' := 4) (vs' := [some (.ref p0), some (.int p1), some (.ref p2), none]) (st' := [.int p1, .ref p0, .int 0, .ref p2]) rfl ?_
  refine s_callVC (hh := [(0, 9, 12, 22)]) (b := p0) (As := [.int p1]) (rest := [.int 0, .ref p2]) X E hr tl mv_L_169 (c_X11_worth S p0 p1) rfl (ta1 t0_) rfl (by decide) t0_ rfl rfl (Nat.le_of_ble_eq_true rfl) (Nat.le_of_ble_eq_true rfl) (Nat.le_of_ble_eq_true rfl) (dk okd_L_worth 0 rfl) (fun j o h => by
      by_cases e1 : j = 1
      · subst e1
        have h : some ((1 : Int32), S, 1) = some o := h
        cases h
        exact ⟨_, rfl, hc_L_worth_1⟩
      simp [e1] at h) (st' := fun v1 => [.int v1, .int 0, .ref p2]) (fun _ => rfl) (fun v1 => ?_)
  refine s_run X ok_L_worth 4 1 (pc' := 8) (vs' := [some (.ref p0), some (.int p1), some (.ref p2), none]) (st' := [.long (Int32.toInt64 v1), .int 0, .ref p2]) rfl ?_
  refine s_last X t2_ (dk okd_L_worth 1 rfl) (fun S2 => ?_)
  refine s_run X ok_L_worth 5 1 (pc' := 15) (vs' := [some (.ref p0), some (.int p1), some (.ref p2), none]) (st' := []) rfl ?_
  refine s_run X ok_L_worth 8 1 (pc' := 16) (vs' := [some (.ref p0), some (.int p1), some (.ref p2), none]) (st' := [.int 0]) rfl ?_
  exact s_iretL X hr tl (dk okd_L_worth 3 rfl)
def tab_L_formatInvoice : List En := [(0, 8, 3, 0), (1, 0, 0, 0), (2, 8, 0, 0), (3, 4, 1, 0), (4, 4, 2, 0), (8, 31, 0, 0), (10, 41, 21, 0), (13, 15, 4, 0), (15, 0, 0, 1), (17, 15, 4, 0), (19, 0, 0, 2), (21, 0, 0, 0)]
theorem ok_L_formatInvoice : tab_L_formatInvoice.all (okE cL_formatInvoice) = true := by decide +kernel
def ed_L_formatInvoice : List (Nat × Instr × Nat) := [(5, .invokevirtual 172, 3), (9, .lastore, 1), (16, .ireturn, 1), (20, .ireturn, 1), (22, .ireturn, 1)]
theorem okd_L_formatInvoice : ed_L_formatInvoice.all (okD cL_formatInvoice) = true := by decide +kernel
def f_L_formatInvoice (S : St) (p0 : Nat) (p1 : Int32) (p2 : Int32) (p3 : Nat) : Option (Int32 × St × Nat) := clc (f_X11_formatInvoice S p0 p1 p2) (fun (o1 : Int32 × St) => stJ o1.2 p3 0 (Int32.toInt64 o1.1) fun (S2 : St) => some (0, S2, 0)) (fun n => if n = 1 then some (1, S, 1) else if n = 2 then some (2, S, 1) else none)
theorem hc_L_formatInvoice_1 : HC RL cL_formatInvoice 5 [(0, 10, 13, 22), (0, 10, 17, 13)] 5 1 1 := ⟨[], (0, 10, 13, 22), [(0, 10, 17, 13)], 4, 2, 15, 1, rfl, (fun z hz => absurd hz List.not_mem_nil), by decide, by decide, TT_5 (i := 145) rfl rfl, List.mem_filter.mpr ⟨lw_5 (List.mem_of_getElem? (i := 157) rfl), rfl⟩, Or.inr ⟨by decide +kernel, rfl⟩, by decide, rfl, by decide +kernel, by decide, by decide +kernel⟩
theorem hc_L_formatInvoice_2 : HC RL cL_formatInvoice 5 [(0, 10, 13, 22), (0, 10, 17, 13)] 5 2 2 := ⟨[(0, 10, 13, 22)], (0, 10, 17, 13), [], 4, 2, 19, 2, rfl, (List.forall_mem_cons.mpr ⟨⟨by decide, 1, TT_5 (i := 145) rfl rfl, Or.inl ⟨rfl, rfl⟩⟩, fun z hz => absurd hz List.not_mem_nil⟩), by decide, by decide, TT_4 (i := 132) rfl rfl, List.mem_filter.mpr ⟨lw_4 (List.mem_of_getElem? (i := 142) rfl), rfl⟩, Or.inr ⟨by decide +kernel, rfl⟩, by decide, rfl, by decide +kernel, by decide, by decide +kernel⟩
set_option maxHeartbeats 4000000 in
set_option maxRecDepth 100000 in
theorem c_L_formatInvoice (S : St) (p0 : Nat) (p1 : Int32) (p2 : Int32) (p3 : Nat) : CtL yL_formatInvoice cL_formatInvoice 5 [(0, 10, 13, 22), (0, 10, 17, 13)] 8 155 [.ref p0, .int p1, .int p2, .ref p3] [(p0, 10), (p3, 14)] S (f_L_formatInvoice S p0 p1 p2 p3) := by
  refine CtL_of RL rfl (by decide) (Nat.le_of_ble_eq_true rfl) 1 (vs := [some (.ref p0), some (.int p1), some (.int p2), some (.ref p3), none]) rfl (fun C X E hr tl ht => ?_)
  have t0_ : tT C p0 10 := ht (p0, 10) (by simp)
  have t3_ : tT C p3 14 := ht (p3, 14) (by simp)
  unfold f_L_formatInvoice
  refine s_run X ok_L_formatInvoice 0 5 (pc' := 5) (vs' := [some (.ref p0), some (.int p1), some (.int p2), some (.ref p3), none]) (st' := [.int p2, .int p1, .ref p0, .int 0, .ref p3]) rfl ?_
  refine s_callVC (hh := [(0, 10, 13, 22), (0, 10, 17, 13)]) (b := p0) (As := [.int p1, .int p2]) (rest := [.int 0, .ref p3]) X E hr tl mv_L_172 (c_X11_formatInvoice S p0 p1 p2) rfl (ta1 t0_) rfl (by decide) t0_ rfl rfl (Nat.le_of_ble_eq_true rfl) (Nat.le_of_ble_eq_true rfl) (Nat.le_of_ble_eq_true rfl) (dk okd_L_formatInvoice 0 rfl) (fun j o h => by
      by_cases e1 : j = 1
      · subst e1
        have h : some ((1 : Int32), S, 1) = some o := h
        cases h
        exact ⟨_, rfl, hc_L_formatInvoice_1⟩
      by_cases e2 : j = 2
      · subst e2
        have h : some ((2 : Int32), S, 1) = some o := h
        cases h
        exact ⟨_, rfl, hc_L_formatInvoice_2⟩
      simp [e1, e2] at h) (st' := fun o1 => [.int o1.1, .int 0, .ref p3]) (fun _ => rfl) (fun o1 => ?_)
  refine s_run X ok_L_formatInvoice 5 1 (pc' := 9) (vs' := [some (.ref p0), some (.int p1), some (.int p2), some (.ref p3), none]) (st' := [.long (Int32.toInt64 o1.1), .int 0, .ref p3]) rfl ?_
  refine s_last X t3_ (dk okd_L_formatInvoice 1 rfl) (fun S2 => ?_)
  refine s_run X ok_L_formatInvoice 6 1 (pc' := 21) (vs' := [some (.ref p0), some (.int p1), some (.int p2), some (.ref p3), none]) (st' := []) rfl ?_
  refine s_run X ok_L_formatInvoice 11 1 (pc' := 22) (vs' := [some (.ref p0), some (.int p1), some (.int p2), some (.ref p3), none]) (st' := [.int 0]) rfl ?_
  exact s_iretL X hr tl (dk okd_L_formatInvoice 4 rfl)
