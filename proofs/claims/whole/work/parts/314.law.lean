theorem cl_L_270 : Cond.constantLong RL 270 4294967295 ∈ TT := TT_10 (i := 199) rfl rfl
theorem mh_L_272 : MH RL 272 yL_royalty cL_royalty 6 [(0, 10, 13, 22), (0, 10, 17, 13)] 4 := ⟨TT_6 (i := 85) rfl rfl, TT_6 (i := 86) rfl rfl, TT_1 (i := 0) rfl rfl, TT_6 (i := 87) rfl rfl, ⟨by decide, by decide, by decide +kernel⟩⟩
theorem mh_L_276 : MH RL 276 yL_planOf cL_planOf 4 [(0, 9, 12, 22)] 3 := ⟨TT_6 (i := 99) rfl rfl, TT_6 (i := 100) rfl rfl, TT_1 (i := 0) rfl rfl, TT_6 (i := 101) rfl rfl, ⟨by decide, by decide, by decide +kernel⟩⟩
theorem mh_L_279 : MH RL 279 yL_setPlan cL_setPlan 5 [(0, 10, 13, 22)] 4 := ⟨TT_6 (i := 106) rfl rfl, TT_6 (i := 107) rfl rfl, TT_1 (i := 0) rfl rfl, TT_6 (i := 108) rfl rfl, ⟨by decide, by decide, by decide +kernel⟩⟩
theorem mh_L_282 : MH RL 282 yL_cheapestPlan cL_cheapestPlan 4 [(0, 9, 12, 22)] 3 := ⟨TT_6 (i := 113) rfl rfl, TT_6 (i := 114) rfl rfl, TT_1 (i := 0) rfl rfl, TT_6 (i := 115) rfl rfl, ⟨by decide, by decide, by decide +kernel⟩⟩
theorem mh_L_285 : MH RL 285 yL_reportSales cL_reportSales 6 [(0, 10, 13, 22), (0, 10, 17, 13), (0, 10, 21, 79)] 4 := ⟨TT_6 (i := 128) rfl rfl, TT_6 (i := 129) rfl rfl, TT_1 (i := 0) rfl rfl, TT_6 (i := 130) rfl rfl, ⟨by decide, by decide, by decide +kernel⟩⟩
theorem mh_L_288 : MH RL 288 yL_deliver cL_deliver 8 [(0, 13, 16, 22), (0, 13, 20, 13), (0, 13, 24, 79)] 6 := ⟨TT_6 (i := 159) rfl rfl, TT_6 (i := 160) rfl rfl, TT_1 (i := 0) rfl rfl, TT_6 (i := 161) rfl rfl, ⟨by decide, by decide, by decide +kernel⟩⟩
theorem mh_L_292 : MH RL 292 yL_sales cL_sales 4 [(0, 8, 11, 22)] 3 := ⟨TT_6 (i := 167) rfl rfl, TT_6 (i := 168) rfl rfl, TT_1 (i := 0) rfl rfl, TT_6 (i := 169) rfl rfl, ⟨by decide, by decide, by decide +kernel⟩⟩
theorem mh_L_295 : MH RL 295 yL_salesOf cL_salesOf 5 [(0, 9, 12, 22), (0, 9, 16, 13)] 4 := ⟨TT_6 (i := 174) rfl rfl, TT_6 (i := 175) rfl rfl, TT_1 (i := 0) rfl rfl, TT_6 (i := 176) rfl rfl, ⟨by decide, by decide, by decide +kernel⟩⟩
theorem mv_L_275 : MV RL 275 yX12_royalty cX12_royalty 4 (some .long) 2 := ⟨TT_8 (i := 231) rfl rfl, TT_8 (i := 232) rfl rfl, TT_8 (i := 233) rfl rfl, TT_1 (i := 13) rfl rfl, TT_8 (i := 234) rfl rfl, ⟨by decide, by decide, by decide +kernel⟩⟩
theorem mv_L_278 : MV RL 278 yX12_planOf cX12_planOf 2 (some .int) 1 := ⟨TT_9 (i := 13) rfl rfl, TT_9 (i := 14) rfl rfl, TT_9 (i := 15) rfl rfl, TT_1 (i := 13) rfl rfl, TT_9 (i := 16) rfl rfl, ⟨by decide, by decide, by decide +kernel⟩⟩
theorem mv_L_281 : MV RL 281 yX12_setPlan cX12_setPlan 4 (some .int) 2 := ⟨TT_9 (i := 21) rfl rfl, TT_9 (i := 22) rfl rfl, TT_9 (i := 23) rfl rfl, TT_1 (i := 13) rfl rfl, TT_9 (i := 24) rfl rfl, ⟨by decide, by decide, by decide +kernel⟩⟩
theorem mv_L_284 : MV RL 284 yX12_cheapestPlan cX12_cheapestPlan 6 (some .int) 1 := ⟨TT_9 (i := 29) rfl rfl, TT_9 (i := 30) rfl rfl, TT_9 (i := 31) rfl rfl, TT_1 (i := 13) rfl rfl, TT_9 (i := 32) rfl rfl, ⟨by decide, by decide, by decide +kernel⟩⟩
theorem mv_L_287 : MV RL 287 yX12_reportSales cX12_reportSales 6 (some .long) 2 := ⟨TT_9 (i := 44) rfl rfl, TT_9 (i := 45) rfl rfl, TT_9 (i := 46) rfl rfl, TT_1 (i := 13) rfl rfl, TT_9 (i := 47) rfl rfl, ⟨by decide, by decide, by decide +kernel⟩⟩
theorem mv_L_291 : MV RL 291 yX12_deliver cX12_deliver 8 (some .long) 4 := ⟨TT_9 (i := 54) rfl rfl, TT_9 (i := 55) rfl rfl, TT_9 (i := 56) rfl rfl, TT_1 (i := 13) rfl rfl, TT_9 (i := 57) rfl rfl, ⟨by decide, by decide, by decide +kernel⟩⟩
theorem mv_L_294 : MV RL 294 yX12_sales cX12_sales 2 (some .long) 1 := ⟨TT_9 (i := 59) rfl rfl, TT_9 (i := 60) rfl rfl, TT_9 (i := 61) rfl rfl, TT_1 (i := 13) rfl rfl, TT_9 (i := 62) rfl rfl, ⟨by decide, by decide, by decide +kernel⟩⟩
theorem mv_L_297 : MV RL 297 yX12_salesOf cX12_salesOf 3 (some .long) 2 := ⟨TT_9 (i := 63) rfl rfl, TT_9 (i := 64) rfl rfl, TT_9 (i := 65) rfl rfl, TT_1 (i := 13) rfl rfl, TT_9 (i := 66) rfl rfl, ⟨by decide, by decide, by decide +kernel⟩⟩
def tab_law_24 : List En := [(1514, 8, 1, 0), (1515, 8, 0, 0), (1516, 5, 4, 0), (1518, 0, 0, 1), (1519, 17, 0, 0), (1521, 8, 0, 0), (1522, 5, 4, 0), (1524, 0, 0, 2), (1525, 17, 0, 0), (1527, 31, 0, 0), (1528, 1, 0, 32), (1530, 34, 0, 0), (1531, 8, 0, 0), (1532, 5, 4, 0), (1534, 0, 0, 3), (1535, 17, 0, 0), (1537, 31, 0, 0), (1541, 26, 0, 0), (1542, 27, 0, 0), (1543, 8, 3, 0), (1547, 11, 5, 0), (1549, 8, 2, 0), (1550, 8, 0, 0), (1551, 5, 4, 0), (1553, 0, 0, 1), (1554, 17, 0, 0), (1556, 8, 0, 0), (1557, 5, 4, 0), (1559, 0, 0, 2), (1560, 17, 0, 0), (1562, 31, 0, 0), (1563, 1, 0, 32), (1565, 34, 0, 0), (1566, 8, 0, 0), (1567, 5, 4, 0), (1569, 0, 0, 3), (1570, 17, 0, 0), (1572, 31, 0, 0), (1576, 26, 0, 0), (1577, 27, 0, 0), (1581, 13, 6, 0), (1583, 8, 2, 0), (1587, 5, 5, 0), (1592, 0, 0, 0), (1594, 5, 5, 0), (1599, 8, 3, 0), (1600, 0, 0, 0), (1602, 7, 6, 0), (1604, 40, 0, 0), (1608, 0, 0, 0), (1610, 41, 4006, 0)]
theorem ok_law_24 : tab_law_24.all (okE code) = true := by decide +kernel
def ed_law_24 : List (Nat × Instr × Nat) := [(1520, .iaload, 1), (1526, .iaload, 1), (1536, .iaload, 1), (1538, .ldc2_w 270, 3), (1544, .invokestatic 272, 3), (1555, .iaload, 1), (1561, .iaload, 1), (1571, .iaload, 1), (1573, .ldc2_w 270, 3), (1578, .invokevirtual 275, 3), (1584, .invokevirtual 214, 3), (1589, .if_icmp .eq 5, 3), (1593, .ireturn, 1), (1596, .ifCond .ne 14, 3), (1601, .laload, 1), (1605, .ifCond .eq 5, 3), (1609, .ireturn, 1)]
theorem okd_law_24 : ed_law_24.all (okD code) = true := by decide +kernel
def f_law_24 (Ls : Nat) (xs : Nat → Int32) (S : St) (x m o : Nat) (i : Int32) (c : Nat) (kont : St → Nat → Option Unit) : Option Unit := sx Ls xs (i + 1) fun (v1 : Int32) => sx Ls xs (i + 2) fun (v2 : Int32) => sx Ls xs (i + 3) fun (v3 : Int32) => cl (f_L_royalty S x v1 (((Int32.toInt64 v2) <<< ((Int32.toInt64 32) &&& 63)) ||| ((Int32.toInt64 v3) &&& 4294967295)) o) fun (o4 : Int32 × St × Nat) => bud (c + o4.2.2) <| sx Ls xs (i + 1) fun (v6 : Int32) => sx Ls xs (i + 2) fun (v7 : Int32) => sx Ls xs (i + 3) fun (v8 : Int32) => cl (f_X12_royalty o4.2.1 m v6 (((Int32.toInt64 v7) <<< ((Int32.toInt64 32) &&& 63)) ||| ((Int32.toInt64 v8) &&& 4294967295))) fun (o9 : Int64 × St) => cl (f_X12_thrown o9.2 m) fun (v10 : Int32) => if v10 = o4.1 then (jn (κ := Option (Unit)) (kont o9.2 ((c + o4.2.2))) fun k11 => if o4.1 = 0 then (ldJ o9.2 o 0 fun (v13 : Int64) => if v13 = o9.1 then (k11) else (none)) else (k11)) else (none)
set_option maxHeartbeats 4000000 in
set_option maxRecDepth 100000 in
theorem c_law_24 {Cn : Nat → CT} {b Ls : Nat} {xs : Nat → Int32} {Q : Unit → State → Prop} {x m o : Nat} {i : Int32} (hf : Fam Cn b Ls xs) (tx0 : tT (Cn 0) x 10) (tm0 : tT (Cn 0) m 11) (to0 : tT (Cn 0) o 14) (S : St) (c : Nat) (hc : c ≤ 512) (kont : St → Nat → Option Unit) (hk : ∀ (S : St) (c : Nat), c ≤ 512 → Jd (Cn c) 8 Q S 4006 [some (.ref b), some (.ref x), some (.ref m), some (.ref o), some (.int i), none, none, none] [] (kont S c)) : Jd (Cn c) 8 Q S 1514 [some (.ref b), some (.ref x), some (.ref m), some (.ref o), some (.int i), none, none, none] [] (f_law_24 Ls xs S x m o i c kont) := by
  have X := hf.X hc
  have E := hf.E c
  have tx_ := hf.T c tx0
  have tm_ := hf.T c tm0
  have to_ := hf.T c to0
  unfold f_law_24
  refine s_run X ok_law_24 0 5 (pc' := 1520) (vs' := [some (.ref b), some (.ref x), some (.ref m), some (.ref o), some (.int i), none, none, none]) (st' := [.int (i + 1), .ref b, .ref x]) rfl ?_
  refine s_sld hf (dk okd_law_24 0 rfl) (fun v1 => ?_)
  refine s_run X ok_law_24 5 4 (pc' := 1526) (vs' := [some (.ref b), some (.ref x), some (.ref m), some (.ref o), some (.int i), none, none, none]) (st' := [.int (i + 2), .ref b, .int v1, .ref x]) rfl ?_
  refine s_sld hf (dk okd_law_24 1 rfl) (fun v2 => ?_)
  refine s_run X ok_law_24 9 7 (pc' := 1536) (vs' := [some (.ref b), some (.ref x), some (.ref m), some (.ref o), some (.int i), none, none, none]) (st' := [.int (i + 3), .ref b, .long ((Int32.toInt64 v2) <<< ((Int32.toInt64 32) &&& 63)), .int v1, .ref x]) rfl ?_
  refine s_sld hf (dk okd_law_24 2 rfl) (fun v3 => ?_)
  refine s_run X ok_law_24 16 1 (pc' := 1538) (vs' := [some (.ref b), some (.ref x), some (.ref m), some (.ref o), some (.int i), none, none, none]) (st' := [.long (Int32.toInt64 v3), .long ((Int32.toInt64 v2) <<< ((Int32.toInt64 32) &&& 63)), .int v1, .ref x]) rfl ?_
  refine s_ldc2 X cl_L_270 (dk okd_law_24 3 rfl) ?_
  refine s_run X ok_law_24 17 3 (pc' := 1544) (vs' := [some (.ref b), some (.ref x), some (.ref m), some (.ref o), some (.int i), none, none, none]) (st' := [.ref o, .long (((Int32.toInt64 v2) <<< ((Int32.toInt64 32) &&& 63)) ||| ((Int32.toInt64 v3) &&& 4294967295)), .int v1, .ref x]) rfl ?_
  refine s_callH (c0 := c) (As := [.ref x, .int v1, .long (((Int32.toInt64 v2) <<< ((Int32.toInt64 32) &&& 63)) ||| ((Int32.toInt64 v3) &&& 4294967295)), .ref o]) (rest := []) hf mh_L_272 (c_L_royalty S x v1 (((Int32.toInt64 v2) <<< ((Int32.toInt64 32) &&& 63)) ||| ((Int32.toInt64 v3) &&& 4294967295)) o) (ta2 tx_ to_) rfl rfl (Nat.le_of_ble_eq_true rfl) (Nat.le_of_ble_eq_true rfl) (Nat.le_of_ble_eq_true rfl) (dk okd_law_24 4 rfl) (st' := fun o4 => [.int o4.1]) (fun _ => rfl) (fun o4 hb5 => ?_)
  have X := hf.X hb5
  have E := hf.E (c + o4.2.2)
  have tx_ := hf.T (c + o4.2.2) tx_
  have tm_ := hf.T (c + o4.2.2) tm_
  have to_ := hf.T (c + o4.2.2) to_
  refine s_run X ok_law_24 20 6 (pc' := 1555) (vs' := [some (.ref b), some (.ref x), some (.ref m), some (.ref o), some (.int i), some (.int o4.1), none, none]) (st' := [.int (i + 1), .ref b, .ref m]) rfl ?_
  refine s_sld hf (dk okd_law_24 5 rfl) (fun v6 => ?_)
  refine s_run X ok_law_24 26 4 (pc' := 1561) (vs' := [some (.ref b), some (.ref x), some (.ref m), some (.ref o), some (.int i), some (.int o4.1), none, none]) (st' := [.int (i + 2), .ref b, .int v6, .ref m]) rfl ?_
  refine s_sld hf (dk okd_law_24 6 rfl) (fun v7 => ?_)
  refine s_run X ok_law_24 30 7 (pc' := 1571) (vs' := [some (.ref b), some (.ref x), some (.ref m), some (.ref o), some (.int i), some (.int o4.1), none, none]) (st' := [.int (i + 3), .ref b, .long ((Int32.toInt64 v7) <<< ((Int32.toInt64 32) &&& 63)), .int v6, .ref m]) rfl ?_
  refine s_sld hf (dk okd_law_24 7 rfl) (fun v8 => ?_)
  refine s_run X ok_law_24 37 1 (pc' := 1573) (vs' := [some (.ref b), some (.ref x), some (.ref m), some (.ref o), some (.int i), some (.int o4.1), none, none]) (st' := [.long (Int32.toInt64 v8), .long ((Int32.toInt64 v7) <<< ((Int32.toInt64 32) &&& 63)), .int v6, .ref m]) rfl ?_
  refine s_ldc2 X cl_L_270 (dk okd_law_24 8 rfl) ?_
  refine s_run X ok_law_24 38 2 (pc' := 1578) (vs' := [some (.ref b), some (.ref x), some (.ref m), some (.ref o), some (.int i), some (.int o4.1), none, none]) (st' := [.long (((Int32.toInt64 v7) <<< ((Int32.toInt64 32) &&& 63)) ||| ((Int32.toInt64 v8) &&& 4294967295)), .int v6, .ref m]) rfl ?_
  refine s_callV (b := m) (As := [.int v6, .long (((Int32.toInt64 v7) <<< ((Int32.toInt64 32) &&& 63)) ||| ((Int32.toInt64 v8) &&& 4294967295))]) (rest := []) X E mv_L_275 (c_X12_royalty o4.2.1 m v6 (((Int32.toInt64 v7) <<< ((Int32.toInt64 32) &&& 63)) ||| ((Int32.toInt64 v8) &&& 4294967295))) rfl (ta1 tm_) rfl (by decide) tm_ rfl rfl (Nat.le_of_ble_eq_true rfl) (Nat.le_of_ble_eq_true rfl) (Nat.le_of_ble_eq_true rfl) (dk okd_law_24 9 rfl) (st' := fun o9 => [.long o9.1]) (fun _ => rfl) (fun o9 => ?_)
  refine s_run X ok_law_24 40 2 (pc' := 1584) (vs' := [some (.ref b), some (.ref x), some (.ref m), some (.ref o), some (.int i), some (.int o4.1), some (.long o9.1), none]) (st' := [.ref m]) rfl ?_
  refine s_callV (b := m) (As := []) (rest := []) X E mv_L_214 (c_X12_thrown o9.2 m) rfl (ta1 tm_) rfl (by decide) tm_ rfl rfl (Nat.le_of_ble_eq_true rfl) (Nat.le_of_ble_eq_true rfl) (Nat.le_of_ble_eq_true rfl) (dk okd_law_24 10 rfl) (st' := fun v10 => [.int v10]) (fun _ => rfl) (fun v10 => ?_)
  refine s_run X ok_law_24 42 1 (pc' := 1589) (vs' := [some (.ref b), some (.ref x), some (.ref m), some (.ref o), some (.int i), some (.int o4.1), some (.long o9.1), none]) (st' := [.int o4.1, .int v10]) rfl ?_
  refine s_icmp_eq (tgt := 1594) X (dk okd_law_24 11 rfl) (by decide) ?_ ?_
  · refine s_run X ok_law_24 44 1 (pc' := 1596) (vs' := [some (.ref b), some (.ref x), some (.ref m), some (.ref o), some (.int i), some (.int o4.1), some (.long o9.1), none]) (st' := [.int o4.1]) rfl ?_
    refine s_jn (κ := Option (Unit)) (fun k11 => Jd (Cn (c + o4.2.2)) 8 Q o9.2 1610 [some (.ref b), some (.ref x), some (.ref m), some (.ref o), some (.int i), none, none, none] [] k11) ?_ (fun k11 h12 => ?_)
    · refine s_run X ok_law_24 50 1 (pc' := 4006) (vs' := [some (.ref b), some (.ref x), some (.ref m), some (.ref o), some (.int i), none, none, none]) (st' := []) rfl ?_
      exact s_less [true, true, true, true, true, false, false, false] rfl (hk o9.2 ((c + o4.2.2)) hb5)
    · refine s_if_ne (tgt := 1610) X (dk okd_law_24 13 rfl) (by decide) ?_ ?_
      · exact s_less [true, true, true, true, true, false, false, false] rfl (h12)
      · refine s_run X ok_law_24 45 2 (pc' := 1601) (vs' := [some (.ref b), some (.ref x), some (.ref m), some (.ref o), some (.int i), some (.int o4.1), some (.long o9.1), none]) (st' := [.int 0, .ref o]) rfl ?_
        refine s_lald X to_ (dk okd_law_24 14 rfl) (fun v13 => ?_)
        refine s_run X ok_law_24 47 2 (pc' := 1605) (vs' := [some (.ref b), some (.ref x), some (.ref m), some (.ref o), some (.int i), some (.int o4.1), some (.long o9.1), none]) (st' := [.int (lg_cmp v13 o9.1)]) rfl ?_
        refine s_lif_eq (tgt := 1610) X (dk okd_law_24 15 rfl) (by decide) ?_ ?_
        · exact s_less [true, true, true, true, true, false, false, false] rfl (h12)
        · refine s_run X ok_law_24 49 1 (pc' := 1609) (vs' := [some (.ref b), some (.ref x), some (.ref m), some (.ref o), some (.int i), some (.int o4.1), some (.long o9.1), none]) (st' := [.int 0]) rfl ?_
          exact s_none
  · refine s_run X ok_law_24 43 1 (pc' := 1593) (vs' := [some (.ref b), some (.ref x), some (.ref m), some (.ref o), some (.int i), some (.int o4.1), some (.long o9.1), none]) (st' := [.int 0]) rfl ?_
    exact s_none
def tab_law_25 : List En := [(1613, 8, 1, 0), (1614, 8, 0, 0), (1615, 5, 4, 0), (1617, 0, 0, 1), (1618, 17, 0, 0), (1620, 8, 3, 0), (1624, 11, 5, 0), (1626, 8, 2, 0), (1627, 8, 0, 0), (1628, 5, 4, 0), (1630, 0, 0, 1), (1631, 17, 0, 0), (1636, 11, 6, 0), (1638, 8, 2, 0), (1642, 5, 5, 0), (1647, 0, 0, 0), (1649, 5, 5, 0), (1654, 8, 3, 0), (1655, 0, 0, 0), (1657, 5, 6, 0), (1659, 31, 0, 0), (1660, 40, 0, 0), (1664, 0, 0, 0), (1666, 41, 4006, 0)]
theorem ok_law_25 : tab_law_25.all (okE code) = true := by decide +kernel
def ed_law_25 : List (Nat × Instr × Nat) := [(1619, .iaload, 1), (1621, .invokestatic 276, 3), (1632, .iaload, 1), (1633, .invokevirtual 278, 3), (1639, .invokevirtual 214, 3), (1644, .if_icmp .eq 5, 3), (1648, .ireturn, 1), (1651, .ifCond .ne 15, 3), (1656, .laload, 1), (1661, .ifCond .eq 5, 3), (1665, .ireturn, 1)]
theorem okd_law_25 : ed_law_25.all (okD code) = true := by decide +kernel
def f_law_25 (Ls : Nat) (xs : Nat → Int32) (S : St) (x m o : Nat) (i : Int32) (c : Nat) (kont : St → Nat → Option Unit) : Option Unit := sx Ls xs (i + 1) fun (v1 : Int32) => cl (f_L_planOf S x v1 o) fun (o2 : Int32 × St × Nat) => bud (c + o2.2.2) <| sx Ls xs (i + 1) fun (v4 : Int32) => cl (f_X12_planOf o2.2.1 m v4) fun (o5 : Int32 × St) => cl (f_X12_thrown o5.2 m) fun (v6 : Int32) => if v6 = o2.1 then (jn (κ := Option (Unit)) (kont o5.2 ((c + o2.2.2))) fun k7 => if o2.1 = 0 then (ldJ o5.2 o 0 fun (v9 : Int64) => if v9 = (Int32.toInt64 o5.1) then (k7) else (none)) else (k7)) else (none)
set_option maxHeartbeats 4000000 in
set_option maxRecDepth 100000 in
theorem c_law_25 {Cn : Nat → CT} {b Ls : Nat} {xs : Nat → Int32} {Q : Unit → State → Prop} {x m o : Nat} {i : Int32} (hf : Fam Cn b Ls xs) (tx0 : tT (Cn 0) x 10) (tm0 : tT (Cn 0) m 11) (to0 : tT (Cn 0) o 14) (S : St) (c : Nat) (hc : c ≤ 512) (kont : St → Nat → Option Unit) (hk : ∀ (S : St) (c : Nat), c ≤ 512 → Jd (Cn c) 8 Q S 4006 [some (.ref b), some (.ref x), some (.ref m), some (.ref o), some (.int i), none, none, none] [] (kont S c)) : Jd (Cn c) 8 Q S 1613 [some (.ref b), some (.ref x), some (.ref m), some (.ref o), some (.int i), none, none, none] [] (f_law_25 Ls xs S x m o i c kont) := by
  have X := hf.X hc
  have E := hf.E c
  have tx_ := hf.T c tx0
  have tm_ := hf.T c tm0
  have to_ := hf.T c to0
  unfold f_law_25
  refine s_run X ok_law_25 0 5 (pc' := 1619) (vs' := [some (.ref b), some (.ref x), some (.ref m), some (.ref o), some (.int i), none, none, none]) (st' := [.int (i + 1), .ref b, .ref x]) rfl ?_
  refine s_sld hf (dk okd_law_25 0 rfl) (fun v1 => ?_)
  refine s_run X ok_law_25 5 1 (pc' := 1621) (vs' := [some (.ref b), some (.ref x), some (.ref m), some (.ref o), some (.int i), none, none, none]) (st' := [.ref o, .int v1, .ref x]) rfl ?_
  refine s_callH (c0 := c) (As := [.ref x, .int v1, .ref o]) (rest := []) hf mh_L_276 (c_L_planOf S x v1 o) (ta2 tx_ to_) rfl rfl (Nat.le_of_ble_eq_true rfl) (Nat.le_of_ble_eq_true rfl) (Nat.le_of_ble_eq_true rfl) (dk okd_law_25 1 rfl) (st' := fun o2 => [.int o2.1]) (fun _ => rfl) (fun o2 hb3 => ?_)
  have X := hf.X hb3
  have E := hf.E (c + o2.2.2)
  have tx_ := hf.T (c + o2.2.2) tx_
  have tm_ := hf.T (c + o2.2.2) tm_
  have to_ := hf.T (c + o2.2.2) to_
  refine s_run X ok_law_25 6 6 (pc' := 1632) (vs' := [some (.ref b), some (.ref x), some (.ref m), some (.ref o), some (.int i), some (.int o2.1), none, none]) (st' := [.int (i + 1), .ref b, .ref m]) rfl ?_
  refine s_sld hf (dk okd_law_25 2 rfl) (fun v4 => ?_)
  refine s_callV (b := m) (As := [.int v4]) (rest := []) X E mv_L_278 (c_X12_planOf o2.2.1 m v4) rfl (ta1 tm_) rfl (by decide) tm_ rfl rfl (Nat.le_of_ble_eq_true rfl) (Nat.le_of_ble_eq_true rfl) (Nat.le_of_ble_eq_true rfl) (dk okd_law_25 3 rfl) (st' := fun o5 => [.int o5.1]) (fun _ => rfl) (fun o5 => ?_)
  refine s_run X ok_law_25 12 2 (pc' := 1639) (vs' := [some (.ref b), some (.ref x), some (.ref m), some (.ref o), some (.int i), some (.int o2.1), some (.int o5.1), none]) (st' := [.ref m]) rfl ?_
  refine s_callV (b := m) (As := []) (rest := []) X E mv_L_214 (c_X12_thrown o5.2 m) rfl (ta1 tm_) rfl (by decide) tm_ rfl rfl (Nat.le_of_ble_eq_true rfl) (Nat.le_of_ble_eq_true rfl) (Nat.le_of_ble_eq_true rfl) (dk okd_law_25 4 rfl) (st' := fun v6 => [.int v6]) (fun _ => rfl) (fun v6 => ?_)
  refine s_run X ok_law_25 14 1 (pc' := 1644) (vs' := [some (.ref b), some (.ref x), some (.ref m), some (.ref o), some (.int i), some (.int o2.1), some (.int o5.1), none]) (st' := [.int o2.1, .int v6]) rfl ?_
  refine s_icmp_eq (tgt := 1649) X (dk okd_law_25 5 rfl) (by decide) ?_ ?_
  · refine s_run X ok_law_25 16 1 (pc' := 1651) (vs' := [some (.ref b), some (.ref x), some (.ref m), some (.ref o), some (.int i), some (.int o2.1), some (.int o5.1), none]) (st' := [.int o2.1]) rfl ?_
    refine s_jn (κ := Option (Unit)) (fun k7 => Jd (Cn (c + o2.2.2)) 8 Q o5.2 1666 [some (.ref b), some (.ref x), some (.ref m), some (.ref o), some (.int i), none, none, none] [] k7) ?_ (fun k7 h8 => ?_)
    · refine s_run X ok_law_25 23 1 (pc' := 4006) (vs' := [some (.ref b), some (.ref x), some (.ref m), some (.ref o), some (.int i), none, none, none]) (st' := []) rfl ?_
      exact s_less [true, true, true, true, true, false, false, false] rfl (hk o5.2 ((c + o2.2.2)) hb3)
    · refine s_if_ne (tgt := 1666) X (dk okd_law_25 7 rfl) (by decide) ?_ ?_
      · exact s_less [true, true, true, true, true, false, false, false] rfl (h8)
      · refine s_run X ok_law_25 17 2 (pc' := 1656) (vs' := [some (.ref b), some (.ref x), some (.ref m), some (.ref o), some (.int i), some (.int o2.1), some (.int o5.1), none]) (st' := [.int 0, .ref o]) rfl ?_
        refine s_lald X to_ (dk okd_law_25 8 rfl) (fun v9 => ?_)
        refine s_run X ok_law_25 19 3 (pc' := 1661) (vs' := [some (.ref b), some (.ref x), some (.ref m), some (.ref o), some (.int i), some (.int o2.1), some (.int o5.1), none]) (st' := [.int (lg_cmp v9 (Int32.toInt64 o5.1))]) rfl ?_
        refine s_lif_eq (tgt := 1666) X (dk okd_law_25 9 rfl) (by decide) ?_ ?_
        · exact s_less [true, true, true, true, true, false, false, false] rfl (h8)
        · refine s_run X ok_law_25 22 1 (pc' := 1665) (vs' := [some (.ref b), some (.ref x), some (.ref m), some (.ref o), some (.int i), some (.int o2.1), some (.int o5.1), none]) (st' := [.int 0]) rfl ?_
          exact s_none
  · refine s_run X ok_law_25 15 1 (pc' := 1648) (vs' := [some (.ref b), some (.ref x), some (.ref m), some (.ref o), some (.int i), some (.int o2.1), some (.int o5.1), none]) (st' := [.int 0]) rfl ?_
    exact s_none
def tab_law_26 : List En := [(1669, 8, 1, 0), (1670, 8, 0, 0), (1671, 5, 4, 0), (1673, 0, 0, 1), (1674, 17, 0, 0), (1676, 8, 0, 0), (1677, 5, 4, 0), (1679, 0, 0, 2), (1680, 17, 0, 0), (1682, 8, 3, 0), (1686, 11, 5, 0), (1688, 8, 2, 0), (1689, 8, 0, 0), (1690, 5, 4, 0), (1692, 0, 0, 1), (1693, 17, 0, 0), (1695, 8, 0, 0), (1696, 5, 4, 0), (1698, 0, 0, 2), (1699, 17, 0, 0), (1704, 11, 6, 0), (1706, 8, 2, 0), (1710, 5, 5, 0), (1715, 0, 0, 0), (1717, 5, 5, 0), (1722, 8, 3, 0), (1723, 0, 0, 0), (1725, 5, 6, 0), (1727, 31, 0, 0), (1728, 40, 0, 0), (1732, 0, 0, 0), (1734, 41, 4006, 0)]
theorem ok_law_26 : tab_law_26.all (okE code) = true := by decide +kernel
def ed_law_26 : List (Nat × Instr × Nat) := [(1675, .iaload, 1), (1681, .iaload, 1), (1683, .invokestatic 279, 3), (1694, .iaload, 1), (1700, .iaload, 1), (1701, .invokevirtual 281, 3), (1707, .invokevirtual 214, 3), (1712, .if_icmp .eq 5, 3), (1716, .ireturn, 1), (1719, .ifCond .ne 15, 3), (1724, .laload, 1), (1729, .ifCond .eq 5, 3), (1733, .ireturn, 1)]
theorem okd_law_26 : ed_law_26.all (okD code) = true := by decide +kernel
def f_law_26 (Ls : Nat) (xs : Nat → Int32) (S : St) (x m o : Nat) (i : Int32) (c : Nat) (kont : St → Nat → Option Unit) : Option Unit := sx Ls xs (i + 1) fun (v1 : Int32) => sx Ls xs (i + 2) fun (v2 : Int32) => cl (f_L_setPlan S x v1 v2 o) fun (o3 : Int32 × St × Nat) => bud (c + o3.2.2) <| sx Ls xs (i + 1) fun (v5 : Int32) => sx Ls xs (i + 2) fun (v6 : Int32) => cl (f_X12_setPlan o3.2.1 m v5 v6) fun (o7 : Int32 × St) => cl (f_X12_thrown o7.2 m) fun (v8 : Int32) => if v8 = o3.1 then (jn (κ := Option (Unit)) (kont o7.2 ((c + o3.2.2))) fun k9 => if o3.1 = 0 then (ldJ o7.2 o 0 fun (v11 : Int64) => if v11 = (Int32.toInt64 o7.1) then (k9) else (none)) else (k9)) else (none)
set_option maxHeartbeats 4000000 in
set_option maxRecDepth 100000 in
theorem c_law_26 {Cn : Nat → CT} {b Ls : Nat} {xs : Nat → Int32} {Q : Unit → State → Prop} {x m o : Nat} {i : Int32} (hf : Fam Cn b Ls xs) (tx0 : tT (Cn 0) x 10) (tm0 : tT (Cn 0) m 11) (to0 : tT (Cn 0) o 14) (S : St) (c : Nat) (hc : c ≤ 512) (kont : St → Nat → Option Unit) (hk : ∀ (S : St) (c : Nat), c ≤ 512 → Jd (Cn c) 8 Q S 4006 [some (.ref b), some (.ref x), some (.ref m), some (.ref o), some (.int i), none, none, none] [] (kont S c)) : Jd (Cn c) 8 Q S 1669 [some (.ref b), some (.ref x), some (.ref m), some (.ref o), some (.int i), none, none, none] [] (f_law_26 Ls xs S x m o i c kont) := by
  have X := hf.X hc
  have E := hf.E c
  have tx_ := hf.T c tx0
  have tm_ := hf.T c tm0
  have to_ := hf.T c to0
  unfold f_law_26
  refine s_run X ok_law_26 0 5 (pc' := 1675) (vs' := [some (.ref b), some (.ref x), some (.ref m), some (.ref o), some (.int i), none, none, none]) (st' := [.int (i + 1), .ref b, .ref x]) rfl ?_
  refine s_sld hf (dk okd_law_26 0 rfl) (fun v1 => ?_)
  refine s_run X ok_law_26 5 4 (pc' := 1681) (vs' := [some (.ref b), some (.ref x), some (.ref m), some (.ref o), some (.int i), none, none, none]) (st' := [.int (i + 2), .ref b, .int v1, .ref x]) rfl ?_
  refine s_sld hf (dk okd_law_26 1 rfl) (fun v2 => ?_)
  refine s_run X ok_law_26 9 1 (pc' := 1683) (vs' := [some (.ref b), some (.ref x), some (.ref m), some (.ref o), some (.int i), none, none, none]) (st' := [.ref o, .int v2, .int v1, .ref x]) rfl ?_
  refine s_callH (c0 := c) (As := [.ref x, .int v1, .int v2, .ref o]) (rest := []) hf mh_L_279 (c_L_setPlan S x v1 v2 o) (ta2 tx_ to_) rfl rfl (Nat.le_of_ble_eq_true rfl) (Nat.le_of_ble_eq_true rfl) (Nat.le_of_ble_eq_true rfl) (dk okd_law_26 2 rfl) (st' := fun o3 => [.int o3.1]) (fun _ => rfl) (fun o3 hb4 => ?_)
  have X := hf.X hb4
  have E := hf.E (c + o3.2.2)
  have tx_ := hf.T (c + o3.2.2) tx_
  have tm_ := hf.T (c + o3.2.2) tm_
  have to_ := hf.T (c + o3.2.2) to_
  refine s_run X ok_law_26 10 6 (pc' := 1694) (vs' := [some (.ref b), some (.ref x), some (.ref m), some (.ref o), some (.int i), some (.int o3.1), none, none]) (st' := [.int (i + 1), .ref b, .ref m]) rfl ?_
  refine s_sld hf (dk okd_law_26 3 rfl) (fun v5 => ?_)
  refine s_run X ok_law_26 16 4 (pc' := 1700) (vs' := [some (.ref b), some (.ref x), some (.ref m), some (.ref o), some (.int i), some (.int o3.1), none, none]) (st' := [.int (i + 2), .ref b, .int v5, .ref m]) rfl ?_
  refine s_sld hf (dk okd_law_26 4 rfl) (fun v6 => ?_)
  refine s_callV (b := m) (As := [.int v5, .int v6]) (rest := []) X E mv_L_281 (c_X12_setPlan o3.2.1 m v5 v6) rfl (ta1 tm_) rfl (by decide) tm_ rfl rfl (Nat.le_of_ble_eq_true rfl) (Nat.le_of_ble_eq_true rfl) (Nat.le_of_ble_eq_true rfl) (dk okd_law_26 5 rfl) (st' := fun o7 => [.int o7.1]) (fun _ => rfl) (fun o7 => ?_)
  refine s_run X ok_law_26 20 2 (pc' := 1707) (vs' := [some (.ref b), some (.ref x), some (.ref m), some (.ref o), some (.int i), some (.int o3.1), some (.int o7.1), none]) (st' := [.ref m]) rfl ?_
  refine s_callV (b := m) (As := []) (rest := []) X E mv_L_214 (c_X12_thrown o7.2 m) rfl (ta1 tm_) rfl (by decide) tm_ rfl rfl (Nat.le_of_ble_eq_true rfl) (Nat.le_of_ble_eq_true rfl) (Nat.le_of_ble_eq_true rfl) (dk okd_law_26 6 rfl) (st' := fun v8 => [.int v8]) (fun _ => rfl) (fun v8 => ?_)
  refine s_run X ok_law_26 22 1 (pc' := 1712) (vs' := [some (.ref b), some (.ref x), some (.ref m), some (.ref o), some (.int i), some (.int o3.1), some (.int o7.1), none]) (st' := [.int o3.1, .int v8]) rfl ?_
  refine s_icmp_eq (tgt := 1717) X (dk okd_law_26 7 rfl) (by decide) ?_ ?_
  · refine s_run X ok_law_26 24 1 (pc' := 1719) (vs' := [some (.ref b), some (.ref x), some (.ref m), some (.ref o), some (.int i), some (.int o3.1), some (.int o7.1), none]) (st' := [.int o3.1]) rfl ?_
    refine s_jn (κ := Option (Unit)) (fun k9 => Jd (Cn (c + o3.2.2)) 8 Q o7.2 1734 [some (.ref b), some (.ref x), some (.ref m), some (.ref o), some (.int i), none, none, none] [] k9) ?_ (fun k9 h10 => ?_)
    · refine s_run X ok_law_26 31 1 (pc' := 4006) (vs' := [some (.ref b), some (.ref x), some (.ref m), some (.ref o), some (.int i), none, none, none]) (st' := []) rfl ?_
      exact s_less [true, true, true, true, true, false, false, false] rfl (hk o7.2 ((c + o3.2.2)) hb4)
    · refine s_if_ne (tgt := 1734) X (dk okd_law_26 9 rfl) (by decide) ?_ ?_
      · exact s_less [true, true, true, true, true, false, false, false] rfl (h10)
      · refine s_run X ok_law_26 25 2 (pc' := 1724) (vs' := [some (.ref b), some (.ref x), some (.ref m), some (.ref o), some (.int i), some (.int o3.1), some (.int o7.1), none]) (st' := [.int 0, .ref o]) rfl ?_
        refine s_lald X to_ (dk okd_law_26 10 rfl) (fun v11 => ?_)
        refine s_run X ok_law_26 27 3 (pc' := 1729) (vs' := [some (.ref b), some (.ref x), some (.ref m), some (.ref o), some (.int i), some (.int o3.1), some (.int o7.1), none]) (st' := [.int (lg_cmp v11 (Int32.toInt64 o7.1))]) rfl ?_
        refine s_lif_eq (tgt := 1734) X (dk okd_law_26 11 rfl) (by decide) ?_ ?_
        · exact s_less [true, true, true, true, true, false, false, false] rfl (h10)
        · refine s_run X ok_law_26 30 1 (pc' := 1733) (vs' := [some (.ref b), some (.ref x), some (.ref m), some (.ref o), some (.int i), some (.int o3.1), some (.int o7.1), none]) (st' := [.int 0]) rfl ?_
          exact s_none
  · refine s_run X ok_law_26 23 1 (pc' := 1716) (vs' := [some (.ref b), some (.ref x), some (.ref m), some (.ref o), some (.int i), some (.int o3.1), some (.int o7.1), none]) (st' := [.int 0]) rfl ?_
    exact s_none
def tab_law_27 : List En := [(1737, 8, 1, 0), (1738, 8, 0, 0), (1739, 5, 4, 0), (1741, 0, 0, 1), (1742, 17, 0, 0), (1744, 8, 3, 0), (1748, 11, 5, 0), (1750, 8, 2, 0), (1751, 8, 0, 0), (1752, 5, 4, 0), (1754, 0, 0, 1), (1755, 17, 0, 0), (1760, 11, 6, 0), (1762, 8, 2, 0), (1766, 5, 5, 0), (1771, 0, 0, 0), (1773, 5, 5, 0), (1778, 8, 3, 0), (1779, 0, 0, 0), (1781, 5, 6, 0), (1783, 31, 0, 0), (1784, 40, 0, 0), (1788, 0, 0, 0), (1790, 41, 4006, 0)]
theorem ok_law_27 : tab_law_27.all (okE code) = true := by decide +kernel
def ed_law_27 : List (Nat × Instr × Nat) := [(1743, .iaload, 1), (1745, .invokestatic 282, 3), (1756, .iaload, 1), (1757, .invokevirtual 284, 3), (1763, .invokevirtual 214, 3), (1768, .if_icmp .eq 5, 3), (1772, .ireturn, 1), (1775, .ifCond .ne 15, 3), (1780, .laload, 1), (1785, .ifCond .eq 5, 3), (1789, .ireturn, 1)]
theorem okd_law_27 : ed_law_27.all (okD code) = true := by decide +kernel
def f_law_27 (Ls : Nat) (xs : Nat → Int32) (S : St) (x m o : Nat) (i : Int32) (c : Nat) (kont : St → Nat → Option Unit) : Option Unit := sx Ls xs (i + 1) fun (v1 : Int32) => cl (f_L_cheapestPlan S x v1 o) fun (o2 : Int32 × St × Nat) => bud (c + o2.2.2) <| sx Ls xs (i + 1) fun (v4 : Int32) => cl (f_X12_cheapestPlan o2.2.1 m v4) fun (o5 : Int32 × St) => cl (f_X12_thrown o5.2 m) fun (v6 : Int32) => if v6 = o2.1 then (jn (κ := Option (Unit)) (kont o5.2 ((c + o2.2.2))) fun k7 => if o2.1 = 0 then (ldJ o5.2 o 0 fun (v9 : Int64) => if v9 = (Int32.toInt64 o5.1) then (k7) else (none)) else (k7)) else (none)
set_option maxHeartbeats 4000000 in
set_option maxRecDepth 100000 in
theorem c_law_27 {Cn : Nat → CT} {b Ls : Nat} {xs : Nat → Int32} {Q : Unit → State → Prop} {x m o : Nat} {i : Int32} (hf : Fam Cn b Ls xs) (tx0 : tT (Cn 0) x 10) (tm0 : tT (Cn 0) m 11) (to0 : tT (Cn 0) o 14) (S : St) (c : Nat) (hc : c ≤ 512) (kont : St → Nat → Option Unit) (hk : ∀ (S : St) (c : Nat), c ≤ 512 → Jd (Cn c) 8 Q S 4006 [some (.ref b), some (.ref x), some (.ref m), some (.ref o), some (.int i), none, none, none] [] (kont S c)) : Jd (Cn c) 8 Q S 1737 [some (.ref b), some (.ref x), some (.ref m), some (.ref o), some (.int i), none, none, none] [] (f_law_27 Ls xs S x m o i c kont) := by
  have X := hf.X hc
  have E := hf.E c
  have tx_ := hf.T c tx0
  have tm_ := hf.T c tm0
  have to_ := hf.T c to0
  unfold f_law_27
  refine s_run X ok_law_27 0 5 (pc' := 1743) (vs' := [some (.ref b), some (.ref x), some (.ref m), some (.ref o), some (.int i), none, none, none]) (st' := [.int (i + 1), .ref b, .ref x]) rfl ?_
  refine s_sld hf (dk okd_law_27 0 rfl) (fun v1 => ?_)
  refine s_run X ok_law_27 5 1 (pc' := 1745) (vs' := [some (.ref b), some (.ref x), some (.ref m), some (.ref o), some (.int i), none, none, none]) (st' := [.ref o, .int v1, .ref x]) rfl ?_
  refine s_callH (c0 := c) (As := [.ref x, .int v1, .ref o]) (rest := []) hf mh_L_282 (c_L_cheapestPlan S x v1 o) (ta2 tx_ to_) rfl rfl (Nat.le_of_ble_eq_true rfl) (Nat.le_of_ble_eq_true rfl) (Nat.le_of_ble_eq_true rfl) (dk okd_law_27 1 rfl) (st' := fun o2 => [.int o2.1]) (fun _ => rfl) (fun o2 hb3 => ?_)
  have X := hf.X hb3
  have E := hf.E (c + o2.2.2)
  have tx_ := hf.T (c + o2.2.2) tx_
  have tm_ := hf.T (c + o2.2.2) tm_
  have to_ := hf.T (c + o2.2.2) to_
  refine s_run X ok_law_27 6 6 (pc' := 1756) (vs' := [some (.ref b), some (.ref x), some (.ref m), some (.ref o), some (.int i), some (.int o2.1), none, none]) (st' := [.int (i + 1), .ref b, .ref m]) rfl ?_
  refine s_sld hf (dk okd_law_27 2 rfl) (fun v4 => ?_)
  refine s_callV (b := m) (As := [.int v4]) (rest := []) X E mv_L_284 (c_X12_cheapestPlan o2.2.1 m v4) rfl (ta1 tm_) rfl (by decide) tm_ rfl rfl (Nat.le_of_ble_eq_true rfl) (Nat.le_of_ble_eq_true rfl) (Nat.le_of_ble_eq_true rfl) (dk okd_law_27 3 rfl) (st' := fun o5 => [.int o5.1]) (fun _ => rfl) (fun o5 => ?_)
  refine s_run X ok_law_27 12 2 (pc' := 1763) (vs' := [some (.ref b), some (.ref x), some (.ref m), some (.ref o), some (.int i), some (.int o2.1), some (.int o5.1), none]) (st' := [.ref m]) rfl ?_
  refine s_callV (b := m) (As := []) (rest := []) X E mv_L_214 (c_X12_thrown o5.2 m) rfl (ta1 tm_) rfl (by decide) tm_ rfl rfl (Nat.le_of_ble_eq_true rfl) (Nat.le_of_ble_eq_true rfl) (Nat.le_of_ble_eq_true rfl) (dk okd_law_27 4 rfl) (st' := fun v6 => [.int v6]) (fun _ => rfl) (fun v6 => ?_)
  refine s_run X ok_law_27 14 1 (pc' := 1768) (vs' := [some (.ref b), some (.ref x), some (.ref m), some (.ref o), some (.int i), some (.int o2.1), some (.int o5.1), none]) (st' := [.int o2.1, .int v6]) rfl ?_
  refine s_icmp_eq (tgt := 1773) X (dk okd_law_27 5 rfl) (by decide) ?_ ?_
  · refine s_run X ok_law_27 16 1 (pc' := 1775) (vs' := [some (.ref b), some (.ref x), some (.ref m), some (.ref o), some (.int i), some (.int o2.1), some (.int o5.1), none]) (st' := [.int o2.1]) rfl ?_
    refine s_jn (κ := Option (Unit)) (fun k7 => Jd (Cn (c + o2.2.2)) 8 Q o5.2 1790 [some (.ref b), some (.ref x), some (.ref m), some (.ref o), some (.int i), none, none, none] [] k7) ?_ (fun k7 h8 => ?_)
    · refine s_run X ok_law_27 23 1 (pc' := 4006) (vs' := [some (.ref b), some (.ref x), some (.ref m), some (.ref o), some (.int i), none, none, none]) (st' := []) rfl ?_
      exact s_less [true, true, true, true, true, false, false, false] rfl (hk o5.2 ((c + o2.2.2)) hb3)
    · refine s_if_ne (tgt := 1790) X (dk okd_law_27 7 rfl) (by decide) ?_ ?_
      · exact s_less [true, true, true, true, true, false, false, false] rfl (h8)
      · refine s_run X ok_law_27 17 2 (pc' := 1780) (vs' := [some (.ref b), some (.ref x), some (.ref m), some (.ref o), some (.int i), some (.int o2.1), some (.int o5.1), none]) (st' := [.int 0, .ref o]) rfl ?_
        refine s_lald X to_ (dk okd_law_27 8 rfl) (fun v9 => ?_)
        refine s_run X ok_law_27 19 3 (pc' := 1785) (vs' := [some (.ref b), some (.ref x), some (.ref m), some (.ref o), some (.int i), some (.int o2.1), some (.int o5.1), none]) (st' := [.int (lg_cmp v9 (Int32.toInt64 o5.1))]) rfl ?_
        refine s_lif_eq (tgt := 1790) X (dk okd_law_27 9 rfl) (by decide) ?_ ?_
        · exact s_less [true, true, true, true, true, false, false, false] rfl (h8)
        · refine s_run X ok_law_27 22 1 (pc' := 1789) (vs' := [some (.ref b), some (.ref x), some (.ref m), some (.ref o), some (.int i), some (.int o2.1), some (.int o5.1), none]) (st' := [.int 0]) rfl ?_
          exact s_none
  · refine s_run X ok_law_27 15 1 (pc' := 1772) (vs' := [some (.ref b), some (.ref x), some (.ref m), some (.ref o), some (.int i), some (.int o2.1), some (.int o5.1), none]) (st' := [.int 0]) rfl ?_
    exact s_none
def tab_law_28 : List En := [(1793, 8, 1, 0), (1794, 8, 0, 0), (1795, 5, 4, 0), (1797, 0, 0, 1), (1798, 17, 0, 0), (1800, 8, 0, 0), (1801, 5, 4, 0), (1803, 0, 0, 2), (1804, 17, 0, 0), (1806, 31, 0, 0), (1807, 1, 0, 32), (1809, 34, 0, 0), (1810, 8, 0, 0), (1811, 5, 4, 0), (1813, 0, 0, 3), (1814, 17, 0, 0), (1816, 31, 0, 0), (1820, 26, 0, 0), (1821, 27, 0, 0), (1822, 8, 3, 0), (1826, 11, 5, 0), (1828, 8, 2, 0), (1829, 8, 0, 0), (1830, 5, 4, 0), (1832, 0, 0, 1), (1833, 17, 0, 0), (1835, 8, 0, 0), (1836, 5, 4, 0), (1838, 0, 0, 2), (1839, 17, 0, 0), (1841, 31, 0, 0), (1842, 1, 0, 32), (1844, 34, 0, 0), (1845, 8, 0, 0), (1846, 5, 4, 0), (1848, 0, 0, 3), (1849, 17, 0, 0), (1851, 31, 0, 0), (1855, 26, 0, 0), (1856, 27, 0, 0), (1860, 13, 6, 0), (1862, 8, 2, 0), (1866, 5, 5, 0), (1871, 0, 0, 0), (1873, 5, 5, 0), (1878, 8, 3, 0), (1879, 0, 0, 0), (1881, 7, 6, 0), (1883, 40, 0, 0), (1887, 0, 0, 0), (1889, 41, 4006, 0)]
theorem ok_law_28 : tab_law_28.all (okE code) = true := by decide +kernel
def ed_law_28 : List (Nat × Instr × Nat) := [(1799, .iaload, 1), (1805, .iaload, 1), (1815, .iaload, 1), (1817, .ldc2_w 270, 3), (1823, .invokestatic 285, 3), (1834, .iaload, 1), (1840, .iaload, 1), (1850, .iaload, 1), (1852, .ldc2_w 270, 3), (1857, .invokevirtual 287, 3), (1863, .invokevirtual 214, 3), (1868, .if_icmp .eq 5, 3), (1872, .ireturn, 1), (1875, .ifCond .ne 14, 3), (1880, .laload, 1), (1884, .ifCond .eq 5, 3), (1888, .ireturn, 1)]
theorem okd_law_28 : ed_law_28.all (okD code) = true := by decide +kernel
def f_law_28 (Ls : Nat) (xs : Nat → Int32) (S : St) (x m o : Nat) (i : Int32) (c : Nat) (kont : St → Nat → Option Unit) : Option Unit := sx Ls xs (i + 1) fun (v1 : Int32) => sx Ls xs (i + 2) fun (v2 : Int32) => sx Ls xs (i + 3) fun (v3 : Int32) => cl (f_L_reportSales S x v1 (((Int32.toInt64 v2) <<< ((Int32.toInt64 32) &&& 63)) ||| ((Int32.toInt64 v3) &&& 4294967295)) o) fun (o4 : Int32 × St × Nat) => bud (c + o4.2.2) <| sx Ls xs (i + 1) fun (v6 : Int32) => sx Ls xs (i + 2) fun (v7 : Int32) => sx Ls xs (i + 3) fun (v8 : Int32) => cl (f_X12_reportSales o4.2.1 m v6 (((Int32.toInt64 v7) <<< ((Int32.toInt64 32) &&& 63)) ||| ((Int32.toInt64 v8) &&& 4294967295))) fun (o9 : Int64 × St) => cl (f_X12_thrown o9.2 m) fun (v10 : Int32) => if v10 = o4.1 then (jn (κ := Option (Unit)) (kont o9.2 ((c + o4.2.2))) fun k11 => if o4.1 = 0 then (ldJ o9.2 o 0 fun (v13 : Int64) => if v13 = o9.1 then (k11) else (none)) else (k11)) else (none)
set_option maxHeartbeats 4000000 in
set_option maxRecDepth 100000 in
theorem c_law_28 {Cn : Nat → CT} {b Ls : Nat} {xs : Nat → Int32} {Q : Unit → State → Prop} {x m o : Nat} {i : Int32} (hf : Fam Cn b Ls xs) (tx0 : tT (Cn 0) x 10) (tm0 : tT (Cn 0) m 11) (to0 : tT (Cn 0) o 14) (S : St) (c : Nat) (hc : c ≤ 512) (kont : St → Nat → Option Unit) (hk : ∀ (S : St) (c : Nat), c ≤ 512 → Jd (Cn c) 8 Q S 4006 [some (.ref b), some (.ref x), some (.ref m), some (.ref o), some (.int i), none, none, none] [] (kont S c)) : Jd (Cn c) 8 Q S 1793 [some (.ref b), some (.ref x), some (.ref m), some (.ref o), some (.int i), none, none, none] [] (f_law_28 Ls xs S x m o i c kont) := by
  have X := hf.X hc
  have E := hf.E c
  have tx_ := hf.T c tx0
  have tm_ := hf.T c tm0
  have to_ := hf.T c to0
  unfold f_law_28
  refine s_run X ok_law_28 0 5 (pc' := 1799) (vs' := [some (.ref b), some (.ref x), some (.ref m), some (.ref o), some (.int i), none, none, none]) (st' := [.int (i + 1), .ref b, .ref x]) rfl ?_
  refine s_sld hf (dk okd_law_28 0 rfl) (fun v1 => ?_)
  refine s_run X ok_law_28 5 4 (pc' := 1805) (vs' := [some (.ref b), some (.ref x), some (.ref m), some (.ref o), some (.int i), none, none, none]) (st' := [.int (i + 2), .ref b, .int v1, .ref x]) rfl ?_
  refine s_sld hf (dk okd_law_28 1 rfl) (fun v2 => ?_)
  refine s_run X ok_law_28 9 7 (pc' := 1815) (vs' := [some (.ref b), some (.ref x), some (.ref m), some (.ref o), some (.int i), none, none, none]) (st' := [.int (i + 3), .ref b, .long ((Int32.toInt64 v2) <<< ((Int32.toInt64 32) &&& 63)), .int v1, .ref x]) rfl ?_
  refine s_sld hf (dk okd_law_28 2 rfl) (fun v3 => ?_)
  refine s_run X ok_law_28 16 1 (pc' := 1817) (vs' := [some (.ref b), some (.ref x), some (.ref m), some (.ref o), some (.int i), none, none, none]) (st' := [.long (Int32.toInt64 v3), .long ((Int32.toInt64 v2) <<< ((Int32.toInt64 32) &&& 63)), .int v1, .ref x]) rfl ?_
  refine s_ldc2 X cl_L_270 (dk okd_law_28 3 rfl) ?_
  refine s_run X ok_law_28 17 3 (pc' := 1823) (vs' := [some (.ref b), some (.ref x), some (.ref m), some (.ref o), some (.int i), none, none, none]) (st' := [.ref o, .long (((Int32.toInt64 v2) <<< ((Int32.toInt64 32) &&& 63)) ||| ((Int32.toInt64 v3) &&& 4294967295)), .int v1, .ref x]) rfl ?_
  refine s_callH (c0 := c) (As := [.ref x, .int v1, .long (((Int32.toInt64 v2) <<< ((Int32.toInt64 32) &&& 63)) ||| ((Int32.toInt64 v3) &&& 4294967295)), .ref o]) (rest := []) hf mh_L_285 (c_L_reportSales S x v1 (((Int32.toInt64 v2) <<< ((Int32.toInt64 32) &&& 63)) ||| ((Int32.toInt64 v3) &&& 4294967295)) o) (ta2 tx_ to_) rfl rfl (Nat.le_of_ble_eq_true rfl) (Nat.le_of_ble_eq_true rfl) (Nat.le_of_ble_eq_true rfl) (dk okd_law_28 4 rfl) (st' := fun o4 => [.int o4.1]) (fun _ => rfl) (fun o4 hb5 => ?_)
  have X := hf.X hb5
  have E := hf.E (c + o4.2.2)
  have tx_ := hf.T (c + o4.2.2) tx_
  have tm_ := hf.T (c + o4.2.2) tm_
  have to_ := hf.T (c + o4.2.2) to_
  refine s_run X ok_law_28 20 6 (pc' := 1834) (vs' := [some (.ref b), some (.ref x), some (.ref m), some (.ref o), some (.int i), some (.int o4.1), none, none]) (st' := [.int (i + 1), .ref b, .ref m]) rfl ?_
  refine s_sld hf (dk okd_law_28 5 rfl) (fun v6 => ?_)
  refine s_run X ok_law_28 26 4 (pc' := 1840) (vs' := [some (.ref b), some (.ref x), some (.ref m), some (.ref o), some (.int i), some (.int o4.1), none, none]) (st' := [.int (i + 2), .ref b, .int v6, .ref m]) rfl ?_
  refine s_sld hf (dk okd_law_28 6 rfl) (fun v7 => ?_)
  refine s_run X ok_law_28 30 7 (pc' := 1850) (vs' := [some (.ref b), some (.ref x), some (.ref m), some (.ref o), some (.int i), some (.int o4.1), none, none]) (st' := [.int (i + 3), .ref b, .long ((Int32.toInt64 v7) <<< ((Int32.toInt64 32) &&& 63)), .int v6, .ref m]) rfl ?_
  refine s_sld hf (dk okd_law_28 7 rfl) (fun v8 => ?_)
  refine s_run X ok_law_28 37 1 (pc' := 1852) (vs' := [some (.ref b), some (.ref x), some (.ref m), some (.ref o), some (.int i), some (.int o4.1), none, none]) (st' := [.long (Int32.toInt64 v8), .long ((Int32.toInt64 v7) <<< ((Int32.toInt64 32) &&& 63)), .int v6, .ref m]) rfl ?_
  refine s_ldc2 X cl_L_270 (dk okd_law_28 8 rfl) ?_
  refine s_run X ok_law_28 38 2 (pc' := 1857) (vs' := [some (.ref b), some (.ref x), some (.ref m), some (.ref o), some (.int i), some (.int o4.1), none, none]) (st' := [.long (((Int32.toInt64 v7) <<< ((Int32.toInt64 32) &&& 63)) ||| ((Int32.toInt64 v8) &&& 4294967295)), .int v6, .ref m]) rfl ?_
  refine s_callV (b := m) (As := [.int v6, .long (((Int32.toInt64 v7) <<< ((Int32.toInt64 32) &&& 63)) ||| ((Int32.toInt64 v8) &&& 4294967295))]) (rest := []) X E mv_L_287 (c_X12_reportSales o4.2.1 m v6 (((Int32.toInt64 v7) <<< ((Int32.toInt64 32) &&& 63)) ||| ((Int32.toInt64 v8) &&& 4294967295))) rfl (ta1 tm_) rfl (by decide) tm_ rfl rfl (Nat.le_of_ble_eq_true rfl) (Nat.le_of_ble_eq_true rfl) (Nat.le_of_ble_eq_true rfl) (dk okd_law_28 9 rfl) (st' := fun o9 => [.long o9.1]) (fun _ => rfl) (fun o9 => ?_)
  refine s_run X ok_law_28 40 2 (pc' := 1863) (vs' := [some (.ref b), some (.ref x), some (.ref m), some (.ref o), some (.int i), some (.int o4.1), some (.long o9.1), none]) (st' := [.ref m]) rfl ?_
  refine s_callV (b := m) (As := []) (rest := []) X E mv_L_214 (c_X12_thrown o9.2 m) rfl (ta1 tm_) rfl (by decide) tm_ rfl rfl (Nat.le_of_ble_eq_true rfl) (Nat.le_of_ble_eq_true rfl) (Nat.le_of_ble_eq_true rfl) (dk okd_law_28 10 rfl) (st' := fun v10 => [.int v10]) (fun _ => rfl) (fun v10 => ?_)
  refine s_run X ok_law_28 42 1 (pc' := 1868) (vs' := [some (.ref b), some (.ref x), some (.ref m), some (.ref o), some (.int i), some (.int o4.1), some (.long o9.1), none]) (st' := [.int o4.1, .int v10]) rfl ?_
  refine s_icmp_eq (tgt := 1873) X (dk okd_law_28 11 rfl) (by decide) ?_ ?_
  · refine s_run X ok_law_28 44 1 (pc' := 1875) (vs' := [some (.ref b), some (.ref x), some (.ref m), some (.ref o), some (.int i), some (.int o4.1), some (.long o9.1), none]) (st' := [.int o4.1]) rfl ?_
    refine s_jn (κ := Option (Unit)) (fun k11 => Jd (Cn (c + o4.2.2)) 8 Q o9.2 1889 [some (.ref b), some (.ref x), some (.ref m), some (.ref o), some (.int i), none, none, none] [] k11) ?_ (fun k11 h12 => ?_)
    · refine s_run X ok_law_28 50 1 (pc' := 4006) (vs' := [some (.ref b), some (.ref x), some (.ref m), some (.ref o), some (.int i), none, none, none]) (st' := []) rfl ?_
      exact s_less [true, true, true, true, true, false, false, false] rfl (hk o9.2 ((c + o4.2.2)) hb5)
    · refine s_if_ne (tgt := 1889) X (dk okd_law_28 13 rfl) (by decide) ?_ ?_
      · exact s_less [true, true, true, true, true, false, false, false] rfl (h12)
      · refine s_run X ok_law_28 45 2 (pc' := 1880) (vs' := [some (.ref b), some (.ref x), some (.ref m), some (.ref o), some (.int i), some (.int o4.1), some (.long o9.1), none]) (st' := [.int 0, .ref o]) rfl ?_
        refine s_lald X to_ (dk okd_law_28 14 rfl) (fun v13 => ?_)
        refine s_run X ok_law_28 47 2 (pc' := 1884) (vs' := [some (.ref b), some (.ref x), some (.ref m), some (.ref o), some (.int i), some (.int o4.1), some (.long o9.1), none]) (st' := [.int (lg_cmp v13 o9.1)]) rfl ?_
        refine s_lif_eq (tgt := 1889) X (dk okd_law_28 15 rfl) (by decide) ?_ ?_
        · exact s_less [true, true, true, true, true, false, false, false] rfl (h12)
        · refine s_run X ok_law_28 49 1 (pc' := 1888) (vs' := [some (.ref b), some (.ref x), some (.ref m), some (.ref o), some (.int i), some (.int o4.1), some (.long o9.1), none]) (st' := [.int 0]) rfl ?_
          exact s_none
  · refine s_run X ok_law_28 43 1 (pc' := 1872) (vs' := [some (.ref b), some (.ref x), some (.ref m), some (.ref o), some (.int i), some (.int o4.1), some (.long o9.1), none]) (st' := [.int 0]) rfl ?_
    exact s_none
def tab_law_29 : List En := [(1892, 8, 1, 0), (1893, 8, 0, 0), (1894, 5, 4, 0), (1896, 0, 0, 1), (1897, 17, 0, 0), (1899, 8, 0, 0), (1900, 5, 4, 0), (1902, 0, 0, 2), (1903, 17, 0, 0), (1905, 8, 0, 0), (1906, 5, 4, 0), (1908, 0, 0, 3), (1909, 17, 0, 0), (1911, 8, 0, 0), (1912, 5, 4, 0), (1914, 0, 0, 4), (1915, 17, 0, 0), (1917, 31, 0, 0), (1918, 1, 0, 32), (1920, 34, 0, 0), (1921, 8, 0, 0), (1922, 5, 4, 0), (1924, 0, 0, 5), (1925, 17, 0, 0), (1927, 31, 0, 0), (1931, 26, 0, 0), (1932, 27, 0, 0), (1933, 8, 3, 0), (1937, 11, 5, 0), (1939, 8, 2, 0), (1940, 8, 0, 0), (1941, 5, 4, 0), (1943, 0, 0, 1), (1944, 17, 0, 0), (1946, 8, 0, 0), (1947, 5, 4, 0), (1949, 0, 0, 2), (1950, 17, 0, 0), (1952, 8, 0, 0), (1953, 5, 4, 0), (1955, 0, 0, 3), (1956, 17, 0, 0), (1958, 8, 0, 0), (1959, 5, 4, 0), (1961, 0, 0, 4), (1962, 17, 0, 0), (1964, 31, 0, 0), (1965, 1, 0, 32), (1967, 34, 0, 0), (1968, 8, 0, 0), (1969, 5, 4, 0), (1971, 0, 0, 5), (1972, 17, 0, 0), (1974, 31, 0, 0), (1978, 26, 0, 0), (1979, 27, 0, 0), (1983, 13, 6, 0), (1985, 8, 2, 0), (1989, 5, 5, 0), (1994, 0, 0, 0), (1996, 5, 5, 0), (2001, 8, 3, 0), (2002, 0, 0, 0), (2004, 7, 6, 0), (2006, 40, 0, 0), (2010, 0, 0, 0), (2012, 41, 4006, 0)]
theorem ok_law_29 : tab_law_29.all (okE code) = true := by decide +kernel
def ed_law_29 : List (Nat × Instr × Nat) := [(1898, .iaload, 1), (1904, .iaload, 1), (1910, .iaload, 1), (1916, .iaload, 1), (1926, .iaload, 1), (1928, .ldc2_w 270, 3), (1934, .invokestatic 288, 3), (1945, .iaload, 1), (1951, .iaload, 1), (1957, .iaload, 1), (1963, .iaload, 1), (1973, .iaload, 1), (1975, .ldc2_w 270, 3), (1980, .invokevirtual 291, 3), (1986, .invokevirtual 214, 3), (1991, .if_icmp .eq 5, 3), (1995, .ireturn, 1), (1998, .ifCond .ne 14, 3), (2003, .laload, 1), (2007, .ifCond .eq 5, 3), (2011, .ireturn, 1)]
theorem okd_law_29 : ed_law_29.all (okD code) = true := by decide +kernel
def f_law_29 (Ls : Nat) (xs : Nat → Int32) (S : St) (x m o : Nat) (i : Int32) (c : Nat) (kont : St → Nat → Option Unit) : Option Unit := sx Ls xs (i + 1) fun (v1 : Int32) => sx Ls xs (i + 2) fun (v2 : Int32) => sx Ls xs (i + 3) fun (v3 : Int32) => sx Ls xs (i + 4) fun (v4 : Int32) => sx Ls xs (i + 5) fun (v5 : Int32) => cl (f_L_deliver S x v1 v2 v3 (((Int32.toInt64 v4) <<< ((Int32.toInt64 32) &&& 63)) ||| ((Int32.toInt64 v5) &&& 4294967295)) o) fun (o6 : Int32 × St × Nat) => bud (c + o6.2.2) <| sx Ls xs (i + 1) fun (v8 : Int32) => sx Ls xs (i + 2) fun (v9 : Int32) => sx Ls xs (i + 3) fun (v10 : Int32) => sx Ls xs (i + 4) fun (v11 : Int32) => sx Ls xs (i + 5) fun (v12 : Int32) => cl (f_X12_deliver o6.2.1 m v8 v9 v10 (((Int32.toInt64 v11) <<< ((Int32.toInt64 32) &&& 63)) ||| ((Int32.toInt64 v12) &&& 4294967295))) fun (o13 : Int64 × St) => cl (f_X12_thrown o13.2 m) fun (v14 : Int32) => if v14 = o6.1 then (jn (κ := Option (Unit)) (kont o13.2 ((c + o6.2.2))) fun k15 => if o6.1 = 0 then (ldJ o13.2 o 0 fun (v17 : Int64) => if v17 = o13.1 then (k15) else (none)) else (k15)) else (none)
set_option maxHeartbeats 4000000 in
set_option maxRecDepth 100000 in
theorem c_law_29 {Cn : Nat → CT} {b Ls : Nat} {xs : Nat → Int32} {Q : Unit → State → Prop} {x m o : Nat} {i : Int32} (hf : Fam Cn b Ls xs) (tx0 : tT (Cn 0) x 10) (tm0 : tT (Cn 0) m 11) (to0 : tT (Cn 0) o 14) (S : St) (c : Nat) (hc : c ≤ 512) (kont : St → Nat → Option Unit) (hk : ∀ (S : St) (c : Nat), c ≤ 512 → Jd (Cn c) 8 Q S 4006 [some (.ref b), some (.ref x), some (.ref m), some (.ref o), some (.int i), none, none, none] [] (kont S c)) : Jd (Cn c) 8 Q S 1892 [some (.ref b), some (.ref x), some (.ref m), some (.ref o), some (.int i), none, none, none] [] (f_law_29 Ls xs S x m o i c kont) := by
  have X := hf.X hc
  have E := hf.E c
  have tx_ := hf.T c tx0
  have tm_ := hf.T c tm0
  have to_ := hf.T c to0
  unfold f_law_29
  refine s_run X ok_law_29 0 5 (pc' := 1898) (vs' := [some (.ref b), some (.ref x), some (.ref m), some (.ref o), some (.int i), none, none, none]) (st' := [.int (i + 1), .ref b, .ref x]) rfl ?_
  refine s_sld hf (dk okd_law_29 0 rfl) (fun v1 => ?_)
  refine s_run X ok_law_29 5 4 (pc' := 1904) (vs' := [some (.ref b), some (.ref x), some (.ref m), some (.ref o), some (.int i), none, none, none]) (st' := [.int (i + 2), .ref b, .int v1, .ref x]) rfl ?_
  refine s_sld hf (dk okd_law_29 1 rfl) (fun v2 => ?_)
  refine s_run X ok_law_29 9 4 (pc' := 1910) (vs' := [some (.ref b), some (.ref x), some (.ref m), some (.ref o), some (.int i), none, none, none]) (st' := [.int (i + 3), .ref b, .int v2, .int v1, .ref x]) rfl ?_
  refine s_sld hf (dk okd_law_29 2 rfl) (fun v3 => ?_)
  refine s_run X ok_law_29 13 4 (pc' := 1916) (vs' := [some (.ref b), some (.ref x), some (.ref m), some (.ref o), some (.int i), none, none, none]) (st' := [.int (i + 4), .ref b, .int v3, .int v2, .int v1, .ref x]) rfl ?_
  refine s_sld hf (dk okd_law_29 3 rfl) (fun v4 => ?_)
  refine s_run X ok_law_29 17 7 (pc' := 1926) (vs' := [some (.ref b), some (.ref x), some (.ref m), some (.ref o), some (.int i), none, none, none]) (st' := [.int (i + 5), .ref b, .long ((Int32.toInt64 v4) <<< ((Int32.toInt64 32) &&& 63)), .int v3, .int v2, .int v1, .ref x]) rfl ?_
  refine s_sld hf (dk okd_law_29 4 rfl) (fun v5 => ?_)
  refine s_run X ok_law_29 24 1 (pc' := 1928) (vs' := [some (.ref b), some (.ref x), some (.ref m), some (.ref o), some (.int i), none, none, none]) (st' := [.long (Int32.toInt64 v5), .long ((Int32.toInt64 v4) <<< ((Int32.toInt64 32) &&& 63)), .int v3, .int v2, .int v1, .ref x]) rfl ?_
  refine s_ldc2 X cl_L_270 (dk okd_law_29 5 rfl) ?_
  refine s_run X ok_law_29 25 3 (pc' := 1934) (vs' := [some (.ref b), some (.ref x), some (.ref m), some (.ref o), some (.int i), none, none, none]) (st' := [.ref o, .long (((Int32.toInt64 v4) <<< ((Int32.toInt64 32) &&& 63)) ||| ((Int32.toInt64 v5) &&& 4294967295)), .int v3, .int v2, .int v1, .ref x]) rfl ?_
  refine s_callH (c0 := c) (As := [.ref x, .int v1, .int v2, .int v3, .long (((Int32.toInt64 v4) <<< ((Int32.toInt64 32) &&& 63)) ||| ((Int32.toInt64 v5) &&& 4294967295)), .ref o]) (rest := []) hf mh_L_288 (c_L_deliver S x v1 v2 v3 (((Int32.toInt64 v4) <<< ((Int32.toInt64 32) &&& 63)) ||| ((Int32.toInt64 v5) &&& 4294967295)) o) (ta2 tx_ to_) rfl rfl (Nat.le_of_ble_eq_true rfl) (Nat.le_of_ble_eq_true rfl) (Nat.le_of_ble_eq_true rfl) (dk okd_law_29 6 rfl) (st' := fun o6 => [.int o6.1]) (fun _ => rfl) (fun o6 hb7 => ?_)
  have X := hf.X hb7
  have E := hf.E (c + o6.2.2)
  have tx_ := hf.T (c + o6.2.2) tx_
  have tm_ := hf.T (c + o6.2.2) tm_
  have to_ := hf.T (c + o6.2.2) to_
  refine s_run X ok_law_29 28 6 (pc' := 1945) (vs' := [some (.ref b), some (.ref x), some (.ref m), some (.ref o), some (.int i), some (.int o6.1), none, none]) (st' := [.int (i + 1), .ref b, .ref m]) rfl ?_
  refine s_sld hf (dk okd_law_29 7 rfl) (fun v8 => ?_)
  refine s_run X ok_law_29 34 4 (pc' := 1951) (vs' := [some (.ref b), some (.ref x), some (.ref m), some (.ref o), some (.int i), some (.int o6.1), none, none]) (st' := [.int (i + 2), .ref b, .int v8, .ref m]) rfl ?_
  refine s_sld hf (dk okd_law_29 8 rfl) (fun v9 => ?_)
  refine s_run X ok_law_29 38 4 (pc' := 1957) (vs' := [some (.ref b), some (.ref x), some (.ref m), some (.ref o), some (.int i), some (.int o6.1), none, none]) (st' := [.int (i + 3), .ref b, .int v9, .int v8, .ref m]) rfl ?_
  refine s_sld hf (dk okd_law_29 9 rfl) (fun v10 => ?_)
  refine s_run X ok_law_29 42 4 (pc' := 1963) (vs' := [some (.ref b), some (.ref x), some (.ref m), some (.ref o), some (.int i), some (.int o6.1), none, none]) (st' := [.int (i + 4), .ref b, .int v10, .int v9, .int v8, .ref m]) rfl ?_
  refine s_sld hf (dk okd_law_29 10 rfl) (fun v11 => ?_)
  refine s_run X ok_law_29 46 7 (pc' := 1973) (vs' := [some (.ref b), some (.ref x), some (.ref m), some (.ref o), some (.int i), some (.int o6.1), none, none]) (st' := [.int (i + 5), .ref b, .long ((Int32.toInt64 v11) <<< ((Int32.toInt64 32) &&& 63)), .int v10, .int v9, .int v8, .ref m]) rfl ?_
  refine s_sld hf (dk okd_law_29 11 rfl) (fun v12 => ?_)
  refine s_run X ok_law_29 53 1 (pc' := 1975) (vs' := [some (.ref b), some (.ref x), some (.ref m), some (.ref o), some (.int i), some (.int o6.1), none, none]) (st' := [.long (Int32.toInt64 v12), .long ((Int32.toInt64 v11) <<< ((Int32.toInt64 32) &&& 63)), .int v10, .int v9, .int v8, .ref m]) rfl ?_
  refine s_ldc2 X cl_L_270 (dk okd_law_29 12 rfl) ?_
  refine s_run X ok_law_29 54 2 (pc' := 1980) (vs' := [some (.ref b), some (.ref x), some (.ref m), some (.ref o), some (.int i), some (.int o6.1), none, none]) (st' := [.long (((Int32.toInt64 v11) <<< ((Int32.toInt64 32) &&& 63)) ||| ((Int32.toInt64 v12) &&& 4294967295)), .int v10, .int v9, .int v8, .ref m]) rfl ?_
  refine s_callV (b := m) (As := [.int v8, .int v9, .int v10, .long (((Int32.toInt64 v11) <<< ((Int32.toInt64 32) &&& 63)) ||| ((Int32.toInt64 v12) &&& 4294967295))]) (rest := []) X E mv_L_291 (c_X12_deliver o6.2.1 m v8 v9 v10 (((Int32.toInt64 v11) <<< ((Int32.toInt64 32) &&& 63)) ||| ((Int32.toInt64 v12) &&& 4294967295))) rfl (ta1 tm_) rfl (by decide) tm_ rfl rfl (Nat.le_of_ble_eq_true rfl) (Nat.le_of_ble_eq_true rfl) (Nat.le_of_ble_eq_true rfl) (dk okd_law_29 13 rfl) (st' := fun o13 => [.long o13.1]) (fun _ => rfl) (fun o13 => ?_)
  refine s_run X ok_law_29 56 2 (pc' := 1986) (vs' := [some (.ref b), some (.ref x), some (.ref m), some (.ref o), some (.int i), some (.int o6.1), some (.long o13.1), none]) (st' := [.ref m]) rfl ?_
  refine s_callV (b := m) (As := []) (rest := []) X E mv_L_214 (c_X12_thrown o13.2 m) rfl (ta1 tm_) rfl (by decide) tm_ rfl rfl (Nat.le_of_ble_eq_true rfl) (Nat.le_of_ble_eq_true rfl) (Nat.le_of_ble_eq_true rfl) (dk okd_law_29 14 rfl) (st' := fun v14 => [.int v14]) (fun _ => rfl) (fun v14 => ?_)
  refine s_run X ok_law_29 58 1 (pc' := 1991) (vs' := [some (.ref b), some (.ref x), some (.ref m), some (.ref o), some (.int i), some (.int o6.1), some (.long o13.1), none]) (st' := [.int o6.1, .int v14]) rfl ?_
  refine s_icmp_eq (tgt := 1996) X (dk okd_law_29 15 rfl) (by decide) ?_ ?_
  · refine s_run X ok_law_29 60 1 (pc' := 1998) (vs' := [some (.ref b), some (.ref x), some (.ref m), some (.ref o), some (.int i), some (.int o6.1), some (.long o13.1), none]) (st' := [.int o6.1]) rfl ?_
    refine s_jn (κ := Option (Unit)) (fun k15 => Jd (Cn (c + o6.2.2)) 8 Q o13.2 2012 [some (.ref b), some (.ref x), some (.ref m), some (.ref o), some (.int i), none, none, none] [] k15) ?_ (fun k15 h16 => ?_)
    · refine s_run X ok_law_29 66 1 (pc' := 4006) (vs' := [some (.ref b), some (.ref x), some (.ref m), some (.ref o), some (.int i), none, none, none]) (st' := []) rfl ?_
      exact s_less [true, true, true, true, true, false, false, false] rfl (hk o13.2 ((c + o6.2.2)) hb7)
    · refine s_if_ne (tgt := 2012) X (dk okd_law_29 17 rfl) (by decide) ?_ ?_
      · exact s_less [true, true, true, true, true, false, false, false] rfl (h16)
      · refine s_run X ok_law_29 61 2 (pc' := 2003) (vs' := [some (.ref b), some (.ref x), some (.ref m), some (.ref o), some (.int i), some (.int o6.1), some (.long o13.1), none]) (st' := [.int 0, .ref o]) rfl ?_
        refine s_lald X to_ (dk okd_law_29 18 rfl) (fun v17 => ?_)
        refine s_run X ok_law_29 63 2 (pc' := 2007) (vs' := [some (.ref b), some (.ref x), some (.ref m), some (.ref o), some (.int i), some (.int o6.1), some (.long o13.1), none]) (st' := [.int (lg_cmp v17 o13.1)]) rfl ?_
        refine s_lif_eq (tgt := 2012) X (dk okd_law_29 19 rfl) (by decide) ?_ ?_
        · exact s_less [true, true, true, true, true, false, false, false] rfl (h16)
        · refine s_run X ok_law_29 65 1 (pc' := 2011) (vs' := [some (.ref b), some (.ref x), some (.ref m), some (.ref o), some (.int i), some (.int o6.1), some (.long o13.1), none]) (st' := [.int 0]) rfl ?_
          exact s_none
  · refine s_run X ok_law_29 59 1 (pc' := 1995) (vs' := [some (.ref b), some (.ref x), some (.ref m), some (.ref o), some (.int i), some (.int o6.1), some (.long o13.1), none]) (st' := [.int 0]) rfl ?_
    exact s_none
def tab_law_30 : List En := [(2015, 8, 1, 0), (2016, 8, 0, 0), (2017, 5, 4, 0), (2019, 0, 0, 1), (2020, 17, 0, 0), (2022, 8, 3, 0), (2026, 11, 5, 0), (2028, 8, 2, 0), (2029, 8, 0, 0), (2030, 5, 4, 0), (2032, 0, 0, 1), (2033, 17, 0, 0), (2038, 13, 6, 0), (2040, 8, 2, 0), (2044, 5, 5, 0), (2049, 0, 0, 0), (2051, 5, 5, 0), (2056, 8, 3, 0), (2057, 0, 0, 0), (2059, 7, 6, 0), (2061, 40, 0, 0), (2065, 0, 0, 0), (2067, 41, 4006, 0)]
theorem ok_law_30 : tab_law_30.all (okE code) = true := by decide +kernel
def ed_law_30 : List (Nat × Instr × Nat) := [(2021, .iaload, 1), (2023, .invokestatic 292, 3), (2034, .iaload, 1), (2035, .invokevirtual 294, 3), (2041, .invokevirtual 214, 3), (2046, .if_icmp .eq 5, 3), (2050, .ireturn, 1), (2053, .ifCond .ne 14, 3), (2058, .laload, 1), (2062, .ifCond .eq 5, 3), (2066, .ireturn, 1)]
theorem okd_law_30 : ed_law_30.all (okD code) = true := by decide +kernel
def f_law_30 (Ls : Nat) (xs : Nat → Int32) (S : St) (x m o : Nat) (i : Int32) (c : Nat) (kont : St → Nat → Option Unit) : Option Unit := sx Ls xs (i + 1) fun (v1 : Int32) => cl (f_L_sales S x v1 o) fun (o2 : Int32 × St × Nat) => bud (c + o2.2.2) <| sx Ls xs (i + 1) fun (v4 : Int32) => cl (f_X12_sales o2.2.1 m v4) fun (o5 : Int64 × St) => cl (f_X12_thrown o5.2 m) fun (v6 : Int32) => if v6 = o2.1 then (jn (κ := Option (Unit)) (kont o5.2 ((c + o2.2.2))) fun k7 => if o2.1 = 0 then (ldJ o5.2 o 0 fun (v9 : Int64) => if v9 = o5.1 then (k7) else (none)) else (k7)) else (none)
set_option maxHeartbeats 4000000 in
set_option maxRecDepth 100000 in
theorem c_law_30 {Cn : Nat → CT} {b Ls : Nat} {xs : Nat → Int32} {Q : Unit → State → Prop} {x m o : Nat} {i : Int32} (hf : Fam Cn b Ls xs) (tx0 : tT (Cn 0) x 10) (tm0 : tT (Cn 0) m 11) (to0 : tT (Cn 0) o 14) (S : St) (c : Nat) (hc : c ≤ 512) (kont : St → Nat → Option Unit) (hk : ∀ (S : St) (c : Nat), c ≤ 512 → Jd (Cn c) 8 Q S 4006 [some (.ref b), some (.ref x), some (.ref m), some (.ref o), some (.int i), none, none, none] [] (kont S c)) : Jd (Cn c) 8 Q S 2015 [some (.ref b), some (.ref x), some (.ref m), some (.ref o), some (.int i), none, none, none] [] (f_law_30 Ls xs S x m o i c kont) := by
  have X := hf.X hc
  have E := hf.E c
  have tx_ := hf.T c tx0
  have tm_ := hf.T c tm0
  have to_ := hf.T c to0
  unfold f_law_30
  refine s_run X ok_law_30 0 5 (pc' := 2021) (vs' := [some (.ref b), some (.ref x), some (.ref m), some (.ref o), some (.int i), none, none, none]) (st' := [.int (i + 1), .ref b, .ref x]) rfl ?_
  refine s_sld hf (dk okd_law_30 0 rfl) (fun v1 => ?_)
  refine s_run X ok_law_30 5 1 (pc' := 2023) (vs' := [some (.ref b), some (.ref x), some (.ref m), some (.ref o), some (.int i), none, none, none]) (st' := [.ref o, .int v1, .ref x]) rfl ?_
  refine s_callH (c0 := c) (As := [.ref x, .int v1, .ref o]) (rest := []) hf mh_L_292 (c_L_sales S x v1 o) (ta2 tx_ to_) rfl rfl (Nat.le_of_ble_eq_true rfl) (Nat.le_of_ble_eq_true rfl) (Nat.le_of_ble_eq_true rfl) (dk okd_law_30 1 rfl) (st' := fun o2 => [.int o2.1]) (fun _ => rfl) (fun o2 hb3 => ?_)
  have X := hf.X hb3
  have E := hf.E (c + o2.2.2)
  have tx_ := hf.T (c + o2.2.2) tx_
  have tm_ := hf.T (c + o2.2.2) tm_
  have to_ := hf.T (c + o2.2.2) to_
  refine s_run X ok_law_30 6 6 (pc' := 2034) (vs' := [some (.ref b), some (.ref x), some (.ref m), some (.ref o), some (.int i), some (.int o2.1), none, none]) (st' := [.int (i + 1), .ref b, .ref m]) rfl ?_
  refine s_sld hf (dk okd_law_30 2 rfl) (fun v4 => ?_)
  refine s_callV (b := m) (As := [.int v4]) (rest := []) X E mv_L_294 (c_X12_sales o2.2.1 m v4) rfl (ta1 tm_) rfl (by decide) tm_ rfl rfl (Nat.le_of_ble_eq_true rfl) (Nat.le_of_ble_eq_true rfl) (Nat.le_of_ble_eq_true rfl) (dk okd_law_30 3 rfl) (st' := fun o5 => [.long o5.1]) (fun _ => rfl) (fun o5 => ?_)
  refine s_run X ok_law_30 12 2 (pc' := 2041) (vs' := [some (.ref b), some (.ref x), some (.ref m), some (.ref o), some (.int i), some (.int o2.1), some (.long o5.1), none]) (st' := [.ref m]) rfl ?_
  refine s_callV (b := m) (As := []) (rest := []) X E mv_L_214 (c_X12_thrown o5.2 m) rfl (ta1 tm_) rfl (by decide) tm_ rfl rfl (Nat.le_of_ble_eq_true rfl) (Nat.le_of_ble_eq_true rfl) (Nat.le_of_ble_eq_true rfl) (dk okd_law_30 4 rfl) (st' := fun v6 => [.int v6]) (fun _ => rfl) (fun v6 => ?_)
  refine s_run X ok_law_30 14 1 (pc' := 2046) (vs' := [some (.ref b), some (.ref x), some (.ref m), some (.ref o), some (.int i), some (.int o2.1), some (.long o5.1), none]) (st' := [.int o2.1, .int v6]) rfl ?_
  refine s_icmp_eq (tgt := 2051) X (dk okd_law_30 5 rfl) (by decide) ?_ ?_
  · refine s_run X ok_law_30 16 1 (pc' := 2053) (vs' := [some (.ref b), some (.ref x), some (.ref m), some (.ref o), some (.int i), some (.int o2.1), some (.long o5.1), none]) (st' := [.int o2.1]) rfl ?_
    refine s_jn (κ := Option (Unit)) (fun k7 => Jd (Cn (c + o2.2.2)) 8 Q o5.2 2067 [some (.ref b), some (.ref x), some (.ref m), some (.ref o), some (.int i), none, none, none] [] k7) ?_ (fun k7 h8 => ?_)
    · refine s_run X ok_law_30 22 1 (pc' := 4006) (vs' := [some (.ref b), some (.ref x), some (.ref m), some (.ref o), some (.int i), none, none, none]) (st' := []) rfl ?_
      exact s_less [true, true, true, true, true, false, false, false] rfl (hk o5.2 ((c + o2.2.2)) hb3)
    · refine s_if_ne (tgt := 2067) X (dk okd_law_30 7 rfl) (by decide) ?_ ?_
      · exact s_less [true, true, true, true, true, false, false, false] rfl (h8)
      · refine s_run X ok_law_30 17 2 (pc' := 2058) (vs' := [some (.ref b), some (.ref x), some (.ref m), some (.ref o), some (.int i), some (.int o2.1), some (.long o5.1), none]) (st' := [.int 0, .ref o]) rfl ?_
        refine s_lald X to_ (dk okd_law_30 8 rfl) (fun v9 => ?_)
        refine s_run X ok_law_30 19 2 (pc' := 2062) (vs' := [some (.ref b), some (.ref x), some (.ref m), some (.ref o), some (.int i), some (.int o2.1), some (.long o5.1), none]) (st' := [.int (lg_cmp v9 o5.1)]) rfl ?_
        refine s_lif_eq (tgt := 2067) X (dk okd_law_30 9 rfl) (by decide) ?_ ?_
        · exact s_less [true, true, true, true, true, false, false, false] rfl (h8)
        · refine s_run X ok_law_30 21 1 (pc' := 2066) (vs' := [some (.ref b), some (.ref x), some (.ref m), some (.ref o), some (.int i), some (.int o2.1), some (.long o5.1), none]) (st' := [.int 0]) rfl ?_
          exact s_none
  · refine s_run X ok_law_30 15 1 (pc' := 2050) (vs' := [some (.ref b), some (.ref x), some (.ref m), some (.ref o), some (.int i), some (.int o2.1), some (.long o5.1), none]) (st' := [.int 0]) rfl ?_
    exact s_none
def tab_law_31 : List En := [(2070, 8, 1, 0), (2071, 8, 0, 0), (2072, 5, 4, 0), (2074, 0, 0, 1), (2075, 17, 0, 0), (2077, 8, 0, 0), (2078, 5, 4, 0), (2080, 0, 0, 2), (2081, 17, 0, 0), (2083, 8, 3, 0), (2087, 11, 5, 0), (2089, 8, 2, 0), (2090, 8, 0, 0), (2091, 5, 4, 0), (2093, 0, 0, 1), (2094, 17, 0, 0), (2096, 8, 0, 0), (2097, 5, 4, 0), (2099, 0, 0, 2), (2100, 17, 0, 0), (2105, 13, 6, 0), (2107, 8, 2, 0), (2111, 5, 5, 0), (2116, 0, 0, 0), (2118, 5, 5, 0), (2123, 8, 3, 0), (2124, 0, 0, 0), (2126, 7, 6, 0), (2128, 40, 0, 0), (2132, 0, 0, 0), (2134, 41, 4006, 0)]
theorem ok_law_31 : tab_law_31.all (okE code) = true := by decide +kernel
def ed_law_31 : List (Nat × Instr × Nat) := [(2076, .iaload, 1), (2082, .iaload, 1), (2084, .invokestatic 295, 3), (2095, .iaload, 1), (2101, .iaload, 1), (2102, .invokevirtual 297, 3), (2108, .invokevirtual 214, 3), (2113, .if_icmp .eq 5, 3), (2117, .ireturn, 1), (2120, .ifCond .ne 14, 3), (2125, .laload, 1), (2129, .ifCond .eq 5, 3), (2133, .ireturn, 1)]
theorem okd_law_31 : ed_law_31.all (okD code) = true := by decide +kernel
def f_law_31 (Ls : Nat) (xs : Nat → Int32) (S : St) (x m o : Nat) (i : Int32) (c : Nat) (kont : St → Nat → Option Unit) : Option Unit := sx Ls xs (i + 1) fun (v1 : Int32) => sx Ls xs (i + 2) fun (v2 : Int32) => cl (f_L_salesOf S x v1 v2 o) fun (o3 : Int32 × St × Nat) => bud (c + o3.2.2) <| sx Ls xs (i + 1) fun (v5 : Int32) => sx Ls xs (i + 2) fun (v6 : Int32) => cl (f_X12_salesOf o3.2.1 m v5 v6) fun (o7 : Int64 × St) => cl (f_X12_thrown o7.2 m) fun (v8 : Int32) => if v8 = o3.1 then (jn (κ := Option (Unit)) (kont o7.2 ((c + o3.2.2))) fun k9 => if o3.1 = 0 then (ldJ o7.2 o 0 fun (v11 : Int64) => if v11 = o7.1 then (k9) else (none)) else (k9)) else (none)
set_option maxHeartbeats 4000000 in
set_option maxRecDepth 100000 in
theorem c_law_31 {Cn : Nat → CT} {b Ls : Nat} {xs : Nat → Int32} {Q : Unit → State → Prop} {x m o : Nat} {i : Int32} (hf : Fam Cn b Ls xs) (tx0 : tT (Cn 0) x 10) (tm0 : tT (Cn 0) m 11) (to0 : tT (Cn 0) o 14) (S : St) (c : Nat) (hc : c ≤ 512) (kont : St → Nat → Option Unit) (hk : ∀ (S : St) (c : Nat), c ≤ 512 → Jd (Cn c) 8 Q S 4006 [some (.ref b), some (.ref x), some (.ref m), some (.ref o), some (.int i), none, none, none] [] (kont S c)) : Jd (Cn c) 8 Q S 2070 [some (.ref b), some (.ref x), some (.ref m), some (.ref o), some (.int i), none, none, none] [] (f_law_31 Ls xs S x m o i c kont) := by
  have X := hf.X hc
  have E := hf.E c
  have tx_ := hf.T c tx0
  have tm_ := hf.T c tm0
  have to_ := hf.T c to0
  unfold f_law_31
  refine s_run X ok_law_31 0 5 (pc' := 2076) (vs' := [some (.ref b), some (.ref x), some (.ref m), some (.ref o), some (.int i), none, none, none]) (st' := [.int (i + 1), .ref b, .ref x]) rfl ?_
  refine s_sld hf (dk okd_law_31 0 rfl) (fun v1 => ?_)
  refine s_run X ok_law_31 5 4 (pc' := 2082) (vs' := [some (.ref b), some (.ref x), some (.ref m), some (.ref o), some (.int i), none, none, none]) (st' := [.int (i + 2), .ref b, .int v1, .ref x]) rfl ?_
  refine s_sld hf (dk okd_law_31 1 rfl) (fun v2 => ?_)
  refine s_run X ok_law_31 9 1 (pc' := 2084) (vs' := [some (.ref b), some (.ref x), some (.ref m), some (.ref o), some (.int i), none, none, none]) (st' := [.ref o, .int v2, .int v1, .ref x]) rfl ?_
  refine s_callH (c0 := c) (As := [.ref x, .int v1, .int v2, .ref o]) (rest := []) hf mh_L_295 (c_L_salesOf S x v1 v2 o) (ta2 tx_ to_) rfl rfl (Nat.le_of_ble_eq_true rfl) (Nat.le_of_ble_eq_true rfl) (Nat.le_of_ble_eq_true rfl) (dk okd_law_31 2 rfl) (st' := fun o3 => [.int o3.1]) (fun _ => rfl) (fun o3 hb4 => ?_)
  have X := hf.X hb4
  have E := hf.E (c + o3.2.2)
  have tx_ := hf.T (c + o3.2.2) tx_
  have tm_ := hf.T (c + o3.2.2) tm_
  have to_ := hf.T (c + o3.2.2) to_
  refine s_run X ok_law_31 10 6 (pc' := 2095) (vs' := [some (.ref b), some (.ref x), some (.ref m), some (.ref o), some (.int i), some (.int o3.1), none, none]) (st' := [.int (i + 1), .ref b, .ref m]) rfl ?_
  refine s_sld hf (dk okd_law_31 3 rfl) (fun v5 => ?_)
  refine s_run X ok_law_31 16 4 (pc' := 2101) (vs' := [some (.ref b), some (.ref x), some (.ref m), some (.ref o), some (.int i), some (.int o3.1), none, none]) (st' := [.int (i + 2), .ref b, .int v5, .ref m]) rfl ?_
  refine s_sld hf (dk okd_law_31 4 rfl) (fun v6 => ?_)
  refine s_callV (b := m) (As := [.int v5, .int v6]) (rest := []) X E mv_L_297 (c_X12_salesOf o3.2.1 m v5 v6) rfl (ta1 tm_) rfl (by decide) tm_ rfl rfl (Nat.le_of_ble_eq_true rfl) (Nat.le_of_ble_eq_true rfl) (Nat.le_of_ble_eq_true rfl) (dk okd_law_31 5 rfl) (st' := fun o7 => [.long o7.1]) (fun _ => rfl) (fun o7 => ?_)
  refine s_run X ok_law_31 20 2 (pc' := 2108) (vs' := [some (.ref b), some (.ref x), some (.ref m), some (.ref o), some (.int i), some (.int o3.1), some (.long o7.1), none]) (st' := [.ref m]) rfl ?_
  refine s_callV (b := m) (As := []) (rest := []) X E mv_L_214 (c_X12_thrown o7.2 m) rfl (ta1 tm_) rfl (by decide) tm_ rfl rfl (Nat.le_of_ble_eq_true rfl) (Nat.le_of_ble_eq_true rfl) (Nat.le_of_ble_eq_true rfl) (dk okd_law_31 6 rfl) (st' := fun v8 => [.int v8]) (fun _ => rfl) (fun v8 => ?_)
  refine s_run X ok_law_31 22 1 (pc' := 2113) (vs' := [some (.ref b), some (.ref x), some (.ref m), some (.ref o), some (.int i), some (.int o3.1), some (.long o7.1), none]) (st' := [.int o3.1, .int v8]) rfl ?_
  refine s_icmp_eq (tgt := 2118) X (dk okd_law_31 7 rfl) (by decide) ?_ ?_
  · refine s_run X ok_law_31 24 1 (pc' := 2120) (vs' := [some (.ref b), some (.ref x), some (.ref m), some (.ref o), some (.int i), some (.int o3.1), some (.long o7.1), none]) (st' := [.int o3.1]) rfl ?_
    refine s_jn (κ := Option (Unit)) (fun k9 => Jd (Cn (c + o3.2.2)) 8 Q o7.2 2134 [some (.ref b), some (.ref x), some (.ref m), some (.ref o), some (.int i), none, none, none] [] k9) ?_ (fun k9 h10 => ?_)
    · refine s_run X ok_law_31 30 1 (pc' := 4006) (vs' := [some (.ref b), some (.ref x), some (.ref m), some (.ref o), some (.int i), none, none, none]) (st' := []) rfl ?_
      exact s_less [true, true, true, true, true, false, false, false] rfl (hk o7.2 ((c + o3.2.2)) hb4)
    · refine s_if_ne (tgt := 2134) X (dk okd_law_31 9 rfl) (by decide) ?_ ?_
      · exact s_less [true, true, true, true, true, false, false, false] rfl (h10)
      · refine s_run X ok_law_31 25 2 (pc' := 2125) (vs' := [some (.ref b), some (.ref x), some (.ref m), some (.ref o), some (.int i), some (.int o3.1), some (.long o7.1), none]) (st' := [.int 0, .ref o]) rfl ?_
        refine s_lald X to_ (dk okd_law_31 10 rfl) (fun v11 => ?_)
        refine s_run X ok_law_31 27 2 (pc' := 2129) (vs' := [some (.ref b), some (.ref x), some (.ref m), some (.ref o), some (.int i), some (.int o3.1), some (.long o7.1), none]) (st' := [.int (lg_cmp v11 o7.1)]) rfl ?_
        refine s_lif_eq (tgt := 2134) X (dk okd_law_31 11 rfl) (by decide) ?_ ?_
        · exact s_less [true, true, true, true, true, false, false, false] rfl (h10)
        · refine s_run X ok_law_31 29 1 (pc' := 2133) (vs' := [some (.ref b), some (.ref x), some (.ref m), some (.ref o), some (.int i), some (.int o3.1), some (.long o7.1), none]) (st' := [.int 0]) rfl ?_
          exact s_none
  · refine s_run X ok_law_31 23 1 (pc' := 2117) (vs' := [some (.ref b), some (.ref x), some (.ref m), some (.ref o), some (.int i), some (.int o3.1), some (.long o7.1), none]) (st' := [.int 0]) rfl ?_
    exact s_none
