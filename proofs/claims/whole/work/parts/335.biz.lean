theorem ml_X1_3 : Cond.methodLink RX1 3 Lib.objectInit ∈ TT := TT_1 (i := 118) rfl rfl
theorem ni_X1_9_11 : NI RX1 9 11 yX8_init cX8_init 1 7 12 := ⟨TX8, tyX8, rfl, uw_X8, tyX8_ok, (fun j hj => match j, hj with | 0, _ => rfl | 1, _ => rfl | 2, _ => rfl | 3, _ => rfl | 4, _ => rfl | 5, _ => rfl | 6, _ => rfl | 7, _ => rfl | 8, _ => rfl | 9, _ => rfl | 10, _ => rfl | 11, _ => rfl), TT_1 (i := 119) rfl rfl, TT_1 (i := 120) rfl rfl, TT_1 (i := 6) rfl rfl, TT_1 (i := 122) rfl rfl, TT_1 (i := 123) rfl rfl, rfl, ⟨by decide, by decide, by decide +kernel⟩, Or.inl ⟨"FranchiseLedger", List.mem_filter.mpr ⟨lw_1 (List.mem_of_getElem? (i := 121) rfl), rfl⟩⟩⟩
theorem fw_X1_12 : Cond.fieldLink RX1 12 RX1 (TX1 0).2.1 (TX1 0).2.2.1 ∈ TT := TT_2 (i := 85) rfl rfl
theorem ni_X1_18_20 : NI RX1 18 20 yX3_init cX3_init 1 3 4 := ⟨TX3, tyX3, rfl, uw_X3, tyX3_ok, (fun j hj => match j, hj with | 0, _ => rfl | 1, _ => rfl | 2, _ => rfl | 3, _ => rfl), TT_1 (i := 179) rfl rfl, TT_1 (i := 93) rfl rfl, TT_1 (i := 4) rfl rfl, TT_1 (i := 95) rfl rfl, TT_1 (i := 96) rfl rfl, rfl, ⟨by decide, by decide, by decide +kernel⟩, Or.inl ⟨"FranchiseLedger", List.mem_filter.mpr ⟨lw_1 (List.mem_of_getElem? (i := 180) rfl), rfl⟩⟩⟩
theorem fw_X1_21 : Cond.fieldLink RX1 21 RX1 (TX1 1).2.1 (TX1 1).2.2.1 ∈ TT := TT_2 (i := 88) rfl rfl
theorem ni_X1_25_27 : NI RX1 25 27 yX6_init cX6_init 1 6 5 := ⟨TX6, tyX6, rfl, uw_X6, tyX6_ok, (fun j hj => match j, hj with | 0, _ => rfl | 1, _ => rfl | 2, _ => rfl | 3, _ => rfl | 4, _ => rfl), TT_1 (i := 181) rfl rfl, TT_1 (i := 182) rfl rfl, TT_1 (i := 7) rfl rfl, TT_1 (i := 184) rfl rfl, TT_1 (i := 185) rfl rfl, rfl, ⟨by decide, by decide, by decide +kernel⟩, Or.inl ⟨"FranchiseLedger", List.mem_filter.mpr ⟨lw_1 (List.mem_of_getElem? (i := 183) rfl), rfl⟩⟩⟩
theorem fw_X1_28 : Cond.fieldLink RX1 28 RX1 (TX1 2).2.1 (TX1 2).2.2.1 ∈ TT := TT_2 (i := 91) rfl rfl
theorem ni_X1_32_34 : NI RX1 32 34 yX2_init cX2_init 1 2 9 := ⟨TX2, tyX2, rfl, uw_X2, tyX2_ok, (fun j hj => match j, hj with | 0, _ => rfl | 1, _ => rfl | 2, _ => rfl | 3, _ => rfl | 4, _ => rfl | 5, _ => rfl | 6, _ => rfl | 7, _ => rfl | 8, _ => rfl), TT_1 (i := 212) rfl rfl, TT_1 (i := 213) rfl rfl, TT_1 (i := 8) rfl rfl, TT_1 (i := 215) rfl rfl, TT_1 (i := 216) rfl rfl, rfl, ⟨by decide, by decide, by decide +kernel⟩, Or.inl ⟨"FranchiseLedger", List.mem_filter.mpr ⟨lw_1 (List.mem_of_getElem? (i := 214) rfl), rfl⟩⟩⟩
theorem fw_X1_35 : Cond.fieldLink RX1 35 RX1 (TX1 3).2.1 (TX1 3).2.2.1 ∈ TT := TT_2 (i := 95) rfl rfl
theorem ni_X1_39_41 : NI RX1 39 41 yX10_init cX10_init 1 9 6 := ⟨TX10, tyX10, rfl, uw_X10, tyX10_ok, (fun j hj => match j, hj with | 0, _ => rfl | 1, _ => rfl | 2, _ => rfl | 3, _ => rfl | 4, _ => rfl | 5, _ => rfl), TT_2 (i := 21) rfl rfl, TT_2 (i := 22) rfl rfl, TT_1 (i := 9) rfl rfl, TT_2 (i := 24) rfl rfl, TT_2 (i := 25) rfl rfl, rfl, ⟨by decide, by decide, by decide +kernel⟩, Or.inl ⟨"FranchiseLedger", List.mem_filter.mpr ⟨lw_2 (List.mem_of_getElem? (i := 23) rfl), rfl⟩⟩⟩
theorem fw_X1_42 : Cond.fieldLink RX1 42 RX1 (TX1 4).2.1 (TX1 4).2.2.1 ∈ TT := TT_2 (i := 99) rfl rfl
theorem ni_X1_46_48 : NI RX1 46 48 yX0_init cX0_init 1 0 7 := ⟨TX0, tyX0, rfl, uw_X0, tyX0_ok, (fun j hj => match j, hj with | 0, _ => rfl | 1, _ => rfl | 2, _ => rfl | 3, _ => rfl | 4, _ => rfl | 5, _ => rfl | 6, _ => rfl), TT_2 (i := 51) rfl rfl, TT_2 (i := 52) rfl rfl, TT_1 (i := 10) rfl rfl, TT_2 (i := 54) rfl rfl, TT_2 (i := 55) rfl rfl, rfl, ⟨by decide, by decide, by decide +kernel⟩, Or.inl ⟨"FranchiseLedger", List.mem_filter.mpr ⟨lw_2 (List.mem_of_getElem? (i := 53) rfl), rfl⟩⟩⟩
theorem fw_X1_49 : Cond.fieldLink RX1 49 RX1 (TX1 5).2.1 (TX1 5).2.2.1 ∈ TT := TT_2 (i := 102) rfl rfl
theorem fw_X1_53 : Cond.fieldLink RX1 53 RX1 (TX1 6).2.1 (TX1 6).2.2.1 ∈ TT := TT_2 (i := 105) rfl rfl
def ed_X1_init : List (Nat × Instr × Nat) := [(0, .aload_n 0, 1), (1, .invokespecial 3, 3), (4, .aload_n 0, 1), (5, .new 9, 3), (8, .dup, 1), (9, .invokespecial 11, 3), (12, .putfield 12, 3), (15, .aload_n 0, 1), (16, .new 18, 3), (19, .dup, 1), (20, .invokespecial 20, 3), (23, .putfield 21, 3), (26, .aload_n 0, 1), (27, .new 25, 3), (30, .dup, 1), (31, .invokespecial 27, 3), (34, .putfield 28, 3), (37, .aload_n 0, 1), (38, .new 32, 3), (41, .dup, 1), (42, .invokespecial 34, 3), (45, .putfield 35, 3), (48, .aload_n 0, 1), (49, .new 39, 3), (52, .dup, 1), (53, .invokespecial 41, 3), (56, .putfield 42, 3), (59, .aload_n 0, 1), (60, .new 46, 3), (63, .dup, 1), (64, .invokespecial 48, 3), (67, .putfield 49, 3), (70, .aload_n 0, 1), (71, .bipush 7, 2), (73, .newarray .long, 2), (75, .putfield 53, 3), (78, .return_, 1)]
theorem okd_X1_init : ed_X1_init.all (okD cX1_init) = true := by decide +kernel
set_option maxHeartbeats 4000000 in
set_option maxRecDepth 100000 in
theorem c_X1_init : CtI yX1_init cX1_init 1 1 2 32 38 6969 := by
  intro l G cy h0 sz
  refine Met.ofW (cc := cX1_init) (maxL := 1) (ret := none) (by decide) rfl ?_
  intro p e s m args below meth c s₁ B hml hv
  obtain ⟨rfl, hsz, hP, hK, hD0, hE⟩ := hv
  have hx := B.exec
  have hb := B.bytes
  have hr := B.returns
  have hts0 := atoms_spec (ws := Cond.code yX1_init cX1_init 1 none :: TT) B.pre
  have hts := fun w hw => hts0 w (List.mem_cons_of_mem _ hw)
  have hown : s.vm.findClass RX1 = some m.cls := findClass_of_methodNamed B.named
  have hlocks := B.notSynchronized
  have hin : meth.name = "<init>" := (name_of_methodNamed B.named B.method).1
  subst hsz
  have hD := hD0.self (sz := s.heap.size)
  generalize hAe : va_A [(h0, .inr (1, raw 1))] s.heap.size = A at hD hE ⊢
  have hA : ∀ q : Nat, s.heap.size ≤ q → A q := fun q h => by rw [← hAe]; exact Or.inr h
  have hS : va_S A s.heap s.heap [] := va_S.rf
  have hP : va_P G vwCl ([(h0, .inr (1, [.null, .null, .null, .null, .null, .null, .null]))] ++ plw cy [] (fun _ => 0) ((fun _ _ => 0, fun _ _ => 0, fun _ _ => 0, fun _ => 0) : St)) s.heap := by rw [show plw cy [] (fun _ => 0) ((fun _ _ => 0, fun _ _ => 0, fun _ _ => 0, fun _ => 0) : St) = [] from rfl, List.append_nil]; exact hP
  have hD : va_D A ([(h0, .inr (1, [.null, .null, .null, .null, .null, .null, .null]))] ++ plw cy [] (fun _ => 0) ((fun _ _ => 0, fun _ _ => 0, fun _ _ => 0, fun _ => 0) : St)) := by rw [show plw cy [] (fun _ => 0) ((fun _ _ => 0, fun _ _ => 0, fun _ _ => 0, fun _ => 0) : St) = [] from rfl, List.append_nil]; exact hD
  have bn := BN_0
  obtain ⟨L, K, S, hP, hD, bn⟩ : ∃ (L : List Nat) (K : Nat → Nat) (S : St), va_P G vwCl ([(h0, .inr (1, [.null, .null, .null, .null, .null, .null, .null]))] ++ plw cy L K S) s.heap ∧ va_D A ([(h0, .inr (1, [.null, .null, .null, .null, .null, .null, .null]))] ++ plw cy L K S) ∧ BN L K S [] [] := ⟨_, _, _, hP, hD, bn⟩
  have hl := lv_entry ([.ref h0]) (n := 1) (Nat.le_of_ble_eq_true rfl)
  rw [lg_entry_eq]
  generalize (lg_sl ([.ref h0]) ++ List.replicate (1 - (lg_sl ([.ref h0])).length) Slot.unset).toArray = ls at hl ⊢
  have hl : lv_has ls 1 [(0, .ref h0)] := hl
  refine lv_aload_n hx hb (dk okd_X1_init 0 rfl) rfl (lv_at hl 0 rfl) ?_
  refine W.objInit hx hb hown (hts _ ml_X1_3) (hts _ ow_inst) (hts _ ow_code) rfl (by rw [hml]; exact hl.1) rfl (dk okd_X1_init 1 rfl) (Nat.le_of_ble_eq_true rfl) (Nat.le_of_ble_eq_true rfl) ?_
  refine W.eq (g2 := F0 m 4 ls []) rfl ?_
  refine lv_aload_n hx hb (dk okd_X1_init 2 rfl) rfl (lv_at hl 0 rfl) ?_
  refine w_sub hx hb hml hown hts hK hA hE ni_X1_9_11 c_X8_init hl.1 hP hD hS (dk okd_X1_init 3 rfl) (dk okd_X1_init 4 rfl) (dk okd_X1_init 5 rfl) (Nat.le_of_ble_eq_true rfl) (Nat.le_of_ble_eq_true rfl) (Nat.le_of_ble_eq_true rfl) (Nat.le_of_ble_eq_true rfl) (Nat.le_of_ble_eq_true rfl) (fun g1 H locs L2 K2 S2 hpi hdj hP hD hS => ?_)
  have bn := BN_app bn hdj hpi
  clear hpi hdj
  generalize L ++ L2 = L at hP hD bn
  generalize mK L2 _ K2 = K at hP hD bn
  generalize mS L2 _ S2 = S at hP hD bn
  refine W.widen (k := 5) (n := 60) (Nat.le_of_ble_eq_true rfl) (Nat.le_of_ble_eq_true rfl) ?_
  refine va_putF (D := G) (ci := 1) (v := .ref g1) (ty := tyX1 0) (C := RX1) (T := TX1) (N := 7) hx hb hts uw_X1 tyX1 tyX1_ok nmX1 hown hK hP hD hS 0 rfl rfl 0 (by decide) (hts _ fw_X1_12) (fun _ h9 => h9) rfl hin rfl (tyX1_ok 0 (by decide)) rfl rfl (Nat.le_of_ble_eq_true rfl) (dk okd_X1_init 6 rfl) (fun H locs hP hD hS => ?_)
  have hP : va_P G vwCl ([(h0, .inr (1, [.ref g1, .null, .null, .null, .null, .null, .null]))] ++ plw cy L K S) H := hP
  have hD : va_D A ([(h0, .inr (1, [.ref g1, .null, .null, .null, .null, .null, .null]))] ++ plw cy L K S) := hD
  refine lv_aload_n hx hb (dk okd_X1_init 7 rfl) rfl (lv_at hl 0 rfl) ?_
  refine w_sub hx hb hml hown hts hK hA hE ni_X1_18_20 c_X3_init hl.1 hP hD hS (dk okd_X1_init 8 rfl) (dk okd_X1_init 9 rfl) (dk okd_X1_init 10 rfl) (Nat.le_of_ble_eq_true rfl) (Nat.le_of_ble_eq_true rfl) (Nat.le_of_ble_eq_true rfl) (Nat.le_of_ble_eq_true rfl) (Nat.le_of_ble_eq_true rfl) (fun g2 H locs L2 K2 S2 hpi hdj hP hD hS => ?_)
  have bn := BN_app bn hdj hpi
  clear hpi hdj
  generalize L ++ L2 = L at hP hD bn
  generalize mK L2 _ K2 = K at hP hD bn
  generalize mS L2 _ S2 = S at hP hD bn
  refine W.widen (k := 9) (n := 2764) (Nat.le_of_ble_eq_true rfl) (Nat.le_of_ble_eq_true rfl) ?_
  refine va_putF (D := G) (ci := 1) (v := .ref g2) (ty := tyX1 1) (C := RX1) (T := TX1) (N := 7) hx hb hts uw_X1 tyX1 tyX1_ok nmX1 hown hK hP hD hS 0 rfl rfl 1 (by decide) (hts _ fw_X1_21) (fun _ h9 => h9) rfl hin rfl (tyX1_ok 1 (by decide)) rfl rfl (Nat.le_of_ble_eq_true rfl) (dk okd_X1_init 11 rfl) (fun H locs hP hD hS => ?_)
  have hP : va_P G vwCl ([(h0, .inr (1, [.ref g1, .ref g2, .null, .null, .null, .null, .null]))] ++ plw cy L K S) H := hP
  have hD : va_D A ([(h0, .inr (1, [.ref g1, .ref g2, .null, .null, .null, .null, .null]))] ++ plw cy L K S) := hD
  refine lv_aload_n hx hb (dk okd_X1_init 12 rfl) rfl (lv_at hl 0 rfl) ?_
  refine w_sub hx hb hml hown hts hK hA hE ni_X1_25_27 c_X6_init hl.1 hP hD hS (dk okd_X1_init 13 rfl) (dk okd_X1_init 14 rfl) (dk okd_X1_init 15 rfl) (Nat.le_of_ble_eq_true rfl) (Nat.le_of_ble_eq_true rfl) (Nat.le_of_ble_eq_true rfl) (Nat.le_of_ble_eq_true rfl) (Nat.le_of_ble_eq_true rfl) (fun g3 H locs L2 K2 S2 hpi hdj hP hD hS => ?_)
  have bn := BN_app bn hdj hpi
  clear hpi hdj
  generalize L ++ L2 = L at hP hD bn
  generalize mK L2 _ K2 = K at hP hD bn
  generalize mS L2 _ S2 = S at hP hD bn
  refine W.widen (k := 14) (n := 2833) (Nat.le_of_ble_eq_true rfl) (Nat.le_of_ble_eq_true rfl) ?_
  refine va_putF (D := G) (ci := 1) (v := .ref g3) (ty := tyX1 2) (C := RX1) (T := TX1) (N := 7) hx hb hts uw_X1 tyX1 tyX1_ok nmX1 hown hK hP hD hS 0 rfl rfl 2 (by decide) (hts _ fw_X1_28) (fun _ h9 => h9) rfl hin rfl (tyX1_ok 2 (by decide)) rfl rfl (Nat.le_of_ble_eq_true rfl) (dk okd_X1_init 16 rfl) (fun H locs hP hD hS => ?_)
  have hP : va_P G vwCl ([(h0, .inr (1, [.ref g1, .ref g2, .ref g3, .null, .null, .null, .null]))] ++ plw cy L K S) H := hP
  have hD : va_D A ([(h0, .inr (1, [.ref g1, .ref g2, .ref g3, .null, .null, .null, .null]))] ++ plw cy L K S) := hD
  refine lv_aload_n hx hb (dk okd_X1_init 17 rfl) rfl (lv_at hl 0 rfl) ?_
  refine w_sub hx hb hml hown hts hK hA hE ni_X1_32_34 c_X2_init hl.1 hP hD hS (dk okd_X1_init 18 rfl) (dk okd_X1_init 19 rfl) (dk okd_X1_init 20 rfl) (Nat.le_of_ble_eq_true rfl) (Nat.le_of_ble_eq_true rfl) (Nat.le_of_ble_eq_true rfl) (Nat.le_of_ble_eq_true rfl) (Nat.le_of_ble_eq_true rfl) (fun g4 H locs L2 K2 S2 hpi hdj hP hD hS => ?_)
  have bn := BN_app bn hdj hpi
  clear hpi hdj
  generalize L ++ L2 = L at hP hD bn
  generalize mK L2 _ K2 = K at hP hD bn
  generalize mS L2 _ S2 = S at hP hD bn
  refine W.widen (k := 23) (n := 2978) (Nat.le_of_ble_eq_true rfl) (Nat.le_of_ble_eq_true rfl) ?_
  refine va_putF (D := G) (ci := 1) (v := .ref g4) (ty := tyX1 3) (C := RX1) (T := TX1) (N := 7) hx hb hts uw_X1 tyX1 tyX1_ok nmX1 hown hK hP hD hS 0 rfl rfl 3 (by decide) (hts _ fw_X1_35) (fun _ h9 => h9) rfl hin rfl (tyX1_ok 3 (by decide)) rfl rfl (Nat.le_of_ble_eq_true rfl) (dk okd_X1_init 21 rfl) (fun H locs hP hD hS => ?_)
  have hP : va_P G vwCl ([(h0, .inr (1, [.ref g1, .ref g2, .ref g3, .ref g4, .null, .null, .null]))] ++ plw cy L K S) H := hP
  have hD : va_D A ([(h0, .inr (1, [.ref g1, .ref g2, .ref g3, .ref g4, .null, .null, .null]))] ++ plw cy L K S) := hD
  refine lv_aload_n hx hb (dk okd_X1_init 22 rfl) rfl (lv_at hl 0 rfl) ?_
  refine w_sub hx hb hml hown hts hK hA hE ni_X1_39_41 c_X10_init hl.1 hP hD hS (dk okd_X1_init 23 rfl) (dk okd_X1_init 24 rfl) (dk okd_X1_init 25 rfl) (Nat.le_of_ble_eq_true rfl) (Nat.le_of_ble_eq_true rfl) (Nat.le_of_ble_eq_true rfl) (Nat.le_of_ble_eq_true rfl) (Nat.le_of_ble_eq_true rfl) (fun g5 H locs L2 K2 S2 hpi hdj hP hD hS => ?_)
  have bn := BN_app bn hdj hpi
  clear hpi hdj
  generalize L ++ L2 = L at hP hD bn
  generalize mK L2 _ K2 = K at hP hD bn
  generalize mS L2 _ S2 = S at hP hD bn
  refine W.widen (k := 30) (n := 3032) (Nat.le_of_ble_eq_true rfl) (Nat.le_of_ble_eq_true rfl) ?_
  refine va_putF (D := G) (ci := 1) (v := .ref g5) (ty := tyX1 4) (C := RX1) (T := TX1) (N := 7) hx hb hts uw_X1 tyX1 tyX1_ok nmX1 hown hK hP hD hS 0 rfl rfl 4 (by decide) (hts _ fw_X1_42) (fun _ h9 => h9) rfl hin rfl (tyX1_ok 4 (by decide)) rfl rfl (Nat.le_of_ble_eq_true rfl) (dk okd_X1_init 26 rfl) (fun H locs hP hD hS => ?_)
  have hP : va_P G vwCl ([(h0, .inr (1, [.ref g1, .ref g2, .ref g3, .ref g4, .ref g5, .null, .null]))] ++ plw cy L K S) H := hP
  have hD : va_D A ([(h0, .inr (1, [.ref g1, .ref g2, .ref g3, .ref g4, .ref g5, .null, .null]))] ++ plw cy L K S) := hD
  refine lv_aload_n hx hb (dk okd_X1_init 27 rfl) rfl (lv_at hl 0 rfl) ?_
  refine w_sub hx hb hml hown hts hK hA hE ni_X1_46_48 c_X0_init hl.1 hP hD hS (dk okd_X1_init 28 rfl) (dk okd_X1_init 29 rfl) (dk okd_X1_init 30 rfl) (Nat.le_of_ble_eq_true rfl) (Nat.le_of_ble_eq_true rfl) (Nat.le_of_ble_eq_true rfl) (Nat.le_of_ble_eq_true rfl) (Nat.le_of_ble_eq_true rfl) (fun g6 H locs L2 K2 S2 hpi hdj hP hD hS => ?_)
  have bn := BN_app bn hdj hpi
  clear hpi hdj
  generalize L ++ L2 = L at hP hD bn
  generalize mK L2 _ K2 = K at hP hD bn
  generalize mS L2 _ S2 = S at hP hD bn
  refine W.widen (k := 37) (n := 6962) (Nat.le_of_ble_eq_true rfl) (Nat.le_of_ble_eq_true rfl) ?_
  refine va_putF (D := G) (ci := 1) (v := .ref g6) (ty := tyX1 5) (C := RX1) (T := TX1) (N := 7) hx hb hts uw_X1 tyX1 tyX1_ok nmX1 hown hK hP hD hS 0 rfl rfl 5 (by decide) (hts _ fw_X1_49) (fun _ h9 => h9) rfl hin rfl (tyX1_ok 5 (by decide)) rfl rfl (Nat.le_of_ble_eq_true rfl) (dk okd_X1_init 31 rfl) (fun H locs hP hD hS => ?_)
  have hP : va_P G vwCl ([(h0, .inr (1, [.ref g1, .ref g2, .ref g3, .ref g4, .ref g5, .ref g6, .null]))] ++ plw cy L K S) H := hP
  have hD : va_D A ([(h0, .inr (1, [.ref g1, .ref g2, .ref g3, .ref g4, .ref g5, .ref g6, .null]))] ++ plw cy L K S) := hD
  refine lv_aload_n hx hb (dk okd_X1_init 32 rfl) rfl (lv_at hl 0 rfl) ?_
  refine lv_bipush (v := 7) hx hb (dk okd_X1_init 33 rfl) (by decide) ?_
  refine va_newa (atype := .long) (ty := .long) (N' := 7) (a0 := (7, .inr (.inl (fun _ => 0)))) hx hb (hts _ aw_long) rfl hK hP hD hS hA (fun cA => rfl) (by decide) (by decide) (Nat.le_of_ble_eq_true rfl) (Nat.le_of_ble_eq_true rfl) (Nat.le_of_ble_eq_true rfl) (dk okd_X1_init 34 rfl) (fun g7 cA H hK2 hP hD hS => ?_)
  have ecA : cA = cy 2 := cy_eq hK2 (i := 5) (j := 2) rfl rfl (fun C h => by cases h)
  subst ecA
  rw [show ([(g7, .inl (cy 2, 7, .inr (.inl (fun _ => 0))))] : va_W) = plw cy [g7] (fun _ => 14) ((fun _ _ => 0, fun _ _ => 0, fun _ _ => 0, fun _ => 7) : St) from (ar_pool (cy := cy) (q := g7) (kd := 14) (n := 7) (by decide)).symm, List.append_assoc] at hP hD
  have hdj := pl_disj (D_right hD)
  rw [← plw_app hdj] at hP hD
  obtain ⟨bn, hng7⟩ := BN_arr (n := 7) bn (show 12 ≤ 14 ∧ 14 ≤ 15 by decide) hdj
  clear hdj
  generalize L ++ [g7] = L at hP hD bn
  generalize mK [g7] _ (fun _ => 14) = K at hP hD bn
  generalize mS [g7] _ _ = S at hP hD bn hng7
  refine W.widen (k := 38) (n := 6969) (Nat.le_of_ble_eq_true rfl) (Nat.le_of_ble_eq_true rfl) ?_
  refine va_putF (D := G) (ci := 1) (v := .ref g7) (ty := tyX1 6) (C := RX1) (T := TX1) (N := 7) hx hb hts uw_X1 tyX1 tyX1_ok nmX1 hown hK hP hD hS 0 rfl rfl 6 (by decide) (hts _ fw_X1_53) (fun _ h9 => h9) rfl hin rfl (tyX1_ok 6 (by decide)) rfl rfl (Nat.le_of_ble_eq_true rfl) (dk okd_X1_init 35 rfl) (fun H locs hP hD hS => ?_)
  have hP : va_P G vwCl ([(h0, .inr (1, [.ref g1, .ref g2, .ref g3, .ref g4, .ref g5, .ref g6, .ref g7]))] ++ plw cy L K S) H := hP
  have hD : va_D A ([(h0, .inr (1, [.ref g1, .ref g2, .ref g3, .ref g4, .ref g5, .ref g6, .ref g7]))] ++ plw cy L K S) := hD
  rw [show ([(h0, .inr (1, [.ref g1, .ref g2, .ref g3, .ref g4, .ref g5, .ref g6, .ref g7]))] : va_W) = plw cy [h0] (fun _ => 1) ((fun _ _ => 0, fun _ _ => 0, fun _ k => (([g1, g2, g3, g4, g5, g6, g7] : List Nat)[k]?).getD 0, fun _ => 0) : St) from by rw [ob_pool (by decide)]; simp [fvs, fv, lay, gI, gJ, gR]] at hP hD
  have hdj := pl_disj hD
  have hn0 : h0 ∉ L := hdj h0 (List.mem_singleton.mpr rfl)
  rw [← plw_app hdj] at hP hD
  have hlt7 : ∀ i, (lay 1)[i]? = some 2 → i < 7 := fun i h => (List.getElem?_eq_some_iff.mp h).1
  have hpi := BN_top (ci := 1) (h0 := h0) (by decide) bn hn0 (fun i h => hlt7 i h) (fun i k h h2 => match i, hlt7 i h, h2 with | 0, _, h => by simp at h; subst h; rfl | 1, _, h => by simp at h; subst h; rfl | 2, _, h => by simp at h; subst h; rfl | 3, _, h => by simp at h; subst h; rfl | 4, _, h => by simp at h; subst h; rfl | 5, _, h => by simp at h; subst h; rfl | 6, _, h => by simp at h; subst h; rfl) (fun i r h h12 h2 => match i, hlt7 i h, h12, h2 with | 0, _, h12, _ => absurd h12 (by decide) | 1, _, h12, _ => absurd h12 (by decide) | 2, _, h12, _ => absurd h12 (by decide) | 3, _, h12, _ => absurd h12 (by decide) | 4, _, h12, _ => absurd h12 (by decide) | 5, _, h12, _ => absurd h12 (by decide) | 6, _, _, h => by simp at h; subst h; exact hng7)
  exact W.vret hx hb hr (fun t ht hW => ⟨⟨rfl, _, _, _, by rw [ht]; exact hP, hD, hpi⟩, hS.F ht⟩) hS.2.2 (dk okd_X1_init 36 rfl) hlocks
