/-! the ledger's constructor -/
theorem perm_3 (x a : Nat × va_E) (P : va_W) : ([x, a] ++ P).Perm (([x] ++ P) ++ [a]) := List.Perm.cons x (List.perm_append_singleton a P).symm
theorem perm_45 {g1 g2 g3 g4 g5 g6 g7 g8 g9 g10 : Nat} : ([g4, g5] ++ [g1, g2, g3, g6, g7, g8, g9, g10] : List Nat).Perm [g1, g2, g3, g4, g5, g6, g7, g8, g9, g10] := by
  have h := (List.perm_append_comm (l₁ := [g4, g5]) (l₂ := [g1, g2, g3])).append_right [g6, g7, g8, g9, g10]
  exact h
theorem perm_ar {g1 g2 g3 g6 g7 g8 g9 g10 ar : Nat} : ([g1, g2, g3, ar, g6, g7, g8, g9, g10] : List Nat).Perm ([ar] ++ [g1, g2, g3, g6, g7, g8, g9, g10]) := by
  have h := (List.perm_append_comm (l₁ := [g1, g2, g3]) (l₂ := [ar])).append_right [g6, g7, g8, g9, g10]
  exact h
theorem n0c : ((0 : Int32)).toNatClampNeg = 0 := by decide
theorem n1c : ((1 : Int32)).toNatClampNeg = 1 := by decide
def NB (L : List Nat) (S : St) (q n : Nat) : Prop := q ∈ L ∧ gN S q = n
theorem NB_app {L L2 : List Nat} {S S2 : St} {q n : Nat} (h : NB L S q n) (hd : ∀ a ∈ L, a ∉ L2) : NB (L ++ L2) (mS L2 S S2) q n := ⟨List.mem_append_left _ h.1, (mS_1 hd h.1).2.2.2.trans h.2⟩
/-- what a new ledger's cells hold: zeros, but for its cells (nobody's) and its error's place -/
def XQ (L : List Nat) (S Sz : St) (h0 oo : Nat) : Prop := ∀ a i, a ∈ L → gI S a i = (if a = oo ∧ i < 900 then -1 else if a = h0 ∧ i = 10 then -1 else 0) ∧ gJ S a i = 0 ∧ gR S a i = gR Sz a i ∧ gN S a = gN Sz a
def PcX (h0 sz : Nat) (G : va_G) (cy : Nat → ClassId) : Array Value → State → Prop := va_Pc [.ref h0] (fun U => U.heap.size = sz ∧ va_P G vwCl [(h0, .inr (10, raw 10))] U.heap ∧ va_K G vwCl (tys cy) U ∧ va_D (fun _ => True) [(h0, .inr (10, raw 10))] ∧ EX cy (va_A [(h0, .inr (10, raw 10))] sz) U ∧ va_AO "FranchiseLedger$Business" U)
def QX11 (G : va_G) (cy : Nat → ClassId) (A : Nat → Prop) (h0 : Nat) : Array Value → State → Outcome → State → Prop := fun _ st oc t => (oc = .returned none ∧ ∃ (L : List Nat) (K : Nat → Nat) (S Sz : St) (oo : Nat), va_P G vwCl (plw cy L K S) t.heap ∧ va_D A (plw cy L K S) ∧ PI 10 L K Sz h0 ∧ XQ L S Sz h0 oo ∧ gR Sz (gR Sz (gR Sz h0 5) 1) 0 = oo) ∧ va_F A st t
theorem ml_X11_3 : Cond.methodLink RX11 3 Lib.objectInit ∈ TT := TT_1 (i := 33) rfl rfl
theorem ni_X11_9_11 : NI RX11 9 11 yX9_init cX9_init 1 8 8 := ⟨TX9, tyX9, rfl, uw_X9, tyX9_ok, (fun j hj => match j, hj with | 0, _ => rfl | 1, _ => rfl | 2, _ => rfl | 3, _ => rfl | 4, _ => rfl | 5, _ => rfl | 6, _ => rfl | 7, _ => rfl), TT_1 (i := 36) rfl rfl, TT_1 (i := 37) rfl rfl, TT_1 (i := 2) rfl rfl, TT_1 (i := 39) rfl rfl, TT_1 (i := 40) rfl rfl, rfl, ⟨by decide, by decide, by decide +kernel⟩, Or.inl ⟨"FranchiseLedger", List.mem_filter.mpr ⟨lw_1 (List.mem_of_getElem? (i := 38) rfl), rfl⟩⟩⟩
theorem fwn_X11_12 : Cond.fieldLink RX11 12 RX11 (TX11 0).2.1 (TX11 0).2.2.1 ∈ TT := TT_2 (i := 184) rfl rfl
theorem ni_X11_16_18 : NI RX11 16 18 yX4_init cX4_init 1 4 2 := ⟨TX4, tyX4, rfl, uw_X4, tyX4_ok, (fun j hj => match j, hj with | 0, _ => rfl | 1, _ => rfl), TT_1 (i := 77) rfl rfl, TT_1 (i := 78) rfl rfl, TT_1 (i := 3) rfl rfl, TT_1 (i := 80) rfl rfl, TT_1 (i := 81) rfl rfl, rfl, ⟨by decide, by decide, by decide +kernel⟩, Or.inl ⟨"FranchiseLedger", List.mem_filter.mpr ⟨lw_1 (List.mem_of_getElem? (i := 79) rfl), rfl⟩⟩⟩
theorem fwn_X11_19 : Cond.fieldLink RX11 19 RX11 (TX11 1).2.1 (TX11 1).2.2.1 ∈ TT := TT_2 (i := 185) rfl rfl
theorem ni_X11_23_25 : NI RX11 23 25 yX3_init cX3_init 1 3 4 := ⟨TX3, tyX3, rfl, uw_X3, tyX3_ok, (fun j hj => match j, hj with | 0, _ => rfl | 1, _ => rfl | 2, _ => rfl | 3, _ => rfl), TT_1 (i := 92) rfl rfl, TT_1 (i := 93) rfl rfl, TT_1 (i := 4) rfl rfl, TT_1 (i := 95) rfl rfl, TT_1 (i := 96) rfl rfl, rfl, ⟨by decide, by decide, by decide +kernel⟩, Or.inl ⟨"FranchiseLedger", List.mem_filter.mpr ⟨lw_1 (List.mem_of_getElem? (i := 94) rfl), rfl⟩⟩⟩
theorem fwn_X11_26 : Cond.fieldLink RX11 26 RX11 (TX11 2).2.1 (TX11 2).2.2.1 ∈ TT := TT_2 (i := 186) rfl rfl
theorem cw_X11_30 : Cond.classLink RX11 30 "FranchiseLedger$Business" ∈ TT := TT_1 (i := 112) rfl rfl
theorem ni_X11_30_32 : NI RX11 30 32 yX1_init cX1_init 1 1 7 := ⟨TX1, tyX1, rfl, uw_X1, tyX1_ok, (fun j hj => match j, hj with | 0, _ => rfl | 1, _ => rfl | 2, _ => rfl | 3, _ => rfl | 4, _ => rfl | 5, _ => rfl | 6, _ => rfl), TT_1 (i := 112) rfl rfl, TT_1 (i := 114) rfl rfl, TT_1 (i := 5) rfl rfl, TT_1 (i := 116) rfl rfl, TT_1 (i := 117) rfl rfl, rfl, ⟨by decide, by decide, by decide +kernel⟩, Or.inl ⟨"FranchiseLedger", List.mem_filter.mpr ⟨lw_1 (List.mem_of_getElem? (i := 115) rfl), rfl⟩⟩⟩
theorem fwn_X11_33 : Cond.fieldLink RX11 33 RX11 (TX11 3).2.1 (TX11 3).2.2.1 ∈ TT := TT_2 (i := 187) rfl rfl
theorem fwn_X11_37 : Cond.fieldLink RX11 37 RX11 (TX11 4).2.1 (TX11 4).2.2.1 ∈ TT := TT_2 (i := 188) rfl rfl
theorem fwn_X11_41 : Cond.fieldLink RX11 41 RX11 (TX11 5).2.1 (TX11 5).2.2.1 ∈ TT := TT_2 (i := 189) rfl rfl
theorem fwn_X11_48 : Cond.fieldLink RX11 48 RX11 (TX11 6).2.1 (TX11 6).2.2.1 ∈ TT := TT_2 (i := 190) rfl rfl
theorem ni_X11_51_53 : NI RX11 51 53 yX5_init cX5_init 1 5 9 := ⟨TX5, tyX5, rfl, uw_X5, tyX5_ok, (fun j hj => match j, hj with | 0, _ => rfl | 1, _ => rfl | 2, _ => rfl | 3, _ => rfl | 4, _ => rfl | 5, _ => rfl | 6, _ => rfl | 7, _ => rfl | 8, _ => rfl), TT_2 (i := 149) rfl rfl, TT_2 (i := 150) rfl rfl, TT_1 (i := 12) rfl rfl, TT_2 (i := 152) rfl rfl, TT_2 (i := 153) rfl rfl, rfl, ⟨by decide, by decide, by decide +kernel⟩, Or.inl ⟨"FranchiseLedger", List.mem_filter.mpr ⟨lw_2 (List.mem_of_getElem? (i := 151) rfl), rfl⟩⟩⟩
theorem fwn_X11_54 : Cond.fieldLink RX11 54 RX11 (TX11 7).2.1 (TX11 7).2.2.1 ∈ TT := TT_2 (i := 191) rfl rfl
theorem fwn_X11_58 : Cond.fieldLink RX11 58 RX11 (TX11 8).2.1 (TX11 8).2.2.1 ∈ TT := TT_2 (i := 192) rfl rfl
theorem fwn_X11_61 : Cond.fieldLink RX11 61 RX11 (TX11 9).2.1 (TX11 9).2.2.1 ∈ TT := TT_2 (i := 193) rfl rfl
theorem fwn_X11_65 : Cond.fieldLink RX11 65 RX11 (TX11 10).2.1 (TX11 10).2.2.1 ∈ TT := TT_2 (i := 194) rfl rfl
def ed_X11_init : List (Nat × Instr × Nat) := [(0, .aload_n 0, 1), (1, .invokespecial 3, 3), (4, .aload_n 0, 1), (5, .new 9, 3), (8, .dup, 1), (9, .invokespecial 11, 3), (12, .putfield 12, 3), (15, .aload_n 0, 1), (16, .new 16, 3), (19, .dup, 1), (20, .invokespecial 18, 3), (23, .putfield 19, 3), (26, .aload_n 0, 1), (27, .new 23, 3), (30, .dup, 1), (31, .invokespecial 25, 3), (34, .putfield 26, 3), (37, .aload_n 0, 1), (38, .iconst 2, 1), (39, .anewarray 30, 3), (42, .dup, 1), (43, .iconst 0, 1), (44, .new 30, 3), (47, .dup, 1), (48, .invokespecial 32, 3), (51, .aastore, 1), (52, .dup, 1), (53, .iconst 1, 1), (54, .new 30, 3), (57, .dup, 1), (58, .invokespecial 32, 3), (61, .aastore, 1), (62, .putfield 33, 3), (65, .aload_n 0, 1), (66, .iconst 2, 1), (67, .newarray .boolean, 2), (69, .putfield 37, 3), (72, .aload_n 0, 1), (73, .new 30, 3), (76, .dup, 1), (77, .invokespecial 32, 3), (80, .putfield 41, 3), (83, .aload_n 0, 1), (84, .getfield 41, 3), (87, .invokevirtual 45, 3), (90, .aload_n 0, 1), (91, .new 30, 3), (94, .dup, 1), (95, .invokespecial 32, 3), (98, .putfield 48, 3), (101, .aload_n 0, 1), (102, .new 51, 3), (105, .dup, 1), (106, .invokespecial 53, 3), (109, .putfield 54, 3), (112, .aload_n 0, 1), (113, .new 51, 3), (116, .dup, 1), (117, .invokespecial 53, 3), (120, .putfield 58, 3), (123, .aload_n 0, 1), (124, .iconst 0, 1), (125, .putfield 61, 3), (128, .aload_n 0, 1), (129, .iconst (-1), 1), (130, .putfield 65, 3), (133, .return_, 1)]
theorem okd_X11_init : ed_X11_init.all (okD cX11_init) = true := by decide +kernel
set_option maxHeartbeats 8000000 in
set_option maxRecDepth 100000 in
theorem c_X11_init : ∀ (l : Launch) (G : va_G) (cy : Nat → ClassId) (h0 sz : Nat), Met l yX11_init (Cond.code yX11_init cX11_init 1 none :: TT) (rmi 3 64 182 32956) (PcX h0 sz G cy) (QX11 G cy (va_A [(h0, .inr (10, raw 10))] sz) h0) 182 32956 (va_A [(h0, .inr (10, raw 10))] sz) := by
  intro l G cy h0 sz
  refine Met.ofW (cc := cX11_init) (maxL := 1) (ret := none) (by decide) rfl ?_
  intro p e s m args below meth c s₁ B hml hv
  obtain ⟨rfl, hsz, hP, hK, hD0, hE, hAO⟩ := hv
  have hx := B.exec
  have hb := B.bytes
  have hr := B.returns
  have hts0 := atoms_spec (ws := Cond.code yX11_init cX11_init 1 none :: TT) B.pre
  have hts := fun w hw => hts0 w (List.mem_cons_of_mem _ hw)
  have hown : s.vm.findClass RX11 = some m.cls := findClass_of_methodNamed B.named
  have hlocks := B.notSynchronized
  have hin : meth.name = "<init>" := (name_of_methodNamed B.named B.method).1
  subst hsz
  have hD := hD0.self (sz := s.heap.size)
  generalize hAe : va_A [(h0, .inr (10, raw 10))] s.heap.size = A at hD hE ⊢
  have hA : ∀ q : Nat, s.heap.size ≤ q → A q := fun q h => by rw [← hAe]; exact Or.inr h
  have hS : va_S A s.heap s.heap [] := va_S.rf
  have hP : va_P G vwCl ([(h0, .inr (10, [.null, .null, .null, .null, .null, .null, .null, .null, .null, .int 0, .int 0]))] ++ plw cy [] (fun _ => 0) ((fun _ _ => 0, fun _ _ => 0, fun _ _ => 0, fun _ => 0) : St)) s.heap := by rw [show plw cy [] (fun _ => 0) ((fun _ _ => 0, fun _ _ => 0, fun _ _ => 0, fun _ => 0) : St) = [] from rfl, List.append_nil]; exact hP
  have hD : va_D A ([(h0, .inr (10, [.null, .null, .null, .null, .null, .null, .null, .null, .null, .int 0, .int 0]))] ++ plw cy [] (fun _ => 0) ((fun _ _ => 0, fun _ _ => 0, fun _ _ => 0, fun _ => 0) : St)) := by rw [show plw cy [] (fun _ => 0) ((fun _ _ => 0, fun _ _ => 0, fun _ _ => 0, fun _ => 0) : St) = [] from rfl, List.append_nil]; exact hD
  have bn := BN_0
  obtain ⟨L, K, S, hP, hD, bn⟩ : ∃ (L : List Nat) (K : Nat → Nat) (S : St), va_P G vwCl ([(h0, .inr (10, [.null, .null, .null, .null, .null, .null, .null, .null, .null, .int 0, .int 0]))] ++ plw cy L K S) s.heap ∧ va_D A ([(h0, .inr (10, [.null, .null, .null, .null, .null, .null, .null, .null, .null, .int 0, .int 0]))] ++ plw cy L K S) ∧ BN L K S [] [] := ⟨_, _, _, hP, hD, bn⟩
  have hl := lv_entry ([.ref h0]) (n := 1) (Nat.le_of_ble_eq_true rfl)
  rw [lg_entry_eq]
  generalize (lg_sl ([.ref h0]) ++ List.replicate (1 - (lg_sl ([.ref h0])).length) Slot.unset).toArray = ls at hl ⊢
  have hl : lv_has ls 1 [(0, .ref h0)] := hl
  refine lv_aload_n hx hb (dk okd_X11_init 0 rfl) rfl (lv_at hl 0 rfl) ?_
  refine W.objInit hx hb hown (hts _ ml_X11_3) (hts _ ow_inst) (hts _ ow_code) rfl (by rw [hml]; exact hl.1) rfl (dk okd_X11_init 1 rfl) (Nat.le_of_ble_eq_true rfl) (Nat.le_of_ble_eq_true rfl) ?_
  refine W.eq (g2 := F0 m 4 ls []) rfl ?_
  refine lv_aload_n hx hb (dk okd_X11_init 2 rfl) rfl (lv_at hl 0 rfl) ?_
  refine w_sub hx hb hml hown hts hK hA hE ni_X11_9_11 c_X9_init hl.1 hP hD hS (dk okd_X11_init 3 rfl) (dk okd_X11_init 4 rfl) (dk okd_X11_init 5 rfl) (Nat.le_of_ble_eq_true rfl) (Nat.le_of_ble_eq_true rfl) (Nat.le_of_ble_eq_true rfl) (Nat.le_of_ble_eq_true rfl) (Nat.le_of_ble_eq_true rfl) (fun g1 H locs L2 K2 S2 hpi hdj hP hD hS => ?_)
  have bn := BN_app bn hdj hpi
  clear hpi hdj
  generalize L ++ L2 = L at hP hD bn 
  generalize mK L2 _ K2 = K at hP hD bn 
  generalize mS L2 _ S2 = S at hP hD bn 
  refine W.widen (k := 2) (n := 1508) (Nat.le_of_ble_eq_true rfl) (Nat.le_of_ble_eq_true rfl) ?_
  refine va_putF (D := G) (ci := 10) (v := .ref g1) (ty := tyX11 0) (C := RX11) (T := TX11) (N := 11) hx hb hts uw_X11 tyX11 tyX11_ok nmX11 hown hK hP hD hS 0 rfl rfl 0 (by decide) (hts _ fwn_X11_12) (fun _ h9 => h9) rfl hin rfl (tyX11_ok 0 (by decide)) rfl rfl (Nat.le_of_ble_eq_true rfl) (dk okd_X11_init 6 rfl) (fun H locs hP hD hS => ?_)
  have hP : va_P G vwCl ([(h0, .inr (10, [.ref g1, .null, .null, .null, .null, .null, .null, .null, .null, .int 0, .int 0]))] ++ plw cy L K S) H := hP
  have hD : va_D A ([(h0, .inr (10, [.ref g1, .null, .null, .null, .null, .null, .null, .null, .null, .int 0, .int 0]))] ++ plw cy L K S) := hD
  refine lv_aload_n hx hb (dk okd_X11_init 7 rfl) rfl (lv_at hl 0 rfl) ?_
  refine w_sub hx hb hml hown hts hK hA hE ni_X11_16_18 c_X4_init hl.1 hP hD hS (dk okd_X11_init 8 rfl) (dk okd_X11_init 9 rfl) (dk okd_X11_init 10 rfl) (Nat.le_of_ble_eq_true rfl) (Nat.le_of_ble_eq_true rfl) (Nat.le_of_ble_eq_true rfl) (Nat.le_of_ble_eq_true rfl) (Nat.le_of_ble_eq_true rfl) (fun g2 H locs L2 K2 S2 hpi hdj hP hD hS => ?_)
  have bn := BN_app bn hdj hpi
  clear hpi hdj
  generalize L ++ L2 = L at hP hD bn 
  generalize mK L2 _ K2 = K at hP hD bn 
  generalize mS L2 _ S2 = S at hP hD bn 
  refine W.widen (k := 4) (n := 1766) (Nat.le_of_ble_eq_true rfl) (Nat.le_of_ble_eq_true rfl) ?_
  refine va_putF (D := G) (ci := 10) (v := .ref g2) (ty := tyX11 1) (C := RX11) (T := TX11) (N := 11) hx hb hts uw_X11 tyX11 tyX11_ok nmX11 hown hK hP hD hS 0 rfl rfl 1 (by decide) (hts _ fwn_X11_19) (fun _ h9 => h9) rfl hin rfl (tyX11_ok 1 (by decide)) rfl rfl (Nat.le_of_ble_eq_true rfl) (dk okd_X11_init 11 rfl) (fun H locs hP hD hS => ?_)
  have hP : va_P G vwCl ([(h0, .inr (10, [.ref g1, .ref g2, .null, .null, .null, .null, .null, .null, .null, .int 0, .int 0]))] ++ plw cy L K S) H := hP
  have hD : va_D A ([(h0, .inr (10, [.ref g1, .ref g2, .null, .null, .null, .null, .null, .null, .null, .int 0, .int 0]))] ++ plw cy L K S) := hD
  refine lv_aload_n hx hb (dk okd_X11_init 12 rfl) rfl (lv_at hl 0 rfl) ?_
  refine w_sub hx hb hml hown hts hK hA hE ni_X11_23_25 c_X3_init hl.1 hP hD hS (dk okd_X11_init 13 rfl) (dk okd_X11_init 14 rfl) (dk okd_X11_init 15 rfl) (Nat.le_of_ble_eq_true rfl) (Nat.le_of_ble_eq_true rfl) (Nat.le_of_ble_eq_true rfl) (Nat.le_of_ble_eq_true rfl) (Nat.le_of_ble_eq_true rfl) (fun g3 H locs L2 K2 S2 hpi hdj hP hD hS => ?_)
  have bn := BN_app bn hdj hpi
  clear hpi hdj
  generalize L ++ L2 = L at hP hD bn 
  generalize mK L2 _ K2 = K at hP hD bn 
  generalize mS L2 _ S2 = S at hP hD bn 
  refine W.widen (k := 8) (n := 4470) (Nat.le_of_ble_eq_true rfl) (Nat.le_of_ble_eq_true rfl) ?_
  refine va_putF (D := G) (ci := 10) (v := .ref g3) (ty := tyX11 2) (C := RX11) (T := TX11) (N := 11) hx hb hts uw_X11 tyX11 tyX11_ok nmX11 hown hK hP hD hS 0 rfl rfl 2 (by decide) (hts _ fwn_X11_26) (fun _ h9 => h9) rfl hin rfl (tyX11_ok 2 (by decide)) rfl rfl (Nat.le_of_ble_eq_true rfl) (dk okd_X11_init 16 rfl) (fun H locs hP hD hS => ?_)
  have hP : va_P G vwCl ([(h0, .inr (10, [.ref g1, .ref g2, .ref g3, .null, .null, .null, .null, .null, .null, .int 0, .int 0]))] ++ plw cy L K S) H := hP
  have hD : va_D A ([(h0, .inr (10, [.ref g1, .ref g2, .ref g3, .null, .null, .null, .null, .null, .null, .int 0, .int 0]))] ++ plw cy L K S) := hD
  refine lv_aload_n hx hb (dk okd_X11_init 17 rfl) rfl (lv_at hl 0 rfl) ?_
  refine lv_iconst (v := 2) hx hb (dk okd_X11_init 18 rfl) (by decide) ?_
  refine va_newq (own := RX11) (C := "FranchiseLedger$Business") (N' := 2) hx hb hown (hts _ cw_X11_30) hAO hK hP hD hS hA (by decide) (by decide) (Nat.le_of_ble_eq_true rfl) (Nat.le_of_ble_eq_true rfl) (Nat.le_of_ble_eq_true rfl) (dk okd_X11_init 19 rfl) (fun ar cA H hK2 hP hD hS => ?_)
  have ecA : cA = cy 4 := by
    obtain ⟨_, _, _, _, _, z1⟩ := (hK2.2 5 _ rfl).2
    obtain ⟨_, _, _, _, _, z2⟩ := (hK2.2 4 _ rfl).2
    exact Option.some.inj (z1.symm.trans z2)
  subst ecA
  have hP : va_P G vwCl ([(h0, .inr (10, [.ref g1, .ref g2, .ref g3, .null, .null, .null, .null, .null, .null, .int 0, .int 0])), (ar, .inl (cy 4, 2, .inr (.inr (.inr (.inr (fun _ => none))))))] ++ plw cy L K S) H := P_perm (perm_3 _ _ _) hP
  have hD : va_D A ([(h0, .inr (10, [.ref g1, .ref g2, .ref g3, .null, .null, .null, .null, .null, .null, .int 0, .int 0])), (ar, .inl (cy 4, 2, .inr (.inr (.inr (.inr (fun _ => none))))))] ++ plw cy L K S) := D_perm (perm_3 _ _ _) hD
  refine W.widen (k := 9) (n := 4472) (Nat.le_of_ble_eq_true rfl) (Nat.le_of_ble_eq_true rfl) ?_
  refine lv_dup hx hb (dk okd_X11_init 20 rfl) rfl ?_
  refine lv_iconst (v := 0) hx hb (dk okd_X11_init 21 rfl) (by decide) ?_
  refine w_sub hx hb hml hown hts hK hA hE ni_X11_30_32 c_X1_init hl.1 hP hD hS (dk okd_X11_init 22 rfl) (dk okd_X11_init 23 rfl) (dk okd_X11_init 24 rfl) (Nat.le_of_ble_eq_true rfl) (Nat.le_of_ble_eq_true rfl) (Nat.le_of_ble_eq_true rfl) (Nat.le_of_ble_eq_true rfl) (Nat.le_of_ble_eq_true rfl) (fun g4 H locs L2 K2 S2 hpi hdj hP hD hS => ?_)
  have bn := BN_app bn hdj hpi
  have hg4 : g4 ∈ L ++ L2 ∧ mK L2 K K2 g4 = 1 := ⟨List.mem_append_right _ hpi.1, by rw [mK_2 hpi.1]; exact hpi.2.1⟩
  clear hpi hdj
  generalize L ++ L2 = L at hP hD bn hg4
  generalize mK L2 _ K2 = K at hP hD bn hg4
  generalize mS L2 _ S2 = S at hP hD bn 
  refine W.widen (k := 48) (n := 11448) (Nat.le_of_ble_eq_true rfl) (Nat.le_of_ble_eq_true rfl) ?_
  obtain ⟨qk, hqk⟩ := va_pl_get (X := [(h0, .inr (10, [.ref g1, .ref g2, .ref g3, .null, .null, .null, .null, .null, .null, .int 0, .int 0])), (ar, .inl (cy 4, 2, .inr (.inr (.inr (.inr (fun _ => none))))))]) (f := ent cy K S) hg4.1
  rw [ent_obj (cy := cy) (S := S) hg4.2 (by decide)] at hqk
  refine va_astq (i := 0) hx hb hK hP hD hS 1 4 qk 1 (r := (RX1, TX1, 7)) rfl rfl hqk rfl (show vp_in 0 2 from vp_in_nI (show (0 : Nat) < 2 by decide) (by decide)) (dk okd_X11_init 25 rfl) (fun H locs hP hD hS => ?_)
  clear hqk
  clear hg4
  have hP : va_P G vwCl ([(h0, .inr (10, [.ref g1, .ref g2, .ref g3, .null, .null, .null, .null, .null, .null, .int 0, .int 0])), (ar, .inl (cy 4, 2, .inr (.inr (.inr (.inr (va_up (fun _ => none) ((0 : Int32)).toNatClampNeg (some g4)))))))] ++ plw cy L K S) H := hP
  have hD : va_D A ([(h0, .inr (10, [.ref g1, .ref g2, .ref g3, .null, .null, .null, .null, .null, .null, .int 0, .int 0])), (ar, .inl (cy 4, 2, .inr (.inr (.inr (.inr (va_up (fun _ => none) ((0 : Int32)).toNatClampNeg (some g4)))))))] ++ plw cy L K S) := hD
  refine lv_dup hx hb (dk okd_X11_init 26 rfl) rfl ?_
  refine lv_iconst (v := 1) hx hb (dk okd_X11_init 27 rfl) (by decide) ?_
  refine w_sub hx hb hml hown hts hK hA hE ni_X11_30_32 c_X1_init hl.1 hP hD hS (dk okd_X11_init 28 rfl) (dk okd_X11_init 29 rfl) (dk okd_X11_init 30 rfl) (Nat.le_of_ble_eq_true rfl) (Nat.le_of_ble_eq_true rfl) (Nat.le_of_ble_eq_true rfl) (Nat.le_of_ble_eq_true rfl) (Nat.le_of_ble_eq_true rfl) (fun g5 H locs L2 K2 S2 hpi hdj hP hD hS => ?_)
  have bn := BN_app bn hdj hpi
  have hg5 : g5 ∈ L ++ L2 ∧ mK L2 K K2 g5 = 1 := ⟨List.mem_append_right _ hpi.1, by rw [mK_2 hpi.1]; exact hpi.2.1⟩
  clear hpi hdj
  generalize L ++ L2 = L at hP hD bn hg5
  generalize mK L2 _ K2 = K at hP hD bn hg5
  generalize mS L2 _ S2 = S at hP hD bn 
  refine W.widen (k := 87) (n := 18424) (Nat.le_of_ble_eq_true rfl) (Nat.le_of_ble_eq_true rfl) ?_
  obtain ⟨qk, hqk⟩ := va_pl_get (X := [(h0, .inr (10, [.ref g1, .ref g2, .ref g3, .null, .null, .null, .null, .null, .null, .int 0, .int 0])), (ar, .inl (cy 4, 2, .inr (.inr (.inr (.inr (va_up (fun _ => none) ((0 : Int32)).toNatClampNeg (some g4)))))))]) (f := ent cy K S) hg5.1
  rw [ent_obj (cy := cy) (S := S) hg5.2 (by decide)] at hqk
  refine va_astq (i := 1) hx hb hK hP hD hS 1 4 qk 1 (r := (RX1, TX1, 7)) rfl rfl hqk rfl (show vp_in 1 2 from vp_in_nI (show (1 : Nat) < 2 by decide) (by decide)) (dk okd_X11_init 31 rfl) (fun H locs hP hD hS => ?_)
  clear hqk
  clear hg5
  have hP : va_P G vwCl ([(h0, .inr (10, [.ref g1, .ref g2, .ref g3, .null, .null, .null, .null, .null, .null, .int 0, .int 0])), (ar, .inl (cy 4, 2, .inr (.inr (.inr (.inr (va_up (va_up (fun _ => none) ((0 : Int32)).toNatClampNeg (some g4)) ((1 : Int32)).toNatClampNeg (some g5)))))))] ++ plw cy L K S) H := hP
  have hD : va_D A ([(h0, .inr (10, [.ref g1, .ref g2, .ref g3, .null, .null, .null, .null, .null, .null, .int 0, .int 0])), (ar, .inl (cy 4, 2, .inr (.inr (.inr (.inr (va_up (va_up (fun _ => none) ((0 : Int32)).toNatClampNeg (some g4)) ((1 : Int32)).toNatClampNeg (some g5)))))))] ++ plw cy L K S) := hD
  refine va_putF (D := G) (ci := 10) (v := .ref ar) (ty := tyX11 3) (C := RX11) (T := TX11) (N := 11) hx hb hts uw_X11 tyX11 tyX11_ok nmX11 hown hK hP hD hS 0 rfl rfl 3 (by decide) (hts _ fwn_X11_33) (fun _ h9 => h9) rfl hin rfl (tyX11_ok 3 (by decide)) rfl rfl (Nat.le_of_ble_eq_true rfl) (dk okd_X11_init 32 rfl) (fun H locs hP hD hS => ?_)
  have hP : va_P G vwCl ([(h0, .inr (10, [.ref g1, .ref g2, .ref g3, .ref ar, .null, .null, .null, .null, .null, .int 0, .int 0])), (ar, .inl (cy 4, 2, .inr (.inr (.inr (.inr (va_up (va_up (fun _ => none) ((0 : Int32)).toNatClampNeg (some g4)) ((1 : Int32)).toNatClampNeg (some g5)))))))] ++ plw cy L K S) H := hP
  have hD : va_D A ([(h0, .inr (10, [.ref g1, .ref g2, .ref g3, .ref ar, .null, .null, .null, .null, .null, .int 0, .int 0])), (ar, .inl (cy 4, 2, .inr (.inr (.inr (.inr (va_up (va_up (fun _ => none) ((0 : Int32)).toNatClampNeg (some g4)) ((1 : Int32)).toNatClampNeg (some g5)))))))] ++ plw cy L K S) := hD
  refine lv_aload_n hx hb (dk okd_X11_init 33 rfl) rfl (lv_at hl 0 rfl) ?_
  refine lv_iconst (v := 2) hx hb (dk okd_X11_init 34 rfl) (by decide) ?_
  refine va_newa (atype := .boolean) (ty := .boolean) (N' := 2) (a0 := (2, .inl (fun _ => 0))) hx hb (hts _ aw_boolean) rfl hK hP hD hS hA (fun cA => rfl) (by decide) (by decide) (Nat.le_of_ble_eq_true rfl) (Nat.le_of_ble_eq_true rfl) (Nat.le_of_ble_eq_true rfl) (dk okd_X11_init 35 rfl) (fun g6 cA H hK2 hP hD hS => ?_)
  have ecA : cA = cy 3 := cy_eq hK2 (i := 5) (j := 3) rfl rfl (fun C h => by cases h)
  subst ecA
  rw [show ([(g6, .inl (cy 3, 2, .inl (fun _ => 0)))] : va_W) = plw cy [g6] (fun _ => 15) ((fun _ _ => 0, fun _ _ => 0, fun _ _ => 0, fun _ => 2) : St) from (ar_pool (cy := cy) (q := g6) (kd := 15) (n := 2) (by decide)).symm, List.append_assoc] at hP hD
  have hdj := pl_disj (D_right hD)
  rw [← plw_app hdj] at hP hD
  obtain ⟨bn, hng6⟩ := BN_arr (n := 2) bn (show 12 ≤ 15 ∧ 15 ≤ 15 by decide) hdj
  have nbg6 : NB (L ++ [g6]) (mS [g6] S ((fun _ _ => 0, fun _ _ => 0, fun _ _ => 0, fun _ => 2) : St)) g6 2 := ⟨List.mem_append_right _ (List.mem_singleton.mpr rfl), hng6⟩
  clear hdj hng6
  generalize L ++ [g6] = L at hP hD bn nbg6
  generalize mK [g6] _ (fun _ => 15) = K at hP hD bn
  generalize mS [g6] _ _ = S at hP hD bn nbg6
  refine W.widen (k := 88) (n := 18426) (Nat.le_of_ble_eq_true rfl) (Nat.le_of_ble_eq_true rfl) ?_
  refine va_putF (D := G) (ci := 10) (v := .ref g6) (ty := tyX11 4) (C := RX11) (T := TX11) (N := 11) hx hb hts uw_X11 tyX11 tyX11_ok nmX11 hown hK hP hD hS 0 rfl rfl 4 (by decide) (hts _ fwn_X11_37) (fun _ h9 => h9) rfl hin rfl (tyX11_ok 4 (by decide)) rfl rfl (Nat.le_of_ble_eq_true rfl) (dk okd_X11_init 36 rfl) (fun H locs hP hD hS => ?_)
  have hP : va_P G vwCl ([(h0, .inr (10, [.ref g1, .ref g2, .ref g3, .ref ar, .ref g6, .null, .null, .null, .null, .int 0, .int 0])), (ar, .inl (cy 4, 2, .inr (.inr (.inr (.inr (va_up (va_up (fun _ => none) ((0 : Int32)).toNatClampNeg (some g4)) ((1 : Int32)).toNatClampNeg (some g5)))))))] ++ plw cy L K S) H := hP
  have hD : va_D A ([(h0, .inr (10, [.ref g1, .ref g2, .ref g3, .ref ar, .ref g6, .null, .null, .null, .null, .int 0, .int 0])), (ar, .inl (cy 4, 2, .inr (.inr (.inr (.inr (va_up (va_up (fun _ => none) ((0 : Int32)).toNatClampNeg (some g4)) ((1 : Int32)).toNatClampNeg (some g5)))))))] ++ plw cy L K S) := hD
  refine lv_aload_n hx hb (dk okd_X11_init 37 rfl) rfl (lv_at hl 0 rfl) ?_
  refine w_sub hx hb hml hown hts hK hA hE ni_X11_30_32 c_X1_init hl.1 hP hD hS (dk okd_X11_init 38 rfl) (dk okd_X11_init 39 rfl) (dk okd_X11_init 40 rfl) (Nat.le_of_ble_eq_true rfl) (Nat.le_of_ble_eq_true rfl) (Nat.le_of_ble_eq_true rfl) (Nat.le_of_ble_eq_true rfl) (Nat.le_of_ble_eq_true rfl) (fun g7 H locs L2 K2 S2 hpi hdj hP hD hS => ?_)
  have bn := BN_app bn hdj hpi
  have nbg6 := NB_app (S2 := S2) nbg6 hdj
  have hg7 : g7 ∈ L ++ L2 ∧ mK L2 K K2 g7 = 1 := ⟨List.mem_append_right _ hpi.1, by rw [mK_2 hpi.1]; exact hpi.2.1⟩
  clear hpi hdj
  generalize L ++ L2 = L at hP hD bn nbg6 hg7
  generalize mK L2 _ K2 = K at hP hD bn hg7
  generalize mS L2 _ S2 = S at hP hD bn nbg6
  refine W.widen (k := 127) (n := 25402) (Nat.le_of_ble_eq_true rfl) (Nat.le_of_ble_eq_true rfl) ?_
  refine va_put (D := G) (ci := 10) (v := .ref g7) (ty := tyX11 5) (C := RX11) (T := TX11) (N := 11) hx hb hts uw_X11 tyX11 tyX11_ok nmX11 hown hK hP hD hS 0 rfl rfl 5 (by decide) (hts _ fwn_X11_41) (fun _ h9 => h9) rfl (tyX11_ok 5 (by decide)) rfl rfl (Nat.le_of_ble_eq_true rfl) (dk okd_X11_init 41 rfl) (fun H locs hP hD hS => ?_)
  have hP : va_P G vwCl ([(h0, .inr (10, [.ref g1, .ref g2, .ref g3, .ref ar, .ref g6, .ref g7, .null, .null, .null, .int 0, .int 0])), (ar, .inl (cy 4, 2, .inr (.inr (.inr (.inr (va_up (va_up (fun _ => none) ((0 : Int32)).toNatClampNeg (some g4)) ((1 : Int32)).toNatClampNeg (some g5)))))))] ++ plw cy L K S) H := hP
  have hD : va_D A ([(h0, .inr (10, [.ref g1, .ref g2, .ref g3, .ref ar, .ref g6, .ref g7, .null, .null, .null, .int 0, .int 0])), (ar, .inl (cy 4, 2, .inr (.inr (.inr (.inr (va_up (va_up (fun _ => none) ((0 : Int32)).toNatClampNeg (some g4)) ((1 : Int32)).toNatClampNeg (some g5)))))))] ++ plw cy L K S) := hD
  refine lv_aload_n hx hb (dk okd_X11_init 42 rfl) rfl (lv_at hl 0 rfl) ?_
  refine va_get (D := G) (ci := 10) (C := RX11) (T := TX11) (N := 11) hx hb hts uw_X11 hown hK hP 0 rfl rfl 5 (by decide) (hts _ fwn_X11_41) (fun _ h9 => h9) (v := .ref g7) rfl (dk okd_X11_init 43 rfl) ?_
  obtain ⟨hcl, hoo, hg1⟩ := clr_SH bn.1.1 hg7.1 hg7.2 bn.2.2
  obtain ⟨oo, hoe⟩ : ∃ oo, oo = gR S (gR S g7 1) 0 := ⟨_, rfl⟩
  rw [← hoe] at hcl hoo
  have og : OG L S g7 oo := ⟨hg7.1, hg1, hoo, hoe.symm⟩
  have hct := c_X1_clear S g7
  rw [hcl] at hct
  refine w_call (ci := 1) (b := g7) (As := []) (rest := []) hx hb hml hown hts hK hA hE mv_X11_45 hct rfl (fun q hq => by rw [List.mem_singleton.mp hq]; exact hg7) rfl (by decide) hg7 bn.1.1.1 rfl hl.1 rfl (Nat.le_of_ble_eq_true rfl) (Nat.le_of_ble_eq_true rfl) (Nat.le_of_ble_eq_true rfl) (Nat.le_of_ble_eq_true rfl) (Nat.le_of_ble_eq_true rfl) (dk okd_X11_init 44 rfl) hP hD hS (fun H locs hP hD hS => ?_)
  clear hcl hct hoo hg1 hoe
  clear hg7
  have hP : va_P G vwCl ([(h0, .inr (10, [.ref g1, .ref g2, .ref g3, .ref ar, .ref g6, .ref g7, .null, .null, .null, .int 0, .int 0])), (ar, .inl (cy 4, 2, .inr (.inr (.inr (.inr (va_up (va_up (fun _ => none) ((0 : Int32)).toNatClampNeg (some g4)) ((1 : Int32)).toNatClampNeg (some g5)))))))] ++ plw cy L K (flI S oo (-1) 900)) H := hP
  have hD : va_D A ([(h0, .inr (10, [.ref g1, .ref g2, .ref g3, .ref ar, .ref g6, .ref g7, .null, .null, .null, .int 0, .int 0])), (ar, .inl (cy 4, 2, .inr (.inr (.inr (.inr (va_up (va_up (fun _ => none) ((0 : Int32)).toNatClampNeg (some g4)) ((1 : Int32)).toNatClampNeg (some g5)))))))] ++ plw cy L K (flI S oo (-1) 900)) := hD
  refine lv_aload_n hx hb (dk okd_X11_init 45 rfl) rfl (lv_at hl 0 rfl) ?_
  refine w_sub hx hb hml hown hts hK hA hE ni_X11_30_32 c_X1_init hl.1 hP hD hS (dk okd_X11_init 46 rfl) (dk okd_X11_init 47 rfl) (dk okd_X11_init 48 rfl) (Nat.le_of_ble_eq_true rfl) (Nat.le_of_ble_eq_true rfl) (Nat.le_of_ble_eq_true rfl) (Nat.le_of_ble_eq_true rfl) (Nat.le_of_ble_eq_true rfl) (fun g8 H locs L2 K2 S2 hpi hdj hP hD hS => ?_)
  rw [mS_flI (hdj oo og.2.2.1)] at hP hD
  have bn := BN_app bn hdj hpi
  have nbg6 := NB_app (S2 := S2) nbg6 hdj
  have og := OG_app (S2 := S2) og hdj
  clear hpi hdj
  generalize L ++ L2 = L at hP hD bn nbg6 og
  generalize mK L2 _ K2 = K at hP hD bn 
  generalize mS L2 _ S2 = S at hP hD bn nbg6 og
  refine W.widen (k := 166) (n := 32378) (Nat.le_of_ble_eq_true rfl) (Nat.le_of_ble_eq_true rfl) ?_
  refine va_put (D := G) (ci := 10) (v := .ref g8) (ty := tyX11 6) (C := RX11) (T := TX11) (N := 11) hx hb hts uw_X11 tyX11 tyX11_ok nmX11 hown hK hP hD hS 0 rfl rfl 6 (by decide) (hts _ fwn_X11_48) (fun _ h9 => h9) rfl (tyX11_ok 6 (by decide)) rfl rfl (Nat.le_of_ble_eq_true rfl) (dk okd_X11_init 49 rfl) (fun H locs hP hD hS => ?_)
  have hP : va_P G vwCl ([(h0, .inr (10, [.ref g1, .ref g2, .ref g3, .ref ar, .ref g6, .ref g7, .ref g8, .null, .null, .int 0, .int 0])), (ar, .inl (cy 4, 2, .inr (.inr (.inr (.inr (va_up (va_up (fun _ => none) ((0 : Int32)).toNatClampNeg (some g4)) ((1 : Int32)).toNatClampNeg (some g5)))))))] ++ plw cy L K (flI S oo (-1) 900)) H := hP
  have hD : va_D A ([(h0, .inr (10, [.ref g1, .ref g2, .ref g3, .ref ar, .ref g6, .ref g7, .ref g8, .null, .null, .int 0, .int 0])), (ar, .inl (cy 4, 2, .inr (.inr (.inr (.inr (va_up (va_up (fun _ => none) ((0 : Int32)).toNatClampNeg (some g4)) ((1 : Int32)).toNatClampNeg (some g5)))))))] ++ plw cy L K (flI S oo (-1) 900)) := hD
  refine lv_aload_n hx hb (dk okd_X11_init 50 rfl) rfl (lv_at hl 0 rfl) ?_
  refine w_sub hx hb hml hown hts hK hA hE ni_X11_51_53 c_X5_init hl.1 hP hD hS (dk okd_X11_init 51 rfl) (dk okd_X11_init 52 rfl) (dk okd_X11_init 53 rfl) (Nat.le_of_ble_eq_true rfl) (Nat.le_of_ble_eq_true rfl) (Nat.le_of_ble_eq_true rfl) (Nat.le_of_ble_eq_true rfl) (Nat.le_of_ble_eq_true rfl) (fun g9 H locs L2 K2 S2 hpi hdj hP hD hS => ?_)
  rw [mS_flI (hdj oo og.2.2.1)] at hP hD
  have bn := BN_app bn hdj hpi
  have nbg6 := NB_app (S2 := S2) nbg6 hdj
  have og := OG_app (S2 := S2) og hdj
  clear hpi hdj
  generalize L ++ L2 = L at hP hD bn nbg6 og
  generalize mK L2 _ K2 = K at hP hD bn 
  generalize mS L2 _ S2 = S at hP hD bn nbg6 og
  refine W.widen (k := 174) (n := 32667) (Nat.le_of_ble_eq_true rfl) (Nat.le_of_ble_eq_true rfl) ?_
  refine va_put (D := G) (ci := 10) (v := .ref g9) (ty := tyX11 7) (C := RX11) (T := TX11) (N := 11) hx hb hts uw_X11 tyX11 tyX11_ok nmX11 hown hK hP hD hS 0 rfl rfl 7 (by decide) (hts _ fwn_X11_54) (fun _ h9 => h9) rfl (tyX11_ok 7 (by decide)) rfl rfl (Nat.le_of_ble_eq_true rfl) (dk okd_X11_init 54 rfl) (fun H locs hP hD hS => ?_)
  have hP : va_P G vwCl ([(h0, .inr (10, [.ref g1, .ref g2, .ref g3, .ref ar, .ref g6, .ref g7, .ref g8, .ref g9, .null, .int 0, .int 0])), (ar, .inl (cy 4, 2, .inr (.inr (.inr (.inr (va_up (va_up (fun _ => none) ((0 : Int32)).toNatClampNeg (some g4)) ((1 : Int32)).toNatClampNeg (some g5)))))))] ++ plw cy L K (flI S oo (-1) 900)) H := hP
  have hD : va_D A ([(h0, .inr (10, [.ref g1, .ref g2, .ref g3, .ref ar, .ref g6, .ref g7, .ref g8, .ref g9, .null, .int 0, .int 0])), (ar, .inl (cy 4, 2, .inr (.inr (.inr (.inr (va_up (va_up (fun _ => none) ((0 : Int32)).toNatClampNeg (some g4)) ((1 : Int32)).toNatClampNeg (some g5)))))))] ++ plw cy L K (flI S oo (-1) 900)) := hD
  refine lv_aload_n hx hb (dk okd_X11_init 55 rfl) rfl (lv_at hl 0 rfl) ?_
  refine w_sub hx hb hml hown hts hK hA hE ni_X11_51_53 c_X5_init hl.1 hP hD hS (dk okd_X11_init 56 rfl) (dk okd_X11_init 57 rfl) (dk okd_X11_init 58 rfl) (Nat.le_of_ble_eq_true rfl) (Nat.le_of_ble_eq_true rfl) (Nat.le_of_ble_eq_true rfl) (Nat.le_of_ble_eq_true rfl) (Nat.le_of_ble_eq_true rfl) (fun g10 H locs L2 K2 S2 hpi hdj hP hD hS => ?_)
  rw [mS_flI (hdj oo og.2.2.1)] at hP hD
  have bn := BN_app bn hdj hpi
  have nbg6 := NB_app (S2 := S2) nbg6 hdj
  have og := OG_app (S2 := S2) og hdj
  clear hpi hdj
  generalize L ++ L2 = L at hP hD bn nbg6 og
  generalize mK L2 _ K2 = K at hP hD bn 
  generalize mS L2 _ S2 = S at hP hD bn nbg6 og
  refine W.widen (k := 182) (n := 32956) (Nat.le_of_ble_eq_true rfl) (Nat.le_of_ble_eq_true rfl) ?_
  refine va_put (D := G) (ci := 10) (v := .ref g10) (ty := tyX11 8) (C := RX11) (T := TX11) (N := 11) hx hb hts uw_X11 tyX11 tyX11_ok nmX11 hown hK hP hD hS 0 rfl rfl 8 (by decide) (hts _ fwn_X11_58) (fun _ h9 => h9) rfl (tyX11_ok 8 (by decide)) rfl rfl (Nat.le_of_ble_eq_true rfl) (dk okd_X11_init 59 rfl) (fun H locs hP hD hS => ?_)
  have hP : va_P G vwCl ([(h0, .inr (10, [.ref g1, .ref g2, .ref g3, .ref ar, .ref g6, .ref g7, .ref g8, .ref g9, .ref g10, .int 0, .int 0])), (ar, .inl (cy 4, 2, .inr (.inr (.inr (.inr (va_up (va_up (fun _ => none) ((0 : Int32)).toNatClampNeg (some g4)) ((1 : Int32)).toNatClampNeg (some g5)))))))] ++ plw cy L K (flI S oo (-1) 900)) H := hP
  have hD : va_D A ([(h0, .inr (10, [.ref g1, .ref g2, .ref g3, .ref ar, .ref g6, .ref g7, .ref g8, .ref g9, .ref g10, .int 0, .int 0])), (ar, .inl (cy 4, 2, .inr (.inr (.inr (.inr (va_up (va_up (fun _ => none) ((0 : Int32)).toNatClampNeg (some g4)) ((1 : Int32)).toNatClampNeg (some g5)))))))] ++ plw cy L K (flI S oo (-1) 900)) := hD
  refine lv_aload_n hx hb (dk okd_X11_init 60 rfl) rfl (lv_at hl 0 rfl) ?_
  refine lv_iconst (v := 0) hx hb (dk okd_X11_init 61 rfl) (by decide) ?_
  refine va_put (D := G) (ci := 10) (v := .int 0) (ty := tyX11 9) (C := RX11) (T := TX11) (N := 11) hx hb hts uw_X11 tyX11 tyX11_ok nmX11 hown hK hP hD hS 0 rfl rfl 9 (by decide) (hts _ fwn_X11_61) (fun _ h9 => h9) rfl (tyX11_ok 9 (by decide)) rfl rfl (Nat.le_of_ble_eq_true rfl) (dk okd_X11_init 62 rfl) (fun H locs hP hD hS => ?_)
  have hP : va_P G vwCl ([(h0, .inr (10, [.ref g1, .ref g2, .ref g3, .ref ar, .ref g6, .ref g7, .ref g8, .ref g9, .ref g10, .int 0, .int 0])), (ar, .inl (cy 4, 2, .inr (.inr (.inr (.inr (va_up (va_up (fun _ => none) ((0 : Int32)).toNatClampNeg (some g4)) ((1 : Int32)).toNatClampNeg (some g5)))))))] ++ plw cy L K (flI S oo (-1) 900)) H := hP
  have hD : va_D A ([(h0, .inr (10, [.ref g1, .ref g2, .ref g3, .ref ar, .ref g6, .ref g7, .ref g8, .ref g9, .ref g10, .int 0, .int 0])), (ar, .inl (cy 4, 2, .inr (.inr (.inr (.inr (va_up (va_up (fun _ => none) ((0 : Int32)).toNatClampNeg (some g4)) ((1 : Int32)).toNatClampNeg (some g5)))))))] ++ plw cy L K (flI S oo (-1) 900)) := hD
  refine lv_aload_n hx hb (dk okd_X11_init 63 rfl) rfl (lv_at hl 0 rfl) ?_
  refine lv_iconst (v := (-1)) hx hb (dk okd_X11_init 64 rfl) (by decide) ?_
  refine va_put (D := G) (ci := 10) (v := .int (-1)) (ty := tyX11 10) (C := RX11) (T := TX11) (N := 11) hx hb hts uw_X11 tyX11 tyX11_ok nmX11 hown hK hP hD hS 0 rfl rfl 10 (by decide) (hts _ fwn_X11_65) (fun _ h9 => h9) rfl (tyX11_ok 10 (by decide)) rfl rfl (Nat.le_of_ble_eq_true rfl) (dk okd_X11_init 65 rfl) (fun H locs hP hD hS => ?_)
  have hP : va_P G vwCl ([(h0, .inr (10, [.ref g1, .ref g2, .ref g3, .ref ar, .ref g6, .ref g7, .ref g8, .ref g9, .ref g10, .int 0, .int (-1)])), (ar, .inl (cy 4, 2, .inr (.inr (.inr (.inr (va_up (va_up (fun _ => none) ((0 : Int32)).toNatClampNeg (some g4)) ((1 : Int32)).toNatClampNeg (some g5)))))))] ++ plw cy L K (flI S oo (-1) 900)) H := hP
  have hD : va_D A ([(h0, .inr (10, [.ref g1, .ref g2, .ref g3, .ref ar, .ref g6, .ref g7, .ref g8, .ref g9, .ref g10, .int 0, .int (-1)])), (ar, .inl (cy 4, 2, .inr (.inr (.inr (.inr (va_up (va_up (fun _ => none) ((0 : Int32)).toNatClampNeg (some g4)) ((1 : Int32)).toNatClampNeg (some g5)))))))] ++ plw cy L K (flI S oo (-1) 900)) := hD
  have hP : va_P G vwCl ([(h0, .inr (10, [.ref g1, .ref g2, .ref g3, .ref ar, .ref g6, .ref g7, .ref g8, .ref g9, .ref g10, .int 0, .int (-1)]))] ++ ([(ar, .inl (cy 4, 2, .inr (.inr (.inr (.inr (fun i => some ((([g4, g5] : List Nat)[i]?).getD 0)))))))] ++ plw cy L K (flI S oo (-1) 900))) H := P_refs (fun j hj => by rcases (show j = 0 ∨ j = 1 by omega) with rfl | rfl <;> simp [va_up, n0c, n1c]) hP
  have hD : va_D A ([(h0, .inr (10, [.ref g1, .ref g2, .ref g3, .ref ar, .ref g6, .ref g7, .ref g8, .ref g9, .ref g10, .int 0, .int (-1)]))] ++ ([(ar, .inl (cy 4, 2, .inr (.inr (.inr (.inr (fun i => some ((([g4, g5] : List Nat)[i]?).getD 0)))))))] ++ plw cy L K (flI S oo (-1) 900))) := D_refs hD
  rw [show ([(ar, .inl (cy 4, 2, .inr (.inr (.inr (.inr (fun i => some ((([g4, g5] : List Nat)[i]?).getD 0)))))))] : va_W) = plw cy [ar] (fun _ => 16) ((fun _ _ => 0, fun _ _ => 0, fun _ k => (([g4, g5] : List Nat)[k]?).getD 0, fun _ => 2) : St) from by simp [plw, va_pl, ent, gN]] at hP hD
  rw [show ([(h0, .inr (10, [.ref g1, .ref g2, .ref g3, .ref ar, .ref g6, .ref g7, .ref g8, .ref g9, .ref g10, .int 0, .int (-1)]))] : va_W) = plw cy [h0] (fun _ => 10) ((fun _ k => if k = 10 then -1 else 0, fun _ _ => 0, fun _ k => (([g1, g2, g3, ar, g6, g7, g8, g9, g10] : List Nat)[k]?).getD 0, fun _ => 0) : St) from by rw [ob_pool (by decide)]; simp [fvs, fv, lay, gI, gJ, gR]] at hP hD
  have hdj1 := pl_disj (D_right hD)
  rw [← plw_app hdj1] at hP hD
  have hdj2 := pl_disj hD
  rw [← plw_app hdj2] at hP hD
  have har : ar ∉ L := hdj1 ar (List.mem_singleton.mpr rfl)
  have hh0 : h0 ∉ [ar] ++ L := hdj2 h0 (List.mem_singleton.mpr rfl)
  have hks := bn.2.1
  simp only [List.map_append, List.map_cons, List.map_nil, List.nil_append, List.cons_append, List.cons.injEq, and_true] at hks
  obtain ⟨k1, k2, k3, k4, k5, k6, k7, k8, k9, k10⟩ := hks
  have inL : ∀ r ∈ ([g1, g2, g3, g4, g5, g6, g7, g8, g9, g10] : List Nat), r ∈ L := fun r hr => (bn.1.2.2 r hr).1
  have fo0 : FO L K S ([g4, g5] ++ [g1, g2, g3, g6, g7, g8, g9, g10]) := FO_perm (rs := [g1, g2, g3, g4, g5, g6, g7, g8, g9, g10]) perm_45 bn.1
  have n45 : g4 ≠ g5 := fun z => by have := fo0.2.1; rw [z] at this; simp at this
  have fo1 := FO_one (S0 := ((fun _ _ => 0, fun _ _ => 0, fun _ k => (([g4, g5] : List Nat)[k]?).getD 0, fun _ => 2) : St)) (a0 := ar) (kd := 16) (rs1 := [g4, g5]) (rs2 := [g1, g2, g3, g6, g7, g8, g9, g10]) fo0 har (fun i hi => ?_) (fun i j hi hj e => ?_)
  rotate_left
  · rcases hi with hi | ⟨-, hi⟩
    · simp [lay] at hi
    · rcases (show i = 0 ∨ i = 1 by simp [gN] at hi; omega) with rfl | rfl
      · exact ⟨List.mem_cons_self, k4, fun h => absurd h (by decide)⟩
      · exact ⟨List.mem_cons_of_mem _ List.mem_cons_self, k5, fun h => absurd h (by decide)⟩
  · rcases hi with hi | ⟨-, hi⟩
    · simp [lay] at hi
    · rcases hj with hj | ⟨-, hj⟩
      · simp [lay] at hj
      · simp [gN] at hi hj
        rcases (show i = 0 ∨ i = 1 by omega) with rfl | rfl <;> rcases (show j = 0 ∨ j = 1 by omega) with rfl | rfl
        · rfl
        · exact absurd e n45
        · exact absurd e.symm n45
        · rfl
  have fo2 : FO ([ar] ++ L) (mK L (fun _ => 16) K) (mS L ((fun _ _ => 0, fun _ _ => 0, fun _ k => (([g4, g5] : List Nat)[k]?).getD 0, fun _ => 2) : St) S) [g1, g2, g3, ar, g6, g7, g8, g9, g10] := FO_perm (rs := [ar] ++ [g1, g2, g3, g6, g7, g8, g9, g10]) perm_ar fo1
  have kar : mK L (fun _ => 16) K ar = 16 := mK_1 (L1 := [ar]) (fun a ha => by rw [List.mem_singleton.mp ha]; exact har) (List.mem_singleton.mpr rfl)
  have kg : ∀ r ∈ ([g1, g2, g3, g4, g5, g6, g7, g8, g9, g10] : List Nat), mK L (fun _ => 16) K r = K r := fun r hr => mK_2 (inL r hr)
  have bn2 : BN ([ar] ++ L) (mK L (fun _ => 16) K) (mS L ((fun _ _ => 0, fun _ _ => 0, fun _ k => (([g4, g5] : List Nat)[k]?).getD 0, fun _ => 2) : St) S) [g1, g2, g3, ar, g6, g7, g8, g9, g10] [8, 4, 3, 16, 15, 1, 1, 5, 5] := ⟨fo2, by simp only [List.map_cons, List.map_nil, kar, kg g1 (by simp), kg g2 (by simp), kg g3 (by simp), kg g6 (by simp), kg g7 (by simp), kg g8 (by simp), kg g9 (by simp), kg g10 (by simp), k1, k2, k3, k6, k7, k8, k9, k10], mS_zero (fun _ _ => ⟨rfl, rfl⟩) bn.2.2⟩
  have hlt9 : ∀ i, (lay 10)[i]? = some 2 → i < 9 := fun i h => by
    have h11 : i < 11 := (List.getElem?_eq_some_iff.mp h).1
    rcases (show i < 9 ∨ i = 9 ∨ i = 10 by omega) with q | rfl | rfl
    · exact q
    · simp [lay] at h
    · simp [lay] at h
  have nar : gN (mS L ((fun _ _ => 0, fun _ _ => 0, fun _ k => (([g4, g5] : List Nat)[k]?).getD 0, fun _ => 2) : St) S) ar = 2 := (mS_1 (L1 := [ar]) (S1 := ((fun _ _ => 0, fun _ _ => 0, fun _ k => (([g4, g5] : List Nat)[k]?).getD 0, fun _ => 2) : St)) (S2 := S) (fun a ha => by rw [List.mem_singleton.mp ha]; exact har) (List.mem_singleton.mpr rfl)).2.2.2
  have ng6 : gN (mS L ((fun _ _ => 0, fun _ _ => 0, fun _ k => (([g4, g5] : List Nat)[k]?).getD 0, fun _ => 2) : St) S) g6 = 2 := ((mS_2 (S1 := ((fun _ _ => 0, fun _ _ => 0, fun _ k => (([g4, g5] : List Nat)[k]?).getD 0, fun _ => 2) : St)) (S2 := S) nbg6.1).2.2.2).trans nbg6.2
  have hpi := BN_top (ci := 10) (h0 := h0) (by decide) bn2 hh0 (fun i h => hlt9 i h) (fun i k h h2 => match i, hlt9 i h, h2 with | 0, _, h => by simp at h; subst h; rfl | 1, _, h => by simp at h; subst h; rfl | 2, _, h => by simp at h; subst h; rfl | 3, _, h => by simp at h; subst h; rfl | 4, _, h => by simp at h; subst h; rfl | 5, _, h => by simp at h; subst h; rfl | 6, _, h => by simp at h; subst h; rfl | 7, _, h => by simp at h; subst h; rfl | 8, _, h => by simp at h; subst h; rfl) (fun i r h h12 h2 => match i, hlt9 i h, h12, h2 with | 0, _, h12, _ => absurd h12 (by decide) | 1, _, h12, _ => absurd h12 (by decide) | 2, _, h12, _ => absurd h12 (by decide) | 3, _, _, h => by simp at h; subst h; exact nar | 4, _, _, h => by simp at h; subst h; exact ng6 | 5, _, h12, _ => absurd h12 (by decide) | 6, _, h12, _ => absurd h12 (by decide) | 7, _, h12, _ => absurd h12 (by decide) | 8, _, h12, _ => absurd h12 (by decide))
  have og2 := OG_top (S0 := ((fun _ _ => 0, fun _ _ => 0, fun _ k => (([g1, g2, g3, ar, g6, g7, g8, g9, g10] : List Nat)[k]?).getD 0, fun _ => 0) : St)) (a0 := h0) (OG_top (S0 := ((fun _ _ => 0, fun _ _ => 0, fun _ k => (([g4, g5] : List Nat)[k]?).getD 0, fun _ => 2) : St)) (a0 := ar) og)
  have xq : XQ ([h0] ++ ([ar] ++ L)) (mS ([ar] ++ L) ((fun _ k => if k = 10 then -1 else 0, fun _ _ => 0, fun _ k => (([g1, g2, g3, ar, g6, g7, g8, g9, g10] : List Nat)[k]?).getD 0, fun _ => 0) : St) (mS L ((fun _ _ => 0, fun _ _ => 0, fun _ k => (([g4, g5] : List Nat)[k]?).getD 0, fun _ => 2) : St) (flI S oo (-1) 900))) (mS ([ar] ++ L) ((fun _ _ => 0, fun _ _ => 0, fun _ k => (([g1, g2, g3, ar, g6, g7, g8, g9, g10] : List Nat)[k]?).getD 0, fun _ => 0) : St) (mS L ((fun _ _ => 0, fun _ _ => 0, fun _ k => (([g4, g5] : List Nat)[k]?).getD 0, fun _ => 2) : St) S)) h0 oo := by
    have ooL : oo ∈ L := og.2.2.1
    intro a i ha
    rcases List.mem_append.mp ha with ha | ha
    · rw [List.mem_singleton.mp ha]
      have e0 : h0 ≠ oo := fun z => hh0 (by rw [z]; exact List.mem_append_right _ ooL)
      have hd9 : ∀ a ∈ [h0], a ∉ [ar] ++ L := fun a ha => by rw [List.mem_singleton.mp ha]; exact hh0
      have m1 := mS_1 (S1 := ((fun _ k => if k = 10 then -1 else 0, fun _ _ => 0, fun _ k => (([g1, g2, g3, ar, g6, g7, g8, g9, g10] : List Nat)[k]?).getD 0, fun _ => 0) : St)) (S2 := mS L ((fun _ _ => 0, fun _ _ => 0, fun _ k => (([g4, g5] : List Nat)[k]?).getD 0, fun _ => 2) : St) (flI S oo (-1) 900)) hd9 (List.mem_singleton.mpr rfl)
      have m2 := mS_1 (S1 := ((fun _ _ => 0, fun _ _ => 0, fun _ k => (([g1, g2, g3, ar, g6, g7, g8, g9, g10] : List Nat)[k]?).getD 0, fun _ => 0) : St)) (S2 := mS L ((fun _ _ => 0, fun _ _ => 0, fun _ k => (([g4, g5] : List Nat)[k]?).getD 0, fun _ => 2) : St) S) hd9 (List.mem_singleton.mpr rfl)
      refine ⟨?_, m1.2.1 i, (m1.2.2.1 i).trans (m2.2.2.1 i).symm, m1.2.2.2.trans m2.2.2.2.symm⟩
      rw [m1.1 i, if_neg (fun z => e0 z.1)]
      show (if i = 10 then (-1 : Int32) else 0) = _
      by_cases h : i = 10
      · rw [if_pos h, if_pos ⟨rfl, h⟩]
      · rw [if_neg h, if_neg (fun z => h z.2)]
    · have nh : a ≠ h0 := fun z => hh0 (z ▸ ha)
      have m1 := mS_2 (S1 := ((fun _ k => if k = 10 then -1 else 0, fun _ _ => 0, fun _ k => (([g1, g2, g3, ar, g6, g7, g8, g9, g10] : List Nat)[k]?).getD 0, fun _ => 0) : St)) (S2 := mS L ((fun _ _ => 0, fun _ _ => 0, fun _ k => (([g4, g5] : List Nat)[k]?).getD 0, fun _ => 2) : St) (flI S oo (-1) 900)) ha
      have m2 := mS_2 (S1 := ((fun _ _ => 0, fun _ _ => 0, fun _ k => (([g1, g2, g3, ar, g6, g7, g8, g9, g10] : List Nat)[k]?).getD 0, fun _ => 0) : St)) (S2 := mS L ((fun _ _ => 0, fun _ _ => 0, fun _ k => (([g4, g5] : List Nat)[k]?).getD 0, fun _ => 2) : St) S) ha
      rw [m1.1 i, m1.2.1 i, m1.2.2.1 i, m1.2.2.2, m2.2.2.1 i, m2.2.2.2, if_neg (c := a = h0 ∧ i = 10) (fun z => nh z.1)]
      rcases List.mem_append.mp ha with ha1 | ha1
      · have ea : a = ar := List.mem_singleton.mp ha1
        have hd8 : ∀ a ∈ [ar], a ∉ L := fun a ha => by rw [List.mem_singleton.mp ha]; exact har
        have e1 : a ≠ oo := fun z => har (by rw [← ea, z]; exact ooL)
        have m3 := mS_1 (S1 := ((fun _ _ => 0, fun _ _ => 0, fun _ k => (([g4, g5] : List Nat)[k]?).getD 0, fun _ => 2) : St)) (S2 := (flI S oo (-1) 900)) hd8 ha1
        have m4 := mS_1 (S1 := ((fun _ _ => 0, fun _ _ => 0, fun _ k => (([g4, g5] : List Nat)[k]?).getD 0, fun _ => 2) : St)) (S2 := S) hd8 ha1
        rw [m3.1 i, m3.2.1 i, m3.2.2.1 i, m3.2.2.2, m4.2.2.1 i, m4.2.2.2, if_neg (fun z => e1 z.1)]
        exact ⟨rfl, rfl, rfl, rfl⟩
      · have m3 := mS_2 (S1 := ((fun _ _ => 0, fun _ _ => 0, fun _ k => (([g4, g5] : List Nat)[k]?).getD 0, fun _ => 2) : St)) (S2 := (flI S oo (-1) 900)) ha1
        have m4 := mS_2 (S1 := ((fun _ _ => 0, fun _ _ => 0, fun _ k => (([g4, g5] : List Nat)[k]?).getD 0, fun _ => 2) : St)) (S2 := S) ha1
        rw [m3.1 i, m3.2.1 i, m3.2.2.1 i, m3.2.2.2, m4.2.2.1 i, m4.2.2.2, gI_flI, gJ_flI, (bn.2.2 a i).1, (bn.2.2 a i).2]
        exact ⟨rfl, rfl, rfl, rfl⟩
  have h05 : gR (mS ([ar] ++ L) ((fun _ _ => 0, fun _ _ => 0, fun _ k => (([g1, g2, g3, ar, g6, g7, g8, g9, g10] : List Nat)[k]?).getD 0, fun _ => 0) : St) (mS L ((fun _ _ => 0, fun _ _ => 0, fun _ k => (([g4, g5] : List Nat)[k]?).getD 0, fun _ => 2) : St) S)) h0 5 = g7 := (mS_1 (L1 := [h0]) (S1 := ((fun _ _ => 0, fun _ _ => 0, fun _ k => (([g1, g2, g3, ar, g6, g7, g8, g9, g10] : List Nat)[k]?).getD 0, fun _ => 0) : St)) (S2 := mS L ((fun _ _ => 0, fun _ _ => 0, fun _ k => (([g4, g5] : List Nat)[k]?).getD 0, fun _ => 2) : St) S) (fun a ha => by rw [List.mem_singleton.mp ha]; exact hh0) (List.mem_singleton.mpr rfl)).2.2.1 5
  exact W.vret hx hb hr (fun t ht hW => ⟨⟨rfl, _, _, _, _, oo, by rw [ht]; exact hP, hD, hpi, xq, by rw [h05]; exact og2.2.2.2⟩, hS.F ht⟩) hS.2.2 (dk okd_X11_init 66 rfl) hlocks
