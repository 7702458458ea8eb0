/-! the reference's constructor -/
theorem clr_raw {S : St} {mm a : Nat} {i1 : Int32} (h1 : i1 = nI 0) (hr : gR S mm 0 = a) (hn : gN S a = 20216) : f_X12_clearBlock S mm i1 = some (qJ S a (cbv (gJ S a) 0)) := by
  subst h1
  rw [clE]
  have R : ∀ w, gR (qJ S a w) mm 0 = a := fun _ => hr
  have Nn : ∀ w, gN (qJ S a w) a = 20216 := fun _ => hn
  have main : lp (κ := Int32 → St → Option (St)) (fun _ _ => none) (clB1 mm (nI 0)) FU 0 S = clU mm (nI 0) (qJ S a (fun l => if l < 5054 then 0 else gJ S a l)) := by
    refine lp_ex (fun (k : Int32 → St → Option St) i (Z : St) => k (nI i) Z) (fun _ _ => none) (clB1 mm (nI 0)) 5054 (fun i Z => Z = qJ S a (fun l => if l < i then 0 else gJ S a l)) (fun r => r = clU mm (nI 0) (qJ S a (fun l => if l < 5054 then 0 else gJ S a l))) ?_ ?_ 5054 FU 0 S (by omega) (by rw [show (fun l => if l < 0 then (0 : Int64) else gJ S a l) = gJ S a from funext fun l => if_neg (by omega), qJ_self]) (show 5054 < 6000 by omega)
    · intro k i Z hi hJ
      refine ⟨uJ Z a i 0, ?_, ?_⟩
      · rw [hJ, uJ_qJ]
        congr 1
        funext l
        unfold udt
        by_cases e : l = i
        · rw [if_pos e, if_pos (by omega)]
        · rw [if_neg e]
          show (if l < i then (0 : Int64) else gJ S a l) = _
          by_cases h : l < i
          · rw [if_pos h, if_pos (by omega)]
          · rw [if_neg h, if_neg (by omega)]
      · show clB1 mm (nI 0) k (nI i) Z = k (nI (i + 1)) _
        unfold clB1
        rw [if_neg (ge5054 hi), lt_n, hJ, R, mu5054, nI_add, show 5054 * 0 + i = i by omega, stJ_at (by rw [Nn]; omega) (by rw [Nn]; decide), da1]
    · intro k Z hJ
      show clB1 mm (nI 0) k (nI 5054) Z = _
      unfold clB1
      rw [if_pos le5054, hJ]
  have main2 : clU mm (nI 0) (qJ S a (fun l => if l < 5054 then 0 else gJ S a l)) = some (qJ S a (fun l => if 250 ≤ l ∧ l < 250 + 900 then -1 else if l < 5054 then 0 else gJ S a l)) := by
    unfold clU
    refine lp_ex (fun (k : Int32 → St → Option St) i (Z : St) => k (nI i) Z) (fun _ _ => none) (clB2 mm (nI 0)) 900 (fun i Z => Z = qJ S a (fun l => if 250 ≤ l ∧ l < 250 + i then -1 else if l < 5054 then 0 else gJ S a l)) (fun r => r = some (qJ S a (fun l => if 250 ≤ l ∧ l < 250 + 900 then -1 else if l < 5054 then 0 else gJ S a l))) ?_ ?_ 900 FU 0 _ (by omega) (by congr 1; funext l; rw [if_neg (c := 250 ≤ l ∧ l < 250 + 0) (by omega)]) (show 900 < 6000 by omega)
    · intro k i Z hi hJ
      refine ⟨uJ Z a (250 + i) (-1), ?_, ?_⟩
      · rw [hJ, uJ_qJ]
        congr 1
        funext l
        unfold udt
        by_cases e : l = 250 + i
        · rw [if_pos e, if_pos (by omega)]
        · rw [if_neg e]
          show (if 250 ≤ l ∧ l < 250 + i then (-1 : Int64) else if l < 5054 then 0 else gJ S a l) = _
          by_cases h : 250 ≤ l ∧ l < 250 + i
          · rw [if_pos h, if_pos (by omega)]
          · rw [if_neg h, if_neg (c := 250 ≤ l ∧ l < 250 + (i + 1)) (by omega)]
      · show clB2 mm (nI 0) k (nI i) Z = k (nI (i + 1)) _
        unfold clB2
        rw [if_neg (ge900 hi), lt_n, hJ, R, mu5054, da250, nI_add, show 5054 * 0 + 250 + i = 250 + i by omega, stJ_at (by rw [Nn]; omega) (by rw [Nn]; decide), da1]
    · intro k Z hJ
      show clB2 mm (nI 0) k (nI 900) Z = _
      unfold clB2
      rw [if_pos le900, hJ]
  rw [main, main2]
  congr 2
  funext l
  unfold cbv u00
  by_cases h : l < 5054
  · rw [if_pos (c := 5054 * 0 ≤ l ∧ l < 5054 * 0 + 5054) (by omega), if_pos h, show l - 5054 * 0 = l by omega]
  · rw [if_neg (c := 5054 * 0 ≤ l ∧ l < 5054 * 0 + 5054) (by omega), if_neg h, if_neg (by omega)]
theorem lay11 {i : Nat} (h : (lay 11)[i]? = some 2) : i = 0 ∨ i = 1 ∨ i = 3 ∨ i = 4 ∨ i = 5 ∨ i = 6 ∨ i = 8 ∨ i = 17 ∨ i = 18 := by
  have hl : i < 22 := (List.getElem?_eq_some_iff.mp h).1
  rcases (show i = 0 ∨ i = 1 ∨ i = 2 ∨ i = 3 ∨ i = 4 ∨ i = 5 ∨ i = 6 ∨ i = 7 ∨ i = 8 ∨ i = 9 ∨ i = 10 ∨ i = 11 ∨ i = 12 ∨ i = 13 ∨ i = 14 ∨ i = 15 ∨ i = 16 ∨ i = 17 ∨ i = 18 ∨ i = 19 ∨ i = 20 ∨ i = 21 by omega) with rfl | rfl | rfl | rfl | rfl | rfl | rfl | rfl | rfl | rfl | rfl | rfl | rfl | rfl | rfl | rfl | rfl | rfl | rfl | rfl | rfl | rfl <;> first | omega | (exfalso; revert h; decide)
/-- what a new reference's cells hold -/
def YQ (L : List Nat) (S Sz : St) (h0 : Nat) : Prop := ∀ a i, a ∈ L → gI S a i = (if a = h0 ∧ i = 12 then -1 else 0) ∧ gJ S a i = (if a = gR Sz h0 0 then cbv (fun _ => 0) 0 i else 0) ∧ gR S a i = gR Sz a i ∧ gN S a = gN Sz a
def QX12 (G : va_G) (cy : Nat → ClassId) (A : Nat → Prop) (h0 : Nat) : Array Value → State → Outcome → State → Prop := fun _ st oc t => (oc = .returned none ∧ ∃ (L : List Nat) (K : Nat → Nat) (S Sz : St), va_P G vwCl (plw cy L K S) t.heap ∧ va_D A (plw cy L K S) ∧ PI 11 L K Sz h0 ∧ YQ L S Sz h0) ∧ va_F A st t
theorem ml_X12_3 : Cond.methodLink RX12 3 Lib.objectInit ∈ TT := TT_7 (i := 219) rfl rfl
theorem fwn_X12_9 : Cond.fieldLink RX12 9 RX12 (TX12 0).2.1 (TX12 0).2.2.1 ∈ TT := TT_7 (i := 225) rfl rfl
theorem fwn_X12_13 : Cond.fieldLink RX12 13 RX12 (TX12 1).2.1 (TX12 1).2.2.1 ∈ TT := TT_7 (i := 226) rfl rfl
theorem fwn_X12_17 : Cond.fieldLink RX12 17 RX12 (TX12 3).2.1 (TX12 3).2.2.1 ∈ TT := TT_7 (i := 228) rfl rfl
theorem fwn_X12_20 : Cond.fieldLink RX12 20 RX12 (TX12 4).2.1 (TX12 4).2.2.1 ∈ TT := TT_7 (i := 229) rfl rfl
theorem fwn_X12_23 : Cond.fieldLink RX12 23 RX12 (TX12 5).2.1 (TX12 5).2.2.1 ∈ TT := TT_7 (i := 230) rfl rfl
theorem fwn_X12_26 : Cond.fieldLink RX12 26 RX12 (TX12 6).2.1 (TX12 6).2.2.1 ∈ TT := TT_7 (i := 231) rfl rfl
theorem fwn_X12_30 : Cond.fieldLink RX12 30 RX12 (TX12 8).2.1 (TX12 8).2.2.1 ∈ TT := TT_7 (i := 233) rfl rfl
theorem fwn_X12_33 : Cond.fieldLink RX12 33 RX12 (TX12 12).2.1 (TX12 12).2.2.1 ∈ TT := TT_7 (i := 237) rfl rfl
theorem fwn_X12_37 : Cond.fieldLink RX12 37 RX12 (TX12 17).2.1 (TX12 17).2.2.1 ∈ TT := TT_8 (i := 2) rfl rfl
theorem fwn_X12_41 : Cond.fieldLink RX12 41 RX12 (TX12 18).2.1 (TX12 18).2.2.1 ∈ TT := TT_8 (i := 3) rfl rfl
def ed_X12_init : List (Nat × Instr × Nat) := [(0, .aload_n 0, 1), (1, .invokespecial 3, 3), (4, .aload_n 0, 1), (5, .sipush 20216, 3), (8, .newarray .long, 2), (10, .putfield 9, 3), (13, .aload_n 0, 1), (14, .iconst 2, 1), (15, .newarray .boolean, 2), (17, .putfield 13, 3), (20, .aload_n 0, 1), (21, .sipush 900, 3), (24, .newarray .boolean, 2), (26, .putfield 17, 3), (29, .aload_n 0, 1), (30, .sipush 900, 3), (33, .newarray .boolean, 2), (35, .putfield 20, 3), (38, .aload_n 0, 1), (39, .bipush 7, 2), (41, .newarray .long, 2), (43, .putfield 23, 3), (46, .aload_n 0, 1), (47, .sipush 300, 3), (50, .newarray .byte, 2), (52, .putfield 26, 3), (55, .aload_n 0, 1), (56, .sipush 1500, 3), (59, .newarray .byte, 2), (61, .putfield 30, 3), (64, .aload_n 0, 1), (65, .iconst (-1), 1), (66, .putfield 33, 3), (69, .aload_n 0, 1), (70, .sipush 200, 3), (73, .newarray .int, 2), (75, .putfield 37, 3), (78, .aload_n 0, 1), (79, .sipush 200, 3), (82, .newarray .int, 2), (84, .putfield 41, 3), (87, .aload_n 0, 1), (88, .iconst 0, 1), (89, .invokevirtual 44, 3), (92, .return_, 1)]
theorem okd_X12_init : ed_X12_init.all (okD cX12_init) = true := by decide +kernel
set_option maxHeartbeats 8000000 in
set_option maxRecDepth 100000 in
theorem c_X12_init : ∀ (l : Launch) (G : va_G) (cy : Nat → ClassId) (h0 sz : Nat), Met l yX12_init (Cond.code yX12_init cX12_init 1 none :: TT) (rmi 1 22 9 24225) (PcI 11 h0 sz G cy) (QX12 G cy (va_A [(h0, .inr (11, raw 11))] sz) h0) 9 24225 (va_A [(h0, .inr (11, raw 11))] sz) := by
  intro l G cy h0 sz
  refine Met.ofW (cc := cX12_init) (maxL := 1) (ret := none) (by decide) rfl ?_
  intro p e s m args below meth c s₁ B hml hv
  obtain ⟨rfl, hsz, hP, hK, hD0, hE⟩ := hv
  have hx := B.exec
  have hb := B.bytes
  have hr := B.returns
  have hts0 := atoms_spec (ws := Cond.code yX12_init cX12_init 1 none :: TT) B.pre
  have hts := fun w hw => hts0 w (List.mem_cons_of_mem _ hw)
  have hown : s.vm.findClass RX12 = some m.cls := findClass_of_methodNamed B.named
  have hlocks := B.notSynchronized
  have hin : meth.name = "<init>" := (name_of_methodNamed B.named B.method).1
  subst hsz
  have hD := hD0.self (sz := s.heap.size)
  generalize hAe : va_A [(h0, .inr (11, raw 11))] s.heap.size = A at hD hE ⊢
  have hA : ∀ q : Nat, s.heap.size ≤ q → A q := fun q h => by rw [← hAe]; exact Or.inr h
  have hS : va_S A s.heap s.heap [] := va_S.rf
  have hP : va_P G vwCl [(h0, .inr (11, [.null, .null, .int 0, .null, .null, .null, .null, .int 0, .null, .int 0, .int 0, .int 0, .int 0, .int 0, .int 0, .int 0, .long 0, .null, .null, .int 0, .int 0, .int 0]))] s.heap := hP
  have hD : va_D A [(h0, .inr (11, [.null, .null, .int 0, .null, .null, .null, .null, .int 0, .null, .int 0, .int 0, .int 0, .int 0, .int 0, .int 0, .int 0, .long 0, .null, .null, .int 0, .int 0, .int 0]))] := hD
  have hl := lv_entry ([.ref h0]) (n := 1) (Nat.le_of_ble_eq_true rfl)
  rw [lg_entry_eq]
  generalize (lg_sl ([.ref h0]) ++ List.replicate (1 - (lg_sl ([.ref h0])).length) Slot.unset).toArray = ls at hl ⊢
  have hl : lv_has ls 1 [(0, .ref h0)] := hl
  refine lv_aload_n hx hb (dk okd_X12_init 0 rfl) rfl (lv_at hl 0 rfl) ?_
  refine W.objInit hx hb hown (hts _ ml_X12_3) (hts _ ow_inst) (hts _ ow_code) rfl (by rw [hml]; exact hl.1) rfl (dk okd_X12_init 1 rfl) (Nat.le_of_ble_eq_true rfl) (Nat.le_of_ble_eq_true rfl) ?_
  refine W.eq (g2 := F0 m 4 ls []) rfl ?_
  refine lv_aload_n hx hb (dk okd_X12_init 2 rfl) rfl (lv_at hl 0 rfl) ?_
  refine lv_sipush (v := 20216) hx hb (dk okd_X12_init 3 rfl) (by decide) ?_
  refine va_newa (atype := .long) (ty := .long) (N' := 20216) (a0 := (20216, .inr (.inl (fun _ => 0)))) hx hb (hts _ aw_long) rfl hK hP hD hS hA (fun cA => rfl) (by decide) (by decide) (Nat.le_of_ble_eq_true rfl) (Nat.le_of_ble_eq_true rfl) (Nat.le_of_ble_eq_true rfl) (dk okd_X12_init 4 rfl) (fun q1 cA H hK2 hP hD hS => ?_)
  have ecA : cA = cy 2 := cy_eq hK2 (i := 5) (j := 2) rfl rfl (fun C h => by cases h)
  subst ecA
  refine W.widen (k := 1) (n := 20216) (Nat.le_of_ble_eq_true rfl) (Nat.le_of_ble_eq_true rfl) ?_
  refine va_putF (D := G) (ci := 11) (v := .ref q1) (ty := tyX12 0) (C := RX12) (T := TX12) (N := 22) hx hb hts uw_X12 tyX12 tyX12_ok nmX12 hown hK hP hD hS 0 rfl rfl 0 (by decide) (hts _ fwn_X12_9) (fun _ h9 => h9) rfl hin rfl (tyX12_ok 0 (by decide)) rfl rfl (Nat.le_of_ble_eq_true rfl) (dk okd_X12_init 5 rfl) (fun H locs hP hD hS => ?_)
  have hP : va_P G vwCl [(h0, .inr (11, [.ref q1, .null, .int 0, .null, .null, .null, .null, .int 0, .null, .int 0, .int 0, .int 0, .int 0, .int 0, .int 0, .int 0, .long 0, .null, .null, .int 0, .int 0, .int 0])), (q1, .inl (cy 2, 20216, .inr (.inl (fun _ => 0))))] H := hP
  have hD : va_D A [(h0, .inr (11, [.ref q1, .null, .int 0, .null, .null, .null, .null, .int 0, .null, .int 0, .int 0, .int 0, .int 0, .int 0, .int 0, .int 0, .long 0, .null, .null, .int 0, .int 0, .int 0])), (q1, .inl (cy 2, 20216, .inr (.inl (fun _ => 0))))] := hD
  refine lv_aload_n hx hb (dk okd_X12_init 6 rfl) rfl (lv_at hl 0 rfl) ?_
  refine lv_iconst (v := 2) hx hb (dk okd_X12_init 7 rfl) (by decide) ?_
  refine va_newa (atype := .boolean) (ty := .boolean) (N' := 2) (a0 := (2, .inl (fun _ => 0))) hx hb (hts _ aw_boolean) rfl hK hP hD hS hA (fun cA => rfl) (by decide) (by decide) (Nat.le_of_ble_eq_true rfl) (Nat.le_of_ble_eq_true rfl) (Nat.le_of_ble_eq_true rfl) (dk okd_X12_init 8 rfl) (fun q2 cA H hK2 hP hD hS => ?_)
  have ecA : cA = cy 3 := cy_eq hK2 (i := 5) (j := 3) rfl rfl (fun C h => by cases h)
  subst ecA
  refine W.widen (k := 2) (n := 20218) (Nat.le_of_ble_eq_true rfl) (Nat.le_of_ble_eq_true rfl) ?_
  refine va_putF (D := G) (ci := 11) (v := .ref q2) (ty := tyX12 1) (C := RX12) (T := TX12) (N := 22) hx hb hts uw_X12 tyX12 tyX12_ok nmX12 hown hK hP hD hS 0 rfl rfl 1 (by decide) (hts _ fwn_X12_13) (fun _ h9 => h9) rfl hin rfl (tyX12_ok 1 (by decide)) rfl rfl (Nat.le_of_ble_eq_true rfl) (dk okd_X12_init 9 rfl) (fun H locs hP hD hS => ?_)
  have hP : va_P G vwCl [(h0, .inr (11, [.ref q1, .ref q2, .int 0, .null, .null, .null, .null, .int 0, .null, .int 0, .int 0, .int 0, .int 0, .int 0, .int 0, .int 0, .long 0, .null, .null, .int 0, .int 0, .int 0])), (q1, .inl (cy 2, 20216, .inr (.inl (fun _ => 0)))), (q2, .inl (cy 3, 2, .inl (fun _ => 0)))] H := hP
  have hD : va_D A [(h0, .inr (11, [.ref q1, .ref q2, .int 0, .null, .null, .null, .null, .int 0, .null, .int 0, .int 0, .int 0, .int 0, .int 0, .int 0, .int 0, .long 0, .null, .null, .int 0, .int 0, .int 0])), (q1, .inl (cy 2, 20216, .inr (.inl (fun _ => 0)))), (q2, .inl (cy 3, 2, .inl (fun _ => 0)))] := hD
  refine lv_aload_n hx hb (dk okd_X12_init 10 rfl) rfl (lv_at hl 0 rfl) ?_
  refine lv_sipush (v := 900) hx hb (dk okd_X12_init 11 rfl) (by decide) ?_
  refine va_newa (atype := .boolean) (ty := .boolean) (N' := 900) (a0 := (900, .inl (fun _ => 0))) hx hb (hts _ aw_boolean) rfl hK hP hD hS hA (fun cA => rfl) (by decide) (by decide) (Nat.le_of_ble_eq_true rfl) (Nat.le_of_ble_eq_true rfl) (Nat.le_of_ble_eq_true rfl) (dk okd_X12_init 12 rfl) (fun q3 cA H hK2 hP hD hS => ?_)
  have ecA : cA = cy 3 := cy_eq hK2 (i := 5) (j := 3) rfl rfl (fun C h => by cases h)
  subst ecA
  refine W.widen (k := 3) (n := 21118) (Nat.le_of_ble_eq_true rfl) (Nat.le_of_ble_eq_true rfl) ?_
  refine va_putF (D := G) (ci := 11) (v := .ref q3) (ty := tyX12 3) (C := RX12) (T := TX12) (N := 22) hx hb hts uw_X12 tyX12 tyX12_ok nmX12 hown hK hP hD hS 0 rfl rfl 3 (by decide) (hts _ fwn_X12_17) (fun _ h9 => h9) rfl hin rfl (tyX12_ok 3 (by decide)) rfl rfl (Nat.le_of_ble_eq_true rfl) (dk okd_X12_init 13 rfl) (fun H locs hP hD hS => ?_)
  have hP : va_P G vwCl [(h0, .inr (11, [.ref q1, .ref q2, .int 0, .ref q3, .null, .null, .null, .int 0, .null, .int 0, .int 0, .int 0, .int 0, .int 0, .int 0, .int 0, .long 0, .null, .null, .int 0, .int 0, .int 0])), (q1, .inl (cy 2, 20216, .inr (.inl (fun _ => 0)))), (q2, .inl (cy 3, 2, .inl (fun _ => 0))), (q3, .inl (cy 3, 900, .inl (fun _ => 0)))] H := hP
  have hD : va_D A [(h0, .inr (11, [.ref q1, .ref q2, .int 0, .ref q3, .null, .null, .null, .int 0, .null, .int 0, .int 0, .int 0, .int 0, .int 0, .int 0, .int 0, .long 0, .null, .null, .int 0, .int 0, .int 0])), (q1, .inl (cy 2, 20216, .inr (.inl (fun _ => 0)))), (q2, .inl (cy 3, 2, .inl (fun _ => 0))), (q3, .inl (cy 3, 900, .inl (fun _ => 0)))] := hD
  refine lv_aload_n hx hb (dk okd_X12_init 14 rfl) rfl (lv_at hl 0 rfl) ?_
  refine lv_sipush (v := 900) hx hb (dk okd_X12_init 15 rfl) (by decide) ?_
  refine va_newa (atype := .boolean) (ty := .boolean) (N' := 900) (a0 := (900, .inl (fun _ => 0))) hx hb (hts _ aw_boolean) rfl hK hP hD hS hA (fun cA => rfl) (by decide) (by decide) (Nat.le_of_ble_eq_true rfl) (Nat.le_of_ble_eq_true rfl) (Nat.le_of_ble_eq_true rfl) (dk okd_X12_init 16 rfl) (fun q4 cA H hK2 hP hD hS => ?_)
  have ecA : cA = cy 3 := cy_eq hK2 (i := 5) (j := 3) rfl rfl (fun C h => by cases h)
  subst ecA
  refine W.widen (k := 4) (n := 22018) (Nat.le_of_ble_eq_true rfl) (Nat.le_of_ble_eq_true rfl) ?_
  refine va_putF (D := G) (ci := 11) (v := .ref q4) (ty := tyX12 4) (C := RX12) (T := TX12) (N := 22) hx hb hts uw_X12 tyX12 tyX12_ok nmX12 hown hK hP hD hS 0 rfl rfl 4 (by decide) (hts _ fwn_X12_20) (fun _ h9 => h9) rfl hin rfl (tyX12_ok 4 (by decide)) rfl rfl (Nat.le_of_ble_eq_true rfl) (dk okd_X12_init 17 rfl) (fun H locs hP hD hS => ?_)
  have hP : va_P G vwCl [(h0, .inr (11, [.ref q1, .ref q2, .int 0, .ref q3, .ref q4, .null, .null, .int 0, .null, .int 0, .int 0, .int 0, .int 0, .int 0, .int 0, .int 0, .long 0, .null, .null, .int 0, .int 0, .int 0])), (q1, .inl (cy 2, 20216, .inr (.inl (fun _ => 0)))), (q2, .inl (cy 3, 2, .inl (fun _ => 0))), (q3, .inl (cy 3, 900, .inl (fun _ => 0))), (q4, .inl (cy 3, 900, .inl (fun _ => 0)))] H := hP
  have hD : va_D A [(h0, .inr (11, [.ref q1, .ref q2, .int 0, .ref q3, .ref q4, .null, .null, .int 0, .null, .int 0, .int 0, .int 0, .int 0, .int 0, .int 0, .int 0, .long 0, .null, .null, .int 0, .int 0, .int 0])), (q1, .inl (cy 2, 20216, .inr (.inl (fun _ => 0)))), (q2, .inl (cy 3, 2, .inl (fun _ => 0))), (q3, .inl (cy 3, 900, .inl (fun _ => 0))), (q4, .inl (cy 3, 900, .inl (fun _ => 0)))] := hD
  refine lv_aload_n hx hb (dk okd_X12_init 18 rfl) rfl (lv_at hl 0 rfl) ?_
  refine lv_bipush (v := 7) hx hb (dk okd_X12_init 19 rfl) (by decide) ?_
  refine va_newa (atype := .long) (ty := .long) (N' := 7) (a0 := (7, .inr (.inl (fun _ => 0)))) hx hb (hts _ aw_long) rfl hK hP hD hS hA (fun cA => rfl) (by decide) (by decide) (Nat.le_of_ble_eq_true rfl) (Nat.le_of_ble_eq_true rfl) (Nat.le_of_ble_eq_true rfl) (dk okd_X12_init 20 rfl) (fun q5 cA H hK2 hP hD hS => ?_)
  have ecA : cA = cy 2 := cy_eq hK2 (i := 5) (j := 2) rfl rfl (fun C h => by cases h)
  subst ecA
  refine W.widen (k := 5) (n := 22025) (Nat.le_of_ble_eq_true rfl) (Nat.le_of_ble_eq_true rfl) ?_
  refine va_putF (D := G) (ci := 11) (v := .ref q5) (ty := tyX12 5) (C := RX12) (T := TX12) (N := 22) hx hb hts uw_X12 tyX12 tyX12_ok nmX12 hown hK hP hD hS 0 rfl rfl 5 (by decide) (hts _ fwn_X12_23) (fun _ h9 => h9) rfl hin rfl (tyX12_ok 5 (by decide)) rfl rfl (Nat.le_of_ble_eq_true rfl) (dk okd_X12_init 21 rfl) (fun H locs hP hD hS => ?_)
  have hP : va_P G vwCl [(h0, .inr (11, [.ref q1, .ref q2, .int 0, .ref q3, .ref q4, .ref q5, .null, .int 0, .null, .int 0, .int 0, .int 0, .int 0, .int 0, .int 0, .int 0, .long 0, .null, .null, .int 0, .int 0, .int 0])), (q1, .inl (cy 2, 20216, .inr (.inl (fun _ => 0)))), (q2, .inl (cy 3, 2, .inl (fun _ => 0))), (q3, .inl (cy 3, 900, .inl (fun _ => 0))), (q4, .inl (cy 3, 900, .inl (fun _ => 0))), (q5, .inl (cy 2, 7, .inr (.inl (fun _ => 0))))] H := hP
  have hD : va_D A [(h0, .inr (11, [.ref q1, .ref q2, .int 0, .ref q3, .ref q4, .ref q5, .null, .int 0, .null, .int 0, .int 0, .int 0, .int 0, .int 0, .int 0, .int 0, .long 0, .null, .null, .int 0, .int 0, .int 0])), (q1, .inl (cy 2, 20216, .inr (.inl (fun _ => 0)))), (q2, .inl (cy 3, 2, .inl (fun _ => 0))), (q3, .inl (cy 3, 900, .inl (fun _ => 0))), (q4, .inl (cy 3, 900, .inl (fun _ => 0))), (q5, .inl (cy 2, 7, .inr (.inl (fun _ => 0))))] := hD
  refine lv_aload_n hx hb (dk okd_X12_init 22 rfl) rfl (lv_at hl 0 rfl) ?_
  refine lv_sipush (v := 300) hx hb (dk okd_X12_init 23 rfl) (by decide) ?_
  refine va_newa (atype := .byte) (ty := .byte) (N' := 300) (a0 := (300, .inl (fun _ => 0))) hx hb (hts _ aw_byte) rfl hK hP hD hS hA (fun cA => rfl) (by decide) (by decide) (Nat.le_of_ble_eq_true rfl) (Nat.le_of_ble_eq_true rfl) (Nat.le_of_ble_eq_true rfl) (dk okd_X12_init 24 rfl) (fun q6 cA H hK2 hP hD hS => ?_)
  have ecA : cA = cy 0 := cy_eq hK2 (i := 5) (j := 0) rfl rfl (fun C h => by cases h)
  subst ecA
  refine W.widen (k := 6) (n := 22325) (Nat.le_of_ble_eq_true rfl) (Nat.le_of_ble_eq_true rfl) ?_
  refine va_putF (D := G) (ci := 11) (v := .ref q6) (ty := tyX12 6) (C := RX12) (T := TX12) (N := 22) hx hb hts uw_X12 tyX12 tyX12_ok nmX12 hown hK hP hD hS 0 rfl rfl 6 (by decide) (hts _ fwn_X12_26) (fun _ h9 => h9) rfl hin rfl (tyX12_ok 6 (by decide)) rfl rfl (Nat.le_of_ble_eq_true rfl) (dk okd_X12_init 25 rfl) (fun H locs hP hD hS => ?_)
  have hP : va_P G vwCl [(h0, .inr (11, [.ref q1, .ref q2, .int 0, .ref q3, .ref q4, .ref q5, .ref q6, .int 0, .null, .int 0, .int 0, .int 0, .int 0, .int 0, .int 0, .int 0, .long 0, .null, .null, .int 0, .int 0, .int 0])), (q1, .inl (cy 2, 20216, .inr (.inl (fun _ => 0)))), (q2, .inl (cy 3, 2, .inl (fun _ => 0))), (q3, .inl (cy 3, 900, .inl (fun _ => 0))), (q4, .inl (cy 3, 900, .inl (fun _ => 0))), (q5, .inl (cy 2, 7, .inr (.inl (fun _ => 0)))), (q6, .inl (cy 0, 300, .inl (fun _ => 0)))] H := hP
  have hD : va_D A [(h0, .inr (11, [.ref q1, .ref q2, .int 0, .ref q3, .ref q4, .ref q5, .ref q6, .int 0, .null, .int 0, .int 0, .int 0, .int 0, .int 0, .int 0, .int 0, .long 0, .null, .null, .int 0, .int 0, .int 0])), (q1, .inl (cy 2, 20216, .inr (.inl (fun _ => 0)))), (q2, .inl (cy 3, 2, .inl (fun _ => 0))), (q3, .inl (cy 3, 900, .inl (fun _ => 0))), (q4, .inl (cy 3, 900, .inl (fun _ => 0))), (q5, .inl (cy 2, 7, .inr (.inl (fun _ => 0)))), (q6, .inl (cy 0, 300, .inl (fun _ => 0)))] := hD
  refine lv_aload_n hx hb (dk okd_X12_init 26 rfl) rfl (lv_at hl 0 rfl) ?_
  refine lv_sipush (v := 1500) hx hb (dk okd_X12_init 27 rfl) (by decide) ?_
  refine va_newa (atype := .byte) (ty := .byte) (N' := 1500) (a0 := (1500, .inl (fun _ => 0))) hx hb (hts _ aw_byte) rfl hK hP hD hS hA (fun cA => rfl) (by decide) (by decide) (Nat.le_of_ble_eq_true rfl) (Nat.le_of_ble_eq_true rfl) (Nat.le_of_ble_eq_true rfl) (dk okd_X12_init 28 rfl) (fun q7 cA H hK2 hP hD hS => ?_)
  have ecA : cA = cy 0 := cy_eq hK2 (i := 5) (j := 0) rfl rfl (fun C h => by cases h)
  subst ecA
  refine W.widen (k := 7) (n := 23825) (Nat.le_of_ble_eq_true rfl) (Nat.le_of_ble_eq_true rfl) ?_
  refine va_putF (D := G) (ci := 11) (v := .ref q7) (ty := tyX12 8) (C := RX12) (T := TX12) (N := 22) hx hb hts uw_X12 tyX12 tyX12_ok nmX12 hown hK hP hD hS 0 rfl rfl 8 (by decide) (hts _ fwn_X12_30) (fun _ h9 => h9) rfl hin rfl (tyX12_ok 8 (by decide)) rfl rfl (Nat.le_of_ble_eq_true rfl) (dk okd_X12_init 29 rfl) (fun H locs hP hD hS => ?_)
  have hP : va_P G vwCl [(h0, .inr (11, [.ref q1, .ref q2, .int 0, .ref q3, .ref q4, .ref q5, .ref q6, .int 0, .ref q7, .int 0, .int 0, .int 0, .int 0, .int 0, .int 0, .int 0, .long 0, .null, .null, .int 0, .int 0, .int 0])), (q1, .inl (cy 2, 20216, .inr (.inl (fun _ => 0)))), (q2, .inl (cy 3, 2, .inl (fun _ => 0))), (q3, .inl (cy 3, 900, .inl (fun _ => 0))), (q4, .inl (cy 3, 900, .inl (fun _ => 0))), (q5, .inl (cy 2, 7, .inr (.inl (fun _ => 0)))), (q6, .inl (cy 0, 300, .inl (fun _ => 0))), (q7, .inl (cy 0, 1500, .inl (fun _ => 0)))] H := hP
  have hD : va_D A [(h0, .inr (11, [.ref q1, .ref q2, .int 0, .ref q3, .ref q4, .ref q5, .ref q6, .int 0, .ref q7, .int 0, .int 0, .int 0, .int 0, .int 0, .int 0, .int 0, .long 0, .null, .null, .int 0, .int 0, .int 0])), (q1, .inl (cy 2, 20216, .inr (.inl (fun _ => 0)))), (q2, .inl (cy 3, 2, .inl (fun _ => 0))), (q3, .inl (cy 3, 900, .inl (fun _ => 0))), (q4, .inl (cy 3, 900, .inl (fun _ => 0))), (q5, .inl (cy 2, 7, .inr (.inl (fun _ => 0)))), (q6, .inl (cy 0, 300, .inl (fun _ => 0))), (q7, .inl (cy 0, 1500, .inl (fun _ => 0)))] := hD
  refine lv_aload_n hx hb (dk okd_X12_init 30 rfl) rfl (lv_at hl 0 rfl) ?_
  refine lv_iconst (v := (-1)) hx hb (dk okd_X12_init 31 rfl) (by decide) ?_
  refine va_put (D := G) (ci := 11) (v := .int (-1)) (ty := tyX12 12) (C := RX12) (T := TX12) (N := 22) hx hb hts uw_X12 tyX12 tyX12_ok nmX12 hown hK hP hD hS 0 rfl rfl 12 (by decide) (hts _ fwn_X12_33) (fun _ h9 => h9) rfl (tyX12_ok 12 (by decide)) rfl rfl (Nat.le_of_ble_eq_true rfl) (dk okd_X12_init 32 rfl) (fun H locs hP hD hS => ?_)
  have hP : va_P G vwCl [(h0, .inr (11, [.ref q1, .ref q2, .int 0, .ref q3, .ref q4, .ref q5, .ref q6, .int 0, .ref q7, .int 0, .int 0, .int 0, .int (-1), .int 0, .int 0, .int 0, .long 0, .null, .null, .int 0, .int 0, .int 0])), (q1, .inl (cy 2, 20216, .inr (.inl (fun _ => 0)))), (q2, .inl (cy 3, 2, .inl (fun _ => 0))), (q3, .inl (cy 3, 900, .inl (fun _ => 0))), (q4, .inl (cy 3, 900, .inl (fun _ => 0))), (q5, .inl (cy 2, 7, .inr (.inl (fun _ => 0)))), (q6, .inl (cy 0, 300, .inl (fun _ => 0))), (q7, .inl (cy 0, 1500, .inl (fun _ => 0)))] H := hP
  have hD : va_D A [(h0, .inr (11, [.ref q1, .ref q2, .int 0, .ref q3, .ref q4, .ref q5, .ref q6, .int 0, .ref q7, .int 0, .int 0, .int 0, .int (-1), .int 0, .int 0, .int 0, .long 0, .null, .null, .int 0, .int 0, .int 0])), (q1, .inl (cy 2, 20216, .inr (.inl (fun _ => 0)))), (q2, .inl (cy 3, 2, .inl (fun _ => 0))), (q3, .inl (cy 3, 900, .inl (fun _ => 0))), (q4, .inl (cy 3, 900, .inl (fun _ => 0))), (q5, .inl (cy 2, 7, .inr (.inl (fun _ => 0)))), (q6, .inl (cy 0, 300, .inl (fun _ => 0))), (q7, .inl (cy 0, 1500, .inl (fun _ => 0)))] := hD
  refine lv_aload_n hx hb (dk okd_X12_init 33 rfl) rfl (lv_at hl 0 rfl) ?_
  refine lv_sipush (v := 200) hx hb (dk okd_X12_init 34 rfl) (by decide) ?_
  refine va_newa (atype := .int) (ty := .int) (N' := 200) (a0 := (200, .inl (fun _ => 0))) hx hb (hts _ aw_int) rfl hK hP hD hS hA (fun cA => rfl) (by decide) (by decide) (Nat.le_of_ble_eq_true rfl) (Nat.le_of_ble_eq_true rfl) (Nat.le_of_ble_eq_true rfl) (dk okd_X12_init 35 rfl) (fun q8 cA H hK2 hP hD hS => ?_)
  have ecA : cA = cy 1 := cy_eq hK2 (i := 5) (j := 1) rfl rfl (fun C h => by cases h)
  subst ecA
  refine W.widen (k := 8) (n := 24025) (Nat.le_of_ble_eq_true rfl) (Nat.le_of_ble_eq_true rfl) ?_
  refine va_putF (D := G) (ci := 11) (v := .ref q8) (ty := tyX12 17) (C := RX12) (T := TX12) (N := 22) hx hb hts uw_X12 tyX12 tyX12_ok nmX12 hown hK hP hD hS 0 rfl rfl 17 (by decide) (hts _ fwn_X12_37) (fun _ h9 => h9) rfl hin rfl (tyX12_ok 17 (by decide)) rfl rfl (Nat.le_of_ble_eq_true rfl) (dk okd_X12_init 36 rfl) (fun H locs hP hD hS => ?_)
  have hP : va_P G vwCl [(h0, .inr (11, [.ref q1, .ref q2, .int 0, .ref q3, .ref q4, .ref q5, .ref q6, .int 0, .ref q7, .int 0, .int 0, .int 0, .int (-1), .int 0, .int 0, .int 0, .long 0, .ref q8, .null, .int 0, .int 0, .int 0])), (q1, .inl (cy 2, 20216, .inr (.inl (fun _ => 0)))), (q2, .inl (cy 3, 2, .inl (fun _ => 0))), (q3, .inl (cy 3, 900, .inl (fun _ => 0))), (q4, .inl (cy 3, 900, .inl (fun _ => 0))), (q5, .inl (cy 2, 7, .inr (.inl (fun _ => 0)))), (q6, .inl (cy 0, 300, .inl (fun _ => 0))), (q7, .inl (cy 0, 1500, .inl (fun _ => 0))), (q8, .inl (cy 1, 200, .inl (fun _ => 0)))] H := hP
  have hD : va_D A [(h0, .inr (11, [.ref q1, .ref q2, .int 0, .ref q3, .ref q4, .ref q5, .ref q6, .int 0, .ref q7, .int 0, .int 0, .int 0, .int (-1), .int 0, .int 0, .int 0, .long 0, .ref q8, .null, .int 0, .int 0, .int 0])), (q1, .inl (cy 2, 20216, .inr (.inl (fun _ => 0)))), (q2, .inl (cy 3, 2, .inl (fun _ => 0))), (q3, .inl (cy 3, 900, .inl (fun _ => 0))), (q4, .inl (cy 3, 900, .inl (fun _ => 0))), (q5, .inl (cy 2, 7, .inr (.inl (fun _ => 0)))), (q6, .inl (cy 0, 300, .inl (fun _ => 0))), (q7, .inl (cy 0, 1500, .inl (fun _ => 0))), (q8, .inl (cy 1, 200, .inl (fun _ => 0)))] := hD
  refine lv_aload_n hx hb (dk okd_X12_init 37 rfl) rfl (lv_at hl 0 rfl) ?_
  refine lv_sipush (v := 200) hx hb (dk okd_X12_init 38 rfl) (by decide) ?_
  refine va_newa (atype := .int) (ty := .int) (N' := 200) (a0 := (200, .inl (fun _ => 0))) hx hb (hts _ aw_int) rfl hK hP hD hS hA (fun cA => rfl) (by decide) (by decide) (Nat.le_of_ble_eq_true rfl) (Nat.le_of_ble_eq_true rfl) (Nat.le_of_ble_eq_true rfl) (dk okd_X12_init 39 rfl) (fun q9 cA H hK2 hP hD hS => ?_)
  have ecA : cA = cy 1 := cy_eq hK2 (i := 5) (j := 1) rfl rfl (fun C h => by cases h)
  subst ecA
  refine W.widen (k := 9) (n := 24225) (Nat.le_of_ble_eq_true rfl) (Nat.le_of_ble_eq_true rfl) ?_
  refine va_putF (D := G) (ci := 11) (v := .ref q9) (ty := tyX12 18) (C := RX12) (T := TX12) (N := 22) hx hb hts uw_X12 tyX12 tyX12_ok nmX12 hown hK hP hD hS 0 rfl rfl 18 (by decide) (hts _ fwn_X12_41) (fun _ h9 => h9) rfl hin rfl (tyX12_ok 18 (by decide)) rfl rfl (Nat.le_of_ble_eq_true rfl) (dk okd_X12_init 40 rfl) (fun H locs hP hD hS => ?_)
  have hP : va_P G vwCl [(h0, .inr (11, [.ref q1, .ref q2, .int 0, .ref q3, .ref q4, .ref q5, .ref q6, .int 0, .ref q7, .int 0, .int 0, .int 0, .int (-1), .int 0, .int 0, .int 0, .long 0, .ref q8, .ref q9, .int 0, .int 0, .int 0])), (q1, .inl (cy 2, 20216, .inr (.inl (fun _ => 0)))), (q2, .inl (cy 3, 2, .inl (fun _ => 0))), (q3, .inl (cy 3, 900, .inl (fun _ => 0))), (q4, .inl (cy 3, 900, .inl (fun _ => 0))), (q5, .inl (cy 2, 7, .inr (.inl (fun _ => 0)))), (q6, .inl (cy 0, 300, .inl (fun _ => 0))), (q7, .inl (cy 0, 1500, .inl (fun _ => 0))), (q8, .inl (cy 1, 200, .inl (fun _ => 0))), (q9, .inl (cy 1, 200, .inl (fun _ => 0)))] H := hP
  have hD : va_D A [(h0, .inr (11, [.ref q1, .ref q2, .int 0, .ref q3, .ref q4, .ref q5, .ref q6, .int 0, .ref q7, .int 0, .int 0, .int 0, .int (-1), .int 0, .int 0, .int 0, .long 0, .ref q8, .ref q9, .int 0, .int 0, .int 0])), (q1, .inl (cy 2, 20216, .inr (.inl (fun _ => 0)))), (q2, .inl (cy 3, 2, .inl (fun _ => 0))), (q3, .inl (cy 3, 900, .inl (fun _ => 0))), (q4, .inl (cy 3, 900, .inl (fun _ => 0))), (q5, .inl (cy 2, 7, .inr (.inl (fun _ => 0)))), (q6, .inl (cy 0, 300, .inl (fun _ => 0))), (q7, .inl (cy 0, 1500, .inl (fun _ => 0))), (q8, .inl (cy 1, 200, .inl (fun _ => 0))), (q9, .inl (cy 1, 200, .inl (fun _ => 0)))] := hD
  refine lv_aload_n hx hb (dk okd_X12_init 41 rfl) rfl (lv_at hl 0 rfl) ?_
  refine lv_iconst (v := 0) hx hb (dk okd_X12_init 42 rfl) (by decide) ?_
  have hnd : (h0 :: ([(q1, 14, 20216), (q2, 15, 2), (q3, 15, 900), (q4, 15, 900), (q5, 14, 7), (q6, 12, 300), (q7, 12, 1500), (q8, 13, 200), (q9, 13, 200)] : List (Nat × Nat × Nat)).map (fun t => t.1)).Nodup := D_nodup hD
  have hrf : ([q1, q2, q3, q4, q5, q6, q7, q8, q9] : List Nat).Nodup := (List.nodup_cons.mp hnd).2
  have hpl := lf_pool (cy := cy) (h0 := h0) (ci := 11) (rf := (fun k => (([q1, q2, 0, q3, q4, q5, q6, 0, q7, 0, 0, 0, 0, 0, 0, 0, 0, q8, q9] : List Nat)[k]?).getD 0)) (i0 := (fun k => if k = 12 then -1 else 0)) (as := [(q1, 14, 20216), (q2, 15, 2), (q3, 15, 900), (q4, 15, 900), (q5, 14, 7), (q6, 12, 300), (q7, 12, 1500), (q8, 13, 200), (q9, 13, 200)]) (by decide) (by intro t ht; simp at ht; rcases ht with rfl | rfl | rfl | rfl | rfl | rfl | rfl | rfl | rfl <;> simp) hnd
  have hpi : PI 11 (h0 :: ([(q1, 14, 20216), (q2, 15, 2), (q3, 15, 900), (q4, 15, 900), (q5, 14, 7), (q6, 12, 300), (q7, 12, 1500), (q8, 13, 200), (q9, 13, 200)] : List (Nat × Nat × Nat)).map (fun t => t.1)) (lfK h0 11 [(q1, 14, 20216), (q2, 15, 2), (q3, 15, 900), (q4, 15, 900), (q5, 14, 7), (q6, 12, 300), (q7, 12, 1500), (q8, 13, 200), (q9, 13, 200)]) (lfS h0 (fun k => (([q1, q2, 0, q3, q4, q5, q6, 0, q7, 0, 0, 0, 0, 0, 0, 0, 0, q8, q9] : List Nat)[k]?).getD 0) (fun _ => 0) [(q1, 14, 20216), (q2, 15, 2), (q3, 15, 900), (q4, 15, 900), (q5, 14, 7), (q6, 12, 300), (q7, 12, 1500), (q8, 13, 200), (q9, 13, 200)]) h0 := by
    refine lf_PI (by decide) (by intro t ht; simp at ht; rcases ht with rfl | rfl | rfl | rfl | rfl | rfl | rfl | rfl | rfl <;> simp) hnd (fun i hi => ?_) (fun i j hi hj e => ?_)
    · rcases lay11 hi with rfl | rfl | rfl | rfl | rfl | rfl | rfl | rfl | rfl
      · exact ⟨20216, by simp [rt], fun _ => rfl⟩
      · exact ⟨2, by simp [rt], fun _ => rfl⟩
      · exact ⟨900, by simp [rt], fun _ => rfl⟩
      · exact ⟨900, by simp [rt], fun _ => rfl⟩
      · exact ⟨7, by simp [rt], fun _ => rfl⟩
      · exact ⟨300, by simp [rt], fun _ => rfl⟩
      · exact ⟨1500, by simp [rt], fun _ => rfl⟩
      · exact ⟨200, by simp [rt], fun _ => rfl⟩
      · exact ⟨200, by simp [rt], fun _ => rfl⟩
    · have hp : ∀ i, (lay 11)[i]? = some 2 → ∃ k, k < 9 ∧ (([q1, q2, 0, q3, q4, q5, q6, 0, q7, 0, 0, 0, 0, 0, 0, 0, 0, q8, q9] : List Nat)[i]?).getD 0 = (([q1, q2, q3, q4, q5, q6, q7, q8, q9] : List Nat)[k]?).getD 0 ∧ i = (([0, 1, 3, 4, 5, 6, 8, 17, 18] : List Nat)[k]?).getD 0 := fun i hi => by
        rcases lay11 hi with rfl | rfl | rfl | rfl | rfl | rfl | rfl | rfl | rfl
        · exact ⟨0, by decide, rfl, rfl⟩
        · exact ⟨1, by decide, rfl, rfl⟩
        · exact ⟨2, by decide, rfl, rfl⟩
        · exact ⟨3, by decide, rfl, rfl⟩
        · exact ⟨4, by decide, rfl, rfl⟩
        · exact ⟨5, by decide, rfl, rfl⟩
        · exact ⟨6, by decide, rfl, rfl⟩
        · exact ⟨7, by decide, rfl, rfl⟩
        · exact ⟨8, by decide, rfl, rfl⟩
      obtain ⟨k, k1, k2, k3⟩ := hp i hi
      obtain ⟨k', k1', k2', k3'⟩ := hp j hj
      have e' := (k2.symm.trans e).trans k2'
      have := nd_inj hrf (i := k) (j := k') k1 k1' e'
      rw [k3, k3', this]
  rw [show ((h0, .inr (11, fvs (lfS h0 (fun k => (([q1, q2, 0, q3, q4, q5, q6, 0, q7, 0, 0, 0, 0, 0, 0, 0, 0, q8, q9] : List Nat)[k]?).getD 0) (fun k => if k = 12 then -1 else 0) [(q1, 14, 20216), (q2, 15, 2), (q3, 15, 900), (q4, 15, 900), (q5, 14, 7), (q6, 12, 300), (q7, 12, 1500), (q8, 13, 200), (q9, 13, 200)]) h0 0 (lay 11))) :: ([(q1, 14, 20216), (q2, 15, 2), (q3, 15, 900), (q4, 15, 900), (q5, 14, 7), (q6, 12, 300), (q7, 12, 1500), (q8, 13, 200), (q9, 13, 200)] : List (Nat × Nat × Nat)).map (fun t => (t.1, arE cy t)) : va_W) = [(h0, .inr (11, [.ref q1, .ref q2, .int 0, .ref q3, .ref q4, .ref q5, .ref q6, .int 0, .ref q7, .int 0, .int 0, .int 0, .int (-1), .int 0, .int 0, .int 0, .long 0, .ref q8, .ref q9, .int 0, .int 0, .int 0])), (q1, .inl (cy 2, 20216, .inr (.inl (fun _ => 0)))), (q2, .inl (cy 3, 2, .inl (fun _ => 0))), (q3, .inl (cy 3, 900, .inl (fun _ => 0))), (q4, .inl (cy 3, 900, .inl (fun _ => 0))), (q5, .inl (cy 2, 7, .inr (.inl (fun _ => 0)))), (q6, .inl (cy 0, 300, .inl (fun _ => 0))), (q7, .inl (cy 0, 1500, .inl (fun _ => 0))), (q8, .inl (cy 1, 200, .inl (fun _ => 0))), (q9, .inl (cy 1, 200, .inl (fun _ => 0)))] from by simp [fvs, fv, lfS, lay, gI, gJ, gR, arE]] at hpl
  rw [← hpl] at hP hD
  have hr0 : gR (lfS h0 (fun k => (([q1, q2, 0, q3, q4, q5, q6, 0, q7, 0, 0, 0, 0, 0, 0, 0, 0, q8, q9] : List Nat)[k]?).getD 0) (fun k => if k = 12 then -1 else 0) [(q1, 14, 20216), (q2, 15, 2), (q3, 15, 900), (q4, 15, 900), (q5, 14, 7), (q6, 12, 300), (q7, 12, 1500), (q8, 13, 200), (q9, 13, 200)]) h0 0 = q1 := by simp [gR, lfS]
  have q1h : q1 ≠ h0 := fun z => by have := hnd; rw [z] at this; simp at this
  have hn0 : gN (lfS h0 (fun k => (([q1, q2, 0, q3, q4, q5, q6, 0, q7, 0, 0, 0, 0, 0, 0, 0, 0, q8, q9] : List Nat)[k]?).getD 0) (fun k => if k = 12 then -1 else 0) [(q1, 14, 20216), (q2, 15, 2), (q3, 15, 900), (q4, 15, 900), (q5, 14, 7), (q6, 12, 300), (q7, 12, 1500), (q8, 13, 200), (q9, 13, 200)]) q1 = 20216 := by simp [gN, lfS, lfF, q1h]
  have hct := c_X12_clearBlock (lfS h0 (fun k => (([q1, q2, 0, q3, q4, q5, q6, 0, q7, 0, 0, 0, 0, 0, 0, 0, 0, q8, q9] : List Nat)[k]?).getD 0) (fun k => if k = 12 then -1 else 0) [(q1, 14, 20216), (q2, 15, 2), (q3, 15, 900), (q4, 15, 900), (q5, 14, 7), (q6, 12, 300), (q7, 12, 1500), (q8, 13, 200), (q9, 13, 200)]) h0 0
  rw [clr_raw (i1 := 0) rfl hr0 hn0] at hct
  refine w_call (X := []) (ci := 11) (b := h0) (As := [.int 0]) (rest := []) hx hb hml hown hts hK hA hE mv_X12_44 hct rfl (fun q hq => by rw [List.mem_singleton.mp hq]; exact ⟨hpi.1, hpi.2.1⟩) rfl (by decide) ⟨hpi.1, hpi.2.1⟩ (show WT (h0 :: ([(q1, 14, 20216), (q2, 15, 2), (q3, 15, 900), (q4, 15, 900), (q5, 14, 7), (q6, 12, 300), (q7, 12, 1500), (q8, 13, 200), (q9, 13, 200)] : List (Nat × Nat × Nat)).map (fun t => t.1)) (lfK h0 11 [(q1, 14, 20216), (q2, 15, 2), (q3, 15, 900), (q4, 15, 900), (q5, 14, 7), (q6, 12, 300), (q7, 12, 1500), (q8, 13, 200), (q9, 13, 200)]) (lfS h0 (fun k => (([q1, q2, 0, q3, q4, q5, q6, 0, q7, 0, 0, 0, 0, 0, 0, 0, 0, q8, q9] : List Nat)[k]?).getD 0) (fun k => if k = 12 then -1 else 0) [(q1, 14, 20216), (q2, 15, 2), (q3, 15, 900), (q4, 15, 900), (q5, 14, 7), (q6, 12, 300), (q7, 12, 1500), (q8, 13, 200), (q9, 13, 200)]) from hpi.2.2.1.1) rfl hl.1 rfl (Nat.le_of_ble_eq_true rfl) (Nat.le_of_ble_eq_true rfl) (Nat.le_of_ble_eq_true rfl) (Nat.le_of_ble_eq_true rfl) (Nat.le_of_ble_eq_true rfl) (dk okd_X12_init 43 rfl) hP hD hS (fun H locs hP hD hS => ?_)
  have yq : YQ (h0 :: ([(q1, 14, 20216), (q2, 15, 2), (q3, 15, 900), (q4, 15, 900), (q5, 14, 7), (q6, 12, 300), (q7, 12, 1500), (q8, 13, 200), (q9, 13, 200)] : List (Nat × Nat × Nat)).map (fun t => t.1)) (qJ (lfS h0 (fun k => (([q1, q2, 0, q3, q4, q5, q6, 0, q7, 0, 0, 0, 0, 0, 0, 0, 0, q8, q9] : List Nat)[k]?).getD 0) (fun k => if k = 12 then -1 else 0) [(q1, 14, 20216), (q2, 15, 2), (q3, 15, 900), (q4, 15, 900), (q5, 14, 7), (q6, 12, 300), (q7, 12, 1500), (q8, 13, 200), (q9, 13, 200)]) q1 (cbv (gJ (lfS h0 (fun k => (([q1, q2, 0, q3, q4, q5, q6, 0, q7, 0, 0, 0, 0, 0, 0, 0, 0, q8, q9] : List Nat)[k]?).getD 0) (fun k => if k = 12 then -1 else 0) [(q1, 14, 20216), (q2, 15, 2), (q3, 15, 900), (q4, 15, 900), (q5, 14, 7), (q6, 12, 300), (q7, 12, 1500), (q8, 13, 200), (q9, 13, 200)]) q1) 0)) (lfS h0 (fun k => (([q1, q2, 0, q3, q4, q5, q6, 0, q7, 0, 0, 0, 0, 0, 0, 0, 0, q8, q9] : List Nat)[k]?).getD 0) (fun _ => 0) [(q1, 14, 20216), (q2, 15, 2), (q3, 15, 900), (q4, 15, 900), (q5, 14, 7), (q6, 12, 300), (q7, 12, 1500), (q8, 13, 200), (q9, 13, 200)]) h0 := by
    intro a i ha
    have z1 : gR (lfS h0 (fun k => (([q1, q2, 0, q3, q4, q5, q6, 0, q7, 0, 0, 0, 0, 0, 0, 0, 0, q8, q9] : List Nat)[k]?).getD 0) (fun _ => 0) [(q1, 14, 20216), (q2, 15, 2), (q3, 15, 900), (q4, 15, 900), (q5, 14, 7), (q6, 12, 300), (q7, 12, 1500), (q8, 13, 200), (q9, 13, 200)]) h0 0 = q1 := by simp [gR, lfS]
    refine ⟨?_, ?_, rfl, rfl⟩
    · show (if a = h0 then (if i = 12 then (-1 : Int32) else 0) else 0) = _
      by_cases h1 : a = h0
      · by_cases h2 : i = 12
        · rw [if_pos h1, if_pos h2, if_pos ⟨h1, h2⟩]
        · rw [if_pos h1, if_neg h2, if_neg (fun z => h2 z.2)]
      · rw [if_neg h1, if_neg (fun z => h1 z.1)]
    · rw [z1, gJ_qJ]
      rfl
  exact W.vret hx hb hr (fun t ht hW => ⟨⟨rfl, _, _, _, _, by rw [ht]; exact hP, hD, hpi, yq⟩, hS.F ht⟩) hS.2.2 (dk okd_X12_init 44 rfl) hlocks
