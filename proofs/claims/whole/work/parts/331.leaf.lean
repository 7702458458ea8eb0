/-! contracts of constructors -/
def raw (ci : Nat) : List Value := (lay ci).map (fun t => if t = 0 then .int 0 else if t = 1 then .long 0 else .null)
def QI (ci : Nat) (G : va_G) (cy : Nat → ClassId) (A : Nat → Prop) (h0 : Nat) : Array Value → State → Outcome → State → Prop := fun _ st oc t => (oc = .returned none ∧ ∃ (L : List Nat) (K : Nat → Nat) (S : St), va_P G vwCl (plw cy L K S) t.heap ∧ va_D A (plw cy L K S) ∧ PI ci L K S h0) ∧ va_F A st t
def PcI (ci h0 sz : Nat) (G : va_G) (cy : Nat → ClassId) : Array Value → State → Prop := va_Pc [.ref h0] (fun U => U.heap.size = sz ∧ va_P G vwCl [(h0, .inr (ci, raw ci))] U.heap ∧ va_K G vwCl (tys cy) U ∧ va_D (fun _ => True) [(h0, .inr (ci, raw ci))] ∧ EX cy (va_A [(h0, .inr (ci, raw ci))] sz) U)
abbrev rmi (fr lo mc ms : Nat) : Room := { frames := fr, cells := mc, slots := ms, locals := lo }
def CtI (y : MethodName) (cc : ByteArray) (nL ci fr lo mc ms : Nat) : Prop := ∀ (l : Launch) (G : va_G) (cy : Nat → ClassId) (h0 sz : Nat), Met l y (Cond.code y cc nL none :: TT) (rmi fr lo mc ms) (PcI ci h0 sz G cy) (QI ci G cy (va_A [(h0, .inr (ci, raw ci))] sz) h0) mc ms (va_A [(h0, .inr (ci, raw ci))] sz)
theorem D_nodup {A : Nat → Prop} {ws : va_W} (h : va_D A ws) : (ws.map (fun q => q.1)).Nodup := by
  rw [List.Nodup, List.pairwise_iff_getElem]
  intro i j hi hj hij e
  rw [List.length_map] at hi hj
  rw [List.getElem_map, List.getElem_map] at e
  have := h.1 i j ws[i] ws[j] (List.getElem?_eq_getElem hi) (List.getElem?_eq_getElem hj) e
  omega
theorem nd_inj {l : List Nat} (h : l.Nodup) {i j : Nat} (hi : i < l.length) (hj : j < l.length) (e : (l[i]?).getD 0 = (l[j]?).getD 0) : i = j := by
  rw [List.getElem?_eq_getElem hi, List.getElem?_eq_getElem hj] at e
  simp only [Option.getD_some] at e
  rw [List.Nodup, List.pairwise_iff_getElem] at h
  rcases Nat.lt_trichotomy i j with q | q | q
  · exact absurd e (h i j hi hj q)
  · exact q
  · exact absurd e.symm (h j i hj hi q)

theorem ow_inst : Cond.instanceMethod Lib.objectInit ∈ TT := TT_1 (i := 34) rfl rfl
theorem ow_code : Cond.code Lib.objectInit ⟨#[0xb1]⟩ 1 none ∈ TT := TT_1 (i := 35) rfl rfl
theorem aw_byte : Cond.arrayClass .byte ∈ TT := TT_1 (i := 76) rfl rfl
theorem aw_int : Cond.arrayClass .int ∈ TT := TT_1 (i := 111) rfl rfl
theorem aw_long : Cond.arrayClass .long ∈ TT := TT_1 (i := 178) rfl rfl
theorem aw_boolean : Cond.arrayClass .boolean ∈ TT := TT_2 (i := 183) rfl rfl
theorem ml_X0_3 : Cond.methodLink RX0 3 Lib.objectInit ∈ TT := TT_2 (i := 56) rfl rfl
theorem fw_X0_9 : Cond.fieldLink RX0 9 RX0 (TX0 0).2.1 (TX0 0).2.2.1 ∈ TT := TT_2 (i := 57) rfl rfl
theorem fw_X0_15 : Cond.fieldLink RX0 15 RX0 (TX0 1).2.1 (TX0 1).2.2.1 ∈ TT := TT_2 (i := 58) rfl rfl
theorem fw_X0_18 : Cond.fieldLink RX0 18 RX0 (TX0 2).2.1 (TX0 2).2.2.1 ∈ TT := TT_2 (i := 59) rfl rfl
theorem fw_X0_21 : Cond.fieldLink RX0 21 RX0 (TX0 3).2.1 (TX0 3).2.2.1 ∈ TT := TT_2 (i := 60) rfl rfl
theorem fw_X0_24 : Cond.fieldLink RX0 24 RX0 (TX0 4).2.1 (TX0 4).2.2.1 ∈ TT := TT_2 (i := 63) rfl rfl
theorem fw_X0_27 : Cond.fieldLink RX0 27 RX0 (TX0 5).2.1 (TX0 5).2.2.1 ∈ TT := TT_2 (i := 64) rfl rfl
def ed_X0_init : List (Nat × Instr × Nat) := [(0, .aload_n 0, 1), (1, .invokespecial 3, 3), (4, .aload_n 0, 1), (5, .sipush 480, 3), (8, .newarray .long, 2), (10, .putfield 9, 3), (13, .aload_n 0, 1), (14, .sipush 3360, 3), (17, .newarray .long, 2), (19, .putfield 15, 3), (22, .aload_n 0, 1), (23, .bipush 64, 2), (25, .newarray .long, 2), (27, .putfield 18, 3), (30, .aload_n 0, 1), (31, .bipush 8, 2), (33, .newarray .long, 2), (35, .putfield 21, 3), (38, .aload_n 0, 1), (39, .bipush 8, 2), (41, .newarray .long, 2), (43, .putfield 24, 3), (46, .aload_n 0, 1), (47, .iconst 3, 1), (48, .newarray .long, 2), (50, .putfield 27, 3), (53, .return_, 1)]
theorem okd_X0_init : ed_X0_init.all (okD cX0_init) = true := by decide +kernel
theorem lay_lt_X0 {i : Nat} (h : (lay 0)[i]? = some 2) : i < 6 := by
  rcases Nat.lt_or_ge i 6 with q | q
  · exact q
  · exfalso
    have hl := (List.getElem?_eq_some_iff.mp h).1
    simp only [lay, List.length_cons, List.length_nil] at hl
    rcases (show i = 6 by omega) with rfl <;> simp [lay] at h
set_option maxHeartbeats 4000000 in
set_option maxRecDepth 100000 in
theorem c_X0_init : CtI yX0_init cX0_init 1 0 1 12 6 3923 := by
  intro l G cy h0 sz
  refine Met.ofW (cc := cX0_init) (maxL := 1) (ret := none) (by decide) rfl ?_
  intro p e s m args below meth c s₁ B hml hv
  obtain ⟨rfl, hsz, hP, hK, hD0, hE⟩ := hv
  have hx := B.exec
  have hb := B.bytes
  have hr := B.returns
  have hts0 := atoms_spec (ws := Cond.code yX0_init cX0_init 1 none :: TT) B.pre
  have hts := fun w hw => hts0 w (List.mem_cons_of_mem _ hw)
  have hown : s.vm.findClass RX0 = some m.cls := findClass_of_methodNamed B.named
  have hlocks := B.notSynchronized
  have hin : meth.name = "<init>" := (name_of_methodNamed B.named B.method).1
  subst hsz
  have hD := hD0.self (sz := s.heap.size)
  generalize hAe : va_A [(h0, .inr (0, raw 0))] s.heap.size = A at hD ⊢
  have hA : ∀ q : Nat, s.heap.size ≤ q → A q := fun q h => by rw [← hAe]; exact Or.inr h
  have hS : va_S A s.heap s.heap [] := va_S.rf
  have hP : va_P G vwCl [(h0, .inr (0, [.null, .null, .null, .null, .null, .null, .int 0]))] s.heap := hP
  have hD : va_D A [(h0, .inr (0, [.null, .null, .null, .null, .null, .null, .int 0]))] := hD
  have hl := lv_entry ([.ref h0]) (n := 1) (Nat.le_of_ble_eq_true rfl)
  rw [lg_entry_eq]
  generalize (lg_sl ([.ref h0]) ++ List.replicate (1 - (lg_sl ([.ref h0])).length) Slot.unset).toArray = ls at hl ⊢
  have hl : lv_has ls 1 [(0, .ref h0)] := hl
  refine lv_aload_n hx hb (dk okd_X0_init 0 rfl) rfl (lv_at hl 0 rfl) ?_
  refine W.objInit hx hb hown (hts _ ml_X0_3) (hts _ ow_inst) (hts _ ow_code) rfl (by rw [hml]; exact hl.1) rfl (dk okd_X0_init 1 rfl) (Nat.le_of_ble_eq_true rfl) (Nat.le_of_ble_eq_true rfl) ?_
  refine W.eq (g2 := F0 m 4 ls []) rfl ?_
  refine lv_aload_n hx hb (dk okd_X0_init 2 rfl) rfl (lv_at hl 0 rfl) ?_
  refine lv_sipush (v := 480) hx hb (dk okd_X0_init 3 rfl) (by decide) ?_
  refine va_newa (atype := .long) (ty := .long) (N' := 480) (a0 := (480, .inr (.inl (fun _ => 0)))) hx hb (hts _ aw_long) rfl hK hP hD hS hA (fun cA => rfl) (by decide) (by decide) (Nat.le_of_ble_eq_true rfl) (Nat.le_of_ble_eq_true rfl) (Nat.le_of_ble_eq_true rfl) (dk okd_X0_init 4 rfl) (fun q1 cA H hK2 hP hD hS => ?_)
  have ecA : cA = cy 2 := cy_eq hK2 (i := 5) (j := 2) rfl rfl (fun C h => by cases h)
  subst ecA
  refine W.widen (k := 1) (n := 480) (Nat.le_of_ble_eq_true rfl) (Nat.le_of_ble_eq_true rfl) ?_
  refine va_putF (D := G) (ci := 0) (v := .ref q1) (ty := tyX0 0) (C := RX0) (T := TX0) (N := 7) hx hb hts uw_X0 tyX0 tyX0_ok nmX0 hown hK hP hD hS 0 rfl rfl 0 (by decide) (hts _ fw_X0_9) (fun _ h9 => h9) rfl hin rfl (tyX0_ok 0 (by decide)) rfl rfl (Nat.le_of_ble_eq_true rfl) (dk okd_X0_init 5 rfl) (fun H locs hP hD hS => ?_)
  have hP : va_P G vwCl [(h0, .inr (0, [.ref q1, .null, .null, .null, .null, .null, .int 0])), (q1, .inl (cy 2, 480, .inr (.inl (fun _ => 0))))] H := hP
  have hD : va_D A [(h0, .inr (0, [.ref q1, .null, .null, .null, .null, .null, .int 0])), (q1, .inl (cy 2, 480, .inr (.inl (fun _ => 0))))] := hD
  refine lv_aload_n hx hb (dk okd_X0_init 6 rfl) rfl (lv_at hl 0 rfl) ?_
  refine lv_sipush (v := 3360) hx hb (dk okd_X0_init 7 rfl) (by decide) ?_
  refine va_newa (atype := .long) (ty := .long) (N' := 3360) (a0 := (3360, .inr (.inl (fun _ => 0)))) hx hb (hts _ aw_long) rfl hK hP hD hS hA (fun cA => rfl) (by decide) (by decide) (Nat.le_of_ble_eq_true rfl) (Nat.le_of_ble_eq_true rfl) (Nat.le_of_ble_eq_true rfl) (dk okd_X0_init 8 rfl) (fun q2 cA H hK2 hP hD hS => ?_)
  have ecA : cA = cy 2 := cy_eq hK2 (i := 5) (j := 2) rfl rfl (fun C h => by cases h)
  subst ecA
  refine W.widen (k := 2) (n := 3840) (Nat.le_of_ble_eq_true rfl) (Nat.le_of_ble_eq_true rfl) ?_
  refine va_putF (D := G) (ci := 0) (v := .ref q2) (ty := tyX0 1) (C := RX0) (T := TX0) (N := 7) hx hb hts uw_X0 tyX0 tyX0_ok nmX0 hown hK hP hD hS 0 rfl rfl 1 (by decide) (hts _ fw_X0_15) (fun _ h9 => h9) rfl hin rfl (tyX0_ok 1 (by decide)) rfl rfl (Nat.le_of_ble_eq_true rfl) (dk okd_X0_init 9 rfl) (fun H locs hP hD hS => ?_)
  have hP : va_P G vwCl [(h0, .inr (0, [.ref q1, .ref q2, .null, .null, .null, .null, .int 0])), (q1, .inl (cy 2, 480, .inr (.inl (fun _ => 0)))), (q2, .inl (cy 2, 3360, .inr (.inl (fun _ => 0))))] H := hP
  have hD : va_D A [(h0, .inr (0, [.ref q1, .ref q2, .null, .null, .null, .null, .int 0])), (q1, .inl (cy 2, 480, .inr (.inl (fun _ => 0)))), (q2, .inl (cy 2, 3360, .inr (.inl (fun _ => 0))))] := hD
  refine lv_aload_n hx hb (dk okd_X0_init 10 rfl) rfl (lv_at hl 0 rfl) ?_
  refine lv_bipush (v := 64) hx hb (dk okd_X0_init 11 rfl) (by decide) ?_
  refine va_newa (atype := .long) (ty := .long) (N' := 64) (a0 := (64, .inr (.inl (fun _ => 0)))) hx hb (hts _ aw_long) rfl hK hP hD hS hA (fun cA => rfl) (by decide) (by decide) (Nat.le_of_ble_eq_true rfl) (Nat.le_of_ble_eq_true rfl) (Nat.le_of_ble_eq_true rfl) (dk okd_X0_init 12 rfl) (fun q3 cA H hK2 hP hD hS => ?_)
  have ecA : cA = cy 2 := cy_eq hK2 (i := 5) (j := 2) rfl rfl (fun C h => by cases h)
  subst ecA
  refine W.widen (k := 3) (n := 3904) (Nat.le_of_ble_eq_true rfl) (Nat.le_of_ble_eq_true rfl) ?_
  refine va_putF (D := G) (ci := 0) (v := .ref q3) (ty := tyX0 2) (C := RX0) (T := TX0) (N := 7) hx hb hts uw_X0 tyX0 tyX0_ok nmX0 hown hK hP hD hS 0 rfl rfl 2 (by decide) (hts _ fw_X0_18) (fun _ h9 => h9) rfl hin rfl (tyX0_ok 2 (by decide)) rfl rfl (Nat.le_of_ble_eq_true rfl) (dk okd_X0_init 13 rfl) (fun H locs hP hD hS => ?_)
  have hP : va_P G vwCl [(h0, .inr (0, [.ref q1, .ref q2, .ref q3, .null, .null, .null, .int 0])), (q1, .inl (cy 2, 480, .inr (.inl (fun _ => 0)))), (q2, .inl (cy 2, 3360, .inr (.inl (fun _ => 0)))), (q3, .inl (cy 2, 64, .inr (.inl (fun _ => 0))))] H := hP
  have hD : va_D A [(h0, .inr (0, [.ref q1, .ref q2, .ref q3, .null, .null, .null, .int 0])), (q1, .inl (cy 2, 480, .inr (.inl (fun _ => 0)))), (q2, .inl (cy 2, 3360, .inr (.inl (fun _ => 0)))), (q3, .inl (cy 2, 64, .inr (.inl (fun _ => 0))))] := hD
  refine lv_aload_n hx hb (dk okd_X0_init 14 rfl) rfl (lv_at hl 0 rfl) ?_
  refine lv_bipush (v := 8) hx hb (dk okd_X0_init 15 rfl) (by decide) ?_
  refine va_newa (atype := .long) (ty := .long) (N' := 8) (a0 := (8, .inr (.inl (fun _ => 0)))) hx hb (hts _ aw_long) rfl hK hP hD hS hA (fun cA => rfl) (by decide) (by decide) (Nat.le_of_ble_eq_true rfl) (Nat.le_of_ble_eq_true rfl) (Nat.le_of_ble_eq_true rfl) (dk okd_X0_init 16 rfl) (fun q4 cA H hK2 hP hD hS => ?_)
  have ecA : cA = cy 2 := cy_eq hK2 (i := 5) (j := 2) rfl rfl (fun C h => by cases h)
  subst ecA
  refine W.widen (k := 4) (n := 3912) (Nat.le_of_ble_eq_true rfl) (Nat.le_of_ble_eq_true rfl) ?_
  refine va_putF (D := G) (ci := 0) (v := .ref q4) (ty := tyX0 3) (C := RX0) (T := TX0) (N := 7) hx hb hts uw_X0 tyX0 tyX0_ok nmX0 hown hK hP hD hS 0 rfl rfl 3 (by decide) (hts _ fw_X0_21) (fun _ h9 => h9) rfl hin rfl (tyX0_ok 3 (by decide)) rfl rfl (Nat.le_of_ble_eq_true rfl) (dk okd_X0_init 17 rfl) (fun H locs hP hD hS => ?_)
  have hP : va_P G vwCl [(h0, .inr (0, [.ref q1, .ref q2, .ref q3, .ref q4, .null, .null, .int 0])), (q1, .inl (cy 2, 480, .inr (.inl (fun _ => 0)))), (q2, .inl (cy 2, 3360, .inr (.inl (fun _ => 0)))), (q3, .inl (cy 2, 64, .inr (.inl (fun _ => 0)))), (q4, .inl (cy 2, 8, .inr (.inl (fun _ => 0))))] H := hP
  have hD : va_D A [(h0, .inr (0, [.ref q1, .ref q2, .ref q3, .ref q4, .null, .null, .int 0])), (q1, .inl (cy 2, 480, .inr (.inl (fun _ => 0)))), (q2, .inl (cy 2, 3360, .inr (.inl (fun _ => 0)))), (q3, .inl (cy 2, 64, .inr (.inl (fun _ => 0)))), (q4, .inl (cy 2, 8, .inr (.inl (fun _ => 0))))] := hD
  refine lv_aload_n hx hb (dk okd_X0_init 18 rfl) rfl (lv_at hl 0 rfl) ?_
  refine lv_bipush (v := 8) hx hb (dk okd_X0_init 19 rfl) (by decide) ?_
  refine va_newa (atype := .long) (ty := .long) (N' := 8) (a0 := (8, .inr (.inl (fun _ => 0)))) hx hb (hts _ aw_long) rfl hK hP hD hS hA (fun cA => rfl) (by decide) (by decide) (Nat.le_of_ble_eq_true rfl) (Nat.le_of_ble_eq_true rfl) (Nat.le_of_ble_eq_true rfl) (dk okd_X0_init 20 rfl) (fun q5 cA H hK2 hP hD hS => ?_)
  have ecA : cA = cy 2 := cy_eq hK2 (i := 5) (j := 2) rfl rfl (fun C h => by cases h)
  subst ecA
  refine W.widen (k := 5) (n := 3920) (Nat.le_of_ble_eq_true rfl) (Nat.le_of_ble_eq_true rfl) ?_
  refine va_putF (D := G) (ci := 0) (v := .ref q5) (ty := tyX0 4) (C := RX0) (T := TX0) (N := 7) hx hb hts uw_X0 tyX0 tyX0_ok nmX0 hown hK hP hD hS 0 rfl rfl 4 (by decide) (hts _ fw_X0_24) (fun _ h9 => h9) rfl hin rfl (tyX0_ok 4 (by decide)) rfl rfl (Nat.le_of_ble_eq_true rfl) (dk okd_X0_init 21 rfl) (fun H locs hP hD hS => ?_)
  have hP : va_P G vwCl [(h0, .inr (0, [.ref q1, .ref q2, .ref q3, .ref q4, .ref q5, .null, .int 0])), (q1, .inl (cy 2, 480, .inr (.inl (fun _ => 0)))), (q2, .inl (cy 2, 3360, .inr (.inl (fun _ => 0)))), (q3, .inl (cy 2, 64, .inr (.inl (fun _ => 0)))), (q4, .inl (cy 2, 8, .inr (.inl (fun _ => 0)))), (q5, .inl (cy 2, 8, .inr (.inl (fun _ => 0))))] H := hP
  have hD : va_D A [(h0, .inr (0, [.ref q1, .ref q2, .ref q3, .ref q4, .ref q5, .null, .int 0])), (q1, .inl (cy 2, 480, .inr (.inl (fun _ => 0)))), (q2, .inl (cy 2, 3360, .inr (.inl (fun _ => 0)))), (q3, .inl (cy 2, 64, .inr (.inl (fun _ => 0)))), (q4, .inl (cy 2, 8, .inr (.inl (fun _ => 0)))), (q5, .inl (cy 2, 8, .inr (.inl (fun _ => 0))))] := hD
  refine lv_aload_n hx hb (dk okd_X0_init 22 rfl) rfl (lv_at hl 0 rfl) ?_
  refine lv_iconst (v := 3) hx hb (dk okd_X0_init 23 rfl) (by decide) ?_
  refine va_newa (atype := .long) (ty := .long) (N' := 3) (a0 := (3, .inr (.inl (fun _ => 0)))) hx hb (hts _ aw_long) rfl hK hP hD hS hA (fun cA => rfl) (by decide) (by decide) (Nat.le_of_ble_eq_true rfl) (Nat.le_of_ble_eq_true rfl) (Nat.le_of_ble_eq_true rfl) (dk okd_X0_init 24 rfl) (fun q6 cA H hK2 hP hD hS => ?_)
  have ecA : cA = cy 2 := cy_eq hK2 (i := 5) (j := 2) rfl rfl (fun C h => by cases h)
  subst ecA
  refine W.widen (k := 6) (n := 3923) (Nat.le_of_ble_eq_true rfl) (Nat.le_of_ble_eq_true rfl) ?_
  refine va_putF (D := G) (ci := 0) (v := .ref q6) (ty := tyX0 5) (C := RX0) (T := TX0) (N := 7) hx hb hts uw_X0 tyX0 tyX0_ok nmX0 hown hK hP hD hS 0 rfl rfl 5 (by decide) (hts _ fw_X0_27) (fun _ h9 => h9) rfl hin rfl (tyX0_ok 5 (by decide)) rfl rfl (Nat.le_of_ble_eq_true rfl) (dk okd_X0_init 25 rfl) (fun H locs hP hD hS => ?_)
  have hP : va_P G vwCl [(h0, .inr (0, [.ref q1, .ref q2, .ref q3, .ref q4, .ref q5, .ref q6, .int 0])), (q1, .inl (cy 2, 480, .inr (.inl (fun _ => 0)))), (q2, .inl (cy 2, 3360, .inr (.inl (fun _ => 0)))), (q3, .inl (cy 2, 64, .inr (.inl (fun _ => 0)))), (q4, .inl (cy 2, 8, .inr (.inl (fun _ => 0)))), (q5, .inl (cy 2, 8, .inr (.inl (fun _ => 0)))), (q6, .inl (cy 2, 3, .inr (.inl (fun _ => 0))))] H := hP
  have hD : va_D A [(h0, .inr (0, [.ref q1, .ref q2, .ref q3, .ref q4, .ref q5, .ref q6, .int 0])), (q1, .inl (cy 2, 480, .inr (.inl (fun _ => 0)))), (q2, .inl (cy 2, 3360, .inr (.inl (fun _ => 0)))), (q3, .inl (cy 2, 64, .inr (.inl (fun _ => 0)))), (q4, .inl (cy 2, 8, .inr (.inl (fun _ => 0)))), (q5, .inl (cy 2, 8, .inr (.inl (fun _ => 0)))), (q6, .inl (cy 2, 3, .inr (.inl (fun _ => 0))))] := hD
  have hnd : (h0 :: ([(q1, 14, 480), (q2, 14, 3360), (q3, 14, 64), (q4, 14, 8), (q5, 14, 8), (q6, 14, 3)] : List (Nat × Nat × Nat)).map (fun t => t.1)).Nodup := D_nodup hD
  have hrf : ([q1, q2, q3, q4, q5, q6] : List Nat).Nodup := (List.nodup_cons.mp hnd).2
  have hpl := lf_pool (cy := cy) (h0 := h0) (ci := 0) (rf := (fun k => (([q1, q2, q3, q4, q5, q6] : List Nat)[k]?).getD 0)) (i0 := fun _ => 0) (as := [(q1, 14, 480), (q2, 14, 3360), (q3, 14, 64), (q4, 14, 8), (q5, 14, 8), (q6, 14, 3)]) (by decide) (by intro t ht; simp at ht; rcases ht with rfl | rfl | rfl | rfl | rfl | rfl <;> simp) hnd
  have hpi : PI 0 (h0 :: ([(q1, 14, 480), (q2, 14, 3360), (q3, 14, 64), (q4, 14, 8), (q5, 14, 8), (q6, 14, 3)] : List (Nat × Nat × Nat)).map (fun t => t.1)) (lfK h0 0 [(q1, 14, 480), (q2, 14, 3360), (q3, 14, 64), (q4, 14, 8), (q5, 14, 8), (q6, 14, 3)]) (lfS h0 (fun k => (([q1, q2, q3, q4, q5, q6] : List Nat)[k]?).getD 0) (fun _ => 0) [(q1, 14, 480), (q2, 14, 3360), (q3, 14, 64), (q4, 14, 8), (q5, 14, 8), (q6, 14, 3)]) h0 := by
    refine lf_PI (by decide) (by intro t ht; simp at ht; rcases ht with rfl | rfl | rfl | rfl | rfl | rfl <;> simp) hnd (fun i hi => ?_) (fun i j hi hj e => ?_)
    · have hlt : i < 6 := lay_lt_X0 hi
      rcases (show i = 0 ∨ i = 1 ∨ i = 2 ∨ i = 3 ∨ i = 4 ∨ i = 5 by omega) with rfl | rfl | rfl | rfl | rfl | rfl
      · exact ⟨480, by simp [rt], fun _ => rfl⟩
      · exact ⟨3360, by simp [rt], fun _ => rfl⟩
      · exact ⟨64, by simp [rt], fun _ => rfl⟩
      · exact ⟨8, by simp [rt], fun _ => rfl⟩
      · exact ⟨8, by simp [rt], fun _ => rfl⟩
      · exact ⟨3, by simp [rt], fun _ => rfl⟩
    · exact nd_inj hrf (lay_lt_X0 hi) (lay_lt_X0 hj) e
  rw [show ((h0, .inr (0, fvs (lfS h0 (fun k => (([q1, q2, q3, q4, q5, q6] : List Nat)[k]?).getD 0) (fun _ => 0) [(q1, 14, 480), (q2, 14, 3360), (q3, 14, 64), (q4, 14, 8), (q5, 14, 8), (q6, 14, 3)]) h0 0 (lay 0))) :: ([(q1, 14, 480), (q2, 14, 3360), (q3, 14, 64), (q4, 14, 8), (q5, 14, 8), (q6, 14, 3)] : List (Nat × Nat × Nat)).map (fun t => (t.1, arE cy t)) : va_W) = [(h0, .inr (0, [.ref q1, .ref q2, .ref q3, .ref q4, .ref q5, .ref q6, .int 0])), (q1, .inl (cy 2, 480, .inr (.inl (fun _ => 0)))), (q2, .inl (cy 2, 3360, .inr (.inl (fun _ => 0)))), (q3, .inl (cy 2, 64, .inr (.inl (fun _ => 0)))), (q4, .inl (cy 2, 8, .inr (.inl (fun _ => 0)))), (q5, .inl (cy 2, 8, .inr (.inl (fun _ => 0)))), (q6, .inl (cy 2, 3, .inr (.inl (fun _ => 0))))] from by simp [fvs, fv, lfS, lay, gI, gJ, gR, arE]] at hpl
  rw [← hpl] at hP hD
  exact W.vret hx hb hr (fun t ht hW => ⟨⟨rfl, _, _, _, by rw [ht]; exact hP, hD, hpi⟩, hS.F ht⟩) hS.2.2 (dk okd_X0_init 26 rfl) hlocks
theorem ml_X2_3 : Cond.methodLink RX2 3 Lib.objectInit ∈ TT := TT_1 (i := 217) rfl rfl
theorem fw_X2_9 : Cond.fieldLink RX2 9 RX2 (TX2 0).2.1 (TX2 0).2.2.1 ∈ TT := TT_1 (i := 218) rfl rfl
theorem fw_X2_15 : Cond.fieldLink RX2 15 RX2 (TX2 1).2.1 (TX2 1).2.2.1 ∈ TT := TT_1 (i := 219) rfl rfl
theorem fw_X2_19 : Cond.fieldLink RX2 19 RX2 (TX2 2).2.1 (TX2 2).2.2.1 ∈ TT := TT_1 (i := 220) rfl rfl
theorem fw_X2_22 : Cond.fieldLink RX2 22 RX2 (TX2 3).2.1 (TX2 3).2.2.1 ∈ TT := TT_1 (i := 223) rfl rfl
theorem fw_X2_25 : Cond.fieldLink RX2 25 RX2 (TX2 4).2.1 (TX2 4).2.2.1 ∈ TT := TT_1 (i := 226) rfl rfl
theorem fw_X2_28 : Cond.fieldLink RX2 28 RX2 (TX2 5).2.1 (TX2 5).2.2.1 ∈ TT := TT_1 (i := 229) rfl rfl
theorem fw_X2_31 : Cond.fieldLink RX2 31 RX2 (TX2 6).2.1 (TX2 6).2.2.1 ∈ TT := TT_1 (i := 232) rfl rfl
theorem fw_X2_34 : Cond.fieldLink RX2 34 RX2 (TX2 7).2.1 (TX2 7).2.2.1 ∈ TT := TT_1 (i := 235) rfl rfl
def ed_X2_init : List (Nat × Instr × Nat) := [(0, .aload_n 0, 1), (1, .invokespecial 3, 3), (4, .aload_n 0, 1), (5, .bipush 80, 2), (7, .newarray .byte, 2), (9, .putfield 9, 3), (12, .aload_n 0, 1), (13, .bipush 8, 2), (15, .newarray .int, 2), (17, .putfield 15, 3), (20, .aload_n 0, 1), (21, .bipush 8, 2), (23, .newarray .int, 2), (25, .putfield 19, 3), (28, .aload_n 0, 1), (29, .bipush 8, 2), (31, .newarray .int, 2), (33, .putfield 22, 3), (36, .aload_n 0, 1), (37, .bipush 8, 2), (39, .newarray .int, 2), (41, .putfield 25, 3), (44, .aload_n 0, 1), (45, .bipush 8, 2), (47, .newarray .int, 2), (49, .putfield 28, 3), (52, .aload_n 0, 1), (53, .bipush 8, 2), (55, .newarray .int, 2), (57, .putfield 31, 3), (60, .aload_n 0, 1), (61, .bipush 8, 2), (63, .newarray .long, 2), (65, .putfield 34, 3), (68, .return_, 1)]
theorem okd_X2_init : ed_X2_init.all (okD cX2_init) = true := by decide +kernel
theorem lay_lt_X2 {i : Nat} (h : (lay 2)[i]? = some 2) : i < 8 := by
  rcases Nat.lt_or_ge i 8 with q | q
  · exact q
  · exfalso
    have hl := (List.getElem?_eq_some_iff.mp h).1
    simp only [lay, List.length_cons, List.length_nil] at hl
    rcases (show i = 8 by omega) with rfl <;> simp [lay] at h
set_option maxHeartbeats 4000000 in
set_option maxRecDepth 100000 in
theorem c_X2_init : CtI yX2_init cX2_init 1 2 1 12 8 136 := by
  intro l G cy h0 sz
  refine Met.ofW (cc := cX2_init) (maxL := 1) (ret := none) (by decide) rfl ?_
  intro p e s m args below meth c s₁ B hml hv
  obtain ⟨rfl, hsz, hP, hK, hD0, hE⟩ := hv
  have hx := B.exec
  have hb := B.bytes
  have hr := B.returns
  have hts0 := atoms_spec (ws := Cond.code yX2_init cX2_init 1 none :: TT) B.pre
  have hts := fun w hw => hts0 w (List.mem_cons_of_mem _ hw)
  have hown : s.vm.findClass RX2 = some m.cls := findClass_of_methodNamed B.named
  have hlocks := B.notSynchronized
  have hin : meth.name = "<init>" := (name_of_methodNamed B.named B.method).1
  subst hsz
  have hD := hD0.self (sz := s.heap.size)
  generalize hAe : va_A [(h0, .inr (2, raw 2))] s.heap.size = A at hD ⊢
  have hA : ∀ q : Nat, s.heap.size ≤ q → A q := fun q h => by rw [← hAe]; exact Or.inr h
  have hS : va_S A s.heap s.heap [] := va_S.rf
  have hP : va_P G vwCl [(h0, .inr (2, [.null, .null, .null, .null, .null, .null, .null, .null, .int 0]))] s.heap := hP
  have hD : va_D A [(h0, .inr (2, [.null, .null, .null, .null, .null, .null, .null, .null, .int 0]))] := hD
  have hl := lv_entry ([.ref h0]) (n := 1) (Nat.le_of_ble_eq_true rfl)
  rw [lg_entry_eq]
  generalize (lg_sl ([.ref h0]) ++ List.replicate (1 - (lg_sl ([.ref h0])).length) Slot.unset).toArray = ls at hl ⊢
  have hl : lv_has ls 1 [(0, .ref h0)] := hl
  refine lv_aload_n hx hb (dk okd_X2_init 0 rfl) rfl (lv_at hl 0 rfl) ?_
  refine W.objInit hx hb hown (hts _ ml_X2_3) (hts _ ow_inst) (hts _ ow_code) rfl (by rw [hml]; exact hl.1) rfl (dk okd_X2_init 1 rfl) (Nat.le_of_ble_eq_true rfl) (Nat.le_of_ble_eq_true rfl) ?_
  refine W.eq (g2 := F0 m 4 ls []) rfl ?_
  refine lv_aload_n hx hb (dk okd_X2_init 2 rfl) rfl (lv_at hl 0 rfl) ?_
  refine lv_bipush (v := 80) hx hb (dk okd_X2_init 3 rfl) (by decide) ?_
  refine va_newa (atype := .byte) (ty := .byte) (N' := 80) (a0 := (80, .inl (fun _ => 0))) hx hb (hts _ aw_byte) rfl hK hP hD hS hA (fun cA => rfl) (by decide) (by decide) (Nat.le_of_ble_eq_true rfl) (Nat.le_of_ble_eq_true rfl) (Nat.le_of_ble_eq_true rfl) (dk okd_X2_init 4 rfl) (fun q1 cA H hK2 hP hD hS => ?_)
  have ecA : cA = cy 0 := cy_eq hK2 (i := 5) (j := 0) rfl rfl (fun C h => by cases h)
  subst ecA
  refine W.widen (k := 1) (n := 80) (Nat.le_of_ble_eq_true rfl) (Nat.le_of_ble_eq_true rfl) ?_
  refine va_putF (D := G) (ci := 2) (v := .ref q1) (ty := tyX2 0) (C := RX2) (T := TX2) (N := 9) hx hb hts uw_X2 tyX2 tyX2_ok nmX2 hown hK hP hD hS 0 rfl rfl 0 (by decide) (hts _ fw_X2_9) (fun _ h9 => h9) rfl hin rfl (tyX2_ok 0 (by decide)) rfl rfl (Nat.le_of_ble_eq_true rfl) (dk okd_X2_init 5 rfl) (fun H locs hP hD hS => ?_)
  have hP : va_P G vwCl [(h0, .inr (2, [.ref q1, .null, .null, .null, .null, .null, .null, .null, .int 0])), (q1, .inl (cy 0, 80, .inl (fun _ => 0)))] H := hP
  have hD : va_D A [(h0, .inr (2, [.ref q1, .null, .null, .null, .null, .null, .null, .null, .int 0])), (q1, .inl (cy 0, 80, .inl (fun _ => 0)))] := hD
  refine lv_aload_n hx hb (dk okd_X2_init 6 rfl) rfl (lv_at hl 0 rfl) ?_
  refine lv_bipush (v := 8) hx hb (dk okd_X2_init 7 rfl) (by decide) ?_
  refine va_newa (atype := .int) (ty := .int) (N' := 8) (a0 := (8, .inl (fun _ => 0))) hx hb (hts _ aw_int) rfl hK hP hD hS hA (fun cA => rfl) (by decide) (by decide) (Nat.le_of_ble_eq_true rfl) (Nat.le_of_ble_eq_true rfl) (Nat.le_of_ble_eq_true rfl) (dk okd_X2_init 8 rfl) (fun q2 cA H hK2 hP hD hS => ?_)
  have ecA : cA = cy 1 := cy_eq hK2 (i := 5) (j := 1) rfl rfl (fun C h => by cases h)
  subst ecA
  refine W.widen (k := 2) (n := 88) (Nat.le_of_ble_eq_true rfl) (Nat.le_of_ble_eq_true rfl) ?_
  refine va_putF (D := G) (ci := 2) (v := .ref q2) (ty := tyX2 1) (C := RX2) (T := TX2) (N := 9) hx hb hts uw_X2 tyX2 tyX2_ok nmX2 hown hK hP hD hS 0 rfl rfl 1 (by decide) (hts _ fw_X2_15) (fun _ h9 => h9) rfl hin rfl (tyX2_ok 1 (by decide)) rfl rfl (Nat.le_of_ble_eq_true rfl) (dk okd_X2_init 9 rfl) (fun H locs hP hD hS => ?_)
  have hP : va_P G vwCl [(h0, .inr (2, [.ref q1, .ref q2, .null, .null, .null, .null, .null, .null, .int 0])), (q1, .inl (cy 0, 80, .inl (fun _ => 0))), (q2, .inl (cy 1, 8, .inl (fun _ => 0)))] H := hP
  have hD : va_D A [(h0, .inr (2, [.ref q1, .ref q2, .null, .null, .null, .null, .null, .null, .int 0])), (q1, .inl (cy 0, 80, .inl (fun _ => 0))), (q2, .inl (cy 1, 8, .inl (fun _ => 0)))] := hD
  refine lv_aload_n hx hb (dk okd_X2_init 10 rfl) rfl (lv_at hl 0 rfl) ?_
  refine lv_bipush (v := 8) hx hb (dk okd_X2_init 11 rfl) (by decide) ?_
  refine va_newa (atype := .int) (ty := .int) (N' := 8) (a0 := (8, .inl (fun _ => 0))) hx hb (hts _ aw_int) rfl hK hP hD hS hA (fun cA => rfl) (by decide) (by decide) (Nat.le_of_ble_eq_true rfl) (Nat.le_of_ble_eq_true rfl) (Nat.le_of_ble_eq_true rfl) (dk okd_X2_init 12 rfl) (fun q3 cA H hK2 hP hD hS => ?_)
  have ecA : cA = cy 1 := cy_eq hK2 (i := 5) (j := 1) rfl rfl (fun C h => by cases h)
  subst ecA
  refine W.widen (k := 3) (n := 96) (Nat.le_of_ble_eq_true rfl) (Nat.le_of_ble_eq_true rfl) ?_
  refine va_putF (D := G) (ci := 2) (v := .ref q3) (ty := tyX2 2) (C := RX2) (T := TX2) (N := 9) hx hb hts uw_X2 tyX2 tyX2_ok nmX2 hown hK hP hD hS 0 rfl rfl 2 (by decide) (hts _ fw_X2_19) (fun _ h9 => h9) rfl hin rfl (tyX2_ok 2 (by decide)) rfl rfl (Nat.le_of_ble_eq_true rfl) (dk okd_X2_init 13 rfl) (fun H locs hP hD hS => ?_)
  have hP : va_P G vwCl [(h0, .inr (2, [.ref q1, .ref q2, .ref q3, .null, .null, .null, .null, .null, .int 0])), (q1, .inl (cy 0, 80, .inl (fun _ => 0))), (q2, .inl (cy 1, 8, .inl (fun _ => 0))), (q3, .inl (cy 1, 8, .inl (fun _ => 0)))] H := hP
  have hD : va_D A [(h0, .inr (2, [.ref q1, .ref q2, .ref q3, .null, .null, .null, .null, .null, .int 0])), (q1, .inl (cy 0, 80, .inl (fun _ => 0))), (q2, .inl (cy 1, 8, .inl (fun _ => 0))), (q3, .inl (cy 1, 8, .inl (fun _ => 0)))] := hD
  refine lv_aload_n hx hb (dk okd_X2_init 14 rfl) rfl (lv_at hl 0 rfl) ?_
  refine lv_bipush (v := 8) hx hb (dk okd_X2_init 15 rfl) (by decide) ?_
  refine va_newa (atype := .int) (ty := .int) (N' := 8) (a0 := (8, .inl (fun _ => 0))) hx hb (hts _ aw_int) rfl hK hP hD hS hA (fun cA => rfl) (by decide) (by decide) (Nat.le_of_ble_eq_true rfl) (Nat.le_of_ble_eq_true rfl) (Nat.le_of_ble_eq_true rfl) (dk okd_X2_init 16 rfl) (fun q4 cA H hK2 hP hD hS => ?_)
  have ecA : cA = cy 1 := cy_eq hK2 (i := 5) (j := 1) rfl rfl (fun C h => by cases h)
  subst ecA
  refine W.widen (k := 4) (n := 104) (Nat.le_of_ble_eq_true rfl) (Nat.le_of_ble_eq_true rfl) ?_
  refine va_putF (D := G) (ci := 2) (v := .ref q4) (ty := tyX2 3) (C := RX2) (T := TX2) (N := 9) hx hb hts uw_X2 tyX2 tyX2_ok nmX2 hown hK hP hD hS 0 rfl rfl 3 (by decide) (hts _ fw_X2_22) (fun _ h9 => h9) rfl hin rfl (tyX2_ok 3 (by decide)) rfl rfl (Nat.le_of_ble_eq_true rfl) (dk okd_X2_init 17 rfl) (fun H locs hP hD hS => ?_)
  have hP : va_P G vwCl [(h0, .inr (2, [.ref q1, .ref q2, .ref q3, .ref q4, .null, .null, .null, .null, .int 0])), (q1, .inl (cy 0, 80, .inl (fun _ => 0))), (q2, .inl (cy 1, 8, .inl (fun _ => 0))), (q3, .inl (cy 1, 8, .inl (fun _ => 0))), (q4, .inl (cy 1, 8, .inl (fun _ => 0)))] H := hP
  have hD : va_D A [(h0, .inr (2, [.ref q1, .ref q2, .ref q3, .ref q4, .null, .null, .null, .null, .int 0])), (q1, .inl (cy 0, 80, .inl (fun _ => 0))), (q2, .inl (cy 1, 8, .inl (fun _ => 0))), (q3, .inl (cy 1, 8, .inl (fun _ => 0))), (q4, .inl (cy 1, 8, .inl (fun _ => 0)))] := hD
  refine lv_aload_n hx hb (dk okd_X2_init 18 rfl) rfl (lv_at hl 0 rfl) ?_
  refine lv_bipush (v := 8) hx hb (dk okd_X2_init 19 rfl) (by decide) ?_
  refine va_newa (atype := .int) (ty := .int) (N' := 8) (a0 := (8, .inl (fun _ => 0))) hx hb (hts _ aw_int) rfl hK hP hD hS hA (fun cA => rfl) (by decide) (by decide) (Nat.le_of_ble_eq_true rfl) (Nat.le_of_ble_eq_true rfl) (Nat.le_of_ble_eq_true rfl) (dk okd_X2_init 20 rfl) (fun q5 cA H hK2 hP hD hS => ?_)
  have ecA : cA = cy 1 := cy_eq hK2 (i := 5) (j := 1) rfl rfl (fun C h => by cases h)
  subst ecA
  refine W.widen (k := 5) (n := 112) (Nat.le_of_ble_eq_true rfl) (Nat.le_of_ble_eq_true rfl) ?_
  refine va_putF (D := G) (ci := 2) (v := .ref q5) (ty := tyX2 4) (C := RX2) (T := TX2) (N := 9) hx hb hts uw_X2 tyX2 tyX2_ok nmX2 hown hK hP hD hS 0 rfl rfl 4 (by decide) (hts _ fw_X2_25) (fun _ h9 => h9) rfl hin rfl (tyX2_ok 4 (by decide)) rfl rfl (Nat.le_of_ble_eq_true rfl) (dk okd_X2_init 21 rfl) (fun H locs hP hD hS => ?_)
  have hP : va_P G vwCl [(h0, .inr (2, [.ref q1, .ref q2, .ref q3, .ref q4, .ref q5, .null, .null, .null, .int 0])), (q1, .inl (cy 0, 80, .inl (fun _ => 0))), (q2, .inl (cy 1, 8, .inl (fun _ => 0))), (q3, .inl (cy 1, 8, .inl (fun _ => 0))), (q4, .inl (cy 1, 8, .inl (fun _ => 0))), (q5, .inl (cy 1, 8, .inl (fun _ => 0)))] H := hP
  have hD : va_D A [(h0, .inr (2, [.ref q1, .ref q2, .ref q3, .ref q4, .ref q5, .null, .null, .null, .int 0])), (q1, .inl (cy 0, 80, .inl (fun _ => 0))), (q2, .inl (cy 1, 8, .inl (fun _ => 0))), (q3, .inl (cy 1, 8, .inl (fun _ => 0))), (q4, .inl (cy 1, 8, .inl (fun _ => 0))), (q5, .inl (cy 1, 8, .inl (fun _ => 0)))] := hD
  refine lv_aload_n hx hb (dk okd_X2_init 22 rfl) rfl (lv_at hl 0 rfl) ?_
  refine lv_bipush (v := 8) hx hb (dk okd_X2_init 23 rfl) (by decide) ?_
  refine va_newa (atype := .int) (ty := .int) (N' := 8) (a0 := (8, .inl (fun _ => 0))) hx hb (hts _ aw_int) rfl hK hP hD hS hA (fun cA => rfl) (by decide) (by decide) (Nat.le_of_ble_eq_true rfl) (Nat.le_of_ble_eq_true rfl) (Nat.le_of_ble_eq_true rfl) (dk okd_X2_init 24 rfl) (fun q6 cA H hK2 hP hD hS => ?_)
  have ecA : cA = cy 1 := cy_eq hK2 (i := 5) (j := 1) rfl rfl (fun C h => by cases h)
  subst ecA
  refine W.widen (k := 6) (n := 120) (Nat.le_of_ble_eq_true rfl) (Nat.le_of_ble_eq_true rfl) ?_
  refine va_putF (D := G) (ci := 2) (v := .ref q6) (ty := tyX2 5) (C := RX2) (T := TX2) (N := 9) hx hb hts uw_X2 tyX2 tyX2_ok nmX2 hown hK hP hD hS 0 rfl rfl 5 (by decide) (hts _ fw_X2_28) (fun _ h9 => h9) rfl hin rfl (tyX2_ok 5 (by decide)) rfl rfl (Nat.le_of_ble_eq_true rfl) (dk okd_X2_init 25 rfl) (fun H locs hP hD hS => ?_)
  have hP : va_P G vwCl [(h0, .inr (2, [.ref q1, .ref q2, .ref q3, .ref q4, .ref q5, .ref q6, .null, .null, .int 0])), (q1, .inl (cy 0, 80, .inl (fun _ => 0))), (q2, .inl (cy 1, 8, .inl (fun _ => 0))), (q3, .inl (cy 1, 8, .inl (fun _ => 0))), (q4, .inl (cy 1, 8, .inl (fun _ => 0))), (q5, .inl (cy 1, 8, .inl (fun _ => 0))), (q6, .inl (cy 1, 8, .inl (fun _ => 0)))] H := hP
  have hD : va_D A [(h0, .inr (2, [.ref q1, .ref q2, .ref q3, .ref q4, .ref q5, .ref q6, .null, .null, .int 0])), (q1, .inl (cy 0, 80, .inl (fun _ => 0))), (q2, .inl (cy 1, 8, .inl (fun _ => 0))), (q3, .inl (cy 1, 8, .inl (fun _ => 0))), (q4, .inl (cy 1, 8, .inl (fun _ => 0))), (q5, .inl (cy 1, 8, .inl (fun _ => 0))), (q6, .inl (cy 1, 8, .inl (fun _ => 0)))] := hD
  refine lv_aload_n hx hb (dk okd_X2_init 26 rfl) rfl (lv_at hl 0 rfl) ?_
  refine lv_bipush (v := 8) hx hb (dk okd_X2_init 27 rfl) (by decide) ?_
  refine va_newa (atype := .int) (ty := .int) (N' := 8) (a0 := (8, .inl (fun _ => 0))) hx hb (hts _ aw_int) rfl hK hP hD hS hA (fun cA => rfl) (by decide) (by decide) (Nat.le_of_ble_eq_true rfl) (Nat.le_of_ble_eq_true rfl) (Nat.le_of_ble_eq_true rfl) (dk okd_X2_init 28 rfl) (fun q7 cA H hK2 hP hD hS => ?_)
  have ecA : cA = cy 1 := cy_eq hK2 (i := 5) (j := 1) rfl rfl (fun C h => by cases h)
  subst ecA
  refine W.widen (k := 7) (n := 128) (Nat.le_of_ble_eq_true rfl) (Nat.le_of_ble_eq_true rfl) ?_
  refine va_putF (D := G) (ci := 2) (v := .ref q7) (ty := tyX2 6) (C := RX2) (T := TX2) (N := 9) hx hb hts uw_X2 tyX2 tyX2_ok nmX2 hown hK hP hD hS 0 rfl rfl 6 (by decide) (hts _ fw_X2_31) (fun _ h9 => h9) rfl hin rfl (tyX2_ok 6 (by decide)) rfl rfl (Nat.le_of_ble_eq_true rfl) (dk okd_X2_init 29 rfl) (fun H locs hP hD hS => ?_)
  have hP : va_P G vwCl [(h0, .inr (2, [.ref q1, .ref q2, .ref q3, .ref q4, .ref q5, .ref q6, .ref q7, .null, .int 0])), (q1, .inl (cy 0, 80, .inl (fun _ => 0))), (q2, .inl (cy 1, 8, .inl (fun _ => 0))), (q3, .inl (cy 1, 8, .inl (fun _ => 0))), (q4, .inl (cy 1, 8, .inl (fun _ => 0))), (q5, .inl (cy 1, 8, .inl (fun _ => 0))), (q6, .inl (cy 1, 8, .inl (fun _ => 0))), (q7, .inl (cy 1, 8, .inl (fun _ => 0)))] H := hP
  have hD : va_D A [(h0, .inr (2, [.ref q1, .ref q2, .ref q3, .ref q4, .ref q5, .ref q6, .ref q7, .null, .int 0])), (q1, .inl (cy 0, 80, .inl (fun _ => 0))), (q2, .inl (cy 1, 8, .inl (fun _ => 0))), (q3, .inl (cy 1, 8, .inl (fun _ => 0))), (q4, .inl (cy 1, 8, .inl (fun _ => 0))), (q5, .inl (cy 1, 8, .inl (fun _ => 0))), (q6, .inl (cy 1, 8, .inl (fun _ => 0))), (q7, .inl (cy 1, 8, .inl (fun _ => 0)))] := hD
  refine lv_aload_n hx hb (dk okd_X2_init 30 rfl) rfl (lv_at hl 0 rfl) ?_
  refine lv_bipush (v := 8) hx hb (dk okd_X2_init 31 rfl) (by decide) ?_
  refine va_newa (atype := .long) (ty := .long) (N' := 8) (a0 := (8, .inr (.inl (fun _ => 0)))) hx hb (hts _ aw_long) rfl hK hP hD hS hA (fun cA => rfl) (by decide) (by decide) (Nat.le_of_ble_eq_true rfl) (Nat.le_of_ble_eq_true rfl) (Nat.le_of_ble_eq_true rfl) (dk okd_X2_init 32 rfl) (fun q8 cA H hK2 hP hD hS => ?_)
  have ecA : cA = cy 2 := cy_eq hK2 (i := 5) (j := 2) rfl rfl (fun C h => by cases h)
  subst ecA
  refine W.widen (k := 8) (n := 136) (Nat.le_of_ble_eq_true rfl) (Nat.le_of_ble_eq_true rfl) ?_
  refine va_putF (D := G) (ci := 2) (v := .ref q8) (ty := tyX2 7) (C := RX2) (T := TX2) (N := 9) hx hb hts uw_X2 tyX2 tyX2_ok nmX2 hown hK hP hD hS 0 rfl rfl 7 (by decide) (hts _ fw_X2_34) (fun _ h9 => h9) rfl hin rfl (tyX2_ok 7 (by decide)) rfl rfl (Nat.le_of_ble_eq_true rfl) (dk okd_X2_init 33 rfl) (fun H locs hP hD hS => ?_)
  have hP : va_P G vwCl [(h0, .inr (2, [.ref q1, .ref q2, .ref q3, .ref q4, .ref q5, .ref q6, .ref q7, .ref q8, .int 0])), (q1, .inl (cy 0, 80, .inl (fun _ => 0))), (q2, .inl (cy 1, 8, .inl (fun _ => 0))), (q3, .inl (cy 1, 8, .inl (fun _ => 0))), (q4, .inl (cy 1, 8, .inl (fun _ => 0))), (q5, .inl (cy 1, 8, .inl (fun _ => 0))), (q6, .inl (cy 1, 8, .inl (fun _ => 0))), (q7, .inl (cy 1, 8, .inl (fun _ => 0))), (q8, .inl (cy 2, 8, .inr (.inl (fun _ => 0))))] H := hP
  have hD : va_D A [(h0, .inr (2, [.ref q1, .ref q2, .ref q3, .ref q4, .ref q5, .ref q6, .ref q7, .ref q8, .int 0])), (q1, .inl (cy 0, 80, .inl (fun _ => 0))), (q2, .inl (cy 1, 8, .inl (fun _ => 0))), (q3, .inl (cy 1, 8, .inl (fun _ => 0))), (q4, .inl (cy 1, 8, .inl (fun _ => 0))), (q5, .inl (cy 1, 8, .inl (fun _ => 0))), (q6, .inl (cy 1, 8, .inl (fun _ => 0))), (q7, .inl (cy 1, 8, .inl (fun _ => 0))), (q8, .inl (cy 2, 8, .inr (.inl (fun _ => 0))))] := hD
  have hnd : (h0 :: ([(q1, 12, 80), (q2, 13, 8), (q3, 13, 8), (q4, 13, 8), (q5, 13, 8), (q6, 13, 8), (q7, 13, 8), (q8, 14, 8)] : List (Nat × Nat × Nat)).map (fun t => t.1)).Nodup := D_nodup hD
  have hrf : ([q1, q2, q3, q4, q5, q6, q7, q8] : List Nat).Nodup := (List.nodup_cons.mp hnd).2
  have hpl := lf_pool (cy := cy) (h0 := h0) (ci := 2) (rf := (fun k => (([q1, q2, q3, q4, q5, q6, q7, q8] : List Nat)[k]?).getD 0)) (i0 := fun _ => 0) (as := [(q1, 12, 80), (q2, 13, 8), (q3, 13, 8), (q4, 13, 8), (q5, 13, 8), (q6, 13, 8), (q7, 13, 8), (q8, 14, 8)]) (by decide) (by intro t ht; simp at ht; rcases ht with rfl | rfl | rfl | rfl | rfl | rfl | rfl | rfl <;> simp) hnd
  have hpi : PI 2 (h0 :: ([(q1, 12, 80), (q2, 13, 8), (q3, 13, 8), (q4, 13, 8), (q5, 13, 8), (q6, 13, 8), (q7, 13, 8), (q8, 14, 8)] : List (Nat × Nat × Nat)).map (fun t => t.1)) (lfK h0 2 [(q1, 12, 80), (q2, 13, 8), (q3, 13, 8), (q4, 13, 8), (q5, 13, 8), (q6, 13, 8), (q7, 13, 8), (q8, 14, 8)]) (lfS h0 (fun k => (([q1, q2, q3, q4, q5, q6, q7, q8] : List Nat)[k]?).getD 0) (fun _ => 0) [(q1, 12, 80), (q2, 13, 8), (q3, 13, 8), (q4, 13, 8), (q5, 13, 8), (q6, 13, 8), (q7, 13, 8), (q8, 14, 8)]) h0 := by
    refine lf_PI (by decide) (by intro t ht; simp at ht; rcases ht with rfl | rfl | rfl | rfl | rfl | rfl | rfl | rfl <;> simp) hnd (fun i hi => ?_) (fun i j hi hj e => ?_)
    · have hlt : i < 8 := lay_lt_X2 hi
      rcases (show i = 0 ∨ i = 1 ∨ i = 2 ∨ i = 3 ∨ i = 4 ∨ i = 5 ∨ i = 6 ∨ i = 7 by omega) with rfl | rfl | rfl | rfl | rfl | rfl | rfl | rfl
      · exact ⟨80, by simp [rt], fun _ => rfl⟩
      · exact ⟨8, by simp [rt], fun _ => rfl⟩
      · exact ⟨8, by simp [rt], fun _ => rfl⟩
      · exact ⟨8, by simp [rt], fun _ => rfl⟩
      · exact ⟨8, by simp [rt], fun _ => rfl⟩
      · exact ⟨8, by simp [rt], fun _ => rfl⟩
      · exact ⟨8, by simp [rt], fun _ => rfl⟩
      · exact ⟨8, by simp [rt], fun _ => rfl⟩
    · exact nd_inj hrf (lay_lt_X2 hi) (lay_lt_X2 hj) e
  rw [show ((h0, .inr (2, fvs (lfS h0 (fun k => (([q1, q2, q3, q4, q5, q6, q7, q8] : List Nat)[k]?).getD 0) (fun _ => 0) [(q1, 12, 80), (q2, 13, 8), (q3, 13, 8), (q4, 13, 8), (q5, 13, 8), (q6, 13, 8), (q7, 13, 8), (q8, 14, 8)]) h0 0 (lay 2))) :: ([(q1, 12, 80), (q2, 13, 8), (q3, 13, 8), (q4, 13, 8), (q5, 13, 8), (q6, 13, 8), (q7, 13, 8), (q8, 14, 8)] : List (Nat × Nat × Nat)).map (fun t => (t.1, arE cy t)) : va_W) = [(h0, .inr (2, [.ref q1, .ref q2, .ref q3, .ref q4, .ref q5, .ref q6, .ref q7, .ref q8, .int 0])), (q1, .inl (cy 0, 80, .inl (fun _ => 0))), (q2, .inl (cy 1, 8, .inl (fun _ => 0))), (q3, .inl (cy 1, 8, .inl (fun _ => 0))), (q4, .inl (cy 1, 8, .inl (fun _ => 0))), (q5, .inl (cy 1, 8, .inl (fun _ => 0))), (q6, .inl (cy 1, 8, .inl (fun _ => 0))), (q7, .inl (cy 1, 8, .inl (fun _ => 0))), (q8, .inl (cy 2, 8, .inr (.inl (fun _ => 0))))] from by simp [fvs, fv, lfS, lay, gI, gJ, gR, arE]] at hpl
  rw [← hpl] at hP hD
  exact W.vret hx hb hr (fun t ht hW => ⟨⟨rfl, _, _, _, by rw [ht]; exact hP, hD, hpi⟩, hS.F ht⟩) hS.2.2 (dk okd_X2_init 34 rfl) hlocks
theorem ml_X3_3 : Cond.methodLink RX3 3 Lib.objectInit ∈ TT := TT_1 (i := 97) rfl rfl
theorem fw_X3_9 : Cond.fieldLink RX3 9 RX3 (TX3 0).2.1 (TX3 0).2.2.1 ∈ TT := TT_1 (i := 98) rfl rfl
theorem fw_X3_15 : Cond.fieldLink RX3 15 RX3 (TX3 1).2.1 (TX3 1).2.2.1 ∈ TT := TT_1 (i := 99) rfl rfl
theorem fw_X3_18 : Cond.fieldLink RX3 18 RX3 (TX3 2).2.1 (TX3 2).2.2.1 ∈ TT := TT_1 (i := 100) rfl rfl
def ed_X3_init : List (Nat × Instr × Nat) := [(0, .aload_n 0, 1), (1, .invokespecial 3, 3), (4, .aload_n 0, 1), (5, .sipush 900, 3), (8, .newarray .int, 2), (10, .putfield 9, 3), (13, .aload_n 0, 1), (14, .sipush 900, 3), (17, .newarray .int, 2), (19, .putfield 15, 3), (22, .aload_n 0, 1), (23, .sipush 900, 3), (26, .newarray .int, 2), (28, .putfield 18, 3), (31, .return_, 1)]
theorem okd_X3_init : ed_X3_init.all (okD cX3_init) = true := by decide +kernel
theorem lay_lt_X3 {i : Nat} (h : (lay 3)[i]? = some 2) : i < 3 := by
  rcases Nat.lt_or_ge i 3 with q | q
  · exact q
  · exfalso
    have hl := (List.getElem?_eq_some_iff.mp h).1
    simp only [lay, List.length_cons, List.length_nil] at hl
    rcases (show i = 3 by omega) with rfl <;> simp [lay] at h
set_option maxHeartbeats 4000000 in
set_option maxRecDepth 100000 in
theorem c_X3_init : CtI yX3_init cX3_init 1 3 1 12 3 2700 := by
  intro l G cy h0 sz
  refine Met.ofW (cc := cX3_init) (maxL := 1) (ret := none) (by decide) rfl ?_
  intro p e s m args below meth c s₁ B hml hv
  obtain ⟨rfl, hsz, hP, hK, hD0, hE⟩ := hv
  have hx := B.exec
  have hb := B.bytes
  have hr := B.returns
  have hts0 := atoms_spec (ws := Cond.code yX3_init cX3_init 1 none :: TT) B.pre
  have hts := fun w hw => hts0 w (List.mem_cons_of_mem _ hw)
  have hown : s.vm.findClass RX3 = some m.cls := findClass_of_methodNamed B.named
  have hlocks := B.notSynchronized
  have hin : meth.name = "<init>" := (name_of_methodNamed B.named B.method).1
  subst hsz
  have hD := hD0.self (sz := s.heap.size)
  generalize hAe : va_A [(h0, .inr (3, raw 3))] s.heap.size = A at hD ⊢
  have hA : ∀ q : Nat, s.heap.size ≤ q → A q := fun q h => by rw [← hAe]; exact Or.inr h
  have hS : va_S A s.heap s.heap [] := va_S.rf
  have hP : va_P G vwCl [(h0, .inr (3, [.null, .null, .null, .int 0]))] s.heap := hP
  have hD : va_D A [(h0, .inr (3, [.null, .null, .null, .int 0]))] := hD
  have hl := lv_entry ([.ref h0]) (n := 1) (Nat.le_of_ble_eq_true rfl)
  rw [lg_entry_eq]
  generalize (lg_sl ([.ref h0]) ++ List.replicate (1 - (lg_sl ([.ref h0])).length) Slot.unset).toArray = ls at hl ⊢
  have hl : lv_has ls 1 [(0, .ref h0)] := hl
  refine lv_aload_n hx hb (dk okd_X3_init 0 rfl) rfl (lv_at hl 0 rfl) ?_
  refine W.objInit hx hb hown (hts _ ml_X3_3) (hts _ ow_inst) (hts _ ow_code) rfl (by rw [hml]; exact hl.1) rfl (dk okd_X3_init 1 rfl) (Nat.le_of_ble_eq_true rfl) (Nat.le_of_ble_eq_true rfl) ?_
  refine W.eq (g2 := F0 m 4 ls []) rfl ?_
  refine lv_aload_n hx hb (dk okd_X3_init 2 rfl) rfl (lv_at hl 0 rfl) ?_
  refine lv_sipush (v := 900) hx hb (dk okd_X3_init 3 rfl) (by decide) ?_
  refine va_newa (atype := .int) (ty := .int) (N' := 900) (a0 := (900, .inl (fun _ => 0))) hx hb (hts _ aw_int) rfl hK hP hD hS hA (fun cA => rfl) (by decide) (by decide) (Nat.le_of_ble_eq_true rfl) (Nat.le_of_ble_eq_true rfl) (Nat.le_of_ble_eq_true rfl) (dk okd_X3_init 4 rfl) (fun q1 cA H hK2 hP hD hS => ?_)
  have ecA : cA = cy 1 := cy_eq hK2 (i := 5) (j := 1) rfl rfl (fun C h => by cases h)
  subst ecA
  refine W.widen (k := 1) (n := 900) (Nat.le_of_ble_eq_true rfl) (Nat.le_of_ble_eq_true rfl) ?_
  refine va_putF (D := G) (ci := 3) (v := .ref q1) (ty := tyX3 0) (C := RX3) (T := TX3) (N := 4) hx hb hts uw_X3 tyX3 tyX3_ok nmX3 hown hK hP hD hS 0 rfl rfl 0 (by decide) (hts _ fw_X3_9) (fun _ h9 => h9) rfl hin rfl (tyX3_ok 0 (by decide)) rfl rfl (Nat.le_of_ble_eq_true rfl) (dk okd_X3_init 5 rfl) (fun H locs hP hD hS => ?_)
  have hP : va_P G vwCl [(h0, .inr (3, [.ref q1, .null, .null, .int 0])), (q1, .inl (cy 1, 900, .inl (fun _ => 0)))] H := hP
  have hD : va_D A [(h0, .inr (3, [.ref q1, .null, .null, .int 0])), (q1, .inl (cy 1, 900, .inl (fun _ => 0)))] := hD
  refine lv_aload_n hx hb (dk okd_X3_init 6 rfl) rfl (lv_at hl 0 rfl) ?_
  refine lv_sipush (v := 900) hx hb (dk okd_X3_init 7 rfl) (by decide) ?_
  refine va_newa (atype := .int) (ty := .int) (N' := 900) (a0 := (900, .inl (fun _ => 0))) hx hb (hts _ aw_int) rfl hK hP hD hS hA (fun cA => rfl) (by decide) (by decide) (Nat.le_of_ble_eq_true rfl) (Nat.le_of_ble_eq_true rfl) (Nat.le_of_ble_eq_true rfl) (dk okd_X3_init 8 rfl) (fun q2 cA H hK2 hP hD hS => ?_)
  have ecA : cA = cy 1 := cy_eq hK2 (i := 5) (j := 1) rfl rfl (fun C h => by cases h)
  subst ecA
  refine W.widen (k := 2) (n := 1800) (Nat.le_of_ble_eq_true rfl) (Nat.le_of_ble_eq_true rfl) ?_
  refine va_putF (D := G) (ci := 3) (v := .ref q2) (ty := tyX3 1) (C := RX3) (T := TX3) (N := 4) hx hb hts uw_X3 tyX3 tyX3_ok nmX3 hown hK hP hD hS 0 rfl rfl 1 (by decide) (hts _ fw_X3_15) (fun _ h9 => h9) rfl hin rfl (tyX3_ok 1 (by decide)) rfl rfl (Nat.le_of_ble_eq_true rfl) (dk okd_X3_init 9 rfl) (fun H locs hP hD hS => ?_)
  have hP : va_P G vwCl [(h0, .inr (3, [.ref q1, .ref q2, .null, .int 0])), (q1, .inl (cy 1, 900, .inl (fun _ => 0))), (q2, .inl (cy 1, 900, .inl (fun _ => 0)))] H := hP
  have hD : va_D A [(h0, .inr (3, [.ref q1, .ref q2, .null, .int 0])), (q1, .inl (cy 1, 900, .inl (fun _ => 0))), (q2, .inl (cy 1, 900, .inl (fun _ => 0)))] := hD
  refine lv_aload_n hx hb (dk okd_X3_init 10 rfl) rfl (lv_at hl 0 rfl) ?_
  refine lv_sipush (v := 900) hx hb (dk okd_X3_init 11 rfl) (by decide) ?_
  refine va_newa (atype := .int) (ty := .int) (N' := 900) (a0 := (900, .inl (fun _ => 0))) hx hb (hts _ aw_int) rfl hK hP hD hS hA (fun cA => rfl) (by decide) (by decide) (Nat.le_of_ble_eq_true rfl) (Nat.le_of_ble_eq_true rfl) (Nat.le_of_ble_eq_true rfl) (dk okd_X3_init 12 rfl) (fun q3 cA H hK2 hP hD hS => ?_)
  have ecA : cA = cy 1 := cy_eq hK2 (i := 5) (j := 1) rfl rfl (fun C h => by cases h)
  subst ecA
  refine W.widen (k := 3) (n := 2700) (Nat.le_of_ble_eq_true rfl) (Nat.le_of_ble_eq_true rfl) ?_
  refine va_putF (D := G) (ci := 3) (v := .ref q3) (ty := tyX3 2) (C := RX3) (T := TX3) (N := 4) hx hb hts uw_X3 tyX3 tyX3_ok nmX3 hown hK hP hD hS 0 rfl rfl 2 (by decide) (hts _ fw_X3_18) (fun _ h9 => h9) rfl hin rfl (tyX3_ok 2 (by decide)) rfl rfl (Nat.le_of_ble_eq_true rfl) (dk okd_X3_init 13 rfl) (fun H locs hP hD hS => ?_)
  have hP : va_P G vwCl [(h0, .inr (3, [.ref q1, .ref q2, .ref q3, .int 0])), (q1, .inl (cy 1, 900, .inl (fun _ => 0))), (q2, .inl (cy 1, 900, .inl (fun _ => 0))), (q3, .inl (cy 1, 900, .inl (fun _ => 0)))] H := hP
  have hD : va_D A [(h0, .inr (3, [.ref q1, .ref q2, .ref q3, .int 0])), (q1, .inl (cy 1, 900, .inl (fun _ => 0))), (q2, .inl (cy 1, 900, .inl (fun _ => 0))), (q3, .inl (cy 1, 900, .inl (fun _ => 0)))] := hD
  have hnd : (h0 :: ([(q1, 13, 900), (q2, 13, 900), (q3, 13, 900)] : List (Nat × Nat × Nat)).map (fun t => t.1)).Nodup := D_nodup hD
  have hrf : ([q1, q2, q3] : List Nat).Nodup := (List.nodup_cons.mp hnd).2
  have hpl := lf_pool (cy := cy) (h0 := h0) (ci := 3) (rf := (fun k => (([q1, q2, q3] : List Nat)[k]?).getD 0)) (i0 := fun _ => 0) (as := [(q1, 13, 900), (q2, 13, 900), (q3, 13, 900)]) (by decide) (by intro t ht; simp at ht; rcases ht with rfl | rfl | rfl <;> simp) hnd
  have hpi : PI 3 (h0 :: ([(q1, 13, 900), (q2, 13, 900), (q3, 13, 900)] : List (Nat × Nat × Nat)).map (fun t => t.1)) (lfK h0 3 [(q1, 13, 900), (q2, 13, 900), (q3, 13, 900)]) (lfS h0 (fun k => (([q1, q2, q3] : List Nat)[k]?).getD 0) (fun _ => 0) [(q1, 13, 900), (q2, 13, 900), (q3, 13, 900)]) h0 := by
    refine lf_PI (by decide) (by intro t ht; simp at ht; rcases ht with rfl | rfl | rfl <;> simp) hnd (fun i hi => ?_) (fun i j hi hj e => ?_)
    · have hlt : i < 3 := lay_lt_X3 hi
      rcases (show i = 0 ∨ i = 1 ∨ i = 2 by omega) with rfl | rfl | rfl
      · exact ⟨900, by simp [rt], fun _ => rfl⟩
      · exact ⟨900, by simp [rt], fun _ => rfl⟩
      · exact ⟨900, by simp [rt], fun _ => rfl⟩
    · exact nd_inj hrf (lay_lt_X3 hi) (lay_lt_X3 hj) e
  rw [show ((h0, .inr (3, fvs (lfS h0 (fun k => (([q1, q2, q3] : List Nat)[k]?).getD 0) (fun _ => 0) [(q1, 13, 900), (q2, 13, 900), (q3, 13, 900)]) h0 0 (lay 3))) :: ([(q1, 13, 900), (q2, 13, 900), (q3, 13, 900)] : List (Nat × Nat × Nat)).map (fun t => (t.1, arE cy t)) : va_W) = [(h0, .inr (3, [.ref q1, .ref q2, .ref q3, .int 0])), (q1, .inl (cy 1, 900, .inl (fun _ => 0))), (q2, .inl (cy 1, 900, .inl (fun _ => 0))), (q3, .inl (cy 1, 900, .inl (fun _ => 0)))] from by simp [fvs, fv, lfS, lay, gI, gJ, gR, arE]] at hpl
  rw [← hpl] at hP hD
  exact W.vret hx hb hr (fun t ht hW => ⟨⟨rfl, _, _, _, by rw [ht]; exact hP, hD, hpi⟩, hS.F ht⟩) hS.2.2 (dk okd_X3_init 14 rfl) hlocks
theorem ml_X4_3 : Cond.methodLink RX4 3 Lib.objectInit ∈ TT := TT_1 (i := 82) rfl rfl
theorem fw_X4_9 : Cond.fieldLink RX4 9 RX4 (TX4 0).2.1 (TX4 0).2.2.1 ∈ TT := TT_1 (i := 83) rfl rfl
def ed_X4_init : List (Nat × Instr × Nat) := [(0, .aload_n 0, 1), (1, .invokespecial 3, 3), (4, .aload_n 0, 1), (5, .sipush 256, 3), (8, .newarray .byte, 2), (10, .putfield 9, 3), (13, .return_, 1)]
theorem okd_X4_init : ed_X4_init.all (okD cX4_init) = true := by decide +kernel
theorem lay_lt_X4 {i : Nat} (h : (lay 4)[i]? = some 2) : i < 1 := by
  rcases Nat.lt_or_ge i 1 with q | q
  · exact q
  · exfalso
    have hl := (List.getElem?_eq_some_iff.mp h).1
    simp only [lay, List.length_cons, List.length_nil] at hl
    rcases (show i = 1 by omega) with rfl <;> simp [lay] at h
set_option maxHeartbeats 4000000 in
set_option maxRecDepth 100000 in
theorem c_X4_init : CtI yX4_init cX4_init 1 4 1 12 1 256 := by
  intro l G cy h0 sz
  refine Met.ofW (cc := cX4_init) (maxL := 1) (ret := none) (by decide) rfl ?_
  intro p e s m args below meth c s₁ B hml hv
  obtain ⟨rfl, hsz, hP, hK, hD0, hE⟩ := hv
  have hx := B.exec
  have hb := B.bytes
  have hr := B.returns
  have hts0 := atoms_spec (ws := Cond.code yX4_init cX4_init 1 none :: TT) B.pre
  have hts := fun w hw => hts0 w (List.mem_cons_of_mem _ hw)
  have hown : s.vm.findClass RX4 = some m.cls := findClass_of_methodNamed B.named
  have hlocks := B.notSynchronized
  have hin : meth.name = "<init>" := (name_of_methodNamed B.named B.method).1
  subst hsz
  have hD := hD0.self (sz := s.heap.size)
  generalize hAe : va_A [(h0, .inr (4, raw 4))] s.heap.size = A at hD ⊢
  have hA : ∀ q : Nat, s.heap.size ≤ q → A q := fun q h => by rw [← hAe]; exact Or.inr h
  have hS : va_S A s.heap s.heap [] := va_S.rf
  have hP : va_P G vwCl [(h0, .inr (4, [.null, .int 0]))] s.heap := hP
  have hD : va_D A [(h0, .inr (4, [.null, .int 0]))] := hD
  have hl := lv_entry ([.ref h0]) (n := 1) (Nat.le_of_ble_eq_true rfl)
  rw [lg_entry_eq]
  generalize (lg_sl ([.ref h0]) ++ List.replicate (1 - (lg_sl ([.ref h0])).length) Slot.unset).toArray = ls at hl ⊢
  have hl : lv_has ls 1 [(0, .ref h0)] := hl
  refine lv_aload_n hx hb (dk okd_X4_init 0 rfl) rfl (lv_at hl 0 rfl) ?_
  refine W.objInit hx hb hown (hts _ ml_X4_3) (hts _ ow_inst) (hts _ ow_code) rfl (by rw [hml]; exact hl.1) rfl (dk okd_X4_init 1 rfl) (Nat.le_of_ble_eq_true rfl) (Nat.le_of_ble_eq_true rfl) ?_
  refine W.eq (g2 := F0 m 4 ls []) rfl ?_
  refine lv_aload_n hx hb (dk okd_X4_init 2 rfl) rfl (lv_at hl 0 rfl) ?_
  refine lv_sipush (v := 256) hx hb (dk okd_X4_init 3 rfl) (by decide) ?_
  refine va_newa (atype := .byte) (ty := .byte) (N' := 256) (a0 := (256, .inl (fun _ => 0))) hx hb (hts _ aw_byte) rfl hK hP hD hS hA (fun cA => rfl) (by decide) (by decide) (Nat.le_of_ble_eq_true rfl) (Nat.le_of_ble_eq_true rfl) (Nat.le_of_ble_eq_true rfl) (dk okd_X4_init 4 rfl) (fun q1 cA H hK2 hP hD hS => ?_)
  have ecA : cA = cy 0 := cy_eq hK2 (i := 5) (j := 0) rfl rfl (fun C h => by cases h)
  subst ecA
  refine W.widen (k := 1) (n := 256) (Nat.le_of_ble_eq_true rfl) (Nat.le_of_ble_eq_true rfl) ?_
  refine va_putF (D := G) (ci := 4) (v := .ref q1) (ty := tyX4 0) (C := RX4) (T := TX4) (N := 2) hx hb hts uw_X4 tyX4 tyX4_ok nmX4 hown hK hP hD hS 0 rfl rfl 0 (by decide) (hts _ fw_X4_9) (fun _ h9 => h9) rfl hin rfl (tyX4_ok 0 (by decide)) rfl rfl (Nat.le_of_ble_eq_true rfl) (dk okd_X4_init 5 rfl) (fun H locs hP hD hS => ?_)
  have hP : va_P G vwCl [(h0, .inr (4, [.ref q1, .int 0])), (q1, .inl (cy 0, 256, .inl (fun _ => 0)))] H := hP
  have hD : va_D A [(h0, .inr (4, [.ref q1, .int 0])), (q1, .inl (cy 0, 256, .inl (fun _ => 0)))] := hD
  have hnd : (h0 :: ([(q1, 12, 256)] : List (Nat × Nat × Nat)).map (fun t => t.1)).Nodup := D_nodup hD
  have hrf : ([q1] : List Nat).Nodup := (List.nodup_cons.mp hnd).2
  have hpl := lf_pool (cy := cy) (h0 := h0) (ci := 4) (rf := (fun k => (([q1] : List Nat)[k]?).getD 0)) (i0 := fun _ => 0) (as := [(q1, 12, 256)]) (by decide) (by intro t ht; simp at ht; rcases ht with rfl <;> simp) hnd
  have hpi : PI 4 (h0 :: ([(q1, 12, 256)] : List (Nat × Nat × Nat)).map (fun t => t.1)) (lfK h0 4 [(q1, 12, 256)]) (lfS h0 (fun k => (([q1] : List Nat)[k]?).getD 0) (fun _ => 0) [(q1, 12, 256)]) h0 := by
    refine lf_PI (by decide) (by intro t ht; simp at ht; rcases ht with rfl <;> simp) hnd (fun i hi => ?_) (fun i j hi hj e => ?_)
    · have hlt : i < 1 := lay_lt_X4 hi
      obtain rfl : i = 0 := by omega
      exact ⟨256, by simp [rt], fun _ => rfl⟩
    · exact nd_inj hrf (lay_lt_X4 hi) (lay_lt_X4 hj) e
  rw [show ((h0, .inr (4, fvs (lfS h0 (fun k => (([q1] : List Nat)[k]?).getD 0) (fun _ => 0) [(q1, 12, 256)]) h0 0 (lay 4))) :: ([(q1, 12, 256)] : List (Nat × Nat × Nat)).map (fun t => (t.1, arE cy t)) : va_W) = [(h0, .inr (4, [.ref q1, .int 0])), (q1, .inl (cy 0, 256, .inl (fun _ => 0)))] from by simp [fvs, fv, lfS, lay, gI, gJ, gR, arE]] at hpl
  rw [← hpl] at hP hD
  exact W.vret hx hb hr (fun t ht hW => ⟨⟨rfl, _, _, _, by rw [ht]; exact hP, hD, hpi⟩, hS.F ht⟩) hS.2.2 (dk okd_X4_init 6 rfl) hlocks
theorem ml_X5_3 : Cond.methodLink RX5 3 Lib.objectInit ∈ TT := TT_2 (i := 154) rfl rfl
theorem fw_X5_9 : Cond.fieldLink RX5 9 RX5 (TX5 0).2.1 (TX5 0).2.2.1 ∈ TT := TT_2 (i := 155) rfl rfl
theorem fw_X5_15 : Cond.fieldLink RX5 15 RX5 (TX5 1).2.1 (TX5 1).2.2.1 ∈ TT := TT_2 (i := 156) rfl rfl
theorem fw_X5_18 : Cond.fieldLink RX5 18 RX5 (TX5 2).2.1 (TX5 2).2.2.1 ∈ TT := TT_2 (i := 157) rfl rfl
theorem fw_X5_21 : Cond.fieldLink RX5 21 RX5 (TX5 3).2.1 (TX5 3).2.2.1 ∈ TT := TT_2 (i := 158) rfl rfl
theorem fw_X5_24 : Cond.fieldLink RX5 24 RX5 (TX5 4).2.1 (TX5 4).2.2.1 ∈ TT := TT_2 (i := 159) rfl rfl
theorem fw_X5_27 : Cond.fieldLink RX5 27 RX5 (TX5 5).2.1 (TX5 5).2.2.1 ∈ TT := TT_2 (i := 160) rfl rfl
theorem fw_X5_31 : Cond.fieldLink RX5 31 RX5 (TX5 6).2.1 (TX5 6).2.2.1 ∈ TT := TT_2 (i := 161) rfl rfl
def ed_X5_init : List (Nat × Instr × Nat) := [(0, .aload_n 0, 1), (1, .invokespecial 3, 3), (4, .aload_n 0, 1), (5, .bipush 40, 2), (7, .newarray .int, 2), (9, .putfield 9, 3), (12, .aload_n 0, 1), (13, .bipush 40, 2), (15, .newarray .int, 2), (17, .putfield 15, 3), (20, .aload_n 0, 1), (21, .bipush 40, 2), (23, .newarray .int, 2), (25, .putfield 18, 3), (28, .aload_n 0, 1), (29, .bipush 40, 2), (31, .newarray .int, 2), (33, .putfield 21, 3), (36, .aload_n 0, 1), (37, .bipush 40, 2), (39, .newarray .int, 2), (41, .putfield 24, 3), (44, .aload_n 0, 1), (45, .bipush 40, 2), (47, .newarray .boolean, 2), (49, .putfield 27, 3), (52, .aload_n 0, 1), (53, .bipush 40, 2), (55, .newarray .long, 2), (57, .putfield 31, 3), (60, .return_, 1)]
theorem okd_X5_init : ed_X5_init.all (okD cX5_init) = true := by decide +kernel
theorem lay_lt_X5 {i : Nat} (h : (lay 5)[i]? = some 2) : i < 7 := by
  rcases Nat.lt_or_ge i 7 with q | q
  · exact q
  · exfalso
    have hl := (List.getElem?_eq_some_iff.mp h).1
    simp only [lay, List.length_cons, List.length_nil] at hl
    rcases (show i = 7 ∨ i = 8 by omega) with rfl | rfl <;> simp [lay] at h
set_option maxHeartbeats 4000000 in
set_option maxRecDepth 100000 in
theorem c_X5_init : CtI yX5_init cX5_init 1 5 1 12 7 280 := by
  intro l G cy h0 sz
  refine Met.ofW (cc := cX5_init) (maxL := 1) (ret := none) (by decide) rfl ?_
  intro p e s m args below meth c s₁ B hml hv
  obtain ⟨rfl, hsz, hP, hK, hD0, hE⟩ := hv
  have hx := B.exec
  have hb := B.bytes
  have hr := B.returns
  have hts0 := atoms_spec (ws := Cond.code yX5_init cX5_init 1 none :: TT) B.pre
  have hts := fun w hw => hts0 w (List.mem_cons_of_mem _ hw)
  have hown : s.vm.findClass RX5 = some m.cls := findClass_of_methodNamed B.named
  have hlocks := B.notSynchronized
  have hin : meth.name = "<init>" := (name_of_methodNamed B.named B.method).1
  subst hsz
  have hD := hD0.self (sz := s.heap.size)
  generalize hAe : va_A [(h0, .inr (5, raw 5))] s.heap.size = A at hD ⊢
  have hA : ∀ q : Nat, s.heap.size ≤ q → A q := fun q h => by rw [← hAe]; exact Or.inr h
  have hS : va_S A s.heap s.heap [] := va_S.rf
  have hP : va_P G vwCl [(h0, .inr (5, [.null, .null, .null, .null, .null, .null, .null, .int 0, .int 0]))] s.heap := hP
  have hD : va_D A [(h0, .inr (5, [.null, .null, .null, .null, .null, .null, .null, .int 0, .int 0]))] := hD
  have hl := lv_entry ([.ref h0]) (n := 1) (Nat.le_of_ble_eq_true rfl)
  rw [lg_entry_eq]
  generalize (lg_sl ([.ref h0]) ++ List.replicate (1 - (lg_sl ([.ref h0])).length) Slot.unset).toArray = ls at hl ⊢
  have hl : lv_has ls 1 [(0, .ref h0)] := hl
  refine lv_aload_n hx hb (dk okd_X5_init 0 rfl) rfl (lv_at hl 0 rfl) ?_
  refine W.objInit hx hb hown (hts _ ml_X5_3) (hts _ ow_inst) (hts _ ow_code) rfl (by rw [hml]; exact hl.1) rfl (dk okd_X5_init 1 rfl) (Nat.le_of_ble_eq_true rfl) (Nat.le_of_ble_eq_true rfl) ?_
  refine W.eq (g2 := F0 m 4 ls []) rfl ?_
  refine lv_aload_n hx hb (dk okd_X5_init 2 rfl) rfl (lv_at hl 0 rfl) ?_
  refine lv_bipush (v := 40) hx hb (dk okd_X5_init 3 rfl) (by decide) ?_
  refine va_newa (atype := .int) (ty := .int) (N' := 40) (a0 := (40, .inl (fun _ => 0))) hx hb (hts _ aw_int) rfl hK hP hD hS hA (fun cA => rfl) (by decide) (by decide) (Nat.le_of_ble_eq_true rfl) (Nat.le_of_ble_eq_true rfl) (Nat.le_of_ble_eq_true rfl) (dk okd_X5_init 4 rfl) (fun q1 cA H hK2 hP hD hS => ?_)
  have ecA : cA = cy 1 := cy_eq hK2 (i := 5) (j := 1) rfl rfl (fun C h => by cases h)
  subst ecA
  refine W.widen (k := 1) (n := 40) (Nat.le_of_ble_eq_true rfl) (Nat.le_of_ble_eq_true rfl) ?_
  refine va_putF (D := G) (ci := 5) (v := .ref q1) (ty := tyX5 0) (C := RX5) (T := TX5) (N := 9) hx hb hts uw_X5 tyX5 tyX5_ok nmX5 hown hK hP hD hS 0 rfl rfl 0 (by decide) (hts _ fw_X5_9) (fun _ h9 => h9) rfl hin rfl (tyX5_ok 0 (by decide)) rfl rfl (Nat.le_of_ble_eq_true rfl) (dk okd_X5_init 5 rfl) (fun H locs hP hD hS => ?_)
  have hP : va_P G vwCl [(h0, .inr (5, [.ref q1, .null, .null, .null, .null, .null, .null, .int 0, .int 0])), (q1, .inl (cy 1, 40, .inl (fun _ => 0)))] H := hP
  have hD : va_D A [(h0, .inr (5, [.ref q1, .null, .null, .null, .null, .null, .null, .int 0, .int 0])), (q1, .inl (cy 1, 40, .inl (fun _ => 0)))] := hD
  refine lv_aload_n hx hb (dk okd_X5_init 6 rfl) rfl (lv_at hl 0 rfl) ?_
  refine lv_bipush (v := 40) hx hb (dk okd_X5_init 7 rfl) (by decide) ?_
  refine va_newa (atype := .int) (ty := .int) (N' := 40) (a0 := (40, .inl (fun _ => 0))) hx hb (hts _ aw_int) rfl hK hP hD hS hA (fun cA => rfl) (by decide) (by decide) (Nat.le_of_ble_eq_true rfl) (Nat.le_of_ble_eq_true rfl) (Nat.le_of_ble_eq_true rfl) (dk okd_X5_init 8 rfl) (fun q2 cA H hK2 hP hD hS => ?_)
  have ecA : cA = cy 1 := cy_eq hK2 (i := 5) (j := 1) rfl rfl (fun C h => by cases h)
  subst ecA
  refine W.widen (k := 2) (n := 80) (Nat.le_of_ble_eq_true rfl) (Nat.le_of_ble_eq_true rfl) ?_
  refine va_putF (D := G) (ci := 5) (v := .ref q2) (ty := tyX5 1) (C := RX5) (T := TX5) (N := 9) hx hb hts uw_X5 tyX5 tyX5_ok nmX5 hown hK hP hD hS 0 rfl rfl 1 (by decide) (hts _ fw_X5_15) (fun _ h9 => h9) rfl hin rfl (tyX5_ok 1 (by decide)) rfl rfl (Nat.le_of_ble_eq_true rfl) (dk okd_X5_init 9 rfl) (fun H locs hP hD hS => ?_)
  have hP : va_P G vwCl [(h0, .inr (5, [.ref q1, .ref q2, .null, .null, .null, .null, .null, .int 0, .int 0])), (q1, .inl (cy 1, 40, .inl (fun _ => 0))), (q2, .inl (cy 1, 40, .inl (fun _ => 0)))] H := hP
  have hD : va_D A [(h0, .inr (5, [.ref q1, .ref q2, .null, .null, .null, .null, .null, .int 0, .int 0])), (q1, .inl (cy 1, 40, .inl (fun _ => 0))), (q2, .inl (cy 1, 40, .inl (fun _ => 0)))] := hD
  refine lv_aload_n hx hb (dk okd_X5_init 10 rfl) rfl (lv_at hl 0 rfl) ?_
  refine lv_bipush (v := 40) hx hb (dk okd_X5_init 11 rfl) (by decide) ?_
  refine va_newa (atype := .int) (ty := .int) (N' := 40) (a0 := (40, .inl (fun _ => 0))) hx hb (hts _ aw_int) rfl hK hP hD hS hA (fun cA => rfl) (by decide) (by decide) (Nat.le_of_ble_eq_true rfl) (Nat.le_of_ble_eq_true rfl) (Nat.le_of_ble_eq_true rfl) (dk okd_X5_init 12 rfl) (fun q3 cA H hK2 hP hD hS => ?_)
  have ecA : cA = cy 1 := cy_eq hK2 (i := 5) (j := 1) rfl rfl (fun C h => by cases h)
  subst ecA
  refine W.widen (k := 3) (n := 120) (Nat.le_of_ble_eq_true rfl) (Nat.le_of_ble_eq_true rfl) ?_
  refine va_putF (D := G) (ci := 5) (v := .ref q3) (ty := tyX5 2) (C := RX5) (T := TX5) (N := 9) hx hb hts uw_X5 tyX5 tyX5_ok nmX5 hown hK hP hD hS 0 rfl rfl 2 (by decide) (hts _ fw_X5_18) (fun _ h9 => h9) rfl hin rfl (tyX5_ok 2 (by decide)) rfl rfl (Nat.le_of_ble_eq_true rfl) (dk okd_X5_init 13 rfl) (fun H locs hP hD hS => ?_)
  have hP : va_P G vwCl [(h0, .inr (5, [.ref q1, .ref q2, .ref q3, .null, .null, .null, .null, .int 0, .int 0])), (q1, .inl (cy 1, 40, .inl (fun _ => 0))), (q2, .inl (cy 1, 40, .inl (fun _ => 0))), (q3, .inl (cy 1, 40, .inl (fun _ => 0)))] H := hP
  have hD : va_D A [(h0, .inr (5, [.ref q1, .ref q2, .ref q3, .null, .null, .null, .null, .int 0, .int 0])), (q1, .inl (cy 1, 40, .inl (fun _ => 0))), (q2, .inl (cy 1, 40, .inl (fun _ => 0))), (q3, .inl (cy 1, 40, .inl (fun _ => 0)))] := hD
  refine lv_aload_n hx hb (dk okd_X5_init 14 rfl) rfl (lv_at hl 0 rfl) ?_
  refine lv_bipush (v := 40) hx hb (dk okd_X5_init 15 rfl) (by decide) ?_
  refine va_newa (atype := .int) (ty := .int) (N' := 40) (a0 := (40, .inl (fun _ => 0))) hx hb (hts _ aw_int) rfl hK hP hD hS hA (fun cA => rfl) (by decide) (by decide) (Nat.le_of_ble_eq_true rfl) (Nat.le_of_ble_eq_true rfl) (Nat.le_of_ble_eq_true rfl) (dk okd_X5_init 16 rfl) (fun q4 cA H hK2 hP hD hS => ?_)
  have ecA : cA = cy 1 := cy_eq hK2 (i := 5) (j := 1) rfl rfl (fun C h => by cases h)
  subst ecA
  refine W.widen (k := 4) (n := 160) (Nat.le_of_ble_eq_true rfl) (Nat.le_of_ble_eq_true rfl) ?_
  refine va_putF (D := G) (ci := 5) (v := .ref q4) (ty := tyX5 3) (C := RX5) (T := TX5) (N := 9) hx hb hts uw_X5 tyX5 tyX5_ok nmX5 hown hK hP hD hS 0 rfl rfl 3 (by decide) (hts _ fw_X5_21) (fun _ h9 => h9) rfl hin rfl (tyX5_ok 3 (by decide)) rfl rfl (Nat.le_of_ble_eq_true rfl) (dk okd_X5_init 17 rfl) (fun H locs hP hD hS => ?_)
  have hP : va_P G vwCl [(h0, .inr (5, [.ref q1, .ref q2, .ref q3, .ref q4, .null, .null, .null, .int 0, .int 0])), (q1, .inl (cy 1, 40, .inl (fun _ => 0))), (q2, .inl (cy 1, 40, .inl (fun _ => 0))), (q3, .inl (cy 1, 40, .inl (fun _ => 0))), (q4, .inl (cy 1, 40, .inl (fun _ => 0)))] H := hP
  have hD : va_D A [(h0, .inr (5, [.ref q1, .ref q2, .ref q3, .ref q4, .null, .null, .null, .int 0, .int 0])), (q1, .inl (cy 1, 40, .inl (fun _ => 0))), (q2, .inl (cy 1, 40, .inl (fun _ => 0))), (q3, .inl (cy 1, 40, .inl (fun _ => 0))), (q4, .inl (cy 1, 40, .inl (fun _ => 0)))] := hD
  refine lv_aload_n hx hb (dk okd_X5_init 18 rfl) rfl (lv_at hl 0 rfl) ?_
  refine lv_bipush (v := 40) hx hb (dk okd_X5_init 19 rfl) (by decide) ?_
  refine va_newa (atype := .int) (ty := .int) (N' := 40) (a0 := (40, .inl (fun _ => 0))) hx hb (hts _ aw_int) rfl hK hP hD hS hA (fun cA => rfl) (by decide) (by decide) (Nat.le_of_ble_eq_true rfl) (Nat.le_of_ble_eq_true rfl) (Nat.le_of_ble_eq_true rfl) (dk okd_X5_init 20 rfl) (fun q5 cA H hK2 hP hD hS => ?_)
  have ecA : cA = cy 1 := cy_eq hK2 (i := 5) (j := 1) rfl rfl (fun C h => by cases h)
  subst ecA
  refine W.widen (k := 5) (n := 200) (Nat.le_of_ble_eq_true rfl) (Nat.le_of_ble_eq_true rfl) ?_
  refine va_putF (D := G) (ci := 5) (v := .ref q5) (ty := tyX5 4) (C := RX5) (T := TX5) (N := 9) hx hb hts uw_X5 tyX5 tyX5_ok nmX5 hown hK hP hD hS 0 rfl rfl 4 (by decide) (hts _ fw_X5_24) (fun _ h9 => h9) rfl hin rfl (tyX5_ok 4 (by decide)) rfl rfl (Nat.le_of_ble_eq_true rfl) (dk okd_X5_init 21 rfl) (fun H locs hP hD hS => ?_)
  have hP : va_P G vwCl [(h0, .inr (5, [.ref q1, .ref q2, .ref q3, .ref q4, .ref q5, .null, .null, .int 0, .int 0])), (q1, .inl (cy 1, 40, .inl (fun _ => 0))), (q2, .inl (cy 1, 40, .inl (fun _ => 0))), (q3, .inl (cy 1, 40, .inl (fun _ => 0))), (q4, .inl (cy 1, 40, .inl (fun _ => 0))), (q5, .inl (cy 1, 40, .inl (fun _ => 0)))] H := hP
  have hD : va_D A [(h0, .inr (5, [.ref q1, .ref q2, .ref q3, .ref q4, .ref q5, .null, .null, .int 0, .int 0])), (q1, .inl (cy 1, 40, .inl (fun _ => 0))), (q2, .inl (cy 1, 40, .inl (fun _ => 0))), (q3, .inl (cy 1, 40, .inl (fun _ => 0))), (q4, .inl (cy 1, 40, .inl (fun _ => 0))), (q5, .inl (cy 1, 40, .inl (fun _ => 0)))] := hD
  refine lv_aload_n hx hb (dk okd_X5_init 22 rfl) rfl (lv_at hl 0 rfl) ?_
  refine lv_bipush (v := 40) hx hb (dk okd_X5_init 23 rfl) (by decide) ?_
  refine va_newa (atype := .boolean) (ty := .boolean) (N' := 40) (a0 := (40, .inl (fun _ => 0))) hx hb (hts _ aw_boolean) rfl hK hP hD hS hA (fun cA => rfl) (by decide) (by decide) (Nat.le_of_ble_eq_true rfl) (Nat.le_of_ble_eq_true rfl) (Nat.le_of_ble_eq_true rfl) (dk okd_X5_init 24 rfl) (fun q6 cA H hK2 hP hD hS => ?_)
  have ecA : cA = cy 3 := cy_eq hK2 (i := 5) (j := 3) rfl rfl (fun C h => by cases h)
  subst ecA
  refine W.widen (k := 6) (n := 240) (Nat.le_of_ble_eq_true rfl) (Nat.le_of_ble_eq_true rfl) ?_
  refine va_putF (D := G) (ci := 5) (v := .ref q6) (ty := tyX5 5) (C := RX5) (T := TX5) (N := 9) hx hb hts uw_X5 tyX5 tyX5_ok nmX5 hown hK hP hD hS 0 rfl rfl 5 (by decide) (hts _ fw_X5_27) (fun _ h9 => h9) rfl hin rfl (tyX5_ok 5 (by decide)) rfl rfl (Nat.le_of_ble_eq_true rfl) (dk okd_X5_init 25 rfl) (fun H locs hP hD hS => ?_)
  have hP : va_P G vwCl [(h0, .inr (5, [.ref q1, .ref q2, .ref q3, .ref q4, .ref q5, .ref q6, .null, .int 0, .int 0])), (q1, .inl (cy 1, 40, .inl (fun _ => 0))), (q2, .inl (cy 1, 40, .inl (fun _ => 0))), (q3, .inl (cy 1, 40, .inl (fun _ => 0))), (q4, .inl (cy 1, 40, .inl (fun _ => 0))), (q5, .inl (cy 1, 40, .inl (fun _ => 0))), (q6, .inl (cy 3, 40, .inl (fun _ => 0)))] H := hP
  have hD : va_D A [(h0, .inr (5, [.ref q1, .ref q2, .ref q3, .ref q4, .ref q5, .ref q6, .null, .int 0, .int 0])), (q1, .inl (cy 1, 40, .inl (fun _ => 0))), (q2, .inl (cy 1, 40, .inl (fun _ => 0))), (q3, .inl (cy 1, 40, .inl (fun _ => 0))), (q4, .inl (cy 1, 40, .inl (fun _ => 0))), (q5, .inl (cy 1, 40, .inl (fun _ => 0))), (q6, .inl (cy 3, 40, .inl (fun _ => 0)))] := hD
  refine lv_aload_n hx hb (dk okd_X5_init 26 rfl) rfl (lv_at hl 0 rfl) ?_
  refine lv_bipush (v := 40) hx hb (dk okd_X5_init 27 rfl) (by decide) ?_
  refine va_newa (atype := .long) (ty := .long) (N' := 40) (a0 := (40, .inr (.inl (fun _ => 0)))) hx hb (hts _ aw_long) rfl hK hP hD hS hA (fun cA => rfl) (by decide) (by decide) (Nat.le_of_ble_eq_true rfl) (Nat.le_of_ble_eq_true rfl) (Nat.le_of_ble_eq_true rfl) (dk okd_X5_init 28 rfl) (fun q7 cA H hK2 hP hD hS => ?_)
  have ecA : cA = cy 2 := cy_eq hK2 (i := 5) (j := 2) rfl rfl (fun C h => by cases h)
  subst ecA
  refine W.widen (k := 7) (n := 280) (Nat.le_of_ble_eq_true rfl) (Nat.le_of_ble_eq_true rfl) ?_
  refine va_putF (D := G) (ci := 5) (v := .ref q7) (ty := tyX5 6) (C := RX5) (T := TX5) (N := 9) hx hb hts uw_X5 tyX5 tyX5_ok nmX5 hown hK hP hD hS 0 rfl rfl 6 (by decide) (hts _ fw_X5_31) (fun _ h9 => h9) rfl hin rfl (tyX5_ok 6 (by decide)) rfl rfl (Nat.le_of_ble_eq_true rfl) (dk okd_X5_init 29 rfl) (fun H locs hP hD hS => ?_)
  have hP : va_P G vwCl [(h0, .inr (5, [.ref q1, .ref q2, .ref q3, .ref q4, .ref q5, .ref q6, .ref q7, .int 0, .int 0])), (q1, .inl (cy 1, 40, .inl (fun _ => 0))), (q2, .inl (cy 1, 40, .inl (fun _ => 0))), (q3, .inl (cy 1, 40, .inl (fun _ => 0))), (q4, .inl (cy 1, 40, .inl (fun _ => 0))), (q5, .inl (cy 1, 40, .inl (fun _ => 0))), (q6, .inl (cy 3, 40, .inl (fun _ => 0))), (q7, .inl (cy 2, 40, .inr (.inl (fun _ => 0))))] H := hP
  have hD : va_D A [(h0, .inr (5, [.ref q1, .ref q2, .ref q3, .ref q4, .ref q5, .ref q6, .ref q7, .int 0, .int 0])), (q1, .inl (cy 1, 40, .inl (fun _ => 0))), (q2, .inl (cy 1, 40, .inl (fun _ => 0))), (q3, .inl (cy 1, 40, .inl (fun _ => 0))), (q4, .inl (cy 1, 40, .inl (fun _ => 0))), (q5, .inl (cy 1, 40, .inl (fun _ => 0))), (q6, .inl (cy 3, 40, .inl (fun _ => 0))), (q7, .inl (cy 2, 40, .inr (.inl (fun _ => 0))))] := hD
  have hnd : (h0 :: ([(q1, 13, 40), (q2, 13, 40), (q3, 13, 40), (q4, 13, 40), (q5, 13, 40), (q6, 15, 40), (q7, 14, 40)] : List (Nat × Nat × Nat)).map (fun t => t.1)).Nodup := D_nodup hD
  have hrf : ([q1, q2, q3, q4, q5, q6, q7] : List Nat).Nodup := (List.nodup_cons.mp hnd).2
  have hpl := lf_pool (cy := cy) (h0 := h0) (ci := 5) (rf := (fun k => (([q1, q2, q3, q4, q5, q6, q7] : List Nat)[k]?).getD 0)) (i0 := fun _ => 0) (as := [(q1, 13, 40), (q2, 13, 40), (q3, 13, 40), (q4, 13, 40), (q5, 13, 40), (q6, 15, 40), (q7, 14, 40)]) (by decide) (by intro t ht; simp at ht; rcases ht with rfl | rfl | rfl | rfl | rfl | rfl | rfl <;> simp) hnd
  have hpi : PI 5 (h0 :: ([(q1, 13, 40), (q2, 13, 40), (q3, 13, 40), (q4, 13, 40), (q5, 13, 40), (q6, 15, 40), (q7, 14, 40)] : List (Nat × Nat × Nat)).map (fun t => t.1)) (lfK h0 5 [(q1, 13, 40), (q2, 13, 40), (q3, 13, 40), (q4, 13, 40), (q5, 13, 40), (q6, 15, 40), (q7, 14, 40)]) (lfS h0 (fun k => (([q1, q2, q3, q4, q5, q6, q7] : List Nat)[k]?).getD 0) (fun _ => 0) [(q1, 13, 40), (q2, 13, 40), (q3, 13, 40), (q4, 13, 40), (q5, 13, 40), (q6, 15, 40), (q7, 14, 40)]) h0 := by
    refine lf_PI (by decide) (by intro t ht; simp at ht; rcases ht with rfl | rfl | rfl | rfl | rfl | rfl | rfl <;> simp) hnd (fun i hi => ?_) (fun i j hi hj e => ?_)
    · have hlt : i < 7 := lay_lt_X5 hi
      rcases (show i = 0 ∨ i = 1 ∨ i = 2 ∨ i = 3 ∨ i = 4 ∨ i = 5 ∨ i = 6 by omega) with rfl | rfl | rfl | rfl | rfl | rfl | rfl
      · exact ⟨40, by simp [rt], fun _ => rfl⟩
      · exact ⟨40, by simp [rt], fun _ => rfl⟩
      · exact ⟨40, by simp [rt], fun _ => rfl⟩
      · exact ⟨40, by simp [rt], fun _ => rfl⟩
      · exact ⟨40, by simp [rt], fun _ => rfl⟩
      · exact ⟨40, by simp [rt], fun _ => rfl⟩
      · exact ⟨40, by simp [rt], fun _ => rfl⟩
    · exact nd_inj hrf (lay_lt_X5 hi) (lay_lt_X5 hj) e
  rw [show ((h0, .inr (5, fvs (lfS h0 (fun k => (([q1, q2, q3, q4, q5, q6, q7] : List Nat)[k]?).getD 0) (fun _ => 0) [(q1, 13, 40), (q2, 13, 40), (q3, 13, 40), (q4, 13, 40), (q5, 13, 40), (q6, 15, 40), (q7, 14, 40)]) h0 0 (lay 5))) :: ([(q1, 13, 40), (q2, 13, 40), (q3, 13, 40), (q4, 13, 40), (q5, 13, 40), (q6, 15, 40), (q7, 14, 40)] : List (Nat × Nat × Nat)).map (fun t => (t.1, arE cy t)) : va_W) = [(h0, .inr (5, [.ref q1, .ref q2, .ref q3, .ref q4, .ref q5, .ref q6, .ref q7, .int 0, .int 0])), (q1, .inl (cy 1, 40, .inl (fun _ => 0))), (q2, .inl (cy 1, 40, .inl (fun _ => 0))), (q3, .inl (cy 1, 40, .inl (fun _ => 0))), (q4, .inl (cy 1, 40, .inl (fun _ => 0))), (q5, .inl (cy 1, 40, .inl (fun _ => 0))), (q6, .inl (cy 3, 40, .inl (fun _ => 0))), (q7, .inl (cy 2, 40, .inr (.inl (fun _ => 0))))] from by simp [fvs, fv, lfS, lay, gI, gJ, gR, arE]] at hpl
  rw [← hpl] at hP hD
  exact W.vret hx hb hr (fun t ht hW => ⟨⟨rfl, _, _, _, by rw [ht]; exact hP, hD, hpi⟩, hS.F ht⟩) hS.2.2 (dk okd_X5_init 30 rfl) hlocks
theorem ml_X6_3 : Cond.methodLink RX6 3 Lib.objectInit ∈ TT := TT_1 (i := 186) rfl rfl
theorem fw_X6_9 : Cond.fieldLink RX6 9 RX6 (TX6 0).2.1 (TX6 0).2.2.1 ∈ TT := TT_1 (i := 187) rfl rfl
theorem fw_X6_15 : Cond.fieldLink RX6 15 RX6 (TX6 1).2.1 (TX6 1).2.2.1 ∈ TT := TT_1 (i := 190) rfl rfl
theorem fw_X6_18 : Cond.fieldLink RX6 18 RX6 (TX6 2).2.1 (TX6 2).2.2.1 ∈ TT := TT_1 (i := 192) rfl rfl
theorem fw_X6_21 : Cond.fieldLink RX6 21 RX6 (TX6 3).2.1 (TX6 3).2.2.1 ∈ TT := TT_1 (i := 194) rfl rfl
def ed_X6_init : List (Nat × Instr × Nat) := [(0, .aload_n 0, 1), (1, .invokespecial 3, 3), (4, .aload_n 0, 1), (5, .bipush 16, 2), (7, .newarray .int, 2), (9, .putfield 9, 3), (12, .aload_n 0, 1), (13, .bipush 16, 2), (15, .newarray .int, 2), (17, .putfield 15, 3), (20, .aload_n 0, 1), (21, .bipush 16, 2), (23, .newarray .int, 2), (25, .putfield 18, 3), (28, .aload_n 0, 1), (29, .bipush 16, 2), (31, .newarray .long, 2), (33, .putfield 21, 3), (36, .return_, 1)]
theorem okd_X6_init : ed_X6_init.all (okD cX6_init) = true := by decide +kernel
theorem lay_lt_X6 {i : Nat} (h : (lay 6)[i]? = some 2) : i < 4 := by
  rcases Nat.lt_or_ge i 4 with q | q
  · exact q
  · exfalso
    have hl := (List.getElem?_eq_some_iff.mp h).1
    simp only [lay, List.length_cons, List.length_nil] at hl
    rcases (show i = 4 by omega) with rfl <;> simp [lay] at h
set_option maxHeartbeats 4000000 in
set_option maxRecDepth 100000 in
theorem c_X6_init : CtI yX6_init cX6_init 1 6 1 12 4 64 := by
  intro l G cy h0 sz
  refine Met.ofW (cc := cX6_init) (maxL := 1) (ret := none) (by decide) rfl ?_
  intro p e s m args below meth c s₁ B hml hv
  obtain ⟨rfl, hsz, hP, hK, hD0, hE⟩ := hv
  have hx := B.exec
  have hb := B.bytes
  have hr := B.returns
  have hts0 := atoms_spec (ws := Cond.code yX6_init cX6_init 1 none :: TT) B.pre
  have hts := fun w hw => hts0 w (List.mem_cons_of_mem _ hw)
  have hown : s.vm.findClass RX6 = some m.cls := findClass_of_methodNamed B.named
  have hlocks := B.notSynchronized
  have hin : meth.name = "<init>" := (name_of_methodNamed B.named B.method).1
  subst hsz
  have hD := hD0.self (sz := s.heap.size)
  generalize hAe : va_A [(h0, .inr (6, raw 6))] s.heap.size = A at hD ⊢
  have hA : ∀ q : Nat, s.heap.size ≤ q → A q := fun q h => by rw [← hAe]; exact Or.inr h
  have hS : va_S A s.heap s.heap [] := va_S.rf
  have hP : va_P G vwCl [(h0, .inr (6, [.null, .null, .null, .null, .int 0]))] s.heap := hP
  have hD : va_D A [(h0, .inr (6, [.null, .null, .null, .null, .int 0]))] := hD
  have hl := lv_entry ([.ref h0]) (n := 1) (Nat.le_of_ble_eq_true rfl)
  rw [lg_entry_eq]
  generalize (lg_sl ([.ref h0]) ++ List.replicate (1 - (lg_sl ([.ref h0])).length) Slot.unset).toArray = ls at hl ⊢
  have hl : lv_has ls 1 [(0, .ref h0)] := hl
  refine lv_aload_n hx hb (dk okd_X6_init 0 rfl) rfl (lv_at hl 0 rfl) ?_
  refine W.objInit hx hb hown (hts _ ml_X6_3) (hts _ ow_inst) (hts _ ow_code) rfl (by rw [hml]; exact hl.1) rfl (dk okd_X6_init 1 rfl) (Nat.le_of_ble_eq_true rfl) (Nat.le_of_ble_eq_true rfl) ?_
  refine W.eq (g2 := F0 m 4 ls []) rfl ?_
  refine lv_aload_n hx hb (dk okd_X6_init 2 rfl) rfl (lv_at hl 0 rfl) ?_
  refine lv_bipush (v := 16) hx hb (dk okd_X6_init 3 rfl) (by decide) ?_
  refine va_newa (atype := .int) (ty := .int) (N' := 16) (a0 := (16, .inl (fun _ => 0))) hx hb (hts _ aw_int) rfl hK hP hD hS hA (fun cA => rfl) (by decide) (by decide) (Nat.le_of_ble_eq_true rfl) (Nat.le_of_ble_eq_true rfl) (Nat.le_of_ble_eq_true rfl) (dk okd_X6_init 4 rfl) (fun q1 cA H hK2 hP hD hS => ?_)
  have ecA : cA = cy 1 := cy_eq hK2 (i := 5) (j := 1) rfl rfl (fun C h => by cases h)
  subst ecA
  refine W.widen (k := 1) (n := 16) (Nat.le_of_ble_eq_true rfl) (Nat.le_of_ble_eq_true rfl) ?_
  refine va_putF (D := G) (ci := 6) (v := .ref q1) (ty := tyX6 0) (C := RX6) (T := TX6) (N := 5) hx hb hts uw_X6 tyX6 tyX6_ok nmX6 hown hK hP hD hS 0 rfl rfl 0 (by decide) (hts _ fw_X6_9) (fun _ h9 => h9) rfl hin rfl (tyX6_ok 0 (by decide)) rfl rfl (Nat.le_of_ble_eq_true rfl) (dk okd_X6_init 5 rfl) (fun H locs hP hD hS => ?_)
  have hP : va_P G vwCl [(h0, .inr (6, [.ref q1, .null, .null, .null, .int 0])), (q1, .inl (cy 1, 16, .inl (fun _ => 0)))] H := hP
  have hD : va_D A [(h0, .inr (6, [.ref q1, .null, .null, .null, .int 0])), (q1, .inl (cy 1, 16, .inl (fun _ => 0)))] := hD
  refine lv_aload_n hx hb (dk okd_X6_init 6 rfl) rfl (lv_at hl 0 rfl) ?_
  refine lv_bipush (v := 16) hx hb (dk okd_X6_init 7 rfl) (by decide) ?_
  refine va_newa (atype := .int) (ty := .int) (N' := 16) (a0 := (16, .inl (fun _ => 0))) hx hb (hts _ aw_int) rfl hK hP hD hS hA (fun cA => rfl) (by decide) (by decide) (Nat.le_of_ble_eq_true rfl) (Nat.le_of_ble_eq_true rfl) (Nat.le_of_ble_eq_true rfl) (dk okd_X6_init 8 rfl) (fun q2 cA H hK2 hP hD hS => ?_)
  have ecA : cA = cy 1 := cy_eq hK2 (i := 5) (j := 1) rfl rfl (fun C h => by cases h)
  subst ecA
  refine W.widen (k := 2) (n := 32) (Nat.le_of_ble_eq_true rfl) (Nat.le_of_ble_eq_true rfl) ?_
  refine va_putF (D := G) (ci := 6) (v := .ref q2) (ty := tyX6 1) (C := RX6) (T := TX6) (N := 5) hx hb hts uw_X6 tyX6 tyX6_ok nmX6 hown hK hP hD hS 0 rfl rfl 1 (by decide) (hts _ fw_X6_15) (fun _ h9 => h9) rfl hin rfl (tyX6_ok 1 (by decide)) rfl rfl (Nat.le_of_ble_eq_true rfl) (dk okd_X6_init 9 rfl) (fun H locs hP hD hS => ?_)
  have hP : va_P G vwCl [(h0, .inr (6, [.ref q1, .ref q2, .null, .null, .int 0])), (q1, .inl (cy 1, 16, .inl (fun _ => 0))), (q2, .inl (cy 1, 16, .inl (fun _ => 0)))] H := hP
  have hD : va_D A [(h0, .inr (6, [.ref q1, .ref q2, .null, .null, .int 0])), (q1, .inl (cy 1, 16, .inl (fun _ => 0))), (q2, .inl (cy 1, 16, .inl (fun _ => 0)))] := hD
  refine lv_aload_n hx hb (dk okd_X6_init 10 rfl) rfl (lv_at hl 0 rfl) ?_
  refine lv_bipush (v := 16) hx hb (dk okd_X6_init 11 rfl) (by decide) ?_
  refine va_newa (atype := .int) (ty := .int) (N' := 16) (a0 := (16, .inl (fun _ => 0))) hx hb (hts _ aw_int) rfl hK hP hD hS hA (fun cA => rfl) (by decide) (by decide) (Nat.le_of_ble_eq_true rfl) (Nat.le_of_ble_eq_true rfl) (Nat.le_of_ble_eq_true rfl) (dk okd_X6_init 12 rfl) (fun q3 cA H hK2 hP hD hS => ?_)
  have ecA : cA = cy 1 := cy_eq hK2 (i := 5) (j := 1) rfl rfl (fun C h => by cases h)
  subst ecA
  refine W.widen (k := 3) (n := 48) (Nat.le_of_ble_eq_true rfl) (Nat.le_of_ble_eq_true rfl) ?_
  refine va_putF (D := G) (ci := 6) (v := .ref q3) (ty := tyX6 2) (C := RX6) (T := TX6) (N := 5) hx hb hts uw_X6 tyX6 tyX6_ok nmX6 hown hK hP hD hS 0 rfl rfl 2 (by decide) (hts _ fw_X6_18) (fun _ h9 => h9) rfl hin rfl (tyX6_ok 2 (by decide)) rfl rfl (Nat.le_of_ble_eq_true rfl) (dk okd_X6_init 13 rfl) (fun H locs hP hD hS => ?_)
  have hP : va_P G vwCl [(h0, .inr (6, [.ref q1, .ref q2, .ref q3, .null, .int 0])), (q1, .inl (cy 1, 16, .inl (fun _ => 0))), (q2, .inl (cy 1, 16, .inl (fun _ => 0))), (q3, .inl (cy 1, 16, .inl (fun _ => 0)))] H := hP
  have hD : va_D A [(h0, .inr (6, [.ref q1, .ref q2, .ref q3, .null, .int 0])), (q1, .inl (cy 1, 16, .inl (fun _ => 0))), (q2, .inl (cy 1, 16, .inl (fun _ => 0))), (q3, .inl (cy 1, 16, .inl (fun _ => 0)))] := hD
  refine lv_aload_n hx hb (dk okd_X6_init 14 rfl) rfl (lv_at hl 0 rfl) ?_
  refine lv_bipush (v := 16) hx hb (dk okd_X6_init 15 rfl) (by decide) ?_
  refine va_newa (atype := .long) (ty := .long) (N' := 16) (a0 := (16, .inr (.inl (fun _ => 0)))) hx hb (hts _ aw_long) rfl hK hP hD hS hA (fun cA => rfl) (by decide) (by decide) (Nat.le_of_ble_eq_true rfl) (Nat.le_of_ble_eq_true rfl) (Nat.le_of_ble_eq_true rfl) (dk okd_X6_init 16 rfl) (fun q4 cA H hK2 hP hD hS => ?_)
  have ecA : cA = cy 2 := cy_eq hK2 (i := 5) (j := 2) rfl rfl (fun C h => by cases h)
  subst ecA
  refine W.widen (k := 4) (n := 64) (Nat.le_of_ble_eq_true rfl) (Nat.le_of_ble_eq_true rfl) ?_
  refine va_putF (D := G) (ci := 6) (v := .ref q4) (ty := tyX6 3) (C := RX6) (T := TX6) (N := 5) hx hb hts uw_X6 tyX6 tyX6_ok nmX6 hown hK hP hD hS 0 rfl rfl 3 (by decide) (hts _ fw_X6_21) (fun _ h9 => h9) rfl hin rfl (tyX6_ok 3 (by decide)) rfl rfl (Nat.le_of_ble_eq_true rfl) (dk okd_X6_init 17 rfl) (fun H locs hP hD hS => ?_)
  have hP : va_P G vwCl [(h0, .inr (6, [.ref q1, .ref q2, .ref q3, .ref q4, .int 0])), (q1, .inl (cy 1, 16, .inl (fun _ => 0))), (q2, .inl (cy 1, 16, .inl (fun _ => 0))), (q3, .inl (cy 1, 16, .inl (fun _ => 0))), (q4, .inl (cy 2, 16, .inr (.inl (fun _ => 0))))] H := hP
  have hD : va_D A [(h0, .inr (6, [.ref q1, .ref q2, .ref q3, .ref q4, .int 0])), (q1, .inl (cy 1, 16, .inl (fun _ => 0))), (q2, .inl (cy 1, 16, .inl (fun _ => 0))), (q3, .inl (cy 1, 16, .inl (fun _ => 0))), (q4, .inl (cy 2, 16, .inr (.inl (fun _ => 0))))] := hD
  have hnd : (h0 :: ([(q1, 13, 16), (q2, 13, 16), (q3, 13, 16), (q4, 14, 16)] : List (Nat × Nat × Nat)).map (fun t => t.1)).Nodup := D_nodup hD
  have hrf : ([q1, q2, q3, q4] : List Nat).Nodup := (List.nodup_cons.mp hnd).2
  have hpl := lf_pool (cy := cy) (h0 := h0) (ci := 6) (rf := (fun k => (([q1, q2, q3, q4] : List Nat)[k]?).getD 0)) (i0 := fun _ => 0) (as := [(q1, 13, 16), (q2, 13, 16), (q3, 13, 16), (q4, 14, 16)]) (by decide) (by intro t ht; simp at ht; rcases ht with rfl | rfl | rfl | rfl <;> simp) hnd
  have hpi : PI 6 (h0 :: ([(q1, 13, 16), (q2, 13, 16), (q3, 13, 16), (q4, 14, 16)] : List (Nat × Nat × Nat)).map (fun t => t.1)) (lfK h0 6 [(q1, 13, 16), (q2, 13, 16), (q3, 13, 16), (q4, 14, 16)]) (lfS h0 (fun k => (([q1, q2, q3, q4] : List Nat)[k]?).getD 0) (fun _ => 0) [(q1, 13, 16), (q2, 13, 16), (q3, 13, 16), (q4, 14, 16)]) h0 := by
    refine lf_PI (by decide) (by intro t ht; simp at ht; rcases ht with rfl | rfl | rfl | rfl <;> simp) hnd (fun i hi => ?_) (fun i j hi hj e => ?_)
    · have hlt : i < 4 := lay_lt_X6 hi
      rcases (show i = 0 ∨ i = 1 ∨ i = 2 ∨ i = 3 by omega) with rfl | rfl | rfl | rfl
      · exact ⟨16, by simp [rt], fun _ => rfl⟩
      · exact ⟨16, by simp [rt], fun _ => rfl⟩
      · exact ⟨16, by simp [rt], fun _ => rfl⟩
      · exact ⟨16, by simp [rt], fun _ => rfl⟩
    · exact nd_inj hrf (lay_lt_X6 hi) (lay_lt_X6 hj) e
  rw [show ((h0, .inr (6, fvs (lfS h0 (fun k => (([q1, q2, q3, q4] : List Nat)[k]?).getD 0) (fun _ => 0) [(q1, 13, 16), (q2, 13, 16), (q3, 13, 16), (q4, 14, 16)]) h0 0 (lay 6))) :: ([(q1, 13, 16), (q2, 13, 16), (q3, 13, 16), (q4, 14, 16)] : List (Nat × Nat × Nat)).map (fun t => (t.1, arE cy t)) : va_W) = [(h0, .inr (6, [.ref q1, .ref q2, .ref q3, .ref q4, .int 0])), (q1, .inl (cy 1, 16, .inl (fun _ => 0))), (q2, .inl (cy 1, 16, .inl (fun _ => 0))), (q3, .inl (cy 1, 16, .inl (fun _ => 0))), (q4, .inl (cy 2, 16, .inr (.inl (fun _ => 0))))] from by simp [fvs, fv, lfS, lay, gI, gJ, gR, arE]] at hpl
  rw [← hpl] at hP hD
  exact W.vret hx hb hr (fun t ht hW => ⟨⟨rfl, _, _, _, by rw [ht]; exact hP, hD, hpi⟩, hS.F ht⟩) hS.2.2 (dk okd_X6_init 18 rfl) hlocks
theorem ml_X8_3 : Cond.methodLink RX8 3 Lib.objectInit ∈ TT := TT_1 (i := 124) rfl rfl
theorem fw_X8_9 : Cond.fieldLink RX8 9 RX8 (TX8 0).2.1 (TX8 0).2.2.1 ∈ TT := TT_1 (i := 125) rfl rfl
theorem fw_X8_15 : Cond.fieldLink RX8 15 RX8 (TX8 1).2.1 (TX8 1).2.2.1 ∈ TT := TT_1 (i := 126) rfl rfl
theorem fw_X8_18 : Cond.fieldLink RX8 18 RX8 (TX8 2).2.1 (TX8 2).2.2.1 ∈ TT := TT_1 (i := 127) rfl rfl
theorem fw_X8_22 : Cond.fieldLink RX8 22 RX8 (TX8 3).2.1 (TX8 3).2.2.1 ∈ TT := TT_1 (i := 128) rfl rfl
def ed_X8_init : List (Nat × Instr × Nat) := [(0, .aload_n 0, 1), (1, .invokespecial 3, 3), (4, .aload_n 0, 1), (5, .iconst 4, 1), (6, .newarray .int, 2), (8, .putfield 9, 3), (11, .aload_n 0, 1), (12, .iconst 4, 1), (13, .newarray .int, 2), (15, .putfield 15, 3), (18, .aload_n 0, 1), (19, .bipush 20, 2), (21, .newarray .long, 2), (23, .putfield 18, 3), (26, .aload_n 0, 1), (27, .bipush 20, 2), (29, .newarray .int, 2), (31, .putfield 22, 3), (34, .return_, 1)]
theorem okd_X8_init : ed_X8_init.all (okD cX8_init) = true := by decide +kernel
theorem lay_lt_X8 {i : Nat} (h : (lay 7)[i]? = some 2) : i < 4 := by
  rcases Nat.lt_or_ge i 4 with q | q
  · exact q
  · exfalso
    have hl := (List.getElem?_eq_some_iff.mp h).1
    simp only [lay, List.length_cons, List.length_nil] at hl
    rcases (show i = 4 ∨ i = 5 ∨ i = 6 ∨ i = 7 ∨ i = 8 ∨ i = 9 ∨ i = 10 ∨ i = 11 by omega) with rfl | rfl | rfl | rfl | rfl | rfl | rfl | rfl <;> simp [lay] at h
set_option maxHeartbeats 4000000 in
set_option maxRecDepth 100000 in
theorem c_X8_init : CtI yX8_init cX8_init 1 7 1 12 4 48 := by
  intro l G cy h0 sz
  refine Met.ofW (cc := cX8_init) (maxL := 1) (ret := none) (by decide) rfl ?_
  intro p e s m args below meth c s₁ B hml hv
  obtain ⟨rfl, hsz, hP, hK, hD0, hE⟩ := hv
  have hx := B.exec
  have hb := B.bytes
  have hr := B.returns
  have hts0 := atoms_spec (ws := Cond.code yX8_init cX8_init 1 none :: TT) B.pre
  have hts := fun w hw => hts0 w (List.mem_cons_of_mem _ hw)
  have hown : s.vm.findClass RX8 = some m.cls := findClass_of_methodNamed B.named
  have hlocks := B.notSynchronized
  have hin : meth.name = "<init>" := (name_of_methodNamed B.named B.method).1
  subst hsz
  have hD := hD0.self (sz := s.heap.size)
  generalize hAe : va_A [(h0, .inr (7, raw 7))] s.heap.size = A at hD ⊢
  have hA : ∀ q : Nat, s.heap.size ≤ q → A q := fun q h => by rw [← hAe]; exact Or.inr h
  have hS : va_S A s.heap s.heap [] := va_S.rf
  have hP : va_P G vwCl [(h0, .inr (7, [.null, .null, .null, .null, .int 0, .int 0, .long 0, .int 0, .int 0, .long 0, .int 0, .int 0]))] s.heap := hP
  have hD : va_D A [(h0, .inr (7, [.null, .null, .null, .null, .int 0, .int 0, .long 0, .int 0, .int 0, .long 0, .int 0, .int 0]))] := hD
  have hl := lv_entry ([.ref h0]) (n := 1) (Nat.le_of_ble_eq_true rfl)
  rw [lg_entry_eq]
  generalize (lg_sl ([.ref h0]) ++ List.replicate (1 - (lg_sl ([.ref h0])).length) Slot.unset).toArray = ls at hl ⊢
  have hl : lv_has ls 1 [(0, .ref h0)] := hl
  refine lv_aload_n hx hb (dk okd_X8_init 0 rfl) rfl (lv_at hl 0 rfl) ?_
  refine W.objInit hx hb hown (hts _ ml_X8_3) (hts _ ow_inst) (hts _ ow_code) rfl (by rw [hml]; exact hl.1) rfl (dk okd_X8_init 1 rfl) (Nat.le_of_ble_eq_true rfl) (Nat.le_of_ble_eq_true rfl) ?_
  refine W.eq (g2 := F0 m 4 ls []) rfl ?_
  refine lv_aload_n hx hb (dk okd_X8_init 2 rfl) rfl (lv_at hl 0 rfl) ?_
  refine lv_iconst (v := 4) hx hb (dk okd_X8_init 3 rfl) (by decide) ?_
  refine va_newa (atype := .int) (ty := .int) (N' := 4) (a0 := (4, .inl (fun _ => 0))) hx hb (hts _ aw_int) rfl hK hP hD hS hA (fun cA => rfl) (by decide) (by decide) (Nat.le_of_ble_eq_true rfl) (Nat.le_of_ble_eq_true rfl) (Nat.le_of_ble_eq_true rfl) (dk okd_X8_init 4 rfl) (fun q1 cA H hK2 hP hD hS => ?_)
  have ecA : cA = cy 1 := cy_eq hK2 (i := 5) (j := 1) rfl rfl (fun C h => by cases h)
  subst ecA
  refine W.widen (k := 1) (n := 4) (Nat.le_of_ble_eq_true rfl) (Nat.le_of_ble_eq_true rfl) ?_
  refine va_putF (D := G) (ci := 7) (v := .ref q1) (ty := tyX8 0) (C := RX8) (T := TX8) (N := 12) hx hb hts uw_X8 tyX8 tyX8_ok nmX8 hown hK hP hD hS 0 rfl rfl 0 (by decide) (hts _ fw_X8_9) (fun _ h9 => h9) rfl hin rfl (tyX8_ok 0 (by decide)) rfl rfl (Nat.le_of_ble_eq_true rfl) (dk okd_X8_init 5 rfl) (fun H locs hP hD hS => ?_)
  have hP : va_P G vwCl [(h0, .inr (7, [.ref q1, .null, .null, .null, .int 0, .int 0, .long 0, .int 0, .int 0, .long 0, .int 0, .int 0])), (q1, .inl (cy 1, 4, .inl (fun _ => 0)))] H := hP
  have hD : va_D A [(h0, .inr (7, [.ref q1, .null, .null, .null, .int 0, .int 0, .long 0, .int 0, .int 0, .long 0, .int 0, .int 0])), (q1, .inl (cy 1, 4, .inl (fun _ => 0)))] := hD
  refine lv_aload_n hx hb (dk okd_X8_init 6 rfl) rfl (lv_at hl 0 rfl) ?_
  refine lv_iconst (v := 4) hx hb (dk okd_X8_init 7 rfl) (by decide) ?_
  refine va_newa (atype := .int) (ty := .int) (N' := 4) (a0 := (4, .inl (fun _ => 0))) hx hb (hts _ aw_int) rfl hK hP hD hS hA (fun cA => rfl) (by decide) (by decide) (Nat.le_of_ble_eq_true rfl) (Nat.le_of_ble_eq_true rfl) (Nat.le_of_ble_eq_true rfl) (dk okd_X8_init 8 rfl) (fun q2 cA H hK2 hP hD hS => ?_)
  have ecA : cA = cy 1 := cy_eq hK2 (i := 5) (j := 1) rfl rfl (fun C h => by cases h)
  subst ecA
  refine W.widen (k := 2) (n := 8) (Nat.le_of_ble_eq_true rfl) (Nat.le_of_ble_eq_true rfl) ?_
  refine va_putF (D := G) (ci := 7) (v := .ref q2) (ty := tyX8 1) (C := RX8) (T := TX8) (N := 12) hx hb hts uw_X8 tyX8 tyX8_ok nmX8 hown hK hP hD hS 0 rfl rfl 1 (by decide) (hts _ fw_X8_15) (fun _ h9 => h9) rfl hin rfl (tyX8_ok 1 (by decide)) rfl rfl (Nat.le_of_ble_eq_true rfl) (dk okd_X8_init 9 rfl) (fun H locs hP hD hS => ?_)
  have hP : va_P G vwCl [(h0, .inr (7, [.ref q1, .ref q2, .null, .null, .int 0, .int 0, .long 0, .int 0, .int 0, .long 0, .int 0, .int 0])), (q1, .inl (cy 1, 4, .inl (fun _ => 0))), (q2, .inl (cy 1, 4, .inl (fun _ => 0)))] H := hP
  have hD : va_D A [(h0, .inr (7, [.ref q1, .ref q2, .null, .null, .int 0, .int 0, .long 0, .int 0, .int 0, .long 0, .int 0, .int 0])), (q1, .inl (cy 1, 4, .inl (fun _ => 0))), (q2, .inl (cy 1, 4, .inl (fun _ => 0)))] := hD
  refine lv_aload_n hx hb (dk okd_X8_init 10 rfl) rfl (lv_at hl 0 rfl) ?_
  refine lv_bipush (v := 20) hx hb (dk okd_X8_init 11 rfl) (by decide) ?_
  refine va_newa (atype := .long) (ty := .long) (N' := 20) (a0 := (20, .inr (.inl (fun _ => 0)))) hx hb (hts _ aw_long) rfl hK hP hD hS hA (fun cA => rfl) (by decide) (by decide) (Nat.le_of_ble_eq_true rfl) (Nat.le_of_ble_eq_true rfl) (Nat.le_of_ble_eq_true rfl) (dk okd_X8_init 12 rfl) (fun q3 cA H hK2 hP hD hS => ?_)
  have ecA : cA = cy 2 := cy_eq hK2 (i := 5) (j := 2) rfl rfl (fun C h => by cases h)
  subst ecA
  refine W.widen (k := 3) (n := 28) (Nat.le_of_ble_eq_true rfl) (Nat.le_of_ble_eq_true rfl) ?_
  refine va_putF (D := G) (ci := 7) (v := .ref q3) (ty := tyX8 2) (C := RX8) (T := TX8) (N := 12) hx hb hts uw_X8 tyX8 tyX8_ok nmX8 hown hK hP hD hS 0 rfl rfl 2 (by decide) (hts _ fw_X8_18) (fun _ h9 => h9) rfl hin rfl (tyX8_ok 2 (by decide)) rfl rfl (Nat.le_of_ble_eq_true rfl) (dk okd_X8_init 13 rfl) (fun H locs hP hD hS => ?_)
  have hP : va_P G vwCl [(h0, .inr (7, [.ref q1, .ref q2, .ref q3, .null, .int 0, .int 0, .long 0, .int 0, .int 0, .long 0, .int 0, .int 0])), (q1, .inl (cy 1, 4, .inl (fun _ => 0))), (q2, .inl (cy 1, 4, .inl (fun _ => 0))), (q3, .inl (cy 2, 20, .inr (.inl (fun _ => 0))))] H := hP
  have hD : va_D A [(h0, .inr (7, [.ref q1, .ref q2, .ref q3, .null, .int 0, .int 0, .long 0, .int 0, .int 0, .long 0, .int 0, .int 0])), (q1, .inl (cy 1, 4, .inl (fun _ => 0))), (q2, .inl (cy 1, 4, .inl (fun _ => 0))), (q3, .inl (cy 2, 20, .inr (.inl (fun _ => 0))))] := hD
  refine lv_aload_n hx hb (dk okd_X8_init 14 rfl) rfl (lv_at hl 0 rfl) ?_
  refine lv_bipush (v := 20) hx hb (dk okd_X8_init 15 rfl) (by decide) ?_
  refine va_newa (atype := .int) (ty := .int) (N' := 20) (a0 := (20, .inl (fun _ => 0))) hx hb (hts _ aw_int) rfl hK hP hD hS hA (fun cA => rfl) (by decide) (by decide) (Nat.le_of_ble_eq_true rfl) (Nat.le_of_ble_eq_true rfl) (Nat.le_of_ble_eq_true rfl) (dk okd_X8_init 16 rfl) (fun q4 cA H hK2 hP hD hS => ?_)
  have ecA : cA = cy 1 := cy_eq hK2 (i := 5) (j := 1) rfl rfl (fun C h => by cases h)
  subst ecA
  refine W.widen (k := 4) (n := 48) (Nat.le_of_ble_eq_true rfl) (Nat.le_of_ble_eq_true rfl) ?_
  refine va_putF (D := G) (ci := 7) (v := .ref q4) (ty := tyX8 3) (C := RX8) (T := TX8) (N := 12) hx hb hts uw_X8 tyX8 tyX8_ok nmX8 hown hK hP hD hS 0 rfl rfl 3 (by decide) (hts _ fw_X8_22) (fun _ h9 => h9) rfl hin rfl (tyX8_ok 3 (by decide)) rfl rfl (Nat.le_of_ble_eq_true rfl) (dk okd_X8_init 17 rfl) (fun H locs hP hD hS => ?_)
  have hP : va_P G vwCl [(h0, .inr (7, [.ref q1, .ref q2, .ref q3, .ref q4, .int 0, .int 0, .long 0, .int 0, .int 0, .long 0, .int 0, .int 0])), (q1, .inl (cy 1, 4, .inl (fun _ => 0))), (q2, .inl (cy 1, 4, .inl (fun _ => 0))), (q3, .inl (cy 2, 20, .inr (.inl (fun _ => 0)))), (q4, .inl (cy 1, 20, .inl (fun _ => 0)))] H := hP
  have hD : va_D A [(h0, .inr (7, [.ref q1, .ref q2, .ref q3, .ref q4, .int 0, .int 0, .long 0, .int 0, .int 0, .long 0, .int 0, .int 0])), (q1, .inl (cy 1, 4, .inl (fun _ => 0))), (q2, .inl (cy 1, 4, .inl (fun _ => 0))), (q3, .inl (cy 2, 20, .inr (.inl (fun _ => 0)))), (q4, .inl (cy 1, 20, .inl (fun _ => 0)))] := hD
  have hnd : (h0 :: ([(q1, 13, 4), (q2, 13, 4), (q3, 14, 20), (q4, 13, 20)] : List (Nat × Nat × Nat)).map (fun t => t.1)).Nodup := D_nodup hD
  have hrf : ([q1, q2, q3, q4] : List Nat).Nodup := (List.nodup_cons.mp hnd).2
  have hpl := lf_pool (cy := cy) (h0 := h0) (ci := 7) (rf := (fun k => (([q1, q2, q3, q4] : List Nat)[k]?).getD 0)) (i0 := fun _ => 0) (as := [(q1, 13, 4), (q2, 13, 4), (q3, 14, 20), (q4, 13, 20)]) (by decide) (by intro t ht; simp at ht; rcases ht with rfl | rfl | rfl | rfl <;> simp) hnd
  have hpi : PI 7 (h0 :: ([(q1, 13, 4), (q2, 13, 4), (q3, 14, 20), (q4, 13, 20)] : List (Nat × Nat × Nat)).map (fun t => t.1)) (lfK h0 7 [(q1, 13, 4), (q2, 13, 4), (q3, 14, 20), (q4, 13, 20)]) (lfS h0 (fun k => (([q1, q2, q3, q4] : List Nat)[k]?).getD 0) (fun _ => 0) [(q1, 13, 4), (q2, 13, 4), (q3, 14, 20), (q4, 13, 20)]) h0 := by
    refine lf_PI (by decide) (by intro t ht; simp at ht; rcases ht with rfl | rfl | rfl | rfl <;> simp) hnd (fun i hi => ?_) (fun i j hi hj e => ?_)
    · have hlt : i < 4 := lay_lt_X8 hi
      rcases (show i = 0 ∨ i = 1 ∨ i = 2 ∨ i = 3 by omega) with rfl | rfl | rfl | rfl
      · exact ⟨4, by simp [rt], fun _ => rfl⟩
      · exact ⟨4, by simp [rt], fun _ => rfl⟩
      · exact ⟨20, by simp [rt], fun _ => rfl⟩
      · exact ⟨20, by simp [rt], fun _ => rfl⟩
    · exact nd_inj hrf (lay_lt_X8 hi) (lay_lt_X8 hj) e
  rw [show ((h0, .inr (7, fvs (lfS h0 (fun k => (([q1, q2, q3, q4] : List Nat)[k]?).getD 0) (fun _ => 0) [(q1, 13, 4), (q2, 13, 4), (q3, 14, 20), (q4, 13, 20)]) h0 0 (lay 7))) :: ([(q1, 13, 4), (q2, 13, 4), (q3, 14, 20), (q4, 13, 20)] : List (Nat × Nat × Nat)).map (fun t => (t.1, arE cy t)) : va_W) = [(h0, .inr (7, [.ref q1, .ref q2, .ref q3, .ref q4, .int 0, .int 0, .long 0, .int 0, .int 0, .long 0, .int 0, .int 0])), (q1, .inl (cy 1, 4, .inl (fun _ => 0))), (q2, .inl (cy 1, 4, .inl (fun _ => 0))), (q3, .inl (cy 2, 20, .inr (.inl (fun _ => 0)))), (q4, .inl (cy 1, 20, .inl (fun _ => 0)))] from by simp [fvs, fv, lfS, lay, gI, gJ, gR, arE]] at hpl
  rw [← hpl] at hP hD
  exact W.vret hx hb hr (fun t ht hW => ⟨⟨rfl, _, _, _, by rw [ht]; exact hP, hD, hpi⟩, hS.F ht⟩) hS.2.2 (dk okd_X8_init 18 rfl) hlocks
theorem ml_X9_3 : Cond.methodLink RX9 3 Lib.objectInit ∈ TT := TT_1 (i := 41) rfl rfl
theorem fw_X9_9 : Cond.fieldLink RX9 9 RX9 (TX9 0).2.1 (TX9 0).2.2.1 ∈ TT := TT_1 (i := 42) rfl rfl
def ed_X9_init : List (Nat × Instr × Nat) := [(0, .aload_n 0, 1), (1, .invokespecial 3, 3), (4, .aload_n 0, 1), (5, .sipush 1500, 3), (8, .newarray .byte, 2), (10, .putfield 9, 3), (13, .return_, 1)]
theorem okd_X9_init : ed_X9_init.all (okD cX9_init) = true := by decide +kernel
theorem lay_lt_X9 {i : Nat} (h : (lay 8)[i]? = some 2) : i < 1 := by
  rcases Nat.lt_or_ge i 1 with q | q
  · exact q
  · exfalso
    have hl := (List.getElem?_eq_some_iff.mp h).1
    simp only [lay, List.length_cons, List.length_nil] at hl
    rcases (show i = 1 ∨ i = 2 ∨ i = 3 ∨ i = 4 ∨ i = 5 ∨ i = 6 ∨ i = 7 by omega) with rfl | rfl | rfl | rfl | rfl | rfl | rfl <;> simp [lay] at h
set_option maxHeartbeats 4000000 in
set_option maxRecDepth 100000 in
theorem c_X9_init : CtI yX9_init cX9_init 1 8 1 12 1 1500 := by
  intro l G cy h0 sz
  refine Met.ofW (cc := cX9_init) (maxL := 1) (ret := none) (by decide) rfl ?_
  intro p e s m args below meth c s₁ B hml hv
  obtain ⟨rfl, hsz, hP, hK, hD0, hE⟩ := hv
  have hx := B.exec
  have hb := B.bytes
  have hr := B.returns
  have hts0 := atoms_spec (ws := Cond.code yX9_init cX9_init 1 none :: TT) B.pre
  have hts := fun w hw => hts0 w (List.mem_cons_of_mem _ hw)
  have hown : s.vm.findClass RX9 = some m.cls := findClass_of_methodNamed B.named
  have hlocks := B.notSynchronized
  have hin : meth.name = "<init>" := (name_of_methodNamed B.named B.method).1
  subst hsz
  have hD := hD0.self (sz := s.heap.size)
  generalize hAe : va_A [(h0, .inr (8, raw 8))] s.heap.size = A at hD ⊢
  have hA : ∀ q : Nat, s.heap.size ≤ q → A q := fun q h => by rw [← hAe]; exact Or.inr h
  have hS : va_S A s.heap s.heap [] := va_S.rf
  have hP : va_P G vwCl [(h0, .inr (8, [.null, .int 0, .int 0, .int 0, .int 0, .int 0, .int 0, .int 0]))] s.heap := hP
  have hD : va_D A [(h0, .inr (8, [.null, .int 0, .int 0, .int 0, .int 0, .int 0, .int 0, .int 0]))] := hD
  have hl := lv_entry ([.ref h0]) (n := 1) (Nat.le_of_ble_eq_true rfl)
  rw [lg_entry_eq]
  generalize (lg_sl ([.ref h0]) ++ List.replicate (1 - (lg_sl ([.ref h0])).length) Slot.unset).toArray = ls at hl ⊢
  have hl : lv_has ls 1 [(0, .ref h0)] := hl
  refine lv_aload_n hx hb (dk okd_X9_init 0 rfl) rfl (lv_at hl 0 rfl) ?_
  refine W.objInit hx hb hown (hts _ ml_X9_3) (hts _ ow_inst) (hts _ ow_code) rfl (by rw [hml]; exact hl.1) rfl (dk okd_X9_init 1 rfl) (Nat.le_of_ble_eq_true rfl) (Nat.le_of_ble_eq_true rfl) ?_
  refine W.eq (g2 := F0 m 4 ls []) rfl ?_
  refine lv_aload_n hx hb (dk okd_X9_init 2 rfl) rfl (lv_at hl 0 rfl) ?_
  refine lv_sipush (v := 1500) hx hb (dk okd_X9_init 3 rfl) (by decide) ?_
  refine va_newa (atype := .byte) (ty := .byte) (N' := 1500) (a0 := (1500, .inl (fun _ => 0))) hx hb (hts _ aw_byte) rfl hK hP hD hS hA (fun cA => rfl) (by decide) (by decide) (Nat.le_of_ble_eq_true rfl) (Nat.le_of_ble_eq_true rfl) (Nat.le_of_ble_eq_true rfl) (dk okd_X9_init 4 rfl) (fun q1 cA H hK2 hP hD hS => ?_)
  have ecA : cA = cy 0 := cy_eq hK2 (i := 5) (j := 0) rfl rfl (fun C h => by cases h)
  subst ecA
  refine W.widen (k := 1) (n := 1500) (Nat.le_of_ble_eq_true rfl) (Nat.le_of_ble_eq_true rfl) ?_
  refine va_putF (D := G) (ci := 8) (v := .ref q1) (ty := tyX9 0) (C := RX9) (T := TX9) (N := 8) hx hb hts uw_X9 tyX9 tyX9_ok nmX9 hown hK hP hD hS 0 rfl rfl 0 (by decide) (hts _ fw_X9_9) (fun _ h9 => h9) rfl hin rfl (tyX9_ok 0 (by decide)) rfl rfl (Nat.le_of_ble_eq_true rfl) (dk okd_X9_init 5 rfl) (fun H locs hP hD hS => ?_)
  have hP : va_P G vwCl [(h0, .inr (8, [.ref q1, .int 0, .int 0, .int 0, .int 0, .int 0, .int 0, .int 0])), (q1, .inl (cy 0, 1500, .inl (fun _ => 0)))] H := hP
  have hD : va_D A [(h0, .inr (8, [.ref q1, .int 0, .int 0, .int 0, .int 0, .int 0, .int 0, .int 0])), (q1, .inl (cy 0, 1500, .inl (fun _ => 0)))] := hD
  have hnd : (h0 :: ([(q1, 12, 1500)] : List (Nat × Nat × Nat)).map (fun t => t.1)).Nodup := D_nodup hD
  have hrf : ([q1] : List Nat).Nodup := (List.nodup_cons.mp hnd).2
  have hpl := lf_pool (cy := cy) (h0 := h0) (ci := 8) (rf := (fun k => (([q1] : List Nat)[k]?).getD 0)) (i0 := fun _ => 0) (as := [(q1, 12, 1500)]) (by decide) (by intro t ht; simp at ht; rcases ht with rfl <;> simp) hnd
  have hpi : PI 8 (h0 :: ([(q1, 12, 1500)] : List (Nat × Nat × Nat)).map (fun t => t.1)) (lfK h0 8 [(q1, 12, 1500)]) (lfS h0 (fun k => (([q1] : List Nat)[k]?).getD 0) (fun _ => 0) [(q1, 12, 1500)]) h0 := by
    refine lf_PI (by decide) (by intro t ht; simp at ht; rcases ht with rfl <;> simp) hnd (fun i hi => ?_) (fun i j hi hj e => ?_)
    · have hlt : i < 1 := lay_lt_X9 hi
      obtain rfl : i = 0 := by omega
      exact ⟨1500, by simp [rt], fun _ => rfl⟩
    · exact nd_inj hrf (lay_lt_X9 hi) (lay_lt_X9 hj) e
  rw [show ((h0, .inr (8, fvs (lfS h0 (fun k => (([q1] : List Nat)[k]?).getD 0) (fun _ => 0) [(q1, 12, 1500)]) h0 0 (lay 8))) :: ([(q1, 12, 1500)] : List (Nat × Nat × Nat)).map (fun t => (t.1, arE cy t)) : va_W) = [(h0, .inr (8, [.ref q1, .int 0, .int 0, .int 0, .int 0, .int 0, .int 0, .int 0])), (q1, .inl (cy 0, 1500, .inl (fun _ => 0)))] from by simp [fvs, fv, lfS, lay, gI, gJ, gR, arE]] at hpl
  rw [← hpl] at hP hD
  exact W.vret hx hb hr (fun t ht hW => ⟨⟨rfl, _, _, _, by rw [ht]; exact hP, hD, hpi⟩, hS.F ht⟩) hS.2.2 (dk okd_X9_init 6 rfl) hlocks
theorem ml_X10_3 : Cond.methodLink RX10 3 Lib.objectInit ∈ TT := TT_2 (i := 26) rfl rfl
theorem fw_X10_9 : Cond.fieldLink RX10 9 RX10 (TX10 0).2.1 (TX10 0).2.2.1 ∈ TT := TT_2 (i := 27) rfl rfl
theorem fw_X10_15 : Cond.fieldLink RX10 15 RX10 (TX10 1).2.1 (TX10 1).2.2.1 ∈ TT := TT_2 (i := 30) rfl rfl
theorem fw_X10_18 : Cond.fieldLink RX10 18 RX10 (TX10 2).2.1 (TX10 2).2.2.1 ∈ TT := TT_2 (i := 32) rfl rfl
theorem fw_X10_21 : Cond.fieldLink RX10 21 RX10 (TX10 3).2.1 (TX10 3).2.2.1 ∈ TT := TT_2 (i := 34) rfl rfl
theorem fw_X10_25 : Cond.fieldLink RX10 25 RX10 (TX10 4).2.1 (TX10 4).2.2.1 ∈ TT := TT_2 (i := 36) rfl rfl
theorem fw_X10_28 : Cond.fieldLink RX10 28 RX10 (TX10 5).2.1 (TX10 5).2.2.1 ∈ TT := TT_2 (i := 37) rfl rfl
def ed_X10_init : List (Nat × Instr × Nat) := [(0, .aload_n 0, 1), (1, .invokespecial 3, 3), (4, .aload_n 0, 1), (5, .bipush 8, 2), (7, .newarray .int, 2), (9, .putfield 9, 3), (12, .aload_n 0, 1), (13, .bipush 8, 2), (15, .newarray .int, 2), (17, .putfield 15, 3), (20, .aload_n 0, 1), (21, .bipush 8, 2), (23, .newarray .int, 2), (25, .putfield 18, 3), (28, .aload_n 0, 1), (29, .bipush 8, 2), (31, .newarray .long, 2), (33, .putfield 21, 3), (36, .aload_n 0, 1), (37, .bipush 8, 2), (39, .newarray .int, 2), (41, .putfield 25, 3), (44, .aload_n 0, 1), (45, .bipush 8, 2), (47, .newarray .int, 2), (49, .putfield 28, 3), (52, .return_, 1)]
theorem okd_X10_init : ed_X10_init.all (okD cX10_init) = true := by decide +kernel
theorem lay_lt_X10 {i : Nat} (h : (lay 9)[i]? = some 2) : i < 6 := by
  rcases Nat.lt_or_ge i 6 with q | q
  · exact q
  · exfalso
    have hl := (List.getElem?_eq_some_iff.mp h).1
    simp only [lay, List.length_cons, List.length_nil] at hl
    omega
set_option maxHeartbeats 4000000 in
set_option maxRecDepth 100000 in
theorem c_X10_init : CtI yX10_init cX10_init 1 9 1 12 6 48 := by
  intro l G cy h0 sz
  refine Met.ofW (cc := cX10_init) (maxL := 1) (ret := none) (by decide) rfl ?_
  intro p e s m args below meth c s₁ B hml hv
  obtain ⟨rfl, hsz, hP, hK, hD0, hE⟩ := hv
  have hx := B.exec
  have hb := B.bytes
  have hr := B.returns
  have hts0 := atoms_spec (ws := Cond.code yX10_init cX10_init 1 none :: TT) B.pre
  have hts := fun w hw => hts0 w (List.mem_cons_of_mem _ hw)
  have hown : s.vm.findClass RX10 = some m.cls := findClass_of_methodNamed B.named
  have hlocks := B.notSynchronized
  have hin : meth.name = "<init>" := (name_of_methodNamed B.named B.method).1
  subst hsz
  have hD := hD0.self (sz := s.heap.size)
  generalize hAe : va_A [(h0, .inr (9, raw 9))] s.heap.size = A at hD ⊢
  have hA : ∀ q : Nat, s.heap.size ≤ q → A q := fun q h => by rw [← hAe]; exact Or.inr h
  have hS : va_S A s.heap s.heap [] := va_S.rf
  have hP : va_P G vwCl [(h0, .inr (9, [.null, .null, .null, .null, .null, .null]))] s.heap := hP
  have hD : va_D A [(h0, .inr (9, [.null, .null, .null, .null, .null, .null]))] := hD
  have hl := lv_entry ([.ref h0]) (n := 1) (Nat.le_of_ble_eq_true rfl)
  rw [lg_entry_eq]
  generalize (lg_sl ([.ref h0]) ++ List.replicate (1 - (lg_sl ([.ref h0])).length) Slot.unset).toArray = ls at hl ⊢
  have hl : lv_has ls 1 [(0, .ref h0)] := hl
  refine lv_aload_n hx hb (dk okd_X10_init 0 rfl) rfl (lv_at hl 0 rfl) ?_
  refine W.objInit hx hb hown (hts _ ml_X10_3) (hts _ ow_inst) (hts _ ow_code) rfl (by rw [hml]; exact hl.1) rfl (dk okd_X10_init 1 rfl) (Nat.le_of_ble_eq_true rfl) (Nat.le_of_ble_eq_true rfl) ?_
  refine W.eq (g2 := F0 m 4 ls []) rfl ?_
  refine lv_aload_n hx hb (dk okd_X10_init 2 rfl) rfl (lv_at hl 0 rfl) ?_
  refine lv_bipush (v := 8) hx hb (dk okd_X10_init 3 rfl) (by decide) ?_
  refine va_newa (atype := .int) (ty := .int) (N' := 8) (a0 := (8, .inl (fun _ => 0))) hx hb (hts _ aw_int) rfl hK hP hD hS hA (fun cA => rfl) (by decide) (by decide) (Nat.le_of_ble_eq_true rfl) (Nat.le_of_ble_eq_true rfl) (Nat.le_of_ble_eq_true rfl) (dk okd_X10_init 4 rfl) (fun q1 cA H hK2 hP hD hS => ?_)
  have ecA : cA = cy 1 := cy_eq hK2 (i := 5) (j := 1) rfl rfl (fun C h => by cases h)
  subst ecA
  refine W.widen (k := 1) (n := 8) (Nat.le_of_ble_eq_true rfl) (Nat.le_of_ble_eq_true rfl) ?_
  refine va_putF (D := G) (ci := 9) (v := .ref q1) (ty := tyX10 0) (C := RX10) (T := TX10) (N := 6) hx hb hts uw_X10 tyX10 tyX10_ok nmX10 hown hK hP hD hS 0 rfl rfl 0 (by decide) (hts _ fw_X10_9) (fun _ h9 => h9) rfl hin rfl (tyX10_ok 0 (by decide)) rfl rfl (Nat.le_of_ble_eq_true rfl) (dk okd_X10_init 5 rfl) (fun H locs hP hD hS => ?_)
  have hP : va_P G vwCl [(h0, .inr (9, [.ref q1, .null, .null, .null, .null, .null])), (q1, .inl (cy 1, 8, .inl (fun _ => 0)))] H := hP
  have hD : va_D A [(h0, .inr (9, [.ref q1, .null, .null, .null, .null, .null])), (q1, .inl (cy 1, 8, .inl (fun _ => 0)))] := hD
  refine lv_aload_n hx hb (dk okd_X10_init 6 rfl) rfl (lv_at hl 0 rfl) ?_
  refine lv_bipush (v := 8) hx hb (dk okd_X10_init 7 rfl) (by decide) ?_
  refine va_newa (atype := .int) (ty := .int) (N' := 8) (a0 := (8, .inl (fun _ => 0))) hx hb (hts _ aw_int) rfl hK hP hD hS hA (fun cA => rfl) (by decide) (by decide) (Nat.le_of_ble_eq_true rfl) (Nat.le_of_ble_eq_true rfl) (Nat.le_of_ble_eq_true rfl) (dk okd_X10_init 8 rfl) (fun q2 cA H hK2 hP hD hS => ?_)
  have ecA : cA = cy 1 := cy_eq hK2 (i := 5) (j := 1) rfl rfl (fun C h => by cases h)
  subst ecA
  refine W.widen (k := 2) (n := 16) (Nat.le_of_ble_eq_true rfl) (Nat.le_of_ble_eq_true rfl) ?_
  refine va_putF (D := G) (ci := 9) (v := .ref q2) (ty := tyX10 1) (C := RX10) (T := TX10) (N := 6) hx hb hts uw_X10 tyX10 tyX10_ok nmX10 hown hK hP hD hS 0 rfl rfl 1 (by decide) (hts _ fw_X10_15) (fun _ h9 => h9) rfl hin rfl (tyX10_ok 1 (by decide)) rfl rfl (Nat.le_of_ble_eq_true rfl) (dk okd_X10_init 9 rfl) (fun H locs hP hD hS => ?_)
  have hP : va_P G vwCl [(h0, .inr (9, [.ref q1, .ref q2, .null, .null, .null, .null])), (q1, .inl (cy 1, 8, .inl (fun _ => 0))), (q2, .inl (cy 1, 8, .inl (fun _ => 0)))] H := hP
  have hD : va_D A [(h0, .inr (9, [.ref q1, .ref q2, .null, .null, .null, .null])), (q1, .inl (cy 1, 8, .inl (fun _ => 0))), (q2, .inl (cy 1, 8, .inl (fun _ => 0)))] := hD
  refine lv_aload_n hx hb (dk okd_X10_init 10 rfl) rfl (lv_at hl 0 rfl) ?_
  refine lv_bipush (v := 8) hx hb (dk okd_X10_init 11 rfl) (by decide) ?_
  refine va_newa (atype := .int) (ty := .int) (N' := 8) (a0 := (8, .inl (fun _ => 0))) hx hb (hts _ aw_int) rfl hK hP hD hS hA (fun cA => rfl) (by decide) (by decide) (Nat.le_of_ble_eq_true rfl) (Nat.le_of_ble_eq_true rfl) (Nat.le_of_ble_eq_true rfl) (dk okd_X10_init 12 rfl) (fun q3 cA H hK2 hP hD hS => ?_)
  have ecA : cA = cy 1 := cy_eq hK2 (i := 5) (j := 1) rfl rfl (fun C h => by cases h)
  subst ecA
  refine W.widen (k := 3) (n := 24) (Nat.le_of_ble_eq_true rfl) (Nat.le_of_ble_eq_true rfl) ?_
  refine va_putF (D := G) (ci := 9) (v := .ref q3) (ty := tyX10 2) (C := RX10) (T := TX10) (N := 6) hx hb hts uw_X10 tyX10 tyX10_ok nmX10 hown hK hP hD hS 0 rfl rfl 2 (by decide) (hts _ fw_X10_18) (fun _ h9 => h9) rfl hin rfl (tyX10_ok 2 (by decide)) rfl rfl (Nat.le_of_ble_eq_true rfl) (dk okd_X10_init 13 rfl) (fun H locs hP hD hS => ?_)
  have hP : va_P G vwCl [(h0, .inr (9, [.ref q1, .ref q2, .ref q3, .null, .null, .null])), (q1, .inl (cy 1, 8, .inl (fun _ => 0))), (q2, .inl (cy 1, 8, .inl (fun _ => 0))), (q3, .inl (cy 1, 8, .inl (fun _ => 0)))] H := hP
  have hD : va_D A [(h0, .inr (9, [.ref q1, .ref q2, .ref q3, .null, .null, .null])), (q1, .inl (cy 1, 8, .inl (fun _ => 0))), (q2, .inl (cy 1, 8, .inl (fun _ => 0))), (q3, .inl (cy 1, 8, .inl (fun _ => 0)))] := hD
  refine lv_aload_n hx hb (dk okd_X10_init 14 rfl) rfl (lv_at hl 0 rfl) ?_
  refine lv_bipush (v := 8) hx hb (dk okd_X10_init 15 rfl) (by decide) ?_
  refine va_newa (atype := .long) (ty := .long) (N' := 8) (a0 := (8, .inr (.inl (fun _ => 0)))) hx hb (hts _ aw_long) rfl hK hP hD hS hA (fun cA => rfl) (by decide) (by decide) (Nat.le_of_ble_eq_true rfl) (Nat.le_of_ble_eq_true rfl) (Nat.le_of_ble_eq_true rfl) (dk okd_X10_init 16 rfl) (fun q4 cA H hK2 hP hD hS => ?_)
  have ecA : cA = cy 2 := cy_eq hK2 (i := 5) (j := 2) rfl rfl (fun C h => by cases h)
  subst ecA
  refine W.widen (k := 4) (n := 32) (Nat.le_of_ble_eq_true rfl) (Nat.le_of_ble_eq_true rfl) ?_
  refine va_putF (D := G) (ci := 9) (v := .ref q4) (ty := tyX10 3) (C := RX10) (T := TX10) (N := 6) hx hb hts uw_X10 tyX10 tyX10_ok nmX10 hown hK hP hD hS 0 rfl rfl 3 (by decide) (hts _ fw_X10_21) (fun _ h9 => h9) rfl hin rfl (tyX10_ok 3 (by decide)) rfl rfl (Nat.le_of_ble_eq_true rfl) (dk okd_X10_init 17 rfl) (fun H locs hP hD hS => ?_)
  have hP : va_P G vwCl [(h0, .inr (9, [.ref q1, .ref q2, .ref q3, .ref q4, .null, .null])), (q1, .inl (cy 1, 8, .inl (fun _ => 0))), (q2, .inl (cy 1, 8, .inl (fun _ => 0))), (q3, .inl (cy 1, 8, .inl (fun _ => 0))), (q4, .inl (cy 2, 8, .inr (.inl (fun _ => 0))))] H := hP
  have hD : va_D A [(h0, .inr (9, [.ref q1, .ref q2, .ref q3, .ref q4, .null, .null])), (q1, .inl (cy 1, 8, .inl (fun _ => 0))), (q2, .inl (cy 1, 8, .inl (fun _ => 0))), (q3, .inl (cy 1, 8, .inl (fun _ => 0))), (q4, .inl (cy 2, 8, .inr (.inl (fun _ => 0))))] := hD
  refine lv_aload_n hx hb (dk okd_X10_init 18 rfl) rfl (lv_at hl 0 rfl) ?_
  refine lv_bipush (v := 8) hx hb (dk okd_X10_init 19 rfl) (by decide) ?_
  refine va_newa (atype := .int) (ty := .int) (N' := 8) (a0 := (8, .inl (fun _ => 0))) hx hb (hts _ aw_int) rfl hK hP hD hS hA (fun cA => rfl) (by decide) (by decide) (Nat.le_of_ble_eq_true rfl) (Nat.le_of_ble_eq_true rfl) (Nat.le_of_ble_eq_true rfl) (dk okd_X10_init 20 rfl) (fun q5 cA H hK2 hP hD hS => ?_)
  have ecA : cA = cy 1 := cy_eq hK2 (i := 5) (j := 1) rfl rfl (fun C h => by cases h)
  subst ecA
  refine W.widen (k := 5) (n := 40) (Nat.le_of_ble_eq_true rfl) (Nat.le_of_ble_eq_true rfl) ?_
  refine va_putF (D := G) (ci := 9) (v := .ref q5) (ty := tyX10 4) (C := RX10) (T := TX10) (N := 6) hx hb hts uw_X10 tyX10 tyX10_ok nmX10 hown hK hP hD hS 0 rfl rfl 4 (by decide) (hts _ fw_X10_25) (fun _ h9 => h9) rfl hin rfl (tyX10_ok 4 (by decide)) rfl rfl (Nat.le_of_ble_eq_true rfl) (dk okd_X10_init 21 rfl) (fun H locs hP hD hS => ?_)
  have hP : va_P G vwCl [(h0, .inr (9, [.ref q1, .ref q2, .ref q3, .ref q4, .ref q5, .null])), (q1, .inl (cy 1, 8, .inl (fun _ => 0))), (q2, .inl (cy 1, 8, .inl (fun _ => 0))), (q3, .inl (cy 1, 8, .inl (fun _ => 0))), (q4, .inl (cy 2, 8, .inr (.inl (fun _ => 0)))), (q5, .inl (cy 1, 8, .inl (fun _ => 0)))] H := hP
  have hD : va_D A [(h0, .inr (9, [.ref q1, .ref q2, .ref q3, .ref q4, .ref q5, .null])), (q1, .inl (cy 1, 8, .inl (fun _ => 0))), (q2, .inl (cy 1, 8, .inl (fun _ => 0))), (q3, .inl (cy 1, 8, .inl (fun _ => 0))), (q4, .inl (cy 2, 8, .inr (.inl (fun _ => 0)))), (q5, .inl (cy 1, 8, .inl (fun _ => 0)))] := hD
  refine lv_aload_n hx hb (dk okd_X10_init 22 rfl) rfl (lv_at hl 0 rfl) ?_
  refine lv_bipush (v := 8) hx hb (dk okd_X10_init 23 rfl) (by decide) ?_
  refine va_newa (atype := .int) (ty := .int) (N' := 8) (a0 := (8, .inl (fun _ => 0))) hx hb (hts _ aw_int) rfl hK hP hD hS hA (fun cA => rfl) (by decide) (by decide) (Nat.le_of_ble_eq_true rfl) (Nat.le_of_ble_eq_true rfl) (Nat.le_of_ble_eq_true rfl) (dk okd_X10_init 24 rfl) (fun q6 cA H hK2 hP hD hS => ?_)
  have ecA : cA = cy 1 := cy_eq hK2 (i := 5) (j := 1) rfl rfl (fun C h => by cases h)
  subst ecA
  refine W.widen (k := 6) (n := 48) (Nat.le_of_ble_eq_true rfl) (Nat.le_of_ble_eq_true rfl) ?_
  refine va_putF (D := G) (ci := 9) (v := .ref q6) (ty := tyX10 5) (C := RX10) (T := TX10) (N := 6) hx hb hts uw_X10 tyX10 tyX10_ok nmX10 hown hK hP hD hS 0 rfl rfl 5 (by decide) (hts _ fw_X10_28) (fun _ h9 => h9) rfl hin rfl (tyX10_ok 5 (by decide)) rfl rfl (Nat.le_of_ble_eq_true rfl) (dk okd_X10_init 25 rfl) (fun H locs hP hD hS => ?_)
  have hP : va_P G vwCl [(h0, .inr (9, [.ref q1, .ref q2, .ref q3, .ref q4, .ref q5, .ref q6])), (q1, .inl (cy 1, 8, .inl (fun _ => 0))), (q2, .inl (cy 1, 8, .inl (fun _ => 0))), (q3, .inl (cy 1, 8, .inl (fun _ => 0))), (q4, .inl (cy 2, 8, .inr (.inl (fun _ => 0)))), (q5, .inl (cy 1, 8, .inl (fun _ => 0))), (q6, .inl (cy 1, 8, .inl (fun _ => 0)))] H := hP
  have hD : va_D A [(h0, .inr (9, [.ref q1, .ref q2, .ref q3, .ref q4, .ref q5, .ref q6])), (q1, .inl (cy 1, 8, .inl (fun _ => 0))), (q2, .inl (cy 1, 8, .inl (fun _ => 0))), (q3, .inl (cy 1, 8, .inl (fun _ => 0))), (q4, .inl (cy 2, 8, .inr (.inl (fun _ => 0)))), (q5, .inl (cy 1, 8, .inl (fun _ => 0))), (q6, .inl (cy 1, 8, .inl (fun _ => 0)))] := hD
  have hnd : (h0 :: ([(q1, 13, 8), (q2, 13, 8), (q3, 13, 8), (q4, 14, 8), (q5, 13, 8), (q6, 13, 8)] : List (Nat × Nat × Nat)).map (fun t => t.1)).Nodup := D_nodup hD
  have hrf : ([q1, q2, q3, q4, q5, q6] : List Nat).Nodup := (List.nodup_cons.mp hnd).2
  have hpl := lf_pool (cy := cy) (h0 := h0) (ci := 9) (rf := (fun k => (([q1, q2, q3, q4, q5, q6] : List Nat)[k]?).getD 0)) (i0 := fun _ => 0) (as := [(q1, 13, 8), (q2, 13, 8), (q3, 13, 8), (q4, 14, 8), (q5, 13, 8), (q6, 13, 8)]) (by decide) (by intro t ht; simp at ht; rcases ht with rfl | rfl | rfl | rfl | rfl | rfl <;> simp) hnd
  have hpi : PI 9 (h0 :: ([(q1, 13, 8), (q2, 13, 8), (q3, 13, 8), (q4, 14, 8), (q5, 13, 8), (q6, 13, 8)] : List (Nat × Nat × Nat)).map (fun t => t.1)) (lfK h0 9 [(q1, 13, 8), (q2, 13, 8), (q3, 13, 8), (q4, 14, 8), (q5, 13, 8), (q6, 13, 8)]) (lfS h0 (fun k => (([q1, q2, q3, q4, q5, q6] : List Nat)[k]?).getD 0) (fun _ => 0) [(q1, 13, 8), (q2, 13, 8), (q3, 13, 8), (q4, 14, 8), (q5, 13, 8), (q6, 13, 8)]) h0 := by
    refine lf_PI (by decide) (by intro t ht; simp at ht; rcases ht with rfl | rfl | rfl | rfl | rfl | rfl <;> simp) hnd (fun i hi => ?_) (fun i j hi hj e => ?_)
    · have hlt : i < 6 := lay_lt_X10 hi
      rcases (show i = 0 ∨ i = 1 ∨ i = 2 ∨ i = 3 ∨ i = 4 ∨ i = 5 by omega) with rfl | rfl | rfl | rfl | rfl | rfl
      · exact ⟨8, by simp [rt], fun _ => rfl⟩
      · exact ⟨8, by simp [rt], fun _ => rfl⟩
      · exact ⟨8, by simp [rt], fun _ => rfl⟩
      · exact ⟨8, by simp [rt], fun _ => rfl⟩
      · exact ⟨8, by simp [rt], fun _ => rfl⟩
      · exact ⟨8, by simp [rt], fun _ => rfl⟩
    · exact nd_inj hrf (lay_lt_X10 hi) (lay_lt_X10 hj) e
  rw [show ((h0, .inr (9, fvs (lfS h0 (fun k => (([q1, q2, q3, q4, q5, q6] : List Nat)[k]?).getD 0) (fun _ => 0) [(q1, 13, 8), (q2, 13, 8), (q3, 13, 8), (q4, 14, 8), (q5, 13, 8), (q6, 13, 8)]) h0 0 (lay 9))) :: ([(q1, 13, 8), (q2, 13, 8), (q3, 13, 8), (q4, 14, 8), (q5, 13, 8), (q6, 13, 8)] : List (Nat × Nat × Nat)).map (fun t => (t.1, arE cy t)) : va_W) = [(h0, .inr (9, [.ref q1, .ref q2, .ref q3, .ref q4, .ref q5, .ref q6])), (q1, .inl (cy 1, 8, .inl (fun _ => 0))), (q2, .inl (cy 1, 8, .inl (fun _ => 0))), (q3, .inl (cy 1, 8, .inl (fun _ => 0))), (q4, .inl (cy 2, 8, .inr (.inl (fun _ => 0)))), (q5, .inl (cy 1, 8, .inl (fun _ => 0))), (q6, .inl (cy 1, 8, .inl (fun _ => 0)))] from by simp [fvs, fv, lfS, lay, gI, gJ, gR, arE]] at hpl
  rw [← hpl] at hP hD
  exact W.vret hx hb hr (fun t ht hW => ⟨⟨rfl, _, _, _, by rw [ht]; exact hP, hD, hpi⟩, hS.F ht⟩) hS.2.2 (dk okd_X10_init 26 rfl) hlocks
