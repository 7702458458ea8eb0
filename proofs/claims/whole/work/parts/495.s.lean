/-! the start: classes, texts, statics -/
def tmL : List (String × Nat) := [("FranchiseLedger$SystemReader", 31), ("FranchiseLedger$SystemReader", 47), ("FranchiseLedger$Tokens", 62), ("FranchiseLedger$Tokens", 64), ("FranchiseLedger$Tokens", 66), ("FranchiseLedger$Tokens", 68), ("FranchiseLedger$Tokens", 70), ("FranchiseLedger$Tokens", 72), ("FranchiseLedger$Tokens", 74), ("FranchiseLedger$Tokens", 76), ("FranchiseLedger$Journal", 78), ("FranchiseLedger$Journal", 84), ("FranchiseLedger$Journal", 86), ("FranchiseLedger$Journal", 88), ("FranchiseLedger$Journal", 90), ("FranchiseLedger$Journal", 92), ("FranchiseLedger$Journal", 94), ("FranchiseLedger$Tokens", 94), ("FranchiseLedger$Tokens", 96), ("FranchiseLedger$InvoiceText", 19), ("FranchiseLedger$InvoiceText", 31), ("FranchiseLedger$InvoiceText", 33), ("FranchiseLedger$InvoiceText", 35), ("FranchiseLedger$InvoiceText", 37), ("FranchiseLedger$InvoiceText", 39), ("FranchiseLedger$InvoiceText", 41)]
def tm (i : Nat) : Term := Term.string (tmL.getD i ("", 0)).1 (tmL.getD i ("", 0)).2
def strC (t : Term) (n : Nat) (bs : List Int32) : List Cond := [Cond.exactly t "java/lang/String", Cond.eq (.field t "java/lang/String" "coder" "B") (.int 0), Cond.arrayOf (.field t "java/lang/String" "value" "[B") .byte, Cond.eq (.length (.field t "java/lang/String" "value" "[B")) (.int (Int32.ofNat n))] ++ (List.range n).map (fun j => Cond.eq (.elem (.field t "java/lang/String" "value" "[B") (.int (Int32.ofNat j))) (.int (bs.getD j 0)))
abbrev FLw : List Cond := flatC (Jvm.Cond.and given_1 narrow_1)
def segA : List (List Cond) := [strC (tm 0) (lenS.getD 0 0) (bytS.getD 0 []), strC (tm 1) (lenS.getD 1 0) (bytS.getD 1 []), strC (Term.string "FranchiseLedger$Tokens" 54) (lenS.getD 0 0) (bytS.getD 0 []), [Cond.eq (tm 0) (Term.string "FranchiseLedger$Tokens" 54)], strC (Term.string "FranchiseLedger$Tokens" 60) (lenS.getD 1 0) (bytS.getD 1 []), [Cond.eq (tm 1) (Term.string "FranchiseLedger$Tokens" 60)], strC (tm 2) (lenS.getD 2 0) (bytS.getD 2 []), strC (tm 3) (lenS.getD 3 0) (bytS.getD 3 []), strC (tm 4) (lenS.getD 4 0) (bytS.getD 4 []), strC (tm 5) (lenS.getD 5 0) (bytS.getD 5 []), strC (tm 6) (lenS.getD 6 0) (bytS.getD 6 []), strC (tm 7) (lenS.getD 7 0) (bytS.getD 7 []), strC (tm 8) (lenS.getD 8 0) (bytS.getD 8 []), strC (tm 9) (lenS.getD 9 0) (bytS.getD 9 []), strC (Term.string "FranchiseLedger$SystemReader" 52) (lenS.getD 2 0) (bytS.getD 2 []), [Cond.eq (tm 2) (Term.string "FranchiseLedger$SystemReader" 52)], strC (Term.string "FranchiseLedger$SystemReader" 57) (lenS.getD 3 0) (bytS.getD 3 []), [Cond.eq (tm 3) (Term.string "FranchiseLedger$SystemReader" 57)], strC (Term.string "FranchiseLedger$SystemReader" 68) (lenS.getD 4 0) (bytS.getD 4 []), [Cond.eq (tm 4) (Term.string "FranchiseLedger$SystemReader" 68)], strC (Term.string "FranchiseLedger$SystemReader" 85) (lenS.getD 5 0) (bytS.getD 5 []), [Cond.eq (tm 5) (Term.string "FranchiseLedger$SystemReader" 85)], strC (Term.string "FranchiseLedger$SystemReader" 90) (lenS.getD 6 0) (bytS.getD 6 []), [Cond.eq (tm 6) (Term.string "FranchiseLedger$SystemReader" 90)], strC (Term.string "FranchiseLedger$SystemReader" 95) (lenS.getD 7 0) (bytS.getD 7 []), [Cond.eq (tm 7) (Term.string "FranchiseLedger$SystemReader" 95)], strC (Term.string "FranchiseLedger$SystemReader" 99) (lenS.getD 8 0) (bytS.getD 8 []), [Cond.eq (tm 8) (Term.string "FranchiseLedger$SystemReader" 99)], strC (Term.string "FranchiseLedger$SystemReader" 103) (lenS.getD 9 0) (bytS.getD 9 []), [Cond.eq (tm 9) (Term.string "FranchiseLedger$SystemReader" 103)], strC (tm 10) (lenS.getD 10 0) (bytS.getD 10 []), strC (tm 11) (lenS.getD 11 0) (bytS.getD 11 []), strC (tm 12) (lenS.getD 12 0) (bytS.getD 12 []), strC (tm 13) (lenS.getD 13 0) (bytS.getD 13 []), strC (tm 14) (lenS.getD 14 0) (bytS.getD 14 []), strC (tm 15) (lenS.getD 15 0) (bytS.getD 15 []), strC (tm 16) (lenS.getD 16 0) (bytS.getD 16 []), strC (tm 17) (lenS.getD 17 0) (bytS.getD 17 []), strC (tm 18) (lenS.getD 18 0) (bytS.getD 18 [])]
def segB : List (List Cond) := [strC (tm 19) (lenS.getD 19 0) (bytS.getD 19 []), strC (tm 20) (lenS.getD 20 0) (bytS.getD 20 []), strC (tm 21) (lenS.getD 21 0) (bytS.getD 21 []), strC (tm 22) (lenS.getD 22 0) (bytS.getD 22 []), strC (tm 23) (lenS.getD 23 0) (bytS.getD 23 []), strC (tm 24) (lenS.getD 24 0) (bytS.getD 24 []), strC (tm 25) (lenS.getD 25 0) (bytS.getD 25 [])]
set_option maxRecDepth 100000 in
theorem segA_e : (FLw.drop 53).take 280 = segA.flatten := by decide +kernel
set_option maxRecDepth 100000 in
theorem segB_e : FLw.drop 467 = segB.flatten := by decide +kernel
theorem segA_m {k : Nat} {sg : List Cond} {c : Cond} (h : segA[k]? = some sg) (hc : c ∈ sg) : c ∈ FLw := List.mem_of_mem_drop (List.mem_of_mem_take (by rw [segA_e]; exact List.mem_flatten.mpr ⟨sg, List.mem_of_getElem? h, hc⟩ : c ∈ (FLw.drop 53).take 280))
theorem segB_m {k : Nat} {sg : List Cond} {c : Cond} (h : segB[k]? = some sg) (hc : c ∈ sg) : c ∈ FLw := List.mem_of_mem_drop (by rw [segB_e]; exact List.mem_flatten.mpr ⟨sg, List.mem_of_getElem? h, hc⟩ : c ∈ FLw.drop 467)
theorem tm_in {i : Nat} (hi : i < 26) : ∀ c ∈ strC (tm i) (lenS.getD i 0) (bytS.getD i []), c ∈ FLw := fun c hc => match i, hi, hc with
  | 0, _, hc => segA_m (k := 0) rfl hc
  | 1, _, hc => segA_m (k := 1) rfl hc
  | 2, _, hc => segA_m (k := 6) rfl hc
  | 3, _, hc => segA_m (k := 7) rfl hc
  | 4, _, hc => segA_m (k := 8) rfl hc
  | 5, _, hc => segA_m (k := 9) rfl hc
  | 6, _, hc => segA_m (k := 10) rfl hc
  | 7, _, hc => segA_m (k := 11) rfl hc
  | 8, _, hc => segA_m (k := 12) rfl hc
  | 9, _, hc => segA_m (k := 13) rfl hc
  | 10, _, hc => segA_m (k := 30) rfl hc
  | 11, _, hc => segA_m (k := 31) rfl hc
  | 12, _, hc => segA_m (k := 32) rfl hc
  | 13, _, hc => segA_m (k := 33) rfl hc
  | 14, _, hc => segA_m (k := 34) rfl hc
  | 15, _, hc => segA_m (k := 35) rfl hc
  | 16, _, hc => segA_m (k := 36) rfl hc
  | 17, _, hc => segA_m (k := 37) rfl hc
  | 18, _, hc => segA_m (k := 38) rfl hc
  | 19, _, hc => segB_m (k := 0) rfl hc
  | 20, _, hc => segB_m (k := 1) rfl hc
  | 21, _, hc => segB_m (k := 2) rfl hc
  | 22, _, hc => segB_m (k := 3) rfl hc
  | 23, _, hc => segB_m (k := 4) rfl hc
  | 24, _, hc => segB_m (k := 5) rfl hc
  | 25, _, hc => segB_m (k := 6) rfl hc
  | k + 26, h, _ => absurd h (by omega)
theorem strC_el {t : Term} {n j : Nat} {bs : List Int32} (hj : j < n) : Cond.eq (.elem (.field t "java/lang/String" "value" "[B") (.int (Int32.ofNat j))) (.int (bs.getD j 0)) ∈ strC t n bs := List.mem_append_right _ (List.mem_map.mpr ⟨j, List.mem_range.mpr hj, rfl⟩)
def dfS (i j : Nat) : Bool := !(decide (lenS.getD i 0 = lenS.getD j 0)) || (List.range (lenS.getD i 0)).any (fun k => !(decide ((bytS.getD i []).getD k 0 = (bytS.getD j []).getD k 0)))
theorem dfS_all : (List.range 26).all (fun i => (List.range 26).all (fun j => decide (i = j) || dfS i j)) = true := by decide +kernel
theorem dfS_ok {i j : Nat} (hi : i < 26) (hj : j < 26) (h : i ≠ j) : lenS.getD i 0 ≠ lenS.getD j 0 ∨ ∃ k, k < lenS.getD i 0 ∧ (bytS.getD i []).getD k 0 ≠ (bytS.getD j []).getD k 0 := by
  have h1 := List.all_eq_true.mp (List.all_eq_true.mp dfS_all i (List.mem_range.mpr hi)) j (List.mem_range.mpr hj)
  simp only [Bool.or_eq_true, decide_eq_true_eq] at h1
  rcases h1 with h1 | h1
  · exact absurd h1 h
  · unfold dfS at h1
    rw [Bool.or_eq_true] at h1
    rcases h1 with h1 | h1
    · left; simpa using h1
    · right
      obtain ⟨k, hk, hk2⟩ := List.any_eq_true.mp h1
      exact ⟨k, List.mem_range.mp hk, by simpa using hk2⟩
theorem lenS_lt : ∀ i, i < 26 → lenS.getD i 0 < 2 ^ 31 := by decide
/-- texts of different contents are different objects -/
theorem vk_Sc {args : Array Value} {s : State} {N : Nat} {tq : Nat → Term} {len : List Nat} {byt : List (List Int32)} {A : Nat → Prop} (hN : ∀ i : Nat, i < N → len.getD i 0 < 2 ^ 31) (hex : ∀ i : Nat, i < N → (Cond.exactly (tq i) "java/lang/String").before args s = true) (hco : ∀ i : Nat, i < N → (Cond.eq (.field (tq i) "java/lang/String" "coder" "B") (.int 0)).before args s = true)
    (har : ∀ i : Nat, i < N → (Cond.arrayOf (.field (tq i) "java/lang/String" "value" "[B") .byte).before args s = true) (hle : ∀ i : Nat, i < N → (Cond.eq (.length (.field (tq i) "java/lang/String" "value" "[B")) (.int (Int32.ofNat (len.getD i 0)))).before args s = true)
    (hel : ∀ i : Nat, i < N → ∀ j : Nat, j < len.getD i 0 → (Cond.eq (.elem (.field (tq i) "java/lang/String" "value" "[B") (.int (Int32.ofNat j))) (.int ((byt.getD i []).getD j 0))).before args s = true)
    (hdi : ∀ i j : Nat, i < N → j < N → i ≠ j → len.getD i 0 ≠ len.getD j 0 ∨ ∃ k, k < len.getD i 0 ∧ (byt.getD i []).getD k 0 ≠ (byt.getD j []).getD k 0) (hA : ∀ a : Nat, a < s.heap.size → ¬ A a) :
    ∃ adK adV : Nat → Nat, vk_S N len byt adK adV A s s.heap ∧ ∀ i : Nat, i < N → (tq i).eval args s none [] s = some (.ref (adK i)) := by
  have h0 : ∀ i : Nat, ∃ q : Nat × Nat, i < N → (tq i).eval args s none [] s = some (.ref q.1) ∧ va_O "java/lang/String" q.1 A s s.heap ∧ va_OF "java/lang/String" "coder" "B" (.int 0) q.1 A s s.heap ∧ va_OF "java/lang/String" "value" "[B" (.ref q.2) q.1 A s s.heap ∧ va_T .byte q.2 (len.getD i 0) (fun j => .int ((byt.getD i []).getD j 0)) A s s.heap := by
    intro i
    by_cases hi : i < N
    · obtain ⟨a, c, cA, kA, q1, q2, q3, q4, q5, q6, -⟩ := Cond.exactly_spec (args := args) (first := s) (o := none) (s := s) (idx := []) (t := tq i) (cls := "java/lang/String") (hex i hi)
      obtain ⟨t, ht, hT⟩ := va_Tof (f := fun j => .int ((byt.getD i []).getD j 0)) (A := A) (hN i hi) (har i hi) (va_eqt (hle i hi)) (fun j hj => va_eqt (hel i hi j hj)) hA
      exact ⟨(a, t), fun _ => ⟨q1, ⟨cA, q3, q5, by rw [q6]; exact q2, hA a (Array.getElem?_eq_some_iff.mp q3).1⟩, vk_OFof q1 (va_eqt (hco i hi)) hA, vk_OFof q1 ht hA, hT⟩⟩
    · exact ⟨(0, 0), fun h => absurd h hi⟩
  obtain ⟨ad, had⟩ := Classical.axiomOfChoice h0
  refine ⟨fun i => (ad i).1, fun i => (ad i).2, ⟨fun i hi => (had i hi).2, fun i j hi hj e => ?_⟩, fun i hi => (had i hi).1⟩
  by_cases hij : i = j
  · exact hij
  · exfalso
    have e : (ad i).1 = (ad j).1 := e
    obtain ⟨-, -, -, ⟨cf, k, ii, f, cell, a1, a2, a3, a4, a5, -⟩, ⟨cl1, b1, -, -, b2, b3, b4, -⟩⟩ := had i hi
    obtain ⟨-, -, -, ⟨cf', k', ii', f', cell', a1', a2', a3', a4', a5', -⟩, ⟨cl2, c1, -, -, c2, c3, c4, -⟩⟩ := had j hj
    rw [e] at a3
    have ec : cell = cell' := Option.some.inj (a3.symm.trans a3')
    have ef := Option.some.inj (a1.symm.trans a1')
    have ef2 : f = f' := by
      have := congrArg (fun z => z.2.2.2) ef
      exact this
    rw [ec, ef2] at a5
    have ev : (ad i).2 = (ad j).2 := by
      have := Option.some.inj (a5.symm.trans a5')
      injection this
    rw [ev] at b1
    have el : cl1 = cl2 := Option.some.inj (b1.symm.trans c1)
    rw [el] at b3 b4
    have en : len.getD i 0 = len.getD j 0 := nI_inj (hN i hi) (hN j hj) (show nI (len.getD i 0) = nI (len.getD j 0) from b3.symm.trans c3)
    rcases hdi i j hi hj hij with z | ⟨k9, z1, z2⟩
    · exact z en
    · have y1 := b4 k9 z1
      have y2 := c4 k9 (by rw [← en]; exact z1)
      have y3 := Option.some.inj (y1.symm.trans y2)
      injection y3 with y4
      exact z2 y4
theorem at_of {args : Array Value} {s : State} {ty : FieldType} (h : (Cond.arrayClass ty).before args s = true) (ho : ∀ C, ty ≠ .object C) : ∃ cA, ArrOfT s cA ty ∧ va_RA s cA ty := by
  obtain ⟨c, k, comp, h1, h2, h3⟩ := Cond.arrayClass_spec (args := args) (first := s) (o := none) (s := s) (idx := []) h
  refine ⟨c, fun n z => ⟨fun k h => (by cases h), k, h2, comp, h3⟩, ?_⟩
  cases ty with
  | object C => exact absurd rfl (ho C)
  | _ => exact h1
theorem ao_of {args : Array Value} {s : State} {C : String} (h : (Cond.arrayOver (.object C)).before args s = true) : ∃ cA, ArrOfT s cA (.object C) ∧ va_RA s cA (.object C) := by
  obtain ⟨comp, c, k, h1, h2, h3, h4, h5⟩ := Cond.arrayOver_spec (args := args) (first := s) (o := none) (s := s) (idx := []) h
  exact ⟨c, fun n z => ⟨fun k h => (by cases h), k, h3, comp, h4⟩, k, comp, h3, h4, h1, h5⟩
theorem iw_X0 : Cond.instantiable RX0 7 ∈ TT := TT_2 (i := 52) rfl rfl
theorem iw_X1 : Cond.instantiable RX1 7 ∈ TT := TT_1 (i := 114) rfl rfl
theorem iw_X2 : Cond.instantiable RX2 9 ∈ TT := TT_1 (i := 213) rfl rfl
theorem iw_X3 : Cond.instantiable RX3 4 ∈ TT := TT_1 (i := 93) rfl rfl
theorem iw_X4 : Cond.instantiable RX4 2 ∈ TT := TT_1 (i := 78) rfl rfl
theorem iw_X5 : Cond.instantiable RX5 9 ∈ TT := TT_2 (i := 150) rfl rfl
theorem iw_X6 : Cond.instantiable RX6 5 ∈ TT := TT_1 (i := 182) rfl rfl
theorem iw_X8 : Cond.instantiable RX8 12 ∈ TT := TT_1 (i := 120) rfl rfl
theorem iw_X9 : Cond.instantiable RX9 8 ∈ TT := TT_1 (i := 37) rfl rfl
theorem iw_X10 : Cond.instantiable RX10 6 ∈ TT := TT_2 (i := 22) rfl rfl
theorem iw_X11 : Cond.instantiable RX11 11 ∈ TT := TT_1 (i := 29) rfl rfl
theorem iw_X12 : Cond.instantiable RX12 22 ∈ TT := TT_7 (i := 215) rfl rfl
theorem start_G {args : Array Value} {s : State} (hts : ∀ w ∈ TT, w.before args s = true) : ∃ G : va_G, ∀ (c : Nat) (q : vw_C), vwCl[c]? = some q → u_Kn s q.1 q.2.1 q.2.2 (G.1 c) (G.2 c) := by
  obtain ⟨c0, i0, h0⟩ := u_known (C := RX0) (T := TX0) (N := 7) (n := 7) hts uw_X0 (hts _ iw_X0)
  obtain ⟨c1, i1, h1⟩ := u_known (C := RX1) (T := TX1) (N := 7) (n := 7) hts uw_X1 (hts _ iw_X1)
  obtain ⟨c2, i2, h2⟩ := u_known (C := RX2) (T := TX2) (N := 9) (n := 9) hts uw_X2 (hts _ iw_X2)
  obtain ⟨c3, i3, h3⟩ := u_known (C := RX3) (T := TX3) (N := 4) (n := 4) hts uw_X3 (hts _ iw_X3)
  obtain ⟨c4, i4, h4⟩ := u_known (C := RX4) (T := TX4) (N := 2) (n := 2) hts uw_X4 (hts _ iw_X4)
  obtain ⟨c5, i5, h5⟩ := u_known (C := RX5) (T := TX5) (N := 9) (n := 9) hts uw_X5 (hts _ iw_X5)
  obtain ⟨c6, i6, h6⟩ := u_known (C := RX6) (T := TX6) (N := 5) (n := 5) hts uw_X6 (hts _ iw_X6)
  obtain ⟨c7, i7, h7⟩ := u_known (C := RX8) (T := TX8) (N := 12) (n := 12) hts uw_X8 (hts _ iw_X8)
  obtain ⟨c8, i8, h8⟩ := u_known (C := RX9) (T := TX9) (N := 8) (n := 8) hts uw_X9 (hts _ iw_X9)
  obtain ⟨c9, i9, h9⟩ := u_known (C := RX10) (T := TX10) (N := 6) (n := 6) hts uw_X10 (hts _ iw_X10)
  obtain ⟨c10, i10, h10⟩ := u_known (C := RX11) (T := TX11) (N := 11) (n := 11) hts uw_X11 (hts _ iw_X11)
  obtain ⟨c11, i11, h11⟩ := u_known (C := RX12) (T := TX12) (N := 22) (n := 22) hts uw_X12 (hts _ iw_X12)
  refine ⟨(fun k => if k = 0 then c0 else if k = 1 then c1 else if k = 2 then c2 else if k = 3 then c3 else if k = 4 then c4 else if k = 5 then c5 else if k = 6 then c6 else if k = 7 then c7 else if k = 8 then c8 else if k = 9 then c9 else if k = 10 then c10 else c11, fun k => if k = 0 then i0 else if k = 1 then i1 else if k = 2 then i2 else if k = 3 then i3 else if k = 4 then i4 else if k = 5 then i5 else if k = 6 then i6 else if k = 7 then i7 else if k = 8 then i8 else if k = 9 then i9 else if k = 10 then i10 else i11), ?_⟩
  intro k q hq
  match k, hq with
  | 0, hq => cases hq; exact h0
  | 1, hq => cases hq; exact h1
  | 2, hq => cases hq; exact h2
  | 3, hq => cases hq; exact h3
  | 4, hq => cases hq; exact h4
  | 5, hq => cases hq; exact h5
  | 6, hq => cases hq; exact h6
  | 7, hq => cases hq; exact h7
  | 8, hq => cases hq; exact h8
  | 9, hq => cases hq; exact h9
  | 10, hq => cases hq; exact h10
  | 11, hq => cases hq; exact h11
  | k + 12, hq => simp [vwCl] at hq
theorem onT_N {w : Cond} (h : w ∈ NW) : w.onTables = true := by
  have h1 := (List.mem_filter.mp h).2
  cases w with
  | methodLinkNest a i x y => rfl
  | castable a b => rfl
  | declares x => rfl
  | _ => cases h1
def cyo (ct ms aK aV : Nat → Nat) : Nat → Nat := fun n => if n < 10 then ct n else if n < 100 then ms n else if n % 2 = 0 then aK ((n - 100) / 2) else aV ((n - 101) / 2)
theorem cyo_K (ct ms aK aV : Nat → Nat) (i : Nat) : cyo ct ms aK aV (100 + 2 * i) = aK i := by
  unfold cyo; rw [if_neg (by omega), if_neg (by omega), if_pos (by omega), show (100 + 2 * i - 100) / 2 = i by omega]
theorem cyo_V (ct ms aK aV : Nat → Nat) (i : Nat) : cyo ct ms aK aV (101 + 2 * i) = aV i := by
  unfold cyo; rw [if_neg (by omega), if_neg (by omega), if_neg (by omega), show (101 + 2 * i - 101) / 2 = i by omega]
theorem ex_of {args : Array Value} {s : State} {t : Term} (h : (Cond.exactly t "java/lang/String").before args s = true) : ∃ a : Nat, t.eval args s none [] s = some (.ref a) := by
  obtain ⟨a, c, cA, kA, q1, -⟩ := Cond.exactly_spec (args := args) (first := s) (o := none) (s := s) (idx := []) h
  exact ⟨a, q1⟩
theorem eq_of {args : Array Value} {s : State} {t u : Term} {a b : Nat} (h : (Cond.eq t u).before args s = true) (h1 : t.eval args s none [] s = some (.ref a)) (h2 : u.eval args s none [] s = some (.ref b)) : u.eval args s none [] s = some (.ref a) := by
  have h3 := Cond.eq_refs (args := args) (first := s) (out := none) (t := s) (idx := []) h h2 rfl
  rw [h2, ← h3, h1]
set_option maxHeartbeats 4000000 in
set_option maxRecDepth 100000 in
theorem start_E {args : Array Value} {s : State} {A : Nat → Prop} (hts : ∀ w ∈ lw_tbl, w.before args s = true) (hgv : (Jvm.Cond.and given_1 narrow_1).before args s = true) (hA : ∀ a : Nat, a < s.heap.size → ¬ A a) (ct : Nat → Nat) : ∃ ms aK aV : Nat → Nat, EX (cyo ct ms aK aV) A s := by
  have hs := flat_of_before _ hgv
  obtain ⟨aK, aV, hS, hev⟩ := vk_Sc (args := args) (s := s) (N := 26) (tq := tm) (len := lenS) (byt := bytS) (A := A) lenS_lt (fun i hi => hs _ (tm_in hi _ List.mem_cons_self)) (fun i hi => hs _ (tm_in hi _ (List.mem_cons_of_mem _ List.mem_cons_self))) (fun i hi => hs _ (tm_in hi _ (List.mem_cons_of_mem _ (List.mem_cons_of_mem _ List.mem_cons_self)))) (fun i hi => hs _ (tm_in hi _ (List.mem_cons_of_mem _ (List.mem_cons_of_mem _ (List.mem_cons_of_mem _ List.mem_cons_self))))) (fun i hi j hj => hs _ (tm_in hi _ (strC_el hj))) (fun i j hi hj h => dfS_ok hi hj h) hA
  obtain ⟨m0, hm0⟩ := ex_of (hs (Cond.exactly (Term.string "FranchiseLedger" 428) "java/lang/String") (List.mem_of_getElem? (i := 333) (by decide +kernel)))
  obtain ⟨m1, hm1⟩ := ex_of (hs (Cond.exactly (Term.string "FranchiseLedger" 405) "java/lang/String") (List.mem_of_getElem? (i := 364) (by decide +kernel)))
  obtain ⟨m2, hm2⟩ := ex_of (hs (Cond.exactly (Term.string "FranchiseLedger" 411) "java/lang/String") (List.mem_of_getElem? (i := 386) (by decide +kernel)))
  obtain ⟨m3, hm3⟩ := ex_of (hs (Cond.exactly (Term.string "FranchiseLedger" 413) "java/lang/String") (List.mem_of_getElem? (i := 404) (by decide +kernel)))
  obtain ⟨m4, hm4⟩ := ex_of (hs (Cond.exactly (Term.string "FranchiseLedger" 425) "java/lang/String") (List.mem_of_getElem? (i := 420) (by decide +kernel)))
  obtain ⟨m5, hm5⟩ := ex_of (hs (Cond.exactly (Term.string "FranchiseLedger" 417) "java/lang/String") (List.mem_of_getElem? (i := 445) (by decide +kernel)))
  refine ⟨fun n => if n = 10 then m0 else if n = 11 then m1 else if n = 12 then m2 else if n = 13 then m3 else if n = 14 then m4 else if n = 15 then m5 else 0, aK, aV, ?_⟩
  obtain ⟨cy, hcy⟩ : ∃ cy, cy = cyo ct (fun n => if n = 10 then m0 else if n = 11 then m1 else if n = 12 then m2 else if n = 13 then m3 else if n = 14 then m4 else if n = 15 then m5 else 0) aK aV := ⟨_, rfl⟩
  rw [← hcy]
  have cK : ∀ i, cy (100 + 2 * i) = aK i := fun i => by rw [hcy]; exact cyo_K _ _ _ _ i
  have cV : ∀ i, cy (101 + 2 * i) = aV i := fun i => by rw [hcy]; exact cyo_V _ _ _ _ i
  have cm10 : cy 10 = m0 := by rw [hcy]; rfl
  have cm11 : cy 11 = m1 := by rw [hcy]; rfl
  have cm12 : cy 12 = m2 := by rw [hcy]; rfl
  have cm13 : cy 13 = m3 := by rw [hcy]; rfl
  have cm14 : cy 14 = m4 := by rw [hcy]; rfl
  have cm15 : cy 15 = m5 := by rw [hcy]; rfl
  have v0 : (Term.string "FranchiseLedger$SystemReader" 31).eval args s none [] s = some (.ref (cy 100)) := by rw [show 100 = 100 + 2 * 0 from rfl, cK]; exact hev 0 (by decide)
  have v1 : (Term.string "FranchiseLedger$SystemReader" 47).eval args s none [] s = some (.ref (cy 102)) := by rw [show 102 = 100 + 2 * 1 from rfl, cK]; exact hev 1 (by decide)
  have v2 : (Term.string "FranchiseLedger$Tokens" 54).eval args s none [] s = some (.ref (cy 100)) := by
    obtain ⟨b, hb⟩ := ex_of (hs (Cond.exactly (Term.string "FranchiseLedger$Tokens" 54) "java/lang/String") (segA_m (k := 2) rfl List.mem_cons_self))
    rw [show 100 = 100 + 2 * 0 from rfl, cK]
    exact eq_of (hs (Cond.eq (tm 0) (Term.string "FranchiseLedger$Tokens" 54)) (segA_m (k := 3) rfl List.mem_cons_self)) (hev 0 (by decide)) hb
  have v3 : (Term.string "FranchiseLedger$Tokens" 60).eval args s none [] s = some (.ref (cy 102)) := by
    obtain ⟨b, hb⟩ := ex_of (hs (Cond.exactly (Term.string "FranchiseLedger$Tokens" 60) "java/lang/String") (segA_m (k := 4) rfl List.mem_cons_self))
    rw [show 102 = 100 + 2 * 1 from rfl, cK]
    exact eq_of (hs (Cond.eq (tm 1) (Term.string "FranchiseLedger$Tokens" 60)) (segA_m (k := 5) rfl List.mem_cons_self)) (hev 1 (by decide)) hb
  have v4 : (Term.string "FranchiseLedger$Tokens" 62).eval args s none [] s = some (.ref (cy 104)) := by rw [show 104 = 100 + 2 * 2 from rfl, cK]; exact hev 2 (by decide)
  have v5 : (Term.string "FranchiseLedger$Tokens" 64).eval args s none [] s = some (.ref (cy 106)) := by rw [show 106 = 100 + 2 * 3 from rfl, cK]; exact hev 3 (by decide)
  have v6 : (Term.string "FranchiseLedger$Tokens" 66).eval args s none [] s = some (.ref (cy 108)) := by rw [show 108 = 100 + 2 * 4 from rfl, cK]; exact hev 4 (by decide)
  have v7 : (Term.string "FranchiseLedger$Tokens" 68).eval args s none [] s = some (.ref (cy 110)) := by rw [show 110 = 100 + 2 * 5 from rfl, cK]; exact hev 5 (by decide)
  have v8 : (Term.string "FranchiseLedger$Tokens" 70).eval args s none [] s = some (.ref (cy 112)) := by rw [show 112 = 100 + 2 * 6 from rfl, cK]; exact hev 6 (by decide)
  have v9 : (Term.string "FranchiseLedger$Tokens" 72).eval args s none [] s = some (.ref (cy 114)) := by rw [show 114 = 100 + 2 * 7 from rfl, cK]; exact hev 7 (by decide)
  have v10 : (Term.string "FranchiseLedger$Tokens" 74).eval args s none [] s = some (.ref (cy 116)) := by rw [show 116 = 100 + 2 * 8 from rfl, cK]; exact hev 8 (by decide)
  have v11 : (Term.string "FranchiseLedger$Tokens" 76).eval args s none [] s = some (.ref (cy 118)) := by rw [show 118 = 100 + 2 * 9 from rfl, cK]; exact hev 9 (by decide)
  have v12 : (Term.string "FranchiseLedger$SystemReader" 52).eval args s none [] s = some (.ref (cy 104)) := by
    obtain ⟨b, hb⟩ := ex_of (hs (Cond.exactly (Term.string "FranchiseLedger$SystemReader" 52) "java/lang/String") (segA_m (k := 14) rfl List.mem_cons_self))
    rw [show 104 = 100 + 2 * 2 from rfl, cK]
    exact eq_of (hs (Cond.eq (tm 2) (Term.string "FranchiseLedger$SystemReader" 52)) (segA_m (k := 15) rfl List.mem_cons_self)) (hev 2 (by decide)) hb
  have v13 : (Term.string "FranchiseLedger$SystemReader" 57).eval args s none [] s = some (.ref (cy 106)) := by
    obtain ⟨b, hb⟩ := ex_of (hs (Cond.exactly (Term.string "FranchiseLedger$SystemReader" 57) "java/lang/String") (segA_m (k := 16) rfl List.mem_cons_self))
    rw [show 106 = 100 + 2 * 3 from rfl, cK]
    exact eq_of (hs (Cond.eq (tm 3) (Term.string "FranchiseLedger$SystemReader" 57)) (segA_m (k := 17) rfl List.mem_cons_self)) (hev 3 (by decide)) hb
  have v14 : (Term.string "FranchiseLedger$SystemReader" 68).eval args s none [] s = some (.ref (cy 108)) := by
    obtain ⟨b, hb⟩ := ex_of (hs (Cond.exactly (Term.string "FranchiseLedger$SystemReader" 68) "java/lang/String") (segA_m (k := 18) rfl List.mem_cons_self))
    rw [show 108 = 100 + 2 * 4 from rfl, cK]
    exact eq_of (hs (Cond.eq (tm 4) (Term.string "FranchiseLedger$SystemReader" 68)) (segA_m (k := 19) rfl List.mem_cons_self)) (hev 4 (by decide)) hb
  have v15 : (Term.string "FranchiseLedger$SystemReader" 85).eval args s none [] s = some (.ref (cy 110)) := by
    obtain ⟨b, hb⟩ := ex_of (hs (Cond.exactly (Term.string "FranchiseLedger$SystemReader" 85) "java/lang/String") (segA_m (k := 20) rfl List.mem_cons_self))
    rw [show 110 = 100 + 2 * 5 from rfl, cK]
    exact eq_of (hs (Cond.eq (tm 5) (Term.string "FranchiseLedger$SystemReader" 85)) (segA_m (k := 21) rfl List.mem_cons_self)) (hev 5 (by decide)) hb
  have v16 : (Term.string "FranchiseLedger$SystemReader" 90).eval args s none [] s = some (.ref (cy 112)) := by
    obtain ⟨b, hb⟩ := ex_of (hs (Cond.exactly (Term.string "FranchiseLedger$SystemReader" 90) "java/lang/String") (segA_m (k := 22) rfl List.mem_cons_self))
    rw [show 112 = 100 + 2 * 6 from rfl, cK]
    exact eq_of (hs (Cond.eq (tm 6) (Term.string "FranchiseLedger$SystemReader" 90)) (segA_m (k := 23) rfl List.mem_cons_self)) (hev 6 (by decide)) hb
  have v17 : (Term.string "FranchiseLedger$SystemReader" 95).eval args s none [] s = some (.ref (cy 114)) := by
    obtain ⟨b, hb⟩ := ex_of (hs (Cond.exactly (Term.string "FranchiseLedger$SystemReader" 95) "java/lang/String") (segA_m (k := 24) rfl List.mem_cons_self))
    rw [show 114 = 100 + 2 * 7 from rfl, cK]
    exact eq_of (hs (Cond.eq (tm 7) (Term.string "FranchiseLedger$SystemReader" 95)) (segA_m (k := 25) rfl List.mem_cons_self)) (hev 7 (by decide)) hb
  have v18 : (Term.string "FranchiseLedger$SystemReader" 99).eval args s none [] s = some (.ref (cy 116)) := by
    obtain ⟨b, hb⟩ := ex_of (hs (Cond.exactly (Term.string "FranchiseLedger$SystemReader" 99) "java/lang/String") (segA_m (k := 26) rfl List.mem_cons_self))
    rw [show 116 = 100 + 2 * 8 from rfl, cK]
    exact eq_of (hs (Cond.eq (tm 8) (Term.string "FranchiseLedger$SystemReader" 99)) (segA_m (k := 27) rfl List.mem_cons_self)) (hev 8 (by decide)) hb
  have v19 : (Term.string "FranchiseLedger$SystemReader" 103).eval args s none [] s = some (.ref (cy 118)) := by
    obtain ⟨b, hb⟩ := ex_of (hs (Cond.exactly (Term.string "FranchiseLedger$SystemReader" 103) "java/lang/String") (segA_m (k := 28) rfl List.mem_cons_self))
    rw [show 118 = 100 + 2 * 9 from rfl, cK]
    exact eq_of (hs (Cond.eq (tm 9) (Term.string "FranchiseLedger$SystemReader" 103)) (segA_m (k := 29) rfl List.mem_cons_self)) (hev 9 (by decide)) hb
  have v20 : (Term.string "FranchiseLedger$Journal" 78).eval args s none [] s = some (.ref (cy 120)) := by rw [show 120 = 100 + 2 * 10 from rfl, cK]; exact hev 10 (by decide)
  have v21 : (Term.string "FranchiseLedger$Journal" 84).eval args s none [] s = some (.ref (cy 122)) := by rw [show 122 = 100 + 2 * 11 from rfl, cK]; exact hev 11 (by decide)
  have v22 : (Term.string "FranchiseLedger$Journal" 86).eval args s none [] s = some (.ref (cy 124)) := by rw [show 124 = 100 + 2 * 12 from rfl, cK]; exact hev 12 (by decide)
  have v23 : (Term.string "FranchiseLedger$Journal" 88).eval args s none [] s = some (.ref (cy 126)) := by rw [show 126 = 100 + 2 * 13 from rfl, cK]; exact hev 13 (by decide)
  have v24 : (Term.string "FranchiseLedger$Journal" 90).eval args s none [] s = some (.ref (cy 128)) := by rw [show 128 = 100 + 2 * 14 from rfl, cK]; exact hev 14 (by decide)
  have v25 : (Term.string "FranchiseLedger$Journal" 92).eval args s none [] s = some (.ref (cy 130)) := by rw [show 130 = 100 + 2 * 15 from rfl, cK]; exact hev 15 (by decide)
  have v26 : (Term.string "FranchiseLedger$Journal" 94).eval args s none [] s = some (.ref (cy 132)) := by rw [show 132 = 100 + 2 * 16 from rfl, cK]; exact hev 16 (by decide)
  have v27 : (Term.string "FranchiseLedger$Tokens" 94).eval args s none [] s = some (.ref (cy 134)) := by rw [show 134 = 100 + 2 * 17 from rfl, cK]; exact hev 17 (by decide)
  have v28 : (Term.string "FranchiseLedger$Tokens" 96).eval args s none [] s = some (.ref (cy 136)) := by rw [show 136 = 100 + 2 * 18 from rfl, cK]; exact hev 18 (by decide)
  have v29 : (Term.string "FranchiseLedger" 428).eval args s none [] s = some (.ref (cy 10)) := by rw [cm10]; exact hm0
  have v30 : (Term.string "FranchiseLedger" 405).eval args s none [] s = some (.ref (cy 11)) := by rw [cm11]; exact hm1
  have v31 : (Term.string "FranchiseLedger" 411).eval args s none [] s = some (.ref (cy 12)) := by rw [cm12]; exact hm2
  have v32 : (Term.string "FranchiseLedger" 413).eval args s none [] s = some (.ref (cy 13)) := by rw [cm13]; exact hm3
  have v33 : (Term.string "FranchiseLedger" 425).eval args s none [] s = some (.ref (cy 14)) := by rw [cm14]; exact hm4
  have v34 : (Term.string "FranchiseLedger" 417).eval args s none [] s = some (.ref (cy 15)) := by rw [cm15]; exact hm5
  have v35 : (Term.string "FranchiseLedger$InvoiceText" 19).eval args s none [] s = some (.ref (cy 138)) := by rw [show 138 = 100 + 2 * 19 from rfl, cK]; exact hev 19 (by decide)
  have v36 : (Term.string "FranchiseLedger$InvoiceText" 31).eval args s none [] s = some (.ref (cy 140)) := by rw [show 140 = 100 + 2 * 20 from rfl, cK]; exact hev 20 (by decide)
  have v37 : (Term.string "FranchiseLedger$InvoiceText" 33).eval args s none [] s = some (.ref (cy 142)) := by rw [show 142 = 100 + 2 * 21 from rfl, cK]; exact hev 21 (by decide)
  have v38 : (Term.string "FranchiseLedger$InvoiceText" 35).eval args s none [] s = some (.ref (cy 144)) := by rw [show 144 = 100 + 2 * 22 from rfl, cK]; exact hev 22 (by decide)
  have v39 : (Term.string "FranchiseLedger$InvoiceText" 37).eval args s none [] s = some (.ref (cy 146)) := by rw [show 146 = 100 + 2 * 23 from rfl, cK]; exact hev 23 (by decide)
  have v40 : (Term.string "FranchiseLedger$InvoiceText" 39).eval args s none [] s = some (.ref (cy 148)) := by rw [show 148 = 100 + 2 * 24 from rfl, cK]; exact hev 24 (by decide)
  have v41 : (Term.string "FranchiseLedger$InvoiceText" 41).eval args s none [] s = some (.ref (cy 150)) := by rw [show 150 = 100 + 2 * 25 from rfl, cK]; exact hev 25 (by decide)
  refine ⟨fun w hw => va_Nw.of (onT_N hw) (hts w (List.mem_filter.mp hw).1), ?_, (List.forall_mem_cons.mpr ⟨vk_R.of (hts _ (lw_3 (List.mem_of_getElem? (i := 16) rfl))) v0, (List.forall_mem_cons.mpr ⟨vk_R.of (hts _ (lw_3 (List.mem_of_getElem? (i := 98) rfl))) v1, (List.forall_mem_cons.mpr ⟨vk_R.of (hts _ (lw_3 (List.mem_of_getElem? (i := 110) rfl))) v2, (List.forall_mem_cons.mpr ⟨vk_R.of (hts _ (lw_3 (List.mem_of_getElem? (i := 112) rfl))) v3, (List.forall_mem_cons.mpr ⟨vk_R.of (hts _ (lw_3 (List.mem_of_getElem? (i := 113) rfl))) v4, (List.forall_mem_cons.mpr ⟨vk_R.of (hts _ (lw_3 (List.mem_of_getElem? (i := 114) rfl))) v5, (List.forall_mem_cons.mpr ⟨vk_R.of (hts _ (lw_3 (List.mem_of_getElem? (i := 115) rfl))) v6, (List.forall_mem_cons.mpr ⟨vk_R.of (hts _ (lw_3 (List.mem_of_getElem? (i := 116) rfl))) v7, (List.forall_mem_cons.mpr ⟨vk_R.of (hts _ (lw_3 (List.mem_of_getElem? (i := 117) rfl))) v8, (List.forall_mem_cons.mpr ⟨vk_R.of (hts _ (lw_3 (List.mem_of_getElem? (i := 118) rfl))) v9, (List.forall_mem_cons.mpr ⟨vk_R.of (hts _ (lw_3 (List.mem_of_getElem? (i := 119) rfl))) v10, (List.forall_mem_cons.mpr ⟨vk_R.of (hts _ (lw_3 (List.mem_of_getElem? (i := 120) rfl))) v11, (List.forall_mem_cons.mpr ⟨vk_R.of (hts _ (lw_3 (List.mem_of_getElem? (i := 136) rfl))) v12, (List.forall_mem_cons.mpr ⟨vk_R.of (hts _ (lw_3 (List.mem_of_getElem? (i := 159) rfl))) v13, (List.forall_mem_cons.mpr ⟨vk_R.of (hts _ (lw_3 (List.mem_of_getElem? (i := 188) rfl))) v14, (List.forall_mem_cons.mpr ⟨vk_R.of (hts _ (lw_3 (List.mem_of_getElem? (i := 189) rfl))) v15, (List.forall_mem_cons.mpr ⟨vk_R.of (hts _ (lw_3 (List.mem_of_getElem? (i := 190) rfl))) v16, (List.forall_mem_cons.mpr ⟨vk_R.of (hts _ (lw_3 (List.mem_of_getElem? (i := 191) rfl))) v17, (List.forall_mem_cons.mpr ⟨vk_R.of (hts _ (lw_3 (List.mem_of_getElem? (i := 192) rfl))) v18, (List.forall_mem_cons.mpr ⟨vk_R.of (hts _ (lw_3 (List.mem_of_getElem? (i := 193) rfl))) v19, (List.forall_mem_cons.mpr ⟨vk_R.of (hts _ (lw_3 (List.mem_of_getElem? (i := 238) rfl))) v20, (List.forall_mem_cons.mpr ⟨vk_R.of (hts _ (lw_4 (List.mem_of_getElem? (i := 0) rfl))) v21, (List.forall_mem_cons.mpr ⟨vk_R.of (hts _ (lw_4 (List.mem_of_getElem? (i := 1) rfl))) v22, (List.forall_mem_cons.mpr ⟨vk_R.of (hts _ (lw_4 (List.mem_of_getElem? (i := 2) rfl))) v23, (List.forall_mem_cons.mpr ⟨vk_R.of (hts _ (lw_4 (List.mem_of_getElem? (i := 3) rfl))) v24, (List.forall_mem_cons.mpr ⟨vk_R.of (hts _ (lw_4 (List.mem_of_getElem? (i := 4) rfl))) v25, (List.forall_mem_cons.mpr ⟨vk_R.of (hts _ (lw_4 (List.mem_of_getElem? (i := 5) rfl))) v26, (List.forall_mem_cons.mpr ⟨vk_R.of (hts _ (lw_4 (List.mem_of_getElem? (i := 20) rfl))) v27, (List.forall_mem_cons.mpr ⟨vk_R.of (hts _ (lw_4 (List.mem_of_getElem? (i := 21) rfl))) v28, (List.forall_mem_cons.mpr ⟨vk_R.of (hts _ (lw_4 (List.mem_of_getElem? (i := 181) rfl))) v29, (List.forall_mem_cons.mpr ⟨vk_R.of (hts _ (lw_5 (List.mem_of_getElem? (i := 164) rfl))) v30, (List.forall_mem_cons.mpr ⟨vk_R.of (hts _ (lw_6 (List.mem_of_getElem? (i := 16) rfl))) v31, (List.forall_mem_cons.mpr ⟨vk_R.of (hts _ (lw_6 (List.mem_of_getElem? (i := 96) rfl))) v32, (List.forall_mem_cons.mpr ⟨vk_R.of (hts _ (lw_6 (List.mem_of_getElem? (i := 151) rfl))) v33, (List.forall_mem_cons.mpr ⟨vk_R.of (hts _ (lw_6 (List.mem_of_getElem? (i := 185) rfl))) v34, (List.forall_mem_cons.mpr ⟨vk_R.of (hts _ (lw_7 (List.mem_of_getElem? (i := 183) rfl))) v35, (List.forall_mem_cons.mpr ⟨vk_R.of (hts _ (lw_7 (List.mem_of_getElem? (i := 208) rfl))) v36, (List.forall_mem_cons.mpr ⟨vk_R.of (hts _ (lw_7 (List.mem_of_getElem? (i := 209) rfl))) v37, (List.forall_mem_cons.mpr ⟨vk_R.of (hts _ (lw_7 (List.mem_of_getElem? (i := 210) rfl))) v38, (List.forall_mem_cons.mpr ⟨vk_R.of (hts _ (lw_7 (List.mem_of_getElem? (i := 211) rfl))) v39, (List.forall_mem_cons.mpr ⟨vk_R.of (hts _ (lw_7 (List.mem_of_getElem? (i := 212) rfl))) v40, (List.forall_mem_cons.mpr ⟨vk_R.of (hts _ (lw_7 (List.mem_of_getElem? (i := 213) rfl))) v41, (fun _ h => absurd h List.not_mem_nil)⟩)⟩)⟩)⟩)⟩)⟩)⟩)⟩)⟩)⟩)⟩)⟩)⟩)⟩)⟩)⟩)⟩)⟩)⟩)⟩)⟩)⟩)⟩)⟩)⟩)⟩)⟩)⟩)⟩)⟩)⟩)⟩)⟩)⟩)⟩)⟩)⟩)⟩)⟩)⟩)⟩)⟩), vx_Zqof (hts _ (lw_4 (List.mem_of_getElem? (i := 167) rfl))) (hts _ (lw_1 (List.mem_of_getElem? (i := 21) rfl))) (hs (Cond.isRef (Term.static "java/lang/Throwable" "UNASSIGNED_STACK" "[Ljava/lang/StackTraceElement;")) (List.mem_of_getElem? (i := 9) (by decide +kernel))) hA, vx_Zqof (hts _ (lw_4 (List.mem_of_getElem? (i := 169) rfl))) (hts _ (lw_1 (List.mem_of_getElem? (i := 21) rfl))) (hs (Cond.isRef (Term.static "java/lang/Throwable" "SUPPRESSED_SENTINEL" "Ljava/util/List;")) (List.mem_of_getElem? (i := 10) (by decide +kernel))) hA, va_Zof (hts _ (lw_3 (List.mem_of_getElem? (i := 30) rfl))) (hts _ (lw_1 (List.mem_of_getElem? (i := 15) rfl))) (va_eqt (hs (Cond.eq (Term.static "java/lang/String" "COMPACT_STRINGS" "Z") (Term.int 1)) (List.mem_of_getElem? (i := 4) (by decide +kernel)))) hA, va_Nc.of (hs (Cond.not (Cond.castable "java/lang/IllegalArgumentException" "java/lang/IndexOutOfBoundsException")) (List.mem_of_getElem? (i := 37) (by decide +kernel))), va_Nc.of (hs (Cond.not (Cond.castable "java/lang/IllegalStateException" "java/lang/IndexOutOfBoundsException")) (List.mem_of_getElem? (i := 38) (by decide +kernel))), va_Nc.of (hs (Cond.not (Cond.castable "java/lang/IllegalStateException" "java/lang/IllegalArgumentException")) (List.mem_of_getElem? (i := 24) (by decide +kernel))), va_Zqof (hts _ (lw_3 (List.mem_of_getElem? (i := 46) rfl))) (hts _ (lw_1 (List.mem_of_getElem? (i := 17) rfl))) (hs (Cond.isRef (Term.static "jdk/internal/util/Preconditions" "SIOOBE_FORMATTER" "Ljava/util/function/BiFunction;")) (List.mem_of_getElem? (i := 5) (by decide +kernel))) hA⟩
  rw [show (fun i => cy (100 + 2 * i)) = aK from funext cK, show (fun i => cy (101 + 2 * i)) = aV from funext cV]
  exact hS
