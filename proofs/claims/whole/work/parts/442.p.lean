/-! the pure part: closing a month, the second loop -/
variable {S S1 S2 S' S'' S3 X : St} {ad : Nat → Nat} {b d j k : Nat} {v v' v1 v2 : Nat → Int64} {np nf no mo no' mo' : Nat}
def tfV (v : Nat → Int64) (f : Nat) : Nat → Int64 := udt (udt (udt (udt (udt v (58 + 16 * f + 9) 4) (58 + 16 * f + 2) (v (58 + 16 * f + 10))) (58 + 16 * f + 5) (v (58 + 16 * f + 5) + 1)) (58 + 16 * f + 6) 0) (58 + 16 * f + 4) (v (58 + 16 * f + 4) + v 8)
def tfC (v : Nat → Int64) (mo f : Nat) : Bool := decide (v (58 + 16 * f + 9) = 2) && decide (dlf v mo f = 0)
def tfW (v : Nat → Int64) (mo f : Nat) : Nat → Int64 := if tfC v mo f then tfV v f else v
def bl2 (v : Nat → Int64) (mo f : Nat) : Nat → Int64 := udt (tfW v mo f) (1694 + 7 * (8 * mo + f) + 6) (tfW v mo f (58 + 16 * f + 4))
theorem tfW_n {f i : Nat} (h : i < 58 + 16 * f ∨ 58 + 16 * f + 16 ≤ i) : tfW v mo f i = v i := by
  unfold tfW
  cases tfC v mo f
  · rfl
  · simp only [if_true, tfV]
    rw [udt_n (by omega), udt_n (by omega), udt_n (by omega), udt_n (by omega), udt_n (by omega)]
theorem tfW_q {f q : Nat} (hq : q < 16) (h : q ≠ 9 ∧ q ≠ 2 ∧ q ≠ 5 ∧ q ≠ 6 ∧ q ≠ 4) : tfW v mo f (58 + 16 * f + q) = v (58 + 16 * f + q) := by
  unfold tfW
  cases tfC v mo f
  · rfl
  · simp only [if_true, tfV]
    rw [udt_n (by omega), udt_n (by omega), udt_n (by omega), udt_n (by omega), udt_n (by omega)]
theorem C_finish (c : CV S ad b v np nf no mo) (hm : mo < 60) {f g : Nat} (hf : f < nf) (eg : v (58 + 16 * f + 5) = lN g) (hg : g ≤ 60) : ∃ S', f_X1_finishTransfer S (ad b) (nI f) = some S' ∧ MKw S S' ad b v (tfW v mo f) np nf no mo ∧ (∀ i, gJ S' (ad (b + 34)) i = gJ S (ad (b + 34)) i) ∧ ∀ i, gJ S' (ad (b + 33)) i = gJ S (ad (b + 33)) i := by
  have h8 := c.hf
  have f8 : f < 8 := by omega
  have hb := c.hb
  have e2 : (v (58 + 16 * f + 9) = 2) = (gI S (ad (b + 27)) f = 2) := by rw [(c.R f hf).1, show (2 : Int64) = (2 : Int32).toInt64 from rfl, tl_eq]
  by_cases hst : gI S (ad (b + 27)) f = 2
  · have ho : opn v f = true := (opn_iff c hf).mpr (Or.inr hst)
    have hd31 : dlf v mo f < 2 ^ 31 := by
      obtain ⟨t, ht, e9⟩ := c.w.1.2.2.2.2.2
      unfold dlf; rw [e9, lN_toInt (by omega)]; omega
    have ed : (nI (dlf v mo f) ≤ 0) = (dlf v mo f = 0) := by rw [← nI_0, nI_leI hd31 (by decide)]; exact propext (by omega)
    by_cases hd : dlf v mo f = 0
    · have hC : tfC v mo f = true := by unfold tfC; rw [decide_eq_true (e2.mpr hst), decide_eq_true hd]; rfl
      have m1 := (MK_state c hf 4 (Or.inl (by decide))).w
      have c1 := m1.cv c
      have m2 := MKw_worth c1 hf (gI S (ad (b + 29)) f)
      have c2 := m2.cv c1
      have m3 := MKw_gen c2 hf (g := g + 1) (by omega)
      have c3 := m3.cv c2
      have m4 := MKw_over c3 hf (g := 0) (by omega)
      have c4 := m4.cv c3
      have m5 := (MK_bal c4 hf (v (58 + 16 * f + 4) + v 8)).w
      have e10 : v (58 + 16 * f + 10) = (gI S (ad (b + 29)) f).toInt64 := ((c.R f hf).2.1 (Or.inr hst)).1
      have e5 : gI S (ad (b + 24)) f = nI g := by
        have := (c.F f hf).2.2.2.2.1
        rw [eg, ← nI_l (by omega), tl_eq] at this
        exact this.symm
      have e26 : gJ S (ad (b + 26)) f = v (58 + 16 * f + 4) := ((c.F f hf).2.2.2.1).symm
      have efee : gJ S (ad (b + 1)) 9 = v 8 := (c.T.2.2.2.2.2.1).symm
      have ev : tfW v mo f = udt (udt (udt (udt (udt v (58 + 16 * f + 9) (Int32.toInt64 4)) (58 + 16 * f + 2) (gI S (ad (b + 29)) f).toInt64) (58 + 16 * f + 5) (lN (g + 1))) (58 + 16 * f + 6) (lN 0)) (58 + 16 * f + 4) (v (58 + 16 * f + 4) + v 8) := by
        unfold tfW tfV
        rw [hC, if_pos rfl, e10, eg, lN_1]; rfl
      refine ⟨_, ?_, by rw [ev]; exact (((m1.trans m2).trans m3).trans m4).trans m5, fun i => ?_, fun i => ?_⟩
      · have r29 : gI (uI S (ad (b + 27)) f 4) (ad (b + 29)) f = gI S (ad (b + 29)) f := by rw [gI_i c.t.1, if_neg (by omega)]
        have r24 : gI (uI (uI S (ad (b + 27)) f 4) (ad (b + 22)) f (gI S (ad (b + 29)) f)) (ad (b + 24)) f = nI g := by rw [gI_i c.t.1, if_neg (by omega), gI_i c.t.1, if_neg (by omega)]; exact e5
        simp only [f_X1_finishTransfer, lt_n, r_b0_4 c.t hb, r_b5_0 c.t hb, lb27 c.t hb f8, hst, if_true, C_delay c hf ho, cl_n, ed, hd, sb27 c.t hb f8, r_b0_3 c1.t hb, r_b4_3 c1.t hb, r_b0_4 c1.t hb, r_b5_2 c1.t hb, lb29 c1.t hb f8, r29, sb22 c1.t hb f8, r_b0_3 c2.t hb, r_b4_5 c2.t hb, lb24 c2.t hb f8, r24, nI_1, sb24 c2.t hb f8, r_b0_3 c3.t hb, r_b4_6 c3.t hb]
        rw [← nI_0, sb25 c3.t hb f8]
        simp only [r_b0_3 c4.t hb, r_b4_7 c4.t hb, lb26 c4.t hb f8, gJ_uI, e26, r_b0_0 c4.t hb, efee, sb26 c4.t hb f8]
        rw [if_pos (Int32.le_refl _)]
      · rw [gJ_i c.t.1, if_neg (by omega)]; rfl
      · rw [gJ_i c.t.1, if_neg (by omega)]; rfl
    · have hC : tfC v mo f = false := by unfold tfC; rw [decide_eq_false hd, Bool.and_false]
      refine ⟨S, ?_, by unfold tfW; rw [hC]; exact MKw.rf c, fun _ => rfl, fun _ => rfl⟩
      simp only [f_X1_finishTransfer, lt_n, r_b0_4 c.t hb, r_b5_0 c.t hb, lb27 c.t hb f8, hst, if_true, C_delay c hf ho, cl_n, ed, hd, if_false]
  · have hC : tfC v mo f = false := by unfold tfC; rw [decide_eq_false (fun e => hst (e2.mp e)), Bool.false_and]
    refine ⟨S, ?_, by unfold tfW; rw [hC]; exact MKw.rf c, fun _ => rfl, fun _ => rfl⟩
    simp only [f_X1_finishTransfer, lt_n, r_b0_4 c.t hb, r_b5_0 c.t hb, lb27 c.t hb f8, hst, if_false]
theorem C_step2 (c : CV S ad b v np nf no mo) (hm : mo < 60) {f g : Nat} (hf : f < nf) (eg : v (58 + 16 * f + 5) = lN g) (hg : g ≤ 60) : ∃ S', (∀ K : St → Option (Int32 × St), (cl (f_X1_finishTransfer S (ad b) (nI f)) fun (S40 : St) => lt (gR S40 (ad b) 5) fun (a41 : Nat) => lt (gR S40 (ad b) 3) fun (a43 : Nat) => lt (gR S40 a43 7) fun (a45 : Nat) => ldJ S40 a45 (nI f) fun (v47 : Int64) => cl (f_X0_enterBalance S40 a41 (nI f) v47) fun (S48 : St) => lt (gR S48 (ad b) 5) fun (a49 : Nat) => lt (gR S48 (ad b) 2) fun (a51 : Nat) => cl (f_X6_salesTogether S48 a51 (nI f)) fun (v53 : Int64) => cl (f_X0_enterSales S48 a49 (nI f) v53) fun (S54 : St) => K S54) = K S') ∧ MKw S S' ad b v (bl2 v mo f) np nf no mo ∧ (∀ i, gJ S' (ad (b + 34)) i = if i = 7 * (8 * mo + f) + 6 then bl2 v mo f (58 + 16 * f + 4) else gJ S (ad (b + 34)) i) ∧ ∀ i, gJ S' (ad (b + 33)) i = if i = 8 * mo + f then sls v no (nI f) 100 else gJ S (ad (b + 33)) i := by
  have h8 := c.hf
  have h16 := c.ho
  have f8 : f < 8 := by omega
  have hb := c.hb
  have hb2 := c.2.1
  obtain ⟨S1, hx, m1, q34, q33⟩ := C_finish c hm hf eg hg
  have c1 := m1.cv c
  have e4 : bl2 v mo f (58 + 16 * f + 4) = tfW v mo f (58 + 16 * f + 4) := by unfold bl2; rw [udt_n (by omega)]
  generalize hw : tfW v mo f (58 + 16 * f + 4) = w at e4
  have m2 : MKw S1 (uJ S1 (ad (b + 34)) (7 * (8 * mo + f) + 6) w) ad b (tfW v mo f) (bl2 v mo f) np nf no mo := by
    refine MKw_row c1 hm (Ch_uJ c1.t ⟨34, by omega, rfl⟩) (fun i hi => by rw [gJ_n c1.t, if_neg (by omega)]) (fun i hi => by rw [gJ_n c1.t, if_neg (by omega)]) (fun i hi => ?_)
    unfold rowI at hi; unfold bl2; rw [udt_n (by omega)]
  have c2 := m2.cv c1
  have es : sls (bl2 v mo f) no (nI f) 100 = sls v no (nI f) 100 := sls_w (fun i hi => by unfold bl2; rw [udt_n (by omega), tfW_n (by omega)]) c.ho _ _
  have m3 : MKw (uJ S1 (ad (b + 34)) (7 * (8 * mo + f) + 6) w) (uJ (uJ S1 (ad (b + 34)) (7 * (8 * mo + f) + 6) w) (ad (b + 33)) (8 * mo + f) (sls v no (nI f) 100)) ad b (bl2 v mo f) (bl2 v mo f) np nf no mo := by
    refine MKw_row c2 hm (Ch_uJ c2.t ⟨33, by omega, rfl⟩) (fun i hi => by rw [gJ_n c2.t, if_neg (by omega)]) (fun i hi => by rw [gJ_n c2.t, if_neg (by omega)]) (fun i hi => rfl)
  refine ⟨_, fun K => ?_, (m1.trans m2).trans m3, fun i => ?_, fun i => ?_⟩
  · have e26 : gJ S1 (ad (b + 26)) f = w := by rw [← hw]; exact ((c1.F f hf).2.2.2.1).symm
    have eb : f_X0_enterBalance S1 (ad (b + 6)) (nI f) w = some (uJ S1 (ad (b + 34)) (7 * (8 * mo + f) + 6) w) := by
      simp only [f_X0_enterBalance, f_X0_rowOf, lt_n, cl_n, r_b6_1 c1.t hb, c1.B.1]
      rw [um8, nI_add, um7, show (6 : Int32) = nI 6 from rfl, nI_add, show (mo * 8 + f) * 7 + 6 = 7 * (8 * mo + f) + 6 by omega, sb34 c1.t hb (by omega)]
    have esl : f_X0_enterSales (uJ S1 (ad (b + 34)) (7 * (8 * mo + f) + 6) w) (ad (b + 6)) (nI f) (sls v no (nI f) 100) = some (uJ (uJ S1 (ad (b + 34)) (7 * (8 * mo + f) + 6) w) (ad (b + 33)) (8 * mo + f) (sls v no (nI f) 100)) := by
      simp only [f_X0_enterSales, f_X0_rowOf, lt_n, cl_n, r_b6_0 c2.t hb, c2.B.1]
      rw [um8, nI_add, Nat.mul_comm mo 8, sb33 c2.t hb (by omega)]
    simp only [hx, cl_n, lt_n, r_b0_5 c1.t hb, r_b0_3 c1.t hb, r_b4_7 c1.t hb, lb26 c1.t hb f8, e26, eb, r_b0_5 c2.t hb, r_b0_2 c2.t hb, C_together c2, es, esl]
  · rw [gJ_i c.t.1, if_neg (by omega), gJ_i c.t.1, q34, e4]
    simp
  · rw [gJ_i c.t.1, gJ_i c.t.1, q33]
    by_cases e : i = 8 * mo + f
    · rw [if_pos ⟨rfl, e⟩, if_pos e]
    · rw [if_neg (fun h => e h.2), if_neg (by omega), if_neg e]
theorem M_step2 (c : CV S ad b v np nf no mo) (h : Mv X ad v np nf no mo) (hm : mo < 60) {f : Nat} (hf : f < nf) (k : Int32 → St → Option (Int32 × St)) : (cl (f_X12_of X (ad 1) (nI f) 9) fun (v60 : Int64) => jn (κ := St → Option (Int32 × St)) (fun S61 => lt (gR S61 (ad 1) 0) fun (a64 : Nat) => cl (f_X12_invoiceRow S61 (ad 1) (nI f) (nI mo)) fun (v66 : Int32) => cl (f_X12_of S61 (ad 1) (nI f) 4) fun (v67 : Int64) => stJ S61 a64 (v66 + 6) v67 fun (S68 : St) => k (nI f + 1) S68) fun k62 => if v60 = 2 then (cl (f_X12_isDelayOver X (ad 1) (nI f)) fun (v69 : Int32) => if v69 = 0 then (k62 X) else (cl (f_X12_doTransfer X (ad 1) (nI f)) fun (S70 : St) => k62 S70)) else (k62 X)) = k (nI (f + 1)) (qJ X (ad 3) (bl2 v mo f)) := by
  have h8 := c.hf
  have f8 : f < 8 := by omega
  have eX : X = qJ X (ad 3) v := by rw [← h.2.1, qJ_self]
  have J0 : ∀ u : Nat → Int64, (∀ i, i < 4 → u i = v i) → Mv (qJ X (ad 3) u) ad u np nf no mo := fun u hu => Mv_q h (hu 1 (by omega)) (hu 2 (by omega)) (hu 3 (by omega)) (hu 0 (by omega))
  have fin : ∀ u : Nat → Int64, (∀ i, i < 4 → u i = v i) → (lt (gR (qJ X (ad 3) u) (ad 1) 0) fun (a64 : Nat) => cl (f_X12_invoiceRow (qJ X (ad 3) u) (ad 1) (nI f) (nI mo)) fun (v66 : Int32) => cl (f_X12_of (qJ X (ad 3) u) (ad 1) (nI f) 4) fun (v67 : Int64) => stJ (qJ X (ad 3) u) a64 (v66 + 6) v67 fun (S68 : St) => k (nI f + 1) S68) = k (nI (f + 1)) (qJ X (ad 3) (udt u (1694 + 7 * (8 * mo + f) + 6) (u (58 + 16 * f + 4)))) := by
    intro u hu
    have hM := J0 u hu
    simp only [lt_n, r_1_0 hM.1, M_invRow, cl_n, M_of4 hM f8, nI_1]
    rw [show (6 : Int32) = nI 6 from rfl, nI_add, st3 h.1 (by omega)]
  rw [M_of9 h f8, cl_n]
  refine (jn_n _ _).trans ?_
  have fin0 := fin v (fun _ _ => rfl)
  rw [← eX] at fin0
  by_cases hst : v (58 + 16 * f + 9) = 2
  · have ho : opn v f = true := by unfold opn; rw [decide_eq_true hst, Bool.or_true]
    rw [if_pos hst, M_delay c h hf ho, cl_n]
    by_cases hd : dlf v mo f = 0
    · have hC : tfC v mo f = true := by unfold tfC; rw [decide_eq_true hst, decide_eq_true hd]; rfl
      have eT : tfW v mo f = tfV v f := by unfold tfW; rw [hC, if_pos rfl]
      have ht : f_X12_doTransfer X (ad 1) (nI f) = some (qJ X (ad 3) (tfV v f)) := by
        have b1 := J0 (udt v (58 + 16 * f + 9) 4) (fun i hi => udt_n (by omega))
        have b2 := J0 (udt (udt v (58 + 16 * f + 9) 4) (58 + 16 * f + 2) (v (58 + 16 * f + 10))) (fun i hi => by rw [udt_n (by omega), udt_n (by omega)])
        have b3 := J0 (udt (udt (udt v (58 + 16 * f + 9) 4) (58 + 16 * f + 2) (v (58 + 16 * f + 10))) (58 + 16 * f + 5) (v (58 + 16 * f + 5) + 1)) (fun i hi => by rw [udt_n (by omega), udt_n (by omega), udt_n (by omega)])
        have b4 := J0 (udt (udt (udt (udt v (58 + 16 * f + 9) 4) (58 + 16 * f + 2) (v (58 + 16 * f + 10))) (58 + 16 * f + 5) (v (58 + 16 * f + 5) + 1)) (58 + 16 * f + 6) 0) (fun i hi => by rw [udt_n (by omega), udt_n (by omega), udt_n (by omega), udt_n (by omega)])
        have s1 : uJ X (ad 3) (58 + 16 * f + 9) 4 = qJ X (ad 3) (udt v (58 + 16 * f + 9) 4) := by
          conv => lhs; rw [eX, uJ_qJ]
        simp only [f_X12_doTransfer, M_set h f8 (q := 9) (i := 9) (by decide) rfl, cl_n, s1, M_of10 b1 f8, M_set b1 f8 (q := 2) (i := 2) (by decide) rfl, uJ_qJ]
        rw [udt_n (show 58 + 16 * f + 10 ≠ 58 + 16 * f + 9 by omega)]
        rw [M_add b2 f8 (q := 5) (i := 5) (by decide) rfl, udt_n (show 58 + 16 * f + 5 ≠ 58 + 16 * f + 2 by omega), udt_n (show 58 + 16 * f + 5 ≠ 58 + 16 * f + 9 by omega), uJ_qJ, cl_n]
        simp only [M_set b3 f8 (q := 6) (i := 6) (by decide) rfl, uJ_qJ, cl_n, lt_n, r_1_0 b4.1, ld_8 b4]
        rw [M_add b4 f8 (q := 4) (i := 4) (by decide) rfl, uJ_qJ, cl_n]
        unfold tfV
        rw [udt_n (show 58 + 16 * f + 4 ≠ 58 + 16 * f + 6 by omega), udt_n (show 58 + 16 * f + 4 ≠ 58 + 16 * f + 5 by omega), udt_n (show 58 + 16 * f + 4 ≠ 58 + 16 * f + 2 by omega), udt_n (show 58 + 16 * f + 4 ≠ 58 + 16 * f + 9 by omega), udt_n (show 8 ≠ 58 + 16 * f + 6 by omega), udt_n (show 8 ≠ 58 + 16 * f + 5 by omega), udt_n (show 8 ≠ 58 + 16 * f + 2 by omega), udt_n (show 8 ≠ 58 + 16 * f + 9 by omega)]
      simp only [hd, decide_true, bI_t, i10, if_false, ht, cl_n]
      unfold bl2
      rw [eT]
      exact fin (tfV v f) (fun i hi => by unfold tfV; rw [udt_n (by omega), udt_n (by omega), udt_n (by omega), udt_n (by omega), udt_n (by omega)])
    · have hC : tfC v mo f = false := by unfold tfC; rw [decide_eq_false hd, Bool.and_false]
      have eT : tfW v mo f = v := by unfold tfW; rw [hC]; rfl
      simp only [hd, decide_false, bI_f, if_true]
      unfold bl2
      rw [eT]
      exact fin0
  · have hC : tfC v mo f = false := by unfold tfC; rw [decide_eq_false hst, Bool.false_and]
    have eT : tfW v mo f = v := by unfold tfW; rw [hC]; rfl
    rw [if_neg hst]
    unfold bl2
    rw [eT]
    exact fin0
