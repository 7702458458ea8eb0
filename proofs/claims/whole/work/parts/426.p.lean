/-! the pure part: pay, setPlan, withdraw, exercise, requestTransfer -/
variable {S S1 S' S'' S3 : St} {ad : Nat → Nat} {b d j k : Nat} {v v' : Nat → Int64} {np nf no mo no' mo' : Nat}
theorem M_payOk (h : Mv S' ad v np nf no mo) {f : Nat} (hB : vin (nI f) nf = true) (f8 : f < 8) {s : Int64} (hC : amt s = true) : f_X12_pay S' (ad 1) (nI f) s = some (v (58 + 16 * f + 4) - s, uJ (uI S' (ad 1) 2 0) (ad 3) (58 + 16 * f + 4) (v (58 + 16 * f + 4) - s)) := by
  have h1 := Mv_t h (ad 1) 2 0
  have h2 := Mv_3 h1 (k := 58 + 16 * f + 4) (w := v (58 + 16 * f + 4) - s) (by omega)
  simp only [f_X12_pay, lt_e, M_isFr h1, cl_s, jn_e, if_bI, hB, hC, M_rngAm, M_throws0, if_true, M_add h1 f8 (q := 4) (i := 4) (by decide) rfl, ← Int64.sub_eq_add_neg, M_of4 h2 f8, udt_e]
theorem Q_pay (c : CV S ad b v np nf no mo) (p : Int32) (s : Int64) : QM S ad b v np nf no mo [(1, 1), (2, 2)] (f_X11_pay S (ad 0) p s) (fun S' => f_X12_pay S' (ad 1) p s) := by
  have hf8 := c.hf
  cases hB : vin p nf
  · refine Or.inr ⟨1, 1, by simp, by simp [f_X11_pay, C_reqF c, hB, clx_r], fun S' h => ⟨0, ?_⟩⟩
    simp [f_X12_pay, lt_e, M_isFr (Mv_t h (ad 1) 2 0), cl_s, jn_e, if_bI, hB, M_throws1, uI_uI]
  · cases hC : amt s
    · refine Or.inr ⟨2, 2, by simp, by simp [f_X11_pay, C_reqF c, hB, clx_l, C_reqAm, hC, clx_r], fun S' h => ⟨0, ?_⟩⟩
      simp [f_X12_pay, lt_e, M_isFr (Mv_t h (ad 1) 2 0), M_rngAm, hC, cl_s, jn_e, if_bI, hB, M_throws0, M_throws1, uI_uI]
    · obtain ⟨f, hf, rfl⟩ := vin_of (by omega) hB
      refine Or.inl ⟨_, _, _, no, mo, ?_, MK_bal c hf (v (58 + 16 * f + 4) - s), fun S' h => ⟨_, M_payOk h hB (by omega) hC, RK_3 (RK.rf h) h.1⟩⟩
      simp only [f_X11_pay, C_reqF c, hB, if_true, clx_l, C_reqAm, hC, lt_e, c.r, r_b0_3 c.t c.hb, C_lower c hf, cl_s]
theorem MK_plan (c : CV S ad b v np nf no mo) {f p : Nat} (hf : f < nf) (hp : p < np) : MK S (uI S (ad (b + 21)) f (nI p)) ad b v (udt v (58 + 16 * f + 1) (lN p)) np nf no mo := by
  have h8 := c.hf
  have h4 := c.hp
  have f8 : f < 8 := by omega
  have hv : ∀ i, (i < 58 ∨ 186 ≤ i) → udt v (58 + 16 * f + 1) (lN p) i = v i := fun i hi => by
    rcases hi with hi | hi
    · exact udt_lo hi
    · exact udt_hi f8 (by decide) hi
  have hn : ∀ g q, g < nf → q < 16 → q ≠ 1 → udt v (58 + 16 * f + 1) (lN p) (58 + 16 * g + q) = v (58 + 16 * g + q) := fun g q hg hq hq1 => by rw [udt_f hq (by decide), if_neg (by omega)]
  refine MK_F c (Ch_uI c.t (by omega) ⟨21, by omega, rfl⟩) hv (fun g q hg hq => hn g q hg (by omega) (by omega)) ?_ (fun g hg => ?_) ?_
  · have w := c.w
    have w2 := WF_w (v' := udt v (58 + 16 * f + 1) (v (58 + 16 * f + 1))) (fun i hi => by unfold udt; by_cases e : i = 58 + 16 * f + 1 <;> simp [e]) (fun g q hg hq => by unfold udt; by_cases e : 58 + 16 * g + q = 58 + 16 * f + 1 <;> simp [e]) (fun i hi => by unfold udt; by_cases e : 1150 + 9 * i = 58 + 16 * f + 1 <;> simp [e]) c.hp c.hf c.ho c.hm w
    obtain ⟨a1, ap, af, ao, ac, ad0, as, ar⟩ := w
    refine ⟨?_, fun q hq => by rw [hv _ (by omega)]; exact ap q hq, fun g hg => ?_, fun o ho => ?_, fun c' hc => by rw [hv _ (by omega)]; exact ac c' hc, fun i hi => by rw [hv _ (by omega)]; exact ad0 i hi, ?_, fun k g hk hg => by rw [hv _ (by omega)]; exact ar k g hk hg⟩
    · rw [hv 4 (by omega), hv 5 (by omega), hv 6 (by omega), hv 7 (by omega), hv 8 (by omega), hv 9 (by omega)]; exact a1
    · obtain ⟨b1, b2, b3, b4⟩ := af g hg
      refine ⟨?_, by rw [hn g 5 hg (by decide) (by decide)]; exact b2, by rw [hn g 6 hg (by decide) (by decide)]; exact b3, by rw [hn g 7 hg (by decide) (by decide)]; exact b4⟩
      by_cases e : g = f
      · subst e; exact ⟨p, hp, udt_e _ _ _⟩
      · rw [udt_f (by decide) (by decide), if_neg (by omega)]; exact b1
    · obtain ⟨⟨x, y, hx, hy, e1, e2, e3⟩, s, hs, e4⟩ := ao o ho
      refine ⟨⟨x, y, hx, hy, by rw [hv _ (by omega)]; exact e1, by rw [hv _ (by omega)]; exact e2, ?_⟩, s, hs, by rw [hv _ (by omega)]; exact e4⟩
      rw [hv (186 + 4 * o + 0) (by omega), hv (250 + (30 * y + x)) (by omega)]; exact e3
    · rw [hv 11 (by omega), hv 12 (by omega), hv 13 (by omega)]; exact as
  · have a := c.F g hg
    rw [hn g 2 hg (by decide) (by decide), hn g 3 hg (by decide) (by decide), hn g 4 hg (by decide) (by decide), hn g 5 hg (by decide) (by decide), hn g 6 hg (by decide) (by decide), udt_f (show (1 : Nat) < 16 by decide) (by decide)]
    simp only [gI_n c.t, gJ_uI]
    by_cases e : g = f
    · subst e
      simp [a, nI_l (show p < 2 ^ 31 by omega)]
    · simp [e, a]
  · exact AXR_w (fun g q hg hq => hn g q hg (by omega) (by omega)) (AXR_c (fun q hq => Ag_uI c.t (by omega)) c.R)
theorem Q_setPlan (c : CV S ad b v np nf no mo) (p q : Int32) : QM S ad b v np nf no mo [(1, 1)] (f_X11_setPlan S (ad 0) p q) (fun S' => f_X12_setPlan S' (ad 1) p q) := by
  have hf8 := c.hf
  have hp4 := c.hp
  cases hB : vin p nf
  · refine Or.inr ⟨1, 1, by simp, by simp [f_X11_setPlan, C_reqF c, hB, clx_r], fun S' h => ⟨0, ?_⟩⟩
    simp [f_X12_setPlan, lt_e, M_isFr (Mv_t h (ad 1) 2 0), cl_s, jn_e, if_bI, hB, M_throws1, uI_uI]
  · cases hC : vin q np
    · refine Or.inr ⟨1, 1, by simp, by simp [f_X11_setPlan, C_reqF c, hB, clx_l, C_reqP c, hC, clx_r], fun S' h => ⟨0, ?_⟩⟩
      simp [f_X12_setPlan, lt_e, M_isFr (Mv_t h (ad 1) 2 0), M_isPl (Mv_t h (ad 1) 2 0), hC, cl_s, jn_e, if_bI, hB, M_throws1, uI_uI]
    · obtain ⟨f, hf, rfl⟩ := vin_of (by omega) hB
      obtain ⟨g, hg, rfl⟩ := vin_of (by omega) hC
      have f8 : f < 8 := by omega
      refine Or.inl ⟨gI S (ad (b + 21)) f, _, _, no, mo, ?_, MK_plan c hf hg, fun S' h => ⟨_, ?_, RK_3 (RK.rf h) h.1⟩⟩
      · simp only [f_X11_setPlan, C_reqF c, hB, if_true, clx_l, C_reqP c, hC, lt_e, c.r, r_b0_3 c.t c.hb, r_b4_2 c.t c.hb, lb21 c.t c.hb f8, sb21 c.t c.hb f8]
      · have h1 := Mv_t h (ad 1) 2 0
        simp only [f_X12_setPlan, f_X12_planNow, lt_e, M_isFr h1, M_isPl h1, hC, cl_s, jn_e, if_bI, hB, M_throws0, if_true, M_of1 h1 f8, (c.F f hf).1, tl_i, M_set h1 f8 (q := 1) (i := 1) (by decide) rfl, nI_l (show g < 2 ^ 31 by omega)]
/-! ends of transfers -/
theorem AXR_state (c : CV S ad b v np nf no mo) {f : Nat} (hf : f < nf) (w : Int32) (hw : ¬ w = 1 ∧ ¬ w = 2 ∨ (w = 2 ∧ opn v f = true)) : AXR (uI S (ad (b + 27)) f w) ad b (udt v (58 + 16 * f + 9) w.toInt64) nf mo := by
  intro g hg
  have a := c.R g hg
  have hn : ∀ q, q < 16 → q ≠ 9 → udt v (58 + 16 * f + 9) w.toInt64 (58 + 16 * g + q) = v (58 + 16 * g + q) := fun q hq hq1 => by rw [udt_f hq (by decide), if_neg (by omega)]
  rw [hn 10 (by decide) (by decide), hn 11 (by decide) (by decide), hn 12 (by decide) (by decide), hn 13 (by decide) (by decide), hn 14 (by decide) (by decide), hn 15 (by decide) (by decide), udt_f (show (9 : Nat) < 16 by decide) (by decide)]
  simp only [gI_n c.t, gJ_uI]
  by_cases e : g = f
  · subst e
    have n29 : ¬ (b + 29 = b + 27) := by omega
    have n28 : ¬ (b + 28 = b + 27) := by omega
    have n31 : ¬ (b + 31 = b + 27) := by omega
    have n32 : ¬ (b + 32 = b + 27) := by omega
    simp only [and_self, if_true, n29, n28, n31, n32, false_and, if_false]
    refine ⟨trivial, fun h => ?_, fun h => ?_⟩
    · rcases hw with hw | hw
      · rcases h with h | h
        · exact absurd h hw.1
        · exact absurd h hw.2
      · exact a.2.1 ((opn_iff c hf).mp hw.2)
    · rcases hw with hw | hw
      · exact absurd h hw.1
      · rw [hw.1] at h; exact absurd h (by decide)
  · simp only [e, false_and, and_false, if_false]
    exact a
theorem MK_state (c : CV S ad b v np nf no mo) {f : Nat} (hf : f < nf) (w : Int32) (hw : ¬ w = 1 ∧ ¬ w = 2 ∨ (w = 2 ∧ opn v f = true)) : MK S (uI S (ad (b + 27)) f w) ad b v (udt v (58 + 16 * f + 9) w.toInt64) np nf no mo := by
  have h8 := c.hf
  have f8 : f < 8 := by omega
  have hn : ∀ g q, q < 16 → q ≠ 9 → udt v (58 + 16 * f + 9) w.toInt64 (58 + 16 * g + q) = v (58 + 16 * g + q) := fun g q hq hq1 => by rw [udt_f hq (by decide), if_neg (by omega)]
  refine MK_F2 c (Ch_uI c.t (by omega) ⟨27, by omega, rfl⟩) (fun i hi => ?_) (fun g q hg hq => hn g q (by omega) (by omega)) ?_ (AXR_state c hf w hw)
  · rcases hi with hi | hi
    · exact udt_lo hi
    · exact udt_hi f8 (by decide) hi
  · exact AXF_w (fun g q hg hq => hn g q (by omega) (by omega)) (AXF_c (fun q hq => Ag_uI c.t (by omega)) c.F)
theorem C_endOpen (c : CV S ad b v np nf no mo) {f : Nat} (hf : f < nf) (w : Int32) : f_X10_endOpen S (ad (b + 5)) (nI f) w = if opn v f then some (1, uI S (ad (b + 27)) f w) else some (0, S) := by
  have h8 := c.hf
  simp only [f_X10_endOpen, C_openT c hf, cl_s, if_bI, lt_e, r_b5_0 c.t c.hb, sb27 c.t c.hb (show f < 8 by omega)]
theorem Q_withdraw (c : CV S ad b v np nf no mo) (p : Int32) : QM S ad b v np nf no mo [(1, 1)] (f_X11_withdraw S (ad 0) p) (fun S' => f_X12_withdraw S' (ad 1) p) := by
  have hf8 := c.hf
  cases hB : vin p nf
  · refine Or.inr ⟨1, 1, by simp, by simp [f_X11_withdraw, C_reqF c, hB, clx_r], fun S' h => ⟨0, ?_⟩⟩
    simp [f_X12_withdraw, lt_e, M_isFr (Mv_t h (ad 1) 2 0), cl_s, jn_e, if_bI, hB, M_throws1, uI_uI]
  · obtain ⟨f, hf, rfl⟩ := vin_of (by omega) hB
    have f8 : f < 8 := by omega
    cases ho : opn v f
    · refine Or.inl ⟨0, S, v, no, mo, ?_, MK.rf c, fun S' h => ⟨_, ?_, RK.rf h⟩⟩
      · simp [f_X11_withdraw, C_reqF c, hB, clx_l, lt_e, c.r, r_b0_4 c.t c.hb, C_endOpen c hf, ho, cl_s, zc_0]
      · have h1 := Mv_t h (ad 1) 2 0
        simp [f_X12_withdraw, lt_e, M_isFr h1, cl_s, jn_e, if_bI, hB, M_throws0, M_openT h1 f8, ho]
    · refine Or.inl ⟨1, _, _, no, mo, ?_, MK_state c hf 0 (Or.inl (by decide)), fun S' h => ⟨_, ?_, RK_3 (RK.rf h) h.1⟩⟩
      · simp only [f_X11_withdraw, C_reqF c, hB, if_true, clx_l, lt_e, c.r, r_b0_4 c.t c.hb, C_endOpen c hf, ho, cl_s, zc_1]
      · have h1 := Mv_t h (ad 1) 2 0
        simp only [f_X12_withdraw, lt_e, M_isFr h1, cl_s, jn_e, if_bI, hB, M_throws0, M_openT h1 f8, ho, if_true, M_set h1 f8 (q := 9) (i := 9) (by decide) rfl, tl_0]
/-- two steps of a change -/
theorem MK.trans {v1 v2 : Nat → Int64} {S2 : St} (m : MK S S1 ad b v v1 np nf no' mo') (m2 : MK S1 S2 ad b v1 v2 np nf no mo) : MK S S2 ad b v v2 np nf no mo :=
  ⟨m.1.tr m2.1, m2.2.1, m2.2.2.1, ⟨fun i hi => (m2.2.2.2.1.1 i hi).trans (m.2.2.2.1.1 i hi), fun f hf => (m2.2.2.2.1.2 f hf).trans (m.2.2.2.1.2 f hf)⟩, fun i hi => (m2.2.2.2.2.1 i hi).trans (m.2.2.2.2.1 i hi), m2.2.2.2.2.2.1, m2.2.2.2.2.2.2.1, m2.2.2.2.2.2.2.2.1, m2.2.2.2.2.2.2.2.2.1, fun k e hk w => m2.2.2.2.2.2.2.2.2.2 mo' m.2.2.2.2.2.2.1 m.2.2.2.2.2.2.2.2.1 (m.2.2.2.2.2.2.2.2.2 k e hk w)⟩
theorem MK_status (c : CV S ad b v np nf no mo) {f : Nat} (hf : f < nf) (w : Int32) : MK S (uI S (ad (b + 23)) f w) ad b v (udt v (58 + 16 * f + 3) w.toInt64) np nf no mo := by
  have h8 := c.hf
  have f8 : f < 8 := by omega
  have hn : ∀ g q, q < 16 → q ≠ 3 → udt v (58 + 16 * f + 3) w.toInt64 (58 + 16 * g + q) = v (58 + 16 * g + q) := fun g q hq hq1 => by rw [udt_f hq (by decide), if_neg (by omega)]
  refine MK_F2 c (Ch_uI c.t (by omega) ⟨23, by omega, rfl⟩) (fun i hi => ?_) (fun g q hg hq => hn g q (by omega) (by omega)) (fun g hg => ?_) ?_
  · rcases hi with hi | hi
    · exact udt_lo hi
    · exact udt_hi f8 (by decide) hi
  · have a := c.F g hg
    rw [hn g 1 (by decide) (by decide), hn g 2 (by decide) (by decide), hn g 4 (by decide) (by decide), hn g 5 (by decide) (by decide), hn g 6 (by decide) (by decide), udt_f (show (3 : Nat) < 16 by decide) (by decide)]
    simp only [gI_n c.t, gJ_uI]
    by_cases e : g = f
    · subst e; simp [a]
    · simp [e, a]
  · exact AXR_w (fun g q hg hq => hn g q (by omega) (by omega)) (AXR_c (fun q hq => Ag_uI c.t (by omega)) c.R)
theorem C_delayX (c : CV S ad b v np nf no mo) {f : Nat} (hf : f < nf) : ∃ w, f_X1_monthsOfDelayLeft S (ad b) (nI f) = some w := by
  have h8 := c.hf
  simp only [f_X1_monthsOfDelayLeft, lt_e, r_b0_0 c.t c.hb, r_b0_5 c.t c.hb, r_b0_4 c.t c.hb, r_b5_1 c.t c.hb, lb28 c.t c.hb (show f < 8 by omega)]
  exact ⟨_, rfl⟩
theorem Q_exercise (c : CV S ad b v np nf no mo) (p : Int32) : QM S ad b v np nf no mo [(1, 1)] (f_X11_exercise S (ad 0) p) (fun S' => f_X12_exercise S' (ad 1) p) := by
  have hf8 := c.hf
  cases hB : vin p nf
  · refine Or.inr ⟨1, 1, by simp, by simp [f_X11_exercise, C_reqF c, hB, clx_r], fun S' h => ⟨0, ?_⟩⟩
    simp [f_X12_exercise, lt_e, M_isFr (Mv_t h (ad 1) 2 0), cl_s, jn_e, if_bI, hB, M_throws1, uI_uI]
  · obtain ⟨f, hf, rfl⟩ := vin_of (by omega) hB
    have f8 : f < 8 := by omega
    cases ho : opn v f
    · refine Or.inl ⟨0, S, v, no, mo, ?_, MK.rf c, fun S' h => ⟨_, ?_, RK.rf h⟩⟩
      · obtain ⟨w, hw⟩ := C_delayX c hf
        simp only [f_X11_exercise, C_reqF c, hB, if_true, clx_l, lt_e, c.r, f_X1_takeOver, hw, cl_s, r_b0_4 c.t c.hb, C_endOpen c hf, ho]
        by_cases h0 : w = 0 <;> simp [h0, cl_s, zc_0]
      · have h1 := Mv_t h (ad 1) 2 0
        simp [f_X12_exercise, lt_e, M_isFr h1, cl_s, jn_e, if_bI, hB, M_throws0, M_openT h1 f8, ho]
    · by_cases hd : dlf v mo f = 0
      · refine Or.inl ⟨0, S, v, no, mo, ?_, MK.rf c, fun S' h => ⟨_, ?_, RK.rf h⟩⟩
        · simp [f_X11_exercise, C_reqF c, hB, clx_l, lt_e, c.r, f_X1_takeOver, C_delay c hf ho, hd, nI_0, cl_s, zc_0]
        · have h1 := Mv_t h (ad 1) 2 0
          simp [f_X12_exercise, lt_e, M_isFr h1, cl_s, jn_e, if_bI, hB, M_throws0, M_openT h1 f8, ho, M_delay c h1 hf ho, hd]
      · have hd31 : dlf v mo f < 2 ^ 31 := by
          obtain ⟨t, ht, e9⟩ := c.w.1.2.2.2.2.2
          unfold dlf; rw [e9, lN_toInt (by omega)]; omega
        have hnz : ¬ nI (dlf v mo f) = 0 := nI_ne0 (by omega) hd31
        have m1 := MK_state c hf 5 (Or.inl (by decide))
        have c1 := m1.cv c
        have m2 := MK_status c1 hf 2
        have c2 := m2.cv c1
        have m3 := MK_bal c2 hf (v (58 + 16 * f + 4) - v (58 + 16 * f + 11))
        have e4 : udt (udt v (58 + 16 * f + 9) (Int32.toInt64 5)) (58 + 16 * f + 3) (Int32.toInt64 2) (58 + 16 * f + 4) = v (58 + 16 * f + 4) := by
          rw [udt_n (by omega), udt_n (by omega)]
        have e11 : v (58 + 16 * f + 11) = gJ S (ad (b + 30)) f := ((c.R f hf).2.1 ((opn_iff c hf).mp ho)).2.1
        refine Or.inl ⟨1, uJ (uI (uI S (ad (b + 27)) f 5) (ad (b + 23)) f 2) (ad (b + 26)) f (v (58 + 16 * f + 4) - v (58 + 16 * f + 11)), udt (udt (udt v (58 + 16 * f + 3) 2) (58 + 16 * f + 9) 5) (58 + 16 * f + 4) (v (58 + 16 * f + 4) - v (58 + 16 * f + 11)), no, mo, ?_, ?_, fun S' h => ⟨_, ?_, RK_3 (RK_3 (RK_3 (RK.rf h) h.1) h.1) h.1⟩⟩
        · have hl := C_lower c2 hf (v (58 + 16 * f + 11))
          rw [e4] at hl
          simp only [f_X11_exercise, C_reqF c, hB, if_true, clx_l, lt_e, c.r, f_X1_takeOver, C_delay c hf ho, cl_s, hnz, if_false, r_b0_4 c.t c.hb, C_endOpen c hf, ho, i10, r_b0_3 c1.t c.hb, r_b4_4 c1.t c.hb, sb23 c1.t c.hb f8, r_b0_3 c2.t c.hb, r_b0_4 c2.t c.hb, r_b5_3 c2.t c.hb, lb30 c2.t c.hb f8, gJ_uI, ← e11, hl, zc_1]
        · have := (m1.trans m2).trans m3
          have ev : udt (udt (udt v (58 + 16 * f + 9) (Int32.toInt64 5)) (58 + 16 * f + 3) (Int32.toInt64 2)) (58 + 16 * f + 4) (v (58 + 16 * f + 4) - v (58 + 16 * f + 11)) = udt (udt (udt v (58 + 16 * f + 3) 2) (58 + 16 * f + 9) 5) (58 + 16 * f + 4) (v (58 + 16 * f + 4) - v (58 + 16 * f + 11)) := by
            funext i
            unfold udt
            by_cases h4 : i = 58 + 16 * f + 4
            · simp [h4]
            · by_cases h3 : i = 58 + 16 * f + 3
              · simp [h3]
              · by_cases h9 : i = 58 + 16 * f + 9
                · simp [h9]
                · simp [h3, h4, h9]
          rw [ev] at this
          exact this
        · have h1 := Mv_t h (ad 1) 2 0
          have h2 := Mv_3 h1 (k := 58 + 16 * f + 3) (w := 2) (by omega)
          have h3 := Mv_3 h2 (k := 58 + 16 * f + 9) (w := 5) (by omega)
          simp only [f_X12_exercise, lt_e, M_isFr h1, cl_s, jn_e, if_bI, hB, M_throws0, M_openT h1 f8, ho, if_true, M_delay c h1 hf ho, hd, decide_false, Bool.false_eq_true, if_false, M_set h1 f8 (q := 3) (i := 3) (by decide) rfl, M_set h2 f8 (q := 9) (i := 9) (by decide) rfl, M_of11 h3 f8, M_add h3 f8 (q := 4) (i := 4) (by decide) rfl, ← Int64.sub_eq_add_neg]
          rw [udt_n (show 58 + 16 * f + 4 ≠ 58 + 16 * f + 9 by omega), udt_n (show 58 + 16 * f + 4 ≠ 58 + 16 * f + 3 by omega), udt_n (show 58 + 16 * f + 11 ≠ 58 + 16 * f + 9 by omega), udt_n (show 58 + 16 * f + 11 ≠ 58 + 16 * f + 3 by omega)]
