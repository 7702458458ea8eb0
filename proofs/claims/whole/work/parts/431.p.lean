/-! the pure part: sales and deliveries -/
variable {S S1 S' S'' S3 : St} {ad : Nat → Nat} {b d j k : Nat} {v v' : Nat → Int64} {np nf no mo no' mo' : Nat}
/-- a business's change at the level below the ledger's calls -/
def BM {α : Type} (S : St) (ad : Nat → Nat) (b : Nat) (v : Nat → Int64) (np nf no mo : Nat) (X : Option (α × St)) (Y : St → Option (α × St)) : Prop :=
  ∃ w S1 v' no' mo', X = some (w, S1) ∧ MK S S1 ad b v v' np nf no' mo' ∧ ∀ S', Mv S' ad v np nf no mo → ∃ S3, Y S' = some (w, S3) ∧ RK S' S3 ad v'
theorem udt_o {o o0 q q0 : Nat} {w : Int64} (hq : q < 4) (hq0 : q0 < 4) : udt v (186 + 4 * o0 + q0) w (186 + 4 * o + q) = if o = o0 ∧ q = q0 then w else v (186 + 4 * o + q) := by
  unfold udt
  by_cases h : o = o0 ∧ q = q0
  · rw [if_pos h, if_pos (by omega)]
  · rw [if_neg h, if_neg (by omega)]
theorem MK_sales (c : CV S ad b v np nf no mo) {o n : Nat} (ho : o < no) (hn : n ≤ 10000000) : MK S (uJ S (ad (b + 18)) o (lN n)) ad b v (udt v (186 + 4 * o + 3) (lN n)) np nf no mo := by
  have h16 := c.ho
  have h8 := c.hf
  have h4 := c.hp
  have hm := c.hm
  have hb := c.2.1
  have hv : ∀ i, (i < 186 ∨ 250 ≤ i) → udt v (186 + 4 * o + 3) (lN n) i = v i := fun i hi => udt_n (by omega)
  have ch : Ch S (uJ S (ad (b + 18)) o (lN n)) ad (fun p => p = b + 18) := Ch_uJ c.t rfl
  have A : ∀ q, q ≠ 18 → Ag S (uJ S (ad (b + 18)) o (lN n)) ad (b + q) := fun q hq => ch.2.1 _ (by omega) (by omega)
  refine ⟨ch.mono (fun p e => Or.inr ⟨18, by unfold MQ2; omega, e⟩), ⟨?_, ⟨?_, fun o' ho' => ?_⟩, ?_, ?_, ?_⟩, ?_, ⟨fun i hi => hv i (by omega), fun f hf => hv _ (by omega)⟩, fun i hi => hv i (by omega), by rw [hv 3 (by omega)]; exact c.m.2.2.2.2.1, by rw [hv 0 (by omega)]; exact c.m.2.2.2.2.2.1, c.ho, c.hm, WS_k c (fun f q hf hq => hv _ (by omega)) (hv 11 (by omega))⟩
  · exact AXG_w (fun i hi => hv i (by omega)) (AXG_c (A 12 (by decide)) c.G)
  · rw [(A 3 (by decide) 4).1]; exact c.O.1
  · obtain ⟨a0, a1, a2, a3⟩ := c.O.2 o' ho'
    rw [udt_o (by decide) (by decide), udt_o (by decide) (by decide), udt_o (by decide) (by decide), udt_o (by decide) (by decide), gJ_n c.t]
    simp only [gI_uJ]
    by_cases e : o' = o
    · subst e; simp [a0, a1, a2, -Nat.add_zero]
    · simp [e, a0, a1, a2, a3, -Nat.add_zero]
  · exact AXF_w (fun f q hf hq => hv _ (by omega)) (AXF_c (fun q hq => A q (by omega)) c.F)
  · exact AXR_w (fun f q hf hq => hv _ (by omega)) (AXR_c (fun q hq => A q (by omega)) c.R)
  · exact AXB_w (fun i hi => hv i (by omega)) (fun f q hf hq => hv _ (by omega)) c.hf c.hm (AXB_c (fun q hq => A q (by omega)) c.B)
  · obtain ⟨a1, ap, af, ao, ac, ad0, as, ar⟩ := c.w
    refine ⟨?_, fun q hq => by rw [hv _ (by omega)]; exact ap q hq, fun g hg => ?_, fun o' ho' => ?_, fun c' hc => by rw [hv _ (by omega)]; exact ac c' hc, fun i hi => by rw [hv _ (by omega)]; exact ad0 i hi, ?_, fun k g hk hg => by rw [hv _ (by omega)]; exact ar k g hk hg⟩
    · rw [hv 4 (by omega), hv 5 (by omega), hv 6 (by omega), hv 7 (by omega), hv 8 (by omega), hv 9 (by omega)]; exact a1
    · rw [hv _ (by omega), hv _ (by omega), hv _ (by omega), hv _ (by omega)]; exact af g hg
    · obtain ⟨⟨x, y, hx, hy, e1, e2, e3⟩, s, hs, e4⟩ := ao o' ho'
      rw [udt_o (by decide) (by decide), udt_o (by decide) (by decide), udt_o (by decide) (by decide), udt_o (by decide) (by decide)]
      refine ⟨⟨x, y, hx, hy, by simp [e1], by simp [e2], ?_⟩, ?_⟩
      · rw [hv (250 + (30 * y + x)) (by omega), if_neg (by omega)]; exact e3
      · by_cases e : o' = o
        · exact ⟨n, hn, by simp [e]⟩
        · exact ⟨s, hs, by simp [e, e4]⟩
    · rw [hv 11 (by omega), hv 12 (by omega), hv 13 (by omega)]; exact as
theorem C_openM (c : CV S ad b v np nf no mo) : f_X0_hasOpenMonth S (ad (b + 6)) = some (bI (decide (mo < 60))) := by
  have hm := c.hm
  simp only [f_X0_hasOpenMonth, lt_e, jn_e, c.B.1]
  rw [if_neg (nI_pos (by omega))]
  by_cases h : mo < 60
  · rw [if_neg (ge60 h)]; simp [h, bI]
  · have e : mo = 60 := by omega
    subst e; rw [if_pos le60]; rfl
theorem M_over (h : Mv S ad v np nf no mo) : f_X12_isOver S (ad 1) = some (bI (decide (mo = 60))) := by
  have hm := h.2.2.2.2.2.2.2.2.2
  simp only [f_X12_isOver, lt_e, r_1_0 h.1, ld_0 h, h.2.2.2.2.2.1, bI_if]
  rw [show (60 : Int64) = lN 60 from rfl]
  simp only [lN_eq (show mo < 2 ^ 31 by omega) (show 60 < 2 ^ 31 by decide)]
theorem C_reqMo (c : CV S ad b v np nf no mo) : f_X11_requireOpenMonth S (ad 0) = if mo < 60 then some (.inl ()) else some (.inr 3) := by
  simp only [f_X11_requireOpenMonth, lt_e, c.r, r_b0_5 c.t c.hb, C_openM c, cl_s, if_bI]
  by_cases h : mo < 60 <;> simp [h]
theorem M_thr (S : St) (m : Nat) (w : Int32) (B : Bool) : f_X12_throwsIf S m (bI B) w = some (bI B, if B then uI S m 2 w else S) := M_throws S m w
theorem M_ooS (h : Mv S ad v np nf no mo) {o q : Nat} {i : Int32} {w : Int64} {β : Type} {k : St → Option β} (ho : o < 16) (hq : q < 4) (e : i = nI q) : stJ S (ad 3) (186 + 4 * nI o + i) w k = k (uJ S (ad 3) (186 + 4 * o + q) w) := by
  rw [e, mu4, ad186, nI_add, stJ_at (by rw [n_3 h.1]; omega) (by rw [n_3 h.1]; decide)]
theorem M_ooL (h : Mv S ad v np nf no mo) {o q : Nat} {i : Int32} {β : Type} {k : Int64 → Option β} (ho : o < 16) (hq : q < 4) (e : i = nI q) : ldJ S (ad 3) (186 + 4 * nI o + i) k = k (v (186 + 4 * o + q)) := by
  rw [e, mu4, ad186, nI_add, ldS h (by omega)]
def salR (s : Int64) : Bool := decide ((0 : Int64) ≤ s) && decide (s ≤ 10000000)
theorem sal_of {s : Int64} (h : salR s = true) : ∃ n, n ≤ 10000000 ∧ s = lN n := by
  rw [salR, Bool.and_eq_true, decide_eq_true_eq, decide_eq_true_eq] at h
  obtain ⟨n, hn, rfl⟩ := pk_lOf (Int64.not_lt.mpr h.1)
  refine ⟨n, ?_, rfl⟩
  have := h.2
  rw [show (10000000 : Int64) = lN 10000000 from rfl, pk_lLE hn (by decide)] at this
  exact this
theorem sal_cases {α : Type} (s : Int64) (x y : α) : (if s < 0 then x else if 10000000 < s then x else y) = if salR s then y else x := by
  rw [salR]
  by_cases h1 : s < 0
  · simp [h1, Int64.not_le.mpr h1]
  · by_cases h2 : 10000000 < s
    · simp [h1, h2, Int64.not_le.mpr h2]
    · simp [h1, h2, Int64.not_lt.mp h1, Int64.not_lt.mp h2]
theorem M_rngS (S : St) (s : Int64) : f_X12_inRange S s 0 10000000 = some (bI (salR s)) := M_inRange S s 0 10000000
theorem B_sales (c : CV S ad b v np nf no mo) {o n : Nat} (ho : o < no) (hn : n ≤ 10000000) (hm : mo < 60) : BM S ad b v np nf no mo (f_X6_replaceSales S (ad (b + 3)) (nI o) (lN n)) (fun S' => f_X12_reportSales S' (ad 1) (nI o) (lN n)) := by
  have h16 := c.ho
  have o16 : o < 16 := by omega
  have hB : vin (nI o) no = true := vin_nI ho (by omega)
  have hC : salR (lN n) = true := by
    rw [salR, Bool.and_eq_true, decide_eq_true_eq, decide_eq_true_eq, show (0 : Int64) = lN 0 from rfl, show (10000000 : Int64) = lN 10000000 from rfl, pk_lLE (by decide) (by omega), pk_lLE (by omega) (by decide)]
    omega
  have hmo : ¬ mo = 60 := by omega
  obtain ⟨a0, -, -, a3⟩ := c.O.2 o ho
  have e0 : (v (186 + 4 * o + 0) = -1) = (gI S (ad (b + 15)) o = -1) := by rw [a0, ← tl_m1, tl_eq]
  by_cases hx : gI S (ad (b + 15)) o = -1
  · refine ⟨-1, S, v, no, mo, ?_, MK.rf c, fun S' h => ⟨_, ?_, RK.rf h⟩⟩
    · simp only [f_X6_replaceSales, lt_e, r_b3_0 c.t c.hb, lb15 c.t c.hb o16, hx, if_true]
    · have h1 := Mv_t h (ad 1) 2 0
      simp only [f_X12_reportSales, lt_e, M_isOu h1, hB, cl_s, jn_n, if_bI, if_true, M_throws0, M_rngS, hC, M_over h1, hmo, M_thr, decide_false, Bool.false_eq_true, if_false, M_isOpenO h1 o16, e0, hx, decide_true, Bool.not_true]
  · refine ⟨v (186 + 4 * o + 3), _, _, no, mo, ?_, MK_sales c ho hn, fun S' h => ⟨_, ?_, RK_3 (RK.rf h) h.1⟩⟩
    · simp only [f_X6_replaceSales, lt_e, r_b3_0 c.t c.hb, lb15 c.t c.hb o16, hx, if_false, r_b3_3 c.t c.hb, lb18 c.t c.hb o16, sb18 c.t c.hb o16, ← a3]
    · have h1 := Mv_t h (ad 1) 2 0
      simp only [f_X12_reportSales, lt_e, M_isOu h1, hB, cl_s, jn_n, if_bI, if_true, M_throws0, M_rngS, hC, M_over h1, hmo, M_thr, decide_false, Bool.false_eq_true, if_false, M_isOpenO h1 o16, e0, hx, Bool.not_false, M_oo3 h1 o16, r_1_0 h1.1, M_ooS h1 o16 (q := 3) (i := 3) (by decide) rfl]
theorem Q_reportSales (c : CV S ad b v np nf no mo) (p : Int32) (s : Int64) : QM S ad b v np nf no mo [(1, 1), (2, 2), (3, 3)] (f_X11_reportSales S (ad 0) p s) (fun S' => f_X12_reportSales S' (ad 1) p s) := by
  have h16 := c.ho
  have hm := c.hm
  cases hB : vin p no
  · refine Or.inr ⟨1, 1, by simp, by simp [f_X11_reportSales, C_reqO c, hB, clx_r], fun S' h => ⟨0, ?_⟩⟩
    simp [f_X12_reportSales, lt_e, M_isOu (Mv_t h (ad 1) 2 0), cl_s, jn_n, if_bI, hB, M_throws1, uI_uI]
  · cases hC : salR s
    · refine Or.inr ⟨2, 2, by simp, by simp only [f_X11_reportSales, C_reqO c, hB, if_true, clx_l, jn_n, sal_cases, hC, C_reqA0, clx_r]; rfl, fun S' h => ⟨0, ?_⟩⟩
      simp only [f_X12_reportSales, lt_e, M_isOu (Mv_t h (ad 1) 2 0), cl_s, jn_n, if_bI, hB, M_rngS, hC, M_throws0, M_throws1, uI_uI]
      rfl
    · by_cases hmo : mo < 60
      · obtain ⟨o, ho, rfl⟩ := vin_of (by omega) hB
        obtain ⟨n, hn, rfl⟩ := sal_of hC
        obtain ⟨w, S1, v', no', mo', hx, mk, hy⟩ := B_sales c ho hn hmo
        refine Or.inl ⟨w, S1, v', no', mo', ?_, mk, hy⟩
        simp only [f_X11_reportSales, C_reqO c, hB, if_true, clx_l, jn_n, sal_cases, hC, C_reqA1, C_reqMo c, hmo, lt_e, c.r, r_b0_2 c.t c.hb, hx, cl_s]
      · refine Or.inr ⟨3, 3, by simp, by simp only [f_X11_reportSales, C_reqO c, hB, if_true, clx_l, jn_n, sal_cases, hC, C_reqA1, C_reqMo c, hmo, if_false, clx_r], fun S' h => ⟨0, ?_⟩⟩
        have h1 := Mv_t h (ad 1) 2 0
        have e60 : mo = 60 := by omega
        simp only [f_X12_reportSales, lt_e, M_isOu h1, cl_s, jn_n, if_bI, hB, M_rngS, hC, if_true, M_throws0, M_over h1, e60, decide_true, bI_t, M_throws1, uI_uI, i10, if_false]
/-! deliveries -/
def dlR (s : Int64) : Bool := decide ((1 : Int64) ≤ s) && decide (s ≤ 10000000)
theorem dl_of {s : Int64} (h : dlR s = true) : ∃ n, 1 ≤ n ∧ n ≤ 10000000 ∧ s = lN n := by
  rw [dlR, Bool.and_eq_true, decide_eq_true_eq, decide_eq_true_eq] at h
  have h0 : ¬ s < 0 := by
    intro h0
    have := Int64.lt_of_lt_of_le (Int64.lt_of_lt_of_le h0 (show (0 : Int64) ≤ 1 by decide)) h.1
    exact Int64.lt_irrefl this
  obtain ⟨n, hn, rfl⟩ := pk_lOf h0
  have h1 := h.1
  have h2 := h.2
  rw [show (1 : Int64) = lN 1 from rfl, pk_lLE (by decide) hn] at h1
  rw [show (10000000 : Int64) = lN 10000000 from rfl, pk_lLE hn (by decide)] at h2
  exact ⟨n, h1, h2, rfl⟩
theorem dl_cases {α : Type} (s : Int64) (x y : α) : (if s < 1 then x else if 10000000 < s then x else y) = if dlR s then y else x := by
  rw [dlR]
  by_cases h1 : s < 1
  · simp [h1, Int64.not_le.mpr h1]
  · by_cases h2 : 10000000 < s
    · simp [h1, h2, Int64.not_le.mpr h2]
    · simp [h1, h2, Int64.not_lt.mp h1, Int64.not_lt.mp h2]
theorem M_rngD (S : St) (s : Int64) : f_X12_inRange S s 1 10000000 = some (bI (dlR s)) := M_inRange S s 1 10000000
/-- a change of the books alone -/
theorem MK_B (c : CV S ad b v np nf no mo) (h11 : v' 11 = v 11) (hc : Ch S S1 ad (fun p => ∃ q, (33 ≤ q ∧ q ≤ 38) ∧ p = b + q)) (hv : ∀ i, ¬ (11 ≤ i ∧ i ≤ 13) → ¬ (1150 ≤ i ∧ i < 1214) → (∀ f, f < 8 → i ≠ 58 + 16 * f + 8) → v' i = v i) (w : WF v' np nf no mo) (aB : AXB S1 ad b v' nf mo) : MK S S1 ad b v v' np nf no mo := by
  have h8 := c.hf
  have h16 := c.ho
  have hb := c.2.1
  have A : ∀ q, BR q → ¬ (33 ≤ q ∧ q ≤ 38) → Ag S S1 ad (b + q) := fun q _ hq2 => hc.2.1 _ (by omega) (by rintro ⟨q', hq', e⟩; omega)
  refine ⟨hc.mono (fun p ⟨q, hq, e⟩ => Or.inr ⟨q, by unfold MQ2; omega, e⟩), ⟨?_, ?_, ?_, ?_, aB⟩, w, ⟨fun i hi => hv i (by omega) (by omega) (by omega), fun f hf => hv _ (by omega) (by omega) (by omega)⟩, fun i hi => hv i (by omega) (by omega) (by omega), by rw [hv 3 (by omega) (by omega) (by omega)]; exact c.m.2.2.2.2.1, by rw [hv 0 (by omega) (by omega) (by omega)]; exact c.m.2.2.2.2.2.1, c.ho, c.hm, WS_k c (fun f q hf hq => hv _ (by omega) (by omega) (by omega)) h11⟩
  · exact AXG_w (fun i hi => hv i (by omega) (by omega) (by omega)) (AXG_c (A 12 (by unfold BR; omega) (by omega)) c.G)
  · exact AXO_w (fun i hi => hv i (by omega) (by omega) (by omega)) c.ho (AXO_c (fun q hq => A q (by unfold BR; omega) (by omega)) c.O)
  · exact AXF_w (fun f q hf hq => hv _ (by omega) (by omega) (by omega)) (AXF_c (fun q hq => A q (by unfold BR; omega) (by omega)) c.F)
  · exact AXR_w (fun f q hf hq => hv _ (by omega) (by omega) (by omega)) (AXR_c (fun q hq => A q (by unfold BR; omega) (by omega)) c.R)
theorem MK_dlv (c : CV S ad b v np nf no mo) {f g : Nat} (hf : f < 8) (hg : g < 8) (hfg : f ≠ g) (x : Int64) : MK S (uJ S (ad (b + 35)) (8 * f + g) x) ad b v (udt v (1150 + (8 * f + g)) x) np nf no mo := by
  have h8 := c.hf
  have hv : ∀ i, i ≠ 1150 + (8 * f + g) → udt v (1150 + (8 * f + g)) x i = v i := fun i hi => udt_n hi
  refine MK_B c (hv 11 (by omega)) (Ch_uJ c.t ⟨35, by omega, rfl⟩) (fun i h1 h2 h3 => hv i (by omega)) ?_ ?_
  · exact WF_w (fun i hi => hv i (by omega)) (fun h q hh hq => hv _ (by omega)) (fun i hi => hv _ (by omega)) c.hp c.hf c.ho c.hm c.w
  · obtain ⟨a1, a2, a3, a4, a5, a6, a7⟩ := c.B
    have n : ∀ q, q ≠ 35 → ∀ l, gJ (uJ S (ad (b + 35)) (8 * f + g) x) (ad (b + q)) l = gJ S (ad (b + q)) l := fun q hq l => (Ag_uJ c.t (by omega) l).2
    refine ⟨a1, fun k hk => ?_, fun k hk => by rw [hv _ (by omega), n 38 (by decide)]; exact a3 k hk, fun h hh => by rw [hv _ (by omega), hv _ (by omega), n 36 (by decide), n 37 (by decide)]; exact a4 h hh, fun h h1 h2 => by rw [n 36 (by decide)]; exact a5 h h1 h2, fun k h hk hh => by rw [hv _ (by omega), n 33 (by decide)]; exact a6 k h hk hh, fun k h q hk hh hq => by rw [hv _ (by omega), n 34 (by decide)]; exact a7 k h q hk hh hq⟩
    rw [gJ_n c.t]
    by_cases e : k = 8 * f + g
    · subst e; rw [udt_e, if_pos ⟨rfl, rfl⟩]
    · rw [hv _ (by omega), if_neg (by omega)]; exact a2 k hk
theorem B_deliver (c : CV S ad b v np nf no mo) {o x y n : Nat} (ho : o < no) (hx : x < 30) (hy : y < 30) (hn1 : 1 ≤ n) (hn : n ≤ 10000000) (hm : mo < 60) : BM S ad b v np nf no mo (f_X1_addDelivery S (ad b) (nI o) (nI x) (nI y) (lN n)) (fun S' => f_X12_deliver S' (ad 1) (nI o) (nI x) (nI y) (lN n)) := by
  have h16 := c.ho
  have h8 := c.hf
  have o16 : o < 16 := by omega
  have hB : vin (nI o) no = true := vin_nI ho (by omega)
  have hX : (vin (nI x) 30 && vin (nI y) 30) = true := by rw [vin_nI hx (by decide), vin_nI hy (by decide)]; rfl
  have hC : dlR (lN n) = true := by
    rw [dlR, Bool.and_eq_true, decide_eq_true_eq, decide_eq_true_eq, show (1 : Int64) = lN 1 from rfl, show (10000000 : Int64) = lN 10000000 from rfl, pk_lLE (by decide) (by omega), pk_lLE (by omega) (by decide)]
    omega
  have hmo : ¬ mo = 60 := by omega
  obtain ⟨a0, -, -, a3⟩ := c.O.2 o ho
  obtain ⟨⟨x0, y0, -, -, -, -, hown⟩, s, hs, es⟩ := c.w.2.2.2.1 o ho
  have e0 : (v (186 + 4 * o + 0) = -1) = (gI S (ad (b + 15)) o = -1) := by rw [a0, ← tl_m1, tl_eq]
  by_cases hcl : gI S (ad (b + 15)) o = -1
  · refine ⟨-1, S, v, no, mo, ?_, MK.rf c, fun S' h => ⟨_, ?_, RK.rf h⟩⟩
    · simp only [f_X1_addDelivery, lt_e, r_b0_2 c.t c.hb, r_b3_0 c.t c.hb, lb15 c.t c.hb o16, hcl, if_true]
    · have h1 := Mv_t h (ad 1) 2 0
      simp only [f_X12_deliver, lt_e, M_isOu h1, hB, cl_s, jn_n, if_bI, if_true, M_throws0, M_isCell, hX, M_rngD, hC, M_over h1, hmo, M_thr, decide_false, Bool.false_eq_true, if_false, M_isOpenO h1 o16, e0, hcl, decide_true, Bool.not_true]
  · have hsum : v (186 + 4 * o + 3) + lN n = lN (s + n) := by rw [es, lN_add]
    have hle : (lN (s + n) ≤ 10000000) = (s + n ≤ 10000000) := by
      rw [show (10000000 : Int64) = lN 10000000 from rfl, pk_lLE (by omega) (by decide)]
    by_cases hfull : s + n ≤ 10000000
    · -- the owner and the cell's owner
      obtain ⟨f, hf, ef⟩ : ∃ f, f < nf ∧ v (186 + 4 * o + 0) = lN f := by
        rcases hown with h | ⟨f, hf, ef, -⟩
        · exact absurd (e0.mp h) hcl
        · exact ⟨f, hf, ef⟩
      have gf : gI S (ad (b + 15)) o = nI f := by rw [a0, ← nI_l (by omega), tl_eq] at ef; exact ef
      have nf1 : ¬ nI f = -1 := nI_m1 (by omega)
      have m1 := MK_sales c ho hfull
      have c1 := m1.cv c
      have eG : v (250 + (30 * y + x)) = (gI S (ad (b + 12)) (30 * y + x)).toInt64 := c.G _ (by omega)
      have t1 := c1.t
      have hact : ∀ g, g < nf → act (udt v (186 + 4 * o + 3) (lN (s + n))) g = act v g := fun g hg => by unfold act; rw [udt_n (by omega)]
      have rd : ∀ {β : Type} (k : Int64 → Option β), ldJ (uJ S (ad (b + 18)) o (lN (s + n))) (ad (b + 18)) (nI o) k = k (lN (s + n)) := fun k => by
        rw [lb18 t1 c.hb o16, gJ_uJ, if_pos ⟨rfl, rfl⟩]
      have own1 : f_X3_ownerAt (uJ S (ad (b + 18)) o (lN (s + n))) (ad (b + 2)) (nI x) (nI y) = some (gI S (ad (b + 12)) (30 * y + x)) := by rw [C_ownerAt t1 c.hb hx hy]; rfl
      by_cases hto : ∃ g, g < nf ∧ g ≠ f ∧ gI S (ad (b + 12)) (30 * y + x) = nI g ∧ act v f = true ∧ act v g = true
      · obtain ⟨g, hg, hgf, eg, af, ag⟩ := hto
        have m2 := MK_dlv c1 (show f < 8 by omega) (show g < 8 by omega) (fun e => hgf e.symm) (v (1150 + (8 * f + g)) + lN n)
        have c2 := m2.cv c1
        have ngf : ¬ nI g = nI f := fun e => hgf (nI_inj (by omega) (by omega) e)
        have ng1 : ¬ nI g = -1 := nI_m1 (by omega)
        have eD : udt v (186 + 4 * o + 3) (lN (s + n)) (1150 + (8 * f + g)) = v (1150 + (8 * f + g)) := udt_n (by omega)
        have kd : 1150 + 8 * nI f + nI g = nI (1150 + (8 * f + g)) := by rw [mu8, ad1150, nI_add, Nat.add_assoc]
        refine ⟨lN (s + n), _, _, no, mo, ?_, m1.trans m2, fun S' h => ⟨_, ?_, RK_3 (RK_3 (RK.rf h) h.1) h.1⟩⟩
        · have rd2 : ∀ {β : Type} (k : Int64 → Option β), ldJ (uJ (uJ S (ad (b + 18)) o (lN (s + n))) (ad (b + 35)) (8 * f + g) (v (1150 + (8 * f + g)) + lN n)) (ad (b + 18)) (nI o) k = k (lN (s + n)) := fun k => by
            rw [lb18 c2.t c.hb o16, gJ_i c.t.1, if_neg (by omega), gJ_uJ, if_pos ⟨rfl, rfl⟩]
          have dl : f_X0_addDelivered (uJ S (ad (b + 18)) o (lN (s + n))) (ad (b + 6)) (nI f) (nI g) (lN n) = some (uJ (uJ S (ad (b + 18)) o (lN (s + n))) (ad (b + 35)) (8 * f + g) (v (1150 + (8 * f + g)) + lN n)) := by
            simp only [f_X0_addDelivered, lt_e, r_b6_2 t1 c.hb]
            rw [um8, nI_add, Nat.mul_comm f 8, lb35 t1 c.hb (by omega), sb35 t1 c.hb (by omega), ← c1.B.2.1 (8 * f + g) (by omega), eD]
          simp only [f_X1_addDelivery, lt_e, r_b0_2 c.t c.hb, r_b3_0 c.t c.hb, lb15 c.t c.hb o16, hcl, if_false, r_b3_3 c.t c.hb, lb18 c.t c.hb o16, ← a3, hsum, hle, hfull, if_true, sb18 c.t c.hb o16, r_b0_1 t1 c.hb, own1, cl_s, jn_n, eg, gf, nf1, ngf, r_b0_3 t1 c.hb, C_act c1 hf, C_act c1 hg, hact f hf, hact g hg, af, ag, if_bI, r_b0_5 t1 c.hb, dl, r_b0_2 c2.t c.hb, r_b3_3 c2.t c.hb, rd2]
        · have h1 := Mv_t h (ad 1) 2 0
          have h2 := Mv_3 h1 (k := 186 + 4 * o + 3) (w := lN (s + n)) (by omega)
          have h3 := Mv_3 h2 (k := 1150 + (8 * f + g)) (w := v (1150 + (8 * f + g)) + lN n) (by omega)
          have eo : udt v (186 + 4 * o + 3) (lN (s + n)) (186 + 4 * o + 0) = lN f := by rw [udt_n (by omega)]; exact ef
          have ec : (udt v (186 + 4 * o + 3) (lN (s + n)) (250 + (30 * y + x))).toInt32 = nI g := by rw [udt_n (by omega), eG, tl_i, eg]
          have es3 : udt (udt v (186 + 4 * o + 3) (lN (s + n))) (1150 + (8 * f + g)) (v (1150 + (8 * f + g)) + lN n) (186 + 4 * o + 3) = lN (s + n) := by rw [udt_n (by omega), udt_e]
          simp only [f_X12_deliver, lt_e, M_isOu h1, hB, cl_s, jn_n, if_bI, if_true, M_throws0, M_isCell, hX, M_rngD, hC, M_over h1, hmo, M_thr, decide_false, Bool.false_eq_true, if_false, M_isOpenO h1 o16, e0, hcl, Bool.not_false, M_oo3 h1 o16, hsum, hle, hfull, r_1_0 h1.1, M_ooL h1 o16 (q := 3) (i := 3) (by decide) rfl, M_ooS h1 o16 (q := 3) (i := 3) (by decide) rfl, M_oo0 h2 o16, eo, lN_i, M_ownerOf h2 hx hy, ec, ng1, ngf, M_act h2 (show f < 8 by omega), M_act h2 (show g < 8 by omega), hact f hf, hact g hg, af, ag, r_1_0 h2.1, kd, ldS h2 (show 1150 + (8 * f + g) < 20216 by omega), eD]
          rw [stJ_at (by rw [n_3 h2.1]; omega) (by rw [n_3 h2.1]; decide)]
          simp only [M_oo3 h3 o16, es3, cl_s]
      · refine ⟨lN (s + n), _, _, no, mo, ?_, m1, fun S' h => ⟨_, ?_, RK_3 (RK.rf h) h.1⟩⟩
        · simp only [f_X1_addDelivery, lt_e, r_b0_2 c.t c.hb, r_b3_0 c.t c.hb, lb15 c.t c.hb o16, hcl, if_false, r_b3_3 c.t c.hb, lb18 c.t c.hb o16, ← a3, hsum, hle, hfull, if_true, sb18 c.t c.hb o16, r_b0_1 t1 c.hb, own1, cl_s, jn_n, gf, nf1, r_b0_3 t1 c.hb, C_act c1 hf, hact f hf, if_bI, r_b0_2 t1 c.hb, r_b3_3 t1 c.hb, rd]
          by_cases q1 : gI S (ad (b + 12)) (30 * y + x) = nI f
          · simp only [q1, if_true]
          · simp only [q1, if_false]
            cases q2 : act v f
            · rfl
            · cases q3 : vin (gI S (ad (b + 12)) (30 * y + x)) nf
              · simp only [if_true, C_actN c1 _ q3, cl_s]
              · obtain ⟨g, hg, eg⟩ := vin_of (by omega) q3
                have hgf : g ≠ f := fun e => q1 (by rw [eg, e])
                have ag : act v g = false := by
                  cases q4 : act v g
                  · rfl
                  · exact absurd ⟨g, hg, hgf, eg, q2, q4⟩ hto
                simp only [if_true, eg, C_act c1 hg, hact g hg, ag, cl_s, if_bI, Bool.false_eq_true, if_false]
        · have h1 := Mv_t h (ad 1) 2 0
          have h2 := Mv_3 h1 (k := 186 + 4 * o + 3) (w := lN (s + n)) (by omega)
          have eo : udt v (186 + 4 * o + 3) (lN (s + n)) (186 + 4 * o + 0) = lN f := by rw [udt_n (by omega)]; exact ef
          have ec : (udt v (186 + 4 * o + 3) (lN (s + n)) (250 + (30 * y + x))).toInt32 = gI S (ad (b + 12)) (30 * y + x) := by rw [udt_n (by omega), eG, tl_i]
          simp only [f_X12_deliver, lt_e, M_isOu h1, hB, cl_s, jn_n, if_bI, if_true, M_throws0, M_isCell, hX, M_rngD, hC, M_over h1, hmo, M_thr, decide_false, Bool.false_eq_true, if_false, M_isOpenO h1 o16, e0, hcl, Bool.not_false, M_oo3 h1 o16, hsum, hle, hfull, r_1_0 h1.1, M_ooL h1 o16 (q := 3) (i := 3) (by decide) rfl, M_ooS h1 o16 (q := 3) (i := 3) (by decide) rfl, M_oo0 h2 o16, M_oo3 h2 o16, udt_e, eo, lN_i, M_ownerOf h2 hx hy, ec, M_act h2 (show f < 8 by omega), hact f hf]
          by_cases q0 : gI S (ad (b + 12)) (30 * y + x) = -1
          · simp only [q0, if_true]
          · simp only [q0, if_false]
            by_cases q1 : gI S (ad (b + 12)) (30 * y + x) = nI f
            · simp only [q1, if_true]
            · simp only [q1, if_false]
              cases q2 : act v f
              · rfl
              · obtain ⟨g, hg, eg⟩ : ∃ g, g < nf ∧ gI S (ad (b + 12)) (30 * y + x) = nI g := by
                  rcases c.w.2.2.2.2.1 (30 * y + x) (by omega) with hh | ⟨g, hg, hh⟩
                  · rw [eG, ← tl_m1, tl_eq] at hh; exact absurd hh q0
                  · rw [eG, ← nI_l (by omega), tl_eq] at hh; exact ⟨g, hg, hh⟩
                have hgf : g ≠ f := fun e => q1 (by rw [eg, e])
                have ag : act v g = false := by
                  cases q4 : act v g
                  · rfl
                  · exact absurd ⟨g, hg, hgf, eg, q2, q4⟩ hto
                simp only [if_true, eg, M_act h2 (show g < 8 by omega), hact g hg, ag, cl_s, if_bI, Bool.false_eq_true, if_false]
    · refine ⟨-3, S, v, no, mo, ?_, MK.rf c, fun S' h => ⟨_, ?_, RK.rf h⟩⟩
      · simp only [f_X1_addDelivery, lt_e, r_b0_2 c.t c.hb, r_b3_0 c.t c.hb, lb15 c.t c.hb o16, hcl, if_false, r_b3_3 c.t c.hb, lb18 c.t c.hb o16, ← a3, hsum, hle, hfull]
      · have h1 := Mv_t h (ad 1) 2 0
        simp only [f_X12_deliver, lt_e, M_isOu h1, hB, cl_s, jn_n, if_bI, if_true, M_throws0, M_isCell, hX, M_rngD, hC, M_over h1, hmo, M_thr, decide_false, Bool.false_eq_true, if_false, M_isOpenO h1 o16, e0, hcl, Bool.not_false, M_oo3 h1 o16, hsum, hle, hfull]
theorem Q_deliver (c : CV S ad b v np nf no mo) (p q u : Int32) (s : Int64) : QM S ad b v np nf no mo [(1, 1), (2, 2), (3, 3)] (f_X11_deliver S (ad 0) p q u s) (fun S' => f_X12_deliver S' (ad 1) p q u s) := by
  have h16 := c.ho
  have hm := c.hm
  cases hB : vin p no
  · refine Or.inr ⟨1, 1, by simp, by simp [f_X11_deliver, C_reqO c, hB, clx_r], fun S' h => ⟨0, ?_⟩⟩
    simp [f_X12_deliver, lt_e, M_isOu (Mv_t h (ad 1) 2 0), cl_s, jn_n, if_bI, hB, M_throws1, uI_uI]
  · cases hX : (vin q 30 && vin u 30)
    · refine Or.inr ⟨2, 2, by simp, by simp only [f_X11_deliver, C_reqO c, hB, if_true, clx_l, C_contains, hX, cl_s, C_reqA, clx_r]; rfl, fun S' h => ⟨0, ?_⟩⟩
      simp only [f_X12_deliver, lt_e, M_isOu (Mv_t h (ad 1) 2 0), cl_s, jn_n, if_bI, hB, M_isCell, hX, M_throws0, M_throws1, uI_uI]
      rfl
    · cases hC : dlR s
      · refine Or.inr ⟨2, 2, by simp, by simp only [f_X11_deliver, C_reqO c, hB, if_true, clx_l, C_contains, hX, cl_s, C_reqA, jn_n, dl_cases, hC, C_reqA0, clx_r]; rfl, fun S' h => ⟨0, ?_⟩⟩
        simp only [f_X12_deliver, lt_e, M_isOu (Mv_t h (ad 1) 2 0), cl_s, jn_n, if_bI, hB, M_isCell, hX, M_rngD, hC, M_throws0, M_throws1, uI_uI]
        rfl
      · by_cases hmo : mo < 60
        · have hX' := hX
          rw [Bool.and_eq_true] at hX'
          obtain ⟨o, ho, rfl⟩ := vin_of (by omega) hB
          obtain ⟨x, hx, rfl⟩ := vin_of (by decide) hX'.1
          obtain ⟨y, hy, rfl⟩ := vin_of (by decide) hX'.2
          obtain ⟨n, hn1, hn, rfl⟩ := dl_of hC
          obtain ⟨w, S1, v', no', mo', hxx, mk, hyy⟩ := B_deliver c ho hx hy hn1 hn hmo
          refine Or.inl ⟨w, S1, v', no', mo', ?_, mk, hyy⟩
          simp only [f_X11_deliver, C_reqO c, hB, if_true, clx_l, C_contains, hX, cl_s, C_reqA, jn_n, dl_cases, hC, C_reqA1, C_reqMo c, hmo, lt_e, c.r, hxx]
        · refine Or.inr ⟨3, 3, by simp, by simp only [f_X11_deliver, C_reqO c, hB, if_true, clx_l, C_contains, hX, cl_s, C_reqA, jn_n, dl_cases, hC, C_reqA1, C_reqMo c, hmo, if_false, clx_r], fun S' h => ⟨0, ?_⟩⟩
          have h1 := Mv_t h (ad 1) 2 0
          have e60 : mo = 60 := by omega
          simp only [f_X12_deliver, lt_e, M_isOu h1, cl_s, jn_n, if_bI, hB, M_isCell, hX, M_rngD, hC, if_true, M_throws0, M_over h1, e60, decide_true, bI_t, M_throws1, uI_uI, i10, if_false]
