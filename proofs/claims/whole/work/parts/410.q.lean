/-! the pure part: more queries -/
variable {S S' : St} {ad : Nat → Nat} {b d j k : Nat} {v : Nat → Int64} {np nf no mo : Nat}
theorem vin_cases {α : Type} (p : Int32) {n : Nat} (hn : n < 2 ^ 31) (x y : α) : (if p < 0 then x else if nI n ≤ p then x else y) = if vin p n then y else x := by
  have h := ix_iff p hn
  rw [← vin_iff] at h
  cases hv : vin p n
  · by_cases h1 : p < 0
    · simp [h1]
    · by_cases h2 : nI n ≤ p
      · simp [h1, h2]
      · rw [h.mp ⟨h1, h2⟩] at hv; exact absurd hv (by simp)
  · obtain ⟨h1, h2⟩ := h.mpr hv
    simp [h1, h2]
theorem vin_cases2 {α : Type} (p : Int32) {n : Nat} (hn : n < 2 ^ 31) (x y : α) : (if p < 0 then x else if p < nI n then y else x) = if vin p n then y else x := by
  rw [← vin_cases p hn x y]
  by_cases h1 : p < 0
  · simp [h1]
  · by_cases h2 : nI n ≤ p
    · simp [h1, h2, Int32.not_lt.mpr h2]
    · simp [h1, h2, Int32.not_le.mp h2]
theorem C_reqA (S : St) (q : Bool) : f_X11_requireArgument S (bI q) = if q then some (.inl ()) else some (.inr 2) := by cases q <;> rfl
theorem C_reqA1 (S : St) : f_X11_requireArgument S 1 = some (.inl ()) := rfl
theorem C_reqA0 (S : St) : f_X11_requireArgument S 0 = some (.inr 2) := rfl
theorem C_reqM (c : CV S ad b v np nf no mo) (p : Int32) : f_X11_requireClosedMonth S (ad 0) p = if vin p mo then some (.inl ()) else some (.inr 2) := by
  simp only [f_X11_requireClosedMonth, jn_e, lt_e, c.r, r_b0_5 c.t c.hb, c.B.1]
  have := c.hm
  exact vin_cases2 p (by omega) _ _
theorem M_isCl (h : Mv S ad v np nf no mo) (p : Int32) : f_X12_isClosed S (ad 1) p = some (bI (vin p mo)) := by
  simp only [f_X12_isClosed, lt_e, r_1_0 h.1, ld_0 h, M_inRange, cl_s, zc_b]
  rw [h.2.2.2.2.2.1, rng_vin p (by have := h.2.2.2.2.2.2.2.2.2; omega)]
theorem M_ownerOf (h : Mv S ad v np nf no mo) {x y : Nat} (hx : x < 30) (hy : y < 30) : f_X12_ownerOf S (ad 1) (nI x) (nI y) = some (v (250 + (30 * y + x))).toInt32 := by
  simp only [f_X12_ownerOf, lt_e, r_1_0 h.1]
  rw [ldSe h (k := 250 + (30 * y + x)) (by rw [mu30, ad250, nI_add, Nat.add_assoc]) (by omega)]
theorem C_ownerAt (t : TR S ad) (hb : BB b) {x y : Nat} (hx : x < 30) (hy : y < 30) : f_X3_ownerAt S (ad (b + 2)) (nI x) (nI y) = some (gI S (ad (b + 12)) (30 * y + x)) := by
  simp only [f_X3_ownerAt, C_contains, cl_s, vin_nI hx (by decide), vin_nI hy (by decide), Bool.and_self, if_bI, if_true, lt_e, r_b2_0 t hb]
  rw [um30, nI_add, lb12 t hb (by omega), Nat.mul_comm]
theorem Q_owner (c : CV S ad b v np nf no mo) (p q : Int32) : QB ad v np nf no mo 2 (f_X11_owner S (ad 0) p q) (fun S' => f_X12_owner S' (ad 1) p q) := by
  cases hB : (vin p 30 && vin q 30)
  · refine Or.inr ⟨by simp [f_X11_owner, C_contains, cl_s, C_reqA, hB, clx_r], fun S' h => ⟨0, ?_⟩⟩
    simp [f_X12_owner, lt_e, M_isCell, cl_s, jn_e, if_bI, hB, M_throws1, uI_uI]
  · rw [Bool.and_eq_true] at hB
    obtain ⟨x, hx, rfl⟩ := vin_of (by decide) hB.1
    obtain ⟨y, hy, rfl⟩ := vin_of (by decide) hB.2
    refine Or.inl ⟨gI S (ad (b + 12)) (30 * y + x), ?_, fun S' h => ?_⟩
    · simp [f_X11_owner, C_contains, cl_s, C_reqA, hB.1, hB.2, clx_l, lt_e, c.r, r_b0_1 c.t c.hb, C_ownerAt c.t c.hb hx hy]
    · have h1 := Mv_t h (ad 1) 2 0
      simp [f_X12_owner, lt_e, M_isCell, cl_s, jn_e, if_bI, hB.1, hB.2, M_throws0, M_ownerOf h1 hx hy, c.G (30 * y + x) (by omega), tl_i]
theorem M_rec (h : Mv S ad v np nf no mo) {f m : Nat} (hf : f < 8) (hm : m < 60) : f_X12_recorded S (ad 1) (nI f) (nI m) = some (v (1214 + 8 * m + f)) := by
  simp only [f_X12_recorded, lt_e, r_1_0 h.1]
  rw [ldSe h (k := 1214 + 8 * m + f) (by rw [mu8, ad1214, nI_add]) (by omega)]
theorem C_salesIn (c : CV S ad b v np nf no mo) {f m : Nat} (hf : f < nf) (hm : m < mo) : f_X0_salesIn S (ad (b + 6)) (nI f) (nI m) = some (v (1214 + 8 * m + f)) := by
  have h1 := c.hf
  have h2 := c.hm
  simp only [f_X0_salesIn, f_X0_rowOf, lt_e, cl_s, r_b6_0 c.t c.hb]
  rw [um8, nI_add, lb33 c.t c.hb (by omega), Nat.mul_comm m 8, c.B.2.2.2.2.2.1 m f hm hf]
theorem Q_salesOf (c : CV S ad b v np nf no mo) (p q : Int32) : QA ad v np nf no mo (f_X11_salesOf S (ad 0) p q) (fun S' => f_X12_salesOf S' (ad 1) p q) := by
  have hf8 := c.hf
  have hm60 := c.hm
  cases hB : vin p nf
  · refine Or.inr (Or.inl ⟨by simp [f_X11_salesOf, C_reqF c, hB, clx_r], fun S' h => ⟨0, ?_⟩⟩)
    simp [f_X12_salesOf, lt_e, M_isFr (Mv_t h (ad 1) 2 0), cl_s, jn_e, if_bI, hB, M_throws1, uI_uI]
  · cases hC : vin q mo
    · refine Or.inr (Or.inr ⟨by simp [f_X11_salesOf, C_reqF c, hB, clx_l, C_reqM c, hC, clx_r], fun S' h => ⟨0, ?_⟩⟩)
      simp [f_X12_salesOf, lt_e, M_isFr (Mv_t h (ad 1) 2 0), M_isCl (Mv_t h (ad 1) 2 0), cl_s, jn_e, if_bI, hB, hC, M_throws0, M_throws1, uI_uI]
    · obtain ⟨f, hf, rfl⟩ := vin_of (by omega) hB
      obtain ⟨m, hm, rfl⟩ := vin_of (by omega) hC
      refine Or.inl ⟨v (1214 + 8 * m + f), ?_, fun S' h => ?_⟩
      · simp [f_X11_salesOf, C_reqF c, hB, clx_l, C_reqM c, hC, lt_e, c.r, r_b0_5 c.t c.hb, C_salesIn c hf hm, cl_s]
      · have h1 := Mv_t h (ad 1) 2 0
        simp [f_X12_salesOf, lt_e, M_isFr h1, M_isCl h1, cl_s, jn_e, if_bI, hB, hC, M_throws0, M_rec h1 (show f < 8 by omega) (show m < 60 by omega)]
theorem M_invRow (S : St) (m : Nat) (f n : Nat) : f_X12_invoiceRow S m (nI f) (nI n) = some (nI (1694 + 7 * (8 * n + f))) := by
  simp only [f_X12_invoiceRow, mu8, nI_add, mu7, ad1694]
theorem C_invPart (c : CV S ad b v np nf no mo) {f m q : Nat} (hf : f < nf) (hm : m < mo) (hq : q < 7) : f_X0_invoicePart S (ad (b + 6)) (nI f) (nI m) (nI q) = some (v (1694 + 7 * (8 * m + f) + q)) := by
  have h1 := c.hf
  have h2 := c.hm
  simp only [f_X0_invoicePart, f_X0_rowOf, lt_e, cl_s, r_b6_1 c.t c.hb]
  rw [um8, nI_add, um7, nI_add, lb34 c.t c.hb (by omega), c.B.2.2.2.2.2.2 m f q hm hf hq, Nat.mul_comm m 8, Nat.mul_comm _ 7]
theorem Q_invoice (c : CV S ad b v np nf no mo) (p q u : Int32) : QA ad v np nf no mo (f_X11_invoice S (ad 0) p q u) (fun S' => f_X12_invoice S' (ad 1) p q u) := by
  have hf8 := c.hf
  have hm60 := c.hm
  have e7 : ∀ {α : Type} (x y : α), (if u < 0 then x else if 7 ≤ u then x else y) = if vin u 7 then y else x := fun x y => vin_cases u (n := 7) (by decide) x y
  have e6 : (decide ((0 : Int64) ≤ u.toInt64) && decide (u.toInt64 ≤ 6)) = vin u 7 := rng_vin u (n := 7) (by decide)
  cases hB : vin p nf
  · refine Or.inr (Or.inl ⟨by simp [f_X11_invoice, C_reqF c, hB, clx_r], fun S' h => ⟨0, ?_⟩⟩)
    simp [f_X12_invoice, lt_e, M_isFr (Mv_t h (ad 1) 2 0), cl_s, jn_e, if_bI, hB, M_throws1, uI_uI]
  · cases hC : vin q mo
    · refine Or.inr (Or.inr ⟨by simp [f_X11_invoice, C_reqF c, hB, clx_l, C_reqM c, hC, clx_r], fun S' h => ⟨0, ?_⟩⟩)
      simp [f_X12_invoice, lt_e, M_isFr (Mv_t h (ad 1) 2 0), M_isCl (Mv_t h (ad 1) 2 0), cl_s, jn_e, if_bI, hB, hC, M_throws0, M_throws1, uI_uI]
    · cases hD : vin u 7
      · refine Or.inr (Or.inr ⟨by simp [f_X11_invoice, C_reqF c, hB, clx_l, C_reqM c, hC, jn_e, e7, hD, C_reqA0, clx_r], fun S' h => ⟨0, ?_⟩⟩)
        have h1 := Mv_t h (ad 1) 2 0
        simp only [f_X12_invoice, lt_e, M_isFr h1, M_isCl h1, cl_s, jn_e, if_bI, hB, hC, M_inRange, e6, hD, M_throws0, M_throws1, uI_uI]
        rfl
      · obtain ⟨f, hf, rfl⟩ := vin_of (by omega) hB
        obtain ⟨m, hm, rfl⟩ := vin_of (by omega) hC
        obtain ⟨u, hu, rfl⟩ := vin_of (by decide) hD
        refine Or.inl ⟨v (1694 + 7 * (8 * m + f) + u), ?_, fun S' h => ?_⟩
        · simp [f_X11_invoice, C_reqF c, hB, clx_l, C_reqM c, hC, jn_e, e7, hD, C_reqA1, lt_e, c.r, r_b0_5 c.t c.hb, C_invPart c hf hm hu, cl_s]
        · have h1 := Mv_t h (ad 1) 2 0
          simp only [f_X12_invoice, lt_e, M_isFr h1, M_isCl h1, cl_s, jn_e, if_bI, hB, hC, M_inRange, e6, hD, M_throws0, if_true, r_1_0 h1.1, M_invRow, nI_add]
          rw [ldS h1 (by omega)]
theorem Q_spent (c : CV S ad b v np nf no mo) (u : Int32) : QB ad v np nf no mo 2 (f_X11_spent S (ad 0) u) (fun S' => f_X12_spent S' (ad 1) u) := by
  have e7 : ∀ {α : Type} (x y : α), (if u < 0 then x else if 3 ≤ u then x else y) = if vin u 3 then y else x := fun x y => vin_cases u (n := 3) (by decide) x y
  have e6 : (decide ((0 : Int64) ≤ u.toInt64) && decide (u.toInt64 ≤ 2)) = vin u 3 := rng_vin u (n := 3) (by decide)
  cases hD : vin u 3
  · refine Or.inr ⟨by simp [f_X11_spent, jn_e, e7, hD, C_reqA0, clx_r], fun S' h => ⟨0, ?_⟩⟩
    have h1 := Mv_t h (ad 1) 2 0
    simp only [f_X12_spent, lt_e, cl_s, jn_e, if_bI, M_inRange, e6, hD, M_throws1, uI_uI]
    rfl
  · obtain ⟨u, hu, rfl⟩ := vin_of (by decide) hD
    refine Or.inl ⟨v (11 + u), ?_, fun S' h => ?_⟩
    · simp [f_X11_spent, jn_e, e7, hD, C_reqA1, clx_l, lt_e, c.r, r_b0_5 c.t c.hb, r_b6_5 c.t c.hb, lb38 c.t c.hb hu, c.B.2.2.1 u hu]
    · have h1 := Mv_t h (ad 1) 2 0
      simp only [f_X12_spent, lt_e, cl_s, jn_e, if_bI, M_inRange, e6, hD, M_throws0, if_true, r_1_0 h1.1]
      rw [ldSe h1 (ad11 u) (by omega)]
theorem M_allow (h : Mv S ad v np nf no mo) {f : Nat} (hf : f < 8) : f_X12_allowanceOf S (ad 1) (nI f) = some (v (58 + 16 * f + 7) / 2 - v (58 + 16 * f + 8)) := by
  simp only [f_X12_allowanceOf, M_of7 h hf, M_of8 h hf, cl_s]
theorem C_allow (c : CV S ad b v np nf no mo) {f : Nat} (hf : f < nf) : f_X0_allowanceLeft S (ad (b + 6)) (nI f) = some (v (58 + 16 * f + 7) / 2 - v (58 + 16 * f + 8)) := by
  have h1 := c.hf
  have h8 : f < 8 := by omega
  simp only [f_X0_allowanceLeft, lt_e, r_b6_3 c.t c.hb, r_b6_4 c.t c.hb, lb36 c.t c.hb h8, lb37 c.t c.hb h8, (c.B.2.2.2.1 f hf).1, (c.B.2.2.2.1 f hf).2]
theorem Q_allowance (c : CV S ad b v np nf no mo) (p : Int32) : QB ad v np nf no mo 1 (f_X11_allowance S (ad 0) p) (fun S' => f_X12_allowance S' (ad 1) p) := by
  have hf8 := c.hf
  cases hB : vin p nf
  · refine Or.inr ⟨by simp [f_X11_allowance, C_reqF c, hB, clx_r], fun S' h => ⟨0, ?_⟩⟩
    simp [f_X12_allowance, lt_e, M_isFr (Mv_t h (ad 1) 2 0), cl_s, jn_e, if_bI, hB, M_throws1, uI_uI]
  · obtain ⟨f, hf, rfl⟩ := vin_of (by omega) hB
    have h8 : f < 8 := by omega
    refine Or.inl ⟨v (58 + 16 * f + 7) / 2 - v (58 + 16 * f + 8), ?_, fun S' h => ?_⟩
    · simp [f_X11_allowance, C_reqF c, hB, clx_l, lt_e, c.r, r_b0_5 c.t c.hb, C_allow c hf, cl_s]
    · have h1 := Mv_t h (ad 1) 2 0
      simp [f_X12_allowance, lt_e, M_isFr h1, cl_s, jn_e, if_bI, hB, M_throws0, M_allow h1 h8]
theorem Q_outletCell (c : CV S ad b v np nf no mo) (p : Int32) : QB ad v np nf no mo 1 (f_X11_outletCell S (ad 0) p) (fun S' => f_X12_outletCell S' (ad 1) p) := by
  have ho8 := c.ho
  cases hB : vin p no
  · refine Or.inr ⟨by simp [f_X11_outletCell, C_reqO c, hB, clx_r], fun S' h => ⟨0, ?_⟩⟩
    simp [f_X12_outletCell, lt_e, M_isOu (Mv_t h (ad 1) 2 0), cl_s, jn_e, if_bI, hB, M_throws1, uI_uI]
  · obtain ⟨f, hf, rfl⟩ := vin_of (by omega) hB
    have h8 : f < 16 := by omega
    refine Or.inl ⟨100 * gI S (ad (b + 17)) f + gI S (ad (b + 16)) f, ?_, fun S' h => ?_⟩
    · simp [f_X11_outletCell, C_reqO c, hB, clx_l, lt_e, c.r, r_b0_2 c.t c.hb, r_b3_1 c.t c.hb, r_b3_2 c.t c.hb, lb16 c.t c.hb h8, lb17 c.t c.hb h8, f_X11_cellCode, cl_s]
    · have h1 := Mv_t h (ad 1) 2 0
      simp [f_X12_outletCell, lt_e, M_isOu h1, cl_s, jn_e, if_bI, hB, M_throws0, M_oo1 h1 h8, M_oo2 h1 h8, (c.O.2 f hf).2.1, (c.O.2 f hf).2.2.1]
theorem Q_month (c : CV S ad b v np nf no mo) : QC ad v np nf no mo (f_X11_month S (ad 0)) (fun S' => f_X12_month S' (ad 1)) := by
  refine ⟨nI mo, ?_, fun S' h => ?_⟩
  · simp [f_X11_month, lt_e, c.r, r_b0_5 c.t c.hb, c.B.1]
  · have h1 := Mv_t h (ad 1) 2 0
    simp [f_X12_month, lt_e, r_1_0 h1.1, ld_0 h1, h.2.2.2.2.2.1, lN_i]
