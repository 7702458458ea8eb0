/-! the pure part: requestTransfer and vote -/
variable {S S1 S' S'' S3 : St} {ad : Nat → Nat} {b d j k : Nat} {v v' : Nat → Int64} {np nf no mo no' mo' : Nat}
theorem gI_i (hi : ∀ p q, ad p = ad q ↔ p = q) (S : St) (p i q l : Nat) (w : Int32) : gI (uI S (ad p) i w) (ad q) l = if q = p ∧ l = i then w else gI S (ad q) l := by
  rw [gI_uI]
  by_cases h : q = p
  · by_cases h2 : l = i <;> simp [h, h2]
  · have : ¬ ad q = ad p := fun e => h ((hi _ _).mp e)
    simp [h, this]
theorem gJ_i (hi : ∀ p q, ad p = ad q ↔ p = q) (S : St) (p i q l : Nat) (w : Int64) : gJ (uJ S (ad p) i w) (ad q) l = if q = p ∧ l = i then w else gJ S (ad q) l := by
  rw [gJ_uJ]
  by_cases h : q = p
  · by_cases h2 : l = i <;> simp [h, h2]
  · have : ¬ ad q = ad p := fun e => h ((hi _ _).mp e)
    simp [h, this]
theorem VOT_0 : VOT 0 0 0 0 0 := ⟨0, 0, by decide, by decide, rfl, rfl, rfl, rfl, rfl, rfl, by decide, by decide⟩
def rqV (v : Nat → Int64) (f : Nat) (p : Int32) (s : Int64) : Nat → Int64 := udt (udt (udt (udt (udt (udt (udt v (58 + 16 * f + 9) 1) (58 + 16 * f + 10) p.toInt64) (58 + 16 * f + 11) s) (58 + 16 * f + 12) (v 0)) (58 + 16 * f + 13) 0) (58 + 16 * f + 14) 0) (58 + 16 * f + 15) 0
def rqS (S : St) (ad : Nat → Nat) (b mo f : Nat) (p : Int32) (s : Int64) : St := uI (uI (uJ (uI (uI (uI S (ad (b + 27)) f 1) (ad (b + 28)) f (nI mo)) (ad (b + 29)) f p) (ad (b + 30)) f s) (ad (b + 31)) f 0) (ad (b + 32)) f 0
theorem rqV_n {f : Nat} {p : Int32} {s : Int64} {i : Nat} (h : i < 58 + 16 * f + 9 ∨ 58 + 16 * f + 15 < i) : rqV v f p s i = v i := by
  unfold rqV
  rw [udt_n (by omega), udt_n (by omega), udt_n (by omega), udt_n (by omega), udt_n (by omega), udt_n (by omega), udt_n (by omega)]
theorem Ch_req (t0 : TR S ad) (hb : b = 40 ∨ b = 80) (f : Nat) (p : Int32) (s : Int64) : Ch S (rqS S ad b mo f p s) ad (fun p => ∃ q, (27 ≤ q ∧ q ≤ 32) ∧ p = b + q) := by
  unfold rqS
  have t1 := TR_SR0 (SR0_uI S (ad (b + 27)) f 1) t0
  have t2 := TR_SR0 (SR0_uI _ (ad (b + 28)) f (nI mo)) t1
  have t3 := TR_SR0 (SR0_uI _ (ad (b + 29)) f p) t2
  have t4 := TR_SR0 (SR0_uJ _ (ad (b + 30)) f s) t3
  have t5 := TR_SR0 (SR0_uI _ (ad (b + 31)) f 0) t4
  exact (((((Ch_uI t0 (by omega) ⟨27, by omega, rfl⟩).tr (Ch_uI t1 (by omega) ⟨28, by omega, rfl⟩)).tr (Ch_uI t2 (by omega) ⟨29, by omega, rfl⟩)).tr (Ch_uJ t3 ⟨30, by omega, rfl⟩)).tr (Ch_uI t4 (by omega) ⟨31, by omega, rfl⟩)).tr (Ch_uI t5 (by omega) ⟨32, by omega, rfl⟩)
theorem MK_req (c : CV S ad b v np nf no mo) {f : Nat} (hf : f < nf) (p : Int32) (s : Int64) : MK S (rqS S ad b mo f p s) ad b v (rqV v f p s) np nf no mo := by
  have h8 := c.hf
  have hm := c.hm
  have f8 : f < 8 := by omega
  have ch := Ch_req (mo := mo) c.t c.2.1 f p s
  have hn : ∀ g q, q < 9 → rqV v f p s (58 + 16 * g + q) = v (58 + 16 * g + q) := fun g q hq => by
    by_cases e : g = f
    · subst e; exact rqV_n (by omega)
    · exact rqV_n (by omega)
  refine MK_F2 c (ch.mono (fun p ⟨q, hq, e⟩ => ⟨q, by omega, e⟩)) (fun i hi => rqV_n (by omega)) (fun g q hg hq => hn g q (by omega)) ?_ (fun g hg => ?_)
  · exact AXF_w (fun g q hg hq => hn g q (by omega)) (AXF_c (fun q hq => ch.2.1 _ (by omega) (by rintro ⟨q', hq', e⟩; omega)) c.F)
  · have a := c.R g hg
    by_cases e : g = f
    · subst e
      have e9 : rqV v g p s (58 + 16 * g + 9) = 1 := by unfold rqV; rw [udt_n (by omega), udt_n (by omega), udt_n (by omega), udt_n (by omega), udt_n (by omega), udt_n (by omega), udt_e]
      have e10 : rqV v g p s (58 + 16 * g + 10) = p.toInt64 := by unfold rqV; rw [udt_n (by omega), udt_n (by omega), udt_n (by omega), udt_n (by omega), udt_n (by omega), udt_e]
      have e11 : rqV v g p s (58 + 16 * g + 11) = s := by unfold rqV; rw [udt_n (by omega), udt_n (by omega), udt_n (by omega), udt_n (by omega), udt_e]
      have e12 : rqV v g p s (58 + 16 * g + 12) = v 0 := by unfold rqV; rw [udt_n (by omega), udt_n (by omega), udt_n (by omega), udt_e]
      have e13 : rqV v g p s (58 + 16 * g + 13) = 0 := by unfold rqV; rw [udt_n (by omega), udt_n (by omega), udt_e]
      have e14 : rqV v g p s (58 + 16 * g + 14) = 0 := by unfold rqV; rw [udt_n (by omega), udt_e]
      have e15 : rqV v g p s (58 + 16 * g + 15) = 0 := by unfold rqV; rw [udt_e]
      rw [e9, e10, e11, e12, e13, e14, e15]
      simp only [rqS, gI_i c.t.1, gJ_i c.t.1, gI_uJ, gJ_uI]
      have n : ∀ x y, x ≠ y → ¬ (b + x = b + y) := fun x y h => by omega
      simp only [n 27 32 (by decide), n 27 31 (by decide), n 27 29 (by decide), n 27 28 (by decide), n 28 32 (by decide), n 28 31 (by decide), n 28 29 (by decide), n 29 32 (by decide), n 29 31 (by decide), n 31 32 (by decide), and_self, true_and, false_and, if_true, if_false]
      exact ⟨rfl, fun _ => ⟨mo, Nat.le_refl _, rfl, c.m.2.2.2.2.2.1⟩, fun _ => VOT_0⟩
    · have hg2 : ∀ q, 9 ≤ q ∧ q ≤ 15 → rqV v f p s (58 + 16 * g + q) = v (58 + 16 * g + q) := fun q hq => rqV_n (by omega)
      rw [hg2 9 (by omega), hg2 10 (by omega), hg2 11 (by omega), hg2 12 (by omega), hg2 13 (by omega), hg2 14 (by omega), hg2 15 (by omega)]
      simp only [rqS, gI_i c.t.1, gJ_i c.t.1, gI_uJ, gJ_uI, e, and_false, if_false]
      exact a
theorem C_begin (c : CV S ad b v np nf no mo) {f : Nat} (hf : f < nf) (p : Int32) (s : Int64) : f_X10_begin S (ad (b + 5)) (nI f) (nI mo) p s = some (rqS S ad b mo f p s) := by
  have h8 := c.hf
  have f8 : f < 8 := by omega
  have hb := c.hb
  have t0 := c.t
  have t1 := TR_SR0 (SR0_uI S (ad (b + 27)) f 1) t0
  have t2 := TR_SR0 (SR0_uI _ (ad (b + 28)) f (nI mo)) t1
  have t3 := TR_SR0 (SR0_uI _ (ad (b + 29)) f p) t2
  have t4 := TR_SR0 (SR0_uJ _ (ad (b + 30)) f s) t3
  have t5 := TR_SR0 (SR0_uI _ (ad (b + 31)) f 0) t4
  simp only [f_X10_begin, lt_e, r_b5_0 t0 hb, sb27 t0 hb f8, r_b5_1 t1 hb, sb28 t1 hb f8, r_b5_2 t2 hb, sb29 t2 hb f8, r_b5_3 t3 hb, sb30 t3 hb f8, r_b5_4 t4 hb, sb31 t4 hb f8, r_b5_5 t5 hb, sb32 t5 hb f8, rqS]
def mayT (v : Nat → Int64) (f : Nat) (p : Int32) : Bool := act v f && !opn v f && decide (v (58 + 16 * f + 4) ≤ 0) && decide (v 10 ≤ p.toInt64)
theorem C_may (c : CV S ad b v np nf no mo) {f : Nat} (hf : f < nf) (p : Int32) : f_X1_mayTransfer S (ad b) (nI f) p = some (bI (mayT v f p)) := by
  have h8 := c.hf
  have e10 := c.T.2.2.2.2.2.2.2.1
  simp only [f_X1_mayTransfer, lt_e, jn_e, r_b0_3 c.t c.hb, r_b0_4 c.t c.hb, r_b0_0 c.t c.hb, C_act c hf, C_openT c hf, cl_s, if_bI, r_b4_7 c.t c.hb, lb26 c.t c.hb (show f < 8 by omega), ← (c.F f hf).2.2.2.1, mayT, e10, tl_le]
  cases act v f
  · rfl
  · cases opn v f
    · by_cases h1 : v (58 + 16 * f + 4) ≤ 0
      · by_cases h2 : gI S (ad (b + 1)) 11 ≤ p
        · simp [h1, h2, Int64.not_lt.mpr h1, Int32.not_lt.mpr h2, bI]
        · simp [h1, h2, Int64.not_lt.mpr h1, Int32.not_le.mp h2, bI]
      · simp [h1, Int64.not_le.mp h1, bI]
    · simp [bI]
theorem wo_cases {α : Type} (r : Int32) (x y : α) : (if r < 0 then x else if 999 < r then x else y) = if vin r 1000 then y else x := by
  rw [← vin_cases r (n := 1000) (by decide) x y]
  have : (999 < r) ↔ nI 1000 ≤ r := by
    rw [Int32.lt_iff_toInt_lt, Int32.le_iff_toInt_le]
    show (999 : Int) < _ ↔ (1000 : Int) ≤ _
    omega
  simp only [this]
theorem Q_requestTransfer (c : CV S ad b v np nf no mo) (p q : Int32) (s : Int64) : QM S ad b v np nf no mo [(1, 1), (2, 2)] (f_X11_requestTransfer S (ad 0) p q s) (fun S' => f_X12_requestTransfer S' (ad 1) p q s) := by
  have hf8 := c.hf
  have e6 : (decide ((0 : Int64) ≤ q.toInt64) && decide (q.toInt64 ≤ 999)) = vin q 1000 := rng_vin q (n := 1000) (by decide)
  cases hB : vin p nf
  · refine Or.inr ⟨1, 1, by simp, by simp [f_X11_requestTransfer, C_reqF c, hB, clx_r], fun S' h => ⟨0, ?_⟩⟩
    simp [f_X12_requestTransfer, lt_e, M_isFr (Mv_t h (ad 1) 2 0), cl_s, jn_n, if_bI, hB, M_throws1, uI_uI]
  · cases hC : vin q 1000
    · refine Or.inr ⟨2, 2, by simp, by simp only [f_X11_requestTransfer, C_reqF c, hB, if_true, clx_l, jn_n, wo_cases, hC, C_reqA0, clx_r]; rfl, fun S' h => ⟨0, ?_⟩⟩
      simp only [f_X12_requestTransfer, lt_e, M_isFr (Mv_t h (ad 1) 2 0), cl_s, jn_n, if_bI, hB, M_inRange, e6, hC, M_throws0, M_throws1, uI_uI]
      rfl
    · cases hD : (decide ((0 : Int64) ≤ s) && decide (s ≤ 1000000000))
      · refine Or.inr ⟨2, 2, by simp, by simp only [f_X11_requestTransfer, C_reqF c, hB, if_true, clx_l, jn_n, wo_cases, hC, big_cases, hD, C_reqA0, C_reqA1, clx_r]; rfl, fun S' h => ⟨0, ?_⟩⟩
        simp only [f_X12_requestTransfer, lt_e, M_isFr (Mv_t h (ad 1) 2 0), cl_s, jn_n, if_bI, hB, M_inRange, e6, hC, hD, M_throws0, M_throws1, uI_uI]
        rfl
      · obtain ⟨f, hf, rfl⟩ := vin_of (by omega) hB
        have f8 : f < 8 := by omega
        cases hM : mayT v f q
        · refine Or.inl ⟨0, S, v, no, mo, ?_, MK.rf c, fun S' h => ⟨_, ?_, RK.rf h⟩⟩
          · simp only [f_X11_requestTransfer, C_reqF c, hB, if_true, clx_l, jn_n, wo_cases, hC, big_cases, hD, C_reqA1, lt_e, c.r, C_may c hf, hM, cl_s, if_bI]
            rfl
          · have h1 := Mv_t h (ad 1) 2 0
            simp only [f_X12_requestTransfer, lt_e, M_isFr h1, cl_s, jn_n, if_bI, hB, M_inRange, e6, hC, hD, M_throws0, if_true, M_act h1 f8, M_openT h1 f8, M_of4 h1 f8, r_1_0 h1.1, ld_10 h1]
            rw [mayT] at hM
            cases h2 : act v f
            · rfl
            · cases h3 : opn v f
              · by_cases h4 : v (58 + 16 * f + 4) ≤ 0
                · by_cases h5 : v 10 ≤ q.toInt64
                  · simp [h2, h3, h4, h5] at hM
                  · simp [h5]
                · simp [Int64.not_le.mp h4]
              · rfl
        · refine Or.inl ⟨1, _, _, no, mo, ?_, MK_req c hf q s, fun S' h => ⟨_, ?_, RK_3 (RK_3 (RK_3 (RK_3 (RK_3 (RK_3 (RK_3 (RK.rf h) h.1) h.1) h.1) h.1) h.1) h.1) h.1⟩⟩
          · simp only [f_X11_requestTransfer, C_reqF c, hB, if_true, clx_l, jn_n, wo_cases, hC, big_cases, hD, C_reqA1, lt_e, c.r, C_may c hf, hM, cl_s, if_bI, r_b0_4 c.t c.hb, r_b0_5 c.t c.hb, c.B.1, C_begin c hf]
          · have h1 := Mv_t h (ad 1) 2 0
            have h2 := Mv_3 h1 (k := 58 + 16 * f + 9) (w := 1) (by omega)
            have h3 := Mv_3 h2 (k := 58 + 16 * f + 10) (w := q.toInt64) (by omega)
            have h4 := Mv_3 h3 (k := 58 + 16 * f + 11) (w := s) (by omega)
            have h5 := Mv_3 h4 (k := 58 + 16 * f + 12) (w := v 0) (by omega)
            have h6 := Mv_3 h5 (k := 58 + 16 * f + 13) (w := 0) (by omega)
            have h7 := Mv_3 h6 (k := 58 + 16 * f + 14) (w := 0) (by omega)
            rw [mayT, Bool.and_eq_true, Bool.and_eq_true, Bool.and_eq_true, Bool.not_eq_true', decide_eq_true_eq, decide_eq_true_eq] at hM
            obtain ⟨⟨⟨g1, g2⟩, g3⟩, g4⟩ := hM
            have e0 : udt (udt (udt v (58 + 16 * f + 9) 1) (58 + 16 * f + 10) q.toInt64) (58 + 16 * f + 11) s 0 = v 0 := by rw [udt_n (by omega), udt_n (by omega), udt_n (by omega)]
            simp only [f_X12_requestTransfer, lt_e, M_isFr h1, cl_s, jn_n, if_bI, hB, M_inRange, e6, hC, hD, M_throws0, if_true, M_act h1 f8, M_openT h1 f8, M_of4 h1 f8, r_1_0 h1.1, ld_10 h1, g1, g2, Bool.false_eq_true, if_false, Int64.not_lt.mpr g3, g4, M_set h1 f8 (q := 9) (i := 9) (by decide) rfl, M_set h2 f8 (q := 10) (i := 10) (by decide) rfl, M_set h3 f8 (q := 11) (i := 11) (by decide) rfl, r_1_0 h4.1, ld_0 h4, e0, M_set h4 f8 (q := 12) (i := 12) (by decide) rfl, M_set h5 f8 (q := 13) (i := 13) (by decide) rfl, M_set h6 f8 (q := 14) (i := 14) (by decide) rfl, M_set h7 f8 (q := 15) (i := 15) (by decide) rfl]
