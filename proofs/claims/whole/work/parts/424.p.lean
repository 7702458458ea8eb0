/-! the pure part: predictDue -/
variable {S S' S'' : St} {ad : Nat → Nat} {b d j k : Nat} {v v' : Nat → Int64} {np nf no mo no' mo' : Nat}
theorem CV.tiers (c : CV S ad b v np nf no mo) : ∀ p, p < np → ∃ t, t ≤ 4 ∧ v (14 + 11 * p + 2) = lN t := fun _ hp => C_tiers c hp
theorem pc_cases {α : Type} (r : Int32) (x y : α) : (if r < 0 then x else if 300 < r then x else y) = if vin r 301 then y else x := by
  rw [← vin_cases r (n := 301) (by decide) x y]
  have : (300 < r) ↔ nI 301 ≤ r := by
    rw [Int32.lt_iff_toInt_lt, Int32.le_iff_toInt_le]
    show (300 : Int) < _ ↔ (301 : Int) ≤ _
    omega
  simp only [this]
theorem Mv_p (h : Mv S ad v np nf no mo) {p n : Nat} (hp : p ≠ 3) (g : Nat → Int64) : Mv (pJ S (ad p) n g) ad v np nf no mo := by
  refine ⟨TR_SR0 (SR0_pJ _ _ _ _) h.1, ?_, h.2.2⟩
  rw [← h.2.1]
  funext i
  rw [gJ_pJ, if_neg]; intro e; exact hp ((h.1.1 _ _).mp e.1).symm
theorem W_36 : StpW ad f_law_36 := by
  intro Ls xs S c i ⟨b, d, j, k, v, np, nf, no, mo, r⟩ hi hL hc
  have cv := r.1
  have t := cv.t
  have h8 := cv.hf
  have hb := cv.2.1
  have s1 : ∀ (β : Type) (k : Int32 → Option β), sx Ls xs (nI i + 1) k = k (xs (i + 1)) := fun β k => by rw [da1, sx_at hL (by omega)]
  have s2 : ∀ (β : Type) (k : Int32 → Option β), sx Ls xs (nI i + 2) k = k (xs (i + 2)) := fun β k => by rw [da2, sx_at hL (by omega)]
  generalize xs (i + 1) = p at s1
  generalize xs (i + 2) = q at s2
  have e6 : (decide ((0 : Int64) ≤ q.toInt64) && decide (q.toInt64 ≤ 300)) = vin q 301 := rng_vin q (n := 301) (by decide)
  cases hB : vin p nf
  · have hx : f_X11_predictDue S (ad 0) p q = some (.inr 1) := by simp [f_X11_predictDue, C_reqF cv, hB, clx_r]
    have hz : f_X12_predictDue S (ad 1) p q = some (0, uI S (ad 1) 2 1) := by
      simp [f_X12_predictDue, lt_e, M_isFr (Mv_t r.m (ad 1) 2 0), cl_s, jn_e, if_bI, hB, M_throws1, uI_uI]
    refine ⟨_, c + 1, REL_t r 1, Nat.le_refl _, fun kont => ?_⟩
    simp only [f_law_36, f_L_predictDue, s1, s2, hx, hz, clc_r, cl_s, bud_ok hc, thrown_e, jn_e, if_true, if_false, Nat.add_zero, reduceIte, i10, i20, i30, n21, n31, n32]
  · cases hC : vin q 301
    · have hx : f_X11_predictDue S (ad 0) p q = some (.inr 2) := by simp [f_X11_predictDue, C_reqF cv, hB, clx_l, jn_e, pc_cases, hC, C_reqA0, clx_r]
      have hz : f_X12_predictDue S (ad 1) p q = some (0, uI S (ad 1) 2 2) := by
        simp only [f_X12_predictDue, lt_e, M_isFr (Mv_t r.m (ad 1) 2 0), cl_s, jn_e, if_bI, hB, M_inRange, e6, hC, M_throws0, M_throws1, uI_uI]
        rfl
      refine ⟨_, c + 1, REL_t r 2, Nat.le_refl _, fun kont => ?_⟩
      simp only [f_law_36, f_L_predictDue, s1, s2, hx, hz, clc_r, cl_s, bud_ok hc, thrown_e, jn_e, if_true, if_false, Nat.add_zero, reduceIte, i10, i20, i30, n21, n31, n32]
    · obtain ⟨f, hf, rfl⟩ := vin_of (by omega) hB
      have hx : f_X11_predictDue S (ad 0) (nI f) q = some (.inl (am v nf f (sls v no (nI f) q) 5, pJ S (ad (b + 7)) 7 (am v nf f (sls v no (nI f) q)))) := by
        have t1 := (CV_p7 cv 7 (am v nf f (sls v no (nI f) q))).t
        have r1 := (CV_p7 cv 7 (am v nf f (sls v no (nI f) q))).r
        simp only [f_X11_predictDue, C_reqF cv, hB, if_true, clx_l, jn_e, pc_cases, hC, C_reqA1, lt_e, cv.r, r_b0_2 t cv.hb, C_scaled cv, cl_s, C_calc cv hf, r1, r_b0_6 t1 cv.hb, lr7 t cv.hb (i := 5) (n := 5) rfl (by decide)]
      have hy : ∀ S', Mv S' ad v np nf no mo → f_X12_predictDue S' (ad 1) (nI f) q = some (am v nf f (sls v no (nI f) q) 5, pJ (uI S' (ad 1) 2 0) (ad 7) 7 (am v nf f (sls v no (nI f) q))) := fun S' h => by
        have h1 := Mv_t h (ad 1) 2 0
        have h2 := Mv_p7 h1 7 (am v nf f (sls v no (nI f) q))
        simp only [f_X12_predictDue, lt_e, M_isFr h1, cl_s, jn_e, if_bI, hB, M_inRange, e6, hC, M_throws0, if_true, M_salesNow h1, M_calc h1 cv.hp cv.tiers cv.w hf, r_1_5 h2.1, lq7 h1.1 (i := 5) (n := 5) rfl (by decide)]
      generalize am v nf f (sls v no (nI f) q) = g at hx hy
      have t1 : TR (pJ S (ad (b + 7)) 7 g) ad := TR_SR0 (SR0_pJ _ _ _ _) t
      have m2 : Mv (uJ (pJ S (ad (b + 7)) 7 g) (ad 2) 0 (g 5)) ad v np nf no mo := Mv_o (Mv_p r.m (by omega) g) 0 _
      have hz := hy _ m2
      refine ⟨pJ (uI (uJ (pJ S (ad (b + 7)) 7 g) (ad 2) 0 (g 5)) (ad 1) 2 0) (ad 7) 7 g, c, ⟨b, d, j, k, v, np, nf, no, mo, RE_scr r ?_⟩, by omega, fun kont => ?_⟩
      · exact (((Ch_pJ t (Or.inr (Or.inr (Or.inr (Or.inr ⟨7, by omega, rfl⟩))))).tr (Ch_uJ t1 (Or.inl rfl))).tr (Ch_t m2.1)).tr (Ch_pJ (Mv_t m2 (ad 1) 2 0).1 (by omega))
      · have ht : f_X12_thrown (pJ (uI (uJ (pJ S (ad (b + 7)) 7 g) (ad 2) 0 (g 5)) (ad 1) 2 0) (ad 7) 7 g) (ad 1) = some 0 := by
          simp [f_X12_thrown, lt_e, gI_pJ, gI_uI]
        have hl : ∀ (β : Type) (k : Int64 → Option β), ldJ (pJ (uI (uJ (pJ S (ad (b + 7)) 7 g) (ad 2) 0 (g 5)) (ad 1) 2 0) (ad 7) 7 g) (ad 2) 0 k = k (g 5) := fun β k => by
          refine (ldJ_at (n := 0) ?_ ?_).trans ?_
          · rw [gN_pJ, gN_uI, gN_uJ, gN_pJ, n_2 t]; decide
          · rw [gN_pJ, gN_uI, gN_uJ, gN_pJ, n_2 t]; decide
          · rw [gJ_pJ, if_neg (fun e => absurd ((t.1 _ _).mp e.1) (by decide)), gJ_uI, gJ_uJ, if_pos ⟨rfl, rfl⟩]
        simp only [f_law_36, f_L_predictDue, s1, s2, hx, hz, clc_l, cl_s, bud_ok (show c ≤ 512 by omega), ht, jn_e, st_o t1, hl, if_true, if_false, Nat.add_zero, reduceIte, i10, i20, i30, n21, n31, n32]
