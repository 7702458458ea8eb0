/-! the pure part: the law's cases of these queries -/
variable {S S' : St} {ad : Nat → Nat} {b d j k : Nat} {v : Nat → Int64} {np nf no mo : Nat}
theorem W_12 : StpW ad f_law_12 := by
  intro Ls xs S c i ⟨b, d, j, k, v, np, nf, no, mo, r⟩ hi hL hc
  have cv := r.1
  have t := cv.t
  have s1 : ∀ (β : Type) (k : Int32 → Option β), sx Ls xs (nI i + 1) k = k (xs (i + 1)) := fun β k => by rw [da1, sx_at hL (by omega)]
  rcases Q_perimeter cv (xs (i + 1)) with ⟨w, hx, hy⟩ | ⟨hx, hy⟩
  · refine ⟨_, c, REL_q r (w.toInt64) 0, by omega, fun kont => ?_⟩
    have hz := hy _ (Mv_o r.m 0 (w.toInt64))
    simp only [f_law_12, f_L_perimeter, s1, hx, hz, clc_l, cl_s, bud_ok (show c ≤ 512 by omega), thrown_e, jn_e, st_o t, ld_o t, if_true, if_false, Nat.add_zero, reduceIte, i10, i20, i30, n21, n31, n32]
  · obtain ⟨z, hz⟩ := hy _ r.m
    refine ⟨_, c + 1, REL_t r 1, Nat.le_refl _, fun kont => ?_⟩
    simp only [f_law_12, f_L_perimeter, s1, hx, hz, clc_r, cl_s, bud_ok hc, thrown_e, jn_e, if_true, if_false, Nat.add_zero, reduceIte, i10, i20, i30, n21, n31, n32]
theorem W_13 : StpW ad f_law_13 := by
  intro Ls xs S c i ⟨b, d, j, k, v, np, nf, no, mo, r⟩ hi hL hc
  have cv := r.1
  have t := cv.t
  have s1 : ∀ (β : Type) (k : Int32 → Option β), sx Ls xs (nI i + 1) k = k (xs (i + 1)) := fun β k => by rw [da1, sx_at hL (by omega)]
  have s2 : ∀ (β : Type) (k : Int32 → Option β), sx Ls xs (nI i + 2) k = k (xs (i + 2)) := fun β k => by rw [da2, sx_at hL (by omega)]
  rcases Q_border cv (xs (i + 1)) (xs (i + 2)) with ⟨w, hx, hy⟩ | ⟨hx, hy⟩
  · refine ⟨_, c, REL_q r (w.toInt64) 0, by omega, fun kont => ?_⟩
    have hz := hy _ (Mv_o r.m 0 (w.toInt64))
    simp only [f_law_13, f_L_border, s1, s2, hx, hz, clc_l, cl_s, bud_ok (show c ≤ 512 by omega), thrown_e, jn_e, st_o t, ld_o t, if_true, if_false, Nat.add_zero, reduceIte, i10, i20, i30, n21, n31, n32]
  · obtain ⟨z, hz⟩ := hy _ r.m
    refine ⟨_, c + 1, REL_t r 1, Nat.le_refl _, fun kont => ?_⟩
    simp only [f_law_13, f_L_border, s1, s2, hx, hz, clc_r, cl_s, bud_ok hc, thrown_e, jn_e, if_true, if_false, Nat.add_zero, reduceIte, i10, i20, i30, n21, n31, n32]
theorem W_15 : StpW ad f_law_15 := by
  intro Ls xs S c i ⟨b, d, j, k, v, np, nf, no, mo, r⟩ hi hL hc
  have cv := r.1
  have t := cv.t
  have s1 : ∀ (β : Type) (k : Int32 → Option β), sx Ls xs (nI i + 1) k = k (xs (i + 1)) := fun β k => by rw [da1, sx_at hL (by omega)]
  have s2 : ∀ (β : Type) (k : Int32 → Option β), sx Ls xs (nI i + 2) k = k (xs (i + 2)) := fun β k => by rw [da2, sx_at hL (by omega)]
  have s3 : ∀ (β : Type) (k : Int32 → Option β), sx Ls xs (nI i + 3) k = k (xs (i + 3)) := fun β k => by rw [da3, sx_at hL (by omega)]
  rcases Q_distance cv (xs (i + 1)) (xs (i + 2)) (xs (i + 3)) with ⟨w, hx, hy⟩ | ⟨hx, hy⟩ | ⟨hx, hy⟩
  · refine ⟨_, c, REL_q r (w.toInt64) 0, by omega, fun kont => ?_⟩
    have hz := hy _ (Mv_o r.m 0 (w.toInt64))
    simp only [f_law_15, f_L_distance, s1, s2, s3, hx, hz, clc_l, cl_s, bud_ok (show c ≤ 512 by omega), thrown_e, jn_e, st_o t, ld_o t, if_true, if_false, Nat.add_zero, reduceIte, i10, i20, i30, n21, n31, n32]
  · obtain ⟨z, hz⟩ := hy _ r.m
    refine ⟨_, c + 1, REL_t r 1, Nat.le_refl _, fun kont => ?_⟩
    simp only [f_law_15, f_L_distance, s1, s2, s3, hx, hz, clc_r, cl_s, bud_ok hc, thrown_e, jn_e, if_true, if_false, Nat.add_zero, reduceIte, i10, i20, i30, n21, n31, n32]
  · obtain ⟨z, hz⟩ := hy _ r.m
    refine ⟨_, c + 1, REL_t r 2, Nat.le_refl _, fun kont => ?_⟩
    simp only [f_law_15, f_L_distance, s1, s2, s3, hx, hz, clc_r, cl_s, bud_ok hc, thrown_e, jn_e, if_true, if_false, Nat.add_zero, reduceIte, i10, i20, i30, n21, n31, n32]
theorem W_20 : StpW ad f_law_20 := by
  intro Ls xs S c i ⟨b, d, j, k, v, np, nf, no, mo, r⟩ hi hL hc
  have cv := r.1
  have t := cv.t
  have s1 : ∀ (β : Type) (k : Int32 → Option β), sx Ls xs (nI i + 1) k = k (xs (i + 1)) := fun β k => by rw [da1, sx_at hL (by omega)]
  rcases Q_bestSite cv (xs (i + 1)) with ⟨w, hx, hy⟩ | ⟨hx, hy⟩
  · refine ⟨_, c, REL_q r (w.toInt64) 0, by omega, fun kont => ?_⟩
    have hz := hy _ (Mv_o r.m 0 (w.toInt64))
    simp only [f_law_20, f_L_bestSite, s1, hx, hz, clc_l, cl_s, bud_ok (show c ≤ 512 by omega), thrown_e, jn_e, st_o t, ld_o t, if_true, if_false, Nat.add_zero, reduceIte, i10, i20, i30, n21, n31, n32]
  · obtain ⟨z, hz⟩ := hy _ r.m
    refine ⟨_, c + 1, REL_t r 1, Nat.le_refl _, fun kont => ?_⟩
    simp only [f_law_20, f_L_bestSite, s1, hx, hz, clc_r, cl_s, bud_ok hc, thrown_e, jn_e, if_true, if_false, Nat.add_zero, reduceIte, i10, i20, i30, n21, n31, n32]
theorem W_21 : StpW ad f_law_21 := by
  intro Ls xs S c i ⟨b, d, j, k, v, np, nf, no, mo, r⟩ hi hL hc
  have cv := r.1
  have t := cv.t
  have s1 : ∀ (β : Type) (k : Int32 → Option β), sx Ls xs (nI i + 1) k = k (xs (i + 1)) := fun β k => by rw [da1, sx_at hL (by omega)]
  have s2 : ∀ (β : Type) (k : Int32 → Option β), sx Ls xs (nI i + 2) k = k (xs (i + 2)) := fun β k => by rw [da2, sx_at hL (by omega)]
  rcases Q_coverage cv (xs (i + 1)) (xs (i + 2)) with ⟨w, hx, hy⟩ | ⟨hx, hy⟩ | ⟨hx, hy⟩
  · refine ⟨_, c, REL_q r (w.toInt64) 0, by omega, fun kont => ?_⟩
    have hz := hy _ (Mv_o r.m 0 (w.toInt64))
    simp only [f_law_21, f_L_coverage, s1, s2, hx, hz, clc_l, cl_s, bud_ok (show c ≤ 512 by omega), thrown_e, jn_e, st_o t, ld_o t, if_true, if_false, Nat.add_zero, reduceIte, i10, i20, i30, n21, n31, n32]
  · obtain ⟨z, hz⟩ := hy _ r.m
    refine ⟨_, c + 1, REL_t r 1, Nat.le_refl _, fun kont => ?_⟩
    simp only [f_law_21, f_L_coverage, s1, s2, hx, hz, clc_r, cl_s, bud_ok hc, thrown_e, jn_e, if_true, if_false, Nat.add_zero, reduceIte, i10, i20, i30, n21, n31, n32]
  · obtain ⟨z, hz⟩ := hy _ r.m
    refine ⟨_, c + 1, REL_t r 2, Nat.le_refl _, fun kont => ?_⟩
    simp only [f_law_21, f_L_coverage, s1, s2, hx, hz, clc_r, cl_s, bud_ok hc, thrown_e, jn_e, if_true, if_false, Nat.add_zero, reduceIte, i10, i20, i30, n21, n31, n32]
theorem W_22 : StpW ad f_law_22 := by
  intro Ls xs S c i ⟨b, d, j, k, v, np, nf, no, mo, r⟩ hi hL hc
  have cv := r.1
  have t := cv.t
  have s1 : ∀ (β : Type) (k : Int32 → Option β), sx Ls xs (nI i + 1) k = k (xs (i + 1)) := fun β k => by rw [da1, sx_at hL (by omega)]
  have s2 : ∀ (β : Type) (k : Int32 → Option β), sx Ls xs (nI i + 2) k = k (xs (i + 2)) := fun β k => by rw [da2, sx_at hL (by omega)]
  rcases Q_rivalCells cv (xs (i + 1)) (xs (i + 2)) with ⟨w, hx, hy⟩ | ⟨hx, hy⟩ | ⟨hx, hy⟩
  · refine ⟨_, c, REL_q r (w.toInt64) 0, by omega, fun kont => ?_⟩
    have hz := hy _ (Mv_o r.m 0 (w.toInt64))
    simp only [f_law_22, f_L_rivalCells, s1, s2, hx, hz, clc_l, cl_s, bud_ok (show c ≤ 512 by omega), thrown_e, jn_e, st_o t, ld_o t, if_true, if_false, Nat.add_zero, reduceIte, i10, i20, i30, n21, n31, n32]
  · obtain ⟨z, hz⟩ := hy _ r.m
    refine ⟨_, c + 1, REL_t r 1, Nat.le_refl _, fun kont => ?_⟩
    simp only [f_law_22, f_L_rivalCells, s1, s2, hx, hz, clc_r, cl_s, bud_ok hc, thrown_e, jn_e, if_true, if_false, Nat.add_zero, reduceIte, i10, i20, i30, n21, n31, n32]
  · obtain ⟨z, hz⟩ := hy _ r.m
    refine ⟨_, c + 1, REL_t r 2, Nat.le_refl _, fun kont => ?_⟩
    simp only [f_law_22, f_L_rivalCells, s1, s2, hx, hz, clc_r, cl_s, bud_ok hc, thrown_e, jn_e, if_true, if_false, Nat.add_zero, reduceIte, i10, i20, i30, n21, n31, n32]
theorem W_23 : StpW ad f_law_23 := by
  intro Ls xs S c i ⟨b, d, j, k, v, np, nf, no, mo, r⟩ hi hL hc
  have cv := r.1
  have t := cv.t
  have s1 : ∀ (β : Type) (k : Int32 → Option β), sx Ls xs (nI i + 1) k = k (xs (i + 1)) := fun β k => by rw [da1, sx_at hL (by omega)]
  rcases Q_halvingLine cv (xs (i + 1)) with ⟨w, hx, hy⟩ | ⟨hx, hy⟩
  · refine ⟨_, c, REL_q r (w.toInt64) 0, by omega, fun kont => ?_⟩
    have hz := hy _ (Mv_o r.m 0 (w.toInt64))
    simp only [f_law_23, f_L_halvingLine, s1, hx, hz, clc_l, cl_s, bud_ok (show c ≤ 512 by omega), thrown_e, jn_e, st_o t, ld_o t, if_true, if_false, Nat.add_zero, reduceIte, i10, i20, i30, n21, n31, n32]
  · obtain ⟨z, hz⟩ := hy _ r.m
    refine ⟨_, c + 1, REL_t r 1, Nat.le_refl _, fun kont => ?_⟩
    simp only [f_law_23, f_L_halvingLine, s1, hx, hz, clc_r, cl_s, bud_ok hc, thrown_e, jn_e, if_true, if_false, Nat.add_zero, reduceIte, i10, i20, i30, n21, n31, n32]
theorem W_32 : StpW ad f_law_32 := by
  intro Ls xs S c i ⟨b, d, j, k, v, np, nf, no, mo, r⟩ hi hL hc
  have cv := r.1
  have t := cv.t
  have s1 : ∀ (β : Type) (k : Int32 → Option β), sx Ls xs (nI i + 1) k = k (xs (i + 1)) := fun β k => by rw [da1, sx_at hL (by omega)]
  obtain ⟨w, hx, hy⟩ := Q_ranked cv (xs (i + 1))
  refine ⟨_, c, REL_t r 0, by omega, fun kont => ?_⟩
  simp only [f_law_32, s1, hx, hy _ r.m, cl_s, if_true]
theorem W_50 : StpW ad f_law_50 := by
  intro Ls xs S c i ⟨b, d, j, k, v, np, nf, no, mo, r⟩ hi hL hc
  have cv := r.1
  have t := cv.t
  have s1 : ∀ (β : Type) (k : Int32 → Option β), sx Ls xs (nI i + 1) k = k (xs (i + 1)) := fun β k => by rw [da1, sx_at hL (by omega)]
  rcases Q_nationalShare cv (xs (i + 1)) with ⟨w, hx, hy⟩ | ⟨hx, hy⟩
  · refine ⟨_, c, REL_q r (w) 0, by omega, fun kont => ?_⟩
    have hz := hy _ (Mv_o r.m 0 (w))
    simp only [f_law_50, f_L_nationalShare, s1, hx, hz, clc_l, cl_s, bud_ok (show c ≤ 512 by omega), thrown_e, jn_e, st_o t, ld_o t, if_true, if_false, Nat.add_zero, reduceIte, i10, i20, i30, n21, n31, n32]
  · obtain ⟨z, hz⟩ := hy _ r.m
    refine ⟨_, c + 1, REL_t r 1, Nat.le_refl _, fun kont => ?_⟩
    simp only [f_law_50, f_L_nationalShare, s1, hx, hz, clc_r, cl_s, bud_ok hc, thrown_e, jn_e, if_true, if_false, Nat.add_zero, reduceIte, i10, i20, i30, n21, n31, n32]
theorem W_3 : StpW ad f_law_3 := by
  intro Ls xs S c i ⟨b, d, j, k, v, np, nf, no, mo, r⟩ hi hL hc
  obtain ⟨-, -, -, -, -, -, -, -, er, -⟩ := id r
  refine ⟨_, c, REL_t r 0, by omega, fun kont => ?_⟩
  simp [f_law_3, f_X11_errorCode, f_X12_errorCode, lt_e, cl_s, gI_uI, er.1]
theorem W_4 : StpW ad f_law_4 := by
  intro Ls xs S c i ⟨b, d, j, k, v, np, nf, no, mo, r⟩ hi hL hc
  obtain ⟨-, -, -, -, -, -, -, -, er, -⟩ := id r
  refine ⟨_, c, REL_t r 0, by omega, fun kont => ?_⟩
  simp [f_law_4, f_X11_errorPosition, f_X12_errorPosition, lt_e, cl_s, gI_uI, er.2]
theorem W_8 : StpW ad f_law_8 := by
  intro Ls xs S c i ⟨b, d, j, k, v, np, nf, no, mo, r⟩ hi hL hc
  have cv := r.1
  have t := cv.t
  have s1 : ∀ (β : Type) (k : Int32 → Option β), sx Ls xs (nI i + 1) k = k (xs (i + 1)) := fun β k => by rw [da1, sx_at hL (by omega)]
  obtain ⟨-, -, -, -, r7, -, -, -, -, -, jr, -, -⟩ := id r
  obtain ⟨sz, nx, -, -, j1, j2, j3, j4, -⟩ := jr
  have m1 := Mv_t r.m (ad 1) 2 0
  refine ⟨_, c, REL_t r 0, by omega, fun kont => ?_⟩
  simp only [f_law_8, s1, f_X11_count, f_X12_count, lt_e, cv.r, r_b0_0 t cv.hb, r_b0_3 t cv.hb, r_b0_2 t cv.hb, cv.T.1, cv.N.1, cv.O.1, r7, f_X5_left, j1, j2, r_1_0 m1.1, ld_1 m1, ld_2 m1, ld_3 m1, r.m.2.2.1, r.m.2.2.2.1, r.m.2.2.2.2.1, lN_i, gI_uI, cl_s]
  have g1 : ¬ (ad 1 = ad 1 ∧ 19 = 2) := fun e => absurd e.2 (by decide)
  have g2 : ¬ (ad 1 = ad 1 ∧ 20 = 2) := fun e => absurd e.2 (by decide)
  simp only [if_neg g1, if_neg g2, j3, j4]
  generalize xs (i + 1) = p
  by_cases h0 : p = 0
  · simp [h0, cl_s]
  · by_cases h1 : p = 1
    · simp [h1, cl_s]
    · by_cases h2 : p = 2
      · simp [h2, cl_s]
      · by_cases h3 : p = 3
        · simp [h3, cl_s]
        · simp [h0, h1, h2, h3, cl_s]
theorem W_62 : StpW ad f_law_62 := by
  intro Ls xs S c i ⟨b, d, j, k, v, np, nf, no, mo, r⟩ hi hL hc
  have cv := r.1
  have t := cv.t
  have s1 : ∀ (β : Type) (k : Int32 → Option β), sx Ls xs (nI i + 1) k = k (xs (i + 1)) := fun β k => by rw [da1, sx_at hL (by omega)]
  obtain ⟨-, -, -, -, -, -, -, -, -, fm, -⟩ := id r
  obtain ⟨n, hn, f1, f2, f3⟩ := fm
  have m1 := Mv_t r.m (ad 1) 2 0
  refine ⟨_, c, REL_t r 0, by omega, fun kont => ?_⟩
  have g1 : ¬ (ad 1 = ad 1 ∧ 7 = 2) := fun e => absurd e.2 (by decide)
  have f4 : gI (uI S (ad 1) 2 0) (ad 1) 7 = nI n := by rw [gI_uI, if_neg g1, f2]
  simp only [f_law_62, s1, f_X11_formattedByte, f_X12_formattedByte, lt_e, jn_e, r_0_1 t, r_14_0 t, f1, r_1_6 m1.1, f4, M_inRange, cl_s, if_bI]
  generalize xs (i + 1) = p
  rw [vin_cases2 p (show n < 2 ^ 31 by omega)]
  have e6 : (decide ((0 : Int64) ≤ p.toInt64) && decide (p.toInt64 ≤ Int32.toInt64 (nI n - 1))) = vin p n := by
    rw [← rng_vin p (show n < 2 ^ 31 by omega)]
    congr 2
    by_cases h0 : n = 0
    · subst h0; rfl
    · obtain ⟨m, rfl⟩ : ∃ m, n = m + 1 := ⟨n - 1, by omega⟩
      rw [nI_pred, nI_l (by omega), show (1 : Int64) = lN 1 from rfl, lN_sub (by omega)]; rfl
  rw [e6]
  cases hv : vin p n
  · simp [cl_s]
  · obtain ⟨q, hq, rfl⟩ := vin_of (by omega) hv
    simp only [if_true]
    rw [ldI_at (by rw [n_15 t]; omega) (by rw [n_15 t]; decide)]
    simp only [cl_s]
    rw [ldI_at (by rw [n_8 m1.1]; omega) (by rw [n_8 m1.1]; decide)]
    simp only [cl_s]
    rw [(Ag_uI t (p := 1) (q := 8) (by decide) q).1, f3 q hq, if_pos rfl]
