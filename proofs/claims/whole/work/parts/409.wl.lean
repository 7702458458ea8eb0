/-! the pure part: the law's cases of getters -/
variable {S S' : St} {ad : Nat → Nat} {b d j k : Nat} {v : Nat → Int64} {np nf no mo : Nat}
theorem i10 : ((1 : Int32) = 0) = False := by decide
theorem i20 : ((2 : Int32) = 0) = False := by decide
theorem i30 : ((3 : Int32) = 0) = False := by decide
theorem n21 : ((2 : Nat) = 1) = False := by decide
theorem n31 : ((3 : Nat) = 1) = False := by decide
theorem n32 : ((3 : Nat) = 2) = False := by decide
theorem W_17 : StpW ad f_law_17 := by
  intro Ls xs S c i ⟨b, d, j, k, v, np, nf, no, mo, r⟩ hi hL hc
  have cv := r.1
  have t := cv.t
  have s1 : ∀ (β : Type) (k : Int32 → Option β), sx Ls xs (nI i + 1) k = k (xs (i + 1)) := fun β k => by rw [da1, sx_at hL (by omega)]
  rcases Q_outletOwner cv (xs (i + 1)) with ⟨w, hx, hy⟩ | ⟨hx, hy⟩
  · refine ⟨_, c, REL_q r (w.toInt64) 0, by omega, fun kont => ?_⟩
    have hz := hy _ (Mv_o r.m 0 (w.toInt64))
    simp only [f_law_17, f_L_outletOwner, s1, hx, hz, clc_l, cl_s, bud_ok (show c ≤ 512 by omega), thrown_e, jn_e, st_o t, ld_o t, if_true, if_false, Nat.add_zero, reduceIte, i10, i20, i30, n21, n31, n32]
  · obtain ⟨z, hz⟩ := hy _ r.m
    refine ⟨_, c + 1, REL_t r 1, Nat.le_refl _, fun kont => ?_⟩
    simp only [f_law_17, f_L_outletOwner, s1, hx, hz, clc_r, cl_s, bud_ok hc, thrown_e, jn_e, if_true, if_false, Nat.add_zero, reduceIte, i10, i20, i30, n21, n31, n32]
theorem W_25 : StpW ad f_law_25 := by
  intro Ls xs S c i ⟨b, d, j, k, v, np, nf, no, mo, r⟩ hi hL hc
  have cv := r.1
  have t := cv.t
  have s1 : ∀ (β : Type) (k : Int32 → Option β), sx Ls xs (nI i + 1) k = k (xs (i + 1)) := fun β k => by rw [da1, sx_at hL (by omega)]
  rcases Q_planOf cv (xs (i + 1)) with ⟨w, hx, hy⟩ | ⟨hx, hy⟩
  · refine ⟨_, c, REL_q r (w.toInt64) 0, by omega, fun kont => ?_⟩
    have hz := hy _ (Mv_o r.m 0 (w.toInt64))
    simp only [f_law_25, f_L_planOf, s1, hx, hz, clc_l, cl_s, bud_ok (show c ≤ 512 by omega), thrown_e, jn_e, st_o t, ld_o t, if_true, if_false, Nat.add_zero, reduceIte, i10, i20, i30, n21, n31, n32]
  · obtain ⟨z, hz⟩ := hy _ r.m
    refine ⟨_, c + 1, REL_t r 1, Nat.le_refl _, fun kont => ?_⟩
    simp only [f_law_25, f_L_planOf, s1, hx, hz, clc_r, cl_s, bud_ok hc, thrown_e, jn_e, if_true, if_false, Nat.add_zero, reduceIte, i10, i20, i30, n21, n31, n32]
theorem W_30 : StpW ad f_law_30 := by
  intro Ls xs S c i ⟨b, d, j, k, v, np, nf, no, mo, r⟩ hi hL hc
  have cv := r.1
  have t := cv.t
  have s1 : ∀ (β : Type) (k : Int32 → Option β), sx Ls xs (nI i + 1) k = k (xs (i + 1)) := fun β k => by rw [da1, sx_at hL (by omega)]
  rcases Q_sales cv (xs (i + 1)) with ⟨w, hx, hy⟩ | ⟨hx, hy⟩
  · refine ⟨_, c, REL_q r (w) 0, by omega, fun kont => ?_⟩
    have hz := hy _ (Mv_o r.m 0 (w))
    simp only [f_law_30, f_L_sales, s1, hx, hz, clc_l, cl_s, bud_ok (show c ≤ 512 by omega), thrown_e, jn_e, st_o t, ld_o t, if_true, if_false, Nat.add_zero, reduceIte, i10, i20, i30, n21, n31, n32]
  · obtain ⟨z, hz⟩ := hy _ r.m
    refine ⟨_, c + 1, REL_t r 1, Nat.le_refl _, fun kont => ?_⟩
    simp only [f_law_30, f_L_sales, s1, hx, hz, clc_r, cl_s, bud_ok hc, thrown_e, jn_e, if_true, if_false, Nat.add_zero, reduceIte, i10, i20, i30, n21, n31, n32]
theorem W_37 : StpW ad f_law_37 := by
  intro Ls xs S c i ⟨b, d, j, k, v, np, nf, no, mo, r⟩ hi hL hc
  have cv := r.1
  have t := cv.t
  have s1 : ∀ (β : Type) (k : Int32 → Option β), sx Ls xs (nI i + 1) k = k (xs (i + 1)) := fun β k => by rw [da1, sx_at hL (by omega)]
  rcases Q_balance cv (xs (i + 1)) with ⟨w, hx, hy⟩ | ⟨hx, hy⟩
  · refine ⟨_, c, REL_q r (w) 0, by omega, fun kont => ?_⟩
    have hz := hy _ (Mv_o r.m 0 (w))
    simp only [f_law_37, f_L_balance, s1, hx, hz, clc_l, cl_s, bud_ok (show c ≤ 512 by omega), thrown_e, jn_e, st_o t, ld_o t, if_true, if_false, Nat.add_zero, reduceIte, i10, i20, i30, n21, n31, n32]
  · obtain ⟨z, hz⟩ := hy _ r.m
    refine ⟨_, c + 1, REL_t r 1, Nat.le_refl _, fun kont => ?_⟩
    simp only [f_law_37, f_L_balance, s1, hx, hz, clc_r, cl_s, bud_ok hc, thrown_e, jn_e, if_true, if_false, Nat.add_zero, reduceIte, i10, i20, i30, n21, n31, n32]
theorem W_40 : StpW ad f_law_40 := by
  intro Ls xs S c i ⟨b, d, j, k, v, np, nf, no, mo, r⟩ hi hL hc
  have cv := r.1
  have t := cv.t
  have s1 : ∀ (β : Type) (k : Int32 → Option β), sx Ls xs (nI i + 1) k = k (xs (i + 1)) := fun β k => by rw [da1, sx_at hL (by omega)]
  rcases Q_monthsOverdue cv (xs (i + 1)) with ⟨w, hx, hy⟩ | ⟨hx, hy⟩
  · refine ⟨_, c, REL_q r (w.toInt64) 0, by omega, fun kont => ?_⟩
    have hz := hy _ (Mv_o r.m 0 (w.toInt64))
    simp only [f_law_40, f_L_monthsOverdue, s1, hx, hz, clc_l, cl_s, bud_ok (show c ≤ 512 by omega), thrown_e, jn_e, st_o t, ld_o t, if_true, if_false, Nat.add_zero, reduceIte, i10, i20, i30, n21, n31, n32]
  · obtain ⟨z, hz⟩ := hy _ r.m
    refine ⟨_, c + 1, REL_t r 1, Nat.le_refl _, fun kont => ?_⟩
    simp only [f_law_40, f_L_monthsOverdue, s1, hx, hz, clc_r, cl_s, bud_ok hc, thrown_e, jn_e, if_true, if_false, Nat.add_zero, reduceIte, i10, i20, i30, n21, n31, n32]
theorem W_43 : StpW ad f_law_43 := by
  intro Ls xs S c i ⟨b, d, j, k, v, np, nf, no, mo, r⟩ hi hL hc
  have cv := r.1
  have t := cv.t
  have s1 : ∀ (β : Type) (k : Int32 → Option β), sx Ls xs (nI i + 1) k = k (xs (i + 1)) := fun β k => by rw [da1, sx_at hL (by omega)]
  rcases Q_status cv (xs (i + 1)) with ⟨w, hx, hy⟩ | ⟨hx, hy⟩
  · refine ⟨_, c, REL_q r (w.toInt64) 0, by omega, fun kont => ?_⟩
    have hz := hy _ (Mv_o r.m 0 (w.toInt64))
    simp only [f_law_43, f_L_status, s1, hx, hz, clc_l, cl_s, bud_ok (show c ≤ 512 by omega), thrown_e, jn_e, st_o t, ld_o t, if_true, if_false, Nat.add_zero, reduceIte, i10, i20, i30, n21, n31, n32]
  · obtain ⟨z, hz⟩ := hy _ r.m
    refine ⟨_, c + 1, REL_t r 1, Nat.le_refl _, fun kont => ?_⟩
    simp only [f_law_43, f_L_status, s1, hx, hz, clc_r, cl_s, bud_ok hc, thrown_e, jn_e, if_true, if_false, Nat.add_zero, reduceIte, i10, i20, i30, n21, n31, n32]
theorem W_45 : StpW ad f_law_45 := by
  intro Ls xs S c i ⟨b, d, j, k, v, np, nf, no, mo, r⟩ hi hL hc
  have cv := r.1
  have t := cv.t
  have s1 : ∀ (β : Type) (k : Int32 → Option β), sx Ls xs (nI i + 1) k = k (xs (i + 1)) := fun β k => by rw [da1, sx_at hL (by omega)]
  rcases Q_contributions cv (xs (i + 1)) with ⟨w, hx, hy⟩ | ⟨hx, hy⟩
  · refine ⟨_, c, REL_q r (w) 0, by omega, fun kont => ?_⟩
    have hz := hy _ (Mv_o r.m 0 (w))
    simp only [f_law_45, f_L_contributions, s1, hx, hz, clc_l, cl_s, bud_ok (show c ≤ 512 by omega), thrown_e, jn_e, st_o t, ld_o t, if_true, if_false, Nat.add_zero, reduceIte, i10, i20, i30, n21, n31, n32]
  · obtain ⟨z, hz⟩ := hy _ r.m
    refine ⟨_, c + 1, REL_t r 1, Nat.le_refl _, fun kont => ?_⟩
    simp only [f_law_45, f_L_contributions, s1, hx, hz, clc_r, cl_s, bud_ok hc, thrown_e, jn_e, if_true, if_false, Nat.add_zero, reduceIte, i10, i20, i30, n21, n31, n32]
theorem W_55 : StpW ad f_law_55 := by
  intro Ls xs S c i ⟨b, d, j, k, v, np, nf, no, mo, r⟩ hi hL hc
  have cv := r.1
  have t := cv.t
  have s1 : ∀ (β : Type) (k : Int32 → Option β), sx Ls xs (nI i + 1) k = k (xs (i + 1)) := fun β k => by rw [da1, sx_at hL (by omega)]
  rcases Q_transferState cv (xs (i + 1)) with ⟨w, hx, hy⟩ | ⟨hx, hy⟩
  · refine ⟨_, c, REL_q r (w.toInt64) 0, by omega, fun kont => ?_⟩
    have hz := hy _ (Mv_o r.m 0 (w.toInt64))
    simp only [f_law_55, f_L_transferState, s1, hx, hz, clc_l, cl_s, bud_ok (show c ≤ 512 by omega), thrown_e, jn_e, st_o t, ld_o t, if_true, if_false, Nat.add_zero, reduceIte, i10, i20, i30, n21, n31, n32]
  · obtain ⟨z, hz⟩ := hy _ r.m
    refine ⟨_, c + 1, REL_t r 1, Nat.le_refl _, fun kont => ?_⟩
    simp only [f_law_55, f_L_transferState, s1, hx, hz, clc_r, cl_s, bud_ok hc, thrown_e, jn_e, if_true, if_false, Nat.add_zero, reduceIte, i10, i20, i30, n21, n31, n32]
theorem W_57 : StpW ad f_law_57 := by
  intro Ls xs S c i ⟨b, d, j, k, v, np, nf, no, mo, r⟩ hi hL hc
  have cv := r.1
  have t := cv.t
  have s1 : ∀ (β : Type) (k : Int32 → Option β), sx Ls xs (nI i + 1) k = k (xs (i + 1)) := fun β k => by rw [da1, sx_at hL (by omega)]
  rcases Q_generation cv (xs (i + 1)) with ⟨w, hx, hy⟩ | ⟨hx, hy⟩
  · refine ⟨_, c, REL_q r (w.toInt64) 0, by omega, fun kont => ?_⟩
    have hz := hy _ (Mv_o r.m 0 (w.toInt64))
    simp only [f_law_57, f_L_generation, s1, hx, hz, clc_l, cl_s, bud_ok (show c ≤ 512 by omega), thrown_e, jn_e, st_o t, ld_o t, if_true, if_false, Nat.add_zero, reduceIte, i10, i20, i30, n21, n31, n32]
  · obtain ⟨z, hz⟩ := hy _ r.m
    refine ⟨_, c + 1, REL_t r 1, Nat.le_refl _, fun kont => ?_⟩
    simp only [f_law_57, f_L_generation, s1, hx, hz, clc_r, cl_s, bud_ok hc, thrown_e, jn_e, if_true, if_false, Nat.add_zero, reduceIte, i10, i20, i30, n21, n31, n32]
theorem W_58 : StpW ad f_law_58 := by
  intro Ls xs S c i ⟨b, d, j, k, v, np, nf, no, mo, r⟩ hi hL hc
  have cv := r.1
  have t := cv.t
  have s1 : ∀ (β : Type) (k : Int32 → Option β), sx Ls xs (nI i + 1) k = k (xs (i + 1)) := fun β k => by rw [da1, sx_at hL (by omega)]
  rcases Q_worth cv (xs (i + 1)) with ⟨w, hx, hy⟩ | ⟨hx, hy⟩
  · refine ⟨_, c, REL_q r (w.toInt64) 0, by omega, fun kont => ?_⟩
    have hz := hy _ (Mv_o r.m 0 (w.toInt64))
    simp only [f_law_58, f_L_worth, s1, hx, hz, clc_l, cl_s, bud_ok (show c ≤ 512 by omega), thrown_e, jn_e, st_o t, ld_o t, if_true, if_false, Nat.add_zero, reduceIte, i10, i20, i30, n21, n31, n32]
  · obtain ⟨z, hz⟩ := hy _ r.m
    refine ⟨_, c + 1, REL_t r 1, Nat.le_refl _, fun kont => ?_⟩
    simp only [f_law_58, f_L_worth, s1, hx, hz, clc_r, cl_s, bud_ok hc, thrown_e, jn_e, if_true, if_false, Nat.add_zero, reduceIte, i10, i20, i30, n21, n31, n32]
