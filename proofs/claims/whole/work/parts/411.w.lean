/-! the pure part: the law's cases of more queries -/
variable {S S' : St} {ad : Nat → Nat} {b d j k : Nat} {v : Nat → Int64} {np nf no mo : Nat}
theorem W_9 : StpW ad f_law_9 := by
  intro Ls xs S c i ⟨b, d, j, k, v, np, nf, no, mo, r⟩ hi hL hc
  have cv := r.1
  have t := cv.t
  obtain ⟨w, hx, hy⟩ := Q_month cv 
  refine ⟨_, c, REL_t r 0, by omega, fun kont => ?_⟩
  simp only [f_law_9, hx, hy _ r.m, cl_s, if_true]
theorem W_10 : StpW ad f_law_10 := by
  intro Ls xs S c i ⟨b, d, j, k, v, np, nf, no, mo, r⟩ hi hL hc
  have cv := r.1
  have t := cv.t
  have s1 : ∀ (β : Type) (k : Int32 → Option β), sx Ls xs (nI i + 1) k = k (xs (i + 1)) := fun β k => by rw [da1, sx_at hL (by omega)]
  have s2 : ∀ (β : Type) (k : Int32 → Option β), sx Ls xs (nI i + 2) k = k (xs (i + 2)) := fun β k => by rw [da2, sx_at hL (by omega)]
  rcases Q_owner cv (xs (i + 1)) (xs (i + 2)) with ⟨w, hx, hy⟩ | ⟨hx, hy⟩
  · refine ⟨_, c, REL_q r (w.toInt64) 0, by omega, fun kont => ?_⟩
    have hz := hy _ (Mv_o r.m 0 (w.toInt64))
    simp only [f_law_10, f_L_owner, s1, s2, hx, hz, clc_l, cl_s, bud_ok (show c ≤ 512 by omega), thrown_e, jn_e, st_o t, ld_o t, if_true, if_false, Nat.add_zero, reduceIte, i10, i20, i30, n21, n31, n32]
  · obtain ⟨z, hz⟩ := hy _ r.m
    refine ⟨_, c + 1, REL_t r 1, Nat.le_refl _, fun kont => ?_⟩
    simp only [f_law_10, f_L_owner, s1, s2, hx, hz, clc_r, cl_s, bud_ok hc, thrown_e, jn_e, if_true, if_false, Nat.add_zero, reduceIte, i10, i20, i30, n21, n31, n32]
theorem W_31 : StpW ad f_law_31 := by
  intro Ls xs S c i ⟨b, d, j, k, v, np, nf, no, mo, r⟩ hi hL hc
  have cv := r.1
  have t := cv.t
  have s1 : ∀ (β : Type) (k : Int32 → Option β), sx Ls xs (nI i + 1) k = k (xs (i + 1)) := fun β k => by rw [da1, sx_at hL (by omega)]
  have s2 : ∀ (β : Type) (k : Int32 → Option β), sx Ls xs (nI i + 2) k = k (xs (i + 2)) := fun β k => by rw [da2, sx_at hL (by omega)]
  rcases Q_salesOf cv (xs (i + 1)) (xs (i + 2)) with ⟨w, hx, hy⟩ | ⟨hx, hy⟩ | ⟨hx, hy⟩
  · refine ⟨_, c, REL_q r (w) 0, by omega, fun kont => ?_⟩
    have hz := hy _ (Mv_o r.m 0 (w))
    simp only [f_law_31, f_L_salesOf, s1, s2, hx, hz, clc_l, cl_s, bud_ok (show c ≤ 512 by omega), thrown_e, jn_e, st_o t, ld_o t, if_true, if_false, Nat.add_zero, reduceIte, i10, i20, i30, n21, n31, n32]
  · obtain ⟨z, hz⟩ := hy _ r.m
    refine ⟨_, c + 1, REL_t r 1, Nat.le_refl _, fun kont => ?_⟩
    simp only [f_law_31, f_L_salesOf, s1, s2, hx, hz, clc_r, cl_s, bud_ok hc, thrown_e, jn_e, if_true, if_false, Nat.add_zero, reduceIte, i10, i20, i30, n21, n31, n32]
  · obtain ⟨z, hz⟩ := hy _ r.m
    refine ⟨_, c + 1, REL_t r 2, Nat.le_refl _, fun kont => ?_⟩
    simp only [f_law_31, f_L_salesOf, s1, s2, hx, hz, clc_r, cl_s, bud_ok hc, thrown_e, jn_e, if_true, if_false, Nat.add_zero, reduceIte, i10, i20, i30, n21, n31, n32]
theorem W_35 : StpW ad f_law_35 := by
  intro Ls xs S c i ⟨b, d, j, k, v, np, nf, no, mo, r⟩ hi hL hc
  have cv := r.1
  have t := cv.t
  have s1 : ∀ (β : Type) (k : Int32 → Option β), sx Ls xs (nI i + 1) k = k (xs (i + 1)) := fun β k => by rw [da1, sx_at hL (by omega)]
  have s2 : ∀ (β : Type) (k : Int32 → Option β), sx Ls xs (nI i + 2) k = k (xs (i + 2)) := fun β k => by rw [da2, sx_at hL (by omega)]
  have s3 : ∀ (β : Type) (k : Int32 → Option β), sx Ls xs (nI i + 3) k = k (xs (i + 3)) := fun β k => by rw [da3, sx_at hL (by omega)]
  rcases Q_invoice cv (xs (i + 1)) (xs (i + 2)) (xs (i + 3)) with ⟨w, hx, hy⟩ | ⟨hx, hy⟩ | ⟨hx, hy⟩
  · refine ⟨_, c, REL_q r (w) 0, by omega, fun kont => ?_⟩
    have hz := hy _ (Mv_o r.m 0 (w))
    simp only [f_law_35, f_L_invoice, s1, s2, s3, hx, hz, clc_l, cl_s, bud_ok (show c ≤ 512 by omega), thrown_e, jn_e, st_o t, ld_o t, if_true, if_false, Nat.add_zero, reduceIte, i10, i20, i30, n21, n31, n32]
  · obtain ⟨z, hz⟩ := hy _ r.m
    refine ⟨_, c + 1, REL_t r 1, Nat.le_refl _, fun kont => ?_⟩
    simp only [f_law_35, f_L_invoice, s1, s2, s3, hx, hz, clc_r, cl_s, bud_ok hc, thrown_e, jn_e, if_true, if_false, Nat.add_zero, reduceIte, i10, i20, i30, n21, n31, n32]
  · obtain ⟨z, hz⟩ := hy _ r.m
    refine ⟨_, c + 1, REL_t r 2, Nat.le_refl _, fun kont => ?_⟩
    simp only [f_law_35, f_L_invoice, s1, s2, s3, hx, hz, clc_r, cl_s, bud_ok hc, thrown_e, jn_e, if_true, if_false, Nat.add_zero, reduceIte, i10, i20, i30, n21, n31, n32]
theorem W_46 : StpW ad f_law_46 := by
  intro Ls xs S c i ⟨b, d, j, k, v, np, nf, no, mo, r⟩ hi hL hc
  have cv := r.1
  have t := cv.t
  have s1 : ∀ (β : Type) (k : Int32 → Option β), sx Ls xs (nI i + 1) k = k (xs (i + 1)) := fun β k => by rw [da1, sx_at hL (by omega)]
  rcases Q_spent cv (xs (i + 1)) with ⟨w, hx, hy⟩ | ⟨hx, hy⟩
  · refine ⟨_, c, REL_q r (w) 0, by omega, fun kont => ?_⟩
    have hz := hy _ (Mv_o r.m 0 (w))
    simp only [f_law_46, f_L_spent, s1, hx, hz, clc_l, cl_s, bud_ok (show c ≤ 512 by omega), thrown_e, jn_e, st_o t, ld_o t, if_true, if_false, Nat.add_zero, reduceIte, i10, i20, i30, n21, n31, n32]
  · obtain ⟨z, hz⟩ := hy _ r.m
    refine ⟨_, c + 1, REL_t r 1, Nat.le_refl _, fun kont => ?_⟩
    simp only [f_law_46, f_L_spent, s1, hx, hz, clc_r, cl_s, bud_ok hc, thrown_e, jn_e, if_true, if_false, Nat.add_zero, reduceIte, i10, i20, i30, n21, n31, n32]
theorem W_49 : StpW ad f_law_49 := by
  intro Ls xs S c i ⟨b, d, j, k, v, np, nf, no, mo, r⟩ hi hL hc
  have cv := r.1
  have t := cv.t
  have s1 : ∀ (β : Type) (k : Int32 → Option β), sx Ls xs (nI i + 1) k = k (xs (i + 1)) := fun β k => by rw [da1, sx_at hL (by omega)]
  rcases Q_allowance cv (xs (i + 1)) with ⟨w, hx, hy⟩ | ⟨hx, hy⟩
  · refine ⟨_, c, REL_q r (w) 0, by omega, fun kont => ?_⟩
    have hz := hy _ (Mv_o r.m 0 (w))
    simp only [f_law_49, f_L_allowance, s1, hx, hz, clc_l, cl_s, bud_ok (show c ≤ 512 by omega), thrown_e, jn_e, st_o t, ld_o t, if_true, if_false, Nat.add_zero, reduceIte, i10, i20, i30, n21, n31, n32]
  · obtain ⟨z, hz⟩ := hy _ r.m
    refine ⟨_, c + 1, REL_t r 1, Nat.le_refl _, fun kont => ?_⟩
    simp only [f_law_49, f_L_allowance, s1, hx, hz, clc_r, cl_s, bud_ok hc, thrown_e, jn_e, if_true, if_false, Nat.add_zero, reduceIte, i10, i20, i30, n21, n31, n32]
theorem W_18 : StpW ad f_law_18 := by
  intro Ls xs S c i ⟨b, d, j, k, v, np, nf, no, mo, r⟩ hi hL hc
  have cv := r.1
  have t := cv.t
  have s1 : ∀ (β : Type) (k : Int32 → Option β), sx Ls xs (nI i + 1) k = k (xs (i + 1)) := fun β k => by rw [da1, sx_at hL (by omega)]
  rcases Q_outletCell cv (xs (i + 1)) with ⟨w, hx, hy⟩ | ⟨hx, hy⟩
  · refine ⟨_, c, REL_q r (w.toInt64) 0, by omega, fun kont => ?_⟩
    have hz := hy _ (Mv_o r.m 0 (w.toInt64))
    simp only [f_law_18, f_L_outletCell, s1, hx, hz, clc_l, cl_s, bud_ok (show c ≤ 512 by omega), thrown_e, jn_e, st_o t, ld_o t, if_true, if_false, Nat.add_zero, reduceIte, i10, i20, i30, n21, n31, n32]
  · obtain ⟨z, hz⟩ := hy _ r.m
    refine ⟨_, c + 1, REL_t r 1, Nat.le_refl _, fun kont => ?_⟩
    simp only [f_law_18, f_L_outletCell, s1, hx, hz, clc_r, cl_s, bud_ok hc, thrown_e, jn_e, if_true, if_false, Nat.add_zero, reduceIte, i10, i20, i30, n21, n31, n32]
