/-! the pure part: the law's cases of these queries -/
variable {S S' : St} {ad : Nat → Nat} {b d j k : Nat} {v : Nat → Int64} {np nf no mo : Nat}
theorem W_33 : StpW ad f_law_33 := by
  intro Ls xs S c i ⟨b, d, j, k, v, np, nf, no, mo, r⟩ hi hL hc
  have cv := r.1
  have t := cv.t
  have s1 : ∀ (β : Type) (k : Int32 → Option β), sx Ls xs (nI i + 1) k = k (xs (i + 1)) := fun β k => by rw [da1, sx_at hL (by omega)]
  have s2 : ∀ (β : Type) (k : Int32 → Option β), sx Ls xs (nI i + 2) k = k (xs (i + 2)) := fun β k => by rw [da2, sx_at hL (by omega)]
  rcases Q_creditDue cv (xs (i + 1)) (xs (i + 2)) with ⟨w, hx, hy⟩ | ⟨hx, hy⟩
  · refine ⟨_, c, REL_q r (w) 0, by omega, fun kont => ?_⟩
    have hz := hy _ (Mv_o r.m 0 (w))
    simp only [f_law_33, f_L_creditDue, s1, s2, hx, hz, clc_l, cl_s, bud_ok (show c ≤ 512 by omega), thrown_e, jn_e, st_o t, ld_o t, if_true, if_false, Nat.add_zero, reduceIte, i10, i20, i30, n21, n31, n32]
  · obtain ⟨z, hz⟩ := hy _ r.m
    refine ⟨_, c + 1, REL_t r 1, Nat.le_refl _, fun kont => ?_⟩
    simp only [f_law_33, f_L_creditDue, s1, s2, hx, hz, clc_r, cl_s, bud_ok hc, thrown_e, jn_e, if_true, if_false, Nat.add_zero, reduceIte, i10, i20, i30, n21, n31, n32]
theorem W_24 : StpW ad f_law_24 := by
  intro Ls xs S c i ⟨b, d, j, k, v, np, nf, no, mo, r⟩ hi hL hc
  have cv := r.1
  have t := cv.t
  have s1 : ∀ (β : Type) (k : Int32 → Option β), sx Ls xs (nI i + 1) k = k (xs (i + 1)) := fun β k => by rw [da1, sx_at hL (by omega)]
  have s2 : ∀ (β : Type) (k : Int32 → Option β), sx Ls xs (nI i + 2) k = k (xs (i + 2)) := fun β k => by rw [da2, sx_at hL (by omega)]
  have s3 : ∀ (β : Type) (k : Int32 → Option β), sx Ls xs (nI i + 3) k = k (xs (i + 3)) := fun β k => by rw [da3, sx_at hL (by omega)]
  rcases Q_royalty cv (xs (i + 1)) (((Int32.toInt64 (xs (i + 2))) <<< ((Int32.toInt64 32) &&& 63)) ||| ((Int32.toInt64 (xs (i + 3))) &&& 4294967295)) with ⟨w, hx, hy⟩ | ⟨hx, hy⟩ | ⟨hx, hy⟩
  · refine ⟨_, c, REL_q r (w) 0, by omega, fun kont => ?_⟩
    have hz := hy _ (Mv_o r.m 0 (w))
    simp only [f_law_24, f_L_royalty, s1, s2, s3, hx, hz, clc_l, cl_s, bud_ok (show c ≤ 512 by omega), thrown_e, jn_e, st_o t, ld_o t, if_true, if_false, Nat.add_zero, reduceIte, i10, i20, i30, n21, n31, n32]
  · obtain ⟨z, hz⟩ := hy _ r.m
    refine ⟨_, c + 1, REL_t r 1, Nat.le_refl _, fun kont => ?_⟩
    simp only [f_law_24, f_L_royalty, s1, s2, s3, hx, hz, clc_r, cl_s, bud_ok hc, thrown_e, jn_e, if_true, if_false, Nat.add_zero, reduceIte, i10, i20, i30, n21, n31, n32]
  · obtain ⟨z, hz⟩ := hy _ r.m
    refine ⟨_, c + 1, REL_t r 2, Nat.le_refl _, fun kont => ?_⟩
    simp only [f_law_24, f_L_royalty, s1, s2, s3, hx, hz, clc_r, cl_s, bud_ok hc, thrown_e, jn_e, if_true, if_false, Nat.add_zero, reduceIte, i10, i20, i30, n21, n31, n32]
theorem W_27 : StpW ad f_law_27 := by
  intro Ls xs S c i ⟨b, d, j, k, v, np, nf, no, mo, r⟩ hi hL hc
  have cv := r.1
  have t := cv.t
  have s1 : ∀ (β : Type) (k : Int32 → Option β), sx Ls xs (nI i + 1) k = k (xs (i + 1)) := fun β k => by rw [da1, sx_at hL (by omega)]
  rcases Q_cheapestPlan cv (xs (i + 1)) with ⟨w, hx, hy⟩ | ⟨hx, hy⟩
  · refine ⟨_, c, REL_q r (w.toInt64) 0, by omega, fun kont => ?_⟩
    have hz := hy _ (Mv_o r.m 0 (w.toInt64))
    simp only [f_law_27, f_L_cheapestPlan, s1, hx, hz, clc_l, cl_s, bud_ok (show c ≤ 512 by omega), thrown_e, jn_e, st_o t, ld_o t, if_true, if_false, Nat.add_zero, reduceIte, i10, i20, i30, n21, n31, n32]
  · obtain ⟨z, hz⟩ := hy _ r.m
    refine ⟨_, c + 1, REL_t r 1, Nat.le_refl _, fun kont => ?_⟩
    simp only [f_law_27, f_L_cheapestPlan, s1, hx, hz, clc_r, cl_s, bud_ok hc, thrown_e, jn_e, if_true, if_false, Nat.add_zero, reduceIte, i10, i20, i30, n21, n31, n32]
theorem W_38 : StpW ad f_law_38 := by
  intro Ls xs S c i ⟨b, d, j, k, v, np, nf, no, mo, r⟩ hi hL hc
  have cv := r.1
  have t := cv.t
  obtain ⟨w, hx, hy⟩ := Q_totalOwed cv 
  refine ⟨_, c, REL_t r 0, by omega, fun kont => ?_⟩
  simp only [f_law_38, hx, hy _ r.m, cl_s, if_true]
theorem W_44 : StpW ad f_law_44 := by
  intro Ls xs S c i ⟨b, d, j, k, v, np, nf, no, mo, r⟩ hi hL hc
  have cv := r.1
  have t := cv.t
  obtain ⟨w, hx, hy⟩ := Q_fundBalance cv 
  refine ⟨_, c, REL_t r 0, by omega, fun kont => ?_⟩
  simp only [f_law_44, hx, hy _ r.m, cl_s, if_true]
theorem W_56 : StpW ad f_law_56 := by
  intro Ls xs S c i ⟨b, d, j, k, v, np, nf, no, mo, r⟩ hi hL hc
  have cv := r.1
  have t := cv.t
  have s1 : ∀ (β : Type) (k : Int32 → Option β), sx Ls xs (nI i + 1) k = k (xs (i + 1)) := fun β k => by rw [da1, sx_at hL (by omega)]
  rcases Q_transferWait cv (xs (i + 1)) with ⟨w, hx, hy⟩ | ⟨hx, hy⟩
  · refine ⟨_, c, REL_q r (w.toInt64) 0, by omega, fun kont => ?_⟩
    have hz := hy _ (Mv_o r.m 0 (w.toInt64))
    simp only [f_law_56, f_L_transferWait, s1, hx, hz, clc_l, cl_s, bud_ok (show c ≤ 512 by omega), thrown_e, jn_e, st_o t, ld_o t, if_true, if_false, Nat.add_zero, reduceIte, i10, i20, i30, n21, n31, n32]
  · obtain ⟨z, hz⟩ := hy _ r.m
    refine ⟨_, c + 1, REL_t r 1, Nat.le_refl _, fun kont => ?_⟩
    simp only [f_law_56, f_L_transferWait, s1, hx, hz, clc_r, cl_s, bud_ok hc, thrown_e, jn_e, if_true, if_false, Nat.add_zero, reduceIte, i10, i20, i30, n21, n31, n32]
theorem W_41 : StpW ad f_law_41 := by
  intro Ls xs S c i ⟨b, d, j, k, v, np, nf, no, mo, r⟩ hi hL hc
  have cv := r.1
  have t := cv.t
  have s1 : ∀ (β : Type) (k : Int32 → Option β), sx Ls xs (nI i + 1) k = k (xs (i + 1)) := fun β k => by rw [da1, sx_at hL (by omega)]
  have s2 : ∀ (β : Type) (k : Int32 → Option β), sx Ls xs (nI i + 2) k = k (xs (i + 2)) := fun β k => by rw [da2, sx_at hL (by omega)]
  have s3 : ∀ (β : Type) (k : Int32 → Option β), sx Ls xs (nI i + 3) k = k (xs (i + 3)) := fun β k => by rw [da3, sx_at hL (by omega)]
  rcases Q_payOff cv (xs (i + 1)) (((Int32.toInt64 (xs (i + 2))) <<< ((Int32.toInt64 32) &&& 63)) ||| ((Int32.toInt64 (xs (i + 3))) &&& 4294967295)) with ⟨w, hx, hy⟩ | ⟨hx, hy⟩ | ⟨hx, hy⟩
  · refine ⟨_, c, REL_q r (w.toInt64) 0, by omega, fun kont => ?_⟩
    have hz := hy _ (Mv_o r.m 0 (w.toInt64))
    simp only [f_law_41, f_L_payOff, s1, s2, s3, hx, hz, clc_l, cl_s, bud_ok (show c ≤ 512 by omega), thrown_e, jn_e, st_o t, ld_o t, if_true, if_false, Nat.add_zero, reduceIte, i10, i20, i30, n21, n31, n32]
  · obtain ⟨z, hz⟩ := hy _ r.m
    refine ⟨_, c + 1, REL_t r 1, Nat.le_refl _, fun kont => ?_⟩
    simp only [f_law_41, f_L_payOff, s1, s2, s3, hx, hz, clc_r, cl_s, bud_ok hc, thrown_e, jn_e, if_true, if_false, Nat.add_zero, reduceIte, i10, i20, i30, n21, n31, n32]
  · obtain ⟨z, hz⟩ := hy _ r.m
    refine ⟨_, c + 1, REL_t r 2, Nat.le_refl _, fun kont => ?_⟩
    simp only [f_law_41, f_L_payOff, s1, s2, s3, hx, hz, clc_r, cl_s, bud_ok hc, thrown_e, jn_e, if_true, if_false, Nat.add_zero, reduceIte, i10, i20, i30, n21, n31, n32]
