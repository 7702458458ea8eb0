/-! the pure part: the law's cases of these calls -/
variable {S S1 S' S'' S3 : St} {ad : Nat → Nat} {b d j k : Nat} {v v' : Nat → Int64} {np nf no mo no' mo' : Nat}
theorem W_28 : StpW ad f_law_28 := by
  intro Ls xs S c i ⟨b, d, j, k, v, np, nf, no, mo, r⟩ hi hL hc
  have cv := r.1
  have hB := cv.2.1
  have t := cv.t
  have s1 : ∀ (β : Type) (k : Int32 → Option β), sx Ls xs (nI i + 1) k = k (xs (i + 1)) := fun β k => by rw [da1, sx_at hL (by omega)]
  have s2 : ∀ (β : Type) (k : Int32 → Option β), sx Ls xs (nI i + 2) k = k (xs (i + 2)) := fun β k => by rw [da2, sx_at hL (by omega)]
  have s3 : ∀ (β : Type) (k : Int32 → Option β), sx Ls xs (nI i + 3) k = k (xs (i + 3)) := fun β k => by rw [da3, sx_at hL (by omega)]
  rcases Q_reportSales cv (xs (i + 1)) (((Int32.toInt64 (xs (i + 2))) <<< ((Int32.toInt64 32) &&& 63)) ||| ((Int32.toInt64 (xs (i + 3))) &&& 4294967295)) with ⟨w, S1, v', no', mo', hx, mk, hy⟩ | ⟨e, z, he, hx, hy⟩
  · obtain ⟨S3, hz, rk⟩ := hy (uJ S1 (ad 2) 0 (w)) (Mv_o (mk.mv hB r.m) 0 (w))
    have t1 := mk.1.t t
    refine ⟨S3, c, ⟨b, d, j, k, v', np, nf, no', mo', RE_fin r mk (w) rk⟩, by omega, fun kont => ?_⟩
    simp only [f_law_28, f_L_reportSales, s1, s2, s3, hx, hz, clc_l, cl_s, bud_ok (show c ≤ 512 by omega), rk.thr, jn_e, st_o t1, rk.ld t1, if_true, if_false, Nat.add_zero, reduceIte, i10, i20, i30, n21, n31, n32]
  · simp only [List.mem_cons, Prod.mk.injEq, List.not_mem_nil, or_false] at he
    rcases he with ⟨rfl, rfl⟩ | ⟨rfl, rfl⟩ | ⟨rfl, rfl⟩
    · obtain ⟨u, hz⟩ := hy _ r.m
      refine ⟨_, c + 1, REL_t r 1, Nat.le_refl _, fun kont => ?_⟩
      simp only [f_law_28, f_L_reportSales, s1, s2, s3, hx, hz, clc_r, cl_s, bud_ok hc, thrown_e, jn_e, if_true, if_false, Nat.add_zero, reduceIte, i10, i20, i30, n21, n31, n32]
    · obtain ⟨u, hz⟩ := hy _ r.m
      refine ⟨_, c + 1, REL_t r 2, Nat.le_refl _, fun kont => ?_⟩
      simp only [f_law_28, f_L_reportSales, s1, s2, s3, hx, hz, clc_r, cl_s, bud_ok hc, thrown_e, jn_e, if_true, if_false, Nat.add_zero, reduceIte, i10, i20, i30, n21, n31, n32]
    · obtain ⟨u, hz⟩ := hy _ r.m
      refine ⟨_, c + 1, REL_t r 3, Nat.le_refl _, fun kont => ?_⟩
      simp only [f_law_28, f_L_reportSales, s1, s2, s3, hx, hz, clc_r, cl_s, bud_ok hc, thrown_e, jn_e, if_true, if_false, Nat.add_zero, reduceIte, i10, i20, i30, n21, n31, n32]
theorem W_29 : StpW ad f_law_29 := by
  intro Ls xs S c i ⟨b, d, j, k, v, np, nf, no, mo, r⟩ hi hL hc
  have cv := r.1
  have hB := cv.2.1
  have t := cv.t
  have s1 : ∀ (β : Type) (k : Int32 → Option β), sx Ls xs (nI i + 1) k = k (xs (i + 1)) := fun β k => by rw [da1, sx_at hL (by omega)]
  have s2 : ∀ (β : Type) (k : Int32 → Option β), sx Ls xs (nI i + 2) k = k (xs (i + 2)) := fun β k => by rw [da2, sx_at hL (by omega)]
  have s3 : ∀ (β : Type) (k : Int32 → Option β), sx Ls xs (nI i + 3) k = k (xs (i + 3)) := fun β k => by rw [da3, sx_at hL (by omega)]
  have s4 : ∀ (β : Type) (k : Int32 → Option β), sx Ls xs (nI i + 4) k = k (xs (i + 4)) := fun β k => by rw [da4, sx_at hL (by omega)]
  have s5 : ∀ (β : Type) (k : Int32 → Option β), sx Ls xs (nI i + 5) k = k (xs (i + 5)) := fun β k => by rw [da5, sx_at hL (by omega)]
  rcases Q_deliver cv (xs (i + 1)) (xs (i + 2)) (xs (i + 3)) (((Int32.toInt64 (xs (i + 4))) <<< ((Int32.toInt64 32) &&& 63)) ||| ((Int32.toInt64 (xs (i + 5))) &&& 4294967295)) with ⟨w, S1, v', no', mo', hx, mk, hy⟩ | ⟨e, z, he, hx, hy⟩
  · obtain ⟨S3, hz, rk⟩ := hy (uJ S1 (ad 2) 0 (w)) (Mv_o (mk.mv hB r.m) 0 (w))
    have t1 := mk.1.t t
    refine ⟨S3, c, ⟨b, d, j, k, v', np, nf, no', mo', RE_fin r mk (w) rk⟩, by omega, fun kont => ?_⟩
    simp only [f_law_29, f_L_deliver, s1, s2, s3, s4, s5, hx, hz, clc_l, cl_s, bud_ok (show c ≤ 512 by omega), rk.thr, jn_e, st_o t1, rk.ld t1, if_true, if_false, Nat.add_zero, reduceIte, i10, i20, i30, n21, n31, n32]
  · simp only [List.mem_cons, Prod.mk.injEq, List.not_mem_nil, or_false] at he
    rcases he with ⟨rfl, rfl⟩ | ⟨rfl, rfl⟩ | ⟨rfl, rfl⟩
    · obtain ⟨u, hz⟩ := hy _ r.m
      refine ⟨_, c + 1, REL_t r 1, Nat.le_refl _, fun kont => ?_⟩
      simp only [f_law_29, f_L_deliver, s1, s2, s3, s4, s5, hx, hz, clc_r, cl_s, bud_ok hc, thrown_e, jn_e, if_true, if_false, Nat.add_zero, reduceIte, i10, i20, i30, n21, n31, n32]
    · obtain ⟨u, hz⟩ := hy _ r.m
      refine ⟨_, c + 1, REL_t r 2, Nat.le_refl _, fun kont => ?_⟩
      simp only [f_law_29, f_L_deliver, s1, s2, s3, s4, s5, hx, hz, clc_r, cl_s, bud_ok hc, thrown_e, jn_e, if_true, if_false, Nat.add_zero, reduceIte, i10, i20, i30, n21, n31, n32]
    · obtain ⟨u, hz⟩ := hy _ r.m
      refine ⟨_, c + 1, REL_t r 3, Nat.le_refl _, fun kont => ?_⟩
      simp only [f_law_29, f_L_deliver, s1, s2, s3, s4, s5, hx, hz, clc_r, cl_s, bud_ok hc, thrown_e, jn_e, if_true, if_false, Nat.add_zero, reduceIte, i10, i20, i30, n21, n31, n32]
theorem W_47 : StpW ad f_law_47 := by
  intro Ls xs S c i ⟨b, d, j, k, v, np, nf, no, mo, r⟩ hi hL hc
  have cv := r.1
  have hB := cv.2.1
  have t := cv.t
  have s1 : ∀ (β : Type) (k : Int32 → Option β), sx Ls xs (nI i + 1) k = k (xs (i + 1)) := fun β k => by rw [da1, sx_at hL (by omega)]
  have s2 : ∀ (β : Type) (k : Int32 → Option β), sx Ls xs (nI i + 2) k = k (xs (i + 2)) := fun β k => by rw [da2, sx_at hL (by omega)]
  rcases Q_campaign cv (((Int32.toInt64 (xs (i + 1))) <<< ((Int32.toInt64 32) &&& 63)) ||| ((Int32.toInt64 (xs (i + 2))) &&& 4294967295)) with ⟨w, S1, v', no', mo', hx, mk, hy⟩ | ⟨e, z, he, hx, hy⟩
  · by_cases hw : w = 0
    · obtain ⟨S3, hz, rk⟩ := hy (uJ S1 (ad 2) 0 (0)) (Mv_o (mk.mv hB r.m) 0 (0))
      have t1 := mk.1.t t
      refine ⟨S3, c, ⟨b, d, j, k, v', np, nf, no', mo', RE_fin r mk (0) rk⟩, by omega, fun kont => ?_⟩
      simp only [f_law_47, f_L_campaign, s1, s2, hx, hw, hz, clc_l, cl_s, bud_ok (show c ≤ 512 by omega), rk.thr, jn_e, st_o t1, rk.ld t1, if_true, if_false, Nat.add_zero, reduceIte, i10, i20, i30, n21, n31, n32]
    · obtain ⟨S3, hz, rk⟩ := hy (uJ S1 (ad 2) 0 (1)) (Mv_o (mk.mv hB r.m) 0 (1))
      have t1 := mk.1.t t
      refine ⟨S3, c, ⟨b, d, j, k, v', np, nf, no', mo', RE_fin r mk (1) rk⟩, by omega, fun kont => ?_⟩
      simp only [f_law_47, f_L_campaign, s1, s2, hx, hw, hz, clc_l, cl_s, bud_ok (show c ≤ 512 by omega), rk.thr, jn_e, st_o t1, rk.ld t1, if_true, if_false, Nat.add_zero, reduceIte, i10, i20, i30, n21, n31, n32]
  · simp only [List.mem_cons, Prod.mk.injEq, List.not_mem_nil, or_false] at he
    obtain ⟨rfl, rfl⟩ := he
    obtain ⟨u, hz⟩ := hy _ r.m
    refine ⟨_, c + 1, REL_t r 1, Nat.le_refl _, fun kont => ?_⟩
    simp only [f_law_47, f_L_campaign, s1, s2, hx, hz, clc_r, cl_s, bud_ok hc, thrown_e, jn_e, if_true, if_false, Nat.add_zero, reduceIte, i10, i20, i30, n21, n31, n32]
theorem W_48 : StpW ad f_law_48 := by
  intro Ls xs S c i ⟨b, d, j, k, v, np, nf, no, mo, r⟩ hi hL hc
  have cv := r.1
  have hB := cv.2.1
  have t := cv.t
  have s1 : ∀ (β : Type) (k : Int32 → Option β), sx Ls xs (nI i + 1) k = k (xs (i + 1)) := fun β k => by rw [da1, sx_at hL (by omega)]
  have s2 : ∀ (β : Type) (k : Int32 → Option β), sx Ls xs (nI i + 2) k = k (xs (i + 2)) := fun β k => by rw [da2, sx_at hL (by omega)]
  have s3 : ∀ (β : Type) (k : Int32 → Option β), sx Ls xs (nI i + 3) k = k (xs (i + 3)) := fun β k => by rw [da3, sx_at hL (by omega)]
  rcases Q_grant cv (xs (i + 1)) (((Int32.toInt64 (xs (i + 2))) <<< ((Int32.toInt64 32) &&& 63)) ||| ((Int32.toInt64 (xs (i + 3))) &&& 4294967295)) with ⟨w, S1, v', no', mo', hx, mk, hy⟩ | ⟨e, z, he, hx, hy⟩
  · by_cases hw : w = 0
    · obtain ⟨S3, hz, rk⟩ := hy (uJ S1 (ad 2) 0 (0)) (Mv_o (mk.mv hB r.m) 0 (0))
      have t1 := mk.1.t t
      refine ⟨S3, c, ⟨b, d, j, k, v', np, nf, no', mo', RE_fin r mk (0) rk⟩, by omega, fun kont => ?_⟩
      simp only [f_law_48, f_L_grant, s1, s2, s3, hx, hw, hz, clc_l, cl_s, bud_ok (show c ≤ 512 by omega), rk.thr, jn_e, st_o t1, rk.ld t1, if_true, if_false, Nat.add_zero, reduceIte, i10, i20, i30, n21, n31, n32]
    · obtain ⟨S3, hz, rk⟩ := hy (uJ S1 (ad 2) 0 (1)) (Mv_o (mk.mv hB r.m) 0 (1))
      have t1 := mk.1.t t
      refine ⟨S3, c, ⟨b, d, j, k, v', np, nf, no', mo', RE_fin r mk (1) rk⟩, by omega, fun kont => ?_⟩
      simp only [f_law_48, f_L_grant, s1, s2, s3, hx, hw, hz, clc_l, cl_s, bud_ok (show c ≤ 512 by omega), rk.thr, jn_e, st_o t1, rk.ld t1, if_true, if_false, Nat.add_zero, reduceIte, i10, i20, i30, n21, n31, n32]
  · simp only [List.mem_cons, Prod.mk.injEq, List.not_mem_nil, or_false] at he
    rcases he with ⟨rfl, rfl⟩ | ⟨rfl, rfl⟩
    · obtain ⟨u, hz⟩ := hy _ r.m
      refine ⟨_, c + 1, REL_t r 1, Nat.le_refl _, fun kont => ?_⟩
      simp only [f_law_48, f_L_grant, s1, s2, s3, hx, hz, clc_r, cl_s, bud_ok hc, thrown_e, jn_e, if_true, if_false, Nat.add_zero, reduceIte, i10, i20, i30, n21, n31, n32]
    · obtain ⟨u, hz⟩ := hy _ r.m
      refine ⟨_, c + 1, REL_t r 2, Nat.le_refl _, fun kont => ?_⟩
      simp only [f_law_48, f_L_grant, s1, s2, s3, hx, hz, clc_r, cl_s, bud_ok hc, thrown_e, jn_e, if_true, if_false, Nat.add_zero, reduceIte, i10, i20, i30, n21, n31, n32]
theorem W_19 : StpW ad f_law_19 := by
  intro Ls xs S c i ⟨b, d, j, k, v, np, nf, no, mo, r⟩ hi hL hc
  have cv := r.1
  have hB := cv.2.1
  have t := cv.t
  have s1 : ∀ (β : Type) (k : Int32 → Option β), sx Ls xs (nI i + 1) k = k (xs (i + 1)) := fun β k => by rw [da1, sx_at hL (by omega)]
  have s2 : ∀ (β : Type) (k : Int32 → Option β), sx Ls xs (nI i + 2) k = k (xs (i + 2)) := fun β k => by rw [da2, sx_at hL (by omega)]
  have s3 : ∀ (β : Type) (k : Int32 → Option β), sx Ls xs (nI i + 3) k = k (xs (i + 3)) := fun β k => by rw [da3, sx_at hL (by omega)]
  rcases Q_openOutlet cv (xs (i + 1)) (xs (i + 2)) (xs (i + 3)) with ⟨w, S1, v', no', mo', hx, mk, hy⟩ | ⟨e, z, he, hx, hy⟩
  · obtain ⟨S3, hz, rk⟩ := hy (uJ S1 (ad 2) 0 (w.toInt64)) (Mv_o (mk.mv hB r.m) 0 (w.toInt64))
    have t1 := mk.1.t t
    refine ⟨S3, c, ⟨b, d, j, k, v', np, nf, no', mo', RE_fin r mk (w.toInt64) rk⟩, by omega, fun kont => ?_⟩
    simp only [f_law_19, f_L_openOutlet, s1, s2, s3, hx, hz, clc_l, cl_s, bud_ok (show c ≤ 512 by omega), rk.thr, jn_e, st_o t1, rk.ld t1, if_true, if_false, Nat.add_zero, reduceIte, i10, i20, i30, n21, n31, n32]
  · simp only [List.mem_cons, Prod.mk.injEq, List.not_mem_nil, or_false] at he
    rcases he with ⟨rfl, rfl⟩ | ⟨rfl, rfl⟩
    · obtain ⟨u, hz⟩ := hy _ r.m
      refine ⟨_, c + 1, REL_t r 1, Nat.le_refl _, fun kont => ?_⟩
      simp only [f_law_19, f_L_openOutlet, s1, s2, s3, hx, hz, clc_r, cl_s, bud_ok hc, thrown_e, jn_e, if_true, if_false, Nat.add_zero, reduceIte, i10, i20, i30, n21, n31, n32]
    · obtain ⟨u, hz⟩ := hy _ r.m
      refine ⟨_, c + 1, REL_t r 2, Nat.le_refl _, fun kont => ?_⟩
      simp only [f_law_19, f_L_openOutlet, s1, s2, s3, hx, hz, clc_r, cl_s, bud_ok hc, thrown_e, jn_e, if_true, if_false, Nat.add_zero, reduceIte, i10, i20, i30, n21, n31, n32]
