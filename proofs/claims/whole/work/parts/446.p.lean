/-! the pure part: the law's case of closing a month -/
variable {S S1 S' S'' S3 : St} {ad : Nat → Nat} {b d j k : Nat} {v v' : Nat → Int64} {np nf no mo no' mo' : Nat}
theorem W_34 : StpW ad f_law_34 := by
  intro Ls xs S c i ⟨b, d, j, k, v, np, nf, no, mo, r⟩ hi hL hc
  have cv := r.1
  have hB := cv.2.1
  have t := cv.t
  rcases Q_closeMonth cv r.ws with ⟨w, S1, v', no', mo', hx, mk, hy⟩ | ⟨e, z, he, hx, hy⟩
  · obtain ⟨S3, hz, rk⟩ := hy (uJ S1 (ad 2) 0 (w.toInt64)) (Mv_o (mk.mv hB r.m) 0 (w.toInt64))
    have t1 := mk.1.t t
    refine ⟨S3, c, ⟨b, d, j, k, v', np, nf, no', mo', RE_fin r mk (w.toInt64) rk⟩, by omega, fun kont => ?_⟩
    simp only [f_law_34, f_L_closeMonth, hx, hz, clc_l, cl_s, bud_ok (show c ≤ 512 by omega), rk.thr, jn_e, st_o t1, rk.ld t1, if_true, if_false, Nat.add_zero, reduceIte, i10, i20, i30, n21, n31, n32]
  · simp only [List.mem_cons, Prod.mk.injEq, List.not_mem_nil, or_false] at he
    obtain ⟨rfl, rfl⟩ := he
    obtain ⟨u, hz⟩ := hy _ r.m
    refine ⟨_, c + 1, REL_t r 1, Nat.le_refl _, fun kont => ?_⟩
    simp only [f_law_34, f_L_closeMonth, hx, hz, clc_r, cl_s, bud_ok hc, thrown_e, jn_e, if_true, if_false, Nat.add_zero, reduceIte, i10, i20, i30, n21, n31, n32]
