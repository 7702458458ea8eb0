/-! the pure part: entries of the journal, the other kinds -/
variable {S S0 S1 S2 S' S'' S3 X Y : St} {ad : Nat → Nat} {b d j k : Nat} {v v0 v' v1 v2 u w : Nat → Int64} {np nf no mo no' mo' x y : Nat}
theorem B_grantW {f : Int32} {s : Int64} {a : Nat} {w : Int32} (h : f_X1_spendLocal S a f s = some (w, S1)) : ∃ B, w = bI B := by
  unfold f_X1_spendLocal at h
  rw [lt_n] at h
  cases h1 : f_X2_isActive S (gR S a 3) f with
  | none => rw [h1] at h; exact absurd h (by simp [cl])
  | some z =>
    rw [h1, cl_n] at h
    by_cases hz : z = 0
    · rw [if_pos hz] at h; simp only [Option.some.injEq, Prod.mk.injEq] at h; exact ⟨false, h.1.symm⟩
    · rw [if_neg hz, lt_n] at h
      cases h2 : f_X0_spendGrant S (gR S a 5) f s with
      | none => rw [h2] at h; exact absurd h (by simp [cl])
      | some q =>
        rw [h2, cl_n] at h
        by_cases hq : q.1 = 0
        · rw [if_pos hq] at h; simp only [Option.some.injEq, Prod.mk.injEq] at h; exact ⟨false, h.1.symm⟩
        · rw [if_neg hq, lt_n] at h
          cases h3 : f_X2_lowerBalance q.2 (gR q.2 a 3) f s with
          | none => rw [h3] at h; exact absurd h (by simp [cl])
          | some y => rw [h3, cl_n] at h; simp only [Option.some.injEq, Prod.mk.injEq] at h; exact ⟨true, h.1.symm⟩
theorem B_campW {s : Int64} {a : Nat} {w : Int32} (h : f_X0_spendNational S a s = some (w, S1)) : ∃ B, w = bI B := by
  unfold f_X0_spendNational at h
  cases h1 : f_X0_fundLeft S a with
  | none => rw [h1] at h; exact absurd h (by simp [cl])
  | some z =>
    rw [h1, cl_n] at h
    by_cases hz : s ≤ z
    · rw [if_pos hz, lt_n] at h
      unfold ldJ at h
      split at h
      · cases h
      · unfold stJ at h
        split at h
        · cases h
        · simp only [Option.some.injEq, Prod.mk.injEq] at h; exact ⟨true, h.1.symm⟩
    · rw [if_neg hz] at h; simp only [Option.some.injEq, Prod.mk.injEq] at h; exact ⟨false, h.1.symm⟩
theorem E_deliver (c : CV S ad b v np nf no mo) (hj : JB j) {e sz s x y a : Nat} (he : e < sz) (hs : sz ≤ 40) (h7 : gI S (ad j) 7 = nI sz) (h8 : gI S (ad j) 8 = nI e) (hk : gI S (ad (j + 1)) e = 1) {r : Nat → Int32} (h0 : r 0 = 1) (h1 : r 1 = nI s) (h2 : r 2 = nI x) (h3 : r 3 = nI y) (h4 : r 4 = nI a) (hsb : gI S (ad (j + 2)) e = nI s) (hxc : gI S (ad (j + 3)) e = nI x) (hyc : gI S (ad (j + 4)) e = nI y) (ham : gJ S (ad (j + 7)) e = 100 * (nI a).toInt64) (s16 : s < 16) (hx : x < 30) (hy : y < 30) (ha1 : 1 ≤ a) (ha : a ≤ 100000) : EX1 S (uI S (ad j) 8 (nI (e + 1))) ad b j e v np nf no mo r := by
  have c6 := CV_j c hj 8 (nI (e + 1))
  have t := c.t
  have t6 := c6.t
  have ho := c.ho
  have hm := c.hm
  have hf8 := c.hf
  have am : gJ (uI S (ad j) 8 (nI (e + 1))) (ad (j + 7)) e = lN (100 * a) := by rw [gJ_uI, ham, c100 (by omega)]
  have sb : gI (uI S (ad j) 8 (nI (e + 1))) (ad (j + 2)) e = nI s := by rw [(Ag_uI t (show j + 2 ≠ j by omega) e).1]; exact hsb
  have kd : gI (uI S (ad j) 8 (nI (e + 1))) (ad (j + 1)) e = 1 := by rw [(Ag_uI t (show j + 1 ≠ j by omega) e).1]; exact hk
  have xc : gI (uI S (ad j) 8 (nI (e + 1))) (ad (j + 3)) e = nI x := by rw [(Ag_uI t (show j + 3 ≠ j by omega) e).1]; exact hxc
  have yc : gI (uI S (ad j) 8 (nI (e + 1))) (ad (j + 4)) e = nI y := by rw [(Ag_uI t (show j + 4 ≠ j by omega) e).1]; exact hyc
  have sw := J_sw c hj he hs h7 h8 hk
  rw [if_pos (Or.inr rfl)] at sw
  generalize uI S (ad j) 8 (nI (e + 1)) = S6 at c6 t6 am sb kd xc yc sw
  have ld1 : ∀ (K : Int32 → Option (Int32 × St)), ldI S6 (ad (j + 1)) (nI e) K = K (1) := fun K => by rw [ldI_at (by rw [n_j1 t6 hj]; omega) (by rw [n_j1 t6 hj]; decide), kd]
  have ld2 : ∀ (K : Int32 → Option (Int32 × St)), ldI S6 (ad (j + 2)) (nI e) K = K (nI s) := fun K => by rw [ldI_at (by rw [n_j2 t6 hj]; omega) (by rw [n_j2 t6 hj]; decide), sb]
  have ld3 : ∀ (K : Int32 → Option (Int32 × St)), ldI S6 (ad (j + 3)) (nI e) K = K (nI x) := fun K => by rw [ldI_at (by rw [n_j3 t6 hj]; omega) (by rw [n_j3 t6 hj]; decide), xc]
  have ld4 : ∀ (K : Int32 → Option (Int32 × St)), ldI S6 (ad (j + 4)) (nI e) K = K (nI y) := fun K => by rw [ldI_at (by rw [n_j4 t6 hj]; omega) (by rw [n_j4 t6 hj]; decide), yc]
  have ld7 : ∀ (K : Int64 → Option (Int32 × St)), ldJ S6 (ad (j + 7)) (nI e) K = K (lN (100 * a)) := fun K => by rw [ldJ_at (by rw [n_j7 t6 hj]; omega) (by rw [n_j7 t6 hj]; decide), am]
  have ref : ∀ S', Mv S' ad v np nf no mo → gI S' (ad 1) 20 = nI e → (∀ q, q < 5 → gI S' (ad 10) (5 * e + q) = r q) → f_X12_execute S' (ad 1) = cl (f_X12_deliver S' (ad 1) (nI s) (nI x) (nI y) (lN (100 * a))) fun o14 => exK (ad 1) (bI (!decide (o14.1 < 0))) o14.2 := fun S' h h20 h10 => by
    have e0 : f_X12_entry S' (ad 1) 0 = some (1) := by rw [M_entry h (i := 0) (q := 0) (by omega) (by decide) h20 rfl, h10 0 (by decide), h0]
    have e1 : f_X12_entry S' (ad 1) 1 = some (nI s) := by rw [M_entry h (i := 1) (q := 1) (by omega) (by decide) h20 rfl, h10 1 (by decide), h1]
    have e2 : f_X12_entry S' (ad 1) 2 = some (nI x) := by rw [M_entry h (i := 2) (q := 2) (by omega) (by decide) h20 rfl, h10 2 (by decide), h2]
    have e3 : f_X12_entry S' (ad 1) 3 = some (nI y) := by rw [M_entry h (i := 3) (q := 3) (by omega) (by decide) h20 rfl, h10 3 (by decide), h3]
    have e4 : f_X12_entry S' (ad 1) 4 = some (nI a) := by rw [M_entry h (i := 4) (q := 4) (by omega) (by decide) h20 rfl, h10 4 (by decide), h4]
    rw [exE, e0, cl_n, jn_n, if_neg (by decide), if_pos rfl, e1, cl_n, e2, cl_n, e3, cl_n, f_X12_cents, e4, cl_n, cl_n, c100 (by omega)]
    refine congrArg _ (funext fun o => ?_)
    rw [jn_n]
    by_cases hz : o.1 < 0
    · rw [if_pos hz, decide_eq_true hz]; rfl
    · rw [if_neg hz, decide_eq_false hz]; rfl
  by_cases hok : s < no ∧ mo < 60
  · obtain ⟨w, S1, v', no', mo', hx', mk, hy'⟩ := B_deliver c6 (o := s) (n := 100 * a) hok.1 hx hy (by omega) (by omega) hok.2
    refine ⟨!decide (w < 0), S1, v', no', mo', ?_, mk, fun S' h h20 h10 => ?_⟩
    · rw [sw]
      simp only [f_X5_executeSales, lt_n, r_j_1 t6 hj, ld2, r_b0_2 t6 c.hb, C_hasO c6, vin_nI hok.1 (show no < 2 ^ 31 by omega), cl_n, if_bI, if_true, r_b0_5 t6 c.hb, C_openM c6, decide_eq_true hok.2, r_j_0 t6 hj, ld1, i10, if_false, r_j_2 t6 hj, ld3, r_j_3 t6 hj, ld4, r_j_6 t6 hj, ld7, hx']
      by_cases hz : w < 0
      · rw [if_pos hz, decide_eq_true hz, cl_n]; rfl
      · rw [if_neg hz, decide_eq_false hz, cl_n]; rfl
    · obtain ⟨S3, hz, rk⟩ := hy' S' h
      have hz : f_X12_deliver S' (ad 1) (nI s) (nI x) (nI y) (lN (100 * a)) = some (w, S3) := hz
      refine ⟨_, ?_, rk.fin h.1⟩
      rw [ref S' h h20 h10, hz, cl_n, ex_ok rk]
  · have hX : ∃ n, f_X11_deliver S6 (ad 0) (nI s) (nI x) (nI y) (lN (100 * a)) = some (.inr n) := by
      by_cases hs1 : s < no
      · have hm1 : ¬ mo < 60 := fun z => hok ⟨hs1, z⟩
        have p1 : ¬ lN (100 * a) < 1 := by rw [show (1 : Int64) = lN 1 from rfl, pk_lLT (by omega) (by decide)]; omega
        have p2 : ¬ 10000000 < lN (100 * a) := by rw [show (10000000 : Int64) = lN 10000000 from rfl, pk_lLT (by decide) (by omega)]; omega
        refine ⟨3, ?_⟩
        simp only [f_X11_deliver, C_reqO c6, vin_nI hs1 (show no < 2 ^ 31 by omega), if_true, clx_l, C_contains, vin_nI hx (show 30 < 2 ^ 31 by decide), vin_nI hy (show 30 < 2 ^ 31 by decide), Bool.and_self, cl_n, C_reqA, jn_n, p1, p2, if_false, C_reqA1, C_reqMo c6, hm1, clx_r]
      · have hv : vin (nI s) no = false := by
          rw [← Bool.not_eq_true, vin_iff, vp_in_iff, nI_toInt (by omega)]; omega
        exact ⟨1, by simp only [f_X11_deliver, C_reqO c6, hv, Bool.false_eq_true, if_false, clx_r]⟩
    obtain ⟨n, hX⟩ := hX
    obtain ⟨ee, z, hez, hyy⟩ := QM_thr (Q_deliver c6 (nI s) (nI x) (nI y) (lN (100 * a))) hX
    have hz : z ≠ 0 := by
      simp only [List.mem_cons, Prod.mk.injEq, List.not_mem_nil, or_false] at hez
      rcases hez with ⟨-, rfl⟩ | ⟨-, rfl⟩ | ⟨-, rfl⟩ <;> decide
    refine ⟨false, S6, v, no, mo, ?_, MK.rf c6, fun S' h h20 h10 => ?_⟩
    · rw [sw]
      simp only [f_X5_executeSales, lt_n, r_j_1 t6 hj, ld2, r_b0_2 t6 c.hb, C_hasO c6, cl_n, if_bI, r_b0_5 t6 c.hb, C_openM c6]
      by_cases hs1 : s < no
      · rw [vin_nI hs1 (show no < 2 ^ 31 by omega), decide_eq_false (fun z => hok ⟨hs1, z⟩), if_pos rfl, if_neg (by decide), cl_n]; rfl
      · have hv : vin (nI s) no = false := by
          rw [← Bool.not_eq_true, vin_iff, vp_in_iff, nI_toInt (by omega)]; omega
        rw [hv, if_neg (by decide), cl_n]; rfl
    · obtain ⟨u, hu⟩ := hyy S' h
      have hu : f_X12_deliver S' (ad 1) (nI s) (nI x) (nI y) (lN (100 * a)) = some (u, uI S' (ad 1) 2 z) := hu
      refine ⟨_, ?_, RK.rf h⟩
      rw [ref S' h h20 h10, hu, cl_n, ex_thr S' hz]; rfl
theorem E_pay (c : CV S ad b v np nf no mo) (hj : JB j) {e sz s a : Nat} (he : e < sz) (hs : sz ≤ 40) (h7 : gI S (ad j) 7 = nI sz) (h8 : gI S (ad j) 8 = nI e) (hk : gI S (ad (j + 1)) e = 2) {r : Nat → Int32} (h0 : r 0 = 2) (h1 : r 1 = nI s) (h2 : r 2 = nI a) (hsb : gI S (ad (j + 2)) e = nI s) (ham : gJ S (ad (j + 7)) e = 100 * (nI a).toInt64) (hsf : s < nf) (ha1 : 1 ≤ a) (ha : a ≤ 999999) : EX1 S (uI S (ad j) 8 (nI (e + 1))) ad b j e v np nf no mo r := by
  have c6 := CV_j c hj 8 (nI (e + 1))
  have t := c.t
  have t6 := c6.t
  have ho := c.ho
  have hm := c.hm
  have hf8 := c.hf
  have am : gJ (uI S (ad j) 8 (nI (e + 1))) (ad (j + 7)) e = lN (100 * a) := by rw [gJ_uI, ham, c100 (by omega)]
  have sb : gI (uI S (ad j) 8 (nI (e + 1))) (ad (j + 2)) e = nI s := by rw [(Ag_uI t (show j + 2 ≠ j by omega) e).1]; exact hsb
  have kd : gI (uI S (ad j) 8 (nI (e + 1))) (ad (j + 1)) e = 2 := by rw [(Ag_uI t (show j + 1 ≠ j by omega) e).1]; exact hk
  have sw := J_sw c hj he hs h7 h8 hk
  rw [if_neg (by decide), if_neg (by decide), if_neg (by decide)] at sw
  generalize uI S (ad j) 8 (nI (e + 1)) = S6 at c6 t6 am sb kd sw
  have ld1 : ∀ (K : Int32 → Option (Int32 × St)), ldI S6 (ad (j + 1)) (nI e) K = K (2) := fun K => by rw [ldI_at (by rw [n_j1 t6 hj]; omega) (by rw [n_j1 t6 hj]; decide), kd]
  have ld2 : ∀ (K : Int32 → Option (Int32 × St)), ldI S6 (ad (j + 2)) (nI e) K = K (nI s) := fun K => by rw [ldI_at (by rw [n_j2 t6 hj]; omega) (by rw [n_j2 t6 hj]; decide), sb]
  have ld7 : ∀ (K : Int64 → Option (Int32 × St)), ldJ S6 (ad (j + 7)) (nI e) K = K (lN (100 * a)) := fun K => by rw [ldJ_at (by rw [n_j7 t6 hj]; omega) (by rw [n_j7 t6 hj]; decide), am]
  have hB : vin (nI s) nf = true := vin_nI hsf (by omega)
  have hC : amt (lN (100 * a)) = true := by
    rw [amt, Bool.and_eq_true, decide_eq_true_eq, decide_eq_true_eq, show (1 : Int64) = lN 1 from rfl, show (1000000000 : Int64) = lN 1000000000 from rfl, pk_lLE (by decide) (by omega), pk_lLE (by omega) (by decide)]
    omega
  refine ⟨true, _, _, no, mo, ?_, MK_bal c6 hsf (v (58 + 16 * s + 4) - lN (100 * a)), fun S' h h20 h10 => ?_⟩
  · rw [sw]
    simp only [f_X5_executeForFranchisee, lt_n, r_j_1 t6 hj, ld2, r_b0_3 t6 c.hb, C_has c6, hB, cl_n, if_bI, if_true, r_j_0 t6 hj, ld1, show ((2 : Int32) = 5) = False by decide, show ((2 : Int32) = 3) = False by decide, if_false, r_j_6 t6 hj, ld7, C_lower c6 hsf]
    rfl
  · have e0 : f_X12_entry S' (ad 1) 0 = some (2) := by rw [M_entry h (i := 0) (q := 0) (by omega) (by decide) h20 rfl, h10 0 (by decide), h0]
    have e1 : f_X12_entry S' (ad 1) 1 = some (nI s) := by rw [M_entry h (i := 1) (q := 1) (by omega) (by decide) h20 rfl, h10 1 (by decide), h1]
    have e2 : f_X12_entry S' (ad 1) 2 = some (nI a) := by rw [M_entry h (i := 2) (q := 2) (by omega) (by decide) h20 rfl, h10 2 (by decide), h2]
    have rk : RK S' (uJ (uI S' (ad 1) 2 0) (ad 3) (58 + 16 * s + 4) (v (58 + 16 * s + 4) - lN (100 * a))) ad (udt v (58 + 16 * s + 4) (v (58 + 16 * s + 4) - lN (100 * a))) := RK_3 (RK.rf h) h.1
    refine ⟨_, ?_, rk.fin h.1⟩
    rw [exE, e0, cl_n, jn_n, if_neg (by decide), if_neg (by decide), if_pos rfl, e1, cl_n, f_X12_cents, e2, cl_n, cl_n, c100 (by omega), M_payOk h hB (by omega) hC, cl_n]
    exact ex_ok rk true
theorem E_grant (c : CV S ad b v np nf no mo) (hj : JB j) {e sz s a : Nat} (he : e < sz) (hs : sz ≤ 40) (h7 : gI S (ad j) 7 = nI sz) (h8 : gI S (ad j) 8 = nI e) (hk : gI S (ad (j + 1)) e = 3) {r : Nat → Int32} (h0 : r 0 = 3) (h1 : r 1 = nI s) (h2 : r 2 = nI a) (hsb : gI S (ad (j + 2)) e = nI s) (ham : gJ S (ad (j + 7)) e = 100 * (nI a).toInt64) (hsf : s < nf) (ha1 : 1 ≤ a) (ha : a ≤ 999999) : EX1 S (uI S (ad j) 8 (nI (e + 1))) ad b j e v np nf no mo r := by
  have c6 := CV_j c hj 8 (nI (e + 1))
  have t := c.t
  have t6 := c6.t
  have ho := c.ho
  have hm := c.hm
  have hf8 := c.hf
  have am : gJ (uI S (ad j) 8 (nI (e + 1))) (ad (j + 7)) e = lN (100 * a) := by rw [gJ_uI, ham, c100 (by omega)]
  have sb : gI (uI S (ad j) 8 (nI (e + 1))) (ad (j + 2)) e = nI s := by rw [(Ag_uI t (show j + 2 ≠ j by omega) e).1]; exact hsb
  have kd : gI (uI S (ad j) 8 (nI (e + 1))) (ad (j + 1)) e = 3 := by rw [(Ag_uI t (show j + 1 ≠ j by omega) e).1]; exact hk
  have sw := J_sw c hj he hs h7 h8 hk
  rw [if_neg (by decide), if_neg (by decide), if_neg (by decide)] at sw
  generalize uI S (ad j) 8 (nI (e + 1)) = S6 at c6 t6 am sb kd sw
  have ld1 : ∀ (K : Int32 → Option (Int32 × St)), ldI S6 (ad (j + 1)) (nI e) K = K (3) := fun K => by rw [ldI_at (by rw [n_j1 t6 hj]; omega) (by rw [n_j1 t6 hj]; decide), kd]
  have ld2 : ∀ (K : Int32 → Option (Int32 × St)), ldI S6 (ad (j + 2)) (nI e) K = K (nI s) := fun K => by rw [ldI_at (by rw [n_j2 t6 hj]; omega) (by rw [n_j2 t6 hj]; decide), sb]
  have ld7 : ∀ (K : Int64 → Option (Int32 × St)), ldJ S6 (ad (j + 7)) (nI e) K = K (lN (100 * a)) := fun K => by rw [ldJ_at (by rw [n_j7 t6 hj]; omega) (by rw [n_j7 t6 hj]; decide), am]
  have hB : vin (nI s) nf = true := vin_nI hsf (by omega)
  obtain ⟨w, S1, v', no', mo', hx', mk, hy'⟩ := B_grant c6 (f := s) (n := 100 * a) hsf (by omega) (by omega)
  have hw : ∃ B, w = bI B := B_grantW hx'
  obtain ⟨B, rfl⟩ := hw
  refine ⟨B, S1, v', no', mo', ?_, mk, fun S' h h20 h10 => ?_⟩
  · rw [sw]
    simp only [f_X5_executeForFranchisee, lt_n, r_j_1 t6 hj, ld2, r_b0_3 t6 c.hb, C_has c6, hB, cl_n, if_bI, if_true, r_j_0 t6 hj, ld1, show ((3 : Int32) = 5) = False by decide, if_false, r_j_6 t6 hj, ld7, hx', zc_b]
  · have e0 : f_X12_entry S' (ad 1) 0 = some (3) := by rw [M_entry h (i := 0) (q := 0) (by omega) (by decide) h20 rfl, h10 0 (by decide), h0]
    have e1 : f_X12_entry S' (ad 1) 1 = some (nI s) := by rw [M_entry h (i := 1) (q := 1) (by omega) (by decide) h20 rfl, h10 1 (by decide), h1]
    have e2 : f_X12_entry S' (ad 1) 2 = some (nI a) := by rw [M_entry h (i := 2) (q := 2) (by omega) (by decide) h20 rfl, h10 2 (by decide), h2]
    obtain ⟨S3, hz, rk⟩ := hy' S' h
    have hz : f_X12_grant S' (ad 1) (nI s) (lN (100 * a)) = some (bI B, S3) := hz
    refine ⟨_, ?_, rk.fin h.1⟩
    rw [exE, e0, cl_n, jn_n, if_neg (by decide), if_neg (by decide), if_neg (by decide), if_pos rfl, e1, cl_n, f_X12_cents, e2, cl_n, cl_n, c100 (by omega), hz, cl_n, ex_ok rk]
theorem E_campaign (c : CV S ad b v np nf no mo) (hj : JB j) {e sz a : Nat} (he : e < sz) (hs : sz ≤ 40) (h7 : gI S (ad j) 7 = nI sz) (h8 : gI S (ad j) 8 = nI e) (hk : gI S (ad (j + 1)) e = 4) {r : Nat → Int32} (h0 : r 0 = 4) (h1 : r 1 = nI a) (ham : gJ S (ad (j + 7)) e = 100 * (nI a).toInt64) (ha1 : 1 ≤ a) (ha : a ≤ 999999) : EX1 S (uI S (ad j) 8 (nI (e + 1))) ad b j e v np nf no mo r := by
  have c6 := CV_j c hj 8 (nI (e + 1))
  have t := c.t
  have t6 := c6.t
  have ho := c.ho
  have hm := c.hm
  have hf8 := c.hf
  have am : gJ (uI S (ad j) 8 (nI (e + 1))) (ad (j + 7)) e = lN (100 * a) := by rw [gJ_uI, ham, c100 (by omega)]
  have sw := J_sw c hj he hs h7 h8 hk
  rw [if_neg (by decide), if_pos rfl] at sw
  generalize uI S (ad j) 8 (nI (e + 1)) = S6 at c6 t6 am sw
  have ld7 : ∀ (K : Int64 → Option (Int32 × St)), ldJ S6 (ad (j + 7)) (nI e) K = K (lN (100 * a)) := fun K => by rw [ldJ_at (by rw [n_j7 t6 hj]; omega) (by rw [n_j7 t6 hj]; decide), am]
  obtain ⟨w, S1, v', no', mo', hx', mk, hy'⟩ := B_campaign c6 (n := 100 * a) (by omega) (by omega)
  have hw : ∃ B, w = bI B := B_campW hx'
  obtain ⟨B, rfl⟩ := hw
  refine ⟨B, S1, v', no', mo', ?_, mk, fun S' h h20 h10 => ?_⟩
  · rw [sw]
    simp only [lt_n, r_b0_5 t6 c.hb, r_j_6 t6 hj, ld7, hx', cl_n, zc_b]
  · have e0 : f_X12_entry S' (ad 1) 0 = some (4) := by rw [M_entry h (i := 0) (q := 0) (by omega) (by decide) h20 rfl, h10 0 (by decide), h0]
    have e1 : f_X12_entry S' (ad 1) 1 = some (nI a) := by rw [M_entry h (i := 1) (q := 1) (by omega) (by decide) h20 rfl, h10 1 (by decide), h1]
    obtain ⟨S3, hz, rk⟩ := hy' S' h
    have hz : f_X12_campaign S' (ad 1) (lN (100 * a)) = some (bI B, S3) := hz
    refine ⟨_, ?_, rk.fin h.1⟩
    rw [exE, e0, cl_n, jn_n, if_neg (by decide), if_neg (by decide), if_neg (by decide), if_neg (by decide), if_pos rfl, f_X12_cents, e1, cl_n, cl_n, c100 (by omega), hz, cl_n, ex_ok rk]
theorem E_vote (c : CV S ad b v np nf no mo) (hj : JB j) {e sz s m : Nat} (he : e < sz) (hs : sz ≤ 40) (h7 : gI S (ad j) 7 = nI sz) (h8 : gI S (ad j) 8 = nI e) (hk : gI S (ad (j + 1)) e = 5) {r : Nat → Int32} (h0 : r 0 = 5) {y : Int32} (h1 : r 1 = nI s) (h2 : r 2 = nI m) (h3 : r 3 = y) (hsb : gI S (ad (j + 2)) e = nI s) (hmb : gI S (ad (j + 5)) e = nI m) (hys : gI S (ad (j + 6)) e = y) (hsf : s < nf) (hm5 : m < 5) (hy01 : y = 0 ∨ y = 1) : EX1 S (uI S (ad j) 8 (nI (e + 1))) ad b j e v np nf no mo r := by
  have c6 := CV_j c hj 8 (nI (e + 1))
  have t := c.t
  have t6 := c6.t
  have ho := c.ho
  have hm := c.hm
  have hf8 := c.hf
  have sb : gI (uI S (ad j) 8 (nI (e + 1))) (ad (j + 2)) e = nI s := by rw [(Ag_uI t (show j + 2 ≠ j by omega) e).1]; exact hsb
  have kd : gI (uI S (ad j) 8 (nI (e + 1))) (ad (j + 1)) e = 5 := by rw [(Ag_uI t (show j + 1 ≠ j by omega) e).1]; exact hk
  have mb : gI (uI S (ad j) 8 (nI (e + 1))) (ad (j + 5)) e = nI m := by rw [(Ag_uI t (show j + 5 ≠ j by omega) e).1]; exact hmb
  have ys : gI (uI S (ad j) 8 (nI (e + 1))) (ad (j + 6)) e = y := by rw [(Ag_uI t (show j + 6 ≠ j by omega) e).1]; exact hys
  have sw := J_sw c hj he hs h7 h8 hk
  rw [if_neg (by decide), if_neg (by decide), if_neg (by decide)] at sw
  generalize uI S (ad j) 8 (nI (e + 1)) = S6 at c6 t6 sb kd mb ys sw
  have ld1 : ∀ (K : Int32 → Option (Int32 × St)), ldI S6 (ad (j + 1)) (nI e) K = K (5) := fun K => by rw [ldI_at (by rw [n_j1 t6 hj]; omega) (by rw [n_j1 t6 hj]; decide), kd]
  have ld2 : ∀ (K : Int32 → Option (Int32 × St)), ldI S6 (ad (j + 2)) (nI e) K = K (nI s) := fun K => by rw [ldI_at (by rw [n_j2 t6 hj]; omega) (by rw [n_j2 t6 hj]; decide), sb]
  have ld5 : ∀ (K : Int32 → Option (Int32 × St)), ldI S6 (ad (j + 5)) (nI e) K = K (nI m) := fun K => by rw [ldI_at (by rw [n_j5 t6 hj]; omega) (by rw [n_j5 t6 hj]; decide), mb]
  have ld6 : ∀ (K : Int32 → Option (Int32 × St)), ldI S6 (ad (j + 6)) (nI e) K = K (y) := fun K => by rw [ldI_at (by rw [n_j6 t6 hj]; omega) (by rw [n_j6 t6 hj]; decide), ys]
  have hB : vin (nI s) nf = true := vin_nI hsf (by omega)
  obtain ⟨w, S1, v', hw, hx', mk, hy'⟩ := C_voteW c6 hsf hm5 y
  have hwi : (w = -1) ↔ w < 0 := ⟨fun z => by rw [z]; decide, fun z => hw.elim id (fun q => absurd z q)⟩
  refine ⟨!decide (w < 0), S1, v', no, mo, ?_, mk, fun S' h h20 h10 => ?_⟩
  · rw [sw]
    simp only [f_X5_executeForFranchisee, lt_n, r_j_1 t6 hj, ld2, r_b0_3 t6 c.hb, C_has c6, hB, cl_n, if_bI, if_true, r_j_0 t6 hj, ld1, r_b0_4 t6 c.hb, r_j_4 t6 hj, ld5, r_j_5 t6 hj, ld6, hx', hwi]
    by_cases hz : w < 0
    · rw [if_pos hz, decide_eq_true hz, cl_n]; rfl
    · rw [if_neg hz, decide_eq_false hz, cl_n]; rfl
  · have e0 : f_X12_entry S' (ad 1) 0 = some (5) := by rw [M_entry h (i := 0) (q := 0) (by omega) (by decide) h20 rfl, h10 0 (by decide), h0]
    have e1 : f_X12_entry S' (ad 1) 1 = some (nI s) := by rw [M_entry h (i := 1) (q := 1) (by omega) (by decide) h20 rfl, h10 1 (by decide), h1]
    have e2 : f_X12_entry S' (ad 1) 2 = some (nI m) := by rw [M_entry h (i := 2) (q := 2) (by omega) (by decide) h20 rfl, h10 2 (by decide), h2]
    have e3 : f_X12_entry S' (ad 1) 3 = some (y) := by rw [M_entry h (i := 3) (q := 3) (by omega) (by decide) h20 rfl, h10 3 (by decide), h3]
    obtain ⟨S3, hz, rk⟩ := hy' S' h hB
    refine ⟨_, ?_, rk.fin h.1⟩
    rw [exE, e0, cl_n, jn_n, if_neg (by decide), if_neg (by decide), if_neg (by decide), if_neg (by decide), if_neg (by decide), if_pos rfl, e1, cl_n, e2, cl_n, e3, cl_n, jn_n]
    have ey : ∀ {α : Type} (F : Int32 → α), (if y = 1 then F 1 else F 0) = F y := fun F => by
      rcases hy01 with rfl | rfl
      · rw [if_neg (by decide)]
      · rw [if_pos rfl]
    refine (ey (fun x37 => cl (f_X12_vote S' (ad 1) (nI s) (nI m) x37) _)).trans ?_
    show cl (f_X12_vote S' (ad 1) (nI s) (nI m) y) _ = _
    rw [hz, cl_n, jn_n]
    by_cases hz : w < 0
    · rw [if_pos hz, decide_eq_true hz]; exact ex_ok rk false
    · rw [if_neg hz, decide_eq_false hz]; exact ex_ok rk true
theorem E_close (c : CV S ad b v np nf no mo) (hj : JB j) {e sz : Nat} (he : e < sz) (hs : sz ≤ 40) (h7 : gI S (ad j) 7 = nI sz) (h8 : gI S (ad j) 8 = nI e) (hk : gI S (ad (j + 1)) e = 6) {r : Nat → Int32} (h0 : r 0 = 6) (ws : WS v nf mo) : EX1 S (uI S (ad j) 8 (nI (e + 1))) ad b j e v np nf no mo r := by
  have c6 := CV_j c hj 8 (nI (e + 1))
  have t := c.t
  have t6 := c6.t
  have ho := c.ho
  have hm := c.hm
  have hf8 := c.hf
  have sw := J_sw c hj he hs h7 h8 hk
  rw [if_neg (by decide), if_neg (by decide), if_pos rfl] at sw
  generalize uI S (ad j) 8 (nI (e + 1)) = S6 at c6 t6 sw
  have ref : ∀ S', Mv S' ad v np nf no mo → gI S' (ad 1) 20 = nI e → (∀ q, q < 5 → gI S' (ad 10) (5 * e + q) = r q) → f_X12_execute S' (ad 1) = cl (f_X12_closeMonth S' (ad 1)) fun o44 => exK (ad 1) 1 o44.2 := fun S' h h20 h10 => by
    have e0 : f_X12_entry S' (ad 1) 0 = some (6) := by rw [M_entry h (i := 0) (q := 0) (by omega) (by decide) h20 rfl, h10 0 (by decide), h0]
    rw [exE, e0, cl_n, jn_n, if_neg (by decide), if_neg (by decide), if_neg (by decide), if_neg (by decide), if_neg (by decide), if_neg (by decide)]
  by_cases hmo : mo < 60
  · obtain ⟨S1, hx', mk⟩ := C_close c6 ws hmo
    refine ⟨true, S1, _, no, mo + 1, ?_, mk, fun S' h h20 h10 => ?_⟩
    · rw [sw, hx', cl_n]; rfl
    · obtain ⟨S3, hz, rk⟩ := M_close c6 ws hmo h
      refine ⟨_, ?_, rk.fin h.1⟩
      rw [ref S' h h20 h10, hz, cl_n]
      exact ex_ok rk true
  · have e60 : mo = 60 := by omega
    refine ⟨false, S6, v, no, mo, ?_, MK.rf c6, fun S' h h20 h10 => ?_⟩
    · rw [sw, f_X1_close, lt_n, r_b0_5 t6 c.hb, C_openM c6, decide_eq_false hmo, cl_n, bI_f, if_pos rfl, cl_n]; rfl
    · have h1 := Mv_t h (ad 1) 2 0
      have hc : f_X12_closeMonth S' (ad 1) = some (0, uI S' (ad 1) 2 1) := by
        unfold f_X12_closeMonth
        rw [lt_n, M_over h1, decide_eq_true e60, bI_t, cl_n, M_throws1, cl_n, if_neg (show ¬ ((1 : Int32) = 0) by decide), uI_uI]
      refine ⟨_, ?_, RK.rf h⟩
      rw [ref S' h h20 h10, hc, cl_n]
      exact ex_thr S' (by decide) true
