/-! the pure part: an entry of the journal is executed -/
variable {S S0 S1 S2 S' S'' S3 X Y : St} {ad : Nat → Nat} {b d j k : Nat} {v v0 v' v1 v2 u w : Nat → Int64} {np nf no mo no' mo' x y : Nat}
def exK (p0 : Nat) (x2 : Int32) (S3 : St) : Option (Int32 × St) := lt (gI S3 p0 2) fun (v6 : Int32) => jn (κ := Int32 → Option (Int32 × St)) (fun x7 => lt (x2 &&& x7) fun (v10 : Int32) => lt (uI S3 p0 2 0) fun (S11 : St) => zc v10 (some (v10, S11))) fun k8 => if v6 = 0 then (k8 1) else (k8 0)
theorem exE (S : St) (p0 : Nat) : f_X12_execute S p0 = (cl (f_X12_entry S p0 0) fun (v1 : Int32) => jn (κ := Int32 → St → Option (Int32 × St)) (exK p0) fun k4 => if v1 = 0 then (cl (f_X12_entry S p0 1) fun (v12 : Int32) => cl (f_X12_cents S p0 2) fun (v13 : Int64) => cl (f_X12_reportSales S p0 v12 v13) fun (o14 : Int64 × St) => jn (κ := Int32 → Option (Int32 × St)) (fun x15 => k4 x15 o14.2) fun k16 => if o14.1 < 0 then (k16 0) else (k16 1)) else (if v1 = 1 then (cl (f_X12_entry S p0 1) fun (v18 : Int32) => cl (f_X12_entry S p0 2) fun (v19 : Int32) => cl (f_X12_entry S p0 3) fun (v20 : Int32) => cl (f_X12_cents S p0 4) fun (v21 : Int64) => cl (f_X12_deliver S p0 v18 v19 v20 v21) fun (o22 : Int64 × St) => jn (κ := Int32 → Option (Int32 × St)) (fun x23 => k4 x23 o22.2) fun k24 => if o22.1 < 0 then (k24 0) else (k24 1)) else (if v1 = 2 then (cl (f_X12_entry S p0 1) fun (v26 : Int32) => cl (f_X12_cents S p0 2) fun (v27 : Int64) => cl (f_X12_pay S p0 v26 v27) fun (o28 : Int64 × St) => k4 1 o28.2) else (if v1 = 3 then (cl (f_X12_entry S p0 1) fun (v29 : Int32) => cl (f_X12_cents S p0 2) fun (v30 : Int64) => cl (f_X12_grant S p0 v29 v30) fun (o31 : Int32 × St) => k4 o31.1 o31.2) else (if v1 = 4 then (cl (f_X12_cents S p0 1) fun (v32 : Int64) => cl (f_X12_campaign S p0 v32) fun (o33 : Int32 × St) => k4 o33.1 o33.2) else (if v1 = 5 then (cl (f_X12_entry S p0 1) fun (v34 : Int32) => cl (f_X12_entry S p0 2) fun (v35 : Int32) => cl (f_X12_entry S p0 3) fun (v36 : Int32) => jn (κ := Int32 → Option (Int32 × St)) (fun x37 => cl (f_X12_vote S p0 v34 v35 x37) fun (o40 : Int32 × St) => jn (κ := Int32 → Option (Int32 × St)) (fun x41 => k4 x41 o40.2) fun k42 => if o40.1 < 0 then (k42 0) else (k42 1)) fun k38 => if v36 = 1 then (k38 1) else (k38 0)) else (cl (f_X12_closeMonth S p0) fun (o44 : Int32 × St) => k4 1 o44.2))))))) := by
  unfold f_X12_execute exK
  rfl
theorem and1 (B : Bool) : bI B &&& 1 = bI B := by cases B <;> decide
theorem and0 (B : Bool) : bI B &&& 0 = 0 := by cases B <;> decide
theorem ex_ok (rk : RK S' S3 ad v') (B : Bool) : exK (ad 1) (bI B) S3 = some (bI B, uI S3 (ad 1) 2 0) := by
  unfold exK
  rw [lt_n, rk.2.1, jn_n, if_pos rfl]
  simp only [lt_n, and1, zc_b]
theorem ex_thr (S' : St) {z : Int32} (hz : z ≠ 0) (B : Bool) : exK (ad 1) (bI B) (uI S' (ad 1) 2 z) = some (0, uI S' (ad 1) 2 0) := by
  unfold exK
  rw [lt_n, gI_uI, if_pos ⟨rfl, rfl⟩, jn_n, if_neg hz]
  simp only [lt_n, and0, zc_0, uI_uI]
theorem RK.fin (rk : RK S' S3 ad v') (t : TR S' ad) : RK S' (uI S3 (ad 1) 2 0) ad v' := ⟨rk.1.tr (Ch_t (rk.1.t t)), by rw [gI_uI, if_pos ⟨rfl, rfl⟩], rk.2.2⟩
theorem QM_thr {α : Type} {es : List (Nat × Int32)} {X : Option ((α × St) ⊕ Nat)} {Y : St → Option (α × St)} (q : QM S ad b v np nf no mo es X Y) {n : Nat} (hX : X = some (.inr n)) : ∃ e z, (e, z) ∈ es ∧ ∀ S', Mv S' ad v np nf no mo → ∃ u, Y S' = some (u, uI S' (ad 1) 2 z) := by
  rcases q with ⟨w, S1, v', no', mo', hx, -⟩ | ⟨e, z, he, -, hy⟩
  · rw [hX] at hx; simp at hx
  · exact ⟨e, z, he, hy⟩
theorem c100 {a : Nat} (h : a < 2 ^ 31) : (100 : Int64) * (nI a).toInt64 = lN (100 * a) := by
  rw [nI_l h]
  exact (Int64.ofNat_mul 100 a).symm
theorem bI_nlt (z : Int64) : (if z < 0 then (0 : Int32) else 1) = bI (!decide (z < 0)) := by by_cases h : z < 0 <;> simp [h, bI]
/-- what an entry does, on both sides -/
def EX1 (S S6 : St) (ad : Nat → Nat) (b j e : Nat) (v : Nat → Int64) (np nf no mo : Nat) (r : Nat → Int32) : Prop := ∃ w S1 v' no' mo', f_X5_executeNext S (ad j) (ad b) = some (bI w, S1) ∧ MK S6 S1 ad b v v' np nf no' mo' ∧ ∀ S', Mv S' ad v np nf no mo → gI S' (ad 1) 20 = nI e → (∀ q, q < 5 → gI S' (ad 10) (5 * e + q) = r q) → ∃ S3, f_X12_execute S' (ad 1) = some (bI w, S3) ∧ RK S' S3 ad v'
theorem M_entry (h : Mv S' ad v np nf no mo) {e q : Nat} (he : e < 40) (hq : q < 5) (h20 : gI S' (ad 1) 20 = nI e) {i : Int32} (hi : i = nI q) : f_X12_entry S' (ad 1) i = some (gI S' (ad 10) (5 * e + q)) := by
  unfold f_X12_entry
  rw [lt_n, r_1_17 h.1, lt_n, h20, hi, mu5, nI_add, ldI_at (by rw [n_10 h.1]; omega) (by rw [n_10 h.1]; decide)]
theorem lt_sw {a c : Nat} (h : a < c) (hc : c < 2 ^ 31) : nI a < nI c := by rw [nI_ltI (by omega) hc]; exact h
/-- executeNext up to the switch -/
theorem J_sw (c : CV S ad b v np nf no mo) (hj : JB j) {e sz : Nat} (he : e < sz) (hs : sz ≤ 40) (h7 : gI S (ad j) 7 = nI sz) (h8 : gI S (ad j) 8 = nI e) {kd : Int32} (hk : gI S (ad (j + 1)) e = kd) : f_X5_executeNext S (ad j) (ad b) = (
    if kd = 0 ∨ kd = 1 then (cl (f_X5_executeSales (uI S (ad j) 8 (nI (e + 1))) (ad j) (nI e) (ad b)) fun (o12 : Int32 × St) => zc o12.1 (some (o12.1, o12.2)))
    else if kd = 4 then (lt (gR (uI S (ad j) 8 (nI (e + 1))) (ad b) 5) fun (a16 : Nat) => lt (gR (uI S (ad j) 8 (nI (e + 1))) (ad j) 6) fun (a18 : Nat) => ldJ (uI S (ad j) 8 (nI (e + 1))) a18 (nI e) fun (v20 : Int64) => cl (f_X0_spendNational (uI S (ad j) 8 (nI (e + 1))) a16 v20) fun (o21 : Int32 × St) => zc o21.1 (some (o21.1, o21.2)))
    else if kd = 6 then (cl (f_X1_close (uI S (ad j) 8 (nI (e + 1))) (ad b)) fun (o22 : Int32 × St) => zc o22.1 (some (o22.1, o22.2)))
    else (cl (f_X5_executeForFranchisee (uI S (ad j) 8 (nI (e + 1))) (ad j) (nI e) (ad b)) fun (o15 : Int32 × St) => zc o15.1 (some (o15.1, o15.2)))) := by
  have t := c.t
  have t6 : TR (uI S (ad j) 8 (nI (e + 1))) ad := TR_SR0 (SR0_uI _ _ _ _) t
  unfold f_X5_executeNext
  rw [lt_n, h8, if_neg (nI_pos (by omega)), lt_n, lt_n, h7, if_pos (lt_sw he (by omega)), lt_n, lt_n, nI_1, lt_n, lt_n, r_j_0 t6 hj, ldI_at (by rw [n_j1 t6 hj]; omega) (by rw [n_j1 t6 hj]; decide), show gI (uI S (ad j) 8 (nI (e + 1))) (ad (j + 1)) e = kd by rw [(Ag_uI t (show j + 1 ≠ j by omega) e).1]; exact hk, jn_n, jn_n]
  by_cases k0 : kd = 0
  · rw [if_pos k0, if_pos (Or.inl k0)]
  · rw [if_neg k0]
    by_cases k1 : kd = 1
    · rw [if_pos k1, if_pos (Or.inr k1)]
    · have k01 : ¬ (kd = 0 ∨ kd = 1) := fun z => z.elim k0 k1
      rw [if_neg k1]
      by_cases k2 : kd = 2
      · have a4 : ¬ kd = 4 := by rw [k2]; decide
        have a6 : ¬ kd = 6 := by rw [k2]; decide
        rw [if_pos k2, if_neg k01, if_neg a4, if_neg a6]
      · rw [if_neg k2]
        by_cases k3 : kd = 3
        · have a4 : ¬ kd = 4 := by rw [k3]; decide
          have a6 : ¬ kd = 6 := by rw [k3]; decide
          rw [if_pos k3, if_neg k01, if_neg a4, if_neg a6]
        · rw [if_neg k3]
          by_cases k4 : kd = 4
          · rw [if_pos k4, if_neg k01, if_pos k4]
          · rw [if_neg k4]
            by_cases k5 : kd = 5
            · have a6 : ¬ kd = 6 := by rw [k5]; decide
              rw [if_pos k5, if_neg k01, if_neg k4, if_neg a6]
            · rw [if_neg k5, if_neg k01, if_neg k4]
theorem CV_j (c : CV S ad b v np nf no mo) (hj : JB j) (i : Nat) (w : Int32) : CV (uI S (ad j) i w) ad b v np nf no mo := by
  have hb := c.2.1
  refine CV_c (SR0_uI _ _ _ _) (fun q hq => Ag_uI c.t ?_) c
  unfold BR at hq; unfold JB at hj; omega
theorem E_sales (c : CV S ad b v np nf no mo) (hj : JB j) {e sz s a : Nat} (he : e < sz) (hs : sz ≤ 40) (h7 : gI S (ad j) 7 = nI sz) (h8 : gI S (ad j) 8 = nI e) (hk : gI S (ad (j + 1)) e = 0) {r : Nat → Int32} (h0 : r 0 = 0) (h1 : r 1 = nI s) (h2 : r 2 = nI a) (hsb : gI S (ad (j + 2)) e = nI s) (ham : gJ S (ad (j + 7)) e = 100 * (nI a).toInt64) (s16 : s < 16) (ha : a ≤ 100000) : EX1 S (uI S (ad j) 8 (nI (e + 1))) ad b j e v np nf no mo r := by
  have c6 := CV_j c hj 8 (nI (e + 1))
  have t := c.t
  have t6 := c6.t
  have ho := c.ho
  have hm := c.hm
  have am : gJ (uI S (ad j) 8 (nI (e + 1))) (ad (j + 7)) e = lN (100 * a) := by rw [gJ_uI, ham, c100 (by omega)]
  have sb : gI (uI S (ad j) 8 (nI (e + 1))) (ad (j + 2)) e = nI s := by rw [(Ag_uI t (show j + 2 ≠ j by omega) e).1]; exact hsb
  have kd : gI (uI S (ad j) 8 (nI (e + 1))) (ad (j + 1)) e = 0 := by rw [(Ag_uI t (show j + 1 ≠ j by omega) e).1]; exact hk
  have sw := J_sw c hj he hs h7 h8 hk
  rw [if_pos (Or.inl rfl)] at sw
  generalize uI S (ad j) 8 (nI (e + 1)) = S6 at c6 t6 am sb kd sw
  have ld1 : ∀ (K : Int32 → Option (Int32 × St)), ldI S6 (ad (j + 1)) (nI e) K = K 0 := fun K => by rw [ldI_at (by rw [n_j1 t6 hj]; omega) (by rw [n_j1 t6 hj]; decide), kd]
  have ld2 : ∀ (K : Int32 → Option (Int32 × St)), ldI S6 (ad (j + 2)) (nI e) K = K (nI s) := fun K => by rw [ldI_at (by rw [n_j2 t6 hj]; omega) (by rw [n_j2 t6 hj]; decide), sb]
  have ld7 : ∀ (K : Int64 → Option (Int32 × St)), ldJ S6 (ad (j + 7)) (nI e) K = K (lN (100 * a)) := fun K => by rw [ldJ_at (by rw [n_j7 t6 hj]; omega) (by rw [n_j7 t6 hj]; decide), am]
  have ref : ∀ S', Mv S' ad v np nf no mo → gI S' (ad 1) 20 = nI e → (∀ q, q < 5 → gI S' (ad 10) (5 * e + q) = r q) → f_X12_execute S' (ad 1) = cl (f_X12_reportSales S' (ad 1) (nI s) (lN (100 * a))) fun o14 => exK (ad 1) (bI (!decide (o14.1 < 0))) o14.2 := fun S' h h20 h10 => by
    have e0 : f_X12_entry S' (ad 1) 0 = some 0 := by rw [M_entry h (i := 0) (q := 0) (by omega) (by decide) h20 rfl, h10 0 (by decide), h0]
    have e1 : f_X12_entry S' (ad 1) 1 = some (nI s) := by rw [M_entry h (i := 1) (q := 1) (by omega) (by decide) h20 rfl, h10 1 (by decide), h1]
    have e2 : f_X12_entry S' (ad 1) 2 = some (nI a) := by rw [M_entry h (i := 2) (q := 2) (by omega) (by decide) h20 rfl, h10 2 (by decide), h2]
    rw [exE, e0, cl_n, jn_n, if_pos rfl, e1, cl_n, f_X12_cents, e2, cl_n, cl_n, c100 (by omega)]
    refine congrArg _ (funext fun o => ?_)
    rw [jn_n]
    by_cases hz : o.1 < 0
    · rw [if_pos hz, decide_eq_true hz]; rfl
    · rw [if_neg hz, decide_eq_false hz]; rfl
  by_cases hok : s < no ∧ mo < 60
  · obtain ⟨w, S1, v', no', mo', hx, mk, hy⟩ := B_sales c6 (o := s) (n := 100 * a) hok.1 (by omega) hok.2
    refine ⟨!decide (w < 0), S1, v', no', mo', ?_, mk, fun S' h h20 h10 => ?_⟩
    · rw [sw]
      simp only [f_X5_executeSales, lt_n, r_j_1 t6 hj, ld2, r_b0_2 t6 c.hb, C_hasO c6, vin_nI hok.1 (show no < 2 ^ 31 by omega), cl_n, if_bI, if_true, r_b0_5 t6 c.hb, C_openM c6, decide_eq_true hok.2, r_j_0 t6 hj, ld1, r_j_6 t6 hj, ld7, hx]
      by_cases hz : w < 0
      · rw [if_pos hz, decide_eq_true hz, cl_n]; rfl
      · rw [if_neg hz, decide_eq_false hz, cl_n]; rfl
    · obtain ⟨S3, hz, rk⟩ := hy S' h
      have hz : f_X12_reportSales S' (ad 1) (nI s) (lN (100 * a)) = some (w, S3) := hz
      refine ⟨_, ?_, rk.fin h.1⟩
      rw [ref S' h h20 h10, hz, cl_n, ex_ok rk]
  · have hX : ∃ n, f_X11_reportSales S6 (ad 0) (nI s) (lN (100 * a)) = some (.inr n) := by
      by_cases hs1 : s < no
      · have hm1 : ¬ mo < 60 := fun z => hok ⟨hs1, z⟩
        have hS : salR (lN (100 * a)) = true := by
          rw [salR, Bool.and_eq_true, decide_eq_true_eq, decide_eq_true_eq, show (0 : Int64) = lN 0 from rfl, show (10000000 : Int64) = lN 10000000 from rfl, pk_lLE (by decide) (by omega), pk_lLE (by omega) (by decide)]
          omega
        refine ⟨3, ?_⟩
        simp only [f_X11_reportSales, C_reqO c6, vin_nI hs1 (show no < 2 ^ 31 by omega), if_true, clx_l, jn_n, sal_cases, hS, C_reqA1, C_reqMo c6, hm1, if_false, clx_r]
      · have hv : vin (nI s) no = false := by
          rw [← Bool.not_eq_true, vin_iff, vp_in_iff, nI_toInt (by omega)]; omega
        exact ⟨1, by simp only [f_X11_reportSales, C_reqO c6, hv, Bool.false_eq_true, if_false, clx_r]⟩
    obtain ⟨n, hX⟩ := hX
    obtain ⟨ee, z, hez, hy⟩ := QM_thr (Q_reportSales c6 (nI s) (lN (100 * a))) hX
    have hz : z ≠ 0 := by
      simp only [List.mem_cons, Prod.mk.injEq, List.not_mem_nil, or_false] at hez
      rcases hez with ⟨-, rfl⟩ | ⟨-, rfl⟩ | ⟨-, rfl⟩ <;> decide
    refine ⟨false, S6, v, no, mo, ?_, MK.rf c6, fun S' h h20 h10 => ?_⟩
    · rw [sw]
      simp only [f_X5_executeSales, lt_n, r_j_1 t6 hj, ld2, r_b0_2 t6 c.hb, C_hasO c6, cl_n, if_bI, r_b0_5 t6 c.hb, C_openM c6]
      by_cases hs1 : s < no
      · rw [vin_nI hs1 (show no < 2 ^ 31 by omega), decide_eq_false (fun z => hok ⟨hs1, z⟩), if_pos rfl, if_neg (by decide), cl_n]; rfl
      · have hv : vin (nI s) no = false := by
          rw [← Bool.not_eq_true, vin_iff, vp_in_iff, nI_toInt (by omega)]; omega
        rw [hv, if_neg (by decide), cl_n]; rfl
    · obtain ⟨u, hu⟩ := hy S' h
      have hu : f_X12_reportSales S' (ad 1) (nI s) (lN (100 * a)) = some (u, uI S' (ad 1) 2 z) := hu
      refine ⟨_, ?_, RK.rf h⟩
      rw [ref S' h h20 h10, hu, cl_n, ex_thr S' hz]; rfl
