/-! the pure part: the cheapest plan, what is owed, the fund, waiting, paying off -/
variable {S S' : St} {ad : Nat → Nat} {b d j k : Nat} {v : Nat → Int64} {np nf no mo : Nat}
def trn (v : Nat → Int64) (p : Nat) : Nat := (v (14 + 11 * p + 2)).toInt.toNat
theorem trn_e {p t : Nat} (ht : t ≤ 4) (e : v (14 + 11 * p + 2) = lN t) : trn v p = t := by
  rw [trn, e, lN_toInt (by omega)]; omega
def fee (v : Nat → Int64) (s : Int64) (p : Nat) : Int64 := roy v p (trn v p) s + rtd s (v (14 + 11 * p + 0))
theorem M_fees (c : CV S ad b v np nf no mo) (h : Mv S' ad v np nf no mo) {p : Nat} (hp : p < np) (s : Int64) : f_X12_feesBy S' (ad 1) (nI p) s = some (fee v s p) := by
  have h4 := c.hp
  obtain ⟨t, ht, e⟩ := C_tiers c hp
  simp only [f_X12_feesBy, M_royaltyOf h (show p < 4 by omega) ht e, cl_s, M_op0 h (show p < 4 by omega), M_rated, fee, trn_e ht e]
theorem C_contrib (c : CV S ad b v np nf no mo) {p : Nat} (hp : p < np) (s : Int64) : f_X8_contributionFor S (ad (b + 1)) (nI p) s = some (rtd s (v (14 + 11 * p + 0))) := by
  have h4 := c.hp
  obtain ⟨t, ht, e1, e2, e3, -⟩ := c.T.2.2.2.2.2.2.2.2 p hp
  simp only [f_X8_contributionFor, lt_e, r_b1_0 c.t c.hb, lb8 c.t c.hb (show p < 4 by omega), C_rateOf, cl_s, e3]
def chs (v : Nat → Int64) (s : Int64) (i : Nat) (q : Nat) : Nat := if fee v s q ≤ fee v s i then q else i
def chp (v : Nat → Int64) (np : Nat) (s : Int64) : Nat := itr (chs v s) 1 (np - 1) 0
theorem le_max64 (a : Int64) : a ≤ 9223372036854775807 := by
  rw [Int64.le_iff_toInt_le, show (9223372036854775807 : Int64).toInt = 9223372036854775807 from rfl]
  have := Int64.toInt_lt a
  omega
theorem C_cheapest (c : CV S ad b v np nf no mo) (hn : 0 < np) (s : Int64) : f_X8_cheapestFor S (ad (b + 1)) s = some (nI (chp v np s)) := by
  have h4 := c.hp
  simp only [f_X8_cheapestFor, lt_e, jn_e, c.T.1]
  refine (lp_for0 (fun (k : Int32 → Int64 → Int32 → Option Int32) i (st : Int32 × Int64) => k st.1 st.2 (nI i)) _ _ np (by omega) (fun i (st : Int32 × Int64) => if st.2 ≤ fee v s i then st else (nI i, fee v s i)) (fun st => some st.1) (fun _ _ => True) ((0 : Int32), (9223372036854775807 : Int64)) trivial ?_ (fun _ _ _ _ => trivial) ?_).trans ?_
  · intro k i st hi _
    have h1 : ¬ nI np ≤ nI i := by rw [nI_leI (by omega) (by omega)]; omega
    obtain ⟨t, ht, e⟩ := C_tiers c hi
    have e2 : roy v i t s + rtd s (v (14 + 11 * i + 0)) = fee v s i := by rw [fee, trn_e ht e]
    simp only [h1, if_false, C_royaltyFor c hi ht e, C_contrib c hi, cl_s, e2, nI_1]
    by_cases hx : st.2 ≤ fee v s i <;> simp [hx]
  · intro k st _
    have h1 : nI np ≤ nI np := by rw [nI_leI (by omega) (by omega)]; omega
    simp only [h1, if_true]
  · obtain ⟨n, rfl⟩ : ∃ n, np = n + 1 := ⟨np - 1, by omega⟩
    rw [chp, show n + 1 - 1 = n by omega]
    congr 1
    have h0 : (if (9223372036854775807 : Int64) ≤ fee v s 0 then ((0 : Int32), (9223372036854775807 : Int64)) else (nI 0, fee v s 0)) = (nI 0, fee v s 0) := by
      by_cases hx : (9223372036854775807 : Int64) ≤ fee v s 0
      · rw [if_pos hx, le_antisymm64 hx (le_max64 _)]; rfl
      · rw [if_neg hx]
    have := itr_R (f := fun i (st : Int32 × Int64) => if st.2 ≤ fee v s i then st else (nI i, fee v s i)) (g := chs v s) (fun i a q => a = (nI q, fee v s q)) n 1 (nI 0, fee v s 0) 0 rfl ?_
    · change (itr (fun i (st : Int32 × Int64) => if st.2 ≤ fee v s i then st else (nI i, fee v s i)) 1 n (if (9223372036854775807 : Int64) ≤ fee v s 0 then ((0 : Int32), (9223372036854775807 : Int64)) else (nI 0, fee v s 0))).1 = _
      rw [h0, this]
    · rintro i a q - - rfl
      simp only [chs]
      by_cases hx : fee v s q ≤ fee v s i <;> simp [hx]
theorem Q_cheapestPlan (c : CV S ad b v np nf no mo) (p : Int32) : QB ad v np nf no mo 1 (f_X11_cheapestPlan S (ad 0) p) (fun S' => f_X12_cheapestPlan S' (ad 1) p) := by
  have hf8 := c.hf
  have h4 := c.hp
  cases hB : vin p nf
  · refine Or.inr ⟨by simp [f_X11_cheapestPlan, C_reqF c, hB, clx_r], fun S' h => ⟨0, ?_⟩⟩
    simp [f_X12_cheapestPlan, lt_e, M_isFr (Mv_t h (ad 1) 2 0), cl_s, jn_e, if_bI, hB, M_throws1, uI_uI]
  · obtain ⟨f, hf, rfl⟩ := vin_of (by omega) hB
    have hn : 0 < np := by
      obtain ⟨q, hq, -⟩ := (c.w.2.2.1 f hf).1
      omega
    refine Or.inl ⟨nI (chp v np (sls v no (nI f) 100)), ?_, fun S' h => ?_⟩
    · simp only [f_X11_cheapestPlan, C_reqF c, hB, if_true, clx_l, lt_e, c.r, r_b0_0 c.t c.hb, r_b0_2 c.t c.hb, C_together c, C_cheapest c hn, cl_s]
    · have h1 := Mv_t h (ad 1) 2 0
      simp only [f_X12_cheapestPlan, lt_e, M_isFr h1, cl_s, jn_e, if_bI, hB, M_throws0, if_true, M_salesNow h1, r_1_0 h1.1, ld_1 h1]
      refine lp_for (fun (k : Int32 → Int32 → Option (Int32 × St)) i (q : Nat) => k (nI q) (nI i)) _ _ np (chs v (sls v no (nI f) 100)) (fun q => some (nI q, uI S' (ad 1) 2 0)) (fun _ q => q < np) ?_ ?_ ?_ (np - 1) FU 1 0 (by omega) hn (by show np - 1 < 6000; omega)
      · intro k i q hi hq
        have h2 : ¬ v 1 ≤ Int32.toInt64 (nI i) := by rw [cM_p h1 (by omega)]; omega
        simp only [h2, if_false, M_fees c h1 hi, M_fees c h1 hq, cl_s, nI_1, chs]
        by_cases hx : fee v (sls v no (nI f) 100) q ≤ fee v (sls v no (nI f) 100) i <;> simp [hx]
      · intro i q hi hq
        simp only [chs]
        by_cases hx : fee v (sls v no (nI f) 100) q ≤ fee v (sls v no (nI f) 100) i <;> simp [hx, hq, hi]
      · intro k q hq
        have h2 : v 1 ≤ Int32.toInt64 (nI np) := by rw [cM_p h1 (by omega)]; omega
        simp only [h2, if_true]
/-! what is owed -/
def owe (v : Nat → Int64) (f : Nat) : Int64 := if 0 < v (58 + 16 * f + 4) then v (58 + 16 * f + 4) else 0
theorem C_owed (c : CV S ad b v np nf no mo) {f : Nat} (hf : f < nf) : f_X2_owedBy S (ad (b + 4)) (nI f) = some (owe v f) := by
  have h8 := c.hf
  simp only [f_X2_owedBy, lt_e, r_b4_7 c.t c.hb, lb26 c.t c.hb (show f < 8 by omega), owe, (c.F f hf).2.2.2.1]
def oweT (v : Nat → Int64) (nf : Nat) : Int64 := itr (fun f s => s + owe v f) 0 nf 0
theorem C_owedT (c : CV S ad b v np nf no mo) : f_X2_owedTogether S (ad (b + 4)) = some (oweT v nf) := by
  have h8 := c.hf
  simp only [f_X2_owedTogether, jn_e, lt_e, c.N.1]
  refine lp_for0 (fun (k : Int64 → Int32 → Option Int64) i s => k s (nI i)) _ _ nf (by omega) _ some (fun _ _ => True) 0 trivial ?_ (fun _ _ _ _ => trivial) ?_
  · intro k i s hi _
    have h1 : ¬ nI nf ≤ nI i := by rw [nI_leI (by omega) (by omega)]; omega
    simp only [h1, if_false, C_owed c hi, cl_s, nI_1]
  · intro k s _
    have h1 : nI nf ≤ nI nf := by rw [nI_leI (by omega) (by omega)]; omega
    simp only [h1, if_true]
theorem Q_totalOwed (c : CV S ad b v np nf no mo) : QC ad v np nf no mo (f_X11_totalOwed S (ad 0)) (fun S' => f_X12_totalOwed S' (ad 1)) := by
  have h8 := c.hf
  refine ⟨oweT v nf, ?_, fun S' h => ?_⟩
  · simp only [f_X11_totalOwed, lt_e, c.r, r_b0_3 c.t c.hb, C_owedT c, cl_s]
  · have h1 := Mv_t h (ad 1) 2 0
    simp only [f_X12_totalOwed, lt_e, jn_e, r_1_0 h1.1, ld_2 h1]
    refine lp_for0 (fun (k : Int64 → Int32 → Option (Int64 × St)) i s => k s (nI i)) _ _ nf (by omega) (fun f s => s + owe v f) (fun s => some (s, uI S' (ad 1) 2 0)) (fun _ _ => True) 0 trivial ?_ (fun _ _ _ _ => trivial) ?_
    · intro k i s hi _
      have h2 : ¬ v 2 ≤ Int32.toInt64 (nI i) := by rw [cM_f h1 (by omega)]; omega
      simp only [h2, if_false, M_of4 h1 (show i < 8 by omega), cl_s, nI_1, owe]
      by_cases hx : 0 < v (58 + 16 * i + 4)
      · simp only [hx, Int64.not_le.mpr hx, if_true, if_false]
      · simp only [hx, Int64.not_lt.mp hx, if_true, if_false]
    · intro k s _
      have h2 : v 2 ≤ Int32.toInt64 (nI nf) := by rw [cM_f h1 (by omega)]; omega
      simp only [h2, if_true]
/-! the fund -/
def ctr (v : Nat → Int64) (nf : Nat) : Int64 := itr (fun f s => s + v (58 + 16 * f + 7)) 0 nf 0
theorem itr_add {σ : Type} (f : Nat → σ → σ) : ∀ (m n i : Nat) (s : σ), itr f i (m + n) s = itr f (i + m) n (itr f i m s) := by
  intro m
  induction m with
  | zero => intro n i s; rw [Nat.zero_add]; rfl
  | succ m ih =>
    intro n i s
    rw [show m + 1 + n = (m + n) + 1 by omega]
    show itr f (i + 1) (m + n) (f i s) = _
    rw [ih, show i + 1 + m = i + (m + 1) by omega]
    rfl
theorem itr_id {σ : Type} {f : Nat → σ → σ} : ∀ (m i : Nat) (s : σ), (∀ j s, i ≤ j → j < i + m → f j s = s) → itr f i m s = s := by
  intro m
  induction m with
  | zero => intro i s _; rfl
  | succ m ih =>
    intro i s h
    show itr f (i + 1) m (f i s) = s
    rw [h i s (Nat.le_refl _) (by omega)]
    exact ih (i + 1) s (fun j s a b => h j s (by omega) (by omega))
theorem M_allC (h : Mv S ad v np nf no mo) : f_X12_allContributions S (ad 1) = some (ctr v nf) := by
  have h8 := h.2.2.2.2.2.2.2.1
  simp only [f_X12_allContributions, lt_e, jn_e, r_1_0 h.1, ld_2 h]
  refine lp_for0 (fun (k : Int64 → Int32 → Option Int64) i s => k s (nI i)) _ _ nf (by omega) _ some (fun _ _ => True) 0 trivial ?_ (fun _ _ _ _ => trivial) ?_
  · intro k i s hi _
    have h2 : ¬ v 2 ≤ Int32.toInt64 (nI i) := by rw [cM_f h (by omega)]; omega
    simp only [h2, if_false, M_of7 h (show i < 8 by omega), cl_s, nI_1]
  · intro k s _
    have h2 : v 2 ≤ Int32.toInt64 (nI nf) := by rw [cM_f h (by omega)]; omega
    simp only [h2, if_true]
theorem C_allC (c : CV S ad b v np nf no mo) : f_X0_allContributed S (ad (b + 6)) = some (ctr v nf) := by
  have h8 := c.hf
  simp only [f_X0_allContributed, lt_e, jn_e, r_b6_3 c.t c.hb]
  refine (lp_for0 (fun (k : Int64 → Int32 → Option Int64) i s => k s (nI i)) _ _ 8 (by omega) (fun f s => s + gJ S (ad (b + 36)) f) some (fun _ _ => True) 0 trivial ?_ (fun _ _ _ _ => trivial) ?_).trans ?_
  · intro k i s hi _
    simp only [ge8 hi, if_false, lb36 c.t c.hb hi, nI_1]
  · intro k s _
    rw [if_pos le8]
  · have e1 := itr_add (fun f s => s + gJ S (ad (b + 36)) f) nf (8 - nf) 0 (0 : Int64)
    rw [show nf + (8 - nf) = 8 by omega, Nat.zero_add] at e1
    rw [e1, itr_id (8 - nf) nf _ (fun f s a b => by rw [c.B.2.2.2.2.1 f a (by omega), Int64.add_zero])]
    congr 1
    exact itr_congr nf 0 _ (fun f s _ a => by rw [(c.B.2.2.2.1 f (by omega)).1])
def fnd (v : Nat → Int64) (nf : Nat) : Int64 := ctr v nf - v 11 - v 12 - v 13
theorem ld_11 (h : Mv S ad v np nf no mo) {β : Type} {c : Int64 → Option β} : ldJ S (ad 3) 11 c = c (v 11) := ldSe h (k := 11) rfl (by decide)
theorem ld_12 (h : Mv S ad v np nf no mo) {β : Type} {c : Int64 → Option β} : ldJ S (ad 3) 12 c = c (v 12) := ldSe h (k := 12) rfl (by decide)
theorem ld_13 (h : Mv S ad v np nf no mo) {β : Type} {c : Int64 → Option β} : ldJ S (ad 3) 13 c = c (v 13) := ldSe h (k := 13) rfl (by decide)
theorem M_fund (h : Mv S ad v np nf no mo) : f_X12_fund S (ad 1) = some (fnd v nf) := by
  simp only [f_X12_fund, M_allC h, cl_s, lt_e, r_1_0 h.1, ld_11 h, ld_12 h, ld_13 h, fnd]
theorem C_sp (c : CV S ad b v np nf no mo) {β : Type} {q : Int32} {n : Nat} {k : Int64 → Option β} (e : q = nI n) (hn : n < 3) : ldJ S (ad (b + 38)) q k = k (v (11 + n)) := by
  rw [e, lb38 c.t c.hb hn, c.B.2.2.1 n hn]
theorem C_fund (c : CV S ad b v np nf no mo) : f_X0_fundLeft S (ad (b + 6)) = some (fnd v nf) := by
  simp only [f_X0_fundLeft, C_allC c, cl_s, lt_e, r_b6_5 c.t c.hb, C_sp c (q := 0) (n := 0) rfl (by decide), C_sp c (q := 1) (n := 1) rfl (by decide), C_sp c (q := 2) (n := 2) rfl (by decide), fnd]
theorem Q_fundBalance (c : CV S ad b v np nf no mo) : QC ad v np nf no mo (f_X11_fundBalance S (ad 0)) (fun S' => f_X12_fundBalance S' (ad 1)) := by
  refine ⟨fnd v nf, ?_, fun S' h => ?_⟩
  · simp only [f_X11_fundBalance, lt_e, c.r, r_b0_5 c.t c.hb, C_fund c, cl_s]
  · simp only [f_X12_fundBalance, lt_e, M_fund (Mv_t h (ad 1) 2 0), cl_s]
