/-! the pure part: the fund's spending, new outlets -/
variable {S S1 S' S'' S3 : St} {ad : Nat → Nat} {b d j k : Nat} {v v' : Nat → Int64} {np nf no mo no' mo' : Nat}
theorem fnd_N (w : WF v np nf no mo) (h8 : nf ≤ 8) (hm : mo ≤ 60) {s : Nat} (hs : s ≤ 1000000000) (h : lN s ≤ fnd v nf) : ∃ a n l, v 11 = lN a ∧ v 12 = lN n ∧ v 13 = lN l ∧ a ≤ 1561600000 ∧ l + s ≤ 7808000000 ∧ n + s ≤ 7808000000 ∧ l ≤ 7808000000 ∧ n ≤ 7808000000 := by
  obtain ⟨C, hC, eC⟩ := ctr_N w
  obtain ⟨a, n, l, e11, e12, e13, ha, hl, hn⟩ := w.2.2.2.2.2.2.1
  have hC2 : C ≤ 7808000000 := by omega
  have t0 : (lN C).toInt = (C : Int) := lN_tI (by omega)
  have ta : (lN a).toInt = (a : Int) := lN_tI (by omega)
  have tn : (lN n).toInt = (n : Int) := lN_tI (by omega)
  have tl : (lN l).toInt = (l : Int) := lN_tI (by omega)
  have ts : (lN s).toInt = (s : Int) := lN_tI (by omega)
  rw [Int64.le_iff_toInt_le, fnd, eC, e11, e12, e13, Int64.toInt_sub, Int64.toInt_sub, Int64.toInt_sub, t0, ta, tn, tl, ts, Int.bmod_eq_of_le (n := (C : Int) - a) (by omega) (by omega), Int.bmod_eq_of_le (n := (C : Int) - a - n) (by omega) (by omega), Int.bmod_eq_of_le (n := (C : Int) - a - n - l) (by omega) (by omega)] at h
  exact ⟨a, n, l, e11, e12, e13, ha, by omega, by omega, hl, hn⟩
theorem amt_of {s : Int64} (h : amt s = true) : ∃ n, 1 ≤ n ∧ n ≤ 1000000000 ∧ s = lN n := by
  rw [amt, Bool.and_eq_true, decide_eq_true_eq, decide_eq_true_eq] at h
  have h0 : ¬ s < 0 := by
    intro h0
    have := Int64.lt_of_lt_of_le (Int64.lt_of_lt_of_le h0 (show (0 : Int64) ≤ 1 by decide)) h.1
    exact Int64.lt_irrefl this
  obtain ⟨n, hn, rfl⟩ := pk_lOf h0
  have h1 := h.1
  have h2 := h.2
  rw [show (1 : Int64) = lN 1 from rfl, pk_lLE (by decide) hn] at h1
  rw [show (1000000000 : Int64) = lN 1000000000 from rfl, pk_lLE hn (by decide)] at h2
  exact ⟨n, h1, h2, rfl⟩
theorem WF_sp (c : CV S ad b v np nf no mo) (hv : ∀ i, ¬ (11 ≤ i ∧ i ≤ 13) → ¬ (1150 ≤ i ∧ i < 1214 ∧ ∀ l, l < 8 → i ≠ 1150 + 9 * l) → (∀ f, f < 8 → i ≠ 58 + 16 * f + 8) → v' i = v i) (hw : ∃ a n l, v' 11 = lN a ∧ v' 12 = lN n ∧ v' 13 = lN l ∧ a ≤ 1561600000 ∧ l ≤ 7808000000 ∧ n ≤ 7808000000) : WF v' np nf no mo := by
  have h8 := c.hf
  have h16 := c.ho
  have h4 := c.hp
  have hm := c.hm
  obtain ⟨a1, ap, af, ao, ac, ad0, as, ar⟩ := c.w
  have H : ∀ i, ¬ (11 ≤ i ∧ i ≤ 13) → ¬ (1150 ≤ i ∧ i < 1214) → (∀ f, f < 8 → i ≠ 58 + 16 * f + 8) → v' i = v i := fun i h1 h2 h3 => hv i h1 (fun e => h2 ⟨e.1, e.2.1⟩) h3
  refine ⟨?_, fun q hq => by rw [H _ (by omega) (by omega) (by omega)]; exact ap q hq, fun g hg => ?_, fun o ho => ?_, fun c' hc => by rw [H _ (by omega) (by omega) (by omega)]; exact ac c' hc, fun i hi => ?_, hw, fun k g hk hg => by rw [H _ (by omega) (by omega) (by omega)]; exact ar k g hk hg⟩
  · rw [H 4 (by omega) (by omega) (by omega), H 5 (by omega) (by omega) (by omega), H 6 (by omega) (by omega) (by omega), H 7 (by omega) (by omega) (by omega), H 8 (by omega) (by omega) (by omega), H 9 (by omega) (by omega) (by omega)]; exact a1
  · rw [H _ (by omega) (by omega) (by omega), H _ (by omega) (by omega) (by omega), H _ (by omega) (by omega) (by omega), H _ (by omega) (by omega) (by omega)]; exact af g hg
  · obtain ⟨⟨x, y, hx, hy, e1, e2, e3⟩, s, hs, e4⟩ := ao o ho
    refine ⟨⟨x, y, hx, hy, by rw [H _ (by omega) (by omega) (by omega)]; exact e1, by rw [H _ (by omega) (by omega) (by omega)]; exact e2, ?_⟩, s, hs, by rw [H _ (by omega) (by omega) (by omega)]; exact e4⟩
    rw [H (186 + 4 * o + 0) (by omega) (by omega) (by omega), H (250 + (30 * y + x)) (by omega) (by omega) (by omega)]; exact e3
  · rw [hv _ (by omega) (fun e => e.2.2 i hi rfl) (by omega)]; exact ad0 i hi
theorem MK_spend (c : CV S ad b v np nf no mo) {q : Nat} (hq : q < 3) (hq0 : 0 < q) (x : Int64) (hw : ∃ a n l, udt v (11 + q) x 11 = lN a ∧ udt v (11 + q) x 12 = lN n ∧ udt v (11 + q) x 13 = lN l ∧ a ≤ 1561600000 ∧ l ≤ 7808000000 ∧ n ≤ 7808000000) : MK S (uJ S (ad (b + 38)) q x) ad b v (udt v (11 + q) x) np nf no mo := by
  have h8 := c.hf
  have hv : ∀ i, i ≠ 11 + q → udt v (11 + q) x i = v i := fun i hi => udt_n hi
  refine MK_B c (hv 11 (by omega)) (Ch_uJ c.t ⟨38, by omega, rfl⟩) (fun i h1 h2 h3 => hv i (by omega)) (WF_sp c (fun i h1 _ _ => hv i (by omega)) hw) ?_
  obtain ⟨a1, a2, a3, a4, a5, a6, a7⟩ := c.B
  have n : ∀ r, r ≠ 38 → ∀ l, gJ (uJ S (ad (b + 38)) q x) (ad (b + r)) l = gJ S (ad (b + r)) l := fun r hr l => (Ag_uJ c.t (by omega) l).2
  refine ⟨a1, fun k hk => by rw [hv _ (by omega), n 35 (by decide)]; exact a2 k hk, fun k hk => ?_, fun h hh => by rw [hv _ (by omega), hv _ (by omega), n 36 (by decide), n 37 (by decide)]; exact a4 h hh, fun h h1 h2 => by rw [n 36 (by decide)]; exact a5 h h1 h2, fun k h hk hh => by rw [hv _ (by omega), n 33 (by decide)]; exact a6 k h hk hh, fun k h r hk hh hr => by rw [hv _ (by omega), n 34 (by decide)]; exact a7 k h r hk hh hr⟩
  rw [gJ_n c.t]
  by_cases e : k = q
  · subst e; rw [udt_e, if_pos ⟨rfl, rfl⟩]
  · rw [hv _ (by omega), if_neg (by omega)]; exact a3 k hk
theorem MK_granted (c : CV S ad b v np nf no mo) {f : Nat} (hf : f < nf) (x : Int64) : MK S (uJ S (ad (b + 37)) f x) ad b v (udt v (58 + 16 * f + 8) x) np nf no mo := by
  have h8 := c.hf
  have hv : ∀ i, i ≠ 58 + 16 * f + 8 → udt v (58 + 16 * f + 8) x i = v i := fun i hi => udt_n hi
  refine MK_B c (hv 11 (by omega)) (Ch_uJ c.t ⟨37, by omega, rfl⟩) (fun i h1 h2 h3 => hv i (h3 f (by omega))) (WF_sp c (fun i _ _ h3 => hv i (h3 f (by omega))) ?_) ?_
  · rw [hv 11 (by omega), hv 12 (by omega), hv 13 (by omega)]; exact c.w.2.2.2.2.2.2.1
  · obtain ⟨a1, a2, a3, a4, a5, a6, a7⟩ := c.B
    have n : ∀ r, r ≠ 37 → ∀ l, gJ (uJ S (ad (b + 37)) f x) (ad (b + r)) l = gJ S (ad (b + r)) l := fun r hr l => (Ag_uJ c.t (by omega) l).2
    refine ⟨a1, fun k hk => by rw [hv _ (by omega), n 35 (by decide)]; exact a2 k hk, fun k hk => by rw [hv _ (by omega), n 38 (by decide)]; exact a3 k hk, fun h hh => ?_, fun h h1 h2 => by rw [n 36 (by decide)]; exact a5 h h1 h2, fun k h hk hh => by rw [hv _ (by omega), n 33 (by decide)]; exact a6 k h hk hh, fun k h r hk hh hr => by rw [hv _ (by omega), n 34 (by decide)]; exact a7 k h r hk hh hr⟩
    rw [hv (58 + 16 * h + 7) (by omega), n 36 (by decide), gJ_n c.t]
    refine ⟨(a4 h hh).1, ?_⟩
    by_cases e : h = f
    · subst e; rw [udt_e, if_pos ⟨rfl, rfl⟩]
    · rw [hv _ (by omega), if_neg (by omega)]; exact (a4 h hh).2
theorem B_campaign (c : CV S ad b v np nf no mo) {n : Nat} (hn1 : 1 ≤ n) (hn : n ≤ 1000000000) : BM S ad b v np nf no mo (f_X0_spendNational S (ad (b + 6)) (lN n)) (fun S' => f_X12_campaign S' (ad 1) (lN n)) := by
  have hC : amt (lN n) = true := by
    rw [amt, Bool.and_eq_true, decide_eq_true_eq, decide_eq_true_eq, show (1 : Int64) = lN 1 from rfl, show (1000000000 : Int64) = lN 1000000000 from rfl, pk_lLE (by decide) (by omega), pk_lLE (by omega) (by decide)]
    omega
  by_cases hF : lN n ≤ fnd v nf
  · obtain ⟨a, m, l, e11, e12, e13, ha, hl, hm, hl2, hm2⟩ := fnd_N c.w c.hf c.hm hn hF
    have mk := MK_spend c (q := 1) (by decide) (by decide) (v 12 + lN n) ⟨a, m + n, l, by rw [udt_n (by decide)]; exact e11, by rw [udt_e, e12, lN_add], by rw [udt_n (by decide)]; exact e13, ha, hl2, hm⟩
    refine ⟨1, _, _, no, mo, ?_, mk, fun S' h => ⟨_, ?_, RK_3 (RK.rf h) h.1⟩⟩
    · simp only [f_X0_spendNational, C_fund c, cl_s, hF, if_true, lt_e, r_b6_5 c.t c.hb, C_sp c (q := 1) (n := 1) rfl (by decide)]
      rw [show (1 : Int32) = nI 1 from rfl, sb38 c.t c.hb (by decide)]
    · have h1 := Mv_t h (ad 1) 2 0
      simp only [f_X12_campaign, lt_e, M_rngAm, hC, cl_s, jn_n, if_bI, if_true, M_throws0, M_fund h1, hF, r_1_0 h1.1, ld_12 h1]
      rw [show (12 : Int32) = nI 12 from rfl, stJ_at (by rw [n_3 h1.1]; decide) (by rw [n_3 h1.1]; decide)]
  · refine ⟨0, S, v, no, mo, ?_, MK.rf c, fun S' h => ⟨_, ?_, RK.rf h⟩⟩
    · simp only [f_X0_spendNational, C_fund c, cl_s, hF, if_false]
    · have h1 := Mv_t h (ad 1) 2 0
      simp only [f_X12_campaign, lt_e, M_rngAm, hC, cl_s, jn_n, if_bI, if_true, M_throws0, M_fund h1, hF, if_false]
theorem zc_w {β : Type} {w : Int32} {k : Option β} (h : w = 0 ∨ w = 1) : zc w k = k := by rcases h with rfl | rfl <;> rfl
theorem C_nat01 (c : CV S ad b v np nf no mo) {s : Int64} {w : Int32} {S1 : St} (h : f_X0_spendNational S (ad (b + 6)) s = some (w, S1)) : w = 0 ∨ w = 1 := by
  simp only [f_X0_spendNational, C_fund c, cl_s, lt_e, r_b6_5 c.t c.hb, C_sp c (q := 1) (n := 1) rfl (by decide)] at h
  by_cases hF : s ≤ fnd v nf
  · rw [if_pos hF, show (1 : Int32) = nI 1 from rfl, sb38 c.t c.hb (by decide)] at h
    simp only [Option.some.injEq, Prod.mk.injEq] at h
    exact Or.inr h.1.symm
  · rw [if_neg hF] at h
    simp only [Option.some.injEq, Prod.mk.injEq] at h
    exact Or.inl h.1.symm
theorem Q_campaign (c : CV S ad b v np nf no mo) (s : Int64) : QM S ad b v np nf no mo [(2, 1)] (f_X11_campaign S (ad 0) s) (fun S' => f_X12_campaign S' (ad 1) s) := by
  cases hC : amt s
  · refine Or.inr ⟨2, 1, by simp, by simp [f_X11_campaign, C_reqAm, hC, clx_r], fun S' h => ⟨0, ?_⟩⟩
    simp [f_X12_campaign, lt_e, M_rngAm, hC, cl_s, jn_n, if_bI, M_throws1, uI_uI]
  · obtain ⟨n, hn1, hn, rfl⟩ := amt_of hC
    obtain ⟨w, S1, v', no', mo', hx, mk, hy⟩ := B_campaign c hn1 hn
    refine Or.inl ⟨w, S1, v', no', mo', ?_, mk, hy⟩
    simp only [f_X11_campaign, C_reqAm, hC, if_true, clx_l, lt_e, c.r, r_b0_5 c.t c.hb, hx, cl_s, zc_w (C_nat01 c hx)]
theorem fnd_udt {f q : Nat} {x : Int64} (hf : f < 8) (hq : q < 16) (h7 : q ≠ 7) : fnd (udt v (58 + 16 * f + q) x) nf = fnd v nf := by
  unfold fnd ctr
  rw [udt_n (by omega), udt_n (by omega), udt_n (by omega), itr_congr nf 0 _ (g := fun f s => s + v (58 + 16 * f + 7)) (fun g s _ _ => by rw [udt_n (by omega)])]
theorem B_grant (c : CV S ad b v np nf no mo) {f n : Nat} (hf : f < nf) (hn1 : 1 ≤ n) (hn : n ≤ 1000000000) : BM S ad b v np nf no mo (f_X1_spendLocal S (ad b) (nI f) (lN n)) (fun S' => f_X12_grant S' (ad 1) (nI f) (lN n)) := by
  have h8 := c.hf
  have f8 : f < 8 := by omega
  have hB : vin (nI f) nf = true := vin_nI hf (by omega)
  have hC : amt (lN n) = true := by
    rw [amt, Bool.and_eq_true, decide_eq_true_eq, decide_eq_true_eq, show (1 : Int64) = lN 1 from rfl, show (1000000000 : Int64) = lN 1000000000 from rfl, pk_lLE (by decide) (by omega), pk_lLE (by omega) (by decide)]
    omega
  by_cases hok : act v f = true ∧ ¬ (v (58 + 16 * f + 7) / 2 - v (58 + 16 * f + 8) < lN n) ∧ lN n ≤ fnd v nf
  · obtain ⟨ha, hl, hF⟩ := hok
    obtain ⟨a, m, l, e11, e12, e13, ha2, hl2, hm, hl3, hm3⟩ := fnd_N c.w c.hf c.hm hn hF
    have m1 := MK_granted c hf (v (58 + 16 * f + 8) + lN n)
    have c1 := m1.cv c
    have m2 := MK_spend c1 (q := 2) (by decide) (by decide) (v 13 + lN n) ⟨a, m, l + n, by rw [udt_n (by decide), udt_n (by omega)]; exact e11, by rw [udt_n (by decide), udt_n (by omega)]; exact e12, by rw [udt_e, e13, lN_add], ha2, hl2, hm3⟩
    have c2 := m2.cv c1
    have m3 := MK_bal c2 hf (v (58 + 16 * f + 4) - lN n)
    have e4 : udt (udt v (58 + 16 * f + 8) (v (58 + 16 * f + 8) + lN n)) (11 + 2) (v 13 + lN n) (58 + 16 * f + 4) = v (58 + 16 * f + 4) := by rw [udt_n (by omega), udt_n (by omega)]
    have e13' : udt v (58 + 16 * f + 8) (v (58 + 16 * f + 8) + lN n) (11 + 2) = v 13 := udt_n (by omega)
    have ev : udt (udt (udt v (58 + 16 * f + 8) (v (58 + 16 * f + 8) + lN n)) (11 + 2) (v 13 + lN n)) (58 + 16 * f + 4) (v (58 + 16 * f + 4) - lN n) = udt (udt (udt v 13 (v 13 + lN n)) (58 + 16 * f + 8) (v (58 + 16 * f + 8) + lN n)) (58 + 16 * f + 4) (v (58 + 16 * f + 4) - lN n) := by
      funext i
      unfold udt
      by_cases h4 : i = 58 + 16 * f + 4
      · simp [h4]
      · by_cases h8 : i = 58 + 16 * f + 8
        · have : ¬ 58 + 16 * f + 8 = 11 + 2 := by omega
          have n13 : ¬ 58 + 16 * f + 8 = 13 := by omega
          simp [h8, n13]
        · by_cases h13 : i = 13
          · subst h13
            rw [if_neg h4, if_neg h4, if_pos rfl, if_neg h8, if_pos rfl]
          · simp [h4, h8, h13]
    have mk := (m1.trans m2).trans m3
    rw [ev] at mk
    refine ⟨1, _, _, no, mo, ?_, mk, fun S' h => ⟨_, ?_, RK_3 (RK_3 (RK_3 (RK.rf h) h.1) h.1) h.1⟩⟩
    · have hlow := C_lower c2 hf (lN n)
      rw [e4] at hlow
      have hg : f_X0_spendGrant S (ad (b + 6)) (nI f) (lN n) = some (1, uJ (uJ S (ad (b + 37)) f (v (58 + 16 * f + 8) + lN n)) (ad (b + 38)) 2 (v 13 + lN n)) := by
        simp only [f_X0_spendGrant, C_allow c hf, cl_s, hl, if_false, C_fund c, hF, if_true, lt_e, r_b6_4 c.t c.hb, lb37 c.t c.hb f8, sb37 c.t c.hb f8, ← (c.B.2.2.2.1 f hf).2, r_b6_5 c1.t c.hb, C_sp c1 (q := 2) (n := 2) rfl (by decide), e13']
        rw [show (2 : Int32) = nI 2 from rfl, sb38 c1.t c.hb (by decide)]
      simp only [f_X1_spendLocal, lt_e, r_b0_3 c.t c.hb, C_act c hf, ha, cl_s, if_bI, if_true, r_b0_5 c.t c.hb, hg, i10, if_false, r_b0_3 c2.t c.hb, hlow]
    · have h1 := Mv_t h (ad 1) 2 0
      have h2 := Mv_3 h1 (k := 13) (w := v 13 + lN n) (by omega)
      have h3 := Mv_3 h2 (k := 58 + 16 * f + 8) (w := v (58 + 16 * f + 8) + lN n) (by omega)
      have q8 : udt v 13 (v 13 + lN n) (58 + 16 * f + 8) = v (58 + 16 * f + 8) := udt_n (by omega)
      have q4 : udt (udt v 13 (v 13 + lN n)) (58 + 16 * f + 8) (v (58 + 16 * f + 8) + lN n) (58 + 16 * f + 4) = v (58 + 16 * f + 4) := by rw [udt_n (by omega), udt_n (by omega)]
      simp only [f_X12_grant, lt_e, M_isFr h1, hB, cl_s, jn_n, if_bI, if_true, M_throws0, M_rngAm, hC, M_act h1 f8, ha, M_allow h1 f8, hl, if_false, M_fund h1, hF, r_1_0 h1.1, ld_13 h1]
      rw [show (13 : Int32) = nI 13 from rfl, stJ_at (by rw [n_3 h1.1]; decide) (by rw [n_3 h1.1]; decide), M_add h2 f8 (q := 8) (i := 8) (by decide) rfl, q8]
      simp only [cl_s]
      rw [M_add h3 f8 (q := 4) (i := 4) (by decide) rfl, q4, ← Int64.sub_eq_add_neg]
      rfl
  · refine ⟨0, S, v, no, mo, ?_, MK.rf c, fun S' h => ⟨_, ?_, RK.rf h⟩⟩
    · simp only [f_X1_spendLocal, lt_e, r_b0_3 c.t c.hb, C_act c hf, cl_s, if_bI, r_b0_5 c.t c.hb, f_X0_spendGrant, C_allow c hf, C_fund c]
      cases ha : act v f
      · rfl
      · by_cases hl : v (58 + 16 * f + 7) / 2 - v (58 + 16 * f + 8) < lN n
        · simp [hl, cl_s]
        · by_cases hF : lN n ≤ fnd v nf
          · exact absurd ⟨ha, hl, hF⟩ hok
          · simp [hl, hF, cl_s]
    · have h1 := Mv_t h (ad 1) 2 0
      simp only [f_X12_grant, lt_e, M_isFr h1, hB, cl_s, jn_n, if_bI, if_true, M_throws0, M_rngAm, hC, M_act h1 f8, M_allow h1 f8, M_fund h1]
      cases ha : act v f
      · rfl
      · by_cases hl : v (58 + 16 * f + 7) / 2 - v (58 + 16 * f + 8) < lN n
        · simp [hl]
        · by_cases hF : lN n ≤ fnd v nf
          · exact absurd ⟨ha, hl, hF⟩ hok
          · simp [hl, hF]
theorem C_loc01 (c : CV S ad b v np nf no mo) {f : Nat} (hf : f < nf) {s : Int64} {w : Int32} {S1 : St} (h : f_X1_spendLocal S (ad b) (nI f) s = some (w, S1)) : w = 0 ∨ w = 1 := by
  simp only [f_X1_spendLocal, lt_e, r_b0_3 c.t c.hb, C_act c hf] at h
  cases ha : act v f
  · simp only [ha, cl_s, bI_f, if_true, Option.some.injEq, Prod.mk.injEq] at h
    exact Or.inl h.1.symm
  · simp only [ha, cl_s, bI_t, i10, if_false] at h
    cases h1 : f_X0_spendGrant S (gR S (ad b) 5) (nI f) s with
    | none => rw [h1] at h; exact absurd h (by simp [cl])
    | some o =>
      rw [h1] at h
      simp only [cl_s] at h
      by_cases ho : o.1 = 0
      · rw [if_pos ho] at h
        simp only [Option.some.injEq, Prod.mk.injEq] at h
        exact Or.inl h.1.symm
      · rw [if_neg ho] at h
        cases h2 : f_X2_lowerBalance o.2 (gR o.2 (ad b) 3) (nI f) s with
        | none => rw [h2] at h; exact absurd h (by simp [cl])
        | some u =>
          rw [h2] at h
          simp only [cl_s, Option.some.injEq, Prod.mk.injEq] at h
          exact Or.inr h.1.symm
theorem Q_grant (c : CV S ad b v np nf no mo) (p : Int32) (s : Int64) : QM S ad b v np nf no mo [(1, 1), (2, 2)] (f_X11_grant S (ad 0) p s) (fun S' => f_X12_grant S' (ad 1) p s) := by
  have h8 := c.hf
  cases hB : vin p nf
  · refine Or.inr ⟨1, 1, by simp, by simp [f_X11_grant, C_reqF c, hB, clx_r], fun S' h => ⟨0, ?_⟩⟩
    simp [f_X12_grant, lt_e, M_isFr (Mv_t h (ad 1) 2 0), cl_s, jn_n, if_bI, hB, M_throws1, uI_uI]
  · cases hC : amt s
    · refine Or.inr ⟨2, 2, by simp, by simp [f_X11_grant, C_reqF c, hB, clx_l, C_reqAm, hC, clx_r], fun S' h => ⟨0, ?_⟩⟩
      simp [f_X12_grant, lt_e, M_isFr (Mv_t h (ad 1) 2 0), M_rngAm, hC, cl_s, jn_n, if_bI, hB, M_throws0, M_throws1, uI_uI]
    · obtain ⟨f, hf, rfl⟩ := vin_of (by omega) hB
      obtain ⟨n, hn1, hn, rfl⟩ := amt_of hC
      obtain ⟨w, S1, v', no', mo', hx, mk, hy⟩ := B_grant c hf hn1 hn
      refine Or.inl ⟨w, S1, v', no', mo', ?_, mk, hy⟩
      simp only [f_X11_grant, C_reqF c, hB, if_true, clx_l, C_reqAm, hC, lt_e, c.r, hx, cl_s, zc_w (C_loc01 c hf hx)]
/-! new outlets -/
def opS (S : St) (ad : Nat → Nat) (b no : Nat) (f x y : Nat) : St := uI (uJ (uI (uI (uI S (ad (b + 15)) no (nI f)) (ad (b + 16)) no (nI x)) (ad (b + 17)) no (nI y)) (ad (b + 18)) no 0) (ad (b + 3)) 4 (nI (no + 1))
def opV (v : Nat → Int64) (no f x y : Nat) : Nat → Int64 := udt (udt (udt (udt (udt v (186 + 4 * no + 0) (lN f)) (186 + 4 * no + 1) (lN x)) (186 + 4 * no + 2) (lN y)) (186 + 4 * no + 3) 0) 3 (lN (no + 1))
theorem opV_n {f x y i : Nat} (h : i ≠ 3) (h2 : i < 186 + 4 * no ∨ 186 + 4 * no + 3 < i) : opV v no f x y i = v i := by
  unfold opV
  rw [udt_n h, udt_n (by omega), udt_n (by omega), udt_n (by omega), udt_n (by omega)]
theorem MK_open (c : CV S ad b v np nf no mo) {f x y : Nat} (hno : no < 16) (hf : f < nf) (hx : x < 30) (hy : y < 30) (hown : v (250 + (30 * y + x)) = lN f) : MK S (opS S ad b no f x y) ad b v (opV v no f x y) np nf (no + 1) mo := by
  have h8 := c.hf
  have h4 := c.hp
  have hm := c.hm
  have hb := c.2.1
  have t0 := c.t
  have t1 := TR_SR0 (SR0_uI S (ad (b + 15)) no (nI f)) t0
  have t2 := TR_SR0 (SR0_uI _ (ad (b + 16)) no (nI x)) t1
  have t3 := TR_SR0 (SR0_uI _ (ad (b + 17)) no (nI y)) t2
  have t4 := TR_SR0 (SR0_uJ _ (ad (b + 18)) no 0) t3
  have ch : Ch S (opS S ad b no f x y) ad (fun p => ∃ q, (q = 3 ∨ (15 ≤ q ∧ q ≤ 18)) ∧ p = b + q) :=
    ((((Ch_uI t0 (by omega) ⟨15, by omega, rfl⟩).tr (Ch_uI t1 (by omega) ⟨16, by omega, rfl⟩)).tr (Ch_uI t2 (by omega) ⟨17, by omega, rfl⟩)).tr (Ch_uJ t3 ⟨18, by omega, rfl⟩)).tr (Ch_uI t4 (by omega) ⟨3, by omega, rfl⟩)
  have A : ∀ q, ¬ (q = 3 ∨ (15 ≤ q ∧ q ≤ 18)) → Ag S (opS S ad b no f x y) ad (b + q) := fun q hq => ch.2.1 _ (by omega) (by rintro ⟨q', hq', e⟩; omega)
  have hv : ∀ i, i ≠ 3 → (i < 186 ∨ 250 ≤ i) → opV v no f x y i = v i := fun i h1 h2 => opV_n h1 (by omega)
  have n0 : opV v no f x y (186 + 4 * no + 0) = lN f := by unfold opV; rw [udt_n (by omega), udt_n (by omega), udt_n (by omega), udt_n (by omega), udt_e]
  have n1 : opV v no f x y (186 + 4 * no + 1) = lN x := by unfold opV; rw [udt_n (by omega), udt_n (by omega), udt_n (by omega), udt_e]
  have n2 : opV v no f x y (186 + 4 * no + 2) = lN y := by unfold opV; rw [udt_n (by omega), udt_n (by omega), udt_e]
  have n3 : opV v no f x y (186 + 4 * no + 3) = 0 := by unfold opV; rw [udt_n (by omega), udt_e]
  have n4 : opV v no f x y 3 = lN (no + 1) := by unfold opV; rw [udt_e]
  have old : ∀ o q, o < no → q < 4 → opV v no f x y (186 + 4 * o + q) = v (186 + 4 * o + q) := fun o q ho hq => opV_n (by omega) (by omega)
  refine ⟨ch.mono (fun p ⟨q, hq, e⟩ => Or.inr ⟨q, by unfold MQ2; omega, e⟩), ⟨?_, ⟨?_, fun o ho => ?_⟩, ?_, ?_, ?_⟩, ?_, ⟨fun i hi => hv i (by omega) (by omega), fun g hg => hv _ (by omega) (by omega)⟩, fun i hi => hv i (by omega) (by omega), n4, by rw [hv 0 (by omega) (by omega)]; exact c.m.2.2.2.2.2.1, by omega, c.hm, WS_k c (fun f q hf hq => hv _ (by omega) (by omega)) (hv 11 (by omega) (by omega))⟩
  · exact AXG_w (fun i hi => hv i (by omega) (by omega)) (AXG_c (A 12 (by decide)) c.G)
  · unfold opS; rw [gI_i c.t.1, if_pos ⟨rfl, rfl⟩]
  · have e : ∀ q, 15 ≤ q ∧ q ≤ 18 → ¬ (b + q = b + 3) := fun q hq => by omega
    simp only [opS, gI_i c.t.1, gJ_i c.t.1, gI_uJ, gJ_uI]
    by_cases h : o = no
    · subst h
      rw [n0, n1, n2, n3]
      simp only [e 15 (by omega), e 16 (by omega), e 17 (by omega), false_and, if_false]
      have f1 : ¬ (b + 15 = b + 16) := by omega
      have f2 : ¬ (b + 15 = b + 17) := by omega
      have f3 : ¬ (b + 16 = b + 17) := by omega
      simp only [f1, f2, f3, false_and, if_false, and_self, if_true, nI_l (show f < 2 ^ 31 by omega), nI_l (show x < 2 ^ 31 by omega), nI_l (show y < 2 ^ 31 by omega)]
    · rw [old o 0 (by omega) (by decide), old o 1 (by omega) (by decide), old o 2 (by omega) (by decide), old o 3 (by omega) (by decide)]
      simp only [e 15 (by omega), e 16 (by omega), e 17 (by omega), h, and_false, false_and, if_false]
      exact c.O.2 o (by omega)
  · exact AXF_w (fun f q hf hq => hv _ (by omega) (by omega)) (AXF_c (fun q hq => A q (by omega)) c.F)
  · exact AXR_w (fun f q hf hq => hv _ (by omega) (by omega)) (AXR_c (fun q hq => A q (by omega)) c.R)
  · exact AXB_w (fun i hi => hv i (by omega) (by omega)) (fun f q hf hq => hv _ (by omega) (by omega)) c.hf c.hm (AXB_c (fun q hq => A q (by omega)) c.B)
  · obtain ⟨a1, ap, af, ao, ac, ad0, as, ar⟩ := c.w
    refine ⟨?_, fun q hq => by rw [hv _ (by omega) (by omega)]; exact ap q hq, fun g hg => ?_, fun o ho => ?_, fun c' hc => by rw [hv _ (by omega) (by omega)]; exact ac c' hc, fun i hi => by rw [hv _ (by omega) (by omega)]; exact ad0 i hi, ?_, fun k g hk hg => by rw [hv _ (by omega) (by omega)]; exact ar k g hk hg⟩
    · rw [hv 4 (by omega) (by omega), hv 5 (by omega) (by omega), hv 6 (by omega) (by omega), hv 7 (by omega) (by omega), hv 8 (by omega) (by omega), hv 9 (by omega) (by omega)]; exact a1
    · rw [hv _ (by omega) (by omega), hv _ (by omega) (by omega), hv _ (by omega) (by omega), hv _ (by omega) (by omega)]; exact af g hg
    · by_cases h : o = no
      · subst h
        refine ⟨⟨x, y, hx, hy, n1, n2, Or.inr ⟨f, hf, n0, ?_⟩⟩, 0, by omega, n3⟩
        rw [hv _ (by omega) (by omega)]; exact hown
      · obtain ⟨⟨x', y', hx', hy', e1, e2, e3⟩, s, hs, e4⟩ := ao o (by omega)
        rw [old o 0 (by omega) (by decide), old o 1 (by omega) (by decide), old o 2 (by omega) (by decide), old o 3 (by omega) (by decide)]
        refine ⟨⟨x', y', hx', hy', e1, e2, ?_⟩, s, hs, e4⟩
        rw [hv (250 + (30 * y' + x')) (by omega) (by omega)]; exact e3
    · rw [hv 11 (by omega) (by omega), hv 12 (by omega) (by omega), hv 13 (by omega) (by omega)]; exact as
theorem C_free (c : CV S ad b v np nf no mo) (p : Int32) {x y : Nat} (hx : x < 30) (hy : y < 30) : f_X1_hasFreeCell S (ad b) p (nI x) (nI y) = some (bI (decide (v (250 + (30 * y + x)) = p.toInt64) && !decide (nr v no (-1) x y = 0))) := by
  have n1 := nr_58 c.w (-1) hx hy
  simp only [f_X1_hasFreeCell, lt_e, r_b0_1 c.t c.hb, r_b0_2 c.t c.hb, C_ownerAt c.t c.hb hx hy, C_near c (-1) hx hy, cl_s, jn_e, c.G (30 * y + x) (by omega), tl_eq]
  have e : (nI (nr v no (-1) x y) ≤ 0) = (nr v no (-1) x y = 0) := by
    rw [← nI_0, nI_leI (by omega) (by omega)]; exact propext (by omega)
  simp only [e]
  by_cases h1 : gI S (ad (b + 12)) (30 * y + x) = p
  · by_cases h2 : nr v no (-1) x y = 0 <;> simp [h1, h2, bI]
  · simp [h1, bI]
theorem C_addO (c : CV S ad b v np nf no mo) {f x y : Nat} : f_X6_add S (ad (b + 3)) (nI f) (nI x) (nI y) = if no < 16 then some (nI no, opS S ad b no f x y) else some (-3, S) := by
  have ho := c.ho
  have hb := c.hb
  have t0 := c.t
  have t1 := TR_SR0 (SR0_uI S (ad (b + 15)) no (nI f)) t0
  have t2 := TR_SR0 (SR0_uI _ (ad (b + 16)) no (nI x)) t1
  have t3 := TR_SR0 (SR0_uI _ (ad (b + 17)) no (nI y)) t2
  have t4 := TR_SR0 (SR0_uJ _ (ad (b + 18)) no 0) t3
  have e : (nI no < 16) = (no < 16) := by rw [show (16 : Int32) = nI 16 from rfl, nI_ltI (by omega) (by decide)]
  simp only [f_X6_add, lt_e, c.O.1, e]
  by_cases h : no < 16
  · have g4 : gI (uJ (uI (uI (uI S (ad (b + 15)) no (nI f)) (ad (b + 16)) no (nI x)) (ad (b + 17)) no (nI y)) (ad (b + 18)) no 0) (ad (b + 3)) 4 = nI no := by
      rw [gI_uJ, gI_i c.t.1, if_neg (by omega), gI_i c.t.1, if_neg (by omega), gI_i c.t.1, if_neg (by omega)]; exact c.O.1
    simp only [h, if_true, r_b3_0 t0 hb, sb15 t0 hb h, r_b3_1 t1 hb, sb16 t1 hb h, r_b3_2 t2 hb, sb17 t2 hb h, r_b3_3 t3 hb, sb18 t3 hb h, g4, nI_1, opS]
  · simp only [h, if_false]
theorem M_put (h : Mv S ad v np nf no mo) {f x y : Nat} (hno : no < 16) (hf : f < 30) (hx : x < 30) (hy : y < 30) : f_X12_putOutlet S (ad 1) 0 (nI f) (nI x) (nI y) = some (uJ (uJ (uJ (uJ (uJ S (ad 3) (186 + 4 * no + 0) (lN f)) (ad 3) (186 + 4 * no + 1) (lN x)) (ad 3) (186 + 4 * no + 2) (lN y)) (ad 3) (186 + 4 * no + 3) 0) (ad 3) 3 (lN (no + 1))) := by
  have h2 := Mv_3 h (k := 186 + 4 * no + 0) (w := lN f) (by omega)
  have h3 := Mv_3 h2 (k := 186 + 4 * no + 1) (w := lN x) (by omega)
  have h4 := Mv_3 h3 (k := 186 + 4 * no + 2) (w := lN y) (by omega)
  have h5 := Mv_3 h4 (k := 186 + 4 * no + 3) (w := 0) (by omega)
  have z3 : (5054 : Int32) * 0 + 3 = 3 := by decide
  have z186 : ((5054 : Int32) * 0 + 186) + 4 * (v 3).toInt32 = nI (186 + 4 * no) := by
    rw [h.2.2.2.2.1, lN_i, mu4, show (5054 : Int32) * 0 + 186 = 186 by decide, ad186]
  have e3 : udt (udt (udt (udt v (186 + 4 * no + 0) (lN f)) (186 + 4 * no + 1) (lN x)) (186 + 4 * no + 2) (lN y)) (186 + 4 * no + 3) 0 3 = lN no := by
    rw [udt_n (by omega), udt_n (by omega), udt_n (by omega), udt_n (by omega)]; exact h.2.2.2.2.1
  simp only [f_X12_putOutlet, lt_e, r_1_0 h.1, z3, ld_3 h, z186]
  rw [show nI (186 + 4 * no) + 0 = nI (186 + 4 * no + 0) from Int32.add_zero _, stJ_at (by rw [n_3 h.1]; omega) (by rw [n_3 h.1]; decide), nI_l (by omega), r_1_0 h2.1, show nI (186 + 4 * no) + 1 = nI (186 + 4 * no + 1) from nI_add _ 1, stJ_at (by rw [n_3 h2.1]; omega) (by rw [n_3 h2.1]; decide), nI_l (by omega), r_1_0 h3.1, show nI (186 + 4 * no) + 2 = nI (186 + 4 * no + 2) from nI_add _ 2, stJ_at (by rw [n_3 h3.1]; omega) (by rw [n_3 h3.1]; decide), nI_l (by omega), r_1_0 h4.1, show nI (186 + 4 * no) + 3 = nI (186 + 4 * no + 3) from nI_add _ 3, stJ_at (by rw [n_3 h4.1]; omega) (by rw [n_3 h4.1]; decide), r_1_0 h5.1, ld_3 h5, e3, lN_1, show (3 : Int32) = nI 3 from rfl, stJ_at (by rw [n_3 h5.1]; decide) (by rw [n_3 h5.1]; decide)]
theorem Q_openOutlet (c : CV S ad b v np nf no mo) (p q u : Int32) : QM S ad b v np nf no mo [(1, 1), (2, 2)] (f_X11_openOutlet S (ad 0) p q u) (fun S' => f_X12_openOutlet S' (ad 1) p q u) := by
  have h8 := c.hf
  have h16 := c.ho
  cases hB : vin p nf
  · refine Or.inr ⟨1, 1, by simp, by simp [f_X11_openOutlet, C_reqF c, hB, clx_r], fun S' h => ⟨0, ?_⟩⟩
    simp [f_X12_openOutlet, lt_e, M_isFr (Mv_t h (ad 1) 2 0), cl_s, jn_n, if_bI, hB, M_throws1, uI_uI]
  · cases hX : (vin q 30 && vin u 30)
    · refine Or.inr ⟨2, 2, by simp, by simp only [f_X11_openOutlet, C_reqF c, hB, if_true, clx_l, C_contains, hX, cl_s, C_reqA, clx_r]; rfl, fun S' h => ⟨0, ?_⟩⟩
      simp only [f_X12_openOutlet, lt_e, M_isFr (Mv_t h (ad 1) 2 0), cl_s, jn_n, if_bI, hB, M_isCell, hX, M_throws0, M_throws1, uI_uI]
      rfl
    · have hX' := hX
      rw [Bool.and_eq_true] at hX'
      obtain ⟨f, hf, rfl⟩ := vin_of (by omega) hB
      obtain ⟨x, hx, rfl⟩ := vin_of (by decide) hX'.1
      obtain ⟨y, hy, rfl⟩ := vin_of (by decide) hX'.2
      have f8 : f < 8 := by omega
      obtain ⟨z, hz⟩ := c.gi (30 * y + x) (by omega)
      have exy : (30 : Int32) * nI y + nI x = nI (30 * y + x) := by rw [mu30, nI_add]
      have ezf : (z = nI f) = (v (250 + (30 * y + x)) = (nI f).toInt64) := by rw [hz, tl_eq]
      have em : (30 * y + x) % 30 = x := by omega
      have ed : (30 * y + x) / 30 = y := by omega
      by_cases hok : act v f = true ∧ v (250 + (30 * y + x)) = (nI f).toInt64 ∧ ¬ nr v no (-1) x y = 0
      · obtain ⟨ha, ho, hn⟩ := hok
        by_cases hno : no < 16
        · have how : v (250 + (30 * y + x)) = lN f := by rw [ho, nI_l (by omega)]
          refine Or.inl ⟨nI no, _, _, no + 1, mo, ?_, MK_open c hno hf hx hy how, fun S' h => ⟨_, ?_, RK_3 (RK_3 (RK_3 (RK_3 (RK_3 (RK.rf h) h.1) h.1) h.1) h.1) h.1⟩⟩
          · simp only [f_X11_openOutlet, C_reqF c, hB, if_true, clx_l, C_contains, hX, cl_s, C_reqA, lt_e, c.r, r_b0_3 c.t c.hb, C_act c hf, ha, jn_n, if_bI, C_free c (nI f) hx hy, ho, hn, decide_true, decide_false, Bool.not_false, Bool.and_self, r_b0_2 c.t c.hb, C_addO c, hno]
          · have h1 := Mv_t h (ad 1) 2 0
            have n16 : ¬ v 3 = 16 := by rw [h.2.2.2.2.1, show (16 : Int64) = lN 16 from rfl, lN_eq (by omega) (by decide)]; omega
            have hzf : z = nI f := ezf.mpr ho
            simp only [f_X12_openOutlet, lt_e, M_isFr h1, hB, cl_s, jn_n, if_bI, if_true, M_throws0, M_isCell, hX, M_act h1 f8, ha, M_ownerOf h1 hx hy, hz, tl_i, hzf, exy, M_hasOut h1 c.w (show 30 * y + x < 900 by omega), em, ed, hn, decide_false, Bool.false_eq_true, if_false, r_1_0 h1.1, ld_3 h1, n16, M_put h1 hno (show f < 30 by omega) hx hy]
            have t5 := (RK_3 (RK_3 (RK_3 (RK_3 (RK_3 (RK.rf h) h.1 (k := 186 + 4 * no + 0) (w := lN f)) h.1 (k := 186 + 4 * no + 1) (w := lN x)) h.1 (k := 186 + 4 * no + 2) (w := lN y)) h.1 (k := 186 + 4 * no + 3) (w := 0)) h.1 (k := 3) (w := lN (no + 1)))
            have tr5 := t5.1.t h.1
            rw [r_1_0 tr5, show (3 : Int32) = nI 3 from rfl, ldJ_at (by rw [n_3 tr5]; decide) (by rw [n_3 tr5]; decide), t5.2.2, udt_e, lN_i, nI_pred]
        · have e16 : no = 16 := by omega
          refine Or.inl ⟨-3, S, v, no, mo, ?_, MK.rf c, fun S' h => ⟨_, ?_, RK.rf h⟩⟩
          · simp only [f_X11_openOutlet, C_reqF c, hB, if_true, clx_l, C_contains, hX, cl_s, C_reqA, lt_e, c.r, r_b0_3 c.t c.hb, C_act c hf, ha, jn_n, if_bI, C_free c (nI f) hx hy, ho, hn, decide_true, decide_false, Bool.not_false, Bool.and_self, r_b0_2 c.t c.hb, C_addO c, hno, if_false]
          · have h1 := Mv_t h (ad 1) 2 0
            have n16 : v 3 = 16 := by rw [h.2.2.2.2.1, e16]; rfl
            have hzf : z = nI f := ezf.mpr ho
            simp only [f_X12_openOutlet, lt_e, M_isFr h1, hB, cl_s, jn_n, if_bI, if_true, M_throws0, M_isCell, hX, M_act h1 f8, ha, M_ownerOf h1 hx hy, hz, tl_i, hzf, exy, M_hasOut h1 c.w (show 30 * y + x < 900 by omega), em, ed, hn, decide_false, Bool.false_eq_true, if_false, r_1_0 h1.1, ld_3 h1, n16]
      · refine Or.inl ⟨-2, S, v, no, mo, ?_, MK.rf c, fun S' h => ⟨_, ?_, RK.rf h⟩⟩
        · simp only [f_X11_openOutlet, C_reqF c, hB, if_true, clx_l, C_contains, hX, cl_s, C_reqA, lt_e, c.r, r_b0_3 c.t c.hb, C_act c hf, jn_n, if_bI, C_free c (nI f) hx hy]
          cases ha : act v f
          · rfl
          · by_cases ho : v (250 + (30 * y + x)) = (nI f).toInt64
            · by_cases hn : nr v no (-1) x y = 0
              · simp [ho, hn]
              · exact absurd ⟨ha, ho, hn⟩ hok
            · simp [ho]
        · have h1 := Mv_t h (ad 1) 2 0
          simp only [f_X12_openOutlet, lt_e, M_isFr h1, hB, cl_s, jn_n, if_bI, if_true, M_throws0, M_isCell, hX, M_act h1 f8, M_ownerOf h1 hx hy, hz, tl_i, exy, M_hasOut h1 c.w (show 30 * y + x < 900 by omega), em, ed]
          cases ha : act v f
          · rfl
          · by_cases ho : v (250 + (30 * y + x)) = (nI f).toInt64
            · by_cases hn : nr v no (-1) x y = 0
              · simp [ezf, ho, hn]
              · exact absurd ⟨ha, ho, hn⟩ hok
            · simp [ezf, ho]
