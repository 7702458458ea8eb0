/-! the pure part: ranks, the national share, and what is read off the ledger -/
variable {S S' : St} {ad : Nat → Nat} {b d j k : Nat} {v : Nat → Int64} {np nf no mo : Nat}
def rcs (v : Nat → Int64) (mo f : Nat) : Int64 := itr (fun k s => s + v (1214 + 8 * k + f)) 0 mo 0
theorem rcs_N (w : WF v np nf no mo) {f : Nat} (hf : f < nf) : ∃ N, N ≤ 160000000 * mo ∧ rcs v mo f = lN N := by
  have := itr_inv (N := mo) (f := fun k s => s + v (1214 + 8 * k + f)) (fun i s => ∃ N, N ≤ 160000000 * i ∧ s = lN N) (fun i s hi ⟨N, hN, e⟩ => ?_) mo 0 0 (by omega) ⟨0, by omega, rfl⟩
  · rw [Nat.zero_add] at this; exact this
  · obtain ⟨s', hs', e'⟩ := w.2.2.2.2.2.2.2 i f hi hf
    exact ⟨N + s', by omega, by simp only [e, e', lN_add]⟩
theorem M_recAll (h : Mv S ad v np nf no mo) {f : Nat} (hf : f < 8) : f_X12_recordedInAll S (ad 1) (nI f) = some (rcs v mo f) := by
  have hm := h.2.2.2.2.2.2.2.2.2
  simp only [f_X12_recordedInAll, lt_n, jn_n, r_1_0 h.1, ld_0 h]
  refine lp_for0 (fun (k : Int64 → Int32 → Option Int64) i s => k s (nI i)) _ _ mo (by omega) _ some (fun _ _ => True) 0 trivial ?_ (fun _ _ _ _ => trivial) ?_
  · intro k i s hi _
    have h1 : ¬ v 0 ≤ Int32.toInt64 (nI i) := by rw [cM_m h (by omega)]; omega
    simp only [h1, if_false, M_rec h hf (show i < 60 by omega), cl_s, nI_1]
  · intro k s _
    have h1 : v 0 ≤ Int32.toInt64 (nI mo) := by rw [cM_m h (by omega)]; omega
    simp only [h1, if_true]
theorem C_recAll (c : CV S ad b v np nf no mo) {f : Nat} (hf : f < nf) : f_X0_salesOfAllMonths S (ad (b + 6)) (nI f) = some (rcs v mo f) := by
  have hm := c.hm
  simp only [f_X0_salesOfAllMonths, lt_n, jn_n, c.B.1]
  refine lp_for0 (fun (k : Int64 → Int32 → Option Int64) i s => k s (nI i)) _ _ mo (by omega) _ some (fun _ _ => True) 0 trivial ?_ (fun _ _ _ _ => trivial) ?_
  · intro k i s hi _
    have h1 : ¬ nI mo ≤ nI i := by rw [nI_leI (by omega) (by omega)]; omega
    simp only [h1, if_false, C_salesIn c hf hi, cl_s, nI_1]
  · intro k s _
    have h1 : nI mo ≤ nI mo := by rw [nI_leI (by omega) (by omega)]; omega
    simp only [h1, if_true]
def rb (v : Nat → Int64) (mo g f : Nat) : Bool := decide (rcs v mo f < rcs v mo g) || (decide (rcs v mo g = rcs v mo f) && decide (g < f))
def rkB (v : Nat → Int64) (nf mo f : Nat) : Int32 := itr (fun g s => s + bI (rb v mo g f)) 0 nf 0
def rk (v : Nat → Int64) (nf mo : Nat) (p : Int32) : Nat → Nat → Int32
  | 0, _ => -1
  | n + 1, m => if rkB v nf mo m = p then nI m else rk v nf mo p n (m + 1)
theorem C_before (c : CV S ad b v np nf no mo) {f g : Nat} (hf : f < nf) (hg : g < nf) : f_X0_ranksBefore S (ad (b + 6)) (nI g) (nI f) = some (bI (rb v mo g f)) := by
  have h8 := c.hf
  simp only [f_X0_ranksBefore, C_recAll c hf, C_recAll c hg, cl_s, jn_e, rb]
  have e : (nI f ≤ nI g) = ¬ g < f := by rw [nI_leI (by omega) (by omega)]; exact propext (by omega)
  simp only [e]
  by_cases h1 : rcs v mo f < rcs v mo g
  · simp [h1, bI]
  · by_cases h2 : rcs v mo g = rcs v mo f
    · by_cases h3 : g < f <;> simp [h1, h2, h3, bI, Int64.lt_irrefl]
    · simp [h1, h2, bI]
theorem lN_tI {n : Nat} (h : n < 2 ^ 63) : (lN n).toInt = (n : Int) := lg_ofNat_toInt h
theorem C_atPlace (c : CV S ad b v np nf no mo) (p : Int32) : f_X0_atPlace S (ad (b + 6)) p (nI nf) = some (rk v nf mo p nf 0) := by
  have h8 := c.hf
  have hm := c.hm
  simp only [f_X0_atPlace, jn_n]
  refine lp_rec (fun (k : Int32 → Option Int32) i (_ : Unit) => k (nI i)) _ _ nf (fun n m _ => some (rk v nf mo p n m)) ?_ ?_ nf FU 0 () (by omega) (show nf < 6000 by omega)
  · intro k _
    have h1 : nI nf ≤ nI nf := by rw [nI_leI (by omega) (by omega)]; omega
    simp only [h1, if_true]; rfl
  · intro k m n _ hmn hk
    have h1 : ¬ nI nf ≤ nI m := by rw [nI_leI (by omega) (by omega)]; omega
    have hk := hk ()
    simp only [h1, if_false]
    refine (lp_for0 (fun (k : Int32 → Int32 → Option Int32) i s => k s (nI i)) _ _ nf (by omega) (fun g s => s + bI (rb v mo g m)) (fun s => if s = p then some (nI m) else some (rk v nf mo p n (m + 1))) (fun _ _ => True) 0 trivial ?_ (fun _ _ _ _ => trivial) ?_).trans ?_
    · intro k' g s hg _
      have h2 : ¬ nI nf ≤ nI g := by rw [nI_leI (by omega) (by omega)]; omega
      simp only [h2, if_false, C_before c (show m < nf by omega) hg, cl_s, nI_1, if_bI]
      cases rb v mo g m
      · simp [bI]
      · simp [bI]
    · intro k' s _
      have h2 : nI nf ≤ nI nf := by rw [nI_leI (by omega) (by omega)]; omega
      simp only [h2, if_true, nI_1, hk]
    · simp only [rk]
      change (if rkB v nf mo m = p then _ else _) = _
      by_cases hx : rkB v nf mo m = p <;> simp [hx]
theorem Q_ranked (c : CV S ad b v np nf no mo) (p : Int32) : QC ad v np nf no mo (f_X11_ranked S (ad 0) p) (fun S' => f_X12_ranked S' (ad 1) p) := by
  have h8 := c.hf
  have hm := c.hm
  refine ⟨rk v nf mo p nf 0, ?_, fun S' h => ?_⟩
  · simp only [f_X11_ranked, C_atPlace c, cl_n, lt_n, c.r, r_b0_5 c.t c.hb, r_b0_3 c.t c.hb, c.N.1]
  · have h1 := Mv_t h (ad 1) 2 0
    simp only [f_X12_ranked, lt_n, jn_n, r_1_0 h1.1, ld_2 h1]
    refine lp_rec (fun (k : Int32 → Option (Int32 × St)) i (_ : Unit) => k (nI i)) _ _ nf (fun n m _ => some (rk v nf mo p n m, uI S' (ad 1) 2 0)) ?_ ?_ nf FU 0 () (by omega) (show nf < 6000 by omega)
    · intro k _
      have h2 : v 2 ≤ Int32.toInt64 (nI nf) := by rw [cM_f h1 (by omega)]; omega
      simp only [h2, if_true]; rfl
    · intro k m n _ hmn hk
      have h2 : ¬ v 2 ≤ Int32.toInt64 (nI m) := by rw [cM_f h1 (by omega)]; omega
      have hk := hk ()
      simp only [h2, if_false]
      refine (lp_for0 (fun (k : Int32 → Int32 → Option (Int32 × St)) i s => k s (nI i)) _ _ nf (by omega) (fun g s => s + bI (rb v mo g m)) (fun s => if s = p then some (nI m, uI S' (ad 1) 2 0) else some (rk v nf mo p n (m + 1), uI S' (ad 1) 2 0)) (fun _ _ => True) 0 trivial ?_ (fun _ _ _ _ => trivial) ?_).trans ?_
      · intro k' g s hg _
        have h3 : ¬ v 2 ≤ Int32.toInt64 (nI g) := by rw [cM_f h1 (by omega)]; omega
        simp only [h3, if_false, M_recAll h1 (show g < 8 by omega), M_recAll h1 (show m < 8 by omega), cl_s, nI_1, rb]
        obtain ⟨A, hA, eA⟩ := rcs_N c.w hg
        obtain ⟨B, hB, eB⟩ := rcs_N c.w (show m < nf by omega)
        have e : (nI m ≤ nI g) = ¬ g < m := by rw [nI_leI (by omega) (by omega)]; exact propext (by omega)
        rw [eA, eB]
        have tA : (lN A).toInt = (A : Int) := by exact lN_tI (by omega)
        have tB : (lN B).toInt = (B : Int) := by exact lN_tI (by omega)
        have tS : (lN A - lN B).toInt = (A : Int) - B := by rw [Int64.toInt_sub, tA, tB, Int.bmod_eq_of_le] <;> omega
        have e1 : (0 < lN A - lN B) = (B < A) := by
          rw [Int64.lt_iff_toInt_lt, tS, show (0 : Int64).toInt = 0 from rfl]; exact propext (by omega)
        have e2 : (lN A - lN B = 0) = (A = B) := by
          rw [← Int64.toInt_inj, tS, show (0 : Int64).toInt = 0 from rfl]; exact propext (by omega)
        have e3 : (lN B < lN A) = (B < A) := by rw [Int64.lt_iff_toInt_lt, tA, tB]; exact propext (by omega)
        have e4 : (lN A = lN B) = (A = B) := by rw [← Int64.toInt_inj, tA, tB]; exact propext (by omega)
        simp only [e, e1, e2, e3, e4]
        by_cases q1 : B < A
        · simp [q1, bI]
        · by_cases q2 : A = B
          · by_cases q3 : g < m <;> simp [q1, q2, q3, bI]
          · simp [q1, q2, bI]
      · intro k' s _
        have h3 : v 2 ≤ Int32.toInt64 (nI nf) := by rw [cM_f h1 (by omega)]; omega
        simp only [h3, if_true, nI_1, hk]
      · simp only [rk]
        change (if rkB v nf mo m = p then _ else _) = _
        by_cases hx : rkB v nf mo m = p <;> simp [hx]
/-! the national share -/
def nsR (v : Nat → Int64) (nf g : Nat) : Int64 := v 12 * v (58 + 16 * g + 7) - v 12 * v (58 + 16 * g + 7) / ctr v nf * ctr v nf
def nsS (v : Nat → Int64) (nf f g : Nat) (s : Int64 × Nat) : Int64 × Nat := (s.1 - v 12 * v (58 + 16 * g + 7) / ctr v nf, if nsR v nf f < nsR v nf g then s.2 + 1 else if nsR v nf g = nsR v nf f then (if g < f then s.2 + 1 else s.2) else s.2)
def nsh (v : Nat → Int64) (nf f : Nat) : Int64 := let s := itr (nsS v nf f) 0 nf (v 12, 0); v 12 * v (58 + 16 * f + 7) / ctr v nf + (if s.1 ≤ lN s.2 then 0 else 1)
theorem ctr_N (w : WF v np nf no mo) : ∃ N, N ≤ 976000000 * nf ∧ ctr v nf = lN N := by
  have := itr_inv (N := nf) (f := fun f s => s + v (58 + 16 * f + 7)) (fun i s => ∃ N, N ≤ 976000000 * i ∧ s = lN N) (fun i s hi ⟨N, hN, e⟩ => ?_) nf 0 0 (by omega) ⟨0, by omega, rfl⟩
  · rw [Nat.zero_add] at this; exact this
  · obtain ⟨g, hg, e'⟩ := (w.2.2.1 i hi).2.2.2
    exact ⟨N + g, by rw [Nat.mul_succ]; omega, by simp only [e, e', lN_add]⟩
theorem ns_N (c : CV S ad b v np nf no mo) (ha : ctr v nf ≠ 0) : ∃ A, 0 < A ∧ A ≤ 7808000000 ∧ ctr v nf = lN A ∧ ∀ g, g < nf → ∃ P, P < 2 ^ 63 ∧ v 12 * v (58 + 16 * g + 7) = lN P ∧ nsR v nf g = lN (P % A) := by
  have h8 := c.hf
  have hm := c.hm
  obtain ⟨A, hA, e⟩ := ctr_N c.w
  obtain ⟨a, n, l, -, e12, -, -, -, hn⟩ := c.w.2.2.2.2.2.2.1
  have hA2 : A ≤ 7808000000 := by omega
  have hA0 : 0 < A := by
    rcases Nat.eq_zero_or_pos A with h0 | h0
    · subst h0; exact absurd e ha
    · exact h0
  refine ⟨A, hA0, hA2, e, fun g hg => ?_⟩
  obtain ⟨q, hq, e7⟩ := (c.w.2.2.1 g hg).2.2.2
  have hP : n * q < 2 ^ 63 := by
    have : n * q ≤ 7808000000 * 976000000 := Nat.mul_le_mul hn hq
    omega
  refine ⟨n * q, hP, by rw [e12, e7, lN_mul], ?_⟩
  rw [nsR, e12, e7, lN_mul, e, pk_lRem hP hA0 (by omega)]
theorem C_share (c : CV S ad b v np nf no mo) {f : Nat} (hf : f < nf) : f_X0_shareOfNational S (ad (b + 6)) (nI f) = some (if ctr v nf = 0 then 0 else nsh v nf f) := by
  have h8 := c.hf
  simp only [f_X0_shareOfNational, C_allC c, cl_n, lt_n, jn_n, r_b6_5 c.t c.hb, r_b6_3 c.t c.hb, C_sp c (q := 1) (n := 1) rfl (by decide), lb36 c.t c.hb (show f < 8 by omega), ← (c.B.2.2.2.1 f hf).1]
  by_cases ha : ctr v nf = 0
  · have : ¬ (0 : Int64) < ctr v nf := by rw [ha]; decide
    rw [if_neg this, if_pos ha]
  · obtain ⟨A, hA0, hA, eA, hg⟩ := ns_N c ha
    have : (0 : Int64) < ctr v nf := by rw [eA, show (0 : Int64) = lN 0 from rfl, Int64.lt_iff_toInt_lt, lN_tI (by decide), lN_tI (by omega)]; omega
    rw [if_pos this, if_neg ha, nzL, if_neg ha]
    have hz : v 12 - 0 = v 12 := by rw [Int64.sub_zero]
    obtain ⟨Pf, hPf, -, eRf⟩ := hg f hf
    refine (lp_for0 (fun (k : Int64 → Int32 → Int32 → Option Int64) i (s : Int64 × Nat) => k s.1 (nI s.2) (nI i)) _ _ 8 (by decide) (fun g s => if g < nf then nsS v nf f g s else s) (fun s => some (v 12 * v (58 + 16 * f + 7) / ctr v nf + (if s.1 ≤ lN s.2 then 0 else 1))) (fun i s => s.2 ≤ i) (v 12, 0) (Nat.le_refl 0) ?_ ?_ ?_).trans ?_
    · intro k g s hg8 hs
      rw [if_neg (ge8 hg8)]
      simp only [lb36 c.t c.hb hg8, nzL, if_neg ha, nI_1]
      by_cases hgn : g < nf
      · obtain ⟨Pg, hPg, -, eRg⟩ := hg g hgn
        rw [← (c.B.2.2.2.1 g hgn).1, if_pos hgn]
        have e : (nI f ≤ nI g) = ¬ g < f := by rw [nI_leI (by omega) (by omega)]; exact propext (by omega)
        change (if nsR v nf f < nsR v nf g then _ else if nsR v nf g = nsR v nf f then _ else _) = _
        simp only [nsS, e]
        by_cases q1 : nsR v nf f < nsR v nf g
        · simp only [q1, if_true]
        · by_cases q2 : nsR v nf g = nsR v nf f
          · by_cases q3 : g < f <;> simp only [q1, q2, q3, if_true, if_false, not_true, not_false_iff, Int64.lt_irrefl]
          · simp only [q1, q2, if_false]
      · rw [c.B.2.2.2.2.1 g (by omega) hg8, if_neg hgn, Int64.mul_zero]
        have e0 : (0 : Int64) / ctr v nf = 0 := by rw [Int64.zero_div]
        rw [e0, Int64.zero_mul, Int64.sub_zero, Int64.sub_zero]
        change (if nsR v nf f < 0 then _ else if 0 = nsR v nf f then _ else _) = _
        have q1 : ¬ nsR v nf f < 0 := by
          rw [eRf, Int64.lt_iff_toInt_lt, show (0 : Int64).toInt = 0 from rfl, lN_tI (by have := Nat.mod_lt Pf hA0; omega)]; omega
        have q3 : nI f ≤ nI g := by rw [nI_leI (by omega) (by omega)]; omega
        rw [if_neg q1]
        by_cases q2 : 0 = nsR v nf f
        · rw [if_pos q2, if_pos q3]
        · rw [if_neg q2]
    · intro g s hg8 hs
      by_cases hgn : g < nf
      · simp only [hgn, if_true, nsS]
        by_cases q1 : nsR v nf f < nsR v nf g
        · simp only [q1, if_true]; omega
        · by_cases q2 : nsR v nf g = nsR v nf f
          · by_cases q3 : g < f <;> simp only [q1, q2, q3, if_true, if_false, Int64.lt_irrefl] <;> omega
          · simp only [q1, q2, if_false]; omega
      · simp only [hgn, if_false]; omega
    · intro k s hs
      rw [if_pos le8, nI_l (by omega), nzL, if_neg ha]
      by_cases hx : s.1 ≤ lN s.2 <;> simp only [hx, if_true, if_false] <;> rfl
    · have e1 := itr_add (fun g s => if g < nf then nsS v nf f g s else s) nf (8 - nf) 0 ((v 12, 0) : Int64 × Nat)
      rw [show nf + (8 - nf) = 8 by omega, Nat.zero_add] at e1
      rw [e1, itr_id (8 - nf) nf _ (fun g s a b => by rw [if_neg (by omega)]), itr_congr nf 0 _ (g := nsS v nf f) (fun g s _ a => by rw [if_pos (by omega)])]
      rfl
theorem Q_nationalShare (c : CV S ad b v np nf no mo) (p : Int32) : QB ad v np nf no mo 1 (f_X11_nationalShare S (ad 0) p) (fun S' => f_X12_nationalShare S' (ad 1) p) := by
  have hf8 := c.hf
  cases hB : vin p nf
  · refine Or.inr ⟨by simp [f_X11_nationalShare, C_reqF c, hB, clx_r], fun S' h => ⟨0, ?_⟩⟩
    simp [f_X12_nationalShare, lt_e, M_isFr (Mv_t h (ad 1) 2 0), cl_s, jn_n, if_bI, hB, M_throws1, uI_uI]
  · obtain ⟨f, hf, rfl⟩ := vin_of (by omega) hB
    have h8 : f < 8 := by omega
    refine Or.inl ⟨if ctr v nf = 0 then 0 else nsh v nf f, ?_, fun S' h => ?_⟩
    · simp only [f_X11_nationalShare, C_reqF c, hB, if_true, clx_l, lt_e, c.r, r_b0_5 c.t c.hb, C_share c hf, cl_s]
    · have h1 := Mv_t h (ad 1) 2 0
      have hp : ∀ g, g < 8 → f_X12_product (uI S' (ad 1) 2 0) (ad 1) (nI g) = some (v 12 * v (58 + 16 * g + 7)) := fun g hg => by
        simp only [f_X12_product, lt_n, r_1_0 h1.1, ld_12 h1, M_of7 h1 hg, cl_n]
      simp only [f_X12_nationalShare, lt_n, M_isFr h1, cl_n, jn_n, if_bI, hB, M_throws0, if_true, M_allC h1, r_1_0 h1.1, ld_12 h1, ld_2 h1, hp f h8]
      by_cases ha : ctr v nf = 0
      · rw [if_pos ha, if_pos ha]
      · rw [if_neg ha, if_neg ha]
        obtain ⟨A, hA0, hA, eA, hg⟩ := ns_N c ha
        obtain ⟨Pf, hPf, -, eRf⟩ := hg f hf
        refine lp_for0 (fun (k : Int64 → Int64 → Int32 → Option (Int64 × St)) i (s : Int64 × Nat) => k s.1 (lN s.2) (nI i)) _ _ nf (by omega) (nsS v nf f) (fun s => some (v 12 * v (58 + 16 * f + 7) / ctr v nf + (if s.1 ≤ lN s.2 then 0 else 1), uI S' (ad 1) 2 0)) (fun _ _ => True) (v 12, 0) trivial ?_ (fun _ _ _ _ => trivial) ?_
        · intro k g s hgn _
          have h2 : ¬ v 2 ≤ Int32.toInt64 (nI g) := by rw [cM_f h1 (by omega)]; omega
          rw [if_neg h2, hp g (by omega)]
          obtain ⟨Pg, hPg, -, eRg⟩ := hg g hgn
          have e : (nI f ≤ nI g) = ¬ g < f := by rw [nI_leI (by omega) (by omega)]; exact propext (by omega)
          simp only [cl_n, nzL, if_neg ha, nI_1, nsS, e]
          change (if 0 < nsR v nf g - nsR v nf f then _ else if nsR v nf g - nsR v nf f = 0 then _ else _) = _
          rw [eRf, eRg]
          have bg := Nat.mod_lt Pg hA0
          have bf := Nat.mod_lt Pf hA0
          generalize Pg % A = G at bg ⊢
          generalize Pf % A = F at bf ⊢
          have tG : (lN G).toInt = (G : Int) := lN_tI (by omega)
          have tF : (lN F).toInt = (F : Int) := lN_tI (by omega)
          have tS : (lN G - lN F).toInt = (G : Int) - F := by rw [Int64.toInt_sub, tG, tF, Int.bmod_eq_of_le] <;> omega
          have e1 : (0 < lN G - lN F) = (F < G) := by
            rw [Int64.lt_iff_toInt_lt, tS, show (0 : Int64).toInt = 0 from rfl]; exact propext (by omega)
          have e2 : (lN G - lN F = 0) = (G = F) := by
            rw [← Int64.toInt_inj, tS, show (0 : Int64).toInt = 0 from rfl]; exact propext (by omega)
          have e3 : (lN F < lN G) = (F < G) := by rw [Int64.lt_iff_toInt_lt, tG, tF]; exact propext (by omega)
          have e4 : (lN G = lN F) = (G = F) := by rw [← Int64.toInt_inj, tG, tF]; exact propext (by omega)
          simp only [e1, e2, e3, e4]
          by_cases q1 : F < G
          · simp only [q1, if_true, lN_1]
          · by_cases q2 : G = F
            · subst q2
              by_cases q3 : g < f <;> simp only [q1, q3, if_true, if_false, not_true, not_false_iff, lN_1, Int64.add_zero]
            · simp only [q1, q2, if_false, Int64.add_zero]
        · intro k s _
          have h2 : v 2 ≤ Int32.toInt64 (nI nf) := by rw [cM_f h1 (by omega)]; omega
          rw [if_pos h2]
          by_cases hx : s.1 ≤ lN s.2 <;> simp only [hx, if_true, if_false, nzL, if_neg ha]
