/-! the pure part: royalties, credits, sums -/
variable {S S' : St} {ad : Nat → Nat} {b d j k : Nat} {v : Nat → Int64} {np nf no mo : Nat}
theorem cM_f (h : Mv S ad v np nf no mo) {i : Nat} (hi : i < 2 ^ 31) : (v 2 ≤ Int32.toInt64 (nI i)) ↔ nf ≤ i := by
  have := h.2.2.2.2.2.2.2.1
  rw [h.2.2.2.1, nI_l hi, lN_le (by omega) hi]
theorem cM_o (h : Mv S ad v np nf no mo) {i : Nat} (hi : i < 2 ^ 31) : (v 3 ≤ Int32.toInt64 (nI i)) ↔ no ≤ i := by
  have := h.2.2.2.2.2.2.2.2.1
  rw [h.2.2.2.2.1, nI_l hi, lN_le (by omega) hi]
theorem cM_p (h : Mv S ad v np nf no mo) {i : Nat} (hi : i < 2 ^ 31) : (v 1 ≤ Int32.toInt64 (nI i)) ↔ np ≤ i := by
  have := h.2.2.2.2.2.2.1
  rw [h.2.2.1, nI_l hi, lN_le (by omega) hi]
theorem cM_m (h : Mv S ad v np nf no mo) {i : Nat} (hi : i < 2 ^ 31) : (v 0 ≤ Int32.toInt64 (nI i)) ↔ mo ≤ i := by
  have := h.2.2.2.2.2.2.2.2.2
  rw [h.2.2.2.2.2.1, nI_l hi, lN_le (by omega) hi]
def rtd (a r : Int64) : Int64 := (a * r + 5000) / 10000
theorem M_rated (S : St) (a r : Int64) : f_X12_rated S a r = some (rtd a r) := rfl
theorem C_rateOf (S : St) (a r : Int64) : f_X11_rateOf S a r = some (rtd a r) := rfl
/-! credits -/
def crd (v : Nat → Int64) (f g : Nat) : Int64 := if v 5 < rtd (v (1150 + (8 * f + g))) (v 4) then v 5 else rtd (v (1150 + (8 * f + g))) (v 4)
theorem le_antisymm64 {a b : Int64} (h1 : a ≤ b) (h2 : b ≤ a) : a = b := Int64.toInt_inj.mp (Int.le_antisymm (Int64.le_iff_toInt_le.mp h1) (Int64.le_iff_toInt_le.mp h2))
theorem min64 (a b : Int64) : (if a ≤ b then a else b) = if a < b then a else b := by
  by_cases h : a < b
  · simp [h, Int64.le_of_lt h]
  · by_cases h2 : a ≤ b
    · simp [h, h2]
      exact le_antisymm64 h2 (Int64.not_lt.mp h)
    · simp [h, h2]
theorem min64c (a b : Int64) : (if a < b then a else b) = if b ≤ a then b else a := by
  by_cases h : a < b
  · simp [h, Int64.not_le.mpr h]
  · simp [h, Int64.not_lt.mp h]
theorem M_credit (h : Mv S ad v np nf no mo) {f g : Nat} (hf : f < 8) (hg : g < 8) : f_X12_credit S (ad 1) (nI f) (nI g) = some (crd v f g) := by
  simp only [f_X12_credit, lt_e, r_1_0 h.1]
  rw [ldSe h (k := 1150 + (8 * f + g)) (by rw [mu8, ad1150, nI_add, Nat.add_assoc]) (by omega), ld_4 h]
  simp only [M_rated, cl_s, ld_5 h, crd]
  rw [← min64]
  by_cases hc : v 5 ≤ rtd (v (1150 + (8 * f + g))) (v 4) <;> simp [hc]
theorem C_credit (c : CV S ad b v np nf no mo) {f g : Nat} (hf : f < 8) (hg : g < 8) : f_X1_creditBetween S (ad b) (nI f) (nI g) = some (crd v f g) := by
  simp only [f_X1_creditBetween, f_X0_delivered, lt_e, cl_s, r_b0_5 c.t c.hb, r_b6_2 c.t c.hb, r_b0_0 c.t c.hb]
  rw [um8, nI_add, lb35 c.t c.hb (by omega)]
  simp only [C_rateOf, cl_s, crd]
  rw [Nat.mul_comm f 8, ← c.B.2.1 (8 * f + g) (by omega), ← c.T.2.1, ← c.T.2.2.1]
theorem crd_self (w : WF v np nf no mo) {f : Nat} (hf : f < 8) : crd v f f = 0 := by
  have e : v (1150 + (8 * f + f)) = 0 := by
    have := w.2.2.2.2.2.1 f hf
    rw [← this]; congr 2; omega
  obtain ⟨t, ht, e5⟩ := w.1.2.1
  have e0 : rtd 0 (v 4) = 0 := by simp only [rtd, Int64.zero_mul]; decide
  simp only [crd, e, e0, e5]
  have : ¬ lN t < 0 := by rw [show (0 : Int64) = lN 0 from rfl, lN_lt (by omega) (by omega)]; omega
  simp [this]
theorem Q_creditDue (c : CV S ad b v np nf no mo) (p q : Int32) : QB ad v np nf no mo 1 (f_X11_creditDue S (ad 0) p q) (fun S' => f_X12_creditDue S' (ad 1) p q) := by
  have hf8 := c.hf
  cases hB : vin p nf
  · refine Or.inr ⟨by simp [f_X11_creditDue, C_reqF c, hB, clx_r], fun S' h => ⟨0, ?_⟩⟩
    simp [f_X12_creditDue, lt_e, M_isFr (Mv_t h (ad 1) 2 0), cl_s, jn_e, if_bI, hB, M_throws1, uI_uI]
  · cases hC : vin q nf
    · refine Or.inr ⟨by simp [f_X11_creditDue, C_reqF c, hB, hC, clx_l, clx_r], fun S' h => ⟨0, ?_⟩⟩
      simp [f_X12_creditDue, lt_e, M_isFr (Mv_t h (ad 1) 2 0), cl_s, jn_e, if_bI, hB, hC, M_throws1, uI_uI]
    · obtain ⟨f, hf, rfl⟩ := vin_of (by omega) hB
      obtain ⟨g, hg, rfl⟩ := vin_of (by omega) hC
      refine Or.inl ⟨crd v f g, ?_, fun S' h => ?_⟩
      · simp [f_X11_creditDue, C_reqF c, hB, hC, clx_l, lt_e, c.r, C_credit c (show f < 8 by omega) (show g < 8 by omega), cl_s]
      · have h1 := Mv_t h (ad 1) 2 0
        simp only [f_X12_creditDue, lt_e, M_isFr h1, cl_s, jn_e, if_bI, hB, hC, M_throws0, if_true, M_credit h1 (show f < 8 by omega) (show g < 8 by omega)]
        by_cases hfg : f = g
        · subst hfg
          simp [crd_self c.w (show f < 8 by omega)]
        · have : ¬ nI f = nI g := fun e => hfg (nI_inj (by omega) (by omega) e)
          simp [this]
/-! royalties -/
def roS (v : Nat → Int64) (p : Nat) (s : Int64) (t i : Nat) (st : Int64 × Int64 × Int64) : Int64 × Int64 × Int64 :=
  let to := if i = t then s else v (14 + 11 * p + (3 + i))
  let top := if s ≤ to then s else to
  (if top ≤ st.2.1 then st.1 else st.1 + (top - st.2.1) * st.2.2, if i = t then st.2.1 else v (14 + 11 * p + (3 + i)), if i = t then st.2.2 else v (14 + 11 * p + (7 + i)))
def roy (v : Nat → Int64) (p t : Nat) (s : Int64) : Int64 := rtd (itr (roS v p s t) 0 (t + 1) (0, 0, v (14 + 11 * p + 1))).1 1
theorem rt_half (S : St) (a : Int64) : f_X12_half S a = some (rtd a 1) := by simp [f_X12_half, rtd]
theorem M_royaltyOf (h : Mv S ad v np nf no mo) {p t : Nat} (hp : p < 4) (ht : t ≤ 4) (e : v (14 + 11 * p + 2) = lN t) (s : Int64) : f_X12_royaltyOf S (ad 1) (nI p) s = some (roy v p t s) := by
  simp only [f_X12_royaltyOf, M_op1 h hp, cl_s, jn_e, rt_half, M_op2 h hp]
  refine lp_for0 (fun (k : Int64 → Int64 → Int64 → Int32 → Option Int64) i (st : Int64 × Int64 × Int64) => k st.1 st.2.1 st.2.2 (nI i)) _ _ (t + 1) (by omega) (roS v p s t) (fun st => some (rtd st.1 1)) (fun _ _ => True) (0, 0, v (14 + 11 * p + 1)) trivial ?_ (fun _ _ _ _ => trivial) ?_
  · intro k i st hi _
    rw [e, nI_l (by omega)]
    have h1 : ¬ lN t < lN i := by rw [lN_lt (by omega) (by omega)]; omega
    simp only [h1, if_false]
    have h2 : (lN i = lN t) = (i = t) := by rw [lN_eq (by omega) (by omega)]
    simp only [h2, nI_1]
    by_cases hit : i = t
    · simp only [hit, if_true, i10, if_false, roS, Int64.le_refl]
      by_cases hy : s ≤ st.2.1 <;> simp [hy, lt_e]
    · simp only [hit, if_false, if_true, M_op3j h hp (show i < 4 by omega), M_op7j h hp (show i < 4 by omega), cl_s, roS]
      by_cases hx : s ≤ v (14 + 11 * p + (3 + i))
      · simp only [hx, if_true]
        by_cases hy : s ≤ st.2.1 <;> simp [hy, lt_e]
      · simp only [hx, if_false]
        by_cases hy : v (14 + 11 * p + (3 + i)) ≤ st.2.1 <;> simp [hy, lt_e]
  · intro k st _
    rw [e, nI_l (by omega)]
    have h1 : lN t < lN (t + 1) := by rw [lN_lt (by omega) (by omega)]; omega
    simp only [h1, if_true]
theorem itr_J {σ : Type} {f g : Nat → σ → σ} (J : Nat → σ → Prop) : ∀ (m i : Nat) (s : σ), J i s → (∀ j s, i ≤ j → j < i + m → J j s → f j s = g j s ∧ J (j + 1) (f j s)) → itr f i m s = itr g i m s := by
  intro m
  induction m with
  | zero => intro i s _ _; rfl
  | succ m ih =>
    intro i s hs h
    obtain ⟨h1, h2⟩ := h i s (Nat.le_refl _) (by omega) hs
    show itr f (i + 1) m (f i s) = itr g (i + 1) m (g i s)
    rw [← h1]
    exact ih (i + 1) _ h2 (fun j s a b c => h j s (by omega) (by omega) c)
/-- two loops whose states belong together -/
theorem itr_R {σ τ : Type} {f : Nat → σ → σ} {g : Nat → τ → τ} (R : Nat → σ → τ → Prop) : ∀ (m i : Nat) (s : σ) (t : τ), R i s t → (∀ j s t, i ≤ j → j < i + m → R j s t → R (j + 1) (f j s) (g j t)) → R (i + m) (itr f i m s) (itr g i m t) := by
  intro m
  induction m with
  | zero => intro i s t h _; exact h
  | succ m ih =>
    intro i s t h hs
    rw [show i + (m + 1) = i + 1 + m by omega]
    exact ih (i + 1) _ _ (hs i s t (Nat.le_refl _) (by omega) h) (fun j s t a b c => hs j s t (by omega) (by omega) c)
theorem C_royaltyFor (c : CV S ad b v np nf no mo) {p t : Nat} (hp : p < np) (ht : t ≤ 4) (e : v (14 + 11 * p + 2) = lN t) (s : Int64) : f_X8_royaltyFor S (ad (b + 1)) (nI p) s = some (roy v p t s) := by
  have h4 := c.hp
  have hp4 : p < 4 := by omega
  obtain ⟨t', ht', e1, e2, -, e4, e5, e6⟩ := c.T.2.2.2.2.2.2.2.2 p hp
  have : t' = t := by rw [e] at e2; exact ((lN_eq (by omega) (by omega)).mp e2).symm
  subst this
  simp only [f_X8_royaltyFor, lt_e, cl_s, jn_e, um5, r_b1_1 c.t c.hb, r_b1_2 c.t c.hb, r_b1_3 c.t c.hb, lb9 c.t c.hb hp4, e1, nI_add, C_rateOf]
  rw [show nI (p * 5 + (t' + 1)) - 1 = nI (p * 5 + t') from nI_pred (p * 5 + t')]
  refine (lp_for0 (fun (k : Int64 → Int32 → Option Int64) i (st : Int64) => k st (nI (p * 5 + i))) _ _ (t' + 1) (by omega) (fun i st => (roS v p s t' i (st, gJ S (ad (b + 10)) (5 * p + i), (gI S (ad (b + 11)) (5 * p + i)).toInt64)).1) (fun st => some (rtd st 1)) (fun _ _ => True) 0 trivial ?_ (fun _ _ _ _ => trivial) ?_).trans ?_
  · intro k i st hi _
    have h1 : ¬ nI (p * 5 + t') < nI (p * 5 + i) := by rw [nI_ltI (by omega) (by omega)]; omega
    have h2 : (nI (p * 5 + t') ≤ nI (p * 5 + i)) = (t' ≤ i) := by rw [nI_leI (by omega) (by omega)]; exact propext (by omega)
    simp only [h1, if_false, h2, nI_1, lb10 c.t c.hb (show p * 5 + i < 20 by omega), lb11 c.t c.hb (show p * 5 + i < 20 by omega)]
    by_cases hit : i = t'
    · simp only [hit, Nat.le_refl, if_true, roS, Int64.le_refl, Nat.mul_comm p 5, Nat.add_assoc]
      by_cases hy : s ≤ gJ S (ad (b + 10)) (5 * p + t') <;> simp [hy, lt_e]
    · have h3 : ¬ t' ≤ i := by omega
      simp only [h3, if_false, hit, roS, lb10 c.t c.hb (show p * 5 + i + 1 < 20 by omega), (e6 i (by omega)).1]
      rw [show p * 5 + i + 1 = 5 * p + 1 + i by omega, show p * 5 + i = 5 * p + i by omega, show p * 5 + (i + 1) = 5 * p + 1 + i by omega, min64c]
      by_cases hy : (if s ≤ gJ S (ad (b + 10)) (5 * p + 1 + i) then s else gJ S (ad (b + 10)) (5 * p + 1 + i)) ≤ gJ S (ad (b + 10)) (5 * p + i) <;> simp [hy]
  · intro k st _
    have h1 : nI (p * 5 + t') < nI (p * 5 + (t' + 1)) := by rw [nI_ltI (by omega) (by omega)]; omega
    simp only [h1, if_true]
  · rw [roy]
    congr 2
    have := itr_R (f := fun i st => (roS v p s t' i (st, gJ S (ad (b + 10)) (5 * p + i), (gI S (ad (b + 11)) (5 * p + i)).toInt64)).1) (g := roS v p s t') (fun i a st => st.1 = a ∧ (i ≤ t' → st.2.1 = gJ S (ad (b + 10)) (5 * p + i) ∧ st.2.2 = (gI S (ad (b + 11)) (5 * p + i)).toInt64)) (t' + 1) 0 0 (0, 0, v (14 + 11 * p + 1)) ⟨rfl, fun _ => ⟨e4.symm, e5⟩⟩ ?_
    · exact this.1.symm
    · rintro i a ⟨s1, s2, s3⟩ - hi ⟨rfl, h2⟩
      obtain ⟨rfl, rfl⟩ := h2 (by omega)
      refine ⟨rfl, fun hlt => ?_⟩
      have : i ≠ t' := by omega
      simp only [roS, this, if_false]
      rw [show 5 * p + (i + 1) = 5 * p + 1 + i by omega]
      exact ⟨(e6 i (by omega)).1, (e6 i (by omega)).2⟩
theorem C_tiers (c : CV S ad b v np nf no mo) {p : Nat} (hp : p < np) : ∃ t, t ≤ 4 ∧ v (14 + 11 * p + 2) = lN t := by
  obtain ⟨t, ht, -, e, -⟩ := c.T.2.2.2.2.2.2.2.2 p hp
  exact ⟨t, ht, e⟩
theorem big_cases {α : Type} (s : Int64) (x y : α) : (if s < 0 then x else if 1000000000 < s then x else y) = if (decide ((0 : Int64) ≤ s) && decide (s ≤ 1000000000)) then y else x := by
  by_cases h1 : s < 0
  · simp [h1, Int64.not_le.mpr h1]
  · by_cases h2 : 1000000000 < s
    · simp [h1, h2, Int64.not_le.mpr h2]
    · simp [h1, h2, Int64.not_lt.mp h1, Int64.not_lt.mp h2]
theorem Q_royalty (c : CV S ad b v np nf no mo) (p : Int32) (s : Int64) : QA ad v np nf no mo (f_X11_royalty S (ad 0) p s) (fun S' => f_X12_royalty S' (ad 1) p s) := by
  have hp4 := c.hp
  cases hB : vin p np
  · refine Or.inr (Or.inl ⟨by simp [f_X11_royalty, C_reqP c, hB, clx_r], fun S' h => ⟨0, ?_⟩⟩)
    simp [f_X12_royalty, lt_e, M_isPl (Mv_t h (ad 1) 2 0), cl_s, jn_e, if_bI, hB, M_throws1, uI_uI]
  · cases hC : (decide ((0 : Int64) ≤ s) && decide (s ≤ 1000000000))
    · refine Or.inr (Or.inr ⟨by simp only [f_X11_royalty, C_reqP c, hB, if_true, clx_l, jn_e, big_cases, hC, C_reqA0, clx_r]; rfl, fun S' h => ⟨0, ?_⟩⟩)
      simp only [f_X12_royalty, lt_e, M_isPl (Mv_t h (ad 1) 2 0), M_inRange, cl_s, jn_e, if_bI, hB, hC, M_throws0, M_throws1, uI_uI]
      rfl
    · obtain ⟨f, hf, rfl⟩ := vin_of (by omega) hB
      obtain ⟨t, ht, e⟩ := C_tiers c hf
      refine Or.inl ⟨roy v f t s, ?_, fun S' h => ?_⟩
      · simp only [f_X11_royalty, C_reqP c, hB, if_true, clx_l, jn_e, big_cases, hC, C_reqA1, lt_e, c.r, r_b0_0 c.t c.hb, C_royaltyFor c hf ht e, cl_s]
      · have h1 := Mv_t h (ad 1) 2 0
        simp only [f_X12_royalty, lt_e, M_isPl h1, M_inRange, cl_s, jn_e, if_bI, hB, hC, M_throws0, if_true, M_royaltyOf h1 (show f < 4 by omega) ht e]
/-! sales of a franchisee's outlets -/
def sls (v : Nat → Int64) (no : Nat) (p : Int32) (q : Int32) : Int64 := itr (fun o s => if v (186 + 4 * o + 0) = p.toInt64 then s + (v (186 + 4 * o + 3) * q.toInt64) / 100 else s) 0 no 0
theorem M_salesNow (h : Mv S ad v np nf no mo) (p q : Int32) : f_X12_salesNow S (ad 1) p q = some (sls v no p q) := by
  have ho := h.2.2.2.2.2.2.2.2.1
  simp only [f_X12_salesNow, lt_e, jn_e, r_1_0 h.1, ld_3 h]
  refine lp_for0 (fun (k : Int64 → Int32 → Option Int64) i s => k s (nI i)) _ _ no (by omega) _ some (fun _ _ => True) 0 trivial ?_ (fun _ _ _ _ => trivial) ?_
  · intro k i s hi _
    have h1 : ¬ v 3 ≤ Int32.toInt64 (nI i) := by rw [cM_o h (by omega)]; omega
    simp only [h1, if_false, M_oo0 h (show i < 16 by omega), M_oo3 h (show i < 16 by omega), cl_s, nI_1]
    by_cases hc : v (186 + 4 * i + 0) = p.toInt64 <;> simp only [hc, if_true, if_false]
  · intro k s _
    have h1 : v 3 ≤ Int32.toInt64 (nI no) := by rw [cM_o h (by omega)]; omega
    simp only [h1, if_true]
theorem C_scaled (c : CV S ad b v np nf no mo) (p q : Int32) : f_X6_scaledSales S (ad (b + 3)) p q = some (sls v no p q) := by
  have ho := c.ho
  simp only [f_X6_scaledSales, lt_e, jn_e, r_b3_0 c.t c.hb, r_b3_3 c.t c.hb, c.O.1]
  refine lp_for0 (fun (k : Int64 → Int32 → Option Int64) i s => k s (nI i)) _ _ no (by omega) _ some (fun _ _ => True) 0 trivial ?_ (fun _ _ _ _ => trivial) ?_
  · intro k i s hi _
    have h1 : ¬ nI no ≤ nI i := by rw [nI_leI (by omega) (by omega)]; omega
    obtain ⟨e0, -, -, e3⟩ := c.O.2 i hi
    simp only [h1, if_false, lb15 c.t c.hb (show i < 16 by omega), lb18 c.t c.hb (show i < 16 by omega), nI_1, e0, e3, tl_eq]
    by_cases hc : gI S (ad (b + 15)) i = p <;> simp only [hc, if_true, if_false]
  · intro k s _
    have h1 : nI no ≤ nI no := by rw [nI_leI (by omega) (by omega)]; omega
    simp only [h1, if_true]
theorem C_together (c : CV S ad b v np nf no mo) (p : Int32) : f_X6_salesTogether S (ad (b + 3)) p = some (sls v no p 100) := by
  simp only [f_X6_salesTogether, C_scaled c, cl_s]
