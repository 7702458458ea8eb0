/-! the pure part: rivals, the best site -/
variable {S S' : St} {ad : Nat → Nat} {b d j k : Nat} {v : Nat → Int64} {np nf no mo : Nat}
theorem nmo_lt {n : Nat} (h : n < 59) : nmo n = nI n := by rw [nmo, if_neg (by omega)]
theorem nmo_k : nmo 1000 = -1 := rfl
theorem nI_m1 {n : Nat} (h : n < 2 ^ 31) : ¬ nI n = -1 := by
  intro e
  have : (nI n).toInt = (-1 : Int32).toInt := by rw [e]
  rw [nI_toInt h, show (-1 : Int32).toInt = -1 from rfl] at this
  omega
def riv (v : Nat → Int64) (no : Nat) (p r : Int32) : Int32 := itr (fun q s => if v (250 + q) = p.toInt64 then (if nr v no p (q % 30) (q / 30) ≤ nr v no r (q % 30) (q / 30) then s else s + 1) else s) 0 900 0
theorem C_rival (c : CV S ad b v np nf no mo) (p r : Int32) : f_X1_cellsNearerTo S (ad b) p r = some (riv v no p r) := by
  have e := itr_nest (fun q s => if v (250 + q) = p.toInt64 then (if nr v no p (q % 30) (q / 30) ≤ nr v no r (q % 30) (q / 30) then s else s + 1) else s) 30 30 (0 : Int32)
  rw [riv, show (900 : Nat) = 30 * 30 from rfl, ← e]
  simp only [f_X1_cellsNearerTo, lt_n, jn_n, r_b0_1 c.t c.hb, r_b0_2 c.t c.hb]
  refine lp_for0 (fun (k : Int32 → Int32 → Option Int32) i s => k s (nI i)) _ _ 30 (by decide) _ some (fun _ _ => True) 0 trivial ?_ (fun _ _ _ _ => trivial) ?_
  · intro k y s hy _
    rw [if_neg (ge30 hy)]
    refine lp_for0 (fun (k : Int32 → Int32 → Option Int32) i s => k s (nI i)) _ _ 30 (by decide) _ (fun s => k s (nI (y + 1))) (fun _ _ => True) s trivial ?_ (fun _ _ _ _ => trivial) ?_
    · intro k' x s hx _
      rw [if_neg (ge30 hx)]
      have n1 := nr_58 c.w p hx hy
      have n2 := nr_58 c.w r hx hy
      have e2 : (nI (nr v no p x y) ≤ nI (nr v no r x y)) = (nr v no p x y ≤ nr v no r x y) := by rw [nI_leI (by omega) (by omega)]
      simp only [C_ownerAt c.t c.hb hx hy, C_near c p hx hy, C_near c r hx hy, cl_s, c.G (30 * y + x) (by omega), tl_eq, nI_1, show (30 * y + x) % 30 = x by omega, show (30 * y + x) / 30 = y by omega, e2]
      by_cases hc : gI S (ad (b + 12)) (30 * y + x) = p
      · by_cases hd : nr v no p x y ≤ nr v no r x y <;> simp only [hc, hd, if_true, if_false]
      · simp only [hc, if_false]
    · intro k' s _
      rw [if_pos le30, nI_1]
  · intro k s _
    rw [if_pos le30]
theorem Q_rivalCells (c : CV S ad b v np nf no mo) (p r : Int32) : QA ad v np nf no mo (f_X11_rivalCells S (ad 0) p r) (fun S' => f_X12_rivalCells S' (ad 1) p r) := by
  cases hB : vin p nf
  · refine Or.inr (Or.inl ⟨by simp [f_X11_rivalCells, C_reqF c, hB, clx_r], fun S' h => ⟨0, ?_⟩⟩)
    simp [f_X12_rivalCells, lt_e, M_isFr (Mv_t h (ad 1) 2 0), cl_s, jn_n, if_bI, hB, M_throws1, uI_uI]
  · cases hC : vin r nf
    · refine Or.inr (Or.inl ⟨by simp [f_X11_rivalCells, C_reqF c, hB, hC, clx_l, clx_r], fun S' h => ⟨0, ?_⟩⟩)
      simp [f_X12_rivalCells, lt_e, M_isFr (Mv_t h (ad 1) 2 0), cl_s, jn_n, if_bI, hB, hC, M_throws1, uI_uI]
    · by_cases hpr : p = r
      · refine Or.inr (Or.inr ⟨by simp [f_X11_rivalCells, C_reqF c, hB, hC, clx_l, jn_e, hpr, C_reqA0, clx_r], fun S' h => ⟨0, ?_⟩⟩)
        simp [f_X12_rivalCells, lt_e, M_isFr (Mv_t h (ad 1) 2 0), cl_s, jn_n, if_bI, hB, hC, hpr, M_throws0, M_throws1, uI_uI]
      · refine Or.inl ⟨riv v no p r, ?_, fun S' h => ?_⟩
        · simp only [f_X11_rivalCells, C_reqF c, hB, hC, if_true, clx_l, jn_e, hpr, if_false, C_reqA1, lt_e, c.r, C_rival c, cl_s]
        · have h1 := Mv_t h (ad 1) 2 0
          simp only [f_X12_rivalCells, lt_n, M_isFr h1, cl_n, jn_n, if_bI, hB, hC, M_throws0, if_true, hpr, if_false, r_1_0 h1.1]
          refine lp_for0 (fun (k : Int32 → Int32 → Option (Int32 × St)) i s => k s (nI i)) _ _ 900 (by decide) _ (fun s => some (s, uI S' (ad 1) 2 0)) (fun _ _ => True) 0 trivial ?_ (fun _ _ _ _ => trivial) ?_
          · intro k i s hi _
            rw [if_neg (ge900 hi), ldSe h1 (ad250 i) (by omega), M_near h1 c.w p hi, M_near h1 c.w r hi]
            by_cases hc : v (250 + i) = p.toInt64
            · simp only [hc, if_true, cl_s, nI_1]
              have n1 := nr_58 c.w p (show i % 30 < 30 by omega) (show i / 30 < 30 by omega)
              have n2 := nr_58 c.w r (show i % 30 < 30 by omega) (show i / 30 < 30 by omega)
              generalize nr v no p (i % 30) (i / 30) = A at n1 ⊢
              generalize nr v no r (i % 30) (i / 30) = B at n2 ⊢
              rcases n2 with n2 | n2
              · rw [nmo_lt n2, if_neg (nI_m1 (by omega))]
                rcases n1 with n1 | n1
                · rw [nmo_lt n1, if_neg (nI_m1 (by omega))]
                  simp only [nI_leI (show A < 2 ^ 31 by omega) (show B < 2 ^ 31 by omega)]
                  by_cases hx : A ≤ B <;> simp only [hx, if_true, if_false, Int32.add_zero]
                · subst n1
                  have : ¬ 1000 ≤ B := by omega
                  simp only [nmo_k, if_true, this, if_false]
              · subst n2
                have : A ≤ 1000 := by omega
                simp only [nmo_k, if_true, this, Int32.add_zero]
            · simp only [hc, if_false, nI_1]
          · intro k s _
            rw [if_pos le900]
def nra (v : Nat → Int64) (no q : Nat) : Nat := nr v no (-1) (q % 30) (q / 30)
theorem nr_uni (w : WF v np nf no mo) {x y x' y' : Nat} (hx : x < 30) (hy : y < 30) (hx' : x' < 30) (hy' : y' < 30) : (nr v no (-1) x y < 59 ∧ nr v no (-1) x' y' < 59) ∨ (nr v no (-1) x y = 1000 ∧ nr v no (-1) x' y' = 1000) := by
  have := itr_R (f := nrS v (-1) x y) (g := nrS v (-1) x' y') (fun _ s t => (s < 59 ∧ t < 59) ∨ (s = 1000 ∧ t = 1000)) no 0 1000 1000 (Or.inr ⟨rfl, rfl⟩) ?_
  · exact this
  · intro i s t _ hi hr
    obtain ⟨b1, b2, -, -⟩ := oxy w (show i < no by omega)
    have d1 := dst_lt hx hy b1 b2
    have d2 := dst_lt hx' hy' b1 b2
    unfold nrS
    cases oc v (-1) i
    · exact hr
    · simp only [if_true]
      generalize dst x y (ox v i) (oy v i) = D at d1 ⊢
      generalize dst x' y' (ox v i) (oy v i) = E at d2 ⊢
      by_cases hs : D < s <;> by_cases ht : E < t <;> simp only [hs, ht, if_true, if_false] <;> omega
def bsS (v : Nat → Int64) (no : Nat) (p : Int32) (q s : Nat) : Nat := if v (250 + q) = p.toInt64 then (if nra v no q = 0 then s else if s = 900 then q else if nra v no q ≤ nra v no s then s else q) else s
def bs (v : Nat → Int64) (no : Nat) (p : Int32) : Nat := itr (bsS v no p) 0 900 900
def bsc (s : Nat) : Int32 := if s = 900 then -1 else nI (100 * (s / 30) + s % 30)
def bsg (v : Nat → Int64) (no s : Nat) : Int32 := if s = 900 then 0 else nI (nra v no s)
theorem bsS_le {p : Int32} {q s : Nat} (hq : q < 900) (hs : s ≤ 900) : bsS v no p q s ≤ 900 := by
  unfold bsS
  by_cases h1 : v (250 + q) = p.toInt64
  · by_cases h2 : nra v no q = 0
    · simp only [h1, h2, if_true]; exact hs
    · by_cases h3 : s = 900
      · simp only [h1, h2, h3, if_true, if_false]; omega
      · by_cases h4 : nra v no q ≤ nra v no s
        · simp only [h1, h2, h3, h4, if_true, if_false]; exact hs
        · simp only [h1, h2, h3, h4, if_true, if_false]; omega
  · simp only [h1, if_false]; exact hs
theorem C_far (c : CV S ad b v np nf no mo) (p : Int32) : f_X1_farthestCell S (ad b) p = some (bsc (bs v no p)) := by
  have e := itr_nest (bsS v no p) 30 30 900
  rw [bs, show itr (bsS v no p) 0 900 900 = itr (bsS v no p) 0 (30 * 30) 900 from rfl, ← e]
  simp only [f_X1_farthestCell, f_X11_cellCode, lt_n, jn_n, cl_n, r_b0_1 c.t c.hb, r_b0_2 c.t c.hb]
  refine lp_for0 (fun (k : Int32 → Int32 → Int32 → Option Int32) i (s : Nat) => k (bsc s) (bsg v no s) (nI i)) _ _ 30 (by decide) _ (fun s => some (bsc s)) (fun _ s => s ≤ 900) 900 (by decide) ?_ ?_ ?_
  · intro k y s hy hs
    rw [if_neg (ge30 hy)]
    refine lp_for0 (fun (k : Int32 → Int32 → Int32 → Option Int32) i (s : Nat) => k (bsc s) (bsg v no s) (nI i)) _ _ 30 (by decide) _ (fun s => k (bsc s) (bsg v no s) (nI (y + 1))) (fun _ s => s ≤ 900) s hs ?_ ?_ ?_
    · intro k' x s hx hs
      rw [if_neg (ge30 hx)]
      have n1 := nr_58 c.w (-1) hx hy
      have ea : nra v no (30 * y + x) = nr v no (-1) x y := by rw [nra]; congr 1 <;> omega
      have ec : bsc (30 * y + x) = 100 * nI y + nI x := by
        rw [bsc, if_neg (by omega), mu100, nI_add]; congr 2 <;> omega
      have eg : bsg v no (30 * y + x) = nI (nr v no (-1) x y) := by rw [bsg, if_neg (by omega), ea]
      simp only [C_ownerAt c.t c.hb hx hy, C_near c (-1) hx hy, cl_s, c.G (30 * y + x) (by omega), tl_eq, nI_1, bsS, ea]
      by_cases hc : gI S (ad (b + 12)) (30 * y + x) = p
      · simp only [hc, if_true]
        by_cases h0 : nr v no (-1) x y = 0
        · have : nI 0 ≤ bsg v no s := by
            rw [bsg]
            by_cases h9 : s = 900
            · simp [h9, nI_0]
            · have n2 := nr_58 c.w (-1) (show s % 30 < 30 by omega) (show s / 30 < 30 by omega)
              simp only [h9, if_false, nra]
              rw [nI_leI (by omega) (by omega)]; omega
          simp only [h0, if_true, this]
        · by_cases h9 : s = 900
          · have : ¬ nI (nr v no (-1) x y) ≤ bsg v no 900 := by
              rw [bsg, if_pos rfl, ← nI_0, nI_leI (by omega) (by omega)]; omega
            simp only [h0, h9, if_true, if_false, this, ec, eg]
          · have n2 := nr_58 c.w (-1) (show s % 30 < 30 by omega) (show s / 30 < 30 by omega)
            have : (nI (nr v no (-1) x y) ≤ bsg v no s) = (nr v no (-1) x y ≤ nra v no s) := by
              rw [bsg, if_neg h9, nra, nI_leI (by omega) (by omega)]
            simp only [h0, h9, if_false, this]
            by_cases hl : nr v no (-1) x y ≤ nra v no s
            · simp only [hl, if_true]
            · simp only [hl, if_false, ec, eg]
      · have : (0 : Int32) ≤ bsg v no s := by
          rw [bsg]
          by_cases h9 : s = 900
          · simp [h9]
          · have n2 := nr_58 c.w (-1) (show s % 30 < 30 by omega) (show s / 30 < 30 by omega)
            simp only [h9, if_false, nra]
            exact nI_pos' (by omega)
        simp only [hc, if_false, this, if_true]
    · intro i s hi hs
      exact bsS_le (by omega) hs
    · intro k' s _
      rw [if_pos le30, nI_1]
  · intro y s hy hs
    exact itr_inv (N := 30) (f := fun x s => bsS v no p (30 * y + x) s) (fun _ s => s ≤ 900) (fun i s hi hs => bsS_le (by omega) hs) 30 0 s (by omega) hs
  · intro k s _
    rw [if_pos le30]
def bsm (s : Nat) : Int32 := if s = 900 then -1 else nI s
theorem Q_bestSite (c : CV S ad b v np nf no mo) (p : Int32) : QB ad v np nf no mo 1 (f_X11_bestSite S (ad 0) p) (fun S' => f_X12_bestSite S' (ad 1) p) := by
  cases hB : vin p nf
  · refine Or.inr ⟨by simp [f_X11_bestSite, C_reqF c, hB, clx_r], fun S' h => ⟨0, ?_⟩⟩
    simp [f_X12_bestSite, lt_e, M_isFr (Mv_t h (ad 1) 2 0), cl_s, jn_n, if_bI, hB, M_throws1, uI_uI]
  · refine Or.inl ⟨bsc (bs v no p), ?_, fun S' h => ?_⟩
    · simp only [f_X11_bestSite, C_reqF c, hB, if_true, clx_l, lt_e, c.r, C_far c, cl_s]
    · have h1 := Mv_t h (ad 1) 2 0
      simp only [f_X12_bestSite, lt_n, M_isFr h1, cl_n, jn_n, if_bI, hB, M_throws0, if_true, r_1_0 h1.1]
      refine lp_for0 (fun (k : Int32 → Int32 → Option (Int32 × St)) i (s : Nat) => k (bsm s) (nI i)) _ _ 900 (by decide) (bsS v no p) (fun s => some (bsc s, uI S' (ad 1) 2 0)) (fun _ s => s ≤ 900) 900 (by decide) ?_ ?_ ?_
      · intro k i s hi hs
        rw [if_neg (ge900 hi), ldSe h1 (ad250 i) (by omega), M_hasOut h1 c.w hi, M_near h1 c.w (-1) hi]
        have ei : bsm i = nI i := by rw [bsm, if_neg (by omega)]
        by_cases hc : v (250 + i) = p.toInt64
        · simp only [hc, if_true, cl_s, nI_1, bsS, if_bI]
          rw [show nr v no (-1) (i % 30) (i / 30) = nra v no i from rfl]
          by_cases h0 : nra v no i = 0
          · simp only [h0, decide_true, if_true]
          · simp only [h0, decide_false, Bool.false_eq_true, if_false]
            by_cases h9 : s = 900
            · subst h9
              simp only [bsm, if_true]
              rw [if_neg (by omega)]
            · have e1 : bsm s = nI s := by rw [bsm, if_neg h9]
              rw [e1, if_neg (nI_m1 (by omega)), M_near h1 c.w (-1) (show s < 900 by omega)]
              simp only [cl_s, h9, if_false]
              rw [show nr v no (-1) (s % 30) (s / 30) = nra v no s from rfl]
              have hn := nr_uni c.w (show i % 30 < 30 by omega) (show i / 30 < 30 by omega) (show s % 30 < 30 by omega) (show s / 30 < 30 by omega)
              change (nra v no i < 59 ∧ nra v no s < 59) ∨ (nra v no i = 1000 ∧ nra v no s = 1000) at hn
              rcases hn with ⟨n1, n2⟩ | ⟨n1, n2⟩
              · rw [nmo_lt n1, nmo_lt n2]
                simp only [nI_leI (show nra v no i < 2 ^ 31 by omega) (show nra v no s < 2 ^ 31 by omega)]
                by_cases hl : nra v no i ≤ nra v no s
                · simp only [hl, if_true, e1]
                · simp only [hl, if_false, ei]
              · simp only [n1, n2, Nat.le_refl, Int32.le_refl, if_true, e1]
        · simp only [hc, if_false, nI_1, bsS]
      · intro i s hi hs
        exact bsS_le hi hs
      · intro k s hs
        rw [if_pos le900]
        by_cases h9 : s = 900
        · simp [h9, bsm, bsc]
        · simp only [bsm, bsc, h9, if_false]
          rw [if_neg (nI_m1 (by omega)), dv30 (by omega), ← dv30 (by omega), rm30 (by omega), dv30 (by omega), mu100, nI_add]
