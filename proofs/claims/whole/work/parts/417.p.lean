/-! the pure part: outlets near a cell -/
variable {S S' : St} {ad : Nat → Nat} {b d j k : Nat} {v : Nat → Int64} {np nf no mo : Nat}
def ox (v : Nat → Int64) (o : Nat) : Nat := (v (186 + 4 * o + 1)).toInt.toNat
def oy (v : Nat → Int64) (o : Nat) : Nat := (v (186 + 4 * o + 2)).toInt.toNat
theorem oxy (w : WF v np nf no mo) {o : Nat} (ho : o < no) : ox v o < 30 ∧ oy v o < 30 ∧ v (186 + 4 * o + 1) = lN (ox v o) ∧ v (186 + 4 * o + 2) = lN (oy v o) := by
  obtain ⟨⟨x, y, hx, hy, e1, e2, -⟩, -⟩ := w.2.2.2.1 o ho
  simp only [ox, oy, e1, e2, lN_toInt (show x < 2 ^ 31 by omega), lN_toInt (show y < 2 ^ 31 by omega), Int.toNat_natCast]
  exact ⟨hx, hy, trivial, trivial⟩
theorem C_oxy (c : CV S ad b v np nf no mo) {o : Nat} (ho : o < no) : gI S (ad (b + 16)) o = nI (ox v o) ∧ gI S (ad (b + 17)) o = nI (oy v o) := by
  obtain ⟨h1, h2, e1, e2⟩ := oxy c.w ho
  obtain ⟨-, f1, f2, -⟩ := c.O.2 o ho
  rw [e1, ← nI_l (by omega), tl_eq] at f1
  rw [e2, ← nI_l (by omega), tl_eq] at f2
  exact ⟨f1.symm, f2.symm⟩
def oc (v : Nat → Int64) (p : Int32) (o : Nat) : Bool := !decide (v (186 + 4 * o + 0) = -1) && (decide (p = -1) || decide (v (186 + 4 * o + 0) = p.toInt64))
def nrS (v : Nat → Int64) (p : Int32) (x y o n : Nat) : Nat := if oc v p o then (if dst x y (ox v o) (oy v o) < n then dst x y (ox v o) (oy v o) else n) else n
def nr (v : Nat → Int64) (no : Nat) (p : Int32) (x y : Nat) : Nat := itr (nrS v p x y) 0 no 1000
theorem nrS_le {p : Int32} {x y o n : Nat} (h : n ≤ 1000) : nrS v p x y o n ≤ 1000 := by
  unfold nrS
  cases oc v p o
  · exact h
  · by_cases hd : dst x y (ox v o) (oy v o) < n
    · simp only [if_true, hd]; omega
    · simp only [if_true, hd, if_false]; exact h
theorem C_near (c : CV S ad b v np nf no mo) (p : Int32) {x y : Nat} (hx : x < 30) (hy : y < 30) : f_X6_nearest S (ad (b + 3)) p (nI x) (nI y) = some (nI (nr v no p x y)) := by
  have ho := c.ho
  simp only [f_X6_nearest, lt_n, jn_n, r_b3_0 c.t c.hb, r_b3_1 c.t c.hb, r_b3_2 c.t c.hb, c.O.1]
  refine lp_for0 (fun (k : Int32 → Int32 → Option Int32) i (s : Nat) => k (nI s) (nI i)) _ _ no (by omega) (nrS v p x y) (fun s => some (nI s)) (fun _ s => s ≤ 1000) 1000 (by decide) ?_ ?_ ?_
  · intro k i s hi hs
    have h1 : ¬ nI no ≤ nI i := by rw [nI_leI (by omega) (by omega)]; omega
    have hi16 : i < 16 := by omega
    obtain ⟨e0, -, -, -⟩ := c.O.2 i hi
    obtain ⟨e1, e2⟩ := C_oxy c hi
    obtain ⟨b1, b2, -, -⟩ := oxy c.w hi
    simp only [h1, if_false, lb15 c.t c.hb hi16, lb16 c.t c.hb hi16, lb17 c.t c.hb hi16, e1, e2, C_steps hx hy b1 b2, cl_s, nrS, oc, e0, nI_1]
    rw [show (-1 : Int64) = (-1 : Int32).toInt64 from rfl]
    have := dst_lt hx hy b1 b2
    have e : (nI (dst x y (ox v i) (oy v i)) < nI s) = (dst x y (ox v i) (oy v i) < s) := by rw [nI_ltI (by omega) (by omega)]
    simp only [e, tl_eq]
    by_cases ha : gI S (ad (b + 15)) i = -1
    · simp [ha]
    · by_cases hb : p = -1
      · by_cases hd : dst x y (ox v i) (oy v i) < s <;> simp [ha, hb, hd]
      · by_cases hc : gI S (ad (b + 15)) i = p
        · by_cases hd : dst x y (ox v i) (oy v i) < s <;> simp [hc, hb, hd]
        · simp [ha, hb, hc]
  · intro i s hi hs
    exact nrS_le hs
  · intro k s _
    have h1 : nI no ≤ nI no := by rw [nI_leI (by omega) (by omega)]; omega
    simp only [h1, if_true]
theorem M_isOpenO (h : Mv S ad v np nf no mo) {o : Nat} (ho : o < 16) : f_X12_isOpen S (ad 1) (nI o) = some (bI (!decide (v (186 + 4 * o + 0) = -1))) := by
  simp only [f_X12_isOpen, M_oo0 h ho, cl_s, bI_ifn]
theorem M_cellOf (h : Mv S ad v np nf no mo) (w : WF v np nf no mo) {o : Nat} (ho : o < no) : f_X12_cellOf S (ad 1) (nI o) = some (nI (30 * oy v o + ox v o)) := by
  have h16 := h.2.2.2.2.2.2.2.2.1
  obtain ⟨b1, b2, e1, e2⟩ := oxy w ho
  simp only [f_X12_cellOf, M_oo1 h (show o < 16 by omega), M_oo2 h (show o < 16 by omega), cl_s]
  rw [e1, e2, show (30 : Int64) = lN 30 from rfl, lN_mul, lN_add, lN_i]
theorem M_near (h : Mv S ad v np nf no mo) (w : WF v np nf no mo) (p : Int32) {q : Nat} (hq : q < 900) : f_X12_nearestOutlet S (ad 1) (nI q) p = some (nmo (nr v no p (q % 30) (q / 30))) := by
  have ho := h.2.2.2.2.2.2.2.2.1
  simp only [f_X12_nearestOutlet, lt_n, jn_n, r_1_0 h.1, ld_3 h]
  rw [rm30 (by omega), dv30 (by omega)]
  refine lp_for0 (fun (k : Int32 → Int32 → Option Int32) i (s : Nat) => k (nmo s) (nI i)) _ _ no (by omega) (nrS v p (q % 30) (q / 30)) (fun s => some (nmo s)) (fun _ s => s ≤ 1000) 1000 (by decide) ?_ ?_ ?_
  · intro k i s hi hs
    have h1 : ¬ v 3 ≤ Int32.toInt64 (nI i) := by rw [cM_o h (by omega)]; omega
    have hi16 : i < 16 := by omega
    obtain ⟨b1, b2, -, -⟩ := oxy w hi
    simp only [h1, if_false, M_isOpenO h hi16, M_cellOf h w hi, M_oo0 h hi16, cl_s, if_bI, nI_1, M_apart (show q % 30 < 30 by omega) (show q / 30 < 30 by omega) (show 30 * oy v i + ox v i < 900 by omega), show (30 * oy v i + ox v i) % 30 = ox v i by omega, show (30 * oy v i + ox v i) / 30 = oy v i by omega, nrS, oc]
    have hd := dst_lt (show q % 30 < 30 by omega) (show q / 30 < 30 by omega) b1 b2
    generalize dst (q % 30) (q / 30) (ox v i) (oy v i) = D at hd ⊢
    have key : (if nmo s = -1 then k (nI D) (nI (i + 1)) else if nmo s ≤ nI D then k (nmo s) (nI (i + 1)) else k (nI D) (nI (i + 1))) = k (nmo (if D < s then D else s)) (nI (i + 1)) := by
      by_cases h0 : s = 1000
      · have e1 : D < 1000 := by omega
        have e2 : D ≠ 1000 := by omega
        simp only [nmo, h0, if_true, e1, e2, if_false]
      · have e1 : ¬ nI s = -1 := by
          intro e
          have : (nI s).toInt = (-1 : Int32).toInt := by rw [e]
          rw [nI_toInt (by omega), show (-1 : Int32).toInt = -1 from rfl] at this
          omega
        have e2 : (nI s ≤ nI D) = ¬ (D < s) := by rw [nI_leI (by omega) (by omega)]; exact propext (by omega)
        simp only [nmo, h0, if_false, e1, e2]
        by_cases h3 : D < s
        · have e3 : D ≠ 1000 := by omega
          simp only [h3, not_true, if_true, if_false, e3]
        · simp only [h3, not_false_iff, if_true, if_false, h0]
    by_cases ha : v (186 + 4 * i + 0) = -1
    · simp only [ha, decide_true, Bool.not_true, Bool.false_and, Bool.false_eq_true, if_false]
    · by_cases hb : p = -1
      · simp only [ha, hb, decide_true, decide_false, Bool.not_false, Bool.true_or, Bool.true_and, if_true, key]
      · by_cases hc : v (186 + 4 * i + 0) = p.toInt64
        · simp only [ha, hb, hc, decide_true, decide_false, Bool.not_false, Bool.or_true, Bool.true_and, if_true, if_false, key]
          rw [← hc]
          simp only [ha, decide_false, Bool.not_false, Bool.and_true, if_true, key]
        · simp only [ha, hb, hc, decide_false, Bool.not_false, Bool.or_self, Bool.and_false, Bool.false_eq_true, if_true, if_false]
  · intro i s hi hs
    exact nrS_le hs
  · intro k s _
    have h1 : v 3 ≤ Int32.toInt64 (nI no) := by rw [cM_o h (by omega)]; omega
    simp only [h1, if_true]
def hO (v : Nat → Int64) (q : Nat) : Nat → Nat → Bool
  | 0, _ => false
  | n + 1, m => (!decide (v (186 + 4 * m + 0) = -1) && decide (30 * oy v m + ox v m = q)) || hO v q n (m + 1)
theorem M_hasOut' (h : Mv S ad v np nf no mo) (w : WF v np nf no mo) {q : Nat} (hq : q < 900) : f_X12_hasOutlet S (ad 1) (nI q) = some (bI (hO v q no 0)) := by
  have ho := h.2.2.2.2.2.2.2.2.1
  simp only [f_X12_hasOutlet, lt_n, jn_n, r_1_0 h.1, ld_3 h]
  refine lp_rec (fun (k : Int32 → Option Int32) i (_ : Unit) => k (nI i)) _ _ no (fun n m _ => some (bI (hO v q n m))) ?_ ?_ no FU 0 () (by omega) (show no < 6000 by omega)
  · intro k _
    have h1 : v 3 ≤ Int32.toInt64 (nI no) := by rw [cM_o h (by omega)]; omega
    simp only [h1, if_true]; rfl
  · intro k m n _ hm hk
    have h1 : ¬ v 3 ≤ Int32.toInt64 (nI m) := by rw [cM_o h (by omega)]; omega
    obtain ⟨b1, b2, -, -⟩ := oxy w (show m < no by omega)
    have hk := hk ()
    have e : (nI (30 * oy v m + ox v m) = nI q) = (30 * oy v m + ox v m = q) := by rw [nI_eq (by omega) (by omega)]
    simp only [h1, if_false, M_isOpenO h (show m < 16 by omega), M_cellOf h w (show m < no by omega), cl_s, if_bI, nI_1, hO, e] at hk ⊢
    rw [hk]
    by_cases ha : v (186 + 4 * m + 0) = -1
    · simp [ha, -Nat.add_zero]
    · by_cases hc : 30 * oy v m + ox v m = q
      · simp [ha, hc, bI, -Nat.add_zero]
      · simp [ha, hc, -Nat.add_zero]
theorem hO_nr (w : WF v np nf no mo) {q : Nat} (hq : q < 900) : ∀ (n m s : Nat), m + n ≤ no → (itr (nrS v (-1) (q % 30) (q / 30)) m n s = 0 ↔ s = 0 ∨ hO v q n m = true) := by
  intro n
  induction n with
  | zero => intro m s _; simp [itr, hO]
  | succ n ih =>
    intro m s hm
    obtain ⟨b1, b2, -, -⟩ := oxy w (show m < no by omega)
    have hd0 : dst (q % 30) (q / 30) (ox v m) (oy v m) = 0 ↔ 30 * oy v m + ox v m = q := by unfold dst; omega
    show itr _ (m + 1) n (nrS _ _ _ _ m s) = 0 ↔ _
    rw [ih (m + 1) _ (by omega)]
    simp only [hO, Bool.or_eq_true, Bool.and_eq_true, Bool.not_eq_true', decide_eq_false_iff_not, decide_eq_true_eq, nrS, oc, decide_true, Bool.true_or, Bool.and_true]
    by_cases ha : v (186 + 4 * m + 0) = -1
    · simp [ha, -Nat.add_zero]
    · simp only [ha, decide_false, Bool.not_false, if_true, not_false_iff, true_and, ← hd0]
      generalize dst (q % 30) (q / 30) (ox v m) (oy v m) = D
      by_cases hc : D < s
      · simp only [hc, if_true]
        by_cases hs : hO v q n (m + 1) = true
        · simp [hs]
        · simp only [hs, Bool.false_eq_true, or_false]; omega
      · simp only [hc, if_false]
        by_cases hs : hO v q n (m + 1) = true
        · simp [hs]
        · simp only [hs, Bool.false_eq_true, or_false]; omega
theorem M_hasOut (h : Mv S ad v np nf no mo) (w : WF v np nf no mo) {q : Nat} (hq : q < 900) : f_X12_hasOutlet S (ad 1) (nI q) = some (bI (decide (nr v no (-1) (q % 30) (q / 30) = 0))) := by
  rw [M_hasOut' h w hq]
  have := hO_nr w hq no 0 1000 (by omega)
  congr 2
  rw [Bool.eq_iff_iff, decide_eq_true_eq, nr, this]
  simp
/-! loops over rows and columns -/
theorem itr_sh {σ : Type} (f : Nat → σ → σ) (a : Nat) : ∀ (n i : Nat) (s : σ), itr (fun x s => f (a + x) s) i n s = itr f (a + i) n s := by
  intro n
  induction n with
  | zero => intro i s; rfl
  | succ n ih => intro i s; exact ih (i + 1) _
theorem itr_nest {σ : Type} (f : Nat → σ → σ) (W : Nat) : ∀ (n : Nat) (s : σ), itr (fun y s => itr (fun x s => f (W * y + x) s) 0 W s) 0 n s = itr f 0 (W * n) s := by
  intro n
  induction n with
  | zero => intro s; rfl
  | succ n ih =>
    intro s
    rw [itr_succ, Nat.mul_succ, itr_add, ih, itr_sh, Nat.add_zero]
    simp only [Nat.zero_add]
def cov (v : Nat → Int64) (no : Nat) (p r : Int32) : Int32 := itr (fun q s => if v (250 + q) = p.toInt64 then (if r < nI (nr v no p (q % 30) (q / 30)) then s else s + 1) else s) 0 900 0
theorem C_cells (c : CV S ad b v np nf no mo) (p r : Int32) : f_X1_cellsWithin S (ad b) p r = some (cov v no p r) := by
  have e := itr_nest (fun q s => if v (250 + q) = p.toInt64 then (if r < nI (nr v no p (q % 30) (q / 30)) then s else s + 1) else s) 30 30 (0 : Int32)
  rw [cov, show (900 : Nat) = 30 * 30 from rfl, ← e]
  simp only [f_X1_cellsWithin, lt_n, jn_n, r_b0_1 c.t c.hb, r_b0_2 c.t c.hb]
  refine lp_for0 (fun (k : Int32 → Int32 → Option Int32) i s => k s (nI i)) _ _ 30 (by decide) _ some (fun _ _ => True) 0 trivial ?_ (fun _ _ _ _ => trivial) ?_
  · intro k y s hy _
    rw [if_neg (ge30 hy)]
    refine lp_for0 (fun (k : Int32 → Int32 → Option Int32) i s => k s (nI i)) _ _ 30 (by decide) _ (fun s => k s (nI (y + 1))) (fun _ _ => True) s trivial ?_ (fun _ _ _ _ => trivial) ?_
    · intro k' x s hx _
      rw [if_neg (ge30 hx)]
      simp only [C_ownerAt c.t c.hb hx hy, C_near c p hx hy, cl_s, c.G (30 * y + x) (by omega), tl_eq, nI_1, show (30 * y + x) % 30 = x by omega, show (30 * y + x) / 30 = y by omega]
      by_cases hc : gI S (ad (b + 12)) (30 * y + x) = p
      · by_cases hd : r < nI (nr v no p x y) <;> simp only [hc, hd, if_true, if_false]
      · simp only [hc, if_false]
    · intro k' s _
      rw [if_pos le30, nI_1]
  · intro k s _
    rw [if_pos le30]
theorem nr_58 (w : WF v np nf no mo) (p : Int32) {x y : Nat} (hx : x < 30) (hy : y < 30) : nr v no p x y < 59 ∨ nr v no p x y = 1000 := by
  have := itr_inv (f := nrS v p x y) (N := no) (fun _ s => s < 59 ∨ s = 1000) (fun i s hi hs => ?_) no 0 1000 (by omega) (Or.inr rfl)
  · exact this
  · obtain ⟨b1, b2, -, -⟩ := oxy w hi
    have := dst_lt hx hy b1 b2
    unfold nrS
    cases oc v p i
    · exact hs
    · by_cases hd : dst x y (ox v i) (oy v i) < s
      · simp only [if_true, hd]; omega
      · simp only [if_true, hd, if_false]; exact hs
theorem Q_coverage (c : CV S ad b v np nf no mo) (p r : Int32) : QA ad v np nf no mo (f_X11_coverage S (ad 0) p r) (fun S' => f_X12_coverage S' (ad 1) p r) := by
  have e7 : ∀ {α : Type} (x y : α), (if r < 0 then x else if 58 < r then x else y) = if vin r 59 then y else x := fun x y => by
    rw [← vin_cases r (n := 59) (by decide) x y]
    have : (58 < r) ↔ nI 59 ≤ r := by
      rw [Int32.lt_iff_toInt_lt, Int32.le_iff_toInt_le]
      show (58 : Int) < _ ↔ (59 : Int) ≤ _
      omega
    simp only [this]
  have e6 : (decide ((0 : Int64) ≤ r.toInt64) && decide (r.toInt64 ≤ 58)) = vin r 59 := rng_vin r (n := 59) (by decide)
  cases hB : vin p nf
  · refine Or.inr (Or.inl ⟨by simp [f_X11_coverage, C_reqF c, hB, clx_r], fun S' h => ⟨0, ?_⟩⟩)
    simp [f_X12_coverage, lt_e, M_isFr (Mv_t h (ad 1) 2 0), cl_s, jn_e, if_bI, hB, M_throws1, uI_uI]
  · cases hC : vin r 59
    · refine Or.inr (Or.inr ⟨by simp [f_X11_coverage, C_reqF c, hB, clx_l, jn_e, e7, hC, C_reqA0, clx_r], fun S' h => ⟨0, ?_⟩⟩)
      simp only [f_X12_coverage, lt_e, M_isFr (Mv_t h (ad 1) 2 0), cl_s, jn_n, if_bI, hB, M_inRange, e6, hC, M_throws0, M_throws1, uI_uI]
      rfl
    · refine Or.inl ⟨cov v no p r, ?_, fun S' h => ?_⟩
      · simp only [f_X11_coverage, C_reqF c, hB, if_true, clx_l, jn_e, e7, hC, C_reqA1, lt_e, c.r, C_cells c, cl_s]
      · obtain ⟨R, hR, rfl⟩ := vin_of (by decide) hC
        have h1 := Mv_t h (ad 1) 2 0
        simp only [f_X12_coverage, lt_n, M_isFr h1, cl_n, jn_n, if_bI, hB, M_inRange, e6, hC, M_throws0, if_true, r_1_0 h1.1]
        refine lp_for0 (fun (k : Int32 → Int32 → Option (Int32 × St)) i s => k s (nI i)) _ _ 900 (by decide) _ (fun s => some (s, uI S' (ad 1) 2 0)) (fun _ _ => True) 0 trivial ?_ (fun _ _ _ _ => trivial) ?_
        · intro k i s hi _
          rw [if_neg (ge900 hi), ldSe h1 (ad250 i) (by omega), M_near h1 c.w p hi]
          by_cases hc : v (250 + i) = p.toInt64
          · simp only [hc, if_true, cl_s, nI_1, if_bI]
            have hn := nr_58 c.w p (show i % 30 < 30 by omega) (show i / 30 < 30 by omega)
            generalize nr v no p (i % 30) (i / 30) = n at hn ⊢
            rcases hn with hn | hn
            · have e1 : nmo n = nI n := by rw [nmo, if_neg (by omega)]
              have e2 : (0 : Int64) ≤ Int32.toInt64 (nI n) := by rw [← tl_0, tl_le]; exact nI_pos' (by omega)
              simp only [e1, tl_le, e2, decide_true, Bool.true_and, decide_eq_true_eq]
              by_cases hx : nI R < nI n
              · simp only [hx, Int32.not_le.mpr hx, if_true, if_false, Int32.add_zero]
              · simp only [hx, Int32.not_lt.mp hx, if_true, if_false]
            · subst hn
              have e1 : nI R < nI 1000 := by rw [nI_ltI (by omega) (by decide)]; omega
              have e2 : ¬ (0 : Int64) ≤ Int32.toInt64 (nmo 1000) := by decide
              simp only [e1, e2, decide_false, Bool.false_and, Bool.false_eq_true, if_false, if_true, Int32.add_zero]
          · simp only [hc, if_false, nI_1]
        · intro k s _
          rw [if_pos le900]
