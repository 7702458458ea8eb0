/-! the pure part: waiting and paying off -/
variable {S S' : St} {ad : Nat → Nat} {b d j k : Nat} {v : Nat → Int64} {np nf no mo : Nat}
def opn (v : Nat → Int64) (f : Nat) : Bool := decide (v (58 + 16 * f + 9) = 1) || decide (v (58 + 16 * f + 9) = 2)
theorem M_openT (h : Mv S ad v np nf no mo) {f : Nat} (hf : f < 8) : f_X12_isOpenTransfer S (ad 1) (nI f) = some (bI (opn v f)) := by
  simp only [f_X12_isOpenTransfer, M_of9 h hf, cl_s, jn_e, opn]
  by_cases h1 : v (58 + 16 * f + 9) = 1
  · simp [h1, bI]
  · by_cases h2 : v (58 + 16 * f + 9) = 2
    · simp [h2, bI]
    · simp [h1, h2, bI]
theorem opn_iff (c : CV S ad b v np nf no mo) {f : Nat} (hf : f < nf) : opn v f = true ↔ (gI S (ad (b + 27)) f = 1 ∨ gI S (ad (b + 27)) f = 2) := by
  simp only [opn, (c.R f hf).1, Bool.or_eq_true, decide_eq_true_eq]
  rw [show (1 : Int64) = (1 : Int32).toInt64 from rfl, show (2 : Int64) = (2 : Int32).toInt64 from rfl, tl_eq, tl_eq]
theorem C_openT (c : CV S ad b v np nf no mo) {f : Nat} (hf : f < nf) : f_X10_isOpen S (ad (b + 5)) (nI f) = some (bI (opn v f)) := by
  have h8 := c.hf
  have hx := opn_iff c hf
  simp only [f_X10_isOpen, jn_e, lt_e, r_b5_0 c.t c.hb, lb27 c.t c.hb (show f < 8 by omega)]
  by_cases h1 : gI S (ad (b + 27)) f = 1
  · rw [hx.mpr (Or.inl h1)]; simp [h1, bI]
  · by_cases h2 : gI S (ad (b + 27)) f = 2
    · rw [hx.mpr (Or.inr h2)]; simp [h2, bI]
    · have : opn v f = false := by
        cases ho : opn v f
        · rfl
        · rcases hx.mp ho with h | h
          · exact absurd h h1
          · exact absurd h h2
      simp [h1, h2, this, bI]
def dlf (v : Nat → Int64) (mo f : Nat) : Nat := (v 9).toInt.toNat - (mo - (v (58 + 16 * f + 12)).toInt.toNat)
theorem nI_sub {a b : Nat} (h : b ≤ a) : nI a - nI b = nI (a - b) := by
  have : nI (a - b) + nI b = nI a := by rw [nI_add]; congr 1; omega
  rw [← this, Int32.add_sub_cancel]
theorem nI_neg_lt {a b : Nat} (h : a < b) (hb : b < 2 ^ 31) : nI a - nI b < 0 := by
  rw [Int32.lt_iff_toInt_lt, Int32.toInt_sub, nI_toInt (by omega), nI_toInt hb, show (0 : Int32).toInt = 0 from rfl, Int.bmod_eq_of_le] <;> omega
theorem C_delay (c : CV S ad b v np nf no mo) {f : Nat} (hf : f < nf) (ho : opn v f = true) : f_X1_monthsOfDelayLeft S (ad b) (nI f) = some (nI (dlf v mo f)) := by
  have h8 := c.hf
  have hm := c.hm
  obtain ⟨-, -, k, hk, e1, e2⟩ := (c.R f hf).2.1 ((opn_iff c hf).mp ho)
  obtain ⟨t, ht, e9⟩ := c.w.1.2.2.2.2.2
  have e10 : gI S (ad (b + 1)) 10 = nI t := by
    have := c.T.2.2.2.2.2.2.1
    rw [e9, ← nI_l (by omega), tl_eq] at this
    exact this.symm
  simp only [f_X1_monthsOfDelayLeft, lt_e, r_b0_0 c.t c.hb, r_b0_5 c.t c.hb, r_b0_4 c.t c.hb, r_b5_1 c.t c.hb, c.B.1, lb28 c.t c.hb (show f < 8 by omega), e1, e10, dlf, e9, e2, lN_toInt (show t < 2 ^ 31 by omega), lN_toInt (show k < 2 ^ 31 by omega), Int.toNat_natCast]
  rw [nI_sub hk]
  by_cases hc : t < mo - k
  · have := nI_neg_lt hc (by omega)
    rw [if_neg (Int32.not_lt.mpr (Int32.le_of_lt this)), show t - (mo - k) = 0 by omega, nI_0]
  · rw [nI_sub (by omega)]
    by_cases h0 : t - (mo - k) = 0
    · rw [h0, nI_0]; rfl
    · rw [if_pos]
      rw [← nI_0, nI_ltI (by omega) (by omega)]
      omega
theorem M_delay (c : CV S ad b v np nf no mo) (h : Mv S' ad v np nf no mo) {f : Nat} (hf : f < nf) (ho : opn v f = true) : f_X12_isDelayOver S' (ad 1) (nI f) = some (bI (decide (dlf v mo f = 0))) := by
  have h8 := c.hf
  have hm := c.hm
  obtain ⟨-, -, k, hk, e1, e2⟩ := (c.R f hf).2.1 ((opn_iff c hf).mp ho)
  obtain ⟨t, ht, e9⟩ := c.w.1.2.2.2.2.2
  simp only [f_X12_isDelayOver, lt_e, r_1_0 h.1, ld_0 h, M_of12 h (show f < 8 by omega), cl_s, ld_9 h, dlf, e9, e2, h.2.2.2.2.2.1, lN_toInt (show t < 2 ^ 31 by omega), lN_toInt (show k < 2 ^ 31 by omega), Int.toNat_natCast, lN_sub hk]
  rw [bI_ifn]
  congr 2
  have e3 := lN_lt (a := mo - k) (b := t) (by omega) (by omega)
  by_cases hc : mo - k < t
  · have e4 : ¬ t - (mo - k) = 0 := by omega
    simp [e3, hc, e4]
  · have e4 : t - (mo - k) = 0 := by omega
    simp [e3, hc, e4]
theorem M_wait (c : CV S ad b v np nf no mo) {f : Nat} (hf : f < nf) (ho : opn v f = true) (hd : dlf v mo f ≠ 0) : ((v 9 - v 0) + v (58 + 16 * f + 12)).toInt32 = nI (dlf v mo f) := by
  have hm := c.hm
  obtain ⟨-, -, k, hk, e1, e2⟩ := (c.R f hf).2.1 ((opn_iff c hf).mp ho)
  obtain ⟨t, ht, e9⟩ := c.w.1.2.2.2.2.2
  simp only [dlf, e9, e2, c.m.2.2.2.2.2.1, lN_toInt (show t < 2 ^ 31 by omega), lN_toInt (show k < 2 ^ 31 by omega), Int.toNat_natCast] at hd ⊢
  have : lN t - lN mo + lN k = lN (t - (mo - k)) := by
    have e : lN t = lN (t - (mo - k)) + lN (mo - k) := by rw [lN_add]; congr 1; omega
    have e' : lN mo = lN (mo - k) + lN k := by rw [lN_add]; congr 1; omega
    rw [e, e', ← Int64.sub_sub, Int64.add_sub_cancel, Int64.sub_add_cancel]
  rw [this, lN_i]
theorem Q_transferWait (c : CV S ad b v np nf no mo) (p : Int32) : QB ad v np nf no mo 1 (f_X11_transferWait S (ad 0) p) (fun S' => f_X12_transferWait S' (ad 1) p) := by
  have hf8 := c.hf
  cases hB : vin p nf
  · refine Or.inr ⟨by simp [f_X11_transferWait, C_reqF c, hB, clx_r], fun S' h => ⟨0, ?_⟩⟩
    simp [f_X12_transferWait, lt_e, M_isFr (Mv_t h (ad 1) 2 0), cl_s, jn_e, if_bI, hB, M_throws1, uI_uI]
  · obtain ⟨f, hf, rfl⟩ := vin_of (by omega) hB
    have h8 : f < 8 := by omega
    cases ho : opn v f
    · refine Or.inl ⟨-1, ?_, fun S' h => ?_⟩
      · simp [f_X11_transferWait, C_reqF c, hB, clx_l, lt_e, c.r, r_b0_4 c.t c.hb, C_openT c hf, ho, cl_s, if_bI]
      · have h1 := Mv_t h (ad 1) 2 0
        simp [f_X12_transferWait, lt_e, M_isFr h1, cl_s, jn_e, if_bI, hB, M_throws0, M_openT h1 h8, ho]
    · refine Or.inl ⟨nI (dlf v mo f), ?_, fun S' h => ?_⟩
      · simp [f_X11_transferWait, C_reqF c, hB, clx_l, lt_e, c.r, r_b0_4 c.t c.hb, C_openT c hf, ho, cl_s, if_bI, C_delay c hf ho]
      · have h1 := Mv_t h (ad 1) 2 0
        simp only [f_X12_transferWait, lt_e, M_isFr h1, cl_s, jn_e, if_bI, hB, M_throws0, M_openT h1 h8, ho, if_true, M_delay c h1 hf ho, r_1_0 h1.1, ld_9 h1, ld_0 h1, M_of12 h1 h8]
        by_cases hd : dlf v mo f = 0
        · simp [hd, nI_0]
        · simp [hd, M_wait c hf ho hd]
/-! paying off -/
theorem jn_n {κ β : Type} (r : κ) (b : κ → Option β) : jn r b = b r := Eq.trans rfl rfl
theorem lt_n {α β : Type} (a : α) (k : α → Option β) : lt a k = k a := Eq.trans rfl rfl
theorem cl_n {α β : Type} (a : α) (k : α → Option β) : cl (some a) k = k a := Eq.trans rfl rfl
def pof (r pay : Int64) : Nat → Int64 → Int32 → Int32
  | 0, l, m => if l ≤ 0 then m else -1
  | n + 1, l, m => if l ≤ 0 then m else pof r pay n (l + (rtd l r - pay)) (m + 1)
theorem amt_cases {α : Type} (s : Int64) (x y : α) : (if s < 1 then x else if 1000000000 < s then x else y) = if (decide ((1 : Int64) ≤ s) && decide (s ≤ 1000000000)) then y else x := by
  by_cases h1 : s < 1
  · simp [h1, Int64.not_le.mpr h1]
  · by_cases h2 : 1000000000 < s
    · simp [h1, h2, Int64.not_le.mpr h2]
    · simp [h1, h2, Int64.not_lt.mp h1, Int64.not_lt.mp h2]
def amt (s : Int64) : Bool := decide ((1 : Int64) ≤ s) && decide (s ≤ 1000000000)
theorem C_reqAm (S : St) (s : Int64) : f_X11_requireAmount S s = if amt s then some (.inl ()) else some (.inr 2) := by
  simp only [f_X11_requireAmount, jn_e, amt_cases]
  show (if amt s = true then _ else _) = _
  cases amt s <;> rfl
theorem M_rngAm (S : St) (s : Int64) : f_X12_inRange S s 1 1000000000 = some (bI (amt s)) := M_inRange S s 1 1000000000
theorem C_inter (c : CV S ad b v np nf no mo) (l : Int64) : f_X1_interestOn S (ad b) l = some (rtd l (v 6)) := by
  simp only [f_X1_interestOn, lt_e, r_b0_0 c.t c.hb, C_rateOf, cl_s, c.T.2.2.2.1]
theorem lp_rec {κ σ β : Type} (ap : κ → Nat → σ → Option β) (bot : κ) (bd : κ → κ) (N : Nat) (g : Nat → Nat → σ → Option β) (h0 : ∀ k s, ap (bd k) N s = g 0 N s) (h1 : ∀ k m n s, m + (n + 1) = N → (∀ s, ap k (m + 1) s = g n (m + 1) s) → ap (bd k) m s = g (n + 1) m s) : ∀ (n fuel m : Nat) (s : σ), m + n = N → n < fuel → ap (lp bot bd fuel) m s = g n m s := by
  intro n
  induction n with
  | zero =>
    intro fuel m s hm hf
    cases fuel with
    | zero => omega
    | succ fuel =>
      have e : m = N := by omega
      subst e
      exact h0 _ s
  | succ n ih =>
    intro fuel m s hm hf
    cases fuel with
    | zero => omega
    | succ fuel => exact h1 _ m n s hm (fun s => ih fuel (m + 1) s (by omega) (by omega))
def pofC (r pay : Int64) : Nat → Int64 → Int32 → Int32
  | 0, _, _ => -1
  | n + 1, l, m => if l ≤ 0 then m else pofC r pay n (l + (rtd l r - pay)) (m + 1)
theorem pofC_e (r pay : Int64) : ∀ (n : Nat) (l : Int64) (m : Int32), pofC r pay (n + 1) l m = pof r pay n l m := by
  intro n
  induction n with
  | zero => intro l m; rfl
  | succ n ih => intro l m; rw [pofC, ih]; rfl
theorem C_payOff (c : CV S ad b v np nf no mo) {f : Nat} (hf : f < nf) (pay : Int64) : f_X1_monthsToPayOff S (ad b) (nI f) pay = some (pof (v 6) pay 120 (v (58 + 16 * f + 4)) 0) := by
  have h8 := c.hf
  simp only [f_X1_monthsToPayOff, lt_e, jn_e, r_b0_3 c.t c.hb, r_b4_7 c.t c.hb, lb26 c.t c.hb (show f < 8 by omega), ← (c.F f hf).2.2.2.1, C_inter c, cl_s]
  refine (lp_rec (fun (k : Int64 → Int32 → Option Int32) i (l : Int64) => k l (nI i)) _ _ 121 (fun n m l => some (pofC (v 6) pay n l (nI m))) ?_ ?_ 121 FU 0 (v (58 + 16 * f + 4)) rfl (show 121 < 6000 by omega)).trans ?_
  · intro k s
    rfl
  · intro k m n l hm hk
    have h1 : ¬ (120 : Int32) < nI m := by
      rw [show (120 : Int32) = nI 120 from rfl, nI_ltI (by decide) (by omega)]; omega
    have := hk (l + (rtd l (v 6) - pay))
    simp only [h1, if_false, nI_1, pofC]
    by_cases hl : 0 < l
    · simp only [hl, Int64.not_le.mpr hl, if_true, if_false]
      exact this
    · simp only [hl, Int64.not_lt.mp hl, if_true, if_false]
  · simp only [pofC_e, nI_0]
theorem Q_payOff (c : CV S ad b v np nf no mo) (p : Int32) (s : Int64) : QA ad v np nf no mo (f_X11_payOff S (ad 0) p s) (fun S' => f_X12_payOff S' (ad 1) p s) := by
  have hf8 := c.hf
  cases hB : vin p nf
  · refine Or.inr (Or.inl ⟨by simp [f_X11_payOff, C_reqF c, hB, clx_r], fun S' h => ⟨0, ?_⟩⟩)
    simp [f_X12_payOff, lt_e, M_isFr (Mv_t h (ad 1) 2 0), cl_s, jn_n, if_bI, hB, M_throws1, uI_uI]
  · cases hC : amt s
    · refine Or.inr (Or.inr ⟨by simp [f_X11_payOff, C_reqF c, hB, clx_l, C_reqAm, hC, clx_r], fun S' h => ⟨0, ?_⟩⟩)
      simp [f_X12_payOff, lt_e, M_isFr (Mv_t h (ad 1) 2 0), M_rngAm, hC, cl_s, jn_n, if_bI, hB, M_throws0, M_throws1, uI_uI]
    · obtain ⟨f, hf, rfl⟩ := vin_of (by omega) hB
      have h8 : f < 8 := by omega
      refine Or.inl ⟨pof (v 6) s 120 (v (58 + 16 * f + 4)) 0, ?_, fun S' h => ?_⟩
      · simp only [f_X11_payOff, C_reqF c, hB, if_true, clx_l, C_reqAm, hC, lt_e, c.r, C_payOff c hf, cl_s]
      · have h1 := Mv_t h (ad 1) 2 0
        simp only [f_X12_payOff, lt_e, M_isFr h1, cl_s, jn_n, if_bI, hB, hC, M_rngAm, M_throws0, if_true, M_of4 h1 h8, r_1_0 h1.1, ld_6 h1, M_rated]
        refine (lp_rec (fun (k : Int64 → Int32 → Option (Int32 × St)) i (l : Int64) => k l (nI i)) _ _ 120 (fun n m l => some (pof (v 6) s n l (nI m), uI S' (ad 1) 2 0)) ?_ ?_ 120 FU 0 (v (58 + 16 * f + 4)) rfl (show 120 < 6000 by omega)).trans ?_
        · intro k l
          simp only [pof]
          by_cases hl : l ≤ 0
          · simp only [hl, if_true]
          · simp only [hl, if_false]
            rw [if_pos (show (120 : Int32) ≤ nI 120 from (nI_leI (a := 120) (b := 120) (by decide) (by decide)).mpr (Nat.le_refl _))]
        · intro k m n l hm hk
          have h2 : ¬ (120 : Int32) ≤ nI m := by
            rw [show (120 : Int32) = nI 120 from rfl, nI_leI (by decide) (by omega)]; omega
          have := hk (l + (rtd l (v 6) - s))
          simp only [h2, if_false, nI_1, pof]
          by_cases hl : l ≤ 0
          · simp only [hl, if_true]
          · simp only [hl, if_false]
            exact this
        · simp only [nI_0]
