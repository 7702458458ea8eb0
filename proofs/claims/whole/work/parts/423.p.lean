/-! the pure part: the parts of an invoice -/
variable {S S' S'' : St} {ad : Nat → Nat} {b d j k : Nat} {v v' : Nat → Int64} {np nf no mo no' mo' : Nat}
def act (v : Nat → Int64) (f : Nat) : Bool := decide (v (58 + 16 * f + 3) = 0)
theorem M_act (h : Mv S ad v np nf no mo) {f : Nat} (hf : f < 8) : f_X12_isActive S (ad 1) (nI f) = some (bI (act v f)) := by
  simp only [f_X12_isActive, M_of3 h hf, cl_s, bI_if, act]
theorem C_act (c : CV S ad b v np nf no mo) {f : Nat} (hf : f < nf) : f_X2_isActive S (ad (b + 4)) (nI f) = some (bI (act v f)) := by
  have h8 := c.hf
  simp only [f_X2_isActive, C_has c, vin_nI hf (show nf < 2 ^ 31 by omega), cl_s, jn_e, if_bI, if_true, lt_e, r_b4_4 c.t c.hb, lb23 c.t c.hb (show f < 8 by omega), act, (c.F f hf).2.2.1, bI_if]
  have e : ((gI S (ad (b + 23)) f).toInt64 = 0) = (gI S (ad (b + 23)) f = 0) := by rw [← tl_0, tl_eq]
  simp only [e]
theorem C_actN (c : CV S ad b v np nf no mo) (p : Int32) (hp : vin p nf = false) : f_X2_isActive S (ad (b + 4)) p = some 0 := by
  simp [f_X2_isActive, C_has c, hp, cl_s, jn_e, if_bI]
def plN (v : Nat → Int64) (f : Nat) : Nat := (v (58 + 16 * f + 1)).toInt.toNat
theorem pl_N (w : WF v np nf no mo) (hp : np ≤ 4) {f : Nat} (hf : f < nf) : plN v f < np ∧ v (58 + 16 * f + 1) = lN (plN v f) := by
  obtain ⟨p, hp', e⟩ := (w.2.2.1 f hf).1
  simp only [plN, e, lN_toInt (show p < 2 ^ 31 by omega), Int.toNat_natCast]
  exact ⟨hp', trivial⟩
def gA (a0 a1 a2 a3 a4 a5 : Int64) : Nat → Int64
  | 0 => a0
  | 1 => a1
  | 2 => a2
  | 3 => a3
  | 4 => a4
  | 5 => a5
  | _ => 0
theorem gA_0 (a0 a1 a2 a3 a4 a5 w : Int64) : udt (gA a0 a1 a2 a3 a4 a5) 0 w = gA w a1 a2 a3 a4 a5 := by funext i; rcases i with _ | _ | _ | _ | _ | _ | i <;> rfl
theorem gA_1 (a0 a1 a2 a3 a4 a5 w : Int64) : udt (gA a0 a1 a2 a3 a4 a5) 1 w = gA a0 w a2 a3 a4 a5 := by funext i; rcases i with _ | _ | _ | _ | _ | _ | i <;> rfl
theorem gA_2 (a0 a1 a2 a3 a4 a5 w : Int64) : udt (gA a0 a1 a2 a3 a4 a5) 2 w = gA a0 a1 w a3 a4 a5 := by funext i; rcases i with _ | _ | _ | _ | _ | _ | i <;> rfl
theorem gA_3 (a0 a1 a2 a3 a4 a5 w : Int64) : udt (gA a0 a1 a2 a3 a4 a5) 3 w = gA a0 a1 a2 w a4 a5 := by funext i; rcases i with _ | _ | _ | _ | _ | _ | i <;> rfl
theorem gA_4 (a0 a1 a2 a3 a4 a5 w : Int64) : udt (gA a0 a1 a2 a3 a4 a5) 4 w = gA a0 a1 a2 a3 w a5 := by funext i; rcases i with _ | _ | _ | _ | _ | _ | i <;> rfl
theorem gA_5 (a0 a1 a2 a3 a4 a5 w : Int64) : udt (gA a0 a1 a2 a3 a4 a5) 5 w = gA a0 a1 a2 a3 a4 w := by funext i; rcases i with _ | _ | _ | _ | _ | _ | i <;> rfl
theorem gA_z : (fun _ => (0 : Int64)) = gA 0 0 0 0 0 0 := by funext i; rcases i with _ | _ | _ | _ | _ | _ | i <;> rfl
def crP (v : Nat → Int64) (nf f : Nat) : Int64 := itr (fun g s => s + crd v f g) 0 nf 0
def crR (v : Nat → Int64) (nf f : Nat) : Int64 := itr (fun g s => s + crd v g f) 0 nf 0
def am (v : Nat → Int64) (nf f : Nat) (s : Int64) : Nat → Int64 := if act v f then
  gA (roy v (plN v f) (trn v (plN v f)) s) (rtd s (v (14 + 11 * plN v f + 0))) (rtd (owe v f) (v 6)) (crP v nf f) (crR v nf f) ((((roy v (plN v f) (trn v (plN v f)) s) + (rtd s (v (14 + 11 * plN v f + 0)))) + (rtd (owe v f) (v 6))) + (crP v nf f) - (crR v nf f))
  else fun _ => 0
theorem CV_p7 (c : CV S ad b v np nf no mo) (n : Nat) (g : Nat → Int64) : CV (pJ S (ad (b + 7)) n g) ad b v np nf no mo := by
  have hb := c.2.1
  refine CV_c (SR0_pJ _ _ _ _) (fun q hq i => ⟨rfl, ?_⟩) c
  · rw [gJ_pJ, if_neg]; intro e; have := (c.t.1 _ _).mp e.1; unfold BR at hq; omega
theorem lr7 (t : TR S ad) (hb : BB b) {β : Type} {i : Int32} {n : Nat} {g : Nat → Int64} {k : Int64 → Option β} (e : i = nI n) (hn : n < 7) : ldJ (pJ S (ad (b + 7)) 7 g) (ad (b + 7)) i k = k (g n) := by
  rw [e, lb7 (TR_SR0 (SR0_pJ _ _ _ _) t) hb hn, gJ_pJ, if_pos ⟨rfl, hn⟩]
theorem sr7 (t : TR S ad) (hb : BB b) {β : Type} {i : Int32} {n : Nat} {g : Nat → Int64} {w : Int64} {k : St → Option β} (e : i = nI n) (hn : n < 7) : stJ (pJ S (ad (b + 7)) 7 g) (ad (b + 7)) i w k = k (pJ S (ad (b + 7)) 7 (udt g n w)) := by
  rw [e, sb7 (TR_SR0 (SR0_pJ _ _ _ _) t) hb hn, uJ_pJ _ _ _ _ _ _ hn]
theorem C_paid (c : CV S ad b v np nf no mo) {f : Nat} (hf : f < nf) : f_X1_creditsPaid S (ad b) (nI f) = some (crP v nf f) := by
  have h8 := c.hf
  simp only [f_X1_creditsPaid, lt_n, jn_n, r_b0_3 c.t c.hb, c.N.1]
  refine lp_for0 (fun (k : Int64 → Int32 → Option Int64) i s => k s (nI i)) _ _ nf (by omega) _ some (fun _ _ => True) 0 trivial ?_ (fun _ _ _ _ => trivial) ?_
  · intro k i s hi _
    have h1 : ¬ nI nf ≤ nI i := by rw [nI_leI (by omega) (by omega)]; omega
    simp only [h1, if_false, C_credit c (show f < 8 by omega) (show i < 8 by omega), cl_s, nI_1]
  · intro k s _
    have h1 : nI nf ≤ nI nf := by rw [nI_leI (by omega) (by omega)]; omega
    simp only [h1, if_true]
theorem C_received (c : CV S ad b v np nf no mo) {f : Nat} (hf : f < nf) : f_X1_creditsReceived S (ad b) (nI f) = some (crR v nf f) := by
  have h8 := c.hf
  simp only [f_X1_creditsReceived, lt_n, jn_n, r_b0_3 c.t c.hb, c.N.1]
  refine lp_for0 (fun (k : Int64 → Int32 → Option Int64) i s => k s (nI i)) _ _ nf (by omega) _ some (fun _ _ => True) 0 trivial ?_ (fun _ _ _ _ => trivial) ?_
  · intro k i s hi _
    have h1 : ¬ nI nf ≤ nI i := by rw [nI_leI (by omega) (by omega)]; omega
    simp only [h1, if_false, C_credit c (show i < 8 by omega) (show f < 8 by omega), cl_s, nI_1]
  · intro k s _
    have h1 : nI nf ≤ nI nf := by rw [nI_leI (by omega) (by omega)]; omega
    simp only [h1, if_true]
theorem C_calc (c : CV S ad b v np nf no mo) {f : Nat} (hf : f < nf) (s : Int64) : f_X1_calculate S (ad b) (nI f) s = some (pJ S (ad (b + 7)) 7 (am v nf f s)) := by
  have h8 := c.hf
  have hp4 := c.hp
  obtain ⟨hp, ep⟩ := pl_N c.w c.hp hf
  obtain ⟨t, ht, et⟩ := C_tiers c hp
  have C := fun g => CV_p7 c 7 g
  have epl : gI S (ad (b + 21)) f = nI (plN v f) := by
    have := (c.F f hf).1
    rw [ep, ← nI_l (by omega), tl_eq] at this
    exact this.symm
  simp only [f_X1_calculate, lt_n, r_b0_6 c.t c.hb, fill_J S (ad (b + 7)) 0 (n_b7 c.t c.hb) (by decide), cl_n, flJ_pJ, gA_z]
  simp only [lt_n, r_b0_3 (C _).t c.hb, C_act (C _) hf, cl_n, if_bI]
  rw [am]
  cases act v f
  · simp [gA_z]
  · simp only [if_true, r_b4_2 (C _).t c.hb, lb21 (C _).t c.hb (show f < 8 by omega), gI_pJ, epl, r_b0_6 (C _).t c.hb, r_b0_0 (C _).t c.hb, C_royaltyFor (C _) hp ht et, trn_e ht et, cl_n]
    simp only [sr7 c.t c.hb (i := 0) (n := 0) rfl (by decide), gA_0, lt_n, r_b0_6 (C _).t c.hb, r_b0_0 (C _).t c.hb, C_contrib (C _) hp, cl_n]
    simp only [sr7 c.t c.hb (i := 1) (n := 1) rfl (by decide), gA_1, lt_n, r_b0_6 (C _).t c.hb, r_b0_3 (C _).t c.hb, C_owed (C _) hf, C_inter (C _), cl_n]
    simp only [sr7 c.t c.hb (i := 2) (n := 2) rfl (by decide), gA_2, lt_n, r_b0_6 (C _).t c.hb, C_paid (C _) hf, cl_n]
    simp only [sr7 c.t c.hb (i := 3) (n := 3) rfl (by decide), gA_3, lt_n, r_b0_6 (C _).t c.hb, C_received (C _) hf, cl_n]
    simp only [sr7 c.t c.hb (i := 4) (n := 4) rfl (by decide), gA_4, lt_n, r_b0_6 (C _).t c.hb, lr7 c.t c.hb (i := 0) (n := 0) rfl (by decide), lr7 c.t c.hb (i := 1) (n := 1) rfl (by decide), lr7 c.t c.hb (i := 2) (n := 2) rfl (by decide), lr7 c.t c.hb (i := 3) (n := 3) rfl (by decide), lr7 c.t c.hb (i := 4) (n := 4) rfl (by decide)]
    simp only [sr7 c.t c.hb (i := 5) (n := 5) rfl (by decide), gA_5]
    rfl
/-! the same in the reference -/
theorem Mv_p7 (h : Mv S ad v np nf no mo) (n : Nat) (g : Nat → Int64) : Mv (pJ S (ad 7) n g) ad v np nf no mo := by
  refine ⟨TR_SR0 (SR0_pJ _ _ _ _) h.1, ?_, h.2.2⟩
  rw [← h.2.1]
  funext i
  rw [gJ_pJ, if_neg]; intro e; have := (h.1.1 _ _).mp e.1; omega
theorem lq7 (t : TR S ad) {β : Type} {i : Int32} {n : Nat} {g : Nat → Int64} {k : Int64 → Option β} (e : i = nI n) (hn : n < 7) : ldJ (pJ S (ad 7) 7 g) (ad 7) i k = k (g n) := by
  rw [e, ldJ_at (by rw [gN_pJ, n_7 t]; exact hn) (by rw [gN_pJ, n_7 t]; decide), gJ_pJ, if_pos ⟨rfl, hn⟩]
theorem sq7 (t : TR S ad) {β : Type} {i : Int32} {n : Nat} {g : Nat → Int64} {w : Int64} {k : St → Option β} (e : i = nI n) (hn : n < 7) : stJ (pJ S (ad 7) 7 g) (ad 7) i w k = k (pJ S (ad 7) 7 (udt g n w)) := by
  rw [e, stJ_at (by rw [gN_pJ, n_7 t]; exact hn) (by rw [gN_pJ, n_7 t]; decide), uJ_pJ _ _ _ _ _ _ hn]
theorem M_plan (h : Mv S ad v np nf no mo) {f : Nat} (hf : f < 8) (e : v (58 + 16 * f + 1) = lN (plN v f)) : f_X12_planNow S (ad 1) (nI f) = some (nI (plN v f)) := by
  simp only [f_X12_planNow, M_of1 h hf, cl_s, e, lN_i]
theorem itr_2 {α β : Type} (f : Nat → α → α) (g : Nat → β → β) : ∀ (n i : Nat) (s : α) (t : β), itr (fun i (s : α × β) => (f i s.1, g i s.2)) i n (s, t) = (itr f i n s, itr g i n t) := by
  intro n
  induction n with
  | zero => intro i s t; rfl
  | succ n ih => intro i s t; exact ih (i + 1) _ _
theorem M_calc (h : Mv S ad v np nf no mo) (hp4 : np ≤ 4) (hT : ∀ p, p < np → ∃ t, t ≤ 4 ∧ v (14 + 11 * p + 2) = lN t) (w : WF v np nf no mo) {f : Nat} (hf : f < nf) (s : Int64) : f_X12_calculate S (ad 1) (nI f) s = some (pJ S (ad 7) 7 (am v nf f s)) := by
  have h8 := h.2.2.2.2.2.2.2.1
  have f8 : f < 8 := by omega
  obtain ⟨hp, ep⟩ := pl_N w hp4 hf
  obtain ⟨t, ht, et⟩ := hT _ hp
  have H := fun g => Mv_p7 h 7 g
  have h4 : plN v f < 4 := by omega
  simp only [f_X12_calculate, lt_n, jn_n]
  have e0 : ∀ i, TR (flJ S (ad 7) 0 i) ad := fun i => TR_SR0 (SR0_flJ _ _ _ _) h.1
  refine (lp_for0 (fun (k : Int32 → St → Option St) i (u : St) => k (nI i) u) _ _ 7 (by decide) (fun i u => uJ u (ad 7) i 0) (fun _ => some (pJ S (ad 7) 7 (am v nf f s))) (fun i u => u = flJ S (ad 7) 0 i) S (flJ_0 _ _ _).symm ?_ ?_ ?_)
  · rintro k i u hi rfl
    rw [if_neg (ge7 hi), r_1_5 (e0 i), stJ_at (by rw [gN_flJ, n_7 h.1]; exact hi) (by rw [gN_flJ, n_7 h.1]; decide), nI_1]
  · rintro i u hi rfl
    exact flJ_s _ _ _ _
  · rintro k u rfl
    rw [if_pos le7, flJ_pJ, gA_z]
    simp only [M_act (H _) f8, cl_n, if_bI]
    rw [am]
    cases act v f
    · simp [gA_z]
    · simp only [if_true, r_1_5 (H _).1, M_plan (H _) f8 ep, M_royaltyOf (H _) h4 ht et, cl_n]
      simp only [sq7 h.1 (i := 0) (n := 0) rfl (by decide), gA_0, lt_n, r_1_5 (H _).1, M_plan (H _) f8 ep, M_op0 (H _) h4, M_rated, cl_n]
      simp only [sq7 h.1 (i := 1) (n := 1) rfl (by decide), gA_1, lt_n, M_of4 (H _) f8, cl_n, r_1_5 (H _).1, r_1_0 (H _).1, ld_6 (H _), M_rated]
      rw [trn_e ht et]
      by_cases hx : v (58 + 16 * f + 4) ≤ 0
      · have eo : owe v f = 0 := by rw [owe, if_neg (Int64.not_lt.mpr hx)]
        have er : rtd 0 (v 6) = 0 := by simp only [rtd, Int64.zero_mul]; decide
        simp only [hx, if_true, eo, er]
        · refine (lp_for0 (fun (k : Int32 → St → Option St) i (u : Int64 × Int64) => k (nI i) (pJ S (ad 7) 7 (gA (roy v (plN v f) t s) (rtd s (v (14 + 11 * plN v f + 0))) 0 u.1 u.2 0))) _ _ nf (by omega) (fun g (u : Int64 × Int64) => (u.1 + crd v f g, u.2 + crd v g f)) (fun u => some (pJ S (ad 7) 7 (gA (roy v (plN v f) t s) (rtd s (v (14 + 11 * plN v f + 0))) 0 u.1 u.2 ((roy v (plN v f) t s) + (rtd s (v (14 + 11 * plN v f + 0))) + 0 + u.1 - u.2)))) (fun _ _ => True) (0, 0) trivial ?_ (fun _ _ _ _ => trivial) ?_).trans ?_
          · intro k g u hg _
            have h2 : ¬ v 2 ≤ Int32.toInt64 (nI g) := by rw [cM_f h (by omega)]; omega
            simp only [r_1_0 (H _).1, ld_2 (H _), h2, if_false, r_1_5 (H _).1, lq7 h.1 (i := 3) (n := 3) rfl (by decide), M_credit (H _) f8 (show g < 8 by omega), cl_n, sq7 h.1 (i := 3) (n := 3) rfl (by decide), gA_3]
            simp only [r_1_5 (H _).1, lq7 h.1 (i := 4) (n := 4) rfl (by decide), M_credit (H _) (show g < 8 by omega) f8, cl_n, sq7 h.1 (i := 4) (n := 4) rfl (by decide), gA_4, nI_1]
            rfl
          · intro k u _
            have h2 : v 2 ≤ Int32.toInt64 (nI nf) := by rw [cM_f h (by omega)]; omega
            simp only [r_1_0 (H _).1, ld_2 (H _), h2, if_true, r_1_5 (H _).1, lq7 h.1 (i := 0) (n := 0) rfl (by decide), lq7 h.1 (i := 1) (n := 1) rfl (by decide), lq7 h.1 (i := 2) (n := 2) rfl (by decide), lq7 h.1 (i := 3) (n := 3) rfl (by decide), lq7 h.1 (i := 4) (n := 4) rfl (by decide), sq7 h.1 (i := 5) (n := 5) rfl (by decide), gA_5]
            rfl
          · rw [itr_2 (fun g s => s + crd v f g) (fun g s => s + crd v g f)]
            rfl
      · have eo : owe v f = v (58 + 16 * f + 4) := by rw [owe, if_pos (Int64.not_le.mp hx)]
        simp only [hx, if_false, eo, sq7 h.1 (i := 2) (n := 2) rfl (by decide), gA_2]
        · refine (lp_for0 (fun (k : Int32 → St → Option St) i (u : Int64 × Int64) => k (nI i) (pJ S (ad 7) 7 (gA (roy v (plN v f) t s) (rtd s (v (14 + 11 * plN v f + 0))) (rtd (v (58 + 16 * f + 4)) (v 6)) u.1 u.2 0))) _ _ nf (by omega) (fun g (u : Int64 × Int64) => (u.1 + crd v f g, u.2 + crd v g f)) (fun u => some (pJ S (ad 7) 7 (gA (roy v (plN v f) t s) (rtd s (v (14 + 11 * plN v f + 0))) (rtd (v (58 + 16 * f + 4)) (v 6)) u.1 u.2 ((roy v (plN v f) t s) + (rtd s (v (14 + 11 * plN v f + 0))) + (rtd (v (58 + 16 * f + 4)) (v 6)) + u.1 - u.2)))) (fun _ _ => True) (0, 0) trivial ?_ (fun _ _ _ _ => trivial) ?_).trans ?_
          · intro k g u hg _
            have h2 : ¬ v 2 ≤ Int32.toInt64 (nI g) := by rw [cM_f h (by omega)]; omega
            simp only [r_1_0 (H _).1, ld_2 (H _), h2, if_false, r_1_5 (H _).1, lq7 h.1 (i := 3) (n := 3) rfl (by decide), M_credit (H _) f8 (show g < 8 by omega), cl_n, sq7 h.1 (i := 3) (n := 3) rfl (by decide), gA_3]
            simp only [r_1_5 (H _).1, lq7 h.1 (i := 4) (n := 4) rfl (by decide), M_credit (H _) (show g < 8 by omega) f8, cl_n, sq7 h.1 (i := 4) (n := 4) rfl (by decide), gA_4, nI_1]
            rfl
          · intro k u _
            have h2 : v 2 ≤ Int32.toInt64 (nI nf) := by rw [cM_f h (by omega)]; omega
            simp only [r_1_0 (H _).1, ld_2 (H _), h2, if_true, r_1_5 (H _).1, lq7 h.1 (i := 0) (n := 0) rfl (by decide), lq7 h.1 (i := 1) (n := 1) rfl (by decide), lq7 h.1 (i := 2) (n := 2) rfl (by decide), lq7 h.1 (i := 3) (n := 3) rfl (by decide), lq7 h.1 (i := 4) (n := 4) rfl (by decide), sq7 h.1 (i := 5) (n := 5) rfl (by decide), gA_5]
            rfl
          · rw [itr_2 (fun g s => s + crd v f g) (fun g s => s + crd v g f)]
            rfl
