/-! the pure part: how the ledger's state and the reference's state belong together -/
variable {S : St} {ad : Nat → Nat} {b : Nat} {v : Nat → Int64} {np nf no mo : Nat}
def AXT (S : St) (ad : Nat → Nat) (b : Nat) (v : Nat → Int64) (np : Nat) : Prop := gI S (ad (b + 1)) 4 = nI np ∧ v 4 = (gI S (ad (b + 1)) 5).toInt64 ∧ v 5 = gJ S (ad (b + 1)) 6 ∧ v 6 = (gI S (ad (b + 1)) 7).toInt64 ∧ v 7 = (gI S (ad (b + 1)) 8).toInt64 ∧ v 8 = gJ S (ad (b + 1)) 9 ∧ v 9 = (gI S (ad (b + 1)) 10).toInt64 ∧ v 10 = (gI S (ad (b + 1)) 11).toInt64 ∧ ∀ p, p < np → ∃ t, t ≤ 4 ∧ gI S (ad (b + 9)) p = nI (t + 1) ∧ v (14 + 11 * p + 2) = lN t ∧ v (14 + 11 * p + 0) = (gI S (ad (b + 8)) p).toInt64 ∧ gJ S (ad (b + 10)) (5 * p) = 0 ∧ v (14 + 11 * p + 1) = (gI S (ad (b + 11)) (5 * p)).toInt64 ∧ ∀ j, j < t → v (14 + 11 * p + (3 + j)) = gJ S (ad (b + 10)) (5 * p + 1 + j) ∧ v (14 + 11 * p + (7 + j)) = (gI S (ad (b + 11)) (5 * p + 1 + j)).toInt64
def AXG (S : St) (ad : Nat → Nat) (b : Nat) (v : Nat → Int64) : Prop := ∀ c, c < 900 → v (250 + c) = (gI S (ad (b + 12)) c).toInt64
def AXO (S : St) (ad : Nat → Nat) (b : Nat) (v : Nat → Int64) (no : Nat) : Prop := gI S (ad (b + 3)) 4 = nI no ∧ ∀ o, o < no → v (186 + 4 * o + 0) = (gI S (ad (b + 15)) o).toInt64 ∧ v (186 + 4 * o + 1) = (gI S (ad (b + 16)) o).toInt64 ∧ v (186 + 4 * o + 2) = (gI S (ad (b + 17)) o).toInt64 ∧ v (186 + 4 * o + 3) = gJ S (ad (b + 18)) o
def pkd (g : Nat → Int32) : Nat → Int64
  | 0 => 0
  | n + 1 => pkd g n * 32 + (g n).toInt64 - 96
def AXN (S : St) (ad : Nat → Nat) (b : Nat) (v : Nat → Int64) (nf : Nat) : Prop := gI S (ad (b + 4)) 8 = nI nf ∧ ∀ f, f < nf → ∃ n, 1 ≤ n ∧ n ≤ 10 ∧ gI S (ad (b + 20)) f = nI n ∧ (∀ i, i < n → ∃ l, 1 ≤ l ∧ l ≤ 26 ∧ gI S (ad (b + 19)) (10 * f + i) = nI (96 + l)) ∧ v (58 + 16 * f + 0) = pkd (fun i => gI S (ad (b + 19)) (10 * f + i)) n
def AXF (S : St) (ad : Nat → Nat) (b : Nat) (v : Nat → Int64) (nf : Nat) : Prop := ∀ f, f < nf → v (58 + 16 * f + 1) = (gI S (ad (b + 21)) f).toInt64 ∧ v (58 + 16 * f + 2) = (gI S (ad (b + 22)) f).toInt64 ∧ v (58 + 16 * f + 3) = (gI S (ad (b + 23)) f).toInt64 ∧ v (58 + 16 * f + 4) = gJ S (ad (b + 26)) f ∧ v (58 + 16 * f + 5) = (gI S (ad (b + 24)) f).toInt64 ∧ v (58 + 16 * f + 6) = (gI S (ad (b + 25)) f).toInt64
def pop5 (n : Nat) : Nat := n % 2 + n / 2 % 2 + n / 4 % 2 + n / 8 % 2 + n / 16 % 2
def VOT (y n : Int32) (a d e : Int64) : Prop := ∃ i j : Nat, i < 32 ∧ j < 32 ∧ y = nI i ∧ n = nI j ∧ i &&& j = 0 ∧ a = lN (i ||| j) ∧ d = lN (pop5 i) ∧ e = lN (pop5 j) ∧ pop5 i < 3 ∧ pop5 j < 3
def AXR (S : St) (ad : Nat → Nat) (b : Nat) (v : Nat → Int64) (nf mo : Nat) : Prop := ∀ f, f < nf → v (58 + 16 * f + 9) = (gI S (ad (b + 27)) f).toInt64 ∧ ((gI S (ad (b + 27)) f = 1 ∨ gI S (ad (b + 27)) f = 2) → v (58 + 16 * f + 10) = (gI S (ad (b + 29)) f).toInt64 ∧ v (58 + 16 * f + 11) = gJ S (ad (b + 30)) f ∧ ∃ k, k ≤ mo ∧ gI S (ad (b + 28)) f = nI k ∧ v (58 + 16 * f + 12) = lN k) ∧ (gI S (ad (b + 27)) f = 1 → VOT (gI S (ad (b + 31)) f) (gI S (ad (b + 32)) f) (v (58 + 16 * f + 13)) (v (58 + 16 * f + 14)) (v (58 + 16 * f + 15)))
def AXB (S : St) (ad : Nat → Nat) (b : Nat) (v : Nat → Int64) (nf mo : Nat) : Prop := gI S (ad (b + 6)) 6 = nI mo ∧ (∀ k, k < 64 → v (1150 + k) = gJ S (ad (b + 35)) k) ∧ (∀ k, k < 3 → v (11 + k) = gJ S (ad (b + 38)) k) ∧ (∀ f, f < nf → v (58 + 16 * f + 7) = gJ S (ad (b + 36)) f ∧ v (58 + 16 * f + 8) = gJ S (ad (b + 37)) f) ∧ (∀ f, nf ≤ f → f < 8 → gJ S (ad (b + 36)) f = 0) ∧ (∀ k f, k < mo → f < nf → v (1214 + 8 * k + f) = gJ S (ad (b + 33)) (8 * k + f)) ∧ (∀ k f q, k < mo → f < nf → q < 7 → v (1694 + 7 * (8 * k + f) + q) = gJ S (ad (b + 34)) (7 * (8 * k + f) + q))
/-- what holds of a block of the reference's state -/
def WF (v : Nat → Int64) (np nf no mo : Nat) : Prop :=
  ((∃ t, t ≤ 5000 ∧ v 4 = lN t) ∧ (∃ t, t ≤ 999900 ∧ v 5 = lN t) ∧ (∃ t, t ≤ 500 ∧ v 6 = lN t) ∧ (∃ t, t ≤ 2000 ∧ v 7 = lN t) ∧ (∃ t, t ≤ 999900 ∧ v 8 = lN t) ∧ (∃ t, t ≤ 12 ∧ v 9 = lN t)) ∧
  (∀ p, p < np → ∃ t, t ≤ 1000 ∧ v (14 + 11 * p + 0) = lN t) ∧
  (∀ f, f < nf → (∃ p, p < np ∧ v (58 + 16 * f + 1) = lN p) ∧ (∃ g, g ≤ 61 ∧ v (58 + 16 * f + 5) = lN g) ∧ (∃ g, g ≤ 61 ∧ v (58 + 16 * f + 6) = lN g) ∧ (∃ g, g ≤ 976000000 ∧ v (58 + 16 * f + 7) = lN g)) ∧
  (∀ o, o < no → (∃ x y, x < 30 ∧ y < 30 ∧ v (186 + 4 * o + 1) = lN x ∧ v (186 + 4 * o + 2) = lN y ∧ (v (186 + 4 * o + 0) = -1 ∨ ∃ f, f < nf ∧ v (186 + 4 * o + 0) = lN f ∧ v (250 + (30 * y + x)) = lN f)) ∧ ∃ s, s ≤ 10000000 ∧ v (186 + 4 * o + 3) = lN s) ∧
  (∀ c, c < 900 → v (250 + c) = -1 ∨ ∃ f, f < nf ∧ v (250 + c) = lN f) ∧
  (∀ i, i < 8 → v (1150 + 9 * i) = 0) ∧
  (∃ a n l, v 11 = lN a ∧ v 12 = lN n ∧ v 13 = lN l ∧ a ≤ 1561600000 ∧ l ≤ 7808000000 ∧ n ≤ 7808000000) ∧
  (∀ k f, k < mo → f < nf → ∃ s, s ≤ 160000000 ∧ v (1214 + 8 * k + f) = lN s)
/-- and what holds between two calls, by the month -/
def WS (v : Nat → Int64) (nf mo : Nat) : Prop := (∀ f, f < nf → (∃ g, g ≤ mo ∧ v (58 + 16 * f + 5) = lN g) ∧ (∃ g, g ≤ mo ∧ v (58 + 16 * f + 6) = lN g) ∧ (∃ g, g ≤ 16000000 * mo ∧ v (58 + 16 * f + 7) = lN g)) ∧ ∃ a, a ≤ 25600000 * mo ∧ v 11 = lN a
theorem WS_w {v v' : Nat → Int64} {nf mo : Nat} (h : ∀ f q, f < nf → 5 ≤ q ∧ q ≤ 7 → v' (58 + 16 * f + q) = v (58 + 16 * f + q)) (h11 : v' 11 = v 11) (w : WS v nf mo) : WS v' nf mo := by
  refine ⟨fun f hf => ?_, by rw [h11]; exact w.2⟩
  rw [h f 5 hf (by omega), h f 6 hf (by omega), h f 7 hf (by omega)]
  exact w.1 f hf
/-- the sizes that a block speaks of -/
def Mw (S : St) (ad : Nat → Nat) (v : Nat → Int64) (np nf no mo : Nat) : Prop := TR S ad ∧ True ∧ v 1 = lN np ∧ v 2 = lN nf ∧ v 3 = lN no ∧ v 0 = lN mo ∧ np ≤ 4 ∧ nf ≤ 8 ∧ no ≤ 16 ∧ mo ≤ 60
def CV (S : St) (ad : Nat → Nat) (b : Nat) (v : Nat → Int64) (np nf no mo : Nat) : Prop := Mw S ad v np nf no mo ∧ (b = 40 ∨ b = 80) ∧ gR S (ad 0) 5 = ad b ∧ WF v np nf no mo ∧ AXT S ad b v np ∧ AXG S ad b v ∧ AXO S ad b v no ∧ AXN S ad b v nf ∧ AXF S ad b v nf ∧ AXR S ad b v nf mo ∧ AXB S ad b v nf mo
theorem CV.m (c : CV S ad b v np nf no mo) : Mw S ad v np nf no mo := c.1
theorem CV.t (c : CV S ad b v np nf no mo) : TR S ad := c.1.1
theorem CV.hb (c : CV S ad b v np nf no mo) : BB b := c.2.1.elim (fun h => Or.inl h) (fun h => Or.inr (Or.inl h))
theorem CV.r (c : CV S ad b v np nf no mo) : gR S (ad 0) 5 = ad b := c.2.2.1
theorem CV.w (c : CV S ad b v np nf no mo) : WF v np nf no mo := c.2.2.2.1
theorem CV.T (c : CV S ad b v np nf no mo) : AXT S ad b v np := c.2.2.2.2.1
theorem CV.G (c : CV S ad b v np nf no mo) : AXG S ad b v := c.2.2.2.2.2.1
theorem CV.O (c : CV S ad b v np nf no mo) : AXO S ad b v no := c.2.2.2.2.2.2.1
theorem CV.N (c : CV S ad b v np nf no mo) : AXN S ad b v nf := c.2.2.2.2.2.2.2.1
theorem CV.F (c : CV S ad b v np nf no mo) : AXF S ad b v nf := c.2.2.2.2.2.2.2.2.1
theorem CV.R (c : CV S ad b v np nf no mo) : AXR S ad b v nf mo := c.2.2.2.2.2.2.2.2.2.1
theorem CV.B (c : CV S ad b v np nf no mo) : AXB S ad b v nf mo := c.2.2.2.2.2.2.2.2.2.2
theorem CV.hp (c : CV S ad b v np nf no mo) : np ≤ 4 := c.1.2.2.2.2.2.2.1
theorem CV.hf (c : CV S ad b v np nf no mo) : nf ≤ 8 := c.1.2.2.2.2.2.2.2.1
theorem CV.ho (c : CV S ad b v np nf no mo) : no ≤ 16 := c.1.2.2.2.2.2.2.2.2.1
theorem CV.hm (c : CV S ad b v np nf no mo) : mo ≤ 60 := c.1.2.2.2.2.2.2.2.2.2
theorem itr_congr {σ : Type} {f g : Nat → σ → σ} : ∀ (m i : Nat) (s : σ), (∀ j s, i ≤ j → j < i + m → f j s = g j s) → itr f i m s = itr g i m s := by
  intro m
  induction m with
  | zero => intro i s _; rfl
  | succ m ih =>
    intro i s h
    show itr f (i + 1) m (f i s) = itr g (i + 1) m (g i s)
    rw [h i s (Nat.le_refl _) (by omega)]
    exact ih (i + 1) _ (fun j s h1 h2 => h j s (by omega) (by omega))
/-! first: whether there is such a franchisee, plan, outlet -/
theorem C_has (c : CV S ad b v np nf no mo) (p : Int32) : f_X2_has S (ad (b + 4)) p = some (bI (vin p nf)) := by
  simp only [f_X2_has, jn_e, lt_e, c.N.1]
  have hf := c.hf
  have h := ix_iff p (n := nf) (by omega)
  rw [← vin_iff] at h
  by_cases h1 : p < 0
  · simp only [h1, if_true]
    cases hv : vin p nf
    · rfl
    · exact absurd h1 (h.mpr hv).1
  · simp only [h1, if_false]
    by_cases h2 : nI nf ≤ p
    · simp only [h2, if_true]
      cases hv : vin p nf
      · rfl
      · exact absurd h2 (h.mpr hv).2
    · simp only [h2, if_false]
      rw [h.mp ⟨h1, h2⟩]; rfl
theorem C_reqF (c : CV S ad b v np nf no mo) (p : Int32) : f_X11_requireFranchisee S (ad 0) p = if vin p nf then some (.inl ()) else some (.inr 1) := by
  simp only [f_X11_requireFranchisee, lt_e, c.r, r_b0_3 c.t c.hb, C_has c, cl_s, if_bI]
theorem C_hasO (c : CV S ad b v np nf no mo) (p : Int32) : f_X6_has S (ad (b + 3)) p = some (bI (vin p no)) := by
  simp only [f_X6_has, jn_e, lt_e, c.O.1]
  have ho := c.ho
  have h := ix_iff p (n := no) (by omega)
  rw [← vin_iff] at h
  by_cases h1 : p < 0
  · simp only [h1, if_true]
    cases hv : vin p no
    · rfl
    · exact absurd h1 (h.mpr hv).1
  · simp only [h1, if_false]
    by_cases h2 : nI no ≤ p
    · simp only [h2, if_true]
      cases hv : vin p no
      · rfl
      · exact absurd h2 (h.mpr hv).2
    · simp only [h2, if_false]
      rw [h.mp ⟨h1, h2⟩]; rfl
theorem C_reqO (c : CV S ad b v np nf no mo) (p : Int32) : f_X11_requireOutlet S (ad 0) p = if vin p no then some (.inl ()) else some (.inr 1) := by
  simp only [f_X11_requireOutlet, lt_e, c.r, r_b0_2 c.t c.hb, C_hasO c, cl_s, if_bI]
theorem C_reqP (c : CV S ad b v np nf no mo) (p : Int32) : f_X11_requirePlan S (ad 0) p = if vin p np then some (.inl ()) else some (.inr 1) := by
  simp only [f_X11_requirePlan, lt_e, jn_e, c.r, r_b0_0 c.t c.hb, c.T.1]
  have hp := c.hp
  have h := ix_iff p (n := np) (by omega)
  rw [← vin_iff] at h
  by_cases h1 : p < 0
  · simp only [h1, if_true]
    cases hv : vin p np
    · rfl
    · exact absurd h1 (h.mpr hv).1
  · simp only [h1, if_false]
    by_cases h2 : nI np ≤ p
    · have hv : ¬ vin p np = true := fun hv => absurd h2 (h.mpr hv).2
      have h3 : ¬ p < nI np := Int32.not_lt.mpr h2
      simp [h2, h3, hv]
    · have hv := h.mp ⟨h1, h2⟩
      have h3 : p < nI np := Int32.not_le.mp h2
      simp [h2, h3, hv]
theorem C_contains (S : St) (p q : Int32) : f_X3_contains S p q = some (bI (vin p 30 && vin q 30)) := by
  simp only [f_X3_contains, jn_e]
  have h1 := ix_iff p (n := 30) (by decide)
  have h2 := ix_iff q (n := 30) (by decide)
  rw [← vin_iff, show nI 30 = (30 : Int32) from rfl] at h1 h2
  by_cases a1 : p < 0
  · have : vin p 30 = false := by cases hv : vin p 30; rfl; exact absurd a1 (h1.mpr hv).1
    simp [a1, this, bI]
  · by_cases a2 : (30 : Int32) ≤ p
    · have : vin p 30 = false := by cases hv : vin p 30; rfl; exact absurd a2 (h1.mpr hv).2
      simp [a1, a2, this, bI]
    · by_cases a3 : q < 0
      · have : vin q 30 = false := by cases hv : vin q 30; rfl; exact absurd a3 (h2.mpr hv).1
        simp [a1, a2, a3, this, bI]
      · by_cases a4 : (30 : Int32) ≤ q
        · have : vin q 30 = false := by cases hv : vin q 30; rfl; exact absurd a4 (h2.mpr hv).2
          simp [a1, a2, a3, a4, this, bI]
        · simp [a1, a2, a3, a4, h1.mp ⟨a1, a2⟩, h2.mp ⟨a3, a4⟩, bI]
theorem C_sizeOf (c : CV S ad b v np nf no mo) (p : Int32) : f_X3_sizeOf S (ad (b + 2)) p = some (mArea v p) := by
  simp only [f_X3_sizeOf, lt_e, jn_e, r_b2_0 c.t c.hb]
  refine lp_for0 (fun (k : Int32 → Int32 → Option Int32) i s => k s (nI i)) _ _ 900 (by decide) _ some (fun _ _ => True) 0 trivial ?_ (fun _ _ _ _ => trivial) ?_
  · intro k i s hi _
    rw [if_neg (ge900 hi), ldI_at (by rw [n_b12 c.t c.hb]; exact hi) (by rw [n_b12 c.t c.hb]; decide), c.G i hi]
    simp only [tl_eq]
    by_cases hc : gI S (ad (b + 12)) i = p <;> simp [hc, nI_1]
  · intro k s _
    rw [if_pos le900]
theorem C_area (c : CV S ad b v np nf no mo) (p : Int32) : f_X11_area S (ad 0) p = if vin p nf then some (.inl (mArea v p)) else some (.inr 1) := by
  simp only [f_X11_area, C_reqF c, lt_e, c.r, r_b0_1 c.t c.hb, C_sizeOf c, cl_s]
  cases vin p nf <;> rfl
