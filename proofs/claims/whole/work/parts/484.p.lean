/-! the pure part: an outlet's statement -/
variable {S S0 S1 S2 S' S'' S3 X Y : St} {ad : Nat → Nat} {b d j k : Nat} {v v0 v' v1 v2 u u' w : Nat → Int64} {np nf no mo no' mo' x y : Nat}
theorem opD_k {f : Int32} (t : TR S ad) : KCx S (opD S ad d no f x y) ad (fun p => p = d + 3 ∨ (d + 15 ≤ p ∧ p ≤ d + 18)) := by
  unfold opD
  have k1 : KCx S (uI S (ad (d + 15)) no f) ad (fun p => p = d + 3 ∨ (d + 15 ≤ p ∧ p ≤ d + 18)) := KCx_uI t (Or.inr (by omega))
  have k2 := k1.tr (KCx_uI (p := d + 16) (i := no) (w := nI x) (k1.t t) (Or.inr (by omega)))
  have k3 := k2.tr (KCx_uI (p := d + 17) (i := no) (w := nI y) (k2.t t) (Or.inr (by omega)))
  have k4 := k3.tr (KCx_uJ (p := d + 18) (i := no) (w := 0) (k3.t t) (Or.inr (by omega)))
  exact k4.tr (KCx_uI (p := d + 3) (i := 4) (w := nI (no + 1)) (k4.t t) (Or.inl rfl))
theorem lN_m1 {f : Nat} (h : f < 2 ^ 31) : lN f ≠ -1 := fun z => by
  rw [← nI_l h, ← tl_m1, tl_eq] at z
  exact nI_m1 h z
theorem DV_op {f : Nat} (c : DV S ad d u np nf no) (hno : no < 16) (hf : f < nf) (hx : x < 30) (hy : y < 30) (hown : u (250 + (30 * y + x)) = lN f) : DV (opD S ad d no (nI f) x y) ad d (opV u no f x y) np nf (no + 1) := by
  have h8 := c.hf
  have h4 := c.hp
  have hd := c.hd
  have kk := opD_k (d := d) (no := no) (x := x) (y := y) (f := nI f) c.t
  have A : ∀ q, ¬ (q = 3 ∨ (15 ≤ q ∧ q ≤ 18)) → Ag S (opD S ad d no (nI f) x y) ad (d + q) := fun q hq => kk.2 _ (fun (z : d + q = d + 3 ∨ (d + 15 ≤ d + q ∧ d + q ≤ d + 18)) => by omega)
  have hv : ∀ i, i ≠ 3 → (i < 186 ∨ 250 ≤ i) → opV u no f x y i = u i := fun i h1 h2 => opV_n h1 (by omega)
  have n0 : opV u no f x y (186 + 4 * no + 0) = lN f := by unfold opV; rw [udt_n (by omega), udt_n (by omega), udt_n (by omega), udt_n (by omega), udt_e]
  have n1 : opV u no f x y (186 + 4 * no + 1) = lN x := by unfold opV; rw [udt_n (by omega), udt_n (by omega), udt_n (by omega), udt_e]
  have n2 : opV u no f x y (186 + 4 * no + 2) = lN y := by unfold opV; rw [udt_n (by omega), udt_n (by omega), udt_e]
  have n3 : opV u no f x y (186 + 4 * no + 3) = 0 := by unfold opV; rw [udt_n (by omega), udt_e]
  have n4 : opV u no f x y 3 = lN (no + 1) := by unfold opV; rw [udt_e]
  have old : ∀ o q, o < no → q < 4 → opV u no f x y (186 + 4 * o + q) = u (186 + 4 * o + q) := fun o q ho hq => opV_n (by omega) (by omega)
  obtain ⟨a1, ap, af, ao, ac, ad0, as, ar⟩ := c.w
  obtain ⟨z1, z2, z3, z4⟩ := c.Z
  refine ⟨⟨kk.t c.t, trivial, by rw [hv 1 (by omega) (by omega)]; exact c.u1, by rw [hv 2 (by omega) (by omega)]; exact c.u2, n4, by rw [hv 0 (by omega) (by omega)]; exact c.u0, h4, h8, by omega, by omega⟩, hd, ⟨?_, fun q hq => by rw [hv _ (by omega) (by omega)]; exact ap q hq, fun g hg => ?_, fun o ho => ?_, fun c' hc => by rw [hv _ (by omega) (by omega)]; exact ac c' hc, fun i hi => by rw [hv _ (by omega) (by omega)]; exact ad0 i hi, ?_, fun k g hk hg => absurd hk (by omega)⟩, WS_w (fun f q hf hq => hv _ (by omega) (by omega)) (hv 11 (by omega) (by omega)) c.ws, AXT_w (fun i hi => hv i (by omega) (by omega)) h4 (AXT_c (fun q h => A q (by omega)) c.T), AXG_w (fun i hi => hv i (by omega) (by omega)) (AXG_c (A 12 (by omega)) c.G), ⟨?_, fun o ho => ?_⟩, AXN_w (fun f hf => hv _ (by omega) (by omega)) (AXN_c (fun q h => A q (by omega)) c.N), AXF_w (fun f q hf h => hv _ (by omega) (by omega)) (AXF_c (fun q h => A q (by omega)) c.F), AXR_w (fun f q hf h => hv _ (by omega) (by omega)) (AXR_c (fun q h => A q (by omega)) c.R), AXB_w (fun i hi => hv i (by omega) (by omega)) (fun f q hf h => hv _ (by omega) (by omega)) h8 (by omega) (AXB_c (fun q h => A q (by omega)) c.B), ZR_c (fun q h => A q (by omega)) ⟨fun f q h1 h2 h3 => by rw [hv _ (by omega) (by omega)]; exact z1 f q h1 h2 h3, fun p q h1 h2 h3 => by rw [hv _ (by omega) (by omega)]; exact z2 p q h1 h2 h3, fun o h => ?_, z4⟩⟩
  · rw [hv 4 (by omega) (by omega), hv 5 (by omega) (by omega), hv 6 (by omega) (by omega), hv 7 (by omega) (by omega), hv 8 (by omega) (by omega), hv 9 (by omega) (by omega)]; exact a1
  · rw [hv _ (by omega) (by omega), hv _ (by omega) (by omega), hv _ (by omega) (by omega), hv _ (by omega) (by omega)]; exact af g hg
  · by_cases h : o = no
    · subst h
      refine ⟨⟨x, y, hx, hy, n1, n2, Or.inr ⟨f, hf, n0, ?_⟩⟩, 0, by omega, n3⟩
      rw [hv _ (by omega) (by omega)]; exact hown
    · obtain ⟨⟨x', y', hx', hy', e1, e2, e3⟩, s, hs, e4⟩ := ao o (by omega)
      rw [old o 0 (by omega) (by decide), old o 1 (by omega) (by decide), old o 2 (by omega) (by decide), old o 3 (by omega) (by decide)]
      refine ⟨⟨x', y', hx', hy', e1, e2, ?_⟩, s, hs, e4⟩
      rw [hv (250 + (30 * y' + x')) (by omega) (by omega)]; exact e3
  · rw [hv 11 (by omega) (by omega), hv 12 (by omega) (by omega), hv 13 (by omega) (by omega)]; exact as
  · unfold opD; rw [gI_i c.t.1, if_pos ⟨rfl, rfl⟩]
  · have e : ∀ q, 15 ≤ q ∧ q ≤ 18 → ¬ (d + q = d + 3) := fun q hq => by omega
    simp only [opD, gI_i c.t.1, gJ_i c.t.1, gI_uJ, gJ_uI]
    by_cases h : o = no
    · subst h
      rw [n0, n1, n2, n3]
      simp only [e 15 (by omega), e 16 (by omega), e 17 (by omega), false_and, if_false]
      have f1 : ¬ (d + 15 = d + 16) := by omega
      have f2 : ¬ (d + 15 = d + 17) := by omega
      have f3 : ¬ (d + 16 = d + 17) := by omega
      simp only [f1, f2, f3, false_and, if_false, and_self, if_true, nI_l (show f < 2 ^ 31 by omega), nI_l (show x < 2 ^ 31 by omega), nI_l (show y < 2 ^ 31 by omega)]
    · rw [old o 0 (by omega) (by decide), old o 1 (by omega) (by decide), old o 2 (by omega) (by decide), old o 3 (by omega) (by decide)]
      simp only [e 15 (by omega), e 16 (by omega), e 17 (by omega), h, and_false, false_and, if_false]
      exact c.O.2 o (by omega)
  · by_cases e : o = no
    · subst e; rw [n0]; exact lN_m1 (by omega)
    · rw [old o 0 (by omega) (by decide)]; exact z3 o (by omega)
theorem nr_0 {x y : Nat} : ∀ no, nr v no (-1) x y = 0 ↔ ∃ o, o < no ∧ v (186 + 4 * o + 0) ≠ -1 ∧ ox v o = x ∧ oy v o = y := by
  intro no
  induction no with
  | zero =>
    constructor
    · intro h; exact absurd h (by show ¬ (1000 : Nat) = 0; decide)
    · rintro ⟨o, h, -⟩; omega
  | succ n ih =>
    have e : nr v (n + 1) (-1) x y = nrS v (-1) x y n (nr v n (-1) x y) := by unfold nr; rw [itr_succ, Nat.zero_add]
    rw [e, nrS]
    have d0 : dst x y (ox v n) (oy v n) = 0 ↔ (ox v n = x ∧ oy v n = y) := by unfold dst; omega
    by_cases hc : v (186 + 4 * n + 0) = -1
    · have z : oc v (-1) n = false := by unfold oc; rw [decide_eq_true hc]; rfl
      rw [z, if_neg (by decide), ih]
      constructor
      · rintro ⟨o, h1, h2⟩; exact ⟨o, by omega, h2⟩
      · rintro ⟨o, h1, h2, h3⟩
        by_cases ho : o = n
        · subst ho; exact absurd hc h2
        · exact ⟨o, by omega, h2, h3⟩
    · have z : oc v (-1) n = true := by unfold oc; rw [decide_eq_false hc, decide_eq_true (show (-1 : Int32) = -1 from rfl)]; rfl
      rw [z, if_pos rfl]
      by_cases hd : dst x y (ox v n) (oy v n) < nr v n (-1) x y
      · rw [if_pos hd, d0]
        constructor
        · intro h; exact ⟨n, by omega, hc, h⟩
        · rintro ⟨o, h1, h2, h3⟩
          by_cases ho : o = n
          · subst ho; exact h3
          · have := ih.mpr ⟨o, by omega, h2, h3⟩; omega
      · rw [if_neg hd]
        constructor
        · intro h
          obtain ⟨o, h1, h2⟩ := ih.mp h
          exact ⟨o, by omega, h2⟩
        · rintro ⟨o, h1, h2, h3⟩
          by_cases ho : o = n
          · subst ho
            have := d0.mpr h3
            omega
          · exact ih.mpr ⟨o, by omega, h2, h3⟩
/-- the reference looks for an outlet in a cell -/
theorem M_hor (t : TR X ad) (hv : gJ X (ad 3) = dV v u) (u3 : u 3 = lN no) (ho : no ≤ 16) (w : WF u np nf no 0) (zo : ∀ o, o < no → u (186 + 4 * o + 0) ≠ -1) (hx : x < 30) (hy : y < 30) : f_X12_hasOutletRead X (ad 1) (nI x) (nI y) = some (bI (decide (nr u no (-1) x y = 0))) := by
  have l3 : ∀ (K : Int64 → Option Int32), ldJ X (ad 3) 15165 K = K (lN no) := fun K => by rw [ld3d t hv (i := 15165) (k := 3) rfl (by decide), u3]
  unfold f_X12_hasOutletRead
  refine lp_ex2 (fun (k : Int32 → Option Int32) i (_ : Unit) => k (nI i)) _ _ no (fun i _ => ∀ o, o < i → ¬ (ox u o = x ∧ oy u o = y)) (fun r => r = some (bI (decide (nr u no (-1) x y = 0)))) ?_ ?_ no FU 0 () (by omega) (fun o h => absurd h (by omega)) (show no < 6000 by omega)
  · intro k i _ hi hJ
    obtain ⟨h1, h2, e1, e2⟩ := oxy w hi
    have c1 : ¬ lN no ≤ (nI i).toInt64 := by rw [nI_l (by omega), lN_le (by omega) (by omega)]; omega
    have i1 : (15348 + 4 * nI i : Int32) + 1 = nI (15162 + (186 + 4 * i + 1)) := by rw [mu4, show (15348 : Int32) = nI 15348 from rfl, show (1 : Int32) = nI 1 from rfl, nI_add, nI_add, show 15348 + 4 * i + 1 = 15162 + (186 + 4 * i + 1) by omega]
    have i2 : (15348 + 4 * nI i : Int32) + 2 = nI (15162 + (186 + 4 * i + 2)) := by rw [mu4, show (15348 : Int32) = nI 15348 from rfl, show (2 : Int32) = nI 2 from rfl, nI_add, nI_add, show 15348 + 4 * i + 2 = 15162 + (186 + 4 * i + 2) by omega]
    have ld1 : ∀ (K : Int64 → Option Int32), ldJ X (ad 3) (15348 + 4 * nI i + 1) K = K (lN (ox u i)) := fun K => by rw [ld3d t hv i1 (by omega), e1]
    have ld2 : ∀ (K : Int64 → Option Int32), ldJ X (ad 3) (15348 + 4 * nI i + 2) K = K (lN (oy u i)) := fun K => by rw [ld3d t hv i2 (by omega), e2]
    have q1 : (lN (ox u i) = (nI x).toInt64) = (ox u i = x) := by rw [nI_l (by omega)]; exact propext (lN_eq (by omega) (by omega))
    have q2 : (lN (oy u i) = (nI y).toInt64) = (oy u i = y) := by rw [nI_l (by omega)]; exact propext (lN_eq (by omega) (by omega))
    simp only [lt_n, r_1_0 t, l3, c1, if_false, ld1, jn_n, q1, ld2, q2, da1]
    by_cases a1 : ox u i = x
    · by_cases a2 : oy u i = y
      · left
        rw [if_pos a1, if_pos a2, decide_eq_true ((nr_0 no).mpr ⟨i, hi, zo i hi, a1, a2⟩)]; rfl
      · right
        refine ⟨(), fun o ho' => ?_, by rw [if_pos a1, if_neg a2]⟩
        by_cases e : o = i
        · subst e; exact fun z => a2 z.2
        · exact hJ o (by omega)
    · right
      refine ⟨(), fun o ho' => ?_, by rw [if_neg a1]⟩
      by_cases e : o = i
      · subst e; exact fun z => a1 z.1
      · exact hJ o (by omega)
  · intro k _ hJ
    have c1 : lN no ≤ (nI no).toInt64 := by rw [nI_l (by omega), lN_le (by omega) (by omega)]; omega
    simp only [lt_n, r_1_0 t, l3, c1, if_true]
    rw [decide_eq_false (fun z => by obtain ⟨o, h1, -, h3⟩ := (nr_0 no).mp z; exact hJ o h1 h3)]; rfl
theorem R_fail2 {p : Nat} (t : TR X ad) (h14 : gI X (ad 1) 14 = nI p) {k : Nat} {i : Int32} (hi : i = nI k) : ∃ X', f_X12_fail X (ad 1) i = some (0, X') ∧ RFl X X' ad P0 Qf k p := by
  have t1 : TR (uI X (ad 1) 11 i) ad := TR_SR0 (SR0_uI _ _ _ _) t
  have g14 : gI (uI X (ad 1) 11 i) (ad 1) 14 = nI p := by rw [gI_uI, if_neg (fun z => absurd z.2 (by decide))]; exact h14
  refine ⟨uI (uI X (ad 1) 11 i) (ad 1) 12 (nI p), by simp only [f_X12_fail, lt_n, g14], (RX_u1 t (by unfold Qf; omega)).tr (RX_u1 t1 (by unfold Qf; omega)), ?_, ?_⟩
  · rw [gI_uI, if_neg (fun z => absurd z.2 (by decide)), gI_uI, if_pos ⟨rfl, rfl⟩, hi]
  · rw [gI_uI, if_pos ⟨rfl, rfl⟩]
theorem M_put3 {f x y : Nat} (t : TR X ad) (hv : gJ X (ad 3) = dV v u) (u3 : u 3 = lN no) (hno : no < 16) (hf : f < 30) (hx : x < 30) (hy : y < 30) : f_X12_putOutlet X (ad 1) 3 (nI f) (nI x) (nI y) = some (uJ (uJ (uJ (uJ (uJ X (ad 3) (15162 + (186 + 4 * no + 0)) (lN f)) (ad 3) (15162 + (186 + 4 * no + 1)) (lN x)) (ad 3) (15162 + (186 + 4 * no + 2)) (lN y)) (ad 3) (15162 + (186 + 4 * no + 3)) 0) (ad 3) (15162 + 3) (lN (no + 1))) := by
  have g1 := g3d hv (k := 186 + 4 * no + 0) (by omega) (lN f)
  have g2 := g3d g1 (k := 186 + 4 * no + 1) (by omega) (lN x)
  have g3 := g3d g2 (k := 186 + 4 * no + 2) (by omega) (lN y)
  have g4 := g3d g3 (k := 186 + 4 * no + 3) (by omega) 0
  have t1 := TR_SR0 (SR0_uJ X (ad 3) (15162 + (186 + 4 * no + 0)) (lN f)) t
  have t2 := TR_SR0 (SR0_uJ _ (ad 3) (15162 + (186 + 4 * no + 1)) (lN x)) t1
  have t3 := TR_SR0 (SR0_uJ _ (ad 3) (15162 + (186 + 4 * no + 2)) (lN y)) t2
  have t4 := TR_SR0 (SR0_uJ _ (ad 3) (15162 + (186 + 4 * no + 3)) 0) t3
  have ix : ∀ (q : Nat), nI (15348 + 4 * no) + nI q = nI (15162 + (186 + 4 * no + q)) := fun q => by rw [nI_add, show 15348 + 4 * no + q = 15162 + (186 + 4 * no + q) by omega]
  have x0' : nI (15348 + 4 * no) + 0 = nI (15162 + (186 + 4 * no + 0)) := ix 0
  have x1' : nI (15348 + 4 * no) + 1 = nI (15162 + (186 + 4 * no + 1)) := ix 1
  have x2' : nI (15348 + 4 * no) + 2 = nI (15162 + (186 + 4 * no + 2)) := ix 2
  have x3' : nI (15348 + 4 * no) + 3 = nI (15162 + (186 + 4 * no + 3)) := ix 3
  have i0 : (5054 * 3 + 186 : Int32) + 4 * nI no = nI (15348 + 4 * no) := by rw [mu4, show (5054 * 3 + 186 : Int32) = nI 15348 by decide, nI_add]
  have i3 : (5054 * 3 + 3 : Int32) = nI (15162 + 3) := by decide
  have e3 : udt (udt (udt (udt u (186 + 4 * no + 0) (lN f)) (186 + 4 * no + 1) (lN x)) (186 + 4 * no + 2) (lN y)) (186 + 4 * no + 3) 0 3 = lN no := by
    rw [udt_n (by omega), udt_n (by omega), udt_n (by omega), udt_n (by omega)]; exact u3
  have f0 : (nI f).toInt64 = lN f := nI_l (by omega)
  have x0 : (nI x).toInt64 = lN x := nI_l (by omega)
  have y0 : (nI y).toInt64 = lN y := nI_l (by omega)
  simp only [f_X12_putOutlet, lt_n, r_1_0 t, f0, x0, y0]
  rw [ld3d t hv i3 (by decide), u3, lN_i, i0, st3d t x0' (by omega), r_1_0 t1, st3d t1 x1' (by omega), r_1_0 t2, st3d t2 x2' (by omega), r_1_0 t3, st3d t3 x3' (by omega), r_1_0 t4, ld3d t4 g4 i3 (by decide), e3, lN_1, st3d t4 i3 (by decide)]
def fre (u : Nat → Int64) (no : Nat) (w : Int32) (x y : Nat) : Bool := decide (u (250 + (30 * y + x)) = w.toInt64) && !decide (nr u no (-1) x y = 0)
def eFre (u : Nat → Int64) (no : Nat) (w : Int32) (x y p : Nat) : Option (Nat × Nat) := if fre u no w x y then none else some (5, p)
/-- the reference reads an outlet -/
theorem R_outl {B : Nat → Int32} {n e e1 e2 e3 e4 x y : Nat} (r : RS X ad B n e) (hv : gJ X (ad 3) = dV v u) (hk : tkK B n e ≠ 5) (he1 : e1 = tkR B n e) (he2 : e2 = tkR B n e1) (he3 : e3 = tkR B n e2) (he4 : e4 = tkR B n e3) (hx : x = vNum B n e2 0 29) (hy : y = vNum B n e3 0 29) (ho : no < 16) (h8 : nf ≤ 8) (u2 : u 2 = lN nf) (u3 : u 3 = lN no) (w : WF u np nf no 0) (zo : ∀ o, o < no → u (186 + 4 * o + 0) ≠ -1) : (∃ f, f < nf ∧ nmX B n e1 u nf = nI f ∧ qor (qor (qor (eNm B n e1 u nf true) (eNum B n e2 0 29)) (eNum B n e3 0 29)) (eFre u no (nI f) x y (tkS B n e3)) = none ∧ ∃ X1, RD X X1 ad B n e4 v (opV u no f x y) ∧ ∀ r X2, f_X12_readEnd X1 (ad 1) = some (r, X2) → r = 0 ∨ r = 1 → f_X12_readOutlet X (ad 1) = some (r, X2)) ∨ (∃ c p, qor (qor (qor (eNm B n e1 u nf true) (eNum B n e2 0 29)) (eNum B n e3 0 29)) (eFre u no (nmX B n e1 u nf) x y (tkS B n e3)) = some (c, p) ∧ ∃ X', f_X12_readOutlet X (ad 1) = some (0, X') ∧ RFd X X' ad v c p) := by
  have he := r.2.2.2.2.2.2.2
  have y0 := tkR_le (B := B) he
  rw [← he1] at y0
  have y1 := tkR_le (B := B) y0.2
  rw [← he2] at y1
  have y2 := tkR_le (B := B) y1.2
  rw [← he3] at y2
  have t0 := r.1.1
  have l3 : ∀ (K : Int64 → Option (Int32 × St)), ldJ X (ad 3) 15165 K = K (lN no) := fun K => by rw [ld3d t0 hv (i := 15165) (k := 3) rfl (by decide), u3]
  have n16 : ¬ lN no = (16 : Int64) := by rw [show (16 : Int64) = lN 16 from rfl, lN_eq (by omega) (by decide)]; omega
  have hx30 : x < 30 := by have := (vNum_ok (B := B) (a := 0) y1.2 (show 29 < 2 ^ 31 by decide) (hi := 29) rfl (by omega)).2; omega
  have hy30 : y < 30 := by have := (vNum_ok (B := B) (a := 0) y2.2 (show 29 < 2 ^ 31 by decide) (hi := 29) rfl (by omega)).2; omega
  obtain ⟨X1, m1, r1, x1, -⟩ := R_ad r hk
  rw [← he1] at r1
  have rd1 := RD_mk r1 x1 hv
  rcases R_nmD r1 rd1.2.2 u2 h8 with ⟨z1, f, X2, hf, hnm, m2, r2, x2⟩ | ⟨cc, z1, -, X2, m2, f2⟩
  · rw [← he2] at r2
    have rd2 := rd1.tr (RD_mk r2 x2 rd1.2.2)
    have fm : ¬ nI f = -1 := nI_m1 (by omega)
    rcases R_num r2 (a := 0) (by omega) 29 (i := 0) rfl with ⟨z2, X3, m3, r3, x3, g3⟩ | ⟨cc, z2, -, X3, m3, f3⟩
    · rw [← he3] at r3
      rw [← hx] at g3
      have rd3 := rd2.tr (RD_mk r3 x3 rd2.2.2)
      have h14 : gI X3 (ad 1) 14 = nI (tkS B n e3) := r3.2.2.1
      rcases R_num r3 (a := 0) (by omega) 29 (i := 0) rfl with ⟨z3, X4, m4, r4, x4, g4⟩ | ⟨cc, z3, -, X4, m4, f4⟩
      · rw [← he4] at r4
        rw [← hy] at g4
        have rd4 := rd3.tr (RD_mk r4 x4 rd3.2.2)
        have t4 := r4.1.1
        have ic : (15412 + 30 * nI y : Int32) + nI x = nI (15162 + (250 + (30 * y + x))) := by rw [mu30, show (15412 : Int32) = nI 15412 from rfl, nI_add, nI_add, show 15412 + 30 * y + x = 15162 + (250 + (30 * y + x)) by omega]
        have lc : ∀ (K : Int64 → Option (Int32 × St)), ldJ X4 (ad 3) (15412 + 30 * nI y + nI x) K = K (u (250 + (30 * y + x))) := fun K => ld3d t4 rd4.2.2 ic (by omega)
        have hor := M_hor t4 rd4.2.2 u3 (by omega) w zo hx30 hy30
        have base : f_X12_readOutlet X (ad 1) = if u (250 + (30 * y + x)) = (nI f).toInt64 then (if bI (decide (nr u no (-1) x y = 0)) = 0 then (cl (f_X12_putOutlet X4 (ad 1) 3 (nI f) (nI x) (nI y)) fun (S21 : St) => cl (f_X12_readEnd S21 (ad 1)) fun (o22 : Int32 × St) => zc o22.1 (some (o22.1, o22.2))) else (cl (f_X12_fail (uI X4 (ad 1) 14 (nI (tkS B n e3))) (ad 1) 5) fun (o17 : Int32 × St) => zc o17.1 (some (o17.1, o17.2)))) else (cl (f_X12_fail (uI X4 (ad 1) 14 (nI (tkS B n e3))) (ad 1) 5) fun (o17 : Int32 × St) => zc o17.1 (some (o17.1, o17.2))) := by
          simp only [f_X12_readOutlet, lt_n, r_1_0 t0, l3, n16, if_false, m1, cl_n, m2, fm, m3, i10, g3, h14, m4, r_1_0 t4, g4, lc, jn_n, hor]
        have t5 : TR (uI X4 (ad 1) 14 (nI (tkS B n e3))) ad := TR_SR0 (SR0_uI _ _ _ _) t4
        obtain ⟨X5, m5, f5⟩ := R_fail2 (X := uI X4 (ad 1) 14 (nI (tkS B n e3))) (p := tkS B n e3) t5 (by rw [gI_uI, if_pos ⟨rfl, rfl⟩]) (k := 5) (i := 5) rfl
        have fl5 : RFd X X5 ad v 5 (tkS B n e3) := rd4.fd (RFl.pre (RX_u1 (P := P0) t4 (by unfold Qf; omega)) f5)
        by_cases a1 : u (250 + (30 * y + x)) = (nI f).toInt64
        · by_cases a2 : nr u no (-1) x y = 0
          · have fr : fre u no (nI f) x y = false := by unfold fre; rw [decide_eq_true a2]; simp
            refine Or.inr ⟨5, tkS B n e3, by rw [z1, z2, z3, hnm, eFre, fr]; rfl, X5, ?_, fl5⟩
            rw [base, if_pos a1, decide_eq_true a2, if_neg (by decide), m5, cl_n, zc_0]
          · have fr : fre u no (nI f) x y = true := by unfold fre; rw [decide_eq_true a1, decide_eq_false a2]; rfl
            have mp := M_put3 t4 rd4.2.2 u3 ho (show f < 30 by omega) hx30 hy30
            have q1 := RD_st (k := 186 + 4 * no + 0) (w := lN f) rd4 (by omega)
            have q2 := RD_st (k := 186 + 4 * no + 1) (w := lN x) q1 (by omega)
            have q3 := RD_st (k := 186 + 4 * no + 2) (w := lN y) q2 (by omega)
            have q4 := RD_st (k := 186 + 4 * no + 3) (w := 0) q3 (by omega)
            have q5 := RD_st (k := 3) (w := lN (no + 1)) q4 (by decide)
            refine Or.inl ⟨f, hf, hnm, by rw [z1, z2, z3, eFre, fr]; rfl, _, q5, fun r9 X9 m9 h9 => ?_⟩
            rw [base, if_pos a1, decide_eq_false a2, if_pos (by decide), mp, cl_n, m9, cl_n, zc_w h9]
        · have fr : fre u no (nI f) x y = false := by unfold fre; rw [decide_eq_false a1]; rfl
          refine Or.inr ⟨5, tkS B n e3, by rw [z1, z2, z3, hnm, eFre, fr]; rfl, X5, ?_, fl5⟩
          rw [base, if_neg a1, m5, cl_n, zc_0]
      · refine Or.inr ⟨cc, tkS B n e3, by rw [z1, z2, z3]; rfl, X4, ?_, rd3.fd f4⟩
        simp only [f_X12_readOutlet, lt_n, r_1_0 t0, l3, n16, if_false, m1, cl_n, m2, fm, m3, i10, m4, if_true]
    · refine Or.inr ⟨cc, tkS B n e2, by rw [z1, z2]; rfl, X3, ?_, rd2.fd f3⟩
      simp only [f_X12_readOutlet, lt_n, r_1_0 t0, l3, n16, if_false, m1, cl_n, m2, fm, m3, if_true]
  · refine Or.inr ⟨cc, tkS B n e1, by rw [z1]; rfl, X2, ?_, rd1.fd f2⟩
    simp only [f_X12_readOutlet, lt_n, r_1_0 t0, l3, n16, if_false, m1, cl_n, m2, if_true]
theorem ST_3 {B : Nat → Int32} {n e : Nat} (h : LGt S ad B n e none) (c : DV S ad d u np nf no) (hk1 : tkK B n e = 1) (hs : stW B n e = 3) (hw : isW B n e 3 = true) (hf : ∀ j, j < 3 → isW B n e j = false) : ST2 S ad d v u B n e (f_X7_readStatement S (ad 12) (ad d)) (fun X => f_X12_readStatement X (ad 1)) := by
  have he := h.2.2.2.2.2.1
  have hd := c.hd
  have hb := c.hb
  have hf8 := c.hf
  have ho := c.ho
  have stC : ∀ Z, f_X7_readOutlet S (ad 12) (ad d) = some Z → f_X7_readStatement S (ad 12) (ad d) = (cl (f_X9_endStatement Z (ad 12)) fun S5 => some S5) := fun Z hz => by
    simp only [f_X7_readStatement, L_isF h (i := 0) (by decide) (hf 0 (by decide)), L_isF h (i := 1) (by decide) (hf 1 (by decide)), L_isF h (i := 2) (by decide) (hf 2 (by decide)), L_isT h (i := 3) (by decide) hw, cl_n, jn_n, if_true, i10, if_false, hz]
  have stM : ∀ X, RS X ad B n e → ∀ r X2, (r = 0 ∨ r = 1) → f_X12_readOutlet X (ad 1) = some (r, X2) → f_X12_readStatement X (ad 1) = some (r, X2) := fun X r q X2 hq hz => by
    simp only [f_X12_readStatement, R_stat r, hs, cl_n, dq30, dq31, dq32, if_false, if_true, hz, zc_w hq]
  by_cases h16 : no < 16
  · obtain ⟨e1, he1⟩ : ∃ e1, e1 = tkR B n e := ⟨_, rfl⟩
    obtain ⟨e2, he2⟩ : ∃ e2, e2 = tkR B n e1 := ⟨_, rfl⟩
    obtain ⟨e3, he3⟩ : ∃ e3, e3 = tkR B n e2 := ⟨_, rfl⟩
    obtain ⟨e4, he4⟩ : ∃ e4, e4 = tkR B n e3 := ⟨_, rfl⟩
    have y0 := tkR_le (B := B) he
    have p1' := tkR_lt he hk1
    rw [← he1] at y0 p1'
    have y1 := tkR_le (B := B) y0.2
    rw [← he2] at y1
    have y2 := tkR_le (B := B) y1.2
    rw [← he3] at y2
    have y3 := tkR_le (B := B) y2.2
    rw [← he4] at y3
    have hls := h.ls
    rw [← he1] at hls
    obtain ⟨w, S1, a1, b1, c1, w1, w2⟩ := L_name hls hb hf8 c.N true (p2 := 1) rfl
    rw [qor_0] at c1
    have hl1 := c1.ls
    rw [← he2] at hl1
    have d1 := DV_12 b1 c
    obtain ⟨S2, a2, b2, c2⟩ := L_num hl1 (a := 0) (by omega) 29 (i := 0) rfl
    have hl2 := c2.ls
    rw [← he3] at hl2
    have d2 := DV_12 b2 d1
    obtain ⟨S3, a3, b3, c3⟩ := L_num hl2 (a := 0) (by omega) 29 (i := 0) rfl
    have d3 := DV_12 b3 d2
    have kk := (b1.tr b2).tr b3
    obtain ⟨x, hx⟩ : ∃ x, x = vNum B n e2 0 29 := ⟨_, rfl⟩
    obtain ⟨y, hy⟩ : ∃ y, y = vNum B n e3 0 29 := ⟨_, rfl⟩
    rw [← hx] at a2
    rw [← hy] at a3
    have hx30 : x < 30 := by have := (vNum_ok (B := B) (a := 0) y1.2 (show 29 < 2 ^ 31 by decide) (hi := 29) rfl (by omega)).2; omega
    have hy30 : y < 30 := by have := (vNum_ok (B := B) (a := 0) y2.2 (show 29 < 2 ^ 31 by decide) (hi := 29) rfl (by omega)).2; omega
    have g16 : nI no < (16 : Int32) := by rw [show (16 : Int32) = nI 16 from rfl, nI_ltI (by omega) (by omega)]; exact h16
    have fr := D_free d3 w hx30 hy30
    obtain ⟨S4, e4', b4, c4⟩ : ∃ S4, f_X7_readOutlet S (ad 12) (ad d) = (cl (f_X6_add S4 (ad (d + 3)) w (nI x) (nI y)) fun (o15 : Int32 × St) => some o15.2) ∧ KCx S3 S4 ad P12 ∧ LGt S4 ad B n e3 (qor (qor (qor (eNm B n e1 u nf true) (eNum B n e2 0 29)) (eNum B n e3 0 29)) (eFre u no w x y (tkS B n e3))) := by
      cases hfr : fre u no w x y with
      | true =>
        refine ⟨S3, ?_, KCx.rf, by rw [eFre, hfr, if_pos rfl, qor_n]; exact c3⟩
        have hfr' : (decide (u (250 + (30 * y + x)) = w.toInt64) && !decide (nr u no (-1) x y = 0)) = true := hfr
        rw [hfr'] at fr
        have fr1 : f_X1_hasFreeCell S3 (ad d) w (nI x) (nI y) = some 1 := fr
        simp only [f_X7_readOutlet, lt_n, r_b0_2 c.t hb, c.O.1, g16, if_true, r_b0_3 c.t hb, a1, cl_n, a2, a3, fr1, jn_n, i10, if_false, r_b0_2 d3.t hb]
      | false =>
        obtain ⟨S4, a4, b4, c4⟩ := L_fail c3 (k := 5) (by omega) (i := 5) rfl
        refine ⟨S4, ?_, b4, by rw [eFre, hfr, if_neg (by decide)]; exact c4⟩
        have hfr' : (decide (u (250 + (30 * y + x)) = w.toInt64) && !decide (nr u no (-1) x y = 0)) = false := hfr
        rw [hfr'] at fr
        have fr1 : f_X1_hasFreeCell S3 (ad d) w (nI x) (nI y) = some 0 := fr
        simp only [f_X7_readOutlet, lt_n, r_b0_2 c.t hb, c.O.1, g16, if_true, r_b0_3 c.t hb, a1, cl_n, a2, a3, fr1, jn_n, a4, r_b0_2 (b4.t d3.t) hb]
    have d4 := DV_12 b4 d3
    have ad' := D_addO d4 (x := x) (y := y) w
    rw [if_pos h16] at ad'
    rw [ad', cl_n] at e4'
    have k5 := opD_k (d := d) (no := no) (x := x) (y := y) (f := w) d4.t
    have kA := ((kk.tr b4).mono (fun _ z => Or.inl z)).tr (k5.mono (Q := PD d) (fun p (z : p = d + 3 ∨ (d + 15 ≤ p ∧ p ≤ d + 18)) => Or.inr (by omega)))
    have l5 := LGs_c k5 (by omega) (by omega) c4.ls
    rw [← he4] at l5
    have qeq : qor (qor (qor (eNm B n e1 u nf true) (eNum B n e2 0 29)) (eNum B n e3 0 29)) (eFre u no w x y (tkS B n e3)) = qor (qor (qor (eNm B n e1 u nf true) (eNum B n e2 0 29)) (eNum B n e3 0 29)) (eFre u no (nmX B n e1 u nf) x y (tkS B n e3)) := by
      cases hn : eNm B n e1 u nf true with
      | none => rw [w2 hn]
      | some z => simp only [qor_s]
    rw [qeq] at l5
    cases hq : qor (qor (qor (eNm B n e1 u nf true) (eNum B n e2 0 29)) (eNum B n e3 0 29)) (eFre u no (nmX B n e1 u nf) x y (tkS B n e3)) with
    | none =>
      rw [hq] at l5
      obtain ⟨q1, q2⟩ := qor_none hq
      obtain ⟨q3, q4⟩ := qor_none q1
      obtain ⟨q5, q6⟩ := qor_none q3
      have hwn := w2 q5
      obtain ⟨f, hff, hfe⟩ : ∃ f, f < nf ∧ nmX B n e1 u nf = nI f := by
        rcases w1 with z | ⟨f, h1, h2⟩
        · exfalso
          rw [hwn] at z
          unfold eNm at q5
          by_cases hg : tkK B n e1 = 1 ∧ stW B n e1 = -1
          · rw [if_pos hg, decide_eq_true z, if_pos rfl] at q5; simp at q5
          · rw [if_neg hg] at q5; simp at q5
        · exact ⟨f, h1, by rw [← hwn]; exact h2⟩
      have own : u (250 + (30 * y + x)) = lN f := by
        rw [hfe] at q2
        unfold eFre at q2
        cases hfr : fre u no (nI f) x y with
        | false => rw [hfr, if_neg (by decide)] at q2; simp at q2
        | true =>
          unfold fre at hfr
          rw [Bool.and_eq_true, decide_eq_true_eq, nI_l (by omega)] at hfr
          exact hfr.1
      have wf : w = nI f := hwn.trans hfe
      have dd := DV_op d4 h16 hff hx30 hy30 own
      rw [wf] at l5 e4' kA
      refine ST_end (e1 := e4) (q := none) (by omega) kA l5 (stC _ e4') (fun _ => dd) (fun X r hv => ?_)
      rcases R_outl r hv (by omega) he1 he2 he3 he4 hx hy h16 hf8 c.u2 c.u3 c.w c.Z.2.2.1 with ⟨f', h1, h2, h3, X1, m1, m2⟩ | ⟨cc, p, z, -⟩
      · have ff : f' = f := nI_inj (by omega) (by omega) (h2.symm.trans hfe)
        subst ff
        exact Or.inl ⟨rfl, X1, m1, fun r9 X9 m9 h9 => stM X r _ _ h9 (m2 r9 X9 m9 h9)⟩
      · rw [hq] at z; simp at z
    | some cp =>
      obtain ⟨cc, p⟩ := cp
      rw [hq] at l5
      refine ST_end (e1 := e4) (q := some (cc, p)) (u' := u) (np' := np) (nf' := nf) (no' := no) (by omega) kA l5 (stC _ e4') (fun z => by simp at z) (fun X r hv => ?_)
      rcases R_outl r hv (by omega) he1 he2 he3 he4 hx hy h16 hf8 c.u2 c.u3 c.w c.Z.2.2.1 with ⟨f', h1, h2, h3, -⟩ | ⟨cc', p', z, X', m1, m2⟩
      · rw [← h2, hq] at h3; simp at h3
      · rw [hq] at z
        exact Or.inr ⟨cc', p', z, X', stM X r _ _ (Or.inl rfl) m1, m2⟩
  · have e16 : no = 16 := by omega
    subst e16
    obtain ⟨S1, a1, b1, c1⟩ := L_fail h (k := 4) (by omega) (i := 4) rfl
    obtain ⟨S2, a2, b2, c2⟩ := L_end c1.ls
    refine ⟨S2, ?_, (b1.tr b2).mono (fun _ z => Or.inl z), Or.inr ⟨4, tkS B n e, _, c2.ls, fun X r hv => ?_⟩⟩
    · rw [stC S1, a2, cl_n]
      have n8 : ¬ nI 16 < (16 : Int32) := by decide
      simp only [f_X7_readOutlet, lt_n, r_b0_2 c.t hb, c.O.1, n8, if_false, a1, cl_n]
    · obtain ⟨X', g1, g2⟩ := R_fail r (k := 4) (i := 4) rfl
      refine ⟨X', stM X r _ _ (Or.inl rfl) ?_, RFl.dd g2 hv⟩
      have l2 : ∀ (K : Int64 → Option (Int32 × St)), ldJ X (ad 3) 15165 K = K (lN 16) := fun K => by rw [ld3d r.1.1 hv (i := 15165) (k := 3) rfl (by decide), c.u3]
      have n8 : lN 16 = (16 : Int64) := rfl
      simp only [f_X12_readOutlet, lt_n, r_1_0 r.1.1, l2, n8, if_true, g1, cl_n, zc_0]
