/-! the pure part: an entry of the journal on both sides -/
variable {S S0 S1 S2 S' S'' S3 X Y : St} {ad : Nat → Nat} {b d j k : Nat} {v v0 v' v1 v2 u w : Nat → Int64} {np nf no mo no' mo' x y : Nat}
theorem m100 {a : Nat} (h : a < 2 ^ 31) : (nI a).toInt64 * 100 = 100 * (nI a).toInt64 := by rw [c100 h, nI_l h, show (100 : Int64) = lN 100 from rfl, lN_mul, Nat.mul_comm]
def PK (k p : Nat) : Prop := p = 12 ∨ (k ≤ p ∧ p ≤ k + 7)
def Qe (i : Nat) : Prop := Qt i ∨ i = 21
def Qef (i : Nat) : Prop := Qf i ∨ i = 21
theorem enW_r {B : Nat → Int32} {n e : Nat} : enW B n e = -1 ∨ (tkK B n e = 1 ∧ (enW B n e = 0 ∨ enW B n e = 1 ∨ enW B n e = 2 ∨ enW B n e = 3 ∨ enW B n e = 4 ∨ enW B n e = 5 ∨ enW B n e = 6)) := by
  by_cases hk : tkK B n e = 1
  · unfold enW
    by_cases h0 : isW B n e 10 = true
    · exact Or.inr ⟨hk, Or.inl (if_pos h0)⟩
    by_cases h1 : isW B n e 11 = true
    · exact Or.inr ⟨hk, Or.inr (Or.inl (by rw [if_neg h0, if_pos h1]))⟩
    by_cases h2 : isW B n e 12 = true
    · exact Or.inr ⟨hk, Or.inr (Or.inr (Or.inl (by rw [if_neg h0, if_neg h1, if_pos h2])))⟩
    by_cases h3 : isW B n e 13 = true
    · exact Or.inr ⟨hk, Or.inr (Or.inr (Or.inr (Or.inl (by rw [if_neg h0, if_neg h1, if_neg h2, if_pos h3]))))⟩
    by_cases h4 : isW B n e 14 = true
    · exact Or.inr ⟨hk, Or.inr (Or.inr (Or.inr (Or.inr (Or.inl (by rw [if_neg h0, if_neg h1, if_neg h2, if_neg h3, if_pos h4])))))⟩
    by_cases h5 : isW B n e 15 = true
    · exact Or.inr ⟨hk, Or.inr (Or.inr (Or.inr (Or.inr (Or.inr (Or.inl (by rw [if_neg h0, if_neg h1, if_neg h2, if_neg h3, if_neg h4, if_pos h5]))))))⟩
    by_cases h6 : isW B n e 16 = true
    · exact Or.inr ⟨hk, Or.inr (Or.inr (Or.inr (Or.inr (Or.inr (Or.inr (by rw [if_neg h0, if_neg h1, if_neg h2, if_neg h3, if_neg h4, if_neg h5, if_pos h6]))))))⟩
    exact Or.inl (by rw [if_neg h0, if_neg h1, if_neg h2, if_neg h3, if_neg h4, if_neg h5, if_neg h6])
  · left
    unfold enW
    simp only [isW_n hk, Bool.false_eq_true, if_false]
theorem qor_none {a c : Option (Nat × Nat)} (h : qor a c = none) : a = none ∧ c = none := by cases a with
  | none => exact ⟨rfl, h⟩
  | some x => simp [qor] at h
theorem tkR_lt {B : Nat → Int32} {n e : Nat} (he : e ≤ n) (hk : tkK B n e = 1) : e < tkR B n e := by
  have h1 := (tkS_f (B := B) he).1
  have h2 := ((tkR_f (B := B) he).2.2 (Or.inl (tkK_1 he hk).1)).1
  omega
theorem tkR_le {B : Nat → Int32} {n e : Nat} (he : e ≤ n) : e ≤ tkR B n e ∧ tkR B n e ≤ n := by
  have h1 := (tkS_f (B := B) he).1
  have h2 := tkR_f (B := B) he
  omega
/-- the entry of the ledger's journal k at s fits the entry of the reference's text -/
def ENR (S X : St) (ad : Nat → Nat) (k nf s : Nat) : Prop := ENT nf (gI S (ad (k + 1)) s) (gI S (ad (k + 2)) s) (gI S (ad (k + 3)) s) (gI S (ad (k + 4)) s) (gI S (ad (k + 5)) s) (gI S (ad (k + 6)) s) (gJ S (ad (k + 7)) s) (fun i => gI X (ad 11) (5 * s + i))
/-- an entry: what the ledger does, what the reference does -/
def EN2 (S : St) (ad : Nat → Nat) (b k : Nat) (v : Nat → Int64) (nf : Nat) (B : Nat → Int32) (n e s : Nat) : Prop := ∃ S', f_X5_readEntry S (ad k) (ad 12) (ad (b + 4)) = some S' ∧ KCx S S' ad (PK k) ∧ gI S' (ad k) 8 = gI S (ad k) 8 ∧ ((∃ e', e < e' ∧ LGs S' ad B n e' none ∧ s < 40 ∧ gI S' (ad k) 7 = nI (s + 1) ∧ (∀ q l, 1 ≤ q → q ≤ 7 → l ≠ s → gI S' (ad (k + q)) l = gI S (ad (k + q)) l ∧ gJ S' (ad (k + q)) l = gJ S (ad (k + q)) l) ∧ ∀ X, RS X ad B n e → gI X (ad 1) 21 = nI s → gJ X (ad 3) = v → ∃ X', f_X12_readEntry X (ad 1) = some (1, X') ∧ RS X' ad B n e' ∧ RX X X' ad P11 Qe ∧ gI X' (ad 1) 21 = nI (s + 1) ∧ (∀ l, l < 5 * s → gI X' (ad 11) l = gI X (ad 11) l) ∧ ENR S' X' ad k nf s) ∨ (∃ c p e', LGs S' ad B n e' (some (c, p)) ∧ ∀ X, RS X ad B n e → gI X (ad 1) 21 = nI s → gJ X (ad 3) = v → ∃ X', f_X12_readEntry X (ad 1) = some (0, X') ∧ RFl X X' ad P11 Qef c p))
theorem JW_PK {s : Nat} (h : JW S S' ad k s) : KCx S S' ad (PK k) := ⟨h.1, fun p hn => h.2.1 p (fun z => hn (Or.inl z)) (fun z => hn (Or.inr (by omega)))⟩
theorem rX1 {B : Nat → Int32} {n e s : Nat} {kd : Int32} (r : RS X ad B n e) (hk : tkK B n e = 1) (h21 : gI X (ad 1) 21 = nI s) (hs : s < 40) (hv : gJ X (ad 3) = v) : ∃ X1, f_X12_advance X (ad 1) = some X1 ∧ TR X1 ad ∧ gI X1 (ad 1) 21 = nI s ∧ RS (uI (uI X1 (ad 11) (5 * s) kd) (ad 1) 21 (nI (s + 1))) ad B n (tkR B n e) ∧ RX X (uI (uI X1 (ad 11) (5 * s) kd) (ad 1) 21 (nI (s + 1))) ad P11 Qe ∧ gI (uI (uI X1 (ad 11) (5 * s) kd) (ad 1) 21 (nI (s + 1))) (ad 1) 21 = nI (s + 1) ∧ gJ (uI (uI X1 (ad 11) (5 * s) kd) (ad 1) 21 (nI (s + 1))) (ad 3) = v ∧ gI (uI (uI X1 (ad 11) (5 * s) kd) (ad 1) 21 (nI (s + 1))) (ad 11) (5 * s) = kd ∧ ∀ l, l < 5 * s → gI (uI (uI X1 (ad 11) (5 * s) kd) (ad 1) 21 (nI (s + 1))) (ad 11) l = gI X (ad 11) l := by
  obtain ⟨X1, a1, r1, x1, -⟩ := R_ad r (by omega)
  have t1 := r1.1.1
  have ne : ad 11 ≠ ad 1 := fun z => absurd ((t1.1 _ _).mp z) (by decide)
  have r2 : RS (uI X1 (ad 11) (5 * s) kd) ad B n (tkR B n e) := RS_uI r1 (by decide) (by decide)
  have c11 : ∀ l, gI (uI (uI X1 (ad 11) (5 * s) kd) (ad 1) 21 (nI (s + 1))) (ad 11) l = if l = 5 * s then kd else gI X (ad 11) l := fun l => by
    rw [gI_uI, if_neg (fun z => ne z.1), gI_uI, (x1.2.1 11 (by decide) (fun z => z) l).1]
    by_cases hl : l = 5 * s
    · rw [if_pos ⟨rfl, hl⟩, if_pos hl]
    · rw [if_neg (fun z => hl z.2), if_neg hl]
  refine ⟨X1, a1, t1, (x1.2.2 21 (by unfold Qt; omega)).trans h21, RS_u1 r2 (by omega), ((x1.mono (fun _ z => z.elim) (fun _ z => Or.inl z)).tr (RX_uI (P := P11) t1 (by decide) rfl)).tr (RX_u1 r2.1.1 (Or.inr rfl)), by rw [gI_uI, if_pos ⟨rfl, rfl⟩], ?_, by rw [c11, if_pos rfl], fun l hl => by rw [c11, if_neg (by omega)]⟩
  exact (funext fun l => (x1.2.1 3 (by decide) (fun z => z) l).2).trans hv
theorem ld40 {s : Nat} (hs : s < 40) : ¬ nI s = 40 := by rw [show (40 : Int32) = nI 40 from rfl, nI_eq (by omega) (by omega)]; omega
theorem EN_bad {B : Nat → Int32} {n e s : Nat} (h : LGt S ad B n e none) (hk : JB k) (hw : enW B n e = -1) : EN2 S ad b k v nf B n e s := by
  obtain ⟨S', f1, f2, f3⟩ := L_fail h (k := 1) (by omega) (i := 1) rfl
  refine ⟨S', ?_, f2.mono (fun _ z => Or.inl z), ?_, Or.inr ⟨1, tkS B n e, _, f3.ls, fun X r _ _ => ?_⟩⟩
  · simp only [f_X5_readEntry, L_kindW h, cl_n, hw, if_true, f1]
  · exact (f2.2 k (by unfold P12 JB at *; omega) 8).1
  · obtain ⟨X', g1, g2⟩ := R_fail r (k := 1) (i := 1) rfl
    refine ⟨X', ?_, g2.mono (fun _ z => z.elim) (fun _ z => Or.inl z)⟩
    simp only [f_X12_readEntry, R_entK r, cl_n, hw, if_true, g1, zc_0]
theorem EN_full {B : Nat → Int32} {n e : Nat} (h : LGt S ad B n e none) (hk : JB k) (g7 : gI S (ad k) 7 = nI 40) (hw : ¬ enW B n e = -1) : EN2 S ad b k v nf B n e 40 := by
  obtain ⟨S', f1, f2, f3⟩ := L_fail h (k := 4) (by omega) (i := 4) rfl
  have l40 : ¬ nI 40 < (40 : Int32) := by decide
  have e40 : nI 40 = (40 : Int32) := rfl
  refine ⟨S', ?_, f2.mono (fun _ z => Or.inl z), (f2.2 k (by unfold P12 JB at *; omega) 8).1, Or.inr ⟨4, tkS B n e, _, f3.ls, fun X r h21 _ => ?_⟩⟩
  · simp only [f_X5_readEntry, L_kindW h, cl_n, hw, if_false, lt_n, g7, l40, f1]
  · obtain ⟨X', g1, g2⟩ := R_fail r (k := 4) (i := 4) rfl
    refine ⟨X', ?_, g2.mono (fun _ z => z.elim) (fun _ z => Or.inl z)⟩
    simp only [f_X12_readEntry, R_entK r, cl_n, hw, if_false, lt_n, h21, e40, if_true, g1, zc_0]
theorem EN_0 {B : Nat → Int32} {n e s : Nat} (h : LGt S ad B n e none) (hk : JB k) (hs : s < 40) (g7 : gI S (ad k) 7 = nI s) (hw : enW B n e = 0) (hk1 : tkK B n e = 1) (hb : BB b) (h8 : nf ≤ 8) (ax : AXN S ad b v nf) (h2 : v 2 = lN nf) : EN2 S ad b k v nf B n e s := by
  have hk' : k = 22 ∨ k = 30 := hk
  have t0 := h.1.1
  have he := h.2.2.2.2.2.1
  have nm : ¬ (0 : Int32) = -1 := by decide
  have l6 := LGs_I (s := s) h.ls hk (q := 1) (by omega) 0
  have ax6 : AXN (uI S (ad (k + 1)) s 0) ad b v nf := AXN_c (fun q hq => Ag_uI t0 (by unfold BB at hb; omega)) ax
  have g76 : gI (uI S (ad (k + 1)) s 0) (ad k) 7 = nI s := ((Ag_uI t0 (by omega) 7).1).trans g7
  obtain ⟨S7, a7, j7, c7, kd7, w7⟩ := LA0 l6 hk hs g76 (by rw [gI_uI, if_pos ⟨rfl, rfl⟩]) hb h8 ax6
  rw [qor_0] at c7
  obtain ⟨S8, a8, b8, c8⟩ := L_end c7
  have t8 := c8.1.1
  have jw := ((JW_I (S := S) (ad := ad) (k := k) (s := s) (q := 1) t0 (by omega) 0).tr j7).tr (JW_k b8)
  have g78 : gI S8 (ad k) 7 = nI s := (jw.2.1 k (by omega) (by omega) 7).1.trans g7
  have lt4 : nI s < (40 : Int32) := by rw [show (40 : Int32) = nI 40 from rfl, nI_ltI (by omega) (by omega)]; exact hs
  have kc := (JW_PK jw).tr (KCx_uI (P := PK k) t8 (p := k) (i := 7) (w := nI (s + 1)) (Or.inr (by omega)))
  have ex : f_X5_readEntry S (ad k) (ad 12) (ad (b + 4)) = some (uI S8 (ad k) 7 (nI (s + 1))) := by
    simp only [f_X5_readEntry, L_kindW h, cl_n, hw, nm, if_false, lt_n, g7, lt4, if_true, r_j_0 t0 hk, sj1 t0 hk hs, a7, a8, g78, da1]
  have cc : ∀ q l, 1 ≤ q → q ≤ 7 → gI (uI S8 (ad k) 7 (nI (s + 1))) (ad (k + q)) l = gI S8 (ad (k + q)) l ∧ gJ (uI S8 (ad k) 7 (nI (s + 1))) (ad (k + q)) l = gJ S8 (ad (k + q)) l := fun q l h1 _ => Ag_uI t8 (by omega) l
  have cd : ∀ q l, 1 ≤ q → q ≤ 7 → gI S8 (ad (k + q)) l = gI S7 (ad (k + q)) l ∧ gJ S8 (ad (k + q)) l = gJ S7 (ad (k + q)) l := fun q l h1 _ => b8.2 _ (by unfold P12; omega) l
  have l9 : LGs (uI S8 (ad k) 7 (nI (s + 1))) ad B n (tkR B n (tkR B n (tkR B n (tkR B n e)))) (qor (eA0 B n (tkR B n e) v nf) (eEnd B n (tkR B n (tkR B n (tkR B n e))))) := LGs_c (P := fun p => p = k) (KCx_uI t8 rfl) (by omega) (by omega) c8.ls
  have g8 : gI (uI S8 (ad k) 7 (nI (s + 1))) (ad k) 8 = gI S (ad k) 8 := by
    rw [gI_uI, if_neg (fun z => absurd z.2 (by decide))]; exact (jw.2.1 k (by omega) (by omega) 8).1
  refine ⟨_, ex, kc, g8, ?_⟩
  have rE : ∀ X, RS X ad B n e → gI X (ad 1) 21 = nI s → ∀ (R : Option (Int32 × St)), (∀ X1, f_X12_advance X (ad 1) = some X1 → TR X1 ad → gI X1 (ad 1) 21 = nI s → (cl (f_X12_readParts (uI (uI X1 (ad 11) (5 * s) 0) (ad 1) 21 (nI (s + 1))) (ad 1) 0 (nI (5 * s))) fun (o11 : Int32 × St) => if o11.1 = 0 then some (0, o11.2) else (cl (f_X12_readEnd o11.2 (ad 1)) fun (o15 : Int32 × St) => if o15.1 = 0 then some (0, o15.2) else (some (1, o15.2)))) = R) → ∀ X1, f_X12_advance X (ad 1) = some X1 → TR X1 ad → gI X1 (ad 1) 21 = nI s → f_X12_readEntry X (ad 1) = R := by
    intro X r h21 R hR X1 a1 t1 g1
    have ne : ad 1 ≠ ad 11 := fun z => absurd ((t1.1 _ _).mp z) (by decide)
    have g2 : gI (uI X1 (ad 11) (5 * s) 0) (ad 1) 21 = nI s := by rw [gI_uI, if_neg (fun z => ne z.1)]; exact g1
    rw [← hR X1 a1 t1 g1]
    simp only [f_X12_readEntry, R_entK r, cl_n, hw, nm, if_false, lt_n, h21, ld40 hs, a1, g1, mu5, r_1_18 t1, st11 t1 (show 5 * s < 200 by omega), g2, da1, jn_n]
  cases hq : qor (eA0 B n (tkR B n e) v nf) (eEnd B n (tkR B n (tkR B n (tkR B n e)))) with
  | none =>
    obtain ⟨q1, q2⟩ := qor_none hq
    rw [hq] at l9
    have p1 := tkR_lt he hk1
    have y0 := tkR_le (B := B) he
    have y1 := tkR_le (B := B) y0.2
    have y2 := tkR_le (B := B) y1.2
    have y3 := tkR_le (B := B) y2.2
    refine Or.inl ⟨_, by omega, l9, hs, by rw [gI_uI, if_pos ⟨rfl, rfl⟩], fun q l h1 h7 hl => ?_, fun X r h21 hv => ?_⟩
    · have z := jw.2.2 (k + q) l (by omega) hl
      exact ⟨(cc q l h1 h7).1.trans z.1, (cc q l h1 h7).2.trans z.2⟩
    · obtain ⟨X1, a1, t1, g1, r3, x3, f21, v3, k3, lo3⟩ := rX1 (kd := 0) r hk1 h21 hs hv
      rcases RA0 r3 hs v3 h2 h8 with ⟨-, X4, a4, r4, x4, lo4, w4, nm4⟩ | ⟨c, p, z, -⟩
      · rcases R_end r4 with ⟨-, X5, a5, r5, x5⟩ | ⟨z, -⟩
        · have c5 : ∀ l, gI X5 (ad 11) l = gI X4 (ad 11) l := fun l => (x5.2.1 11 (by decide) (fun z => z) l).1
          refine ⟨X5, rE X r h21 _ (fun X1' a1' t1' g1' => ?_) X1 a1 t1 g1, r5, (x3.tr (x4.mono (fun _ z => z) (fun _ z => Or.inl z))).tr (x5.mono (fun _ z => z.elim) (fun _ z => Or.inl z)), (x5.2.2 21 (by unfold Qt; omega)).trans ((x4.2.2 21 (by unfold Qt; omega)).trans f21), fun l hl => ?_, ?_⟩
          · have : X1' = X1 := Option.some.inj (a1'.symm.trans a1)
            subst this
            rw [a4, cl_n]
            simp only [i10, if_false, a5, cl_n]
          · rw [c5, lo4 l (by omega), lo3 l hl]
          · have r0 : gI X5 (ad 11) (5 * s + 0) = 0 := by rw [c5, lo4 _ (by omega)]; exact k3
            have kd9 : gI (uI S8 (ad k) 7 (nI (s + 1))) (ad (k + 1)) s = 0 := ((cc 1 s (by omega) (by omega)).1.trans (cd 1 s (by omega) (by omega)).1).trans kd7
            have L0 := ((cc 2 s (by omega) (by omega)).1.trans (cd 2 s (by omega) (by omega)).1).trans w7.1
            have rq0 := (c5 _).trans w4.1
            have L1 := ((cc 7 s (by omega) (by omega)).2.trans (cd 7 s (by omega) (by omega)).2).trans w7.2
            have rq1 := (c5 _).trans w4.2
            have z0 := vNum_ok (B := B) (n := n) (e := (tkR B n e)) (a := 0) (y0.2) (h := 15) (hi := 15) (by decide) rfl (by decide)
            have z1 := vNum_ok (B := B) (n := n) (e := (tkR B n (tkR B n e))) (a := 0) (y1.2) (h := 100000) (hi := 100000) (by decide) rfl (by decide)
            refine ⟨r0.trans kd9.symm, Or.inl ⟨kd9, (L0.trans rq0.symm), (show gJ (uI S8 (ad k) 7 (nI (s + 1))) (ad (k + 7)) s = 100 * (gI X5 (ad 11) (5 * s + 2)).toInt64 by rw [L1, rq1, m100 (by omega)]), ⟨_, by omega, L0⟩, ⟨_, z1.2, rq1⟩⟩⟩
        · rw [q2] at z; simp at z
      · rw [q1] at z; simp at z
  | some cp =>
    obtain ⟨c, p⟩ := cp
    rw [hq] at l9
    refine Or.inr ⟨c, p, _, l9, fun X r h21 hv => ?_⟩
    obtain ⟨X1, a1, t1, g1, r3, x3, f21, v3, k3, lo3⟩ := rX1 (kd := 0) r hk1 h21 hs hv
    have x3' := x3.mono (P' := P11) (Q' := Qef) (fun _ z => z) (fun i z => z.elim (fun y => Or.inl (Qtf i y)) Or.inr)
    rcases RA0 r3 hs v3 h2 h8 with ⟨q1, X4, a4, r4, x4, -⟩ | ⟨c', p', z, -, X4, a4, x4⟩
    · rcases R_end r4 with ⟨q2, -⟩ | ⟨q2, X5, a5, x5⟩
      · rw [q1, q2] at hq; simp [qor] at hq
      · rw [q1, q2, qor_0] at hq
        injection hq with hq
        injection hq with hc hp
        subst hc; subst hp
        refine ⟨X5, rE X r h21 _ (fun X1' a1' t1' g1' => ?_) X1 a1 t1 g1, RFl.pre x3' (RFl.pre (x4.mono (fun _ z => z) (fun i z => Or.inl (Qtf i z))) (x5.mono (fun _ z => z.elim) (fun _ z => Or.inl z)))⟩
        have : X1' = X1 := Option.some.inj (a1'.symm.trans a1)
        subst this
        rw [a4, cl_n]
        simp only [i10, if_false, a5, cl_n, if_true]
    · rw [z, qor_s] at hq
      injection hq with hq
      injection hq with hc hp
      subst hc; subst hp
      refine ⟨X4, rE X r h21 _ (fun X1' a1' t1' g1' => ?_) X1 a1 t1 g1, RFl.pre x3' (x4.mono (fun _ z => z) (fun _ z => Or.inl z))⟩
      have : X1' = X1 := Option.some.inj (a1'.symm.trans a1)
      subst this
      rw [a4, cl_n]
      simp only [if_true]
theorem EN_1 {B : Nat → Int32} {n e s : Nat} (h : LGt S ad B n e none) (hk : JB k) (hs : s < 40) (g7 : gI S (ad k) 7 = nI s) (hw : enW B n e = 1) (hk1 : tkK B n e = 1) (hb : BB b) (h8 : nf ≤ 8) (ax : AXN S ad b v nf) (h2 : v 2 = lN nf) : EN2 S ad b k v nf B n e s := by
  have hk' : k = 22 ∨ k = 30 := hk
  have t0 := h.1.1
  have he := h.2.2.2.2.2.1
  have nm : ¬ (1 : Int32) = -1 := by decide
  have l6 := LGs_I (s := s) h.ls hk (q := 1) (by omega) 1
  have ax6 : AXN (uI S (ad (k + 1)) s 1) ad b v nf := AXN_c (fun q hq => Ag_uI t0 (by unfold BB at hb; omega)) ax
  have g76 : gI (uI S (ad (k + 1)) s 1) (ad k) 7 = nI s := ((Ag_uI t0 (by omega) 7).1).trans g7
  obtain ⟨S7, a7, j7, c7, kd7, w7⟩ := LA1 l6 hk hs g76 (by rw [gI_uI, if_pos ⟨rfl, rfl⟩]) hb h8 ax6
  rw [qor_0] at c7
  obtain ⟨S8, a8, b8, c8⟩ := L_end c7
  have t8 := c8.1.1
  have jw := ((JW_I (S := S) (ad := ad) (k := k) (s := s) (q := 1) t0 (by omega) 1).tr j7).tr (JW_k b8)
  have g78 : gI S8 (ad k) 7 = nI s := (jw.2.1 k (by omega) (by omega) 7).1.trans g7
  have lt4 : nI s < (40 : Int32) := by rw [show (40 : Int32) = nI 40 from rfl, nI_ltI (by omega) (by omega)]; exact hs
  have kc := (JW_PK jw).tr (KCx_uI (P := PK k) t8 (p := k) (i := 7) (w := nI (s + 1)) (Or.inr (by omega)))
  have ex : f_X5_readEntry S (ad k) (ad 12) (ad (b + 4)) = some (uI S8 (ad k) 7 (nI (s + 1))) := by
    simp only [f_X5_readEntry, L_kindW h, cl_n, hw, nm, if_false, lt_n, g7, lt4, if_true, r_j_0 t0 hk, sj1 t0 hk hs, a7, a8, g78, da1]
  have cc : ∀ q l, 1 ≤ q → q ≤ 7 → gI (uI S8 (ad k) 7 (nI (s + 1))) (ad (k + q)) l = gI S8 (ad (k + q)) l ∧ gJ (uI S8 (ad k) 7 (nI (s + 1))) (ad (k + q)) l = gJ S8 (ad (k + q)) l := fun q l h1 _ => Ag_uI t8 (by omega) l
  have cd : ∀ q l, 1 ≤ q → q ≤ 7 → gI S8 (ad (k + q)) l = gI S7 (ad (k + q)) l ∧ gJ S8 (ad (k + q)) l = gJ S7 (ad (k + q)) l := fun q l h1 _ => b8.2 _ (by unfold P12; omega) l
  have l9 : LGs (uI S8 (ad k) 7 (nI (s + 1))) ad B n (tkR B n (tkR B n (tkR B n (tkR B n (tkR B n (tkR B n e)))))) (qor (eA1 B n (tkR B n e) v nf) (eEnd B n (tkR B n (tkR B n (tkR B n (tkR B n (tkR B n e))))))) := LGs_c (P := fun p => p = k) (KCx_uI t8 rfl) (by omega) (by omega) c8.ls
  have g8 : gI (uI S8 (ad k) 7 (nI (s + 1))) (ad k) 8 = gI S (ad k) 8 := by
    rw [gI_uI, if_neg (fun z => absurd z.2 (by decide))]; exact (jw.2.1 k (by omega) (by omega) 8).1
  refine ⟨_, ex, kc, g8, ?_⟩
  have rE : ∀ X, RS X ad B n e → gI X (ad 1) 21 = nI s → ∀ (R : Option (Int32 × St)), (∀ X1, f_X12_advance X (ad 1) = some X1 → TR X1 ad → gI X1 (ad 1) 21 = nI s → (cl (f_X12_readParts (uI (uI X1 (ad 11) (5 * s) 1) (ad 1) 21 (nI (s + 1))) (ad 1) 1 (nI (5 * s))) fun (o11 : Int32 × St) => if o11.1 = 0 then some (0, o11.2) else (cl (f_X12_readEnd o11.2 (ad 1)) fun (o15 : Int32 × St) => if o15.1 = 0 then some (0, o15.2) else (some (1, o15.2)))) = R) → ∀ X1, f_X12_advance X (ad 1) = some X1 → TR X1 ad → gI X1 (ad 1) 21 = nI s → f_X12_readEntry X (ad 1) = R := by
    intro X r h21 R hR X1 a1 t1 g1
    have ne : ad 1 ≠ ad 11 := fun z => absurd ((t1.1 _ _).mp z) (by decide)
    have g2 : gI (uI X1 (ad 11) (5 * s) 1) (ad 1) 21 = nI s := by rw [gI_uI, if_neg (fun z => ne z.1)]; exact g1
    rw [← hR X1 a1 t1 g1]
    simp only [f_X12_readEntry, R_entK r, cl_n, hw, nm, if_false, lt_n, h21, ld40 hs, a1, g1, mu5, r_1_18 t1, st11 t1 (show 5 * s < 200 by omega), g2, da1, jn_n]
  cases hq : qor (eA1 B n (tkR B n e) v nf) (eEnd B n (tkR B n (tkR B n (tkR B n (tkR B n (tkR B n e)))))) with
  | none =>
    obtain ⟨q1, q2⟩ := qor_none hq
    rw [hq] at l9
    have p1 := tkR_lt he hk1
    have y0 := tkR_le (B := B) he
    have y1 := tkR_le (B := B) y0.2
    have y2 := tkR_le (B := B) y1.2
    have y3 := tkR_le (B := B) y2.2
    have y4 := tkR_le (B := B) y3.2
    have y5 := tkR_le (B := B) y4.2
    refine Or.inl ⟨_, by omega, l9, hs, by rw [gI_uI, if_pos ⟨rfl, rfl⟩], fun q l h1 h7 hl => ?_, fun X r h21 hv => ?_⟩
    · have z := jw.2.2 (k + q) l (by omega) hl
      exact ⟨(cc q l h1 h7).1.trans z.1, (cc q l h1 h7).2.trans z.2⟩
    · obtain ⟨X1, a1, t1, g1, r3, x3, f21, v3, k3, lo3⟩ := rX1 (kd := 1) r hk1 h21 hs hv
      rcases RA1 r3 hs v3 h2 h8 with ⟨-, X4, a4, r4, x4, lo4, w4, nm4⟩ | ⟨c, p, z, -⟩
      · rcases R_end r4 with ⟨-, X5, a5, r5, x5⟩ | ⟨z, -⟩
        · have c5 : ∀ l, gI X5 (ad 11) l = gI X4 (ad 11) l := fun l => (x5.2.1 11 (by decide) (fun z => z) l).1
          refine ⟨X5, rE X r h21 _ (fun X1' a1' t1' g1' => ?_) X1 a1 t1 g1, r5, (x3.tr (x4.mono (fun _ z => z) (fun _ z => Or.inl z))).tr (x5.mono (fun _ z => z.elim) (fun _ z => Or.inl z)), (x5.2.2 21 (by unfold Qt; omega)).trans ((x4.2.2 21 (by unfold Qt; omega)).trans f21), fun l hl => ?_, ?_⟩
          · have : X1' = X1 := Option.some.inj (a1'.symm.trans a1)
            subst this
            rw [a4, cl_n]
            simp only [i10, if_false, a5, cl_n]
          · rw [c5, lo4 l (by omega), lo3 l hl]
          · have r0 : gI X5 (ad 11) (5 * s + 0) = 1 := by rw [c5, lo4 _ (by omega)]; exact k3
            have kd9 : gI (uI S8 (ad k) 7 (nI (s + 1))) (ad (k + 1)) s = 1 := ((cc 1 s (by omega) (by omega)).1.trans (cd 1 s (by omega) (by omega)).1).trans kd7
            have L0 := ((cc 2 s (by omega) (by omega)).1.trans (cd 2 s (by omega) (by omega)).1).trans w7.1
            have rq0 := (c5 _).trans w4.1
            have L1 := ((cc 3 s (by omega) (by omega)).1.trans (cd 3 s (by omega) (by omega)).1).trans w7.2.1
            have rq1 := (c5 _).trans w4.2.1
            have L2 := ((cc 4 s (by omega) (by omega)).1.trans (cd 4 s (by omega) (by omega)).1).trans w7.2.2.1
            have rq2 := (c5 _).trans w4.2.2.1
            have L3 := ((cc 7 s (by omega) (by omega)).2.trans (cd 7 s (by omega) (by omega)).2).trans w7.2.2.2
            have rq3 := (c5 _).trans w4.2.2.2
            have z0 := vNum_ok (B := B) (n := n) (e := (tkR B n e)) (a := 0) (y0.2) (h := 15) (hi := 15) (by decide) rfl (by decide)
            have z1 := vNum_ok (B := B) (n := n) (e := (tkR B n (tkR B n e))) (a := 0) (y1.2) (h := 29) (hi := 29) (by decide) rfl (by decide)
            have z2 := vNum_ok (B := B) (n := n) (e := (tkR B n (tkR B n (tkR B n e)))) (a := 0) (y2.2) (h := 29) (hi := 29) (by decide) rfl (by decide)
            have z3 := vNum_ok (B := B) (n := n) (e := (tkR B n (tkR B n (tkR B n (tkR B n e))))) (a := 1) (y3.2) (h := 100000) (hi := 100000) (by decide) rfl (by decide)
            refine ⟨r0.trans kd9.symm, Or.inr (Or.inl ⟨kd9, (L0.trans rq0.symm), (L1.trans rq1.symm), (L2.trans rq2.symm), (show gJ (uI S8 (ad k) 7 (nI (s + 1))) (ad (k + 7)) s = 100 * (gI X5 (ad 11) (5 * s + 4)).toInt64 by rw [L3, rq3, m100 (by omega)]), ⟨_, by omega, L0⟩, ⟨_, by omega, L1⟩, ⟨_, by omega, L2⟩, ⟨_, z3.1, z3.2, rq3⟩⟩)⟩
        · rw [q2] at z; simp at z
      · rw [q1] at z; simp at z
  | some cp =>
    obtain ⟨c, p⟩ := cp
    rw [hq] at l9
    refine Or.inr ⟨c, p, _, l9, fun X r h21 hv => ?_⟩
    obtain ⟨X1, a1, t1, g1, r3, x3, f21, v3, k3, lo3⟩ := rX1 (kd := 1) r hk1 h21 hs hv
    have x3' := x3.mono (P' := P11) (Q' := Qef) (fun _ z => z) (fun i z => z.elim (fun y => Or.inl (Qtf i y)) Or.inr)
    rcases RA1 r3 hs v3 h2 h8 with ⟨q1, X4, a4, r4, x4, -⟩ | ⟨c', p', z, -, X4, a4, x4⟩
    · rcases R_end r4 with ⟨q2, -⟩ | ⟨q2, X5, a5, x5⟩
      · rw [q1, q2] at hq; simp [qor] at hq
      · rw [q1, q2, qor_0] at hq
        injection hq with hq
        injection hq with hc hp
        subst hc; subst hp
        refine ⟨X5, rE X r h21 _ (fun X1' a1' t1' g1' => ?_) X1 a1 t1 g1, RFl.pre x3' (RFl.pre (x4.mono (fun _ z => z) (fun i z => Or.inl (Qtf i z))) (x5.mono (fun _ z => z.elim) (fun _ z => Or.inl z)))⟩
        have : X1' = X1 := Option.some.inj (a1'.symm.trans a1)
        subst this
        rw [a4, cl_n]
        simp only [i10, if_false, a5, cl_n, if_true]
    · rw [z, qor_s] at hq
      injection hq with hq
      injection hq with hc hp
      subst hc; subst hp
      refine ⟨X4, rE X r h21 _ (fun X1' a1' t1' g1' => ?_) X1 a1 t1 g1, RFl.pre x3' (x4.mono (fun _ z => z) (fun _ z => Or.inl z))⟩
      have : X1' = X1 := Option.some.inj (a1'.symm.trans a1)
      subst this
      rw [a4, cl_n]
      simp only [if_true]
theorem EN_2 {B : Nat → Int32} {n e s : Nat} (h : LGt S ad B n e none) (hk : JB k) (hs : s < 40) (g7 : gI S (ad k) 7 = nI s) (hw : enW B n e = 2) (hk1 : tkK B n e = 1) (hb : BB b) (h8 : nf ≤ 8) (ax : AXN S ad b v nf) (h2 : v 2 = lN nf) : EN2 S ad b k v nf B n e s := by
  have hk' : k = 22 ∨ k = 30 := hk
  have t0 := h.1.1
  have he := h.2.2.2.2.2.1
  have nm : ¬ (2 : Int32) = -1 := by decide
  have l6 := LGs_I (s := s) h.ls hk (q := 1) (by omega) 2
  have ax6 : AXN (uI S (ad (k + 1)) s 2) ad b v nf := AXN_c (fun q hq => Ag_uI t0 (by unfold BB at hb; omega)) ax
  have g76 : gI (uI S (ad (k + 1)) s 2) (ad k) 7 = nI s := ((Ag_uI t0 (by omega) 7).1).trans g7
  obtain ⟨S7, a7, j7, c7, kd7, w7⟩ := LA2 l6 hk hs g76 (by rw [gI_uI, if_pos ⟨rfl, rfl⟩]) hb h8 ax6
  rw [qor_0] at c7
  obtain ⟨S8, a8, b8, c8⟩ := L_end c7
  have t8 := c8.1.1
  have jw := ((JW_I (S := S) (ad := ad) (k := k) (s := s) (q := 1) t0 (by omega) 2).tr j7).tr (JW_k b8)
  have g78 : gI S8 (ad k) 7 = nI s := (jw.2.1 k (by omega) (by omega) 7).1.trans g7
  have lt4 : nI s < (40 : Int32) := by rw [show (40 : Int32) = nI 40 from rfl, nI_ltI (by omega) (by omega)]; exact hs
  have kc := (JW_PK jw).tr (KCx_uI (P := PK k) t8 (p := k) (i := 7) (w := nI (s + 1)) (Or.inr (by omega)))
  have ex : f_X5_readEntry S (ad k) (ad 12) (ad (b + 4)) = some (uI S8 (ad k) 7 (nI (s + 1))) := by
    simp only [f_X5_readEntry, L_kindW h, cl_n, hw, nm, if_false, lt_n, g7, lt4, if_true, r_j_0 t0 hk, sj1 t0 hk hs, a7, a8, g78, da1]
  have cc : ∀ q l, 1 ≤ q → q ≤ 7 → gI (uI S8 (ad k) 7 (nI (s + 1))) (ad (k + q)) l = gI S8 (ad (k + q)) l ∧ gJ (uI S8 (ad k) 7 (nI (s + 1))) (ad (k + q)) l = gJ S8 (ad (k + q)) l := fun q l h1 _ => Ag_uI t8 (by omega) l
  have cd : ∀ q l, 1 ≤ q → q ≤ 7 → gI S8 (ad (k + q)) l = gI S7 (ad (k + q)) l ∧ gJ S8 (ad (k + q)) l = gJ S7 (ad (k + q)) l := fun q l h1 _ => b8.2 _ (by unfold P12; omega) l
  have l9 : LGs (uI S8 (ad k) 7 (nI (s + 1))) ad B n (tkR B n (tkR B n (tkR B n (tkR B n e)))) (qor (eA2 B n (tkR B n e) v nf) (eEnd B n (tkR B n (tkR B n (tkR B n e))))) := LGs_c (P := fun p => p = k) (KCx_uI t8 rfl) (by omega) (by omega) c8.ls
  have g8 : gI (uI S8 (ad k) 7 (nI (s + 1))) (ad k) 8 = gI S (ad k) 8 := by
    rw [gI_uI, if_neg (fun z => absurd z.2 (by decide))]; exact (jw.2.1 k (by omega) (by omega) 8).1
  refine ⟨_, ex, kc, g8, ?_⟩
  have rE : ∀ X, RS X ad B n e → gI X (ad 1) 21 = nI s → ∀ (R : Option (Int32 × St)), (∀ X1, f_X12_advance X (ad 1) = some X1 → TR X1 ad → gI X1 (ad 1) 21 = nI s → (cl (f_X12_readParts (uI (uI X1 (ad 11) (5 * s) 2) (ad 1) 21 (nI (s + 1))) (ad 1) 2 (nI (5 * s))) fun (o11 : Int32 × St) => if o11.1 = 0 then some (0, o11.2) else (cl (f_X12_readEnd o11.2 (ad 1)) fun (o15 : Int32 × St) => if o15.1 = 0 then some (0, o15.2) else (some (1, o15.2)))) = R) → ∀ X1, f_X12_advance X (ad 1) = some X1 → TR X1 ad → gI X1 (ad 1) 21 = nI s → f_X12_readEntry X (ad 1) = R := by
    intro X r h21 R hR X1 a1 t1 g1
    have ne : ad 1 ≠ ad 11 := fun z => absurd ((t1.1 _ _).mp z) (by decide)
    have g2 : gI (uI X1 (ad 11) (5 * s) 2) (ad 1) 21 = nI s := by rw [gI_uI, if_neg (fun z => ne z.1)]; exact g1
    rw [← hR X1 a1 t1 g1]
    simp only [f_X12_readEntry, R_entK r, cl_n, hw, nm, if_false, lt_n, h21, ld40 hs, a1, g1, mu5, r_1_18 t1, st11 t1 (show 5 * s < 200 by omega), g2, da1, jn_n]
  cases hq : qor (eA2 B n (tkR B n e) v nf) (eEnd B n (tkR B n (tkR B n (tkR B n e)))) with
  | none =>
    obtain ⟨q1, q2⟩ := qor_none hq
    rw [hq] at l9
    have p1 := tkR_lt he hk1
    have y0 := tkR_le (B := B) he
    have y1 := tkR_le (B := B) y0.2
    have y2 := tkR_le (B := B) y1.2
    have y3 := tkR_le (B := B) y2.2
    refine Or.inl ⟨_, by omega, l9, hs, by rw [gI_uI, if_pos ⟨rfl, rfl⟩], fun q l h1 h7 hl => ?_, fun X r h21 hv => ?_⟩
    · have z := jw.2.2 (k + q) l (by omega) hl
      exact ⟨(cc q l h1 h7).1.trans z.1, (cc q l h1 h7).2.trans z.2⟩
    · obtain ⟨X1, a1, t1, g1, r3, x3, f21, v3, k3, lo3⟩ := rX1 (kd := 2) r hk1 h21 hs hv
      rcases RA2 r3 hs v3 h2 h8 with ⟨-, X4, a4, r4, x4, lo4, w4, nm4⟩ | ⟨c, p, z, -⟩
      · rcases R_end r4 with ⟨-, X5, a5, r5, x5⟩ | ⟨z, -⟩
        · have c5 : ∀ l, gI X5 (ad 11) l = gI X4 (ad 11) l := fun l => (x5.2.1 11 (by decide) (fun z => z) l).1
          refine ⟨X5, rE X r h21 _ (fun X1' a1' t1' g1' => ?_) X1 a1 t1 g1, r5, (x3.tr (x4.mono (fun _ z => z) (fun _ z => Or.inl z))).tr (x5.mono (fun _ z => z.elim) (fun _ z => Or.inl z)), (x5.2.2 21 (by unfold Qt; omega)).trans ((x4.2.2 21 (by unfold Qt; omega)).trans f21), fun l hl => ?_, ?_⟩
          · have : X1' = X1 := Option.some.inj (a1'.symm.trans a1)
            subst this
            rw [a4, cl_n]
            simp only [i10, if_false, a5, cl_n]
          · rw [c5, lo4 l (by omega), lo3 l hl]
          · have r0 : gI X5 (ad 11) (5 * s + 0) = 2 := by rw [c5, lo4 _ (by omega)]; exact k3
            have kd9 : gI (uI S8 (ad k) 7 (nI (s + 1))) (ad (k + 1)) s = 2 := ((cc 1 s (by omega) (by omega)).1.trans (cd 1 s (by omega) (by omega)).1).trans kd7
            have en0 : (eNm B n (tkR B n e) v nf true) = none := by
              rw [eA2] at q1; exact (qor_none q1).1
            have L0 := ((cc 2 s (by omega) (by omega)).1.trans (cd 2 s (by omega) (by omega)).1).trans (w7.1 en0)
            have rq0 := (c5 _).trans w4.1
            have L1 := ((cc 7 s (by omega) (by omega)).2.trans (cd 7 s (by omega) (by omega)).2).trans w7.2
            have rq1 := (c5 _).trans w4.2
            have z1 := vNum_ok (B := B) (n := n) (e := (tkR B n (tkR B n e))) (a := 1) (y1.2) (h := 999999) (hi := 999999) (by decide) rfl (by decide)
            refine ⟨r0.trans kd9.symm, Or.inr (Or.inr (Or.inl ⟨Or.inl kd9, (L0.trans rq0.symm), (show gJ (uI S8 (ad k) 7 (nI (s + 1))) (ad (k + 7)) s = 100 * (gI X5 (ad 11) (5 * s + 2)).toInt64 by rw [L1, rq1, m100 (by omega)]), ?_, ⟨_, z1.1, z1.2, rq1⟩⟩))⟩
            obtain ⟨f, hf, ef⟩ := nm4
            exact ⟨f, hf, L0.trans ef⟩
        · rw [q2] at z; simp at z
      · rw [q1] at z; simp at z
  | some cp =>
    obtain ⟨c, p⟩ := cp
    rw [hq] at l9
    refine Or.inr ⟨c, p, _, l9, fun X r h21 hv => ?_⟩
    obtain ⟨X1, a1, t1, g1, r3, x3, f21, v3, k3, lo3⟩ := rX1 (kd := 2) r hk1 h21 hs hv
    have x3' := x3.mono (P' := P11) (Q' := Qef) (fun _ z => z) (fun i z => z.elim (fun y => Or.inl (Qtf i y)) Or.inr)
    rcases RA2 r3 hs v3 h2 h8 with ⟨q1, X4, a4, r4, x4, -⟩ | ⟨c', p', z, -, X4, a4, x4⟩
    · rcases R_end r4 with ⟨q2, -⟩ | ⟨q2, X5, a5, x5⟩
      · rw [q1, q2] at hq; simp [qor] at hq
      · rw [q1, q2, qor_0] at hq
        injection hq with hq
        injection hq with hc hp
        subst hc; subst hp
        refine ⟨X5, rE X r h21 _ (fun X1' a1' t1' g1' => ?_) X1 a1 t1 g1, RFl.pre x3' (RFl.pre (x4.mono (fun _ z => z) (fun i z => Or.inl (Qtf i z))) (x5.mono (fun _ z => z.elim) (fun _ z => Or.inl z)))⟩
        have : X1' = X1 := Option.some.inj (a1'.symm.trans a1)
        subst this
        rw [a4, cl_n]
        simp only [i10, if_false, a5, cl_n, if_true]
    · rw [z, qor_s] at hq
      injection hq with hq
      injection hq with hc hp
      subst hc; subst hp
      refine ⟨X4, rE X r h21 _ (fun X1' a1' t1' g1' => ?_) X1 a1 t1 g1, RFl.pre x3' (x4.mono (fun _ z => z) (fun _ z => Or.inl z))⟩
      have : X1' = X1 := Option.some.inj (a1'.symm.trans a1)
      subst this
      rw [a4, cl_n]
      simp only [if_true]
theorem EN_3 {B : Nat → Int32} {n e s : Nat} (h : LGt S ad B n e none) (hk : JB k) (hs : s < 40) (g7 : gI S (ad k) 7 = nI s) (hw : enW B n e = 3) (hk1 : tkK B n e = 1) (hb : BB b) (h8 : nf ≤ 8) (ax : AXN S ad b v nf) (h2 : v 2 = lN nf) : EN2 S ad b k v nf B n e s := by
  have hk' : k = 22 ∨ k = 30 := hk
  have t0 := h.1.1
  have he := h.2.2.2.2.2.1
  have nm : ¬ (3 : Int32) = -1 := by decide
  have l6 := LGs_I (s := s) h.ls hk (q := 1) (by omega) 3
  have ax6 : AXN (uI S (ad (k + 1)) s 3) ad b v nf := AXN_c (fun q hq => Ag_uI t0 (by unfold BB at hb; omega)) ax
  have g76 : gI (uI S (ad (k + 1)) s 3) (ad k) 7 = nI s := ((Ag_uI t0 (by omega) 7).1).trans g7
  obtain ⟨S7, a7, j7, c7, kd7, w7⟩ := LA3 l6 hk hs g76 (by rw [gI_uI, if_pos ⟨rfl, rfl⟩]) hb h8 ax6
  rw [qor_0] at c7
  obtain ⟨S8, a8, b8, c8⟩ := L_end c7
  have t8 := c8.1.1
  have jw := ((JW_I (S := S) (ad := ad) (k := k) (s := s) (q := 1) t0 (by omega) 3).tr j7).tr (JW_k b8)
  have g78 : gI S8 (ad k) 7 = nI s := (jw.2.1 k (by omega) (by omega) 7).1.trans g7
  have lt4 : nI s < (40 : Int32) := by rw [show (40 : Int32) = nI 40 from rfl, nI_ltI (by omega) (by omega)]; exact hs
  have kc := (JW_PK jw).tr (KCx_uI (P := PK k) t8 (p := k) (i := 7) (w := nI (s + 1)) (Or.inr (by omega)))
  have ex : f_X5_readEntry S (ad k) (ad 12) (ad (b + 4)) = some (uI S8 (ad k) 7 (nI (s + 1))) := by
    simp only [f_X5_readEntry, L_kindW h, cl_n, hw, nm, if_false, lt_n, g7, lt4, if_true, r_j_0 t0 hk, sj1 t0 hk hs, a7, a8, g78, da1]
  have cc : ∀ q l, 1 ≤ q → q ≤ 7 → gI (uI S8 (ad k) 7 (nI (s + 1))) (ad (k + q)) l = gI S8 (ad (k + q)) l ∧ gJ (uI S8 (ad k) 7 (nI (s + 1))) (ad (k + q)) l = gJ S8 (ad (k + q)) l := fun q l h1 _ => Ag_uI t8 (by omega) l
  have cd : ∀ q l, 1 ≤ q → q ≤ 7 → gI S8 (ad (k + q)) l = gI S7 (ad (k + q)) l ∧ gJ S8 (ad (k + q)) l = gJ S7 (ad (k + q)) l := fun q l h1 _ => b8.2 _ (by unfold P12; omega) l
  have l9 : LGs (uI S8 (ad k) 7 (nI (s + 1))) ad B n (tkR B n (tkR B n (tkR B n (tkR B n e)))) (qor (eA3 B n (tkR B n e) v nf) (eEnd B n (tkR B n (tkR B n (tkR B n e))))) := LGs_c (P := fun p => p = k) (KCx_uI t8 rfl) (by omega) (by omega) c8.ls
  have g8 : gI (uI S8 (ad k) 7 (nI (s + 1))) (ad k) 8 = gI S (ad k) 8 := by
    rw [gI_uI, if_neg (fun z => absurd z.2 (by decide))]; exact (jw.2.1 k (by omega) (by omega) 8).1
  refine ⟨_, ex, kc, g8, ?_⟩
  have rE : ∀ X, RS X ad B n e → gI X (ad 1) 21 = nI s → ∀ (R : Option (Int32 × St)), (∀ X1, f_X12_advance X (ad 1) = some X1 → TR X1 ad → gI X1 (ad 1) 21 = nI s → (cl (f_X12_readParts (uI (uI X1 (ad 11) (5 * s) 3) (ad 1) 21 (nI (s + 1))) (ad 1) 3 (nI (5 * s))) fun (o11 : Int32 × St) => if o11.1 = 0 then some (0, o11.2) else (cl (f_X12_readEnd o11.2 (ad 1)) fun (o15 : Int32 × St) => if o15.1 = 0 then some (0, o15.2) else (some (1, o15.2)))) = R) → ∀ X1, f_X12_advance X (ad 1) = some X1 → TR X1 ad → gI X1 (ad 1) 21 = nI s → f_X12_readEntry X (ad 1) = R := by
    intro X r h21 R hR X1 a1 t1 g1
    have ne : ad 1 ≠ ad 11 := fun z => absurd ((t1.1 _ _).mp z) (by decide)
    have g2 : gI (uI X1 (ad 11) (5 * s) 3) (ad 1) 21 = nI s := by rw [gI_uI, if_neg (fun z => ne z.1)]; exact g1
    rw [← hR X1 a1 t1 g1]
    simp only [f_X12_readEntry, R_entK r, cl_n, hw, nm, if_false, lt_n, h21, ld40 hs, a1, g1, mu5, r_1_18 t1, st11 t1 (show 5 * s < 200 by omega), g2, da1, jn_n]
  cases hq : qor (eA3 B n (tkR B n e) v nf) (eEnd B n (tkR B n (tkR B n (tkR B n e)))) with
  | none =>
    obtain ⟨q1, q2⟩ := qor_none hq
    rw [hq] at l9
    have p1 := tkR_lt he hk1
    have y0 := tkR_le (B := B) he
    have y1 := tkR_le (B := B) y0.2
    have y2 := tkR_le (B := B) y1.2
    have y3 := tkR_le (B := B) y2.2
    refine Or.inl ⟨_, by omega, l9, hs, by rw [gI_uI, if_pos ⟨rfl, rfl⟩], fun q l h1 h7 hl => ?_, fun X r h21 hv => ?_⟩
    · have z := jw.2.2 (k + q) l (by omega) hl
      exact ⟨(cc q l h1 h7).1.trans z.1, (cc q l h1 h7).2.trans z.2⟩
    · obtain ⟨X1, a1, t1, g1, r3, x3, f21, v3, k3, lo3⟩ := rX1 (kd := 3) r hk1 h21 hs hv
      rcases RA3 r3 hs v3 h2 h8 with ⟨-, X4, a4, r4, x4, lo4, w4, nm4⟩ | ⟨c, p, z, -⟩
      · rcases R_end r4 with ⟨-, X5, a5, r5, x5⟩ | ⟨z, -⟩
        · have c5 : ∀ l, gI X5 (ad 11) l = gI X4 (ad 11) l := fun l => (x5.2.1 11 (by decide) (fun z => z) l).1
          refine ⟨X5, rE X r h21 _ (fun X1' a1' t1' g1' => ?_) X1 a1 t1 g1, r5, (x3.tr (x4.mono (fun _ z => z) (fun _ z => Or.inl z))).tr (x5.mono (fun _ z => z.elim) (fun _ z => Or.inl z)), (x5.2.2 21 (by unfold Qt; omega)).trans ((x4.2.2 21 (by unfold Qt; omega)).trans f21), fun l hl => ?_, ?_⟩
          · have : X1' = X1 := Option.some.inj (a1'.symm.trans a1)
            subst this
            rw [a4, cl_n]
            simp only [i10, if_false, a5, cl_n]
          · rw [c5, lo4 l (by omega), lo3 l hl]
          · have r0 : gI X5 (ad 11) (5 * s + 0) = 3 := by rw [c5, lo4 _ (by omega)]; exact k3
            have kd9 : gI (uI S8 (ad k) 7 (nI (s + 1))) (ad (k + 1)) s = 3 := ((cc 1 s (by omega) (by omega)).1.trans (cd 1 s (by omega) (by omega)).1).trans kd7
            have en0 : (eNm B n (tkR B n e) v nf true) = none := by
              rw [eA3] at q1; exact (qor_none q1).1
            have L0 := ((cc 2 s (by omega) (by omega)).1.trans (cd 2 s (by omega) (by omega)).1).trans (w7.1 en0)
            have rq0 := (c5 _).trans w4.1
            have L1 := ((cc 7 s (by omega) (by omega)).2.trans (cd 7 s (by omega) (by omega)).2).trans w7.2
            have rq1 := (c5 _).trans w4.2
            have z1 := vNum_ok (B := B) (n := n) (e := (tkR B n (tkR B n e))) (a := 1) (y1.2) (h := 999999) (hi := 999999) (by decide) rfl (by decide)
            refine ⟨r0.trans kd9.symm, Or.inr (Or.inr (Or.inl ⟨Or.inr kd9, (L0.trans rq0.symm), (show gJ (uI S8 (ad k) 7 (nI (s + 1))) (ad (k + 7)) s = 100 * (gI X5 (ad 11) (5 * s + 2)).toInt64 by rw [L1, rq1, m100 (by omega)]), ?_, ⟨_, z1.1, z1.2, rq1⟩⟩))⟩
            obtain ⟨f, hf, ef⟩ := nm4
            exact ⟨f, hf, L0.trans ef⟩
        · rw [q2] at z; simp at z
      · rw [q1] at z; simp at z
  | some cp =>
    obtain ⟨c, p⟩ := cp
    rw [hq] at l9
    refine Or.inr ⟨c, p, _, l9, fun X r h21 hv => ?_⟩
    obtain ⟨X1, a1, t1, g1, r3, x3, f21, v3, k3, lo3⟩ := rX1 (kd := 3) r hk1 h21 hs hv
    have x3' := x3.mono (P' := P11) (Q' := Qef) (fun _ z => z) (fun i z => z.elim (fun y => Or.inl (Qtf i y)) Or.inr)
    rcases RA3 r3 hs v3 h2 h8 with ⟨q1, X4, a4, r4, x4, -⟩ | ⟨c', p', z, -, X4, a4, x4⟩
    · rcases R_end r4 with ⟨q2, -⟩ | ⟨q2, X5, a5, x5⟩
      · rw [q1, q2] at hq; simp [qor] at hq
      · rw [q1, q2, qor_0] at hq
        injection hq with hq
        injection hq with hc hp
        subst hc; subst hp
        refine ⟨X5, rE X r h21 _ (fun X1' a1' t1' g1' => ?_) X1 a1 t1 g1, RFl.pre x3' (RFl.pre (x4.mono (fun _ z => z) (fun i z => Or.inl (Qtf i z))) (x5.mono (fun _ z => z.elim) (fun _ z => Or.inl z)))⟩
        have : X1' = X1 := Option.some.inj (a1'.symm.trans a1)
        subst this
        rw [a4, cl_n]
        simp only [i10, if_false, a5, cl_n, if_true]
    · rw [z, qor_s] at hq
      injection hq with hq
      injection hq with hc hp
      subst hc; subst hp
      refine ⟨X4, rE X r h21 _ (fun X1' a1' t1' g1' => ?_) X1 a1 t1 g1, RFl.pre x3' (x4.mono (fun _ z => z) (fun _ z => Or.inl z))⟩
      have : X1' = X1 := Option.some.inj (a1'.symm.trans a1)
      subst this
      rw [a4, cl_n]
      simp only [if_true]
theorem EN_4 {B : Nat → Int32} {n e s : Nat} (h : LGt S ad B n e none) (hk : JB k) (hs : s < 40) (g7 : gI S (ad k) 7 = nI s) (hw : enW B n e = 4) (hk1 : tkK B n e = 1) (hb : BB b) (h8 : nf ≤ 8) (ax : AXN S ad b v nf) (h2 : v 2 = lN nf) : EN2 S ad b k v nf B n e s := by
  have hk' : k = 22 ∨ k = 30 := hk
  have t0 := h.1.1
  have he := h.2.2.2.2.2.1
  have nm : ¬ (4 : Int32) = -1 := by decide
  have l6 := LGs_I (s := s) h.ls hk (q := 1) (by omega) 4
  have ax6 : AXN (uI S (ad (k + 1)) s 4) ad b v nf := AXN_c (fun q hq => Ag_uI t0 (by unfold BB at hb; omega)) ax
  have g76 : gI (uI S (ad (k + 1)) s 4) (ad k) 7 = nI s := ((Ag_uI t0 (by omega) 7).1).trans g7
  obtain ⟨S7, a7, j7, c7, kd7, w7⟩ := LA4 l6 hk hs g76 (by rw [gI_uI, if_pos ⟨rfl, rfl⟩]) hb h8 ax6
  rw [qor_0] at c7
  obtain ⟨S8, a8, b8, c8⟩ := L_end c7
  have t8 := c8.1.1
  have jw := ((JW_I (S := S) (ad := ad) (k := k) (s := s) (q := 1) t0 (by omega) 4).tr j7).tr (JW_k b8)
  have g78 : gI S8 (ad k) 7 = nI s := (jw.2.1 k (by omega) (by omega) 7).1.trans g7
  have lt4 : nI s < (40 : Int32) := by rw [show (40 : Int32) = nI 40 from rfl, nI_ltI (by omega) (by omega)]; exact hs
  have kc := (JW_PK jw).tr (KCx_uI (P := PK k) t8 (p := k) (i := 7) (w := nI (s + 1)) (Or.inr (by omega)))
  have ex : f_X5_readEntry S (ad k) (ad 12) (ad (b + 4)) = some (uI S8 (ad k) 7 (nI (s + 1))) := by
    simp only [f_X5_readEntry, L_kindW h, cl_n, hw, nm, if_false, lt_n, g7, lt4, if_true, r_j_0 t0 hk, sj1 t0 hk hs, a7, a8, g78, da1]
  have cc : ∀ q l, 1 ≤ q → q ≤ 7 → gI (uI S8 (ad k) 7 (nI (s + 1))) (ad (k + q)) l = gI S8 (ad (k + q)) l ∧ gJ (uI S8 (ad k) 7 (nI (s + 1))) (ad (k + q)) l = gJ S8 (ad (k + q)) l := fun q l h1 _ => Ag_uI t8 (by omega) l
  have cd : ∀ q l, 1 ≤ q → q ≤ 7 → gI S8 (ad (k + q)) l = gI S7 (ad (k + q)) l ∧ gJ S8 (ad (k + q)) l = gJ S7 (ad (k + q)) l := fun q l h1 _ => b8.2 _ (by unfold P12; omega) l
  have l9 : LGs (uI S8 (ad k) 7 (nI (s + 1))) ad B n (tkR B n (tkR B n (tkR B n e))) (qor (eA4 B n (tkR B n e) v nf) (eEnd B n (tkR B n (tkR B n e)))) := LGs_c (P := fun p => p = k) (KCx_uI t8 rfl) (by omega) (by omega) c8.ls
  have g8 : gI (uI S8 (ad k) 7 (nI (s + 1))) (ad k) 8 = gI S (ad k) 8 := by
    rw [gI_uI, if_neg (fun z => absurd z.2 (by decide))]; exact (jw.2.1 k (by omega) (by omega) 8).1
  refine ⟨_, ex, kc, g8, ?_⟩
  have rE : ∀ X, RS X ad B n e → gI X (ad 1) 21 = nI s → ∀ (R : Option (Int32 × St)), (∀ X1, f_X12_advance X (ad 1) = some X1 → TR X1 ad → gI X1 (ad 1) 21 = nI s → (cl (f_X12_readParts (uI (uI X1 (ad 11) (5 * s) 4) (ad 1) 21 (nI (s + 1))) (ad 1) 4 (nI (5 * s))) fun (o11 : Int32 × St) => if o11.1 = 0 then some (0, o11.2) else (cl (f_X12_readEnd o11.2 (ad 1)) fun (o15 : Int32 × St) => if o15.1 = 0 then some (0, o15.2) else (some (1, o15.2)))) = R) → ∀ X1, f_X12_advance X (ad 1) = some X1 → TR X1 ad → gI X1 (ad 1) 21 = nI s → f_X12_readEntry X (ad 1) = R := by
    intro X r h21 R hR X1 a1 t1 g1
    have ne : ad 1 ≠ ad 11 := fun z => absurd ((t1.1 _ _).mp z) (by decide)
    have g2 : gI (uI X1 (ad 11) (5 * s) 4) (ad 1) 21 = nI s := by rw [gI_uI, if_neg (fun z => ne z.1)]; exact g1
    rw [← hR X1 a1 t1 g1]
    simp only [f_X12_readEntry, R_entK r, cl_n, hw, nm, if_false, lt_n, h21, ld40 hs, a1, g1, mu5, r_1_18 t1, st11 t1 (show 5 * s < 200 by omega), g2, da1, jn_n]
  cases hq : qor (eA4 B n (tkR B n e) v nf) (eEnd B n (tkR B n (tkR B n e))) with
  | none =>
    obtain ⟨q1, q2⟩ := qor_none hq
    rw [hq] at l9
    have p1 := tkR_lt he hk1
    have y0 := tkR_le (B := B) he
    have y1 := tkR_le (B := B) y0.2
    have y2 := tkR_le (B := B) y1.2
    refine Or.inl ⟨_, by omega, l9, hs, by rw [gI_uI, if_pos ⟨rfl, rfl⟩], fun q l h1 h7 hl => ?_, fun X r h21 hv => ?_⟩
    · have z := jw.2.2 (k + q) l (by omega) hl
      exact ⟨(cc q l h1 h7).1.trans z.1, (cc q l h1 h7).2.trans z.2⟩
    · obtain ⟨X1, a1, t1, g1, r3, x3, f21, v3, k3, lo3⟩ := rX1 (kd := 4) r hk1 h21 hs hv
      rcases RA4 r3 hs v3 h2 h8 with ⟨-, X4, a4, r4, x4, lo4, w4, nm4⟩ | ⟨c, p, z, -⟩
      · rcases R_end r4 with ⟨-, X5, a5, r5, x5⟩ | ⟨z, -⟩
        · have c5 : ∀ l, gI X5 (ad 11) l = gI X4 (ad 11) l := fun l => (x5.2.1 11 (by decide) (fun z => z) l).1
          refine ⟨X5, rE X r h21 _ (fun X1' a1' t1' g1' => ?_) X1 a1 t1 g1, r5, (x3.tr (x4.mono (fun _ z => z) (fun _ z => Or.inl z))).tr (x5.mono (fun _ z => z.elim) (fun _ z => Or.inl z)), (x5.2.2 21 (by unfold Qt; omega)).trans ((x4.2.2 21 (by unfold Qt; omega)).trans f21), fun l hl => ?_, ?_⟩
          · have : X1' = X1 := Option.some.inj (a1'.symm.trans a1)
            subst this
            rw [a4, cl_n]
            simp only [i10, if_false, a5, cl_n]
          · rw [c5, lo4 l (by omega), lo3 l hl]
          · have r0 : gI X5 (ad 11) (5 * s + 0) = 4 := by rw [c5, lo4 _ (by omega)]; exact k3
            have kd9 : gI (uI S8 (ad k) 7 (nI (s + 1))) (ad (k + 1)) s = 4 := ((cc 1 s (by omega) (by omega)).1.trans (cd 1 s (by omega) (by omega)).1).trans kd7
            have L0 := ((cc 7 s (by omega) (by omega)).2.trans (cd 7 s (by omega) (by omega)).2).trans w7
            have rq0 := (c5 _).trans w4
            have z0 := vNum_ok (B := B) (n := n) (e := (tkR B n e)) (a := 1) (y0.2) (h := 999999) (hi := 999999) (by decide) rfl (by decide)
            refine ⟨r0.trans kd9.symm, Or.inr (Or.inr (Or.inr (Or.inl ⟨kd9, (show gJ (uI S8 (ad k) 7 (nI (s + 1))) (ad (k + 7)) s = 100 * (gI X5 (ad 11) (5 * s + 1)).toInt64 by rw [L0, rq0, m100 (by omega)]), ⟨_, z0.1, z0.2, rq0⟩⟩)))⟩
        · rw [q2] at z; simp at z
      · rw [q1] at z; simp at z
  | some cp =>
    obtain ⟨c, p⟩ := cp
    rw [hq] at l9
    refine Or.inr ⟨c, p, _, l9, fun X r h21 hv => ?_⟩
    obtain ⟨X1, a1, t1, g1, r3, x3, f21, v3, k3, lo3⟩ := rX1 (kd := 4) r hk1 h21 hs hv
    have x3' := x3.mono (P' := P11) (Q' := Qef) (fun _ z => z) (fun i z => z.elim (fun y => Or.inl (Qtf i y)) Or.inr)
    rcases RA4 r3 hs v3 h2 h8 with ⟨q1, X4, a4, r4, x4, -⟩ | ⟨c', p', z, -, X4, a4, x4⟩
    · rcases R_end r4 with ⟨q2, -⟩ | ⟨q2, X5, a5, x5⟩
      · rw [q1, q2] at hq; simp [qor] at hq
      · rw [q1, q2, qor_0] at hq
        injection hq with hq
        injection hq with hc hp
        subst hc; subst hp
        refine ⟨X5, rE X r h21 _ (fun X1' a1' t1' g1' => ?_) X1 a1 t1 g1, RFl.pre x3' (RFl.pre (x4.mono (fun _ z => z) (fun i z => Or.inl (Qtf i z))) (x5.mono (fun _ z => z.elim) (fun _ z => Or.inl z)))⟩
        have : X1' = X1 := Option.some.inj (a1'.symm.trans a1)
        subst this
        rw [a4, cl_n]
        simp only [i10, if_false, a5, cl_n, if_true]
    · rw [z, qor_s] at hq
      injection hq with hq
      injection hq with hc hp
      subst hc; subst hp
      refine ⟨X4, rE X r h21 _ (fun X1' a1' t1' g1' => ?_) X1 a1 t1 g1, RFl.pre x3' (x4.mono (fun _ z => z) (fun _ z => Or.inl z))⟩
      have : X1' = X1 := Option.some.inj (a1'.symm.trans a1)
      subst this
      rw [a4, cl_n]
      simp only [if_true]
theorem EN_5 {B : Nat → Int32} {n e s : Nat} (h : LGt S ad B n e none) (hk : JB k) (hs : s < 40) (g7 : gI S (ad k) 7 = nI s) (hw : enW B n e = 5) (hk1 : tkK B n e = 1) (hb : BB b) (h8 : nf ≤ 8) (ax : AXN S ad b v nf) (h2 : v 2 = lN nf) : EN2 S ad b k v nf B n e s := by
  have hk' : k = 22 ∨ k = 30 := hk
  have t0 := h.1.1
  have he := h.2.2.2.2.2.1
  have nm : ¬ (5 : Int32) = -1 := by decide
  have l6 := LGs_I (s := s) h.ls hk (q := 1) (by omega) 5
  have ax6 : AXN (uI S (ad (k + 1)) s 5) ad b v nf := AXN_c (fun q hq => Ag_uI t0 (by unfold BB at hb; omega)) ax
  have g76 : gI (uI S (ad (k + 1)) s 5) (ad k) 7 = nI s := ((Ag_uI t0 (by omega) 7).1).trans g7
  obtain ⟨S7, a7, j7, c7, kd7, w7⟩ := LA5 l6 hk hs g76 (by rw [gI_uI, if_pos ⟨rfl, rfl⟩]) hb h8 ax6
  rw [qor_0] at c7
  obtain ⟨S8, a8, b8, c8⟩ := L_end c7
  have t8 := c8.1.1
  have jw := ((JW_I (S := S) (ad := ad) (k := k) (s := s) (q := 1) t0 (by omega) 5).tr j7).tr (JW_k b8)
  have g78 : gI S8 (ad k) 7 = nI s := (jw.2.1 k (by omega) (by omega) 7).1.trans g7
  have lt4 : nI s < (40 : Int32) := by rw [show (40 : Int32) = nI 40 from rfl, nI_ltI (by omega) (by omega)]; exact hs
  have kc := (JW_PK jw).tr (KCx_uI (P := PK k) t8 (p := k) (i := 7) (w := nI (s + 1)) (Or.inr (by omega)))
  have ex : f_X5_readEntry S (ad k) (ad 12) (ad (b + 4)) = some (uI S8 (ad k) 7 (nI (s + 1))) := by
    simp only [f_X5_readEntry, L_kindW h, cl_n, hw, nm, if_false, lt_n, g7, lt4, if_true, r_j_0 t0 hk, sj1 t0 hk hs, a7, a8, g78, da1]
  have cc : ∀ q l, 1 ≤ q → q ≤ 7 → gI (uI S8 (ad k) 7 (nI (s + 1))) (ad (k + q)) l = gI S8 (ad (k + q)) l ∧ gJ (uI S8 (ad k) 7 (nI (s + 1))) (ad (k + q)) l = gJ S8 (ad (k + q)) l := fun q l h1 _ => Ag_uI t8 (by omega) l
  have cd : ∀ q l, 1 ≤ q → q ≤ 7 → gI S8 (ad (k + q)) l = gI S7 (ad (k + q)) l ∧ gJ S8 (ad (k + q)) l = gJ S7 (ad (k + q)) l := fun q l h1 _ => b8.2 _ (by unfold P12; omega) l
  have l9 : LGs (uI S8 (ad k) 7 (nI (s + 1))) ad B n (tkR B n (tkR B n (tkR B n (tkR B n (tkR B n e))))) (qor (eA5 B n (tkR B n e) v nf) (eEnd B n (tkR B n (tkR B n (tkR B n (tkR B n e)))))) := LGs_c (P := fun p => p = k) (KCx_uI t8 rfl) (by omega) (by omega) c8.ls
  have g8 : gI (uI S8 (ad k) 7 (nI (s + 1))) (ad k) 8 = gI S (ad k) 8 := by
    rw [gI_uI, if_neg (fun z => absurd z.2 (by decide))]; exact (jw.2.1 k (by omega) (by omega) 8).1
  refine ⟨_, ex, kc, g8, ?_⟩
  have rE : ∀ X, RS X ad B n e → gI X (ad 1) 21 = nI s → ∀ (R : Option (Int32 × St)), (∀ X1, f_X12_advance X (ad 1) = some X1 → TR X1 ad → gI X1 (ad 1) 21 = nI s → (cl (f_X12_readParts (uI (uI X1 (ad 11) (5 * s) 5) (ad 1) 21 (nI (s + 1))) (ad 1) 5 (nI (5 * s))) fun (o11 : Int32 × St) => if o11.1 = 0 then some (0, o11.2) else (cl (f_X12_readEnd o11.2 (ad 1)) fun (o15 : Int32 × St) => if o15.1 = 0 then some (0, o15.2) else (some (1, o15.2)))) = R) → ∀ X1, f_X12_advance X (ad 1) = some X1 → TR X1 ad → gI X1 (ad 1) 21 = nI s → f_X12_readEntry X (ad 1) = R := by
    intro X r h21 R hR X1 a1 t1 g1
    have ne : ad 1 ≠ ad 11 := fun z => absurd ((t1.1 _ _).mp z) (by decide)
    have g2 : gI (uI X1 (ad 11) (5 * s) 5) (ad 1) 21 = nI s := by rw [gI_uI, if_neg (fun z => ne z.1)]; exact g1
    rw [← hR X1 a1 t1 g1]
    simp only [f_X12_readEntry, R_entK r, cl_n, hw, nm, if_false, lt_n, h21, ld40 hs, a1, g1, mu5, r_1_18 t1, st11 t1 (show 5 * s < 200 by omega), g2, da1, jn_n]
  cases hq : qor (eA5 B n (tkR B n e) v nf) (eEnd B n (tkR B n (tkR B n (tkR B n (tkR B n e))))) with
  | none =>
    obtain ⟨q1, q2⟩ := qor_none hq
    rw [hq] at l9
    have p1 := tkR_lt he hk1
    have y0 := tkR_le (B := B) he
    have y1 := tkR_le (B := B) y0.2
    have y2 := tkR_le (B := B) y1.2
    have y3 := tkR_le (B := B) y2.2
    have y4 := tkR_le (B := B) y3.2
    refine Or.inl ⟨_, by omega, l9, hs, by rw [gI_uI, if_pos ⟨rfl, rfl⟩], fun q l h1 h7 hl => ?_, fun X r h21 hv => ?_⟩
    · have z := jw.2.2 (k + q) l (by omega) hl
      exact ⟨(cc q l h1 h7).1.trans z.1, (cc q l h1 h7).2.trans z.2⟩
    · obtain ⟨X1, a1, t1, g1, r3, x3, f21, v3, k3, lo3⟩ := rX1 (kd := 5) r hk1 h21 hs hv
      rcases RA5 r3 hs v3 h2 h8 with ⟨-, X4, a4, r4, x4, lo4, w4, nm4⟩ | ⟨c, p, z, -⟩
      · rcases R_end r4 with ⟨-, X5, a5, r5, x5⟩ | ⟨z, -⟩
        · have c5 : ∀ l, gI X5 (ad 11) l = gI X4 (ad 11) l := fun l => (x5.2.1 11 (by decide) (fun z => z) l).1
          refine ⟨X5, rE X r h21 _ (fun X1' a1' t1' g1' => ?_) X1 a1 t1 g1, r5, (x3.tr (x4.mono (fun _ z => z) (fun _ z => Or.inl z))).tr (x5.mono (fun _ z => z.elim) (fun _ z => Or.inl z)), (x5.2.2 21 (by unfold Qt; omega)).trans ((x4.2.2 21 (by unfold Qt; omega)).trans f21), fun l hl => ?_, ?_⟩
          · have : X1' = X1 := Option.some.inj (a1'.symm.trans a1)
            subst this
            rw [a4, cl_n]
            simp only [i10, if_false, a5, cl_n]
          · rw [c5, lo4 l (by omega), lo3 l hl]
          · have r0 : gI X5 (ad 11) (5 * s + 0) = 5 := by rw [c5, lo4 _ (by omega)]; exact k3
            have kd9 : gI (uI S8 (ad k) 7 (nI (s + 1))) (ad (k + 1)) s = 5 := ((cc 1 s (by omega) (by omega)).1.trans (cd 1 s (by omega) (by omega)).1).trans kd7
            have en0 : (eNm B n (tkR B n e) v nf true) = none := by
              rw [eA5] at q1; exact (qor_none q1).1
            have L0 := ((cc 2 s (by omega) (by omega)).1.trans (cd 2 s (by omega) (by omega)).1).trans (w7.1 en0)
            have rq0 := (c5 _).trans w4.1
            have L1 := ((cc 5 s (by omega) (by omega)).1.trans (cd 5 s (by omega) (by omega)).1).trans w7.2.1
            have rq1 := (c5 _).trans w4.2.1
            have L2 := ((cc 6 s (by omega) (by omega)).1.trans (cd 6 s (by omega) (by omega)).1).trans w7.2.2
            have rq2 := (c5 _).trans w4.2.2
            have z1 := vNum_ok (B := B) (n := n) (e := (tkR B n (tkR B n e))) (a := 0) (y1.2) (h := 4) (hi := 4) (by decide) rfl (by decide)
            refine ⟨r0.trans kd9.symm, Or.inr (Or.inr (Or.inr (Or.inr (Or.inl ⟨kd9, (L0.trans rq0.symm), (L1.trans rq1.symm), (L2.trans rq2.symm), ?_, ⟨_, by omega, L1⟩, ?_⟩))))⟩
            · obtain ⟨f, hf, ef⟩ := nm4
              exact ⟨f, hf, L0.trans ef⟩
            · rw [L2]; cases isW B n (tkR B n (tkR B n (tkR B n e))) 17
              · exact Or.inl rfl
              · exact Or.inr rfl
        · rw [q2] at z; simp at z
      · rw [q1] at z; simp at z
  | some cp =>
    obtain ⟨c, p⟩ := cp
    rw [hq] at l9
    refine Or.inr ⟨c, p, _, l9, fun X r h21 hv => ?_⟩
    obtain ⟨X1, a1, t1, g1, r3, x3, f21, v3, k3, lo3⟩ := rX1 (kd := 5) r hk1 h21 hs hv
    have x3' := x3.mono (P' := P11) (Q' := Qef) (fun _ z => z) (fun i z => z.elim (fun y => Or.inl (Qtf i y)) Or.inr)
    rcases RA5 r3 hs v3 h2 h8 with ⟨q1, X4, a4, r4, x4, -⟩ | ⟨c', p', z, -, X4, a4, x4⟩
    · rcases R_end r4 with ⟨q2, -⟩ | ⟨q2, X5, a5, x5⟩
      · rw [q1, q2] at hq; simp [qor] at hq
      · rw [q1, q2, qor_0] at hq
        injection hq with hq
        injection hq with hc hp
        subst hc; subst hp
        refine ⟨X5, rE X r h21 _ (fun X1' a1' t1' g1' => ?_) X1 a1 t1 g1, RFl.pre x3' (RFl.pre (x4.mono (fun _ z => z) (fun i z => Or.inl (Qtf i z))) (x5.mono (fun _ z => z.elim) (fun _ z => Or.inl z)))⟩
        have : X1' = X1 := Option.some.inj (a1'.symm.trans a1)
        subst this
        rw [a4, cl_n]
        simp only [i10, if_false, a5, cl_n, if_true]
    · rw [z, qor_s] at hq
      injection hq with hq
      injection hq with hc hp
      subst hc; subst hp
      refine ⟨X4, rE X r h21 _ (fun X1' a1' t1' g1' => ?_) X1 a1 t1 g1, RFl.pre x3' (x4.mono (fun _ z => z) (fun _ z => Or.inl z))⟩
      have : X1' = X1 := Option.some.inj (a1'.symm.trans a1)
      subst this
      rw [a4, cl_n]
      simp only [if_true]
theorem EN_6 {B : Nat → Int32} {n e s : Nat} (h : LGt S ad B n e none) (hk : JB k) (hs : s < 40) (g7 : gI S (ad k) 7 = nI s) (hw : enW B n e = 6) (hk1 : tkK B n e = 1) (hb : BB b) (h8 : nf ≤ 8) (ax : AXN S ad b v nf) (h2 : v 2 = lN nf) : EN2 S ad b k v nf B n e s := by
  have hk' : k = 22 ∨ k = 30 := hk
  have t0 := h.1.1
  have he := h.2.2.2.2.2.1
  have nm : ¬ (6 : Int32) = -1 := by decide
  have l6 := LGs_I (s := s) h.ls hk (q := 1) (by omega) 6
  have ax6 : AXN (uI S (ad (k + 1)) s 6) ad b v nf := AXN_c (fun q hq => Ag_uI t0 (by unfold BB at hb; omega)) ax
  have g76 : gI (uI S (ad (k + 1)) s 6) (ad k) 7 = nI s := ((Ag_uI t0 (by omega) 7).1).trans g7
  obtain ⟨S7, a7, j7, c7, kd7, w7⟩ := LA6 l6 hk hs g76 (by rw [gI_uI, if_pos ⟨rfl, rfl⟩]) hb h8 ax6
  rw [qor_0] at c7
  obtain ⟨S8, a8, b8, c8⟩ := L_end c7
  have t8 := c8.1.1
  have jw := ((JW_I (S := S) (ad := ad) (k := k) (s := s) (q := 1) t0 (by omega) 6).tr j7).tr (JW_k b8)
  have g78 : gI S8 (ad k) 7 = nI s := (jw.2.1 k (by omega) (by omega) 7).1.trans g7
  have lt4 : nI s < (40 : Int32) := by rw [show (40 : Int32) = nI 40 from rfl, nI_ltI (by omega) (by omega)]; exact hs
  have kc := (JW_PK jw).tr (KCx_uI (P := PK k) t8 (p := k) (i := 7) (w := nI (s + 1)) (Or.inr (by omega)))
  have ex : f_X5_readEntry S (ad k) (ad 12) (ad (b + 4)) = some (uI S8 (ad k) 7 (nI (s + 1))) := by
    simp only [f_X5_readEntry, L_kindW h, cl_n, hw, nm, if_false, lt_n, g7, lt4, if_true, r_j_0 t0 hk, sj1 t0 hk hs, a7, a8, g78, da1]
  have cc : ∀ q l, 1 ≤ q → q ≤ 7 → gI (uI S8 (ad k) 7 (nI (s + 1))) (ad (k + q)) l = gI S8 (ad (k + q)) l ∧ gJ (uI S8 (ad k) 7 (nI (s + 1))) (ad (k + q)) l = gJ S8 (ad (k + q)) l := fun q l h1 _ => Ag_uI t8 (by omega) l
  have cd : ∀ q l, 1 ≤ q → q ≤ 7 → gI S8 (ad (k + q)) l = gI S7 (ad (k + q)) l ∧ gJ S8 (ad (k + q)) l = gJ S7 (ad (k + q)) l := fun q l h1 _ => b8.2 _ (by unfold P12; omega) l
  have l9 : LGs (uI S8 (ad k) 7 (nI (s + 1))) ad B n (tkR B n (tkR B n e)) (qor (eA6 B n (tkR B n e) v nf) (eEnd B n (tkR B n e))) := LGs_c (P := fun p => p = k) (KCx_uI t8 rfl) (by omega) (by omega) c8.ls
  have g8 : gI (uI S8 (ad k) 7 (nI (s + 1))) (ad k) 8 = gI S (ad k) 8 := by
    rw [gI_uI, if_neg (fun z => absurd z.2 (by decide))]; exact (jw.2.1 k (by omega) (by omega) 8).1
  refine ⟨_, ex, kc, g8, ?_⟩
  have rE : ∀ X, RS X ad B n e → gI X (ad 1) 21 = nI s → ∀ (R : Option (Int32 × St)), (∀ X1, f_X12_advance X (ad 1) = some X1 → TR X1 ad → gI X1 (ad 1) 21 = nI s → (cl (f_X12_readParts (uI (uI X1 (ad 11) (5 * s) 6) (ad 1) 21 (nI (s + 1))) (ad 1) 6 (nI (5 * s))) fun (o11 : Int32 × St) => if o11.1 = 0 then some (0, o11.2) else (cl (f_X12_readEnd o11.2 (ad 1)) fun (o15 : Int32 × St) => if o15.1 = 0 then some (0, o15.2) else (some (1, o15.2)))) = R) → ∀ X1, f_X12_advance X (ad 1) = some X1 → TR X1 ad → gI X1 (ad 1) 21 = nI s → f_X12_readEntry X (ad 1) = R := by
    intro X r h21 R hR X1 a1 t1 g1
    have ne : ad 1 ≠ ad 11 := fun z => absurd ((t1.1 _ _).mp z) (by decide)
    have g2 : gI (uI X1 (ad 11) (5 * s) 6) (ad 1) 21 = nI s := by rw [gI_uI, if_neg (fun z => ne z.1)]; exact g1
    rw [← hR X1 a1 t1 g1]
    simp only [f_X12_readEntry, R_entK r, cl_n, hw, nm, if_false, lt_n, h21, ld40 hs, a1, g1, mu5, r_1_18 t1, st11 t1 (show 5 * s < 200 by omega), g2, da1, jn_n]
  cases hq : qor (eA6 B n (tkR B n e) v nf) (eEnd B n (tkR B n e)) with
  | none =>
    obtain ⟨q1, q2⟩ := qor_none hq
    rw [hq] at l9
    have p1 := tkR_lt he hk1
    have y0 := tkR_le (B := B) he
    have y1 := tkR_le (B := B) y0.2
    refine Or.inl ⟨_, by omega, l9, hs, by rw [gI_uI, if_pos ⟨rfl, rfl⟩], fun q l h1 h7 hl => ?_, fun X r h21 hv => ?_⟩
    · have z := jw.2.2 (k + q) l (by omega) hl
      exact ⟨(cc q l h1 h7).1.trans z.1, (cc q l h1 h7).2.trans z.2⟩
    · obtain ⟨X1, a1, t1, g1, r3, x3, f21, v3, k3, lo3⟩ := rX1 (kd := 6) r hk1 h21 hs hv
      rcases RA6 r3 hs v3 h2 h8 with ⟨-, X4, a4, r4, x4, lo4, w4, nm4⟩ | ⟨c, p, z, -⟩
      · rcases R_end r4 with ⟨-, X5, a5, r5, x5⟩ | ⟨z, -⟩
        · have c5 : ∀ l, gI X5 (ad 11) l = gI X4 (ad 11) l := fun l => (x5.2.1 11 (by decide) (fun z => z) l).1
          refine ⟨X5, rE X r h21 _ (fun X1' a1' t1' g1' => ?_) X1 a1 t1 g1, r5, (x3.tr (x4.mono (fun _ z => z) (fun _ z => Or.inl z))).tr (x5.mono (fun _ z => z.elim) (fun _ z => Or.inl z)), (x5.2.2 21 (by unfold Qt; omega)).trans ((x4.2.2 21 (by unfold Qt; omega)).trans f21), fun l hl => ?_, ?_⟩
          · have : X1' = X1 := Option.some.inj (a1'.symm.trans a1)
            subst this
            rw [a4, cl_n]
            simp only [i10, if_false, a5, cl_n]
          · rw [c5, lo4 l (by omega), lo3 l hl]
          · have r0 : gI X5 (ad 11) (5 * s + 0) = 6 := by rw [c5, lo4 _ (by omega)]; exact k3
            have kd9 : gI (uI S8 (ad k) 7 (nI (s + 1))) (ad (k + 1)) s = 6 := ((cc 1 s (by omega) (by omega)).1.trans (cd 1 s (by omega) (by omega)).1).trans kd7
            refine ⟨r0.trans kd9.symm, Or.inr (Or.inr (Or.inr (Or.inr (Or.inr kd9))))⟩
        · rw [q2] at z; simp at z
      · rw [q1] at z; simp at z
  | some cp =>
    obtain ⟨c, p⟩ := cp
    rw [hq] at l9
    refine Or.inr ⟨c, p, _, l9, fun X r h21 hv => ?_⟩
    obtain ⟨X1, a1, t1, g1, r3, x3, f21, v3, k3, lo3⟩ := rX1 (kd := 6) r hk1 h21 hs hv
    have x3' := x3.mono (P' := P11) (Q' := Qef) (fun _ z => z) (fun i z => z.elim (fun y => Or.inl (Qtf i y)) Or.inr)
    rcases RA6 r3 hs v3 h2 h8 with ⟨q1, X4, a4, r4, x4, -⟩ | ⟨c', p', z, -, X4, a4, x4⟩
    · rcases R_end r4 with ⟨q2, -⟩ | ⟨q2, X5, a5, x5⟩
      · rw [q1, q2] at hq; simp [qor] at hq
      · rw [q1, q2, qor_0] at hq
        injection hq with hq
        injection hq with hc hp
        subst hc; subst hp
        refine ⟨X5, rE X r h21 _ (fun X1' a1' t1' g1' => ?_) X1 a1 t1 g1, RFl.pre x3' (RFl.pre (x4.mono (fun _ z => z) (fun i z => Or.inl (Qtf i z))) (x5.mono (fun _ z => z.elim) (fun _ z => Or.inl z)))⟩
        have : X1' = X1 := Option.some.inj (a1'.symm.trans a1)
        subst this
        rw [a4, cl_n]
        simp only [i10, if_false, a5, cl_n, if_true]
    · rw [z, qor_s] at hq
      injection hq with hq
      injection hq with hc hp
      subst hc; subst hp
      refine ⟨X4, rE X r h21 _ (fun X1' a1' t1' g1' => ?_) X1 a1 t1 g1, RFl.pre x3' (x4.mono (fun _ z => z) (fun _ z => Or.inl z))⟩
      have : X1' = X1 := Option.some.inj (a1'.symm.trans a1)
      subst this
      rw [a4, cl_n]
      simp only [if_true]
