/-! the pure part: all that holds between two calls -/
variable {S S' : St} {ad : Nat → Nat} {b d j k : Nat} {v : Nat → Int64} {np nf no mo : Nat}
def INP (S : St) (ad : Nat → Nat) : Prop := ∃ n, n ≤ 1500 ∧ gI S (ad 12) 1 = nI n ∧ gI S (ad 1) 9 = nI n ∧ ∀ i, i < n → gI S (ad 13) i = gI S (ad 9) i ∧ -128 ≤ (gI S (ad 13) i).toInt ∧ (gI S (ad 13) i).toInt < 128
def ERR (S : St) (ad : Nat → Nat) : Prop := gI S (ad 0) 9 = gI S (ad 1) 11 ∧ gI S (ad 0) 10 = gI S (ad 1) 12
def FMT (S : St) (ad : Nat → Nat) : Prop := ∃ n, n ≤ 256 ∧ gI S (ad 14) 1 = nI n ∧ gI S (ad 1) 7 = nI n ∧ ∀ i, i < n → gI S (ad 15) i = gI S (ad 8) i
/-- an entry of the journal: kind, subject, place, member, vote, amount in the ledger; five ints in the reference -/
def ENT (nf : Nat) (kd sb x y mb ys : Int32) (am : Int64) (r : Nat → Int32) : Prop := r 0 = kd ∧ (
  (kd = 0 ∧ sb = r 1 ∧ am = 100 * (r 2).toInt64 ∧ (∃ s, s < 16 ∧ sb = nI s) ∧ ∃ a, a ≤ 100000 ∧ r 2 = nI a) ∨
  (kd = 1 ∧ sb = r 1 ∧ x = r 2 ∧ y = r 3 ∧ am = 100 * (r 4).toInt64 ∧ (∃ s, s < 16 ∧ sb = nI s) ∧ (∃ s, s < 30 ∧ x = nI s) ∧ (∃ s, s < 30 ∧ y = nI s) ∧ ∃ a, 1 ≤ a ∧ a ≤ 100000 ∧ r 4 = nI a) ∨
  ((kd = 2 ∨ kd = 3) ∧ sb = r 1 ∧ am = 100 * (r 2).toInt64 ∧ (∃ s, s < nf ∧ sb = nI s) ∧ ∃ a, 1 ≤ a ∧ a ≤ 999999 ∧ r 2 = nI a) ∨
  (kd = 4 ∧ am = 100 * (r 1).toInt64 ∧ ∃ a, 1 ≤ a ∧ a ≤ 999999 ∧ r 1 = nI a) ∨
  (kd = 5 ∧ sb = r 1 ∧ mb = r 2 ∧ ys = r 3 ∧ (∃ s, s < nf ∧ sb = nI s) ∧ (∃ s, s < 5 ∧ mb = nI s) ∧ (ys = 0 ∨ ys = 1)) ∨
  kd = 6)
def JRN (S : St) (ad : Nat → Nat) (j nf : Nat) : Prop := ∃ sz nx, nx ≤ sz ∧ sz ≤ 40 ∧ gI S (ad j) 7 = nI sz ∧ gI S (ad j) 8 = nI nx ∧ gI S (ad 1) 19 = nI sz ∧ gI S (ad 1) 20 = nI nx ∧ ∀ e, e < sz → ENT nf (gI S (ad (j + 1)) e) (gI S (ad (j + 2)) e) (gI S (ad (j + 3)) e) (gI S (ad (j + 4)) e) (gI S (ad (j + 5)) e) (gI S (ad (j + 6)) e) (gJ S (ad (j + 7)) e) (fun i => gI S (ad 10) (5 * e + i))
def TE (v w : Nat → Int64) (nf : Nat) : Prop := (∀ i, (i = 1 ∨ i = 2 ∨ (4 ≤ i ∧ i ≤ 10) ∨ (14 ≤ i ∧ i < 58)) → w i = v i) ∧ ∀ f, f < nf → w (58 + 16 * f + 0) = v (58 + 16 * f + 0)
def BK (w : Nat → Int64) (np nf no mo : Nat) : Prop := w 1 = lN np ∧ w 2 = lN nf ∧ w 3 = lN no ∧ w 0 = lN mo ∧ np ≤ 4 ∧ nf ≤ 8 ∧ no ≤ 16 ∧ mo ≤ 60
def AXs (S : St) (ad : Nat → Nat) (b : Nat) (w : Nat → Int64) (nf no mo : Nat) : Prop := AXG S ad b w ∧ AXO S ad b w no ∧ AXF S ad b w nf ∧ AXR S ad b w nf mo ∧ AXB S ad b w nf mo
def SN1 (S : St) (ad : Nat → Nat) (v : Nat → Int64) (np nf s : Nat) : Prop := gI S (ad 21) s = gI S (ad 4) s ∧ (gI S (ad 4) s = 0 ∨ (gI S (ad 4) s = 1 ∧ ∃ no mo, BK (fun i => v (5054 * (s + 1) + i)) np nf no mo ∧ (WF (fun i => v (5054 * (s + 1) + i)) np nf no mo ∧ WS (fun i => v (5054 * (s + 1) + i)) nf mo) ∧ AXs S ad (120 + 40 * s) (fun i => v (5054 * (s + 1) + i)) nf no mo ∧ TE v (fun i => v (5054 * (s + 1) + i)) nf))
def SNP (S : St) (ad : Nat → Nat) (v : Nat → Int64) (np nf : Nat) : Prop := SN1 S ad v np nf 0 ∧ SN1 S ad v np nf 1
def RE (S : St) (ad : Nat → Nat) (b d j k : Nat) (v : Nat → Int64) (np nf no mo : Nat) : Prop := CV S ad b v np nf no mo ∧ ((b = 40 ∧ d = 80) ∨ (b = 80 ∧ d = 40)) ∧ ((j = 22 ∧ k = 30) ∨ (j = 30 ∧ k = 22)) ∧ gR S (ad 0) 6 = ad d ∧ gR S (ad 0) 7 = ad j ∧ gR S (ad 0) 8 = ad k ∧ SNP S ad v np nf ∧ INP S ad ∧ ERR S ad ∧ FMT S ad ∧ JRN S ad j nf ∧ gJ S (ad 3) = v ∧ WS v nf mo
/-! what does not matter between two calls -/
/-- the cells of a name are the same -/
def Ag (S S' : St) (ad : Nat → Nat) (p : Nat) : Prop := ∀ i, gI S' (ad p) i = gI S (ad p) i ∧ gJ S' (ad p) i = gJ S (ad p) i
theorem AXT_c (h : ∀ q, q = 1 ∨ (8 ≤ q ∧ q ≤ 11) → Ag S S' ad (b + q)) (a : AXT S ad b v np) : AXT S' ad b v np := by
  have h1 := h 1 (by omega)
  have h8 := h 8 (by omega)
  have h9 := h 9 (by omega)
  have h10 := h 10 (by omega)
  have h11 := h 11 (by omega)
  simp only [AXT, fun i => (h1 i).1, fun i => (h1 i).2, fun i => (h8 i).1, fun i => (h9 i).1, fun i => (h10 i).2, fun i => (h11 i).1] at a ⊢
  exact a
theorem AXG_c (h : Ag S S' ad (b + 12)) (a : AXG S ad b v) : AXG S' ad b v := by
  simp only [AXG, fun i => (h i).1] at a ⊢
  exact a
theorem AXO_c (h : ∀ q, q = 3 ∨ (15 ≤ q ∧ q ≤ 18) → Ag S S' ad (b + q)) (a : AXO S ad b v no) : AXO S' ad b v no := by
  have h3 := h 3 (by omega)
  have h15 := h 15 (by omega)
  have h16 := h 16 (by omega)
  have h17 := h 17 (by omega)
  have h18 := h 18 (by omega)
  simp only [AXO, fun i => (h3 i).1, fun i => (h15 i).1, fun i => (h16 i).1, fun i => (h17 i).1, fun i => (h18 i).2] at a ⊢
  exact a
theorem AXN_c (h : ∀ q, q = 4 ∨ q = 19 ∨ q = 20 → Ag S S' ad (b + q)) (a : AXN S ad b v nf) : AXN S' ad b v nf := by
  have h4 := h 4 (by omega)
  have h19 := h 19 (by omega)
  have h20 := h 20 (by omega)
  simp only [AXN, fun i => (h4 i).1, fun i => (h19 i).1, fun i => (h20 i).1] at a ⊢
  exact a
theorem AXF_c (h : ∀ q, (21 ≤ q ∧ q ≤ 26) → Ag S S' ad (b + q)) (a : AXF S ad b v nf) : AXF S' ad b v nf := by
  have h21 := h 21 (by omega)
  have h22 := h 22 (by omega)
  have h23 := h 23 (by omega)
  have h24 := h 24 (by omega)
  have h25 := h 25 (by omega)
  have h26 := h 26 (by omega)
  simp only [AXF, fun i => (h21 i).1, fun i => (h22 i).1, fun i => (h23 i).1, fun i => (h24 i).1, fun i => (h25 i).1, fun i => (h26 i).2] at a ⊢
  exact a
theorem AXR_c (h : ∀ q, (27 ≤ q ∧ q ≤ 32) → Ag S S' ad (b + q)) (a : AXR S ad b v nf mo) : AXR S' ad b v nf mo := by
  have h27 := h 27 (by omega)
  have h28 := h 28 (by omega)
  have h29 := h 29 (by omega)
  have h30 := h 30 (by omega)
  have h31 := h 31 (by omega)
  have h32 := h 32 (by omega)
  simp only [AXR, fun i => (h27 i).1, fun i => (h28 i).1, fun i => (h29 i).1, fun i => (h30 i).2, fun i => (h31 i).1, fun i => (h32 i).1] at a ⊢
  exact a
theorem AXB_c (h : ∀ q, q = 6 ∨ (33 ≤ q ∧ q ≤ 38) → Ag S S' ad (b + q)) (a : AXB S ad b v nf mo) : AXB S' ad b v nf mo := by
  have h6 := h 6 (by omega)
  have h33 := h 33 (by omega)
  have h34 := h 34 (by omega)
  have h35 := h 35 (by omega)
  have h36 := h 36 (by omega)
  have h37 := h 37 (by omega)
  have h38 := h 38 (by omega)
  simp only [AXB, fun i => (h6 i).1, fun i => (h33 i).2, fun i => (h34 i).2, fun i => (h35 i).2, fun i => (h36 i).2, fun i => (h37 i).2, fun i => (h38 i).2] at a ⊢
  exact a
/-- the names of a business that matter -/
def BR (q : Nat) : Prop := q = 1 ∨ q = 3 ∨ q = 4 ∨ q = 6 ∨ (8 ≤ q ∧ q ≤ 12) ∨ (15 ≤ q ∧ q ≤ 38)
theorem CV_c (hs : SR0 S S') (h : ∀ q, BR q → Ag S S' ad (b + q)) (c : CV S ad b v np nf no mo) : CV S' ad b v np nf no mo :=
  ⟨⟨TR_SR0 hs c.t, trivial, c.m.2.2⟩, c.2.1, (hs.1 _ _).trans c.r, c.w, AXT_c (fun q hq => h q (by unfold BR; omega)) c.T, AXG_c (h 12 (by unfold BR; omega)) c.G, AXO_c (fun q hq => h q (by unfold BR; omega)) c.O, AXN_c (fun q hq => h q (by unfold BR; omega)) c.N, AXF_c (fun q hq => h q (by unfold BR; omega)) c.F, AXR_c (fun q hq => h q (by unfold BR; omega)) c.R, AXB_c (fun q hq => h q (by unfold BR; omega)) c.B⟩
theorem AXs_c (h : ∀ q, BR q → Ag S S' ad (b + q)) (a : AXs S ad b v nf no mo) : AXs S' ad b v nf no mo :=
  ⟨AXG_c (h 12 (by unfold BR; omega)) a.1, AXO_c (fun q hq => h q (by unfold BR; omega)) a.2.1, AXF_c (fun q hq => h q (by unfold BR; omega)) a.2.2.1, AXR_c (fun q hq => h q (by unfold BR; omega)) a.2.2.2.1, AXB_c (fun q hq => h q (by unfold BR; omega)) a.2.2.2.2⟩
theorem INP_c (h1 : gI S' (ad 12) 1 = gI S (ad 12) 1) (h2 : gI S' (ad 1) 9 = gI S (ad 1) 9) (h3 : Ag S S' ad 13) (h4 : Ag S S' ad 9) (a : INP S ad) : INP S' ad := by
  simp only [INP, h1, h2, fun i => (h3 i).1, fun i => (h4 i).1] at a ⊢
  exact a
theorem FMT_c (h1 : Ag S S' ad 14) (h2 : gI S' (ad 1) 7 = gI S (ad 1) 7) (h3 : Ag S S' ad 15) (h4 : Ag S S' ad 8) (a : FMT S ad) : FMT S' ad := by
  simp only [FMT, fun i => (h1 i).1, h2, fun i => (h3 i).1, fun i => (h4 i).1] at a ⊢
  exact a
theorem ERR_c (h1 : Ag S S' ad 0) (h2 : gI S' (ad 1) 11 = gI S (ad 1) 11) (h3 : gI S' (ad 1) 12 = gI S (ad 1) 12) (a : ERR S ad) : ERR S' ad := by
  simp only [ERR, fun i => (h1 i).1, h2, h3] at a ⊢
  exact a
theorem JRN_c (h0 : Ag S S' ad j) (h : ∀ q, 1 ≤ q ∧ q ≤ 7 → Ag S S' ad (j + q)) (h1 : gI S' (ad 1) 19 = gI S (ad 1) 19) (h2 : gI S' (ad 1) 20 = gI S (ad 1) 20) (h10 : Ag S S' ad 10) (a : JRN S ad j nf) : JRN S' ad j nf := by
  have g1 := h 1 (by omega)
  have g2 := h 2 (by omega)
  have g3 := h 3 (by omega)
  have g4 := h 4 (by omega)
  have g5 := h 5 (by omega)
  have g6 := h 6 (by omega)
  have g7 := h 7 (by omega)
  simp only [JRN, fun i => (h0 i).1, h1, h2, fun i => (g1 i).1, fun i => (g2 i).1, fun i => (g3 i).1, fun i => (g4 i).1, fun i => (g5 i).1, fun i => (g6 i).1, fun i => (g7 i).2, fun i => (h10 i).1] at a ⊢
  exact a
theorem SN1_c {s : Nat} (h21 : Ag S S' ad 21) (h4 : Ag S S' ad 4) (h : ∀ q, BR q → Ag S S' ad (120 + 40 * s + q)) (a : SN1 S ad v np nf s) : SN1 S' ad v np nf s := by
  refine ⟨by rw [(h21 s).1, (h4 s).1]; exact a.1, ?_⟩
  rw [(h4 s).1]
  exact a.2.imp id (fun ⟨e, no, mo, g1, g2, g3, g4⟩ => ⟨e, no, mo, g1, g2, AXs_c h g3, g4⟩)
/-- the names that matter between two calls -/
def RC (b j p : Nat) : Prop := p = 0 ∨ p = 3 ∨ p = 4 ∨ (8 ≤ p ∧ p ≤ 10) ∨ (13 ≤ p ∧ p ≤ 15) ∨ p = 21 ∨ (j ≤ p ∧ p ≤ j + 7) ∨ (∃ q, BR q ∧ p = b + q) ∨ (∃ q, BR q ∧ p = 120 + q) ∨ (∃ q, BR q ∧ p = 160 + q)
/-- the fields of the reference that matter between two calls -/
def MF (i : Nat) : Prop := i = 7 ∨ i = 9 ∨ i = 11 ∨ i = 12 ∨ i = 19 ∨ i = 20
def Ke (S S' : St) (ad : Nat → Nat) (b j : Nat) : Prop := SR0 S S' ∧ (∀ p, RC b j p → Ag S S' ad p) ∧ (∀ i, MF i → gI S' (ad 1) i = gI S (ad 1) i) ∧ gI S' (ad 12) 1 = gI S (ad 12) 1
theorem RE_keep (h : Ke S S' ad b j) (r : RE S ad b d j k v np nf no mo) : RE S' ad b d j k v np nf no mo := by
  obtain ⟨hs, hp, hf, ht⟩ := h
  obtain ⟨c, e1, e2, r6, r7, r8, sn, ip, er, fm, jr, h3, ws⟩ := r
  refine ⟨CV_c hs (fun q hq => hp _ (by unfold RC; exact Or.inr (Or.inr (Or.inr (Or.inr (Or.inr (Or.inr (Or.inr (Or.inl ⟨q, hq, rfl⟩)))))))) ) c, e1, e2, (hs.1 _ _).trans r6, (hs.1 _ _).trans r7, (hs.1 _ _).trans r8, ⟨?_, ?_⟩, ?_, ?_, ?_, ?_, (funext fun i => (hp 3 (by simp [RC]) i).2).trans h3, ws⟩
  · exact SN1_c (hp 21 (by simp [RC])) (hp 4 (by simp [RC])) (fun q hq => hp _ (by unfold RC; exact Or.inr (Or.inr (Or.inr (Or.inr (Or.inr (Or.inr (Or.inr (Or.inr (Or.inl ⟨q, hq, rfl⟩)))))))))) sn.1
  · exact SN1_c (hp 21 (by simp [RC])) (hp 4 (by simp [RC])) (fun q hq => hp _ (by unfold RC; exact Or.inr (Or.inr (Or.inr (Or.inr (Or.inr (Or.inr (Or.inr (Or.inr (Or.inr ⟨q, hq, rfl⟩)))))))))) sn.2
  · exact INP_c ht (hf 9 (by simp [MF])) (hp 13 (by simp [RC])) (hp 9 (by simp [RC])) ip
  · exact ERR_c (hp 0 (by simp [RC])) (hf 11 (by simp [MF])) (hf 12 (by simp [MF])) er
  · exact FMT_c (hp 14 (by simp [RC])) (hf 7 (by simp [MF])) (hp 15 (by simp [RC])) (hp 8 (by simp [RC])) fm
  · exact JRN_c (hp j (by unfold RC; omega)) (fun q hq => hp _ (by unfold RC; omega)) (hf 19 (by simp [MF])) (hf 20 (by simp [MF])) (hp 10 (by simp [RC])) jr
theorem Ag_uI (t : TR S ad) {p q i : Nat} {w : Int32} (h : q ≠ p) : Ag S (uI S (ad p) i w) ad q := fun l => ⟨by rw [gI_uI, if_neg (fun e => h ((t.1 _ _).mp e.1))], rfl⟩
theorem Ag_uJ (t : TR S ad) {p q i : Nat} {w : Int64} (h : q ≠ p) : Ag S (uJ S (ad p) i w) ad q := fun l => ⟨rfl, by rw [gJ_uJ, if_neg (fun e => h ((t.1 _ _).mp e.1))]⟩
theorem Ke.rf : Ke S S ad b j := ⟨SR0.rf S, fun _ _ _ => ⟨rfl, rfl⟩, fun _ _ => rfl, rfl⟩
theorem Ke.trans {S'' : St} (h : Ke S S' ad b j) (h2 : Ke S' S'' ad b j) : Ke S S'' ad b j := ⟨h.1.trans h2.1, fun p hp i => ⟨((h2.2.1 p hp i).1).trans (h.2.1 p hp i).1, ((h2.2.1 p hp i).2).trans (h.2.1 p hp i).2⟩, fun i hi => (h2.2.2.1 i hi).trans (h.2.2.1 i hi), h2.2.2.2.trans h.2.2.2⟩
def JBB (b j : Nat) : Prop := (b = 40 ∨ b = 80) ∧ (j = 22 ∨ j = 30)
theorem RC_not {p : Nat} (hb : JBB b j) (h : p = 1 ∨ p = 2 ∨ (5 ≤ p ∧ p ≤ 7) ∨ p = 11 ∨ p = 12 ∨ (16 ≤ p ∧ p ≤ 20)) : ¬ RC b j p := by
  unfold RC JBB at *
  rintro (h1 | h1 | h1 | h1 | h1 | h1 | h1 | ⟨q, hq, h1⟩ | ⟨q, hq, h1⟩ | ⟨q, hq, h1⟩) <;> omega
theorem Ke_t (t : TR S ad) (hb : JBB b j) {i : Nat} {w : Int32} (hi : ¬ MF i) : Ke S (uI S (ad 1) i w) ad b j := by
  refine ⟨SR0_uI _ _ _ _, fun p hp => Ag_uI t (fun e => RC_not hb (Or.inl rfl) (e ▸ hp)), fun l hl => ?_, ?_⟩
  · rw [gI_uI, if_neg]
    rintro ⟨_, rfl⟩
    exact hi hl
  · exact (Ag_uI t (by decide) 1).1
theorem Ke_o (t : TR S ad) (hb : JBB b j) {i : Nat} {w : Int64} : Ke S (uJ S (ad 2) i w) ad b j := by
  refine ⟨SR0_uJ _ _ _ _, fun p hp => Ag_uJ t (fun e => RC_not hb (by omega) (e ▸ hp)), fun l hl => rfl, rfl⟩
theorem RE.jb (r : RE S ad b d j k v np nf no mo) : JBB b j := ⟨r.1.2.1, by have := r.2.2.1; omega⟩

theorem RE.m (r : RE S ad b d j k v np nf no mo) : Mv S ad v np nf no mo := ⟨r.1.t, r.2.2.2.2.2.2.2.2.2.2.2.1, r.1.m.2.2⟩
theorem RE.ws (r : RE S ad b d j k v np nf no mo) : WS v nf mo := r.2.2.2.2.2.2.2.2.2.2.2.2
