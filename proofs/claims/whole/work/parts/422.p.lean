/-! the pure part: what a change keeps -/
variable {S S' S'' : St} {ad : Nat → Nat} {b d j k : Nat} {v v' : Nat → Int64} {np nf no mo no' mo' : Nat}
/-- only the names in P have changed, and of the reference's fields none that matters -/
def Ch (S S' : St) (ad : Nat → Nat) (P : Nat → Prop) : Prop := SR0 S S' ∧ (∀ p, p ≠ 1 → ¬ P p → Ag S S' ad p) ∧ ∀ i, MF i → gI S' (ad 1) i = gI S (ad 1) i
theorem Ag.trans {p : Nat} (h : Ag S S' ad p) (h2 : Ag S' S'' ad p) : Ag S S'' ad p := fun i => ⟨((h2 i).1).trans (h i).1, ((h2 i).2).trans (h i).2⟩
theorem Ch.rf {P : Nat → Prop} : Ch S S ad P := ⟨SR0.rf S, fun _ _ _ _ => ⟨rfl, rfl⟩, fun _ _ => rfl⟩
theorem Ch.trans {P Q : Nat → Prop} (h : Ch S S' ad P) (h2 : Ch S' S'' ad Q) : Ch S S'' ad (fun p => P p ∨ Q p) := ⟨h.1.trans h2.1, fun p hp hn => (h.2.1 p hp (fun e => hn (Or.inl e))).trans (h2.2.1 p hp (fun e => hn (Or.inr e))), fun i hi => (h2.2.2 i hi).trans (h.2.2 i hi)⟩
theorem Ch.tr {P : Nat → Prop} (h : Ch S S' ad P) (h2 : Ch S' S'' ad P) : Ch S S'' ad P := ⟨h.1.trans h2.1, fun p hp hn => (h.2.1 p hp hn).trans (h2.2.1 p hp hn), fun i hi => (h2.2.2 i hi).trans (h.2.2 i hi)⟩
theorem Ch.mono {P Q : Nat → Prop} (h : Ch S S' ad P) (hq : ∀ p, P p → Q p) : Ch S S' ad Q := ⟨h.1, fun p hp hn => h.2.1 p hp (fun e => hn (hq p e)), h.2.2⟩
theorem Ch_uI (t : TR S ad) {P : Nat → Prop} {p i : Nat} {w : Int32} (h1 : p ≠ 1) (hP : P p) : Ch S (uI S (ad p) i w) ad P := ⟨SR0_uI _ _ _ _, fun q _ hn => Ag_uI t (fun e => hn (e ▸ hP)), fun l _ => (Ag_uI t h1.symm l).1⟩
theorem Ch_uJ (t : TR S ad) {P : Nat → Prop} {p i : Nat} {w : Int64} (hP : P p) : Ch S (uJ S (ad p) i w) ad P := ⟨SR0_uJ _ _ _ _, fun q _ hn => Ag_uJ t (fun e => hn (e ▸ hP)), fun _ _ => rfl⟩
theorem Ch_t (t : TR S ad) {P : Nat → Prop} {w : Int32} : Ch S (uI S (ad 1) 2 w) ad P := ⟨SR0_uI _ _ _ _, fun q h _ => Ag_uI t h, fun l hl => by
  rw [gI_uI, if_neg]; rintro ⟨-, rfl⟩; simp [MF] at hl⟩
theorem Ch.t {P : Nat → Prop} (h : Ch S S' ad P) (t : TR S ad) : TR S' ad := TR_SR0 h.1 t
/-- patches of arrays of longs -/
def pJ (S : St) (a n : Nat) (g : Nat → Int64) : St := (S.1, fun b j => if b = a ∧ j < n then g j else S.2.1 b j, S.2.2)
def pI (S : St) (a n : Nat) (g : Nat → Int32) : St := (fun b j => if b = a ∧ j < n then g j else S.1 b j, S.2)
theorem gJ_pJ (S : St) (a n : Nat) (g : Nat → Int64) (b j : Nat) : gJ (pJ S a n g) b j = if b = a ∧ j < n then g j else gJ S b j := rfl
theorem gI_pJ (S : St) (a n : Nat) (g : Nat → Int64) (b j : Nat) : gI (pJ S a n g) b j = gI S b j := rfl
theorem gR_pJ (S : St) (a n : Nat) (g : Nat → Int64) (b j : Nat) : gR (pJ S a n g) b j = gR S b j := rfl
theorem gN_pJ (S : St) (a n : Nat) (g : Nat → Int64) (b : Nat) : gN (pJ S a n g) b = gN S b := rfl
theorem gI_pI (S : St) (a n : Nat) (g : Nat → Int32) (b j : Nat) : gI (pI S a n g) b j = if b = a ∧ j < n then g j else gI S b j := rfl
theorem gJ_pI (S : St) (a n : Nat) (g : Nat → Int32) (b j : Nat) : gJ (pI S a n g) b j = gJ S b j := rfl
theorem gR_pI (S : St) (a n : Nat) (g : Nat → Int32) (b j : Nat) : gR (pI S a n g) b j = gR S b j := rfl
theorem gN_pI (S : St) (a n : Nat) (g : Nat → Int32) (b : Nat) : gN (pI S a n g) b = gN S b := rfl
theorem SR0_pJ (S : St) (a n : Nat) (g : Nat → Int64) : SR0 S (pJ S a n g) := ⟨fun _ _ => rfl, fun _ => rfl⟩
theorem SR0_pI (S : St) (a n : Nat) (g : Nat → Int32) : SR0 S (pI S a n g) := ⟨fun _ _ => rfl, fun _ => rfl⟩
theorem Ch_pJ (t : TR S ad) {P : Nat → Prop} {p n : Nat} {g : Nat → Int64} (hP : P p) : Ch S (pJ S (ad p) n g) ad P := ⟨SR0_pJ _ _ _ _, fun q _ hn i => ⟨rfl, by rw [gJ_pJ, if_neg]; intro e; exact hn (((t.1 _ _).mp e.1) ▸ hP)⟩, fun _ _ => rfl⟩
theorem Ch_pI (t : TR S ad) {P : Nat → Prop} {p n : Nat} {g : Nat → Int32} (h1 : p ≠ 1) (hP : P p) : Ch S (pI S (ad p) n g) ad P := ⟨SR0_pI _ _ _ _, fun q _ hn i => ⟨by rw [gI_pI, if_neg]; intro e; exact hn (((t.1 _ _).mp e.1) ▸ hP), rfl⟩, fun l _ => by rw [gI_pI, if_neg]; intro e; exact h1 ((t.1 _ _).mp e.1).symm⟩
def udt {α : Type} (g : Nat → α) (k : Nat) (w : α) : Nat → α := fun i => if i = k then w else g i
theorem udt_e {α : Type} (g : Nat → α) (k : Nat) (w : α) : udt g k w k = w := if_pos rfl
theorem udt_n {α : Type} {g : Nat → α} {k : Nat} {w : α} {i : Nat} (h : i ≠ k) : udt g k w i = g i := if_neg h
theorem uJ_pJ (S : St) (a n i : Nat) (g : Nat → Int64) (w : Int64) (hi : i < n) : uJ (pJ S a n g) a i w = pJ S a n (udt g i w) := by
  simp only [uJ, pJ]
  congr 2
  funext b j
  simp only [up2, udt]
  by_cases h1 : b = a <;> by_cases h2 : j = i <;> simp [h1, h2, hi]
theorem uI_pI (S : St) (a n i : Nat) (g : Nat → Int32) (w : Int32) (hi : i < n) : uI (pI S a n g) a i w = pI S a n (udt g i w) := by
  simp only [uI, pI]
  congr 1
  funext b j
  simp only [up2, udt]
  by_cases h1 : b = a <;> by_cases h2 : j = i <;> simp [h1, h2, hi]
theorem flJ_pJ (S : St) (a n : Nat) (w : Int64) : flJ S a w n = pJ S a n (fun _ => w) := rfl
theorem flI_pI (S : St) (a n : Nat) (w : Int32) : flI S a w n = pI S a n (fun _ => w) := rfl
/-- the reference's block after a store -/
theorem gJ_u3 (h : gJ S (ad 3) = v) {k : Nat} {w : Int64} : gJ (uJ S (ad 3) k w) (ad 3) = udt v k w := by
  funext i
  rw [gJ_uJ, udt, ← h]
  by_cases hi : i = k <;> simp [hi]
/-! what the groups speak of -/
theorem AXT_w (h : ∀ i, (4 ≤ i ∧ i ≤ 10) ∨ (14 ≤ i ∧ i < 58) → v' i = v i) (hp : np ≤ 4) (a : AXT S ad b v np) : AXT S ad b v' np := by
  obtain ⟨a1, a4, a5, a6, a7, a8, a9, a10, ap⟩ := a
  refine ⟨a1, by rw [h 4 (by omega)]; exact a4, by rw [h 5 (by omega)]; exact a5, by rw [h 6 (by omega)]; exact a6, by rw [h 7 (by omega)]; exact a7, by rw [h 8 (by omega)]; exact a8, by rw [h 9 (by omega)]; exact a9, by rw [h 10 (by omega)]; exact a10, fun p hpp => ?_⟩
  obtain ⟨t, ht, e1, e2, e3, e4, e5, e6⟩ := ap p hpp
  refine ⟨t, ht, e1, by rw [h _ (by omega)]; exact e2, by rw [h _ (by omega)]; exact e3, e4, by rw [h _ (by omega)]; exact e5, fun j hj => ?_⟩
  rw [h _ (by omega), h _ (by omega)]
  exact e6 j hj
theorem AXN_w (h : ∀ f, f < nf → v' (58 + 16 * f + 0) = v (58 + 16 * f + 0)) (a : AXN S ad b v nf) : AXN S ad b v' nf := by
  refine ⟨a.1, fun f hf => ?_⟩
  rw [h f hf]
  exact a.2 f hf
theorem AXG_w (h : ∀ i, 250 ≤ i ∧ i < 1150 → v' i = v i) (a : AXG S ad b v) : AXG S ad b v' := fun c hc => by rw [h _ (by omega)]; exact a c hc
theorem AXO_w (h : ∀ i, 186 ≤ i ∧ i < 250 → v' i = v i) (ho : no ≤ 16) (a : AXO S ad b v no) : AXO S ad b v' no := by
  refine ⟨a.1, fun o hoo => ?_⟩
  rw [h _ (by omega), h _ (by omega), h _ (by omega), h _ (by omega)]
  exact a.2 o hoo
theorem AXF_w (h : ∀ f q, f < nf → 1 ≤ q ∧ q ≤ 6 → v' (58 + 16 * f + q) = v (58 + 16 * f + q)) (a : AXF S ad b v nf) : AXF S ad b v' nf := fun f hf => by
  rw [h f _ hf (by omega), h f _ hf (by omega), h f _ hf (by omega), h f _ hf (by omega), h f _ hf (by omega), h f _ hf (by omega)]
  exact a f hf
theorem AXR_w (h : ∀ f q, f < nf → 9 ≤ q ∧ q ≤ 15 → v' (58 + 16 * f + q) = v (58 + 16 * f + q)) (a : AXR S ad b v nf mo) : AXR S ad b v' nf mo := fun f hf => by
  rw [h f _ hf (by omega), h f _ hf (by omega), h f _ hf (by omega), h f _ hf (by omega), h f _ hf (by omega), h f _ hf (by omega), h f _ hf (by omega)]
  exact a f hf
theorem AXB_w (h : ∀ i, (11 ≤ i ∧ i ≤ 13) ∨ (1150 ≤ i ∧ i < 5054) → v' i = v i) (h2 : ∀ f q, f < nf → 7 ≤ q ∧ q ≤ 8 → v' (58 + 16 * f + q) = v (58 + 16 * f + q)) (hf8 : nf ≤ 8) (hm : mo ≤ 60) (a : AXB S ad b v nf mo) : AXB S ad b v' nf mo := by
  obtain ⟨a1, a2, a3, a4, a5, a6, a7⟩ := a
  refine ⟨a1, fun k hk => by rw [h _ (by omega)]; exact a2 k hk, fun k hk => by rw [h _ (by omega)]; exact a3 k hk, fun f hf => ?_, a5, fun k f hk hf => by rw [h _ (by omega)]; exact a6 k f hk hf, fun k f q hk hf hq => by rw [h _ (by omega)]; exact a7 k f q hk hf hq⟩
  rw [h2 f _ hf (by omega), h2 f _ hf (by omega)]
  exact a4 f hf
theorem WF_w (h : ∀ i, (4 ≤ i ∧ i ≤ 9) ∨ (11 ≤ i ∧ i ≤ 13) ∨ (14 ≤ i ∧ i < 58) ∨ (186 ≤ i ∧ i < 1150) ∨ (1214 ≤ i ∧ i < 1694) → v' i = v i) (hq : ∀ f q, f < nf → q = 1 ∨ q = 5 ∨ q = 6 ∨ q = 7 → v' (58 + 16 * f + q) = v (58 + 16 * f + q)) (hd : ∀ i, i < 8 → v' (1150 + 9 * i) = v (1150 + 9 * i)) (hp : np ≤ 4) (hf8 : nf ≤ 8) (ho : no ≤ 16) (hm : mo ≤ 60) (w : WF v np nf no mo) : WF v' np nf no mo := by
  obtain ⟨⟨a4, a5, a6, a7, a8, a9⟩, ap, af, ao, ac, ad0, as, ar⟩ := w
  refine ⟨⟨by rw [h 4 (by omega)]; exact a4, by rw [h 5 (by omega)]; exact a5, by rw [h 6 (by omega)]; exact a6, by rw [h 7 (by omega)]; exact a7, by rw [h 8 (by omega)]; exact a8, by rw [h 9 (by omega)]; exact a9⟩, fun p hpp => by rw [h _ (by omega)]; exact ap p hpp, fun f hf => ?_, fun o hoo => ?_, fun c hc => by rw [h _ (by omega)]; exact ac c hc, fun i hi => by rw [hd i hi]; exact ad0 i hi, ?_, fun k f hk hf => by rw [h _ (by omega)]; exact ar k f hk hf⟩
  · rw [hq f _ hf (by omega), hq f _ hf (by omega), hq f _ hf (by omega), hq f _ hf (by omega)]
    exact af f hf
  · obtain ⟨⟨x, y, hx, hy, e1, e2, e3⟩, s, hs, e4⟩ := ao o hoo
    refine ⟨⟨x, y, hx, hy, by rw [h _ (by omega)]; exact e1, by rw [h _ (by omega)]; exact e2, ?_⟩, s, hs, by rw [h _ (by omega)]; exact e4⟩
    rw [h (186 + 4 * o + 0) (by omega), h (250 + (30 * y + x)) (by omega)]
    exact e3
  · rw [h 11 (by omega), h 12 (by omega), h 13 (by omega)]
    exact as
/-- the names of a business that calls change -/
def MQ2 (q : Nat) : Prop := q = 2 ∨ q = 3 ∨ q = 6 ∨ q = 7 ∨ (12 ≤ q ∧ q ≤ 18) ∨ (21 ≤ q ∧ q ≤ 38)
def MP2 (b p : Nat) : Prop := p = 2 ∨ p = 3 ∨ (5 ≤ p ∧ p ≤ 7) ∨ p = 11 ∨ (16 ≤ p ∧ p ≤ 19) ∨ ∃ q, MQ2 q ∧ p = b + q
theorem TE_tr {v1 v2 v3 : Nat → Int64} (h : TE v1 v2 nf) (h2 : TE v1 v3 nf) : TE v2 v3 nf := ⟨fun i hi => (h2.1 i hi).trans (h.1 i hi).symm, fun f hf => (h2.2 f hf).trans (h.2 f hf).symm⟩
theorem RE_mut (r : RE S ad b d j k v np nf no mo) (hc : Ch S S' ad (MP2 b)) (hv : gJ S' (ad 3) = v') (hb : ∀ i, 5054 ≤ i → v' i = v i) (ht : TE v v' nf) (h3 : v' 3 = lN no') (h0 : v' 0 = lN mo') (ho : no' ≤ 16) (hm : mo' ≤ 60) (w : WF v' np nf no' mo') (ws : WS v' nf mo') (aG : AXG S' ad b v') (aO : AXO S' ad b v' no') (aF : AXF S' ad b v' nf) (aR : AXR S' ad b v' nf mo') (aB : AXB S' ad b v' nf mo') : RE S' ad b d j k v' np nf no' mo' := by
  obtain ⟨hs, ha, hmf⟩ := hc
  have jb := r.jb
  obtain ⟨c, e1, e2, r6, r7, r8, sn, ip, er, fm, jr, h33, -⟩ := r
  have hB := c.2.1
  unfold JBB at jb
  have A : ∀ p, p ≠ 1 → ¬ MP2 b p → Ag S S' ad p := ha
  have nM : ∀ q, (q = 1 ∨ q = 4 ∨ (8 ≤ q ∧ q ≤ 11) ∨ q = 19 ∨ q = 20) → ¬ MP2 b (b + q) := by
    rintro q hq (h | h | h | h | h | ⟨q', hq', h⟩) <;> try omega
    unfold MQ2 at hq'; omega
  have nS : ∀ p, (p = 0 ∨ p = 4 ∨ (8 ≤ p ∧ p ≤ 10) ∨ (12 ≤ p ∧ p ≤ 15) ∨ (20 ≤ p ∧ p ≤ 37) ∨ 120 ≤ p) → ¬ MP2 b p := by
    rintro q hq (h | h | h | h | h | ⟨q', hq', h⟩) <;> try omega
    unfold MQ2 at hq'; omega
  have t' : TR S' ad := TR_SR0 hs c.t
  refine ⟨⟨⟨t', trivial, by rw [ht.1 1 (by omega)]; exact c.m.2.2.1, by rw [ht.1 2 (by omega)]; exact c.m.2.2.2.1, h3, h0, c.hp, c.hf, ho, hm⟩, c.2.1, (hs.1 _ _).trans c.r, w, ?_, aG, aO, ?_, aF, aR, aB⟩, e1, e2, (hs.1 _ _).trans r6, (hs.1 _ _).trans r7, (hs.1 _ _).trans r8, ⟨?_, ?_⟩, ?_, ?_, ?_, ?_, hv, ws⟩
  · exact AXT_w (fun i hi => ht.1 i (by omega)) c.hp (AXT_c (fun q hq => A _ (by omega) (nM q (by omega))) c.T)
  · exact AXN_w ht.2 (AXN_c (fun q hq => A _ (by omega) (nM q (by omega))) c.N)
  · have h1 := SN1_c (s := 0) (A 21 (by omega) (nS _ (by omega))) (A 4 (by omega) (nS _ (by omega))) (fun q hq => A _ (by omega) (nS _ (by omega))) sn.1
    refine ⟨h1.1, h1.2.imp id (fun ⟨e, no, mo, g1, g2, g3, g4⟩ => ?_)⟩
    have ev : (fun i => v' (5054 * (0 + 1) + i)) = fun i => v (5054 * (0 + 1) + i) := funext fun i => hb _ (by omega)
    rw [ev]
    exact ⟨e, no, mo, g1, g2, g3, TE_tr ht g4⟩
  · have h1 := SN1_c (s := 1) (A 21 (by omega) (nS _ (by omega))) (A 4 (by omega) (nS _ (by omega))) (fun q hq => A _ (by omega) (nS _ (by omega))) sn.2
    refine ⟨h1.1, h1.2.imp id (fun ⟨e, no, mo, g1, g2, g3, g4⟩ => ?_)⟩
    have ev : (fun i => v' (5054 * (1 + 1) + i)) = fun i => v (5054 * (1 + 1) + i) := funext fun i => hb _ (by omega)
    rw [ev]
    exact ⟨e, no, mo, g1, g2, g3, TE_tr ht g4⟩
  · exact INP_c (A 12 (by omega) (nS _ (by omega)) 1).1 (hmf 9 (by simp [MF])) (A 13 (by omega) (nS _ (by omega))) (A 9 (by omega) (nS _ (by omega))) ip
  · exact ERR_c (A 0 (by omega) (nS _ (by omega))) (hmf 11 (by simp [MF])) (hmf 12 (by simp [MF])) er
  · exact FMT_c (A 14 (by omega) (nS _ (by omega))) (hmf 7 (by simp [MF])) (A 15 (by omega) (nS _ (by omega))) (A 8 (by omega) (nS _ (by omega))) fm
  · exact JRN_c (A j (by omega) (nS _ (by omega))) (fun q hq => A _ (by omega) (nS _ (by omega))) (hmf 19 (by simp [MF])) (hmf 20 (by simp [MF])) (A 10 (by omega) (nS _ (by omega))) jr
theorem RE.hd (r : RE S ad b d j k v np nf no mo) : d ≠ b ∧ BB d := by have := r.2.1; unfold BB; omega
/-- a change of what does not matter -/
theorem RE_scr (r : RE S ad b d j k v np nf no mo) (hc : Ch S S' ad (fun p => p = 2 ∨ (5 ≤ p ∧ p ≤ 7) ∨ p = 11 ∨ (16 ≤ p ∧ p ≤ 19) ∨ ∃ q, (q = 2 ∨ q = 7 ∨ q = 13 ∨ q = 14) ∧ p = b + q)) : RE S' ad b d j k v np nf no mo := by
  have jb := r.jb
  refine RE_keep ⟨hc.1, fun p hp => hc.2.1 p ?_ ?_, hc.2.2, ?_⟩ r
  · rintro rfl; exact RC_not jb (Or.inl rfl) hp
  · unfold RC JBB at *
    rintro (h | h | h | h | ⟨q, hq, h⟩) <;> rcases hp with h1 | h1 | h1 | h1 | h1 | h1 | h1 | ⟨q', hq', h1⟩ | ⟨q', hq', h1⟩ | ⟨q', hq', h1⟩ <;> try omega
    all_goals (unfold BR at hq'; omega)
  · refine (hc.2.1 12 (by decide) ?_ 1).1
    rintro (h | h | h | h | ⟨q, hq, h⟩) <;> try omega
    unfold JBB at jb
    omega
