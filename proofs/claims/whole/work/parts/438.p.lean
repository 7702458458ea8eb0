/-! the pure part: closing a month, its single changes -/
variable {S S1 S2 S' S'' S3 : St} {ad : Nat → Nat} {b d j k : Nat} {v v' v1 v2 : Nat → Int64} {np nf no mo no' mo' : Nat}
def MKw (S S1 : St) (ad : Nat → Nat) (b : Nat) (v v' : Nat → Int64) (np nf no' mo' : Nat) : Prop := Ch S S1 ad (MPc b) ∧ AXs S1 ad b v' nf no' mo' ∧ WF v' np nf no' mo' ∧ TE v v' nf ∧ (∀ i, 5054 ≤ i → v' i = v i) ∧ v' 3 = lN no' ∧ v' 0 = lN mo' ∧ no' ≤ 16 ∧ mo' ≤ 60
theorem MK.w (m : MK S S1 ad b v v' np nf no' mo') : MKw S S1 ad b v v' np nf no' mo' := ⟨m.1, m.2.1, m.2.2.1, m.2.2.2.1, m.2.2.2.2.1, m.2.2.2.2.2.1, m.2.2.2.2.2.2.1, m.2.2.2.2.2.2.2.1, m.2.2.2.2.2.2.2.2.1⟩
theorem MKw.cv (m : MKw S S1 ad b v v' np nf no' mo') (c : CV S ad b v np nf no mo) : CV S1 ad b v' np nf no' mo' := by
  obtain ⟨hc, ax, w, ht, -, h3, h0, ho, hm⟩ := m
  have hb := c.2.1
  have nM : ∀ q, (q = 1 ∨ q = 4 ∨ (8 ≤ q ∧ q ≤ 11) ∨ q = 19 ∨ q = 20) → ¬ MPc b (b + q) := by
    rintro q hq (h | ⟨q', hq', h⟩)
    · omega
    · unfold MQ2 at hq'; omega
  refine ⟨⟨hc.t c.t, trivial, by rw [ht.1 1 (by omega)]; exact c.m.2.2.1, by rw [ht.1 2 (by omega)]; exact c.m.2.2.2.1, h3, h0, c.hp, c.hf, ho, hm⟩, c.2.1, (hc.1.1 _ _).trans c.r, w, ?_, ax.1, ax.2.1, ?_, ax.2.2.1, ax.2.2.2.1, ax.2.2.2.2⟩
  · exact AXT_w (fun i hi => ht.1 i (by omega)) c.hp (AXT_c (fun q hq => hc.2.1 _ (by omega) (nM q (by omega))) c.T)
  · exact AXN_w ht.2 (AXN_c (fun q hq => hc.2.1 _ (by omega) (nM q (by omega))) c.N)
theorem MKw.trans (m : MKw S S1 ad b v v1 np nf no' mo') (m2 : MKw S1 S2 ad b v1 v2 np nf no mo) : MKw S S2 ad b v v2 np nf no mo :=
  ⟨m.1.tr m2.1, m2.2.1, m2.2.2.1, ⟨fun i hi => (m2.2.2.2.1.1 i hi).trans (m.2.2.2.1.1 i hi), fun f hf => (m2.2.2.2.1.2 f hf).trans (m.2.2.2.1.2 f hf)⟩, fun i hi => (m2.2.2.2.2.1 i hi).trans (m.2.2.2.2.1 i hi), m2.2.2.2.2.2⟩
theorem MKw.rf (c : CV S ad b v np nf no mo) : MKw S S ad b v v np nf no mo := (MK.rf c).w
/-- the rows of the month that is being closed -/
def rowI (mo i : Nat) : Prop := (1214 + 8 * mo ≤ i ∧ i < 1214 + 8 * mo + 8) ∨ (1694 + 56 * mo ≤ i ∧ i < 1694 + 56 * mo + 56)
theorem MKw_row (c : CV S ad b v np nf no mo) (hm : mo < 60) (hc : Ch S S1 ad (fun p => ∃ q, (q = 7 ∨ q = 33 ∨ q = 34) ∧ p = b + q)) (h33 : ∀ i, i < 8 * mo → gJ S1 (ad (b + 33)) i = gJ S (ad (b + 33)) i) (h34 : ∀ i, i < 56 * mo → gJ S1 (ad (b + 34)) i = gJ S (ad (b + 34)) i) (hv : ∀ i, ¬ rowI mo i → v' i = v i) : MKw S S1 ad b v v' np nf no mo := by
  have h8 := c.hf
  have h16 := c.ho
  have h4 := c.hp
  have hb := c.2.1
  have A : ∀ q, ¬ (q = 7 ∨ q = 33 ∨ q = 34) → Ag S S1 ad (b + q) := fun q hq => hc.2.1 _ (by omega) (by rintro ⟨q', hq', e⟩; omega)
  have H : ∀ i, i < 1214 ∨ 5054 ≤ i → v' i = v i := fun i hi => hv i (by unfold rowI; omega)
  refine ⟨hc.mono (fun p ⟨q, hq, e⟩ => Or.inr ⟨q, by unfold MQ2; omega, e⟩), ⟨?_, ?_, ?_, ?_, ?_⟩, ?_, ⟨fun i hi => H i (by omega), fun f hf => H _ (by omega)⟩, fun i hi => H i (by omega), by rw [H 3 (by omega)]; exact c.m.2.2.2.2.1, by rw [H 0 (by omega)]; exact c.m.2.2.2.2.2.1, c.ho, c.hm⟩
  · exact AXG_w (fun i hi => H i (by omega)) (AXG_c (A 12 (by decide)) c.G)
  · exact AXO_w (fun i hi => H i (by omega)) c.ho (AXO_c (fun q hq => A q (by omega)) c.O)
  · exact AXF_w (fun f q hf hq => H _ (by omega)) (AXF_c (fun q hq => A q (by omega)) c.F)
  · exact AXR_w (fun f q hf hq => H _ (by omega)) (AXR_c (fun q hq => A q (by omega)) c.R)
  · obtain ⟨a1, a2, a3, a4, a5, a6, a7⟩ := c.B
    refine ⟨by rw [(A 6 (by decide) 6).1]; exact a1, fun k hk => by rw [H _ (by omega), (A 35 (by decide) k).2]; exact a2 k hk, fun k hk => by rw [H _ (by omega), (A 38 (by decide) k).2]; exact a3 k hk, fun f hf => by rw [H _ (by omega), H _ (by omega), (A 36 (by decide) f).2, (A 37 (by decide) f).2]; exact a4 f hf, fun f h1 h2 => by rw [(A 36 (by decide) f).2]; exact a5 f h1 h2, fun k f hk hf => ?_, fun k f q hk hf hq => ?_⟩
    · rw [hv _ (by unfold rowI; omega), h33 _ (by omega)]; exact a6 k f hk hf
    · rw [hv _ (by unfold rowI; omega), h34 _ (by omega)]; exact a7 k f q hk hf hq
  · obtain ⟨a1, ap, af, ao, ac, ad0, as, ar⟩ := c.w
    refine ⟨?_, fun q hq => by rw [H _ (by omega)]; exact ap q hq, fun g hg => ?_, fun o ho => ?_, fun l hl => by rw [H _ (by omega)]; exact ac l hl, fun i hi => by rw [H _ (by omega)]; exact ad0 i hi, ?_, fun k g hk hg => by rw [hv _ (by unfold rowI; omega)]; exact ar k g hk hg⟩
    · rw [H 4 (by omega), H 5 (by omega), H 6 (by omega), H 7 (by omega), H 8 (by omega), H 9 (by omega)]; exact a1
    · rw [H _ (by omega), H _ (by omega), H _ (by omega), H _ (by omega)]; exact af g hg
    · obtain ⟨⟨x, y, hx, hy, e1, e2, e3⟩, s, hs, e4⟩ := ao o ho
      refine ⟨⟨x, y, hx, hy, by rw [H _ (by omega)]; exact e1, by rw [H _ (by omega)]; exact e2, ?_⟩, s, hs, by rw [H _ (by omega)]; exact e4⟩
      rw [H (186 + 4 * o + 0) (by omega), H (250 + (30 * y + x)) (by omega)]; exact e3
    · rw [H 11 (by omega), H 12 (by omega), H 13 (by omega)]; exact as
/-- a change of one cell of a franchisee's row -/
def OKx (q : Nat) (x : Int64) : Prop := (q = 5 ∨ q = 6) → ∃ g, g ≤ 61 ∧ x = lN g
theorem MKw_F (c : CV S ad b v np nf no mo) {f q : Nat} {x : Int64} (hf : f < nf) (hq : q = 2 ∨ q = 5 ∨ q = 6) (hx : OKx q x) (hc : Ch S S1 ad (fun p => ∃ q, (21 ≤ q ∧ q ≤ 26) ∧ p = b + q)) (aF : AXF S1 ad b (udt v (58 + 16 * f + q) x) nf) : MKw S S1 ad b v (udt v (58 + 16 * f + q) x) np nf no mo := by
  have h8 := c.hf
  have h16 := c.ho
  have h4 := c.hp
  have hb := c.2.1
  have A : ∀ r, ¬ (21 ≤ r ∧ r ≤ 26) → Ag S S1 ad (b + r) := fun r hr => hc.2.1 _ (by omega) (by rintro ⟨q', hq', e⟩; omega)
  have H : ∀ i, i ≠ 58 + 16 * f + q → udt v (58 + 16 * f + q) x i = v i := fun i hi => udt_n hi
  refine ⟨hc.mono (fun p ⟨r, hr, e⟩ => Or.inr ⟨r, by unfold MQ2; omega, e⟩), ⟨?_, ?_, aF, ?_, ?_⟩, ?_, ⟨fun i hi => H i (by omega), fun g hg => H _ (by omega)⟩, fun i hi => H i (by omega), by rw [H 3 (by omega)]; exact c.m.2.2.2.2.1, by rw [H 0 (by omega)]; exact c.m.2.2.2.2.2.1, c.ho, c.hm⟩
  · exact AXG_w (fun i hi => H i (by omega)) (AXG_c (A 12 (by decide)) c.G)
  · exact AXO_w (fun i hi => H i (by omega)) c.ho (AXO_c (fun r hr => A r (by omega)) c.O)
  · exact AXR_w (fun g r hg hr => H _ (by omega)) (AXR_c (fun r hr => A r (by omega)) c.R)
  · exact AXB_w (fun i hi => H i (by omega)) (fun g r hg hr => H _ (by omega)) c.hf c.hm (AXB_c (fun r hr => A r (by omega)) c.B)
  · obtain ⟨a1, ap, af, ao, ac, ad0, as, ar⟩ := c.w
    have hm := c.hm
    refine ⟨?_, fun q hq => by rw [H _ (by omega)]; exact ap q hq, fun g hg => ?_, fun o ho => ?_, fun l hl => by rw [H _ (by omega)]; exact ac l hl, fun i hi => by rw [H _ (by omega)]; exact ad0 i hi, ?_, fun k g hk hg => by rw [H _ (by omega)]; exact ar k g hk hg⟩
    · rw [H 4 (by omega), H 5 (by omega), H 6 (by omega), H 7 (by omega), H 8 (by omega), H 9 (by omega)]; exact a1
    · obtain ⟨b1, b5, b6, b7⟩ := af g hg
      refine ⟨by rw [H _ (by omega)]; exact b1, ?_, ?_, by rw [H _ (by omega)]; exact b7⟩
      · by_cases e : 58 + 16 * g + 5 = 58 + 16 * f + q
        · rw [e, udt_e]; exact hx (by omega)
        · rw [H _ e]; exact b5
      · by_cases e : 58 + 16 * g + 6 = 58 + 16 * f + q
        · rw [e, udt_e]; exact hx (by omega)
        · rw [H _ e]; exact b6
    · obtain ⟨⟨x, y, hx, hy, e1, e2, e3⟩, s, hs, e4⟩ := ao o ho
      refine ⟨⟨x, y, hx, hy, by rw [H _ (by omega)]; exact e1, by rw [H _ (by omega)]; exact e2, ?_⟩, s, hs, by rw [H _ (by omega)]; exact e4⟩
      rw [H (186 + 4 * o + 0) (by omega), H (250 + (30 * y + x)) (by omega)]; exact e3
    · rw [H 11 (by omega), H 12 (by omega), H 13 (by omega)]; exact as
theorem AXF_pt (c : CV S ad b v np nf no mo) {f r q : Nat} {w : Int32} (hq : (r = 22 ∧ q = 2) ∨ (r = 24 ∧ q = 5) ∨ (r = 25 ∧ q = 6)) : AXF (uI S (ad (b + r)) f w) ad b (udt v (58 + 16 * f + q) w.toInt64) nf := by
  intro g hg
  have a := c.F g hg
  have n : ∀ x y, x ≠ y → ¬ (b + x = b + y) := fun x y h => by omega
  rcases hq with ⟨rfl, rfl⟩ | ⟨rfl, rfl⟩ | ⟨rfl, rfl⟩
  all_goals
    rw [udt_f (show (1 : Nat) < 16 by decide) (by decide), udt_f (show (2 : Nat) < 16 by decide) (by decide), udt_f (show (3 : Nat) < 16 by decide) (by decide), udt_f (show (4 : Nat) < 16 by decide) (by decide), udt_f (show (5 : Nat) < 16 by decide) (by decide), udt_f (show (6 : Nat) < 16 by decide) (by decide)]
    simp only [gI_n c.t, gJ_uI]
    by_cases e : g = f
    · subst e; simp [a]
    · simp [e, a]
theorem MKw_worth (c : CV S ad b v np nf no mo) {f : Nat} (hf : f < nf) (w : Int32) : MKw S (uI S (ad (b + 22)) f w) ad b v (udt v (58 + 16 * f + 2) w.toInt64) np nf no mo :=
  MKw_F c hf (by omega) (fun h => absurd h (by omega)) (Ch_uI c.t (by have := c.2.1; omega) ⟨22, by omega, rfl⟩) (AXF_pt c (by omega))
theorem MKw_gen (c : CV S ad b v np nf no mo) {f g : Nat} (hf : f < nf) (hg : g ≤ 61) : MKw S (uI S (ad (b + 24)) f (nI g)) ad b v (udt v (58 + 16 * f + 5) (lN g)) np nf no mo := by
  have := AXF_pt c (f := f) (r := 24) (q := 5) (w := nI g) (by omega)
  rw [nI_l (by omega)] at this
  exact MKw_F c hf (by omega) (fun _ => ⟨g, hg, rfl⟩) (Ch_uI c.t (by have := c.2.1; omega) ⟨24, by omega, rfl⟩) this
theorem MKw_over (c : CV S ad b v np nf no mo) {f g : Nat} (hf : f < nf) (hg : g ≤ 61) : MKw S (uI S (ad (b + 25)) f (nI g)) ad b v (udt v (58 + 16 * f + 6) (lN g)) np nf no mo := by
  have := AXF_pt c (f := f) (r := 25) (q := 6) (w := nI g) (by omega)
  rw [nI_l (by omega)] at this
  exact MKw_F c hf (by omega) (fun _ => ⟨g, hg, rfl⟩) (Ch_uI c.t (by have := c.2.1; omega) ⟨25, by omega, rfl⟩) this
/-- contributions and the administration's spending -/
theorem MKw_con (c : CV S ad b v np nf no mo) {f g : Nat} (hf : f < nf) (hg : g ≤ 976000000) : MKw S (uJ S (ad (b + 36)) f (lN g)) ad b v (udt v (58 + 16 * f + 7) (lN g)) np nf no mo := by
  have h8 := c.hf
  have h16 := c.ho
  have h4 := c.hp
  have hb := c.2.1
  have hm := c.hm
  have ch : Ch S (uJ S (ad (b + 36)) f (lN g)) ad (fun p => p = b + 36) := Ch_uJ c.t rfl
  have A : ∀ r, r ≠ 36 → Ag S (uJ S (ad (b + 36)) f (lN g)) ad (b + r) := fun r hr => ch.2.1 _ (by omega) (by omega)
  have H : ∀ i, i ≠ 58 + 16 * f + 7 → udt v (58 + 16 * f + 7) (lN g) i = v i := fun i hi => udt_n hi
  refine ⟨ch.mono (fun p e => Or.inr ⟨36, by unfold MQ2; omega, e⟩), ⟨?_, ?_, ?_, ?_, ?_⟩, ?_, ⟨fun i hi => H i (by omega), fun g hg => H _ (by omega)⟩, fun i hi => H i (by omega), by rw [H 3 (by omega)]; exact c.m.2.2.2.2.1, by rw [H 0 (by omega)]; exact c.m.2.2.2.2.2.1, c.ho, c.hm⟩
  · exact AXG_w (fun i hi => H i (by omega)) (AXG_c (A 12 (by decide)) c.G)
  · exact AXO_w (fun i hi => H i (by omega)) c.ho (AXO_c (fun r hr => A r (by omega)) c.O)
  · exact AXF_w (fun g r hg hr => H _ (by omega)) (AXF_c (fun r hr => A r (by omega)) c.F)
  · exact AXR_w (fun g r hg hr => H _ (by omega)) (AXR_c (fun r hr => A r (by omega)) c.R)
  · obtain ⟨a1, a2, a3, a4, a5, a6, a7⟩ := c.B
    refine ⟨a1, fun k hk => by rw [H _ (by omega), (A 35 (by decide) k).2]; exact a2 k hk, fun k hk => by rw [H _ (by omega), (A 38 (by decide) k).2]; exact a3 k hk, fun h hh => ?_, fun h h1 h2 => ?_, fun k h hk hh => by rw [H _ (by omega), (A 33 (by decide) _).2]; exact a6 k h hk hh, fun k h q hk hh hq => by rw [H _ (by omega), (A 34 (by decide) _).2]; exact a7 k h q hk hh hq⟩
    · rw [H (58 + 16 * h + 8) (by omega), (A 37 (by decide) h).2, gJ_n c.t]
      refine ⟨?_, (a4 h hh).2⟩
      by_cases e : h = f
      · subst e; rw [udt_e, if_pos ⟨rfl, rfl⟩]
      · rw [H _ (by omega), if_neg (by omega)]; exact (a4 h hh).1
    · rw [gJ_n c.t, if_neg (by omega)]; exact a5 h h1 h2
  · obtain ⟨a1, ap, af, ao, ac, ad0, as, ar⟩ := c.w
    refine ⟨?_, fun q hq => by rw [H _ (by omega)]; exact ap q hq, fun h hh => ?_, fun o ho => ?_, fun l hl => by rw [H _ (by omega)]; exact ac l hl, fun i hi => by rw [H _ (by omega)]; exact ad0 i hi, ?_, fun k g hk hg => by rw [H _ (by omega)]; exact ar k g hk hg⟩
    · rw [H 4 (by omega), H 5 (by omega), H 6 (by omega), H 7 (by omega), H 8 (by omega), H 9 (by omega)]; exact a1
    · obtain ⟨b1, b5, b6, b7⟩ := af h hh
      refine ⟨by rw [H _ (by omega)]; exact b1, by rw [H _ (by omega)]; exact b5, by rw [H _ (by omega)]; exact b6, ?_⟩
      by_cases e : h = f
      · subst e; exact ⟨g, hg, udt_e _ _ _⟩
      · rw [H _ (by omega)]; exact b7
    · obtain ⟨⟨x, y, hx, hy, e1, e2, e3⟩, s, hs, e4⟩ := ao o ho
      refine ⟨⟨x, y, hx, hy, by rw [H _ (by omega)]; exact e1, by rw [H _ (by omega)]; exact e2, ?_⟩, s, hs, by rw [H _ (by omega)]; exact e4⟩
      rw [H (186 + 4 * o + 0) (by omega), H (250 + (30 * y + x)) (by omega)]; exact e3
    · rw [H 11 (by omega), H 12 (by omega), H 13 (by omega)]; exact as
theorem MKw_adm (c : CV S ad b v np nf no mo) {g : Nat} (hg : g ≤ 1561600000) : MKw S (uJ S (ad (b + 38)) 0 (lN g)) ad b v (udt v 11 (lN g)) np nf no mo := by
  have h8 := c.hf
  have h16 := c.ho
  have hm := c.hm
  have hb := c.2.1
  have ch : Ch S (uJ S (ad (b + 38)) 0 (lN g)) ad (fun p => p = b + 38) := Ch_uJ c.t rfl
  have A : ∀ r, r ≠ 38 → Ag S (uJ S (ad (b + 38)) 0 (lN g)) ad (b + r) := fun r hr => ch.2.1 _ (by omega) (by omega)
  have H : ∀ i, i ≠ 11 → udt v 11 (lN g) i = v i := fun i hi => udt_n hi
  refine ⟨ch.mono (fun p e => Or.inr ⟨38, by unfold MQ2; omega, e⟩), ⟨?_, ?_, ?_, ?_, ?_⟩, ?_, ⟨fun i hi => H i (by omega), fun g hg => H _ (by omega)⟩, fun i hi => H i (by omega), by rw [H 3 (by omega)]; exact c.m.2.2.2.2.1, by rw [H 0 (by omega)]; exact c.m.2.2.2.2.2.1, c.ho, c.hm⟩
  · exact AXG_w (fun i hi => H i (by omega)) (AXG_c (A 12 (by decide)) c.G)
  · exact AXO_w (fun i hi => H i (by omega)) c.ho (AXO_c (fun r hr => A r (by omega)) c.O)
  · exact AXF_w (fun g r hg hr => H _ (by omega)) (AXF_c (fun r hr => A r (by omega)) c.F)
  · exact AXR_w (fun g r hg hr => H _ (by omega)) (AXR_c (fun r hr => A r (by omega)) c.R)
  · obtain ⟨a1, a2, a3, a4, a5, a6, a7⟩ := c.B
    refine ⟨a1, fun k hk => by rw [H _ (by omega), (A 35 (by decide) k).2]; exact a2 k hk, fun k hk => ?_, fun h hh => by rw [H _ (by omega), H _ (by omega), (A 36 (by decide) h).2, (A 37 (by decide) h).2]; exact a4 h hh, fun h h1 h2 => by rw [(A 36 (by decide) h).2]; exact a5 h h1 h2, fun k h hk hh => by rw [H _ (by omega), (A 33 (by decide) _).2]; exact a6 k h hk hh, fun k h q hk hh hq => by rw [H _ (by omega), (A 34 (by decide) _).2]; exact a7 k h q hk hh hq⟩
    rw [gJ_n c.t]
    by_cases e : k = 0
    · subst e; rw [if_pos ⟨rfl, rfl⟩]; exact udt_e _ _ _
    · rw [H _ (by omega), if_neg (by omega)]; exact a3 k hk
  · obtain ⟨a, n, l, e11, e12, e13, ha, hl, hn⟩ := c.w.2.2.2.2.2.2.1
    exact WF_sp c (fun i h1 h2 h3 => H i (by omega)) ⟨g, n, l, udt_e _ _ _, by rw [H 12 (by omega)]; exact e12, by rw [H 13 (by omega)]; exact e13, hg, hl, hn⟩
