/-! the pure part: ceding cells -/
variable {S S0 S1 S2 S' S'' S3 X Y : St} {ad : Nat → Nat} {b d j k : Nat} {v v0 v' v1 v2 u w : Nat → Int64} {np nf no mo no' mo' x y : Nat}
theorem mvR_pos (P : Nat → Bool) (p : Int32) (R0 : Nat → Int32) {i : Nat} (hi : 250 ≤ i ∧ i < 1150) : (¬ (fun i => if i < 900 then bI (mvB v P p i) else R0 i) (i - 250) = 0) ↔ (P (i - 250) = true ∧ v i = p.toInt64) := by
  have e : 250 + (i - 250) = i := by omega
  have h1 : (fun i => if i < 900 then bI (mvB v P p i) else R0 i) (i - 250) = bI (mvB v P p (i - 250)) := if_pos (by omega)
  rw [h1, bI_0, mvB, e, Bool.not_eq_false, Bool.and_eq_true, decide_eq_true_eq]
  exact ⟨fun z => ⟨z.2, z.1⟩, fun z => ⟨z.2, z.1⟩⟩
theorem giV_gr (P : Nat → Bool) (p q : Int32) (R0 : Nat → Int32) : giV v (fun i => if i < 900 then bI (mvB v P p i) else R0 i) q = grV v P p q := by
  funext i
  unfold giV grV
  by_cases hi : 250 ≤ i ∧ i < 1150
  · by_cases hm : P (i - 250) = true ∧ v i = p.toInt64
    · rw [if_pos ⟨hi, (mvR_pos P p R0 hi).mpr hm⟩, if_pos ⟨hi, hm⟩]
    · rw [if_neg (fun z => hm ((mvR_pos P p R0 hi).mp z.2)), if_neg (fun z => hm z.2)]
  · rw [if_neg (fun z => hi z.1), if_neg (fun z => hi z.1)]
theorem giV_bk (P : Nat → Bool) (p q : Int32) (R0 : Nat → Int32) : giV (grV v P p q) (fun i => if i < 900 then bI (mvB v P p i) else R0 i) p = v := by
  funext i
  unfold giV
  by_cases hi : 250 ≤ i ∧ i < 1150
  · by_cases hm : P (i - 250) = true ∧ v i = p.toInt64
    · rw [if_pos ⟨hi, (mvR_pos P p R0 hi).mpr hm⟩, hm.2]
    · rw [if_neg (fun z => hm ((mvR_pos P p R0 hi).mp z.2)), grV, if_neg (fun z => hm z.2)]
  · rw [if_neg (fun z => hi z.1), grV, if_neg (fun z => hi z.1)]
/-- the reference's answer, once its sums are known -/
theorem M_mcK (h : Mv S ad v np nf no mo) (P : Nat → Bool) (p q : Int32) (R0 : Nat → Int32) {N : Nat} (hN : N < 2 ^ 31) (B : Bool) {wA wB : Bool} (cA : CW (fun c => grV v P p q (250 + c) = p.toInt64) wA) (cB : CW (fun c => grV v P p q (250 + c) = q.toInt64) wB) : ∃ S3, mcK (ad 1) p q (nI N) (bI B) (qI S (ad 6) (fun i => if i < 900 then bI (mvB v P p i) else R0 i)) = some (if N = 0 then 0 else if B then -2 else if wA && wB then nI N else -2, S3) ∧ Ch S S3 ad MPr ∧ gI S3 (ad 1) 2 = gI S (ad 1) 2 ∧ gJ S3 (ad 3) = (if N ≠ 0 ∧ B = false ∧ (wA && wB) = true then grV v P p q else v) := by
  have t := h.1
  have eN : (nI N = 0) = (N = 0) := by rw [show (0 : Int32) = nI 0 from rfl, nI_eq hN (by decide)]
  have h6 := Mv_qI h (ad 6) (fun i => if i < 900 then bI (mvB v P p i) else R0 i)
  have c6 : Ch S (qI S (ad 6) (fun i => if i < 900 then bI (mvB v P p i) else R0 i)) ad MPr := Ch_qI t (by decide) (by unfold MPr; omega)
  generalize hX : qI S (ad 6) (fun i => if i < 900 then bI (mvB v P p i) else R0 i) = X at h6 c6
  have x2 : gI X (ad 1) 2 = gI S (ad 1) 2 := by
    rw [← hX, gI_qI, if_neg (fun e => absurd ((t.1 _ _).mp e) (by decide))]
  have xR : ∀ i, i < 900 → gI X (ad 6) i = (fun i => if i < 900 then bI (mvB v P p i) else R0 i) i := fun i _ => by
    rw [← hX, gI_qI, if_pos rfl]
  unfold mcK
  simp only [eN, if_bI]
  by_cases h0 : N = 0
  · refine ⟨X, by rw [if_pos h0, if_pos h0], c6, x2, ?_⟩
    rw [if_neg (fun z => z.1 h0)]; exact h6.2.1
  · rw [if_neg h0, if_neg h0]
    cases B
    · -- the cells move
      have g1 := M_give h6 xR q
      rw [giV_gr] at g1
      have hY := Mv_q (v' := grV v P p q) h6 (grV_n (by omega)) (grV_n (by omega)) (grV_n (by omega)) (grV_n (by omega))
      have cY : Ch S (qJ X (ad 3) (grV v P p q)) ad MPr := c6.tr (Ch_qJ h6.1 (Or.inl rfl))
      have y2 : gI (qJ X (ad 3) (grV v P p q)) (ad 1) 2 = gI S (ad 1) 2 := x2
      have yR : ∀ i, i < 900 → gI (qJ X (ad 3) (grV v P p q)) (ad 6) i = (fun i => if i < 900 then bI (mvB v P p i) else R0 i) i := xR
      rw [g1]
      generalize qJ X (ad 3) (grV v P p q) = Y at hY cY y2 yR
      obtain ⟨w1, R1, f1, k1⟩ := M_conn hY p
      have ew : w1 = wA := CW_one k1 cA
      subst ew
      have hZ := Mv_qI hY (ad 5) R1
      have cZ : Ch S (qI Y (ad 5) R1) ad MPr := cY.tr (Ch_qI hY.1 (by decide) (by unfold MPr; omega))
      have z2 : gI (qI Y (ad 5) R1) (ad 1) 2 = gI S (ad 1) 2 := by rw [gI_qI, if_neg (fun e => absurd ((t.1 _ _).mp e) (by decide))]; exact y2
      have zR : ∀ i, i < 900 → gI (qI Y (ad 5) R1) (ad 6) i = (fun i => if i < 900 then bI (mvB v P p i) else R0 i) i := fun i hi => by rw [gI_qI, if_neg (fun e => absurd ((t.1 _ _).mp e) (by decide))]; exact yR i hi
      simp only [cl_n, f1, jn_n, if_bI, Bool.false_eq_true, if_false]
      generalize qI Y (ad 5) R1 = Z at hZ cZ z2 zR
      have bk : ∀ {Z : St}, Mv Z ad (grV v P p q) np nf no mo → Ch S Z ad MPr → gI Z (ad 1) 2 = gI S (ad 1) 2 → (∀ i, i < 900 → gI Z (ad 6) i = (fun i => if i < 900 then bI (mvB v P p i) else R0 i) i) → ∃ S3, (cl (f_X12_give Z (ad 1) p) fun (S25 : St) => some ((-2 : Int32), S25)) = some (-2, S3) ∧ Ch S S3 ad MPr ∧ gI S3 (ad 1) 2 = gI S (ad 1) 2 ∧ gJ S3 (ad 3) = v := by
        intro Z hZ cZ z2 zR
        have g2 := M_give hZ zR p
        rw [giV_bk] at g2
        refine ⟨qJ Z (ad 3) v, by rw [g2, cl_n], cZ.tr (Ch_qJ hZ.1 (Or.inl rfl)), z2, ?_⟩
        funext i
        rw [gJ_qJ, if_pos rfl]
      cases w1
      · obtain ⟨S3, q1, q2, q3, q4⟩ := bk hZ cZ z2 zR
        refine ⟨S3, ?_, q2, q3, ?_⟩
        · simp only [Bool.false_eq_true, if_false, Bool.false_and]
          exact q1
        · rw [q4, if_neg]
          rintro ⟨-, -, z⟩
          exact absurd z (by simp)
      · obtain ⟨w2, R2, f2, k2⟩ := M_conn hZ q
        have ew : w2 = wB := CW_one k2 cB
        subst ew
        have hW := Mv_qI hZ (ad 5) R2
        have cW : Ch S (qI Z (ad 5) R2) ad MPr := cZ.tr (Ch_qI hZ.1 (by decide) (by unfold MPr; omega))
        have w2' : gI (qI Z (ad 5) R2) (ad 1) 2 = gI S (ad 1) 2 := by rw [gI_qI, if_neg (fun e => absurd ((t.1 _ _).mp e) (by decide))]; exact z2
        have wR : ∀ i, i < 900 → gI (qI Z (ad 5) R2) (ad 6) i = (fun i => if i < 900 then bI (mvB v P p i) else R0 i) i := fun i hi => by rw [gI_qI, if_neg (fun e => absurd ((t.1 _ _).mp e) (by decide))]; exact zR i hi
        simp only [f2, cl_n, if_bI, if_true, Bool.true_and]
        cases w2
        · obtain ⟨S3, q1, q2, q3, q4⟩ := bk hW cW w2' wR
          refine ⟨S3, ?_, q2, q3, ?_⟩
          · simp only [Bool.false_eq_true, if_false]
            exact q1
          · rw [q4, if_neg]
            rintro ⟨-, -, z⟩
            exact absurd z (by simp)
        · refine ⟨_, by simp only [if_true], cW, w2', ?_⟩
          rw [if_pos ⟨h0, trivial, rfl⟩]
          exact hW.2.1
    · refine ⟨X, by simp only [if_true], c6, x2, ?_⟩
      rw [if_neg (fun z => absurd z.2.1 (by decide))]; exact h6.2.1
/-! the ledger's side -/
theorem Ch_cpI (t : TR S ad) {P : Nat → Prop} {p a sp dp n : Nat} (h1 : p ≠ 1) (hP : P p) : Ch S (cpyI S a sp (ad p) dp n) ad P := ⟨SR0_cpyI _ _ _ _ _ _, fun q _ hn i => ⟨by rw [gI_cpyI, if_neg]; intro e; exact hn (((t.1 _ _).mp e.1) ▸ hP), rfl⟩, fun l _ => by rw [gI_cpyI, if_neg]; intro e; exact h1 ((t.1 _ _).mp e.1).symm⟩
theorem Ch_join {P : Nat → Prop} {q : Nat} (h1 : Ch S X ad (fun p => p = q)) (h2 : Ch S Y ad (fun p => P p ∨ p = q)) (h : Ag X Y ad q) : Ch X Y ad P := by
  refine ⟨⟨fun a i => (h2.1.1 a i).trans (h1.1.1 a i).symm, fun a => (h2.1.2 a).trans (h1.1.2 a).symm⟩, fun p hp hn => ?_, fun i hi => (h2.2.2 i hi).trans (h1.2.2 i hi).symm⟩
  by_cases e : p = q
  · rw [e]; exact h
  · intro i
    have a1 := h1.2.1 p hp e i
    have a2 := h2.2.1 p hp (fun z => z.elim hn e) i
    exact ⟨a2.1.trans a1.1.symm, a2.2.trans a1.2.symm⟩
theorem cp16 (t : TR S ad) (hb : BB b) : f_X3_copyFrom S (ad 16) (ad (b + 2)) = some (cpyI S (ad (b + 12)) 0 (ad 17) 0 900) := by
  unfold f_X3_copyFrom
  rw [lt_n, r_b2_0 t hb, lt_n, r_16_0 t, cpI_at (i1 := 0) (i2 := 0) (i3 := 900) (sp := 0) (dp := 0) (n := 900) rfl rfl rfl (by rw [n_b12 t hb]; omega) (by rw [n_17 t]; omega) (by rw [n_b12 t hb]; decide) (by rw [n_17 t]; decide)]
theorem cp61 (t : TR S ad) (hb : BB b) : f_X3_copyFrom S (ad (b + 2)) (ad 16) = some (cpyI S (ad 17) 0 (ad (b + 12)) 0 900) := by
  unfold f_X3_copyFrom
  rw [lt_n, r_16_0 t, lt_n, r_b2_0 t hb, cpI_at (i1 := 0) (i2 := 0) (i3 := 900) (sp := 0) (dp := 0) (n := 900) rfl rfl rfl (by rw [n_17 t]; omega) (by rw [n_b12 t hb]; omega) (by rw [n_17 t]; decide) (by rw [n_b12 t hb]; decide)]
/-- an outlet of a franchisee within a rectangle -/
def anO (v : Nat → Int64) (no : Nat) (p : Int32) (P : Nat → Bool) : Prop := ∃ o, o < no ∧ v (186 + 4 * o + 0) = p.toInt64 ∧ P (30 * oy v o + ox v o) = true
theorem C_any (c : CV S ad b v np nf no mo) (p : Int32) {x1 y1 m n : Nat} (hx : x1 + m ≤ 30) (hy : y1 + n ≤ 30) : ∃ B, f_X6_anyWithin S (ad (b + 3)) p (nI x1) (nI y1) (nI (x1 + m)) (nI (y1 + n)) = some (bI B) ∧ (B = true ↔ anO v no p (win x1 y1 m n)) := by
  have ho := c.ho
  unfold f_X6_anyWithin
  refine lp_ex2 (fun (k : Int32 → Option Int32) i (_ : Unit) => k (nI i)) _ _ no (fun i _ => ∀ o, o < i → ¬ (v (186 + 4 * o + 0) = p.toInt64 ∧ win x1 y1 m n (30 * oy v o + ox v o) = true)) (fun r => ∃ B, r = some (bI B) ∧ (B = true ↔ anO v no p (win x1 y1 m n))) ?_ ?_ no FU 0 () (by omega) (fun o h => absurd h (by omega)) (show no < 6000 by omega)
  · intro k i _ hi hJ
    have i16 : i < 16 := by omega
    obtain ⟨e0, -, -, -⟩ := c.O.2 i hi
    obtain ⟨e1, e2⟩ := C_oxy c hi
    obtain ⟨b1, b2, -, -⟩ := oxy c.w hi
    have n1 : ¬ nI no ≤ nI i := by rw [nI_leI (by omega) (by omega)]; omega
    have q1 : (nI (ox v i) < nI x1) = (ox v i < x1) := by rw [nI_ltI (by omega) (by omega)]
    have q2 : (nI (x1 + m) ≤ nI (ox v i)) = (x1 + m ≤ ox v i) := by rw [nI_leI (by omega) (by omega)]
    have q3 : (nI (oy v i) < nI y1) = (oy v i < y1) := by rw [nI_ltI (by omega) (by omega)]
    have q4 : (nI (y1 + n) ≤ nI (oy v i)) = (y1 + n ≤ oy v i) := by rw [nI_leI (by omega) (by omega)]
    have hw : (win x1 y1 m n (30 * oy v i + ox v i) = true) ↔ (x1 ≤ ox v i ∧ ox v i < x1 + m ∧ y1 ≤ oy v i ∧ oy v i < y1 + n) := by
      unfold win
      rw [decide_eq_true_eq, show (30 * oy v i + ox v i) % 30 = ox v i by omega, show (30 * oy v i + ox v i) / 30 = oy v i by omega]
    have hp : (gI S (ad (b + 15)) i = p) ↔ v (186 + 4 * i + 0) = p.toInt64 := by rw [e0, tl_eq]
    by_cases hc : v (186 + 4 * i + 0) = p.toInt64 ∧ win x1 y1 m n (30 * oy v i + ox v i) = true
    · left
      refine ⟨true, ?_, ⟨fun _ => ⟨i, hi, hc⟩, fun _ => rfl⟩⟩
      have hc2 := hw.mp hc.2
      simp only [lt_n, c.O.1, n1, if_false, r_b3_0 c.t c.hb, r_b3_1 c.t c.hb, r_b3_2 c.t c.hb, lb15 c.t c.hb i16, lb16 c.t c.hb i16, lb17 c.t c.hb i16, e1, e2, jn_n, q1, q2, q3, q4, hp.mpr hc.1, if_true, show ¬ ox v i < x1 by omega, show ¬ x1 + m ≤ ox v i by omega, show ¬ oy v i < y1 by omega, show ¬ y1 + n ≤ oy v i by omega]
      rfl
    · right
      refine ⟨(), fun o h => ?_, ?_⟩
      · by_cases e : o = i
        · rw [e]; exact hc
        · exact hJ o (by omega)
      · simp only [lt_n, c.O.1, n1, if_false, r_b3_0 c.t c.hb, r_b3_1 c.t c.hb, r_b3_2 c.t c.hb, lb15 c.t c.hb i16, lb16 c.t c.hb i16, lb17 c.t c.hb i16, e1, e2, jn_n, q1, q2, q3, q4, nI_1]
        by_cases h1 : gI S (ad (b + 15)) i = p
        · rw [if_pos h1]
          by_cases h2 : ox v i < x1
          · rw [if_pos h2]
          · rw [if_neg h2]
            by_cases h3 : x1 + m ≤ ox v i
            · rw [if_pos h3]
            · rw [if_neg h3]
              by_cases h4 : oy v i < y1
              · rw [if_pos h4]
              · rw [if_neg h4]
                by_cases h5 : y1 + n ≤ oy v i
                · rw [if_pos h5]
                · exact absurd ⟨hp.mp h1, hw.mpr ⟨by omega, by omega, by omega, by omega⟩⟩ hc
        · rw [if_neg h1]
  · intro k _ hJ
    refine ⟨false, ?_, ⟨fun h => absurd h (by decide), fun ⟨o, h1, h2⟩ => absurd h2 (hJ o h1)⟩⟩
    have n1 : nI no ≤ nI no := by rw [nI_leI (by omega) (by omega)]; omega
    simp only [lt_n, c.O.1, n1, if_true]
    rfl
/-- an open outlet's owner owns its cell -/
theorem own_cell (w : WF v np nf no mo) (hf8 : nf ≤ 8) {o f : Nat} (ho : o < no) (hf : f < 8) : (v (186 + 4 * o + 0) ≠ -1 ∧ v (250 + (30 * oy v o + ox v o)) = (nI f).toInt64) ↔ v (186 + 4 * o + 0) = (nI f).toInt64 := by
  obtain ⟨⟨x, y, hx, hy, e1, e2, e3⟩, -⟩ := w.2.2.2.1 o ho
  have ex : ox v o = x := by rw [ox, e1, lN_toInt (by omega)]; omega
  have ey : oy v o = y := by rw [oy, e2, lN_toInt (by omega)]; omega
  have nm : ∀ g, g < 8 → (nI g).toInt64 ≠ -1 := fun g hg e => nI_m1 (n := g) (by omega) ((tl_eq _ _).mp (e.trans tl_m1.symm))
  rw [ex, ey]
  rcases e3 with e3 | ⟨g, hg, e5, e6⟩
  · rw [e3]
    exact ⟨fun h => absurd rfl h.1, fun h => absurd h.symm (nm f hf)⟩
  · rw [e5, e6, ← nI_l (show g < 2 ^ 31 by omega)]
    exact ⟨fun h => h.2, fun h => ⟨nm g (by omega), h⟩⟩
theorem bad_any (w : WF v np nf no mo) (hf8 : nf ≤ 8) {f : Nat} (hf : f < 8) (P : Nat → Bool) : cdB (mvB v P (nI f)) (fun c => hO v c no 0) 900 = true ↔ anO v no (nI f) P := by
  rw [cdB_iff]
  constructor
  · rintro ⟨c, hc, h1, h2⟩
    obtain ⟨o, -, ho, h3, h4⟩ := (hO_ex v c no 0).mp h2
    rw [mvB, Bool.and_eq_true, decide_eq_true_eq] at h1
    refine ⟨o, by omega, (own_cell w hf8 (by omega) hf).mp ⟨h3, ?_⟩, ?_⟩
    · rw [h4]; exact h1.1
    · rw [h4]; exact h1.2
  · rintro ⟨o, ho, h1, h2⟩
    obtain ⟨h3, h4⟩ := (own_cell w hf8 ho hf).mpr h1
    obtain ⟨b1, b2, -, -⟩ := oxy w ho
    refine ⟨30 * oy v o + ox v o, by omega, ?_, (hO_ex v _ no 0).mpr ⟨o, by omega, by omega, h3, rfl⟩⟩
    rw [mvB, Bool.and_eq_true, decide_eq_true_eq]
    exact ⟨h4, h2⟩
