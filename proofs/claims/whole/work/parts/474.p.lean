/-! the pure part: readers by states; names -/
variable {S S0 S1 S2 S' S'' S3 X Y : St} {ad : Nat → Nat} {b d j k : Nat} {v v0 v' v1 v2 u w : Nat → Int64} {np nf no mo no' mo' x y : Nat}
/-- only the names of P changed -/
def KCx (S S' : St) (ad : Nat → Nat) (P : Nat → Prop) : Prop := SR0 S S' ∧ ∀ p, ¬ P p → Ag S S' ad p
theorem KCx.rf {P : Nat → Prop} : KCx S S ad P := ⟨SR0.rf S, fun _ _ _ => ⟨rfl, rfl⟩⟩
theorem KCx.tr {P : Nat → Prop} (h : KCx S S' ad P) (h2 : KCx S' S'' ad P) : KCx S S'' ad P := ⟨h.1.trans h2.1, fun p hn => (h.2 p hn).trans (h2.2 p hn)⟩
theorem KCx.mono {P Q : Nat → Prop} (h : KCx S S' ad P) (hq : ∀ p, P p → Q p) : KCx S S' ad Q := ⟨h.1, fun p hn => h.2 p (fun e => hn (hq p e))⟩
theorem KCx.t {P : Nat → Prop} (h : KCx S S' ad P) (t : TR S ad) : TR S' ad := TR_SR0 h.1 t
theorem KCx_uI (t : TR S ad) {P : Nat → Prop} {p i : Nat} {w : Int32} (hP : P p) : KCx S (uI S (ad p) i w) ad P := ⟨SR0_uI _ _ _ _, fun q hn => Ag_uI t (fun e => hn (e ▸ hP))⟩
theorem KCx_uJ (t : TR S ad) {P : Nat → Prop} {p i : Nat} {w : Int64} (hP : P p) : KCx S (uJ S (ad p) i w) ad P := ⟨SR0_uJ _ _ _ _, fun q hn => Ag_uJ t (fun e => hn (e ▸ hP))⟩
theorem KCx_qI (t : TR S ad) {P : Nat → Prop} {p : Nat} {g : Nat → Int32} (hP : P p) : KCx S (qI S (ad p) g) ad P := ⟨SR0_qI _ _ _, fun q hn i => ⟨by rw [gI_qI, if_neg]; intro e; exact hn (((t.1 _ _).mp e) ▸ hP), rfl⟩⟩
theorem qor_a (q r z : Option (Nat × Nat)) : qor (qor q r) z = qor q (qor r z) := by cases q <;> rfl
theorem qor_n (q : Option (Nat × Nat)) : qor q none = q := by cases q <;> rfl
theorem qor_0 (q : Option (Nat × Nat)) : qor none q = q := rfl
theorem qor_s (z : Nat × Nat) (q : Option (Nat × Nat)) : qor (some z) q = some z := rfl
def P12 (p : Nat) : Prop := p = 12
/-- the ledger stands behind e; it stands at the token of e -/
def LGs (S : St) (ad : Nat → Nat) (B : Nat → Int32) (n e : Nat) (q : Option (Nat × Nat)) : Prop := CB S ad B n ∧ CS (gI S (ad 12)) n e q
def LGt (S : St) (ad : Nat → Nat) (B : Nat → Int32) (n e : Nat) (q : Option (Nat × Nat)) : Prop := CB S ad B n ∧ CT1 B (gI S (ad 12)) n e q
theorem LGt.ls {B : Nat → Int32} {n e : Nat} {q : Option (Nat × Nat)} (h : LGt S ad B n e q) : LGs S ad B n (tkR B n e) q := ⟨h.1, h.2.cs⟩
theorem g12 (T : Nat → Int32) : gI (qI S (ad 12) T) (ad 12) = T := funext fun i => by rw [gI_qI, if_pos rfl]
theorem CB_c {B : Nat → Int32} {n : Nat} (hs : SR0 S S') (h : Ag S S' ad 13) (c : CB S ad B n) : CB S' ad B n := ⟨TR_SR0 hs c.1, c.2.1, fun i hi => (h i).1.trans (c.2.2 i hi)⟩
theorem LGt_c {B : Nat → Int32} {n e : Nat} {q : Option (Nat × Nat)} {P : Nat → Prop} (hc : KCx S S' ad P) (h1 : ¬ P 12) (h2 : ¬ P 13) (h : LGt S ad B n e q) : LGt S' ad B n e q := ⟨CB_c hc.1 (hc.2 13 h2) h.1, by rw [show gI S' (ad 12) = gI S (ad 12) from funext fun i => (hc.2 12 h1 i).1]; exact h.2⟩
theorem LGs_c {B : Nat → Int32} {n e : Nat} {q : Option (Nat × Nat)} {P : Nat → Prop} (hc : KCx S S' ad P) (h1 : ¬ P 12) (h2 : ¬ P 13) (h : LGs S ad B n e q) : LGs S' ad B n e q := ⟨CB_c hc.1 (hc.2 13 h2) h.1, by rw [show gI S' (ad 12) = gI S (ad 12) from funext fun i => (hc.2 12 h1 i).1]; exact h.2⟩
theorem L_ad {B : Nat → Int32} {n e : Nat} {q : Option (Nat × Nat)} (h : LGs S ad B n e q) : ∃ S', f_X9_advance S (ad 12) = some S' ∧ KCx S S' ad P12 ∧ LGt S' ad B n e q := by
  obtain ⟨T', h1, h2⟩ := C_ad h.1 h.2
  rw [qI_self] at h1
  exact ⟨_, h1, KCx_qI h.1.1 rfl, CB_q h.1 T', by rw [g12]; exact h2⟩
theorem L_fail {B : Nat → Int32} {n e : Nat} {q : Option (Nat × Nat)} (h : LGt S ad B n e q) {k : Nat} (hk : 1 ≤ k ∧ k ≤ 5) {i : Int32} (hi : i = nI k) : ∃ S', f_X9_fail S (ad 12) i = some S' ∧ KCx S S' ad P12 ∧ LGt S' ad B n e (qor q (some (k, tkS B n e))) := by
  obtain ⟨T', h1, h2⟩ := C_fail (S := S) (ad := ad) h.1.2.1 h.2 hk hi
  rw [qI_self] at h1
  exact ⟨_, h1, KCx_qI h.1.1 rfl, CB_q h.1 T', by rw [g12]; exact h2⟩
theorem L_num {B : Nat → Int32} {n e a : Nat} {q : Option (Nat × Nat)} (h : LGs S ad B n e q) (ha : a ≤ 1000000) (hi : Int32) {i : Int32} (hia : i = nI a) : ∃ S', f_X9_readNumber S (ad 12) i hi = some (nI (vNum B n e a hi), S') ∧ KCx S S' ad P12 ∧ LGt S' ad B n e (qor q (eNum B n e a hi)) := by
  subst hia
  obtain ⟨T', h1, h2⟩ := C_num h.1 h.2 ha hi
  rw [qI_self] at h1
  exact ⟨_, h1, KCx_qI h.1.1 rfl, CB_q h.1 T', by rw [g12]; exact h2⟩
theorem L_end {B : Nat → Int32} {n e : Nat} {q : Option (Nat × Nat)} (h : LGs S ad B n e q) : ∃ S', f_X9_endStatement S (ad 12) = some S' ∧ KCx S S' ad P12 ∧ LGt S' ad B n e (qor q (eEnd B n e)) := by
  obtain ⟨T', h1, h2⟩ := C_end h.1 h.2
  rw [qI_self] at h1
  exact ⟨_, h1, KCx_qI h.1.1 rfl, CB_q h.1 T', by rw [g12]; exact h2⟩
theorem L_isW {B : Nat → Int32} {n e : Nat} {q : Option (Nat × Nat)} (h : LGt S ad B n e q) {i : Nat} (hi : i < 19) : f_X9_isWord S (ad 12) i = some (bI (isW B n e i)) := by
  have h1 := C_isW h.1 h.2 hi
  rwa [qI_self] at h1
theorem L_2 {B : Nat → Int32} {n e : Nat} {q : Option (Nat × Nat)} (h : LGt S ad B n e q) {c : Nat} (hc : c ≤ 5) : (gI S (ad 12) 2 = nI c) = (tkK B n e = c) := by
  rw [h.2.2.1]; exact propext (nI3 tkK_le hc)
theorem L_failed {B : Nat → Int32} {n e : Nat} {q : Option (Nat × Nat)} (h : LGt S ad B n e q) : f_X9_failed S (ad 12) = some (bI q.isSome) := by
  have hE := h.2.2.2.2.2.2.1
  unfold f_X9_failed
  cases q with
  | none => rw [lt_n, hE.1]; rfl
  | some x =>
    obtain ⟨c, p⟩ := x
    obtain ⟨⟨c1, c2, -⟩, e5, -⟩ := hE
    rw [lt_n, e5, if_neg (by rw [show (0 : Int32) = nI 0 from rfl, nI_eq (by omega) (by omega)]; omega)]; rfl
theorem LGs_failed {B : Nat → Int32} {n e : Nat} {q : Option (Nat × Nat)} (h : LGs S ad B n e q) : f_X9_failed S (ad 12) = some (bI q.isSome) := by
  have hE := h.2.2.2.2
  unfold f_X9_failed
  cases q with
  | none => rw [lt_n, hE.1]; rfl
  | some x =>
    obtain ⟨c, p⟩ := x
    obtain ⟨⟨c1, c2, -⟩, e5, -⟩ := hE
    rw [lt_n, e5, if_neg (by rw [show (0 : Int32) = nI 0 from rfl, nI_eq (by omega) (by omega)]; omega)]; rfl
theorem L_resv {B : Nat → Int32} {n e : Nat} {q : Option (Nat × Nat)} (h : LGt S ad B n e q) : f_X9_isReserved S (ad 12) = some (bI (decide (stW B n e ≠ -1))) := by
  have y0 := L_isW h (i := 0) (by decide)
  have y1 := L_isW h (i := 1) (by decide)
  have y2 := L_isW h (i := 2) (by decide)
  have y3 := L_isW h (i := 3) (by decide)
  have y4 := L_isW h (i := 4) (by decide)
  have y5 := L_isW h (i := 5) (by decide)
  have y6 := L_isW h (i := 6) (by decide)
  have y7 := L_isW h (i := 7) (by decide)
  have y8 := L_isW h (i := 8) (by decide)
  have y9 := L_isW h (i := 9) (by decide)
  have d0 : decide ((0 : Int32) ≠ -1) = true := by decide
  have d1 : decide ((1 : Int32) ≠ -1) = true := by decide
  have d2 : decide ((2 : Int32) ≠ -1) = true := by decide
  have d3 : decide ((3 : Int32) ≠ -1) = true := by decide
  have d4 : decide ((4 : Int32) ≠ -1) = true := by decide
  have d5 : decide ((5 : Int32) ≠ -1) = true := by decide
  have d6 : decide ((6 : Int32) ≠ -1) = true := by decide
  have d7 : decide ((7 : Int32) ≠ -1) = true := by decide
  have d8 : decide ((8 : Int32) ≠ -1) = true := by decide
  have d9 : decide ((9 : Int32) ≠ -1) = true := by decide
  have dm : decide ((-1 : Int32) ≠ -1) = false := by decide
  simp only [f_X9_isReserved, stW, y0, y1, y2, y3, y4, y5, y6, y7, y8, y9, cl_n, jn_n, if_bI]
  by_cases w0 : isW B n e 0 = true
  · simp only [w0, if_true, Bool.false_eq_true, if_false, d0, bI_t]
  simp only [w0, Bool.false_eq_true, if_false]
  by_cases w1 : isW B n e 1 = true
  · simp only [w1, if_true, Bool.false_eq_true, if_false, d1, bI_t]
  simp only [w1, Bool.false_eq_true, if_false]
  by_cases w2 : isW B n e 2 = true
  · simp only [w2, if_true, Bool.false_eq_true, if_false, d2, bI_t]
  simp only [w2, Bool.false_eq_true, if_false]
  by_cases w3 : isW B n e 3 = true
  · simp only [w3, if_true, Bool.false_eq_true, if_false, d3, bI_t]
  simp only [w3, Bool.false_eq_true, if_false]
  by_cases w4 : isW B n e 4 = true
  · simp only [w4, if_true, Bool.false_eq_true, if_false, d4, bI_t]
  simp only [w4, Bool.false_eq_true, if_false]
  by_cases w5 : isW B n e 5 = true
  · simp only [w5, if_true, Bool.false_eq_true, if_false, d5, bI_t]
  simp only [w5, Bool.false_eq_true, if_false]
  by_cases w6 : isW B n e 6 = true
  · simp only [w6, if_true, Bool.false_eq_true, if_false, d6, bI_t]
  simp only [w6, Bool.false_eq_true, if_false]
  by_cases w7 : isW B n e 7 = true
  · simp only [w7, if_true, Bool.false_eq_true, if_false, d7, bI_t]
  simp only [w7, Bool.false_eq_true, if_false]
  by_cases w8 : isW B n e 8 = true
  · simp only [w8, if_true, Bool.false_eq_true, if_false, d8, bI_t]
  simp only [w8, Bool.false_eq_true, if_false]
  by_cases w9 : isW B n e 9 = true
  · simp only [w9, if_true, Bool.false_eq_true, if_false, d9, bI_t]
  simp only [w9, Bool.false_eq_true, if_false]
  rw [dm]; rfl
theorem L_kindW {B : Nat → Int32} {n e : Nat} {q : Option (Nat × Nat)} (h : LGt S ad B n e q) : f_X5_kindOfWord S (ad 12) = some (enW B n e) := by
  have y10 := L_isW h (i := 10) (by decide)
  have y11 := L_isW h (i := 11) (by decide)
  have y12 := L_isW h (i := 12) (by decide)
  have y13 := L_isW h (i := 13) (by decide)
  have y14 := L_isW h (i := 14) (by decide)
  have y15 := L_isW h (i := 15) (by decide)
  have y16 := L_isW h (i := 16) (by decide)
  simp only [f_X5_kindOfWord, enW, y10, y11, y12, y13, y14, y15, y16, cl_n, jn_n, if_bI]
  by_cases w10 : isW B n e 10 = true
  · simp only [w10, if_true, Bool.false_eq_true, if_false]
  simp only [w10, Bool.false_eq_true, if_false]
  by_cases w11 : isW B n e 11 = true
  · simp only [w11, if_true, Bool.false_eq_true, if_false]
  simp only [w11, Bool.false_eq_true, if_false]
  by_cases w12 : isW B n e 12 = true
  · simp only [w12, if_true, Bool.false_eq_true, if_false]
  simp only [w12, Bool.false_eq_true, if_false]
  by_cases w13 : isW B n e 13 = true
  · simp only [w13, if_true, Bool.false_eq_true, if_false]
  simp only [w13, Bool.false_eq_true, if_false]
  by_cases w14 : isW B n e 14 = true
  · simp only [w14, if_true, Bool.false_eq_true, if_false]
  simp only [w14, Bool.false_eq_true, if_false]
  by_cases w15 : isW B n e 15 = true
  · simp only [w15, if_true, Bool.false_eq_true, if_false]
  simp only [w15, Bool.false_eq_true, if_false]
  by_cases w16 : isW B n e 16 = true
  · simp only [w16, if_true, Bool.false_eq_true, if_false]
  simp only [w16, Bool.false_eq_true, if_false]
/-- the number of a name -/
def nmX (B : Nat → Int32) (n e : Nat) (u : Nat → Int64) (nf : Nat) : Int32 := nmV u (pkd (fun i => B (tkS B n e + i)) (tkR B n e - tkS B n e)) nf 0
def eNm (B : Nat → Int32) (n e : Nat) (u : Nat → Int64) (nf : Nat) (kn : Bool) : Option (Nat × Nat) := if tkK B n e = 1 ∧ stW B n e = -1 then (if decide (nmX B n e u nf = -1) = kn then some (3, tkS B n e) else none) else some (1, tkS B n e)
theorem nmV_f (u : Nat → Int64) (val : Int64) : ∀ r m, nmV u val r m = -1 ∨ ∃ f, f < m + r ∧ nmV u val r m = nI f := by
  intro r
  induction r with
  | zero => intro m; exact Or.inl rfl
  | succ r ih =>
    intro m
    rw [nmV]
    by_cases h : u (58 + 16 * m + 0) = val
    · rw [if_pos h]; exact Or.inr ⟨m, by omega, rfl⟩
    · rw [if_neg h]
      rcases ih (m + 1) with h1 | ⟨f, h1, h2⟩
      · exact Or.inl h1
      · exact Or.inr ⟨f, by omega, h2⟩
def rnK (p0 p1 : Nat) (p2 : Int32) (S3 : St) : Option (Int32 × St) := lt (gR S3 p0 0) fun (a6 : Nat) => lt (gI S3 p0 3) fun (v8 : Int32) => lt (gI S3 p0 4) fun (v9 : Int32) => lt (gI S3 p0 3) fun (v10 : Int32) => cl (f_X2_named S3 p1 a6 v8 (v9 - v10)) fun (v11 : Int32) => jn (κ := Int32 → Option (Int32 × St)) (fun x12 => jn (κ := St → Option (Int32 × St)) (fun S15 => some (v11, S15)) fun k16 => if p2 = x12 then (k16 S3) else (cl (f_X9_fail S3 p0 3) fun (S18 : St) => k16 S18)) fun k13 => if v11 = (-1) then (k13 0) else (k13 1)
theorem rnmE (S : St) (p0 p1 : Nat) (p2 : Int32) : f_X9_readName S p0 p1 p2 = (cl (f_X9_advance S p0) fun (S1 : St) => lt (gI S1 p0 2) fun (v2 : Int32) => jn (κ := St → Option (Int32 × St)) (rnK p0 p1 p2) fun k4 => jn (κ := Option (Int32 × St)) (cl (f_X9_fail S1 p0 1) fun (S21 : St) => k4 S21) fun k19 => if v2 = 1 then (cl (f_X9_isReserved S1 p0) fun (v22 : Int32) => if v22 = 0 then (k4 S1) else (k19)) else (k19)) := by
  unfold f_X9_readName; rfl
theorem L_rnK {B : Nat → Int32} {n e : Nat} {q : Option (Nat × Nat)} (h : LGt S ad B n e q) (hb : BB b) (h8 : nf ≤ 8) (a : AXN S ad b u nf) (kn : Bool) : ∃ w S', rnK (ad 12) (ad (b + 4)) (bI kn) S = some (w, S') ∧ KCx S S' ad P12 ∧ LGt S' ad B n e (qor q (if decide (w = -1) = kn then some (3, tkS B n e) else none)) ∧ (w = -1 ∨ ∃ f, f < nf ∧ w = nI f) ∧ (tkK B n e = 1 → w = nmX B n e u nf) := by
  have t := h.1.1
  have he := h.2.2.2.2.2.1
  have hn := h.1.2.1
  obtain ⟨r1, r2, -⟩ := tkR_f (B := B) he
  have hnm := C_named t hb h8 a (s := tkS B n e) (n := tkR B n e - tkS B n e) (by omega)
  obtain ⟨w, hw⟩ : ∃ w, (if (decide (1 ≤ tkR B n e - tkS B n e ∧ tkR B n e - tkS B n e ≤ 10 ∧ ∀ i, i < tkR B n e - tkS B n e → isLt (gI S (ad 13) (tkS B n e + i)) = true)) then nmV u (pkd (fun i => gI S (ad 13) (tkS B n e + i)) (tkR B n e - tkS B n e)) nf 0 else -1) = w := ⟨_, rfl⟩
  rw [hw] at hnm
  have hr : w = -1 ∨ ∃ f, f < nf ∧ w = nI f := by
    rw [← hw]
    by_cases z : (1 ≤ tkR B n e - tkS B n e ∧ tkR B n e - tkS B n e ≤ 10 ∧ ∀ i, i < tkR B n e - tkS B n e → isLt (gI S (ad 13) (tkS B n e + i)) = true)
    · rw [decide_eq_true z, if_pos rfl]
      rcases nmV_f u (pkd (fun i => gI S (ad 13) (tkS B n e + i)) (tkR B n e - tkS B n e)) nf 0 with h1 | ⟨f, h1, h2⟩
      · exact Or.inl h1
      · exact Or.inr ⟨f, by omega, h2⟩
    · rw [decide_eq_false z]; exact Or.inl rfl
  have hx : tkK B n e = 1 → w = nmX B n e u nf := fun hk => by
    obtain ⟨-, d1, d2, d3⟩ := tkK_1 he hk
    have z : (1 ≤ tkR B n e - tkS B n e ∧ tkR B n e - tkS B n e ≤ 10 ∧ ∀ i, i < tkR B n e - tkS B n e → isLt (gI S (ad 13) (tkS B n e + i)) = true) := ⟨d1, d2, fun i hi => by rw [h.1.2.2 _ (by omega)]; exact d3 i hi⟩
    rw [← hw, decide_eq_true z, if_pos rfl, nmX]
    congr 1
    exact pkd_cg _ (fun i hi => h.1.2.2 _ (by omega))
  have e0 : rnK (ad 12) (ad (b + 4)) (bI kn) S = (if kn = !decide (w = -1) then some (w, S) else cl (f_X9_fail S (ad 12) 3) fun S18 => some (w, S18)) := by
    simp only [rnK, lt_n, r_12_0 t, h.2.2.2.1, h.2.2.2.2.1, nI_sub r1, hnm, cl_n, jn_n]
    by_cases hm : w = -1
    · simp only [hm, if_true, decide_true, Bool.not_true]
      cases kn <;> rfl
    · simp only [hm, if_false, decide_false, Bool.not_false]
      cases kn <;> rfl
  rw [e0]
  by_cases hd : decide (w = -1) = kn
  · obtain ⟨S', f1, f2, f3⟩ := L_fail h (k := 3) (by omega) (i := 3) rfl
    refine ⟨w, S', ?_, f2, ?_, hr, hx⟩
    · rw [if_neg (by rw [← hd]; cases decide (w = -1) <;> decide), f1, cl_n]
    · rw [if_pos hd]; exact f3
  · refine ⟨w, S, ?_, KCx.rf, ?_, hr, hx⟩
    · rw [if_pos (by revert hd; cases decide (w = -1) <;> cases kn <;> decide)]
    · rw [if_neg hd, qor_n]; exact h
theorem L_name {B : Nat → Int32} {n e : Nat} {q : Option (Nat × Nat)} (h : LGs S ad B n e q) (hb : BB b) (h8 : nf ≤ 8) (a : AXN S ad b u nf) (kn : Bool) {p2 : Int32} (hp : p2 = bI kn) : ∃ w S', f_X9_readName S (ad 12) (ad (b + 4)) p2 = some (w, S') ∧ KCx S S' ad P12 ∧ LGt S' ad B n e (qor q (eNm B n e u nf kn)) ∧ (w = -1 ∨ ∃ f, f < nf ∧ w = nI f) ∧ (eNm B n e u nf kn = none → w = nmX B n e u nf) := by
  subst hp
  obtain ⟨S1, a1, a2, a3⟩ := L_ad h
  have ax1 : AXN S1 ad b u nf := AXN_c (fun q hq => a2.2 _ (by unfold P12 BB at *; omega)) a
  have k1 : (gI S1 (ad 12) 2 = 1) = (tkK B n e = 1) := L_2 a3 (c := 1) (by omega)
  rw [rnmE, a1, cl_n]
  simp only [lt_n, k1, L_resv a3, cl_n, jn_n, if_bI]
  by_cases hg : tkK B n e = 1 ∧ stW B n e = -1
  · obtain ⟨w, S', b1, b2, b3, b4, b5⟩ := L_rnK a3 hb h8 ax1 kn
    refine ⟨w, S', ?_, a2.tr b2, ?_, b4, fun _ => b5 hg.1⟩
    · rw [if_pos hg.1, decide_eq_false (fun z => z hg.2), if_neg (by decide)]; exact b1
    · rw [eNm, if_pos hg, ← b5 hg.1]; exact b3
  · obtain ⟨S2, f1, f2, f3⟩ := L_fail a3 (k := 1) (by omega) (i := 1) rfl
    have ax2 : AXN S2 ad b u nf := AXN_c (fun q hq => f2.2 _ (by unfold P12 BB at *; omega)) ax1
    obtain ⟨w, S', b1, b2, b3, b4, b5⟩ := L_rnK f3 hb h8 ax2 kn
    refine ⟨w, S', ?_, (a2.tr f2).tr b2, ?_, b4, fun z => ?_⟩
    · rw [f1, cl_n]
      by_cases h1 : tkK B n e = 1
      · rw [if_pos h1, decide_eq_true (p := stW B n e ≠ -1) (fun z => hg ⟨h1, z⟩), if_pos rfl]; exact b1
      · rw [if_neg h1]; exact b1
    · rw [eNm, if_neg hg]
      rw [qor_a] at b3; exact b3
    · rw [eNm, if_neg hg] at z; simp at z
def eYes (B : Nat → Int32) (n e : Nat) : Option (Nat × Nat) := if isW B n e 17 = true ∨ isW B n e 18 = true then none else some (1, tkS B n e)
theorem L_yes {B : Nat → Int32} {n e : Nat} {q : Option (Nat × Nat)} (h : LGs S ad B n e q) : ∃ S', f_X9_readYes S (ad 12) = some (bI (isW B n e 17), S') ∧ KCx S S' ad P12 ∧ LGt S' ad B n e (qor q (eYes B n e)) := by
  obtain ⟨S1, a1, a2, a3⟩ := L_ad h
  unfold f_X9_readYes
  rw [a1, cl_n]
  simp only [L_isW a3 (i := 17) (by decide), L_isW a3 (i := 18) (by decide), cl_n, jn_n, if_bI]
  by_cases hy : isW B n e 17 = true ∨ isW B n e 18 = true
  · refine ⟨S1, ?_, a2, ?_⟩
    · simp only [zc_b]
      rcases hy with hy | hy
      · simp only [hy, if_true]
      · by_cases hz : isW B n e 17 = true
        · simp only [hz, if_true]
        · simp only [hy, hz, if_true, if_false, Bool.false_eq_true]
    · rw [eYes, if_pos hy, qor_n]; exact a3
  · obtain ⟨S2, f1, f2, f3⟩ := L_fail a3 (k := 1) (by omega) (i := 1) rfl
    refine ⟨S2, ?_, a2.tr f2, ?_⟩
    · rw [if_neg (fun z => hy (Or.inl z)), if_neg (fun z => hy (Or.inr z)), f1, cl_n, L_isW f3 (i := 17) (by decide), cl_n, zc_b]
    · rw [eYes, if_neg hy]; exact f3
