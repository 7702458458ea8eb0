/-! the pure part: statements of the terms -/
variable {S S0 S1 S2 S' S'' S3 X Y : St} {ad : Nat → Nat} {b d j k : Nat} {v v0 v' v1 v2 u u' w : Nat → Int64} {np nf no mo no' mo' x y : Nat}
theorem dq01 : ((0 : Int32) = 1) = False := by decide
theorem dq02 : ((0 : Int32) = 2) = False := by decide
theorem dq03 : ((0 : Int32) = 3) = False := by decide
theorem dq04 : ((0 : Int32) = 4) = False := by decide
theorem dq05 : ((0 : Int32) = 5) = False := by decide
theorem dq06 : ((0 : Int32) = 6) = False := by decide
theorem dq07 : ((0 : Int32) = 7) = False := by decide
theorem dq08 : ((0 : Int32) = 8) = False := by decide
theorem dq09 : ((0 : Int32) = 9) = False := by decide
theorem dq10 : ((1 : Int32) = 0) = False := by decide
theorem dq12 : ((1 : Int32) = 2) = False := by decide
theorem dq13 : ((1 : Int32) = 3) = False := by decide
theorem dq14 : ((1 : Int32) = 4) = False := by decide
theorem dq15 : ((1 : Int32) = 5) = False := by decide
theorem dq16 : ((1 : Int32) = 6) = False := by decide
theorem dq17 : ((1 : Int32) = 7) = False := by decide
theorem dq18 : ((1 : Int32) = 8) = False := by decide
theorem dq19 : ((1 : Int32) = 9) = False := by decide
theorem dq20 : ((2 : Int32) = 0) = False := by decide
theorem dq21 : ((2 : Int32) = 1) = False := by decide
theorem dq23 : ((2 : Int32) = 3) = False := by decide
theorem dq24 : ((2 : Int32) = 4) = False := by decide
theorem dq25 : ((2 : Int32) = 5) = False := by decide
theorem dq26 : ((2 : Int32) = 6) = False := by decide
theorem dq27 : ((2 : Int32) = 7) = False := by decide
theorem dq28 : ((2 : Int32) = 8) = False := by decide
theorem dq29 : ((2 : Int32) = 9) = False := by decide
theorem dq30 : ((3 : Int32) = 0) = False := by decide
theorem dq31 : ((3 : Int32) = 1) = False := by decide
theorem dq32 : ((3 : Int32) = 2) = False := by decide
theorem dq34 : ((3 : Int32) = 4) = False := by decide
theorem dq35 : ((3 : Int32) = 5) = False := by decide
theorem dq36 : ((3 : Int32) = 6) = False := by decide
theorem dq37 : ((3 : Int32) = 7) = False := by decide
theorem dq38 : ((3 : Int32) = 8) = False := by decide
theorem dq39 : ((3 : Int32) = 9) = False := by decide
theorem dq40 : ((4 : Int32) = 0) = False := by decide
theorem dq41 : ((4 : Int32) = 1) = False := by decide
theorem dq42 : ((4 : Int32) = 2) = False := by decide
theorem dq43 : ((4 : Int32) = 3) = False := by decide
theorem dq45 : ((4 : Int32) = 5) = False := by decide
theorem dq46 : ((4 : Int32) = 6) = False := by decide
theorem dq47 : ((4 : Int32) = 7) = False := by decide
theorem dq48 : ((4 : Int32) = 8) = False := by decide
theorem dq49 : ((4 : Int32) = 9) = False := by decide
theorem dq50 : ((5 : Int32) = 0) = False := by decide
theorem dq51 : ((5 : Int32) = 1) = False := by decide
theorem dq52 : ((5 : Int32) = 2) = False := by decide
theorem dq53 : ((5 : Int32) = 3) = False := by decide
theorem dq54 : ((5 : Int32) = 4) = False := by decide
theorem dq56 : ((5 : Int32) = 6) = False := by decide
theorem dq57 : ((5 : Int32) = 7) = False := by decide
theorem dq58 : ((5 : Int32) = 8) = False := by decide
theorem dq59 : ((5 : Int32) = 9) = False := by decide
theorem dq60 : ((6 : Int32) = 0) = False := by decide
theorem dq61 : ((6 : Int32) = 1) = False := by decide
theorem dq62 : ((6 : Int32) = 2) = False := by decide
theorem dq63 : ((6 : Int32) = 3) = False := by decide
theorem dq64 : ((6 : Int32) = 4) = False := by decide
theorem dq65 : ((6 : Int32) = 5) = False := by decide
theorem dq67 : ((6 : Int32) = 7) = False := by decide
theorem dq68 : ((6 : Int32) = 8) = False := by decide
theorem dq69 : ((6 : Int32) = 9) = False := by decide
theorem dq70 : ((7 : Int32) = 0) = False := by decide
theorem dq71 : ((7 : Int32) = 1) = False := by decide
theorem dq72 : ((7 : Int32) = 2) = False := by decide
theorem dq73 : ((7 : Int32) = 3) = False := by decide
theorem dq74 : ((7 : Int32) = 4) = False := by decide
theorem dq75 : ((7 : Int32) = 5) = False := by decide
theorem dq76 : ((7 : Int32) = 6) = False := by decide
theorem dq78 : ((7 : Int32) = 8) = False := by decide
theorem dq79 : ((7 : Int32) = 9) = False := by decide
theorem dq80 : ((8 : Int32) = 0) = False := by decide
theorem dq81 : ((8 : Int32) = 1) = False := by decide
theorem dq82 : ((8 : Int32) = 2) = False := by decide
theorem dq83 : ((8 : Int32) = 3) = False := by decide
theorem dq84 : ((8 : Int32) = 4) = False := by decide
theorem dq85 : ((8 : Int32) = 5) = False := by decide
theorem dq86 : ((8 : Int32) = 6) = False := by decide
theorem dq87 : ((8 : Int32) = 7) = False := by decide
theorem dq89 : ((8 : Int32) = 9) = False := by decide
theorem dq90 : ((9 : Int32) = 0) = False := by decide
theorem dq91 : ((9 : Int32) = 1) = False := by decide
theorem dq92 : ((9 : Int32) = 2) = False := by decide
theorem dq93 : ((9 : Int32) = 3) = False := by decide
theorem dq94 : ((9 : Int32) = 4) = False := by decide
theorem dq95 : ((9 : Int32) = 5) = False := by decide
theorem dq96 : ((9 : Int32) = 6) = False := by decide
theorem dq97 : ((9 : Int32) = 7) = False := by decide
theorem dq98 : ((9 : Int32) = 8) = False := by decide
theorem dm9 : ((-1 : Int32) = 9) = False := by decide
theorem dm8 : ((-1 : Int32) = 8) = False := by decide
theorem dm7 : ((-1 : Int32) = 7) = False := by decide
theorem dm6 : ((-1 : Int32) = 6) = False := by decide
theorem dm5 : ((-1 : Int32) = 5) = False := by decide
theorem dm4 : ((-1 : Int32) = 4) = False := by decide
theorem dm3 : ((-1 : Int32) = 3) = False := by decide
theorem dm2 : ((-1 : Int32) = 2) = False := by decide
theorem dm1 : ((-1 : Int32) = 1) = False := by decide
theorem dm0 : ((-1 : Int32) = 0) = False := by decide
theorem isW_k {B : Nat → Int32} {n e i : Nat} (h : isW B n e i = true) : tkK B n e = 1 := Classical.byContradiction fun z => by rw [isW_n z] at h; exact absurd h (by decide)
theorem stW_r {B : Nat → Int32} {n e : Nat} : (stW B n e = -1 ∧ ∀ j, j < 10 → isW B n e j = false) ∨ (tkK B n e = 1 ∧ ∃ i, i < 10 ∧ stW B n e = nI i ∧ isW B n e i = true ∧ ∀ j, j < i → isW B n e j = false) := by
  unfold stW
  by_cases h0 : isW B n e 0 = true
  · exact Or.inr ⟨isW_k h0, 0, by decide, by rw [if_pos h0]; rfl, h0, fun j hj => match j, hj with  | k + 0, h => absurd h (by omega)⟩
  have f0 : isW B n e 0 = false := by cases z : isW B n e 0 with
    | true => exact absurd z h0
    | false => rfl
  by_cases h1 : isW B n e 1 = true
  · exact Or.inr ⟨isW_k h1, 1, by decide, by rw [if_neg h0, if_pos h1]; rfl, h1, fun j hj => match j, hj with | 0, _ => f0 | k + 1, h => absurd h (by omega)⟩
  have f1 : isW B n e 1 = false := by cases z : isW B n e 1 with
    | true => exact absurd z h1
    | false => rfl
  by_cases h2 : isW B n e 2 = true
  · exact Or.inr ⟨isW_k h2, 2, by decide, by rw [if_neg h0, if_neg h1, if_pos h2]; rfl, h2, fun j hj => match j, hj with | 0, _ => f0 | 1, _ => f1 | k + 2, h => absurd h (by omega)⟩
  have f2 : isW B n e 2 = false := by cases z : isW B n e 2 with
    | true => exact absurd z h2
    | false => rfl
  by_cases h3 : isW B n e 3 = true
  · exact Or.inr ⟨isW_k h3, 3, by decide, by rw [if_neg h0, if_neg h1, if_neg h2, if_pos h3]; rfl, h3, fun j hj => match j, hj with | 0, _ => f0 | 1, _ => f1 | 2, _ => f2 | k + 3, h => absurd h (by omega)⟩
  have f3 : isW B n e 3 = false := by cases z : isW B n e 3 with
    | true => exact absurd z h3
    | false => rfl
  by_cases h4 : isW B n e 4 = true
  · exact Or.inr ⟨isW_k h4, 4, by decide, by rw [if_neg h0, if_neg h1, if_neg h2, if_neg h3, if_pos h4]; rfl, h4, fun j hj => match j, hj with | 0, _ => f0 | 1, _ => f1 | 2, _ => f2 | 3, _ => f3 | k + 4, h => absurd h (by omega)⟩
  have f4 : isW B n e 4 = false := by cases z : isW B n e 4 with
    | true => exact absurd z h4
    | false => rfl
  by_cases h5 : isW B n e 5 = true
  · exact Or.inr ⟨isW_k h5, 5, by decide, by rw [if_neg h0, if_neg h1, if_neg h2, if_neg h3, if_neg h4, if_pos h5]; rfl, h5, fun j hj => match j, hj with | 0, _ => f0 | 1, _ => f1 | 2, _ => f2 | 3, _ => f3 | 4, _ => f4 | k + 5, h => absurd h (by omega)⟩
  have f5 : isW B n e 5 = false := by cases z : isW B n e 5 with
    | true => exact absurd z h5
    | false => rfl
  by_cases h6 : isW B n e 6 = true
  · exact Or.inr ⟨isW_k h6, 6, by decide, by rw [if_neg h0, if_neg h1, if_neg h2, if_neg h3, if_neg h4, if_neg h5, if_pos h6]; rfl, h6, fun j hj => match j, hj with | 0, _ => f0 | 1, _ => f1 | 2, _ => f2 | 3, _ => f3 | 4, _ => f4 | 5, _ => f5 | k + 6, h => absurd h (by omega)⟩
  have f6 : isW B n e 6 = false := by cases z : isW B n e 6 with
    | true => exact absurd z h6
    | false => rfl
  by_cases h7 : isW B n e 7 = true
  · exact Or.inr ⟨isW_k h7, 7, by decide, by rw [if_neg h0, if_neg h1, if_neg h2, if_neg h3, if_neg h4, if_neg h5, if_neg h6, if_pos h7]; rfl, h7, fun j hj => match j, hj with | 0, _ => f0 | 1, _ => f1 | 2, _ => f2 | 3, _ => f3 | 4, _ => f4 | 5, _ => f5 | 6, _ => f6 | k + 7, h => absurd h (by omega)⟩
  have f7 : isW B n e 7 = false := by cases z : isW B n e 7 with
    | true => exact absurd z h7
    | false => rfl
  by_cases h8 : isW B n e 8 = true
  · exact Or.inr ⟨isW_k h8, 8, by decide, by rw [if_neg h0, if_neg h1, if_neg h2, if_neg h3, if_neg h4, if_neg h5, if_neg h6, if_neg h7, if_pos h8]; rfl, h8, fun j hj => match j, hj with | 0, _ => f0 | 1, _ => f1 | 2, _ => f2 | 3, _ => f3 | 4, _ => f4 | 5, _ => f5 | 6, _ => f6 | 7, _ => f7 | k + 8, h => absurd h (by omega)⟩
  have f8 : isW B n e 8 = false := by cases z : isW B n e 8 with
    | true => exact absurd z h8
    | false => rfl
  by_cases h9 : isW B n e 9 = true
  · exact Or.inr ⟨isW_k h9, 9, by decide, by rw [if_neg h0, if_neg h1, if_neg h2, if_neg h3, if_neg h4, if_neg h5, if_neg h6, if_neg h7, if_neg h8, if_pos h9]; rfl, h9, fun j hj => match j, hj with | 0, _ => f0 | 1, _ => f1 | 2, _ => f2 | 3, _ => f3 | 4, _ => f4 | 5, _ => f5 | 6, _ => f6 | 7, _ => f7 | 8, _ => f8 | k + 9, h => absurd h (by omega)⟩
  have f9 : isW B n e 9 = false := by cases z : isW B n e 9 with
    | true => exact absurd z h9
    | false => rfl
  exact Or.inl ⟨by rw [if_neg h0, if_neg h1, if_neg h2, if_neg h3, if_neg h4, if_neg h5, if_neg h6, if_neg h7, if_neg h8, if_neg h9], fun j hj => match j, hj with | 0, _ => f0 | 1, _ => f1 | 2, _ => f2 | 3, _ => f3 | 4, _ => f4 | 5, _ => f5 | 6, _ => f6 | 7, _ => f7 | 8, _ => f8 | 9, _ => f9 | k + 10, h => absurd h (by omega)⟩
theorem L_isF {B : Nat → Int32} {n e : Nat} {q : Option (Nat × Nat)} (h : LGt S ad B n e q) {i : Nat} (hi : i < 10) (hf : isW B n e i = false) : f_X9_isWord S (ad 12) i = some 0 := by rw [L_isW h (by omega), hf]; rfl
theorem L_isT {B : Nat → Int32} {n e : Nat} {q : Option (Nat × Nat)} (h : LGt S ad B n e q) {i : Nat} (hi : i < 10) (hf : isW B n e i = true) : f_X9_isWord S (ad 12) i = some 1 := by rw [L_isW h (by omega), hf]; rfl
/-- a change of the terms of a draft -/
theorem DV_T (c : DV S ad d u np nf no) (hk : KCx S S' ad (fun p => p = d + 1)) (h4 : gI S' (ad (d + 1)) 4 = gI S (ad (d + 1)) 4) (hu : ∀ i, ¬ (4 ≤ i ∧ i ≤ 10) → u' i = u i) (hw : (∃ t, t ≤ 5000 ∧ u' 4 = lN t) ∧ (∃ t, t ≤ 999900 ∧ u' 5 = lN t) ∧ (∃ t, t ≤ 500 ∧ u' 6 = lN t) ∧ (∃ t, t ≤ 2000 ∧ u' 7 = lN t) ∧ (∃ t, t ≤ 999900 ∧ u' 8 = lN t) ∧ (∃ t, t ≤ 12 ∧ u' 9 = lN t)) (ha : u' 4 = (gI S' (ad (d + 1)) 5).toInt64 ∧ u' 5 = gJ S' (ad (d + 1)) 6 ∧ u' 6 = (gI S' (ad (d + 1)) 7).toInt64 ∧ u' 7 = (gI S' (ad (d + 1)) 8).toInt64 ∧ u' 8 = gJ S' (ad (d + 1)) 9 ∧ u' 9 = (gI S' (ad (d + 1)) 10).toInt64 ∧ u' 10 = (gI S' (ad (d + 1)) 11).toInt64) : DV S' ad d u' np nf no := by
  have hp := c.hp
  have hf8 := c.hf
  have ho := c.ho
  have hq : ∀ q, q ≠ 1 → Ag S S' ad (d + q) := fun q h => hk.2 _ (fun (z : d + q = d + 1) => by omega)
  obtain ⟨a1, -, -, -, -, -, -, -, ap⟩ := c.T
  obtain ⟨-, wp, wf, wo, wc, wd, ws, wr⟩ := c.w
  obtain ⟨z1, z2, z3, z4⟩ := c.Z
  refine ⟨⟨hk.t c.t, trivial, by rw [hu 1 (by omega)]; exact c.u1, by rw [hu 2 (by omega)]; exact c.u2, by rw [hu 3 (by omega)]; exact c.u3, by rw [hu 0 (by omega)]; exact c.u0, hp, hf8, ho, by omega⟩, c.hd, ⟨hw, fun p hpp => by rw [hu _ (by omega)]; exact wp p hpp, fun f hf => by rw [hu _ (by omega), hu _ (by omega), hu _ (by omega), hu _ (by omega)]; exact wf f hf, fun o hoo => ?_, fun i hi => by rw [hu _ (by omega)]; exact wc i hi, fun i hi => by rw [hu _ (by omega)]; exact wd i hi, by rw [hu 11 (by omega), hu 12 (by omega), hu 13 (by omega)]; exact ws, fun k f hk0 hf => absurd hk0 (by omega)⟩, WS_w (fun f q hf hq => hu _ (by omega)) (hu 11 (by omega)) c.ws, ⟨by rw [h4]; exact a1, ha.1, ha.2.1, ha.2.2.1, ha.2.2.2.1, ha.2.2.2.2.1, ha.2.2.2.2.2.1, ha.2.2.2.2.2.2, fun p hpp => ?_⟩, AXG_w (fun i hi => hu i (by omega)) (AXG_c (hq 12 (by omega)) c.G), AXO_w (fun i hi => hu i (by omega)) ho (AXO_c (fun q h => hq q (by omega)) c.O), AXN_w (fun f hf => hu _ (by omega)) (AXN_c (fun q h => hq q (by omega)) c.N), AXF_w (fun f q hf h => hu _ (by omega)) (AXF_c (fun q h => hq q (by omega)) c.F), AXR_w (fun f q hf h => hu _ (by omega)) (AXR_c (fun q h => hq q (by omega)) c.R), AXB_w (fun i hi => hu i (by omega)) (fun f q hf h => hu _ (by omega)) hf8 (by omega) (AXB_c (fun q h => hq q (by omega)) c.B), ZR_c (fun q h => hq q (by omega)) ⟨fun f q h1 h2 h3 => by rw [hu _ (by omega)]; exact z1 f q h1 h2 h3, fun p q h1 h2 h3 => by rw [hu _ (by omega)]; exact z2 p q h1 h2 h3, fun o h => by rw [hu _ (by omega)]; exact z3 o h, z4⟩⟩
  · obtain ⟨⟨x, y, hx, hy, e1, e2, e3⟩, s, hs, e4⟩ := wo o hoo
    refine ⟨⟨x, y, hx, hy, by rw [hu _ (by omega)]; exact e1, by rw [hu _ (by omega)]; exact e2, ?_⟩, s, hs, by rw [hu _ (by omega)]; exact e4⟩
    rw [hu (186 + 4 * o + 0) (by omega), hu (250 + (30 * y + x)) (by omega)]
    exact e3
  · obtain ⟨t, ht, e1, e2, e3, e4, e5, e6⟩ := ap p hpp
    refine ⟨t, ht, (hq 9 (by omega) p).1.trans e1, by rw [hu _ (by omega)]; exact e2, by rw [hu _ (by omega), (hq 8 (by omega) p).1]; exact e3, (hq 10 (by omega) (5 * p)).2.trans e4, by rw [hu _ (by omega), (hq 11 (by omega) (5 * p)).1]; exact e5, fun j hj => ?_⟩
    rw [hu _ (by omega), hu _ (by omega), (hq 10 (by omega) _).2, (hq 11 (by omega) _).1]
    exact e6 j hj
theorem l_m1 {t : Nat} (h : t < 2 ^ 31) : (nI t).toInt64 * 1 = lN t := by rw [nI_l h, show (1 : Int64) = lN 1 from rfl, lN_mul, Nat.mul_one]
theorem l_m2 {t : Nat} (h : t < 2 ^ 31) : (nI t).toInt64 * 100 = lN (t * 100) := by rw [nI_l h, show (100 : Int64) = lN 100 from rfl, lN_mul]
theorem DV_f5 (c : DV S ad d u np nf no) {t : Nat} (ht : t ≤ 5000) : DV (uI S (ad (d + 1)) 5 (nI t)) ad d (udt u 4 ((nI t).toInt64 * 1)) np nf no := by
  obtain ⟨w4, w5, w6, w7, w8, w9⟩ := c.w.1
  obtain ⟨a1, a4, a5, a6, a7, a8, a9, a10, ap⟩ := c.T
  have ud : ∀ i, i ≠ 4 → udt u 4 ((nI t).toInt64 * 1) i = u i := fun i h => udt_n h
  have gi : ∀ i, gI (uI S (ad (d + 1)) 5 (nI t)) (ad (d + 1)) i = if i = 5 then nI t else gI S (ad (d + 1)) i := fun i => by rw [gI_uI]; by_cases h : i = 5 <;> simp [h]
  have gj : ∀ i, gJ (uI S (ad (d + 1)) 5 (nI t)) (ad (d + 1)) i = gJ S (ad (d + 1)) i := fun i => rfl
  exact DV_T c (KCx_uI c.t rfl) (by rw [gi, if_neg (by decide)]) (fun i hi => udt_n (by omega)) ⟨⟨t, ht, by rw [udt_e, l_m1 (by omega)]⟩, by rw [ud 5 (by decide)]; exact w5, by rw [ud 6 (by decide)]; exact w6, by rw [ud 7 (by decide)]; exact w7, by rw [ud 8 (by decide)]; exact w8, by rw [ud 9 (by decide)]; exact w9⟩ ⟨by rw [udt_e, gi, if_pos rfl, l_m1 (by omega), nI_l (by omega)], by rw [ud 5 (by decide), gj]; exact a5, by rw [ud 6 (by decide), gi, if_neg (by decide)]; exact a6, by rw [ud 7 (by decide), gi, if_neg (by decide)]; exact a7, by rw [ud 8 (by decide), gj]; exact a8, by rw [ud 9 (by decide), gi, if_neg (by decide)]; exact a9, by rw [ud 10 (by decide), gi, if_neg (by decide)]; exact a10⟩
theorem DV_f6 (c : DV S ad d u np nf no) {t : Nat} (ht : t ≤ 9999) : DV (uJ S (ad (d + 1)) 6 ((nI t).toInt64 * 100)) ad d (udt u 5 ((nI t).toInt64 * 100)) np nf no := by
  obtain ⟨w4, w5, w6, w7, w8, w9⟩ := c.w.1
  obtain ⟨a1, a4, a5, a6, a7, a8, a9, a10, ap⟩ := c.T
  have ud : ∀ i, i ≠ 5 → udt u 5 ((nI t).toInt64 * 100) i = u i := fun i h => udt_n h
  have gi : ∀ i, gI (uJ S (ad (d + 1)) 6 ((nI t).toInt64 * 100)) (ad (d + 1)) i = gI S (ad (d + 1)) i := fun i => rfl
  have gj : ∀ i, gJ (uJ S (ad (d + 1)) 6 ((nI t).toInt64 * 100)) (ad (d + 1)) i = if i = 6 then ((nI t).toInt64 * 100) else gJ S (ad (d + 1)) i := fun i => by rw [gJ_uJ]; by_cases h : i = 6 <;> simp [h]
  exact DV_T c (KCx_uJ c.t rfl) (rfl) (fun i hi => udt_n (by omega)) ⟨by rw [ud 4 (by decide)]; exact w4, ⟨t * 100, by omega, by rw [udt_e, l_m2 (by omega)]⟩, by rw [ud 6 (by decide)]; exact w6, by rw [ud 7 (by decide)]; exact w7, by rw [ud 8 (by decide)]; exact w8, by rw [ud 9 (by decide)]; exact w9⟩ ⟨by rw [ud 4 (by decide), gi]; exact a4, by rw [udt_e, gj, if_pos rfl], by rw [ud 6 (by decide), gi]; exact a6, by rw [ud 7 (by decide), gi]; exact a7, by rw [ud 8 (by decide), gj, if_neg (by decide)]; exact a8, by rw [ud 9 (by decide), gi]; exact a9, by rw [ud 10 (by decide), gi]; exact a10⟩
theorem DV_f7 (c : DV S ad d u np nf no) {t : Nat} (ht : t ≤ 500) : DV (uI S (ad (d + 1)) 7 (nI t)) ad d (udt u 6 ((nI t).toInt64 * 1)) np nf no := by
  obtain ⟨w4, w5, w6, w7, w8, w9⟩ := c.w.1
  obtain ⟨a1, a4, a5, a6, a7, a8, a9, a10, ap⟩ := c.T
  have ud : ∀ i, i ≠ 6 → udt u 6 ((nI t).toInt64 * 1) i = u i := fun i h => udt_n h
  have gi : ∀ i, gI (uI S (ad (d + 1)) 7 (nI t)) (ad (d + 1)) i = if i = 7 then nI t else gI S (ad (d + 1)) i := fun i => by rw [gI_uI]; by_cases h : i = 7 <;> simp [h]
  have gj : ∀ i, gJ (uI S (ad (d + 1)) 7 (nI t)) (ad (d + 1)) i = gJ S (ad (d + 1)) i := fun i => rfl
  exact DV_T c (KCx_uI c.t rfl) (by rw [gi, if_neg (by decide)]) (fun i hi => udt_n (by omega)) ⟨by rw [ud 4 (by decide)]; exact w4, by rw [ud 5 (by decide)]; exact w5, ⟨t, ht, by rw [udt_e, l_m1 (by omega)]⟩, by rw [ud 7 (by decide)]; exact w7, by rw [ud 8 (by decide)]; exact w8, by rw [ud 9 (by decide)]; exact w9⟩ ⟨by rw [ud 4 (by decide), gi, if_neg (by decide)]; exact a4, by rw [ud 5 (by decide), gj]; exact a5, by rw [udt_e, gi, if_pos rfl, l_m1 (by omega), nI_l (by omega)], by rw [ud 7 (by decide), gi, if_neg (by decide)]; exact a7, by rw [ud 8 (by decide), gj]; exact a8, by rw [ud 9 (by decide), gi, if_neg (by decide)]; exact a9, by rw [ud 10 (by decide), gi, if_neg (by decide)]; exact a10⟩
theorem DV_f8 (c : DV S ad d u np nf no) {t : Nat} (ht : t ≤ 2000) : DV (uI S (ad (d + 1)) 8 (nI t)) ad d (udt u 7 ((nI t).toInt64 * 1)) np nf no := by
  obtain ⟨w4, w5, w6, w7, w8, w9⟩ := c.w.1
  obtain ⟨a1, a4, a5, a6, a7, a8, a9, a10, ap⟩ := c.T
  have ud : ∀ i, i ≠ 7 → udt u 7 ((nI t).toInt64 * 1) i = u i := fun i h => udt_n h
  have gi : ∀ i, gI (uI S (ad (d + 1)) 8 (nI t)) (ad (d + 1)) i = if i = 8 then nI t else gI S (ad (d + 1)) i := fun i => by rw [gI_uI]; by_cases h : i = 8 <;> simp [h]
  have gj : ∀ i, gJ (uI S (ad (d + 1)) 8 (nI t)) (ad (d + 1)) i = gJ S (ad (d + 1)) i := fun i => rfl
  exact DV_T c (KCx_uI c.t rfl) (by rw [gi, if_neg (by decide)]) (fun i hi => udt_n (by omega)) ⟨by rw [ud 4 (by decide)]; exact w4, by rw [ud 5 (by decide)]; exact w5, by rw [ud 6 (by decide)]; exact w6, ⟨t, ht, by rw [udt_e, l_m1 (by omega)]⟩, by rw [ud 8 (by decide)]; exact w8, by rw [ud 9 (by decide)]; exact w9⟩ ⟨by rw [ud 4 (by decide), gi, if_neg (by decide)]; exact a4, by rw [ud 5 (by decide), gj]; exact a5, by rw [ud 6 (by decide), gi, if_neg (by decide)]; exact a6, by rw [udt_e, gi, if_pos rfl, l_m1 (by omega), nI_l (by omega)], by rw [ud 8 (by decide), gj]; exact a8, by rw [ud 9 (by decide), gi, if_neg (by decide)]; exact a9, by rw [ud 10 (by decide), gi, if_neg (by decide)]; exact a10⟩
theorem DV_f9 (c : DV S ad d u np nf no) {t : Nat} (ht : t ≤ 9999) : DV (uJ S (ad (d + 1)) 9 ((nI t).toInt64 * 100)) ad d (udt u 8 ((nI t).toInt64 * 100)) np nf no := by
  obtain ⟨w4, w5, w6, w7, w8, w9⟩ := c.w.1
  obtain ⟨a1, a4, a5, a6, a7, a8, a9, a10, ap⟩ := c.T
  have ud : ∀ i, i ≠ 8 → udt u 8 ((nI t).toInt64 * 100) i = u i := fun i h => udt_n h
  have gi : ∀ i, gI (uJ S (ad (d + 1)) 9 ((nI t).toInt64 * 100)) (ad (d + 1)) i = gI S (ad (d + 1)) i := fun i => rfl
  have gj : ∀ i, gJ (uJ S (ad (d + 1)) 9 ((nI t).toInt64 * 100)) (ad (d + 1)) i = if i = 9 then ((nI t).toInt64 * 100) else gJ S (ad (d + 1)) i := fun i => by rw [gJ_uJ]; by_cases h : i = 9 <;> simp [h]
  exact DV_T c (KCx_uJ c.t rfl) (rfl) (fun i hi => udt_n (by omega)) ⟨by rw [ud 4 (by decide)]; exact w4, by rw [ud 5 (by decide)]; exact w5, by rw [ud 6 (by decide)]; exact w6, by rw [ud 7 (by decide)]; exact w7, ⟨t * 100, by omega, by rw [udt_e, l_m2 (by omega)]⟩, by rw [ud 9 (by decide)]; exact w9⟩ ⟨by rw [ud 4 (by decide), gi]; exact a4, by rw [ud 5 (by decide), gj, if_neg (by decide)]; exact a5, by rw [ud 6 (by decide), gi]; exact a6, by rw [ud 7 (by decide), gi]; exact a7, by rw [udt_e, gj, if_pos rfl], by rw [ud 9 (by decide), gi]; exact a9, by rw [ud 10 (by decide), gi]; exact a10⟩
theorem DV_f10 (c : DV S ad d u np nf no) {t : Nat} (ht : t ≤ 12) : DV (uI S (ad (d + 1)) 10 (nI t)) ad d (udt u 9 ((nI t).toInt64 * 1)) np nf no := by
  obtain ⟨w4, w5, w6, w7, w8, w9⟩ := c.w.1
  obtain ⟨a1, a4, a5, a6, a7, a8, a9, a10, ap⟩ := c.T
  have ud : ∀ i, i ≠ 9 → udt u 9 ((nI t).toInt64 * 1) i = u i := fun i h => udt_n h
  have gi : ∀ i, gI (uI S (ad (d + 1)) 10 (nI t)) (ad (d + 1)) i = if i = 10 then nI t else gI S (ad (d + 1)) i := fun i => by rw [gI_uI]; by_cases h : i = 10 <;> simp [h]
  have gj : ∀ i, gJ (uI S (ad (d + 1)) 10 (nI t)) (ad (d + 1)) i = gJ S (ad (d + 1)) i := fun i => rfl
  exact DV_T c (KCx_uI c.t rfl) (by rw [gi, if_neg (by decide)]) (fun i hi => udt_n (by omega)) ⟨by rw [ud 4 (by decide)]; exact w4, by rw [ud 5 (by decide)]; exact w5, by rw [ud 6 (by decide)]; exact w6, by rw [ud 7 (by decide)]; exact w7, by rw [ud 8 (by decide)]; exact w8, ⟨t, ht, by rw [udt_e, l_m1 (by omega)]⟩⟩ ⟨by rw [ud 4 (by decide), gi, if_neg (by decide)]; exact a4, by rw [ud 5 (by decide), gj]; exact a5, by rw [ud 6 (by decide), gi, if_neg (by decide)]; exact a6, by rw [ud 7 (by decide), gi, if_neg (by decide)]; exact a7, by rw [ud 8 (by decide), gj]; exact a8, by rw [udt_e, gi, if_pos rfl, l_m1 (by omega), nI_l (by omega)], by rw [ud 10 (by decide), gi, if_neg (by decide)]; exact a10⟩
theorem DV_f11 (c : DV S ad d u np nf no) {t : Nat} (ht : t ≤ 999) : DV (uI S (ad (d + 1)) 11 (nI t)) ad d (udt u 10 ((nI t).toInt64 * 1)) np nf no := by
  obtain ⟨w4, w5, w6, w7, w8, w9⟩ := c.w.1
  obtain ⟨a1, a4, a5, a6, a7, a8, a9, a10, ap⟩ := c.T
  have ud : ∀ i, i ≠ 10 → udt u 10 ((nI t).toInt64 * 1) i = u i := fun i h => udt_n h
  have gi : ∀ i, gI (uI S (ad (d + 1)) 11 (nI t)) (ad (d + 1)) i = if i = 11 then nI t else gI S (ad (d + 1)) i := fun i => by rw [gI_uI]; by_cases h : i = 11 <;> simp [h]
  have gj : ∀ i, gJ (uI S (ad (d + 1)) 11 (nI t)) (ad (d + 1)) i = gJ S (ad (d + 1)) i := fun i => rfl
  exact DV_T c (KCx_uI c.t rfl) (by rw [gi, if_neg (by decide)]) (fun i hi => udt_n (by omega)) ⟨by rw [ud 4 (by decide)]; exact w4, by rw [ud 5 (by decide)]; exact w5, by rw [ud 6 (by decide)]; exact w6, by rw [ud 7 (by decide)]; exact w7, by rw [ud 8 (by decide)]; exact w8, by rw [ud 9 (by decide)]; exact w9⟩ ⟨by rw [ud 4 (by decide), gi, if_neg (by decide)]; exact a4, by rw [ud 5 (by decide), gj]; exact a5, by rw [ud 6 (by decide), gi, if_neg (by decide)]; exact a6, by rw [ud 7 (by decide), gi, if_neg (by decide)]; exact a7, by rw [ud 8 (by decide), gj]; exact a8, by rw [ud 9 (by decide), gi, if_neg (by decide)]; exact a9, by rw [udt_e, gi, if_pos rfl, l_m1 (by omega), nI_l (by omega)]⟩
/-- a statement with one number -/
theorem ST_one {B : Nat → Int32} {n e k m : Nat} {hi p1 : Int32} {mul : Int64} {W : Int32 → St → St} (h : LGt S ad B n e none) (c : DV S ad d u np nf no) (hk1 : tkK B n e = 1) (hk : k < 5054) (hp1 : 15162 + p1 = nI (15162 + k)) (hm : m < 2 ^ 31) (hhi : hi = nI m) (hC : ∀ w Z, f_X9_readNumber S (ad 12) 0 hi = some (w, Z) → f_X7_readStatement S (ad 12) (ad d) = (cl (f_X9_endStatement (W w Z) (ad 12)) fun S5 => some S5)) (hM : ∀ X, RS X ad B n e → f_X12_readStatement X (ad 1) = (cl (f_X12_readSetting X (ad 1) p1 hi mul) fun (o : Int32 × St) => zc o.1 (some (o.1, o.2)))) (hW : ∀ (Z : St) t, TR Z ad → KCx Z (W (nI t) Z) ad (fun p => p = d + 1)) (hD : ∀ (Z : St) t, t ≤ m → DV Z ad d u np nf no → DV (W (nI t) Z) ad d (udt u k ((nI t).toInt64 * mul)) np nf no) : ST2 S ad d v u B n e (f_X7_readStatement S (ad 12) (ad d)) (fun X => f_X12_readStatement X (ad 1)) := by
  have he := h.2.2.2.2.2.1
  have y0 := tkR_le (B := B) he
  have y1 := tkR_le (B := B) y0.2
  have p1' := tkR_lt he hk1
  have hd := c.hd
  obtain ⟨S1, a1, b1, c1⟩ := L_num h.ls (a := 0) (by omega) hi (i := 0) rfl
  rw [qor_0] at c1
  have t1 := c1.1.1
  have kw := hW S1 (vNum B n (tkR B n e) 0 hi) t1
  have vn := vNum_ok (B := B) (a := 0) y0.2 hm hhi (Nat.zero_le m)
  refine ST_end (S1 := W (nI (vNum B n (tkR B n e) 0 hi)) S1) (e1 := tkR B n (tkR B n e)) (q := eNum B n (tkR B n e) 0 hi) (u' := udt u k ((nI (vNum B n (tkR B n e) 0 hi)).toInt64 * mul)) (np' := np) (nf' := nf) (no' := no) (by omega) ((b1.mono (fun _ z => Or.inl z)).tr (kw.mono (fun p (z : p = d + 1) => Or.inr (by omega)))) (LGs_c kw (by omega) (by omega) c1.ls) (hC _ _ a1) (fun _ => hD S1 _ vn.2 (DV_12 b1 c)) (fun X r hv => ?_)
  show (_ ∧ ∃ X1, _ ∧ ∀ r X2, _ → _ → f_X12_readStatement X (ad 1) = some (r, X2)) ∨ (∃ c p, _ ∧ ∃ X', f_X12_readStatement X (ad 1) = some (0, X') ∧ _)
  rw [hM X r]
  obtain ⟨X1, m1, r1, x1, -⟩ := R_ad r (by omega)
  have rd1 := RD_mk r1 x1 hv
  rcases R_into r1 rd1.2.2 hp1 hk (a := 0) (by omega) hi (ia := 0) rfl (mul := mul) with ⟨z1, X2, m2, r2⟩ | ⟨cc, z1, -, X2, m2, f2⟩
  · refine Or.inl ⟨z1, X2, rd1.tr r2, fun r9 X9 m9 h9 => ?_⟩
    simp only [f_X12_readSetting, m1, cl_n, m2, i10, if_false, jn_n, m9]
    rcases h9 with rfl | rfl
    · simp only [if_true, cl_n, zc_0]
    · simp only [i10, if_false, cl_n, zc_1]
  · refine Or.inr ⟨cc, _, z1, X2, ?_, rd1.fd f2⟩
    simp only [f_X12_readSetting, m1, cl_n, m2, if_true, jn_n, zc_0]
theorem ST_5 {B : Nat → Int32} {n e : Nat} (h : LGt S ad B n e none) (c : DV S ad d u np nf no) (hk1 : tkK B n e = 1) (hs : stW B n e = 5) (hw : isW B n e 5 = true) (hf : ∀ j, j < 5 → isW B n e j = false) : ST2 S ad d v u B n e (f_X7_readStatement S (ad 12) (ad d)) (fun X => f_X12_readStatement X (ad 1)) := by
  refine ST_one (k := 6) (m := 500) (hi := 500) (p1 := 6) (mul := 1) (W := fun w Z => uI Z (ad (d + 1)) 7 w) h c hk1 (by decide) rfl (by decide) rfl (fun w Z hz => ?_) (fun X r => ?_) (fun Z t tz => KCx_uI tz rfl) (fun Z t ht cz => DV_f7 cz ht)
  · simp only [f_X7_readStatement, f_X7_readTerm, L_isF h (i := 0) (by decide) (hf 0 (by decide)), L_isF h (i := 1) (by decide) (hf 1 (by decide)), L_isF h (i := 2) (by decide) (hf 2 (by decide)), L_isF h (i := 3) (by decide) (hf 3 (by decide)), L_isF h (i := 4) (by decide) (hf 4 (by decide)), L_isT h (i := 5) (by decide) hw, cl_n, jn_n, if_true, i10, if_false, lt_n, r_b0_0 c.t c.hb, hz]
  · simp only [f_X12_readStatement, R_stat r, hs, cl_n, dq50, dq51, dq52, dq53, dq54, if_false, if_true]
theorem ST_6 {B : Nat → Int32} {n e : Nat} (h : LGt S ad B n e none) (c : DV S ad d u np nf no) (hk1 : tkK B n e = 1) (hs : stW B n e = 6) (hw : isW B n e 6 = true) (hf : ∀ j, j < 6 → isW B n e j = false) : ST2 S ad d v u B n e (f_X7_readStatement S (ad 12) (ad d)) (fun X => f_X12_readStatement X (ad 1)) := by
  refine ST_one (k := 7) (m := 2000) (hi := 2000) (p1 := 7) (mul := 1) (W := fun w Z => uI Z (ad (d + 1)) 8 w) h c hk1 (by decide) rfl (by decide) rfl (fun w Z hz => ?_) (fun X r => ?_) (fun Z t tz => KCx_uI tz rfl) (fun Z t ht cz => DV_f8 cz ht)
  · simp only [f_X7_readStatement, f_X7_readTerm, L_isF h (i := 0) (by decide) (hf 0 (by decide)), L_isF h (i := 1) (by decide) (hf 1 (by decide)), L_isF h (i := 2) (by decide) (hf 2 (by decide)), L_isF h (i := 3) (by decide) (hf 3 (by decide)), L_isF h (i := 4) (by decide) (hf 4 (by decide)), L_isF h (i := 5) (by decide) (hf 5 (by decide)), L_isT h (i := 6) (by decide) hw, cl_n, jn_n, if_true, i10, if_false, lt_n, r_b0_0 c.t c.hb, hz]
  · simp only [f_X12_readStatement, R_stat r, hs, cl_n, dq60, dq61, dq62, dq63, dq64, dq65, if_false, if_true]
theorem ST_7 {B : Nat → Int32} {n e : Nat} (h : LGt S ad B n e none) (c : DV S ad d u np nf no) (hk1 : tkK B n e = 1) (hs : stW B n e = 7) (hw : isW B n e 7 = true) (hf : ∀ j, j < 7 → isW B n e j = false) : ST2 S ad d v u B n e (f_X7_readStatement S (ad 12) (ad d)) (fun X => f_X12_readStatement X (ad 1)) := by
  refine ST_one (k := 8) (m := 9999) (hi := 9999) (p1 := 8) (mul := 100) (W := fun w Z => uJ Z (ad (d + 1)) 9 (w.toInt64 * 100)) h c hk1 (by decide) rfl (by decide) rfl (fun w Z hz => ?_) (fun X r => ?_) (fun Z t tz => KCx_uJ tz rfl) (fun Z t ht cz => DV_f9 cz ht)
  · simp only [f_X7_readStatement, f_X7_readTerm, L_isF h (i := 0) (by decide) (hf 0 (by decide)), L_isF h (i := 1) (by decide) (hf 1 (by decide)), L_isF h (i := 2) (by decide) (hf 2 (by decide)), L_isF h (i := 3) (by decide) (hf 3 (by decide)), L_isF h (i := 4) (by decide) (hf 4 (by decide)), L_isF h (i := 5) (by decide) (hf 5 (by decide)), L_isF h (i := 6) (by decide) (hf 6 (by decide)), L_isT h (i := 7) (by decide) hw, cl_n, jn_n, if_true, i10, if_false, lt_n, r_b0_0 c.t c.hb, hz]
  · simp only [f_X12_readStatement, R_stat r, hs, cl_n, dq70, dq71, dq72, dq73, dq74, dq75, dq76, if_false, if_true]
theorem ST_8 {B : Nat → Int32} {n e : Nat} (h : LGt S ad B n e none) (c : DV S ad d u np nf no) (hk1 : tkK B n e = 1) (hs : stW B n e = 8) (hw : isW B n e 8 = true) (hf : ∀ j, j < 8 → isW B n e j = false) : ST2 S ad d v u B n e (f_X7_readStatement S (ad 12) (ad d)) (fun X => f_X12_readStatement X (ad 1)) := by
  refine ST_one (k := 9) (m := 12) (hi := 12) (p1 := 9) (mul := 1) (W := fun w Z => uI Z (ad (d + 1)) 10 w) h c hk1 (by decide) rfl (by decide) rfl (fun w Z hz => ?_) (fun X r => ?_) (fun Z t tz => KCx_uI tz rfl) (fun Z t ht cz => DV_f10 cz ht)
  · simp only [f_X7_readStatement, f_X7_readTerm, L_isF h (i := 0) (by decide) (hf 0 (by decide)), L_isF h (i := 1) (by decide) (hf 1 (by decide)), L_isF h (i := 2) (by decide) (hf 2 (by decide)), L_isF h (i := 3) (by decide) (hf 3 (by decide)), L_isF h (i := 4) (by decide) (hf 4 (by decide)), L_isF h (i := 5) (by decide) (hf 5 (by decide)), L_isF h (i := 6) (by decide) (hf 6 (by decide)), L_isF h (i := 7) (by decide) (hf 7 (by decide)), L_isT h (i := 8) (by decide) hw, cl_n, jn_n, if_true, i10, if_false, lt_n, r_b0_0 c.t c.hb, hz]
  · simp only [f_X12_readStatement, R_stat r, hs, cl_n, dq80, dq81, dq82, dq83, dq84, dq85, dq86, dq87, if_false, if_true]
theorem ST_9 {B : Nat → Int32} {n e : Nat} (h : LGt S ad B n e none) (c : DV S ad d u np nf no) (hk1 : tkK B n e = 1) (hs : stW B n e = 9) (hw : isW B n e 9 = true) (hf : ∀ j, j < 9 → isW B n e j = false) : ST2 S ad d v u B n e (f_X7_readStatement S (ad 12) (ad d)) (fun X => f_X12_readStatement X (ad 1)) := by
  refine ST_one (k := 10) (m := 999) (hi := 999) (p1 := 10) (mul := 1) (W := fun w Z => uI Z (ad (d + 1)) 11 w) h c hk1 (by decide) rfl (by decide) rfl (fun w Z hz => ?_) (fun X r => ?_) (fun Z t tz => KCx_uI tz rfl) (fun Z t ht cz => DV_f11 cz ht)
  · simp only [f_X7_readStatement, f_X7_readTerm, L_isF h (i := 0) (by decide) (hf 0 (by decide)), L_isF h (i := 1) (by decide) (hf 1 (by decide)), L_isF h (i := 2) (by decide) (hf 2 (by decide)), L_isF h (i := 3) (by decide) (hf 3 (by decide)), L_isF h (i := 4) (by decide) (hf 4 (by decide)), L_isF h (i := 5) (by decide) (hf 5 (by decide)), L_isF h (i := 6) (by decide) (hf 6 (by decide)), L_isF h (i := 7) (by decide) (hf 7 (by decide)), L_isF h (i := 8) (by decide) (hf 8 (by decide)), L_isT h (i := 9) (by decide) hw, cl_n, jn_n, if_true, i10, if_false, lt_n, r_b0_0 c.t c.hb, hz]
  · simp only [f_X12_readStatement, R_stat r, hs, cl_n, dq90, dq91, dq92, dq93, dq94, dq95, dq96, dq97, dq98, if_false, if_true]
theorem ST_4 {B : Nat → Int32} {n e : Nat} (h : LGt S ad B n e none) (c : DV S ad d u np nf no) (hk1 : tkK B n e = 1) (hs : stW B n e = 4) (hw : isW B n e 4 = true) (hf : ∀ j, j < 4 → isW B n e j = false) : ST2 S ad d v u B n e (f_X7_readStatement S (ad 12) (ad d)) (fun X => f_X12_readStatement X (ad 1)) := by
  have he := h.2.2.2.2.2.1
  have y0 := tkR_le (B := B) he
  have y1 := tkR_le (B := B) y0.2
  have y2 := tkR_le (B := B) y1.2
  have p1' := tkR_lt he hk1
  have hd := c.hd
  obtain ⟨S1, a1, b1, c1⟩ := L_num h.ls (a := 0) (by omega) 5000 (i := 0) rfl
  rw [qor_0] at c1
  have k2 : KCx S1 (uI S1 (ad (d + 1)) 5 (nI (vNum B n (tkR B n e) 0 5000))) ad (fun p => p = d + 1) := KCx_uI c1.1.1 rfl
  have l2 := LGs_c k2 (by omega) (by omega) c1.ls
  have vn1 := vNum_ok (B := B) (a := 0) y0.2 (show 5000 < 2 ^ 31 by decide) (hi := 5000) rfl (by omega)
  have c2 := DV_f5 (DV_12 b1 c) vn1.2
  obtain ⟨S2, e2⟩ : ∃ Z, Z = uI S1 (ad (d + 1)) 5 (nI (vNum B n (tkR B n e) 0 5000)) := ⟨_, rfl⟩
  rw [← e2] at k2 l2 c2
  obtain ⟨S3, a3, b3, c3⟩ := L_num l2 (a := 0) (by omega) 9999 (i := 0) rfl
  have k4 : KCx S3 (uJ S3 (ad (d + 1)) 6 ((nI (vNum B n (tkR B n (tkR B n e)) 0 9999)).toInt64 * 100)) ad (fun p => p = d + 1) := KCx_uJ c3.1.1 rfl
  have vn2 := vNum_ok (B := B) (a := 0) y1.2 (show 9999 < 2 ^ 31 by decide) (hi := 9999) rfl (by omega)
  have kk := ((b1.mono (fun _ z => Or.inl z)).tr (k2.mono (fun p (z : p = d + 1) => Or.inr (by omega)))).tr ((b3.mono (fun _ z => Or.inl z)).tr (k4.mono (Q := PD d) (fun p (z : p = d + 1) => Or.inr (by omega))))
  refine ST_end (e1 := tkR B n (tkR B n (tkR B n e))) (np' := np) (nf' := nf) (no' := no) (by omega) kk (LGs_c k4 (by omega) (by omega) c3.ls) ?_ (fun _ => DV_f6 (DV_12 b3 c2) vn2.2) (fun X r hv => ?_)
  · simp only [f_X7_readStatement, f_X7_readTerm, L_isF h (i := 0) (by decide) (hf 0 (by decide)), L_isF h (i := 1) (by decide) (hf 1 (by decide)), L_isF h (i := 2) (by decide) (hf 2 (by decide)), L_isF h (i := 3) (by decide) (hf 3 (by decide)), L_isT h (i := 4) (by decide) hw, cl_n, jn_n, if_true, i10, if_false, lt_n, r_b0_0 c.t c.hb, a1, ← e2, a3]
  show (_ ∧ ∃ X1, _ ∧ ∀ r X2, _ → _ → f_X12_readStatement X (ad 1) = some (r, X2)) ∨ (∃ c p, _ ∧ ∃ X', f_X12_readStatement X (ad 1) = some (0, X') ∧ _)
  obtain ⟨X1, m1, r1, x1, -⟩ := R_ad r (by omega)
  have rd1 := RD_mk r1 x1 hv
  have hst : f_X12_readStatement X (ad 1) = (cl (f_X12_readInto X1 (ad 1) 15166 0 5000 1) fun (o7 : Int32 × St) => jn (κ := St → Option (Int32 × St)) (fun S8 => some (0, S8)) fun k9 => if o7.1 = 0 then (k9 o7.2) else (cl (f_X12_readInto o7.2 (ad 1) 15167 0 9999 100) fun (o11 : Int32 × St) => if o11.1 = 0 then (k9 o11.2) else (cl (f_X12_readEnd o11.2 (ad 1)) fun (o12 : Int32 × St) => if o12.1 = 0 then (k9 o12.2) else (some (1, o12.2))))) := by
    simp only [f_X12_readStatement, R_stat r, hs, cl_n, dq40, dq41, dq42, dq43, if_false, if_true, m1]
  rw [hst]
  rcases R_into r1 rd1.2.2 (i := 15166) (k := 4) rfl (by decide) (a := 0) (by omega) 5000 (ia := 0) rfl (mul := 1) with ⟨z1, X2, m2, r2⟩ | ⟨cc, z1, -, X2, m2, f2⟩
  · rcases R_into r2.1 r2.2.2 (i := 15167) (k := 5) rfl (by decide) (a := 0) (by omega) 9999 (ia := 0) rfl (mul := 100) with ⟨z3, X3, m3, r3⟩ | ⟨cc, z3, -, X3, m3, f3⟩
    · refine Or.inl ⟨by rw [z1, z3]; rfl, X3, (rd1.tr r2).tr r3, fun r9 X9 m9 h9 => ?_⟩
      simp only [cl_n, m2, i10, if_false, jn_n, m3, m9]
      rcases h9 with rfl | rfl
      · simp only [if_true]
      · simp only [i10, if_false]
    · refine Or.inr ⟨cc, tkS B n (tkR B n (tkR B n e)), by rw [z1, z3]; rfl, X3, ?_, (rd1.tr r2).fd f3⟩
      simp only [cl_n, m2, i10, if_false, jn_n, m3, if_true]
  · refine Or.inr ⟨cc, tkS B n (tkR B n e), by rw [z1]; rfl, X2, ?_, rd1.fd f2⟩
    simp only [cl_n, m2, if_true, jn_n]
theorem ST_bad {B : Nat → Int32} {n e : Nat} (h : LGt S ad B n e none) (c : DV S ad d u np nf no) (hs : stW B n e = -1) (hf : ∀ j, j < 10 → isW B n e j = false) : ST2 S ad d v u B n e (f_X7_readStatement S (ad 12) (ad d)) (fun X => f_X12_readStatement X (ad 1)) := by
  obtain ⟨S1, a1, b1, c1⟩ := L_fail h (k := 1) (by omega) (i := 1) rfl
  obtain ⟨S2, a2, b2, c2⟩ := L_end c1.ls
  refine ⟨S2, ?_, (b1.tr b2).mono (fun _ z => Or.inl z), Or.inr ⟨1, tkS B n e, _, c2.ls, fun X r hv => ?_⟩⟩
  · simp only [f_X7_readStatement, f_X7_readTerm, L_isF h (i := 0) (by decide) (hf 0 (by decide)), L_isF h (i := 1) (by decide) (hf 1 (by decide)), L_isF h (i := 2) (by decide) (hf 2 (by decide)), L_isF h (i := 3) (by decide) (hf 3 (by decide)), L_isF h (i := 4) (by decide) (hf 4 (by decide)), L_isF h (i := 5) (by decide) (hf 5 (by decide)), L_isF h (i := 6) (by decide) (hf 6 (by decide)), L_isF h (i := 7) (by decide) (hf 7 (by decide)), L_isF h (i := 8) (by decide) (hf 8 (by decide)), L_isF h (i := 9) (by decide) (hf 9 (by decide)), cl_n, jn_n, if_true, lt_n, r_b0_0 c.t c.hb, a1, a2]
  · obtain ⟨X', g1, g2⟩ := R_fail r (k := 1) (i := 1) rfl
    refine ⟨X', ?_, RFl.dd g2 hv⟩
    simp only [f_X12_readStatement, R_stat r, hs, cl_n, dm0, dm1, dm2, dm3, dm4, dm5, dm6, dm7, dm8, dm9, if_false, g1, zc_0]
