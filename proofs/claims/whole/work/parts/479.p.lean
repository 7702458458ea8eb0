/-! the pure part: loadJournal -/
variable {S S0 S1 S2 S' S'' S3 X Y : St} {ad : Nat → Nat} {b d j k : Nat} {v v0 v' v1 v2 u w : Nat → Int64} {np nf no mo no' mo' x y : Nat}
def rfB (p0 p1 p2 : Nat) (k5 : Int32 → St → Option St) (x3 : Int32) (S4 : St) : Option St := if 1500 < x3 then (some S4) else (cl (f_X9_failed S4 p1) fun (v7 : Int32) => if v7 = 0 then (cl (f_X9_advance S4 p1) fun (S8 : St) => lt (gI S8 p1 2) fun (v9 : Int32) => if v9 = 0 then (some S8) else (cl (f_X5_readEntry S8 p0 p1 p2) fun (S10 : St) => k5 (x3 + 1) S10)) else (some S4))
theorem rfE (S : St) (p0 p1 p2 : Nat) : f_X5_readFrom S p0 p1 p2 = (cl (f_X5_clear S p0) fun (S1 : St) => cl (f_X9_begin S1 p1) fun (S2 : St) => lp (κ := Int32 → St → Option (St)) (fun _ _ => none) (rfB p0 p1 p2) FU 0 S2) := by
  unfold f_X5_readFrom; rfl
def ljU (p0 : Nat) (S9 : St) : Option (Int32 × St) := lt (gI S9 p0 21) fun (v12 : Int32) => lt (uI S9 p0 19 v12) fun (S13 : St) => lt (uI S13 p0 20 0) fun (S14 : St) => lt (gI S14 p0 21) fun (v15 : Int32) => some (v15, S14)
def ljD (p0 : Nat) (k18 : Int32 → St → Option (Int32 × St)) (x16 : Int32) (S17 : St) : Option (Int32 × St) := lt (gI S17 p0 21) fun (v20 : Int32) => if (5 * v20) ≤ x16 then (ljU p0 S17) else (lt (gR S17 p0 17) fun (a21 : Nat) => lt (gR S17 p0 18) fun (a23 : Nat) => ldI S17 a23 x16 fun (v25 : Int32) => stI S17 a21 x16 v25 fun (S26 : St) => k18 (x16 + 1) S26)
def ljT (p0 : Nat) (x4 : Int32) (S5 : St) : Option (Int32 × St) := lt (uI S5 p0 9 0) fun (S8 : St) => if x4 = 0 then (some ((-4), S8)) else (jn (κ := St → Option (Int32 × St)) (ljU p0) fun k10 => lp (κ := Int32 → St → Option (Int32 × St)) (fun _ _ => none) (fun k18 x16 S17 => lt (gI S17 p0 21) fun (v20 : Int32) => if (5 * v20) ≤ x16 then (k10 S17) else (lt (gR S17 p0 17) fun (a21 : Nat) => lt (gR S17 p0 18) fun (a23 : Nat) => ldI S17 a23 x16 fun (v25 : Int32) => stI S17 a21 x16 v25 fun (S26 : St) => k18 (x16 + 1) S26)) FU 0 S8)
def ljB (p0 : Nat) (k29 : Int32 → St → Option (Int32 × St)) (x27 : Int32) (S28 : St) : Option (Int32 × St) := if x27 = 0 then (ljT p0 x27 S28) else (lt (gI S28 p0 13) fun (v31 : Int32) => if v31 = 0 then (ljT p0 x27 S28) else (cl (f_X12_readEntry S28 p0) fun (o32 : Int32 × St) => k29 o32.1 o32.2))
theorem ljE (S : St) (p0 : Nat) : f_X12_loadJournal S p0 = (lt (uI S p0 2 0) fun (S1 : St) => lt (uI S1 p0 21 0) fun (S2 : St) => cl (f_X12_beginText S2 p0) fun (S3 : St) => jn (κ := Int32 → St → Option (Int32 × St)) (ljT p0) fun k6 => lp (κ := Int32 → St → Option (Int32 × St)) (fun _ _ => none) (fun k29 x27 S28 => if x27 = 0 then (k6 x27 S28) else (lt (gI S28 p0 13) fun (v31 : Int32) => if v31 = 0 then (k6 x27 S28) else (cl (f_X12_readEntry S28 p0) fun (o32 : Int32 × St) => k29 o32.1 o32.2))) FU 1 S3) := by
  unfold f_X12_loadJournal; rfl
theorem ljE2 (S : St) (p0 : Nat) (S3 : St) (h : f_X12_beginText (uI (uI S p0 2 0) p0 21 0) p0 = some S3) : f_X12_loadJournal S p0 = lp (κ := Int32 → St → Option (Int32 × St)) (fun _ _ => none) (ljB p0) FU 1 S3 := by
  rw [ljE, lt_n, lt_n, h, cl_n]
  exact jn_n _ _
theorem ljT_1 (p0 : Nat) (S5 : St) : ljT p0 1 S5 = lp (κ := Int32 → St → Option (Int32 × St)) (fun _ _ => none) (ljD p0) FU 0 (uI S5 p0 9 0) := by
  unfold ljT
  rw [lt_n, if_neg (by decide)]
  exact jn_n _ _
theorem ljT_0 (p0 : Nat) (S5 : St) : ljT p0 0 S5 = some (-4, uI S5 p0 9 0) := by
  unfold ljT
  rw [lt_n, if_pos rfl]
theorem AXN_PK (h : KCx S S' ad (PK k)) (hk : JB k) (hb : BB b) (a : AXN S ad b v nf) : AXN S' ad b v nf := AXN_c (fun q hq => h.2 _ (by unfold PK JB BB at *; omega)) a
theorem tkK_nz {B : Nat → Int32} {n e : Nat} (he : e ≤ n) (h : tkK B n e ≠ 0) : e < n := by
  have h1 := tkS_f (B := B) he
  have : tk0 B n e ≠ 0 := fun z => h (by
    unfold tkK
    rw [if_neg (by omega), z])
  have := kc_in this
  omega
theorem JL {B : Nat → Int32} {n : Nat} (hk : JB k) (hb : BB b) (h8 : nf ≤ 8) (h2 : v 2 = lN nf) : ∀ (m e s F c : Nat) (S : St), n - e < m → m ≤ F → LGs S ad B n e none → c ≤ e → gI S (ad k) 7 = nI s → s ≤ 40 → AXN S ad b v nf → ∃ S', lp (κ := Int32 → St → Option (St)) (fun _ _ => none) (rfB (ad k) (ad 12) (ad (b + 4))) F (nI c) S = some S' ∧ KCx S S' ad (PK k) ∧ gI S' (ad k) 8 = gI S (ad k) 8 ∧ ((∃ s', s ≤ s' ∧ s' ≤ 40 ∧ gI S' (ad 12) 5 = 0 ∧ gI S' (ad 12) 6 = -1 ∧ gI S' (ad k) 7 = nI s' ∧ (∀ q l, 1 ≤ q → q ≤ 7 → l < s → gI S' (ad (k + q)) l = gI S (ad (k + q)) l ∧ gJ S' (ad (k + q)) l = gJ S (ad (k + q)) l) ∧ ∀ X G, m ≤ G → RS X ad B n e → gI X (ad 1) 21 = nI s → gJ X (ad 3) = v → ∃ X', lp (κ := Int32 → St → Option (Int32 × St)) (fun _ _ => none) (ljB (ad 1)) G 1 X = ljT (ad 1) 1 X' ∧ RX X X' ad P11 Qe ∧ gI X' (ad 1) 21 = nI s' ∧ (∀ l, l < 5 * s → gI X' (ad 11) l = gI X (ad 11) l) ∧ ∀ i, s ≤ i → i < s' → ENR S' X' ad k nf i) ∨ (∃ c p, gI S' (ad 12) 5 = nI c ∧ gI S' (ad 12) 6 = nI p ∧ (1 ≤ c ∧ c ≤ 5) ∧ ∀ X G, m ≤ G → RS X ad B n e → gI X (ad 1) 21 = nI s → gJ X (ad 3) = v → ∃ X', lp (κ := Int32 → St → Option (Int32 × St)) (fun _ _ => none) (ljB (ad 1)) G 1 X = ljT (ad 1) 0 X' ∧ RFl X X' ad P11 Qef c p)) := by
  have hk' : k = 22 ∨ k = 30 := hk
  have hb' : b = 40 ∨ b = 80 ∨ b = 120 ∨ b = 160 := hb
  intro m
  induction m with
  | zero => intro e s F c S h; omega
  | succ m ih =>
    intro e s F c S hm hF hL hc g7 hs ax
    obtain ⟨F, rfl⟩ : ∃ F', F = F' + 1 := ⟨F - 1, by omega⟩
    have he : e ≤ n := hL.2.2.2.1
    have hn := hL.1.2.1
    have n15 : ¬ (1500 : Int32) < nI c := by rw [show (1500 : Int32) = nI 1500 from rfl, nI_ltI (by omega) (by omega)]; omega
    have hf0 : f_X9_failed S (ad 12) = some 0 := LGs_failed hL
    obtain ⟨A, a1, b1, c1⟩ := L_ad hL
    have k0 : (gI A (ad 12) 2 = 0) = (tkK B n e = 0) := L_2 c1 (c := 0) (by omega)
    have g7A : gI A (ad k) 7 = nI s := KC7 b1 hk g7
    have axA : AXN A ad b v nf := AXN_c (fun q hq => b1.2 _ (by unfold P12; omega)) ax
    have b1' : KCx S A ad (PK k) := b1.mono (fun _ z => Or.inl z)
    have g8A : gI A (ad k) 8 = gI S (ad k) 8 := (b1.2 k (by unfold P12; omega) 8).1
    rw [lp_s]
    by_cases hk0 : tkK B n e = 0
    · refine ⟨A, ?_, b1', g8A, Or.inl ⟨s, Nat.le_refl _, hs, c1.2.2.2.2.2.2.1.1, c1.2.2.2.2.2.2.1.2, g7A, fun q l h1 h7 _ => b1.2 _ (by unfold P12; omega) l, fun X G hG r h21 hv => ⟨X, ?_, RX.rf, h21, fun _ _ => rfl, fun i h1 h2 => absurd h2 (by omega)⟩⟩⟩
      · simp only [rfB, n15, if_false, hf0, cl_n, if_true, a1, lt_n, k0, hk0]
      · obtain ⟨G, rfl⟩ : ∃ G', G = G' + 1 := ⟨G - 1, by omega⟩
        have k13 : (gI X (ad 1) 13 = 0) = (tkK B n e = 0) := R_13 r (c := 0) (by omega)
        rw [lp_s]
        simp only [ljB, i10, if_false, lt_n, k13, hk0, if_true]
    · have hen := tkK_nz he hk0
      have en : EN2 A ad b k v nf B n e s := by
        rcases enW_r (B := B) (n := n) (e := e) with hw | ⟨hk1, hw⟩
        · exact EN_bad c1 hk hw
        · by_cases h40 : s < 40
          · rcases hw with hw | hw | hw | hw | hw | hw | hw
            · exact EN_0 c1 hk h40 g7A hw hk1 hb h8 axA h2
            · exact EN_1 c1 hk h40 g7A hw hk1 hb h8 axA h2
            · exact EN_2 c1 hk h40 g7A hw hk1 hb h8 axA h2
            · exact EN_3 c1 hk h40 g7A hw hk1 hb h8 axA h2
            · exact EN_4 c1 hk h40 g7A hw hk1 hb h8 axA h2
            · exact EN_5 c1 hk h40 g7A hw hk1 hb h8 axA h2
            · exact EN_6 c1 hk h40 g7A hw hk1 hb h8 axA h2
          · have : s = 40 := by omega
            subst this
            exact EN_full c1 hk g7A (by rcases hw with hw | hw | hw | hw | hw | hw | hw <;> rw [hw] <;> decide)
      obtain ⟨S1, a2, b2, g8, hcase⟩ := en
      have bb := b1'.tr b2
      have ax1 : AXN S1 ad b v nf := AXN_PK b2 hk hb axA
      rcases hcase with ⟨e', hee, hL1, h40, g71, hcell, hX⟩ | ⟨c', p, e', hL1, hX⟩
      · have he' : e' ≤ n := hL1.2.2.2.1
        obtain ⟨S', y1, y2, y3, y4⟩ := ih e' (s + 1) F (c + 1) S1 (by omega) (by omega) hL1 (by omega) g71 (by omega) ax1
        refine ⟨S', ?_, bb.tr y2, y3.trans (g8.trans g8A), ?_⟩
        · simp only [rfB, n15, if_false, hf0, cl_n, if_true, a1, lt_n, k0, hk0, a2, da1]
          exact y1
        · rcases y4 with ⟨s', u1, u2, u3, u4, u5, u6, u7⟩ | ⟨c', p, u3, u4, u5, u7⟩
          · refine Or.inl ⟨s', by omega, u2, u3, u4, u5, fun q l h1 h7 hl => ?_, fun X G hG r h21 hv => ?_⟩
            · have z1 := u6 q l h1 h7 (by omega)
              have z2 := hcell q l h1 h7 (by omega)
              have z3 := b1.2 (k + q) (by unfold P12; omega) l
              exact ⟨z1.1.trans (z2.1.trans z3.1), z1.2.trans (z2.2.trans z3.2)⟩
            · obtain ⟨G, rfl⟩ : ∃ G', G = G' + 1 := ⟨G - 1, by omega⟩
              have k13 : (gI X (ad 1) 13 = 0) = (tkK B n e = 0) := R_13 r (c := 0) (by omega)
              obtain ⟨X1, w1, w2, w3, w4, w5, w6⟩ := hX X r h21 hv
              have hv1 : gJ X1 (ad 3) = v := (funext fun l => (w3.2.1 3 (by decide) (by unfold P11; decide) l).2).trans hv
              obtain ⟨X', q1, q2, q3, q4, q5⟩ := u7 X1 G (by omega) w2 w4 hv1
              refine ⟨X', ?_, w3.tr q2, q3, fun l hl => (q4 l (by omega)).trans (w5 l hl), fun i h1 h2 => ?_⟩
              · rw [lp_s]
                simp only [ljB, i10, if_false, lt_n, k13, hk0, w1, cl_n]
                exact q1
              · by_cases hi : i = s
                · subst hi
                  have z := fun q (h1 : 1 ≤ q) (h7 : q ≤ 7) => u6 q i h1 h7 (by omega)
                  have z5 : ∀ a, a < 5 → gI X' (ad 11) (5 * i + a) = gI X1 (ad 11) (5 * i + a) := fun a ha => q4 _ (by omega)
                  unfold ENR at w6 ⊢
                  rw [(z 1 (by omega) (by omega)).1, (z 2 (by omega) (by omega)).1, (z 3 (by omega) (by omega)).1, (z 4 (by omega) (by omega)).1, (z 5 (by omega) (by omega)).1, (z 6 (by omega) (by omega)).1, (z 7 (by omega) (by omega)).2]
                  unfold ENT at w6 ⊢
                  simp only [z5 0 (by omega), z5 1 (by omega), z5 2 (by omega), z5 3 (by omega), z5 4 (by omega)]
                  exact w6
                · exact q5 i (by omega) h2
          · refine Or.inr ⟨c', p, u3, u4, u5, fun X G hG r h21 hv => ?_⟩
            obtain ⟨G, rfl⟩ : ∃ G', G = G' + 1 := ⟨G - 1, by omega⟩
            have k13 : (gI X (ad 1) 13 = 0) = (tkK B n e = 0) := R_13 r (c := 0) (by omega)
            obtain ⟨X1, w1, w2, w3, w4, w5, w6⟩ := hX X r h21 hv
            have hv1 : gJ X1 (ad 3) = v := (funext fun l => (w3.2.1 3 (by decide) (by unfold P11; decide) l).2).trans hv
            obtain ⟨X', q1, q2⟩ := u7 X1 G (by omega) w2 w4 hv1
            refine ⟨X', ?_, RFl.pre (w3.mono (fun _ z => z) (fun i z => z.elim (fun y => Or.inl (Qtf i y)) Or.inr)) q2⟩
            rw [lp_s]
            simp only [ljB, i10, if_false, lt_n, k13, hk0, w1, cl_n]
            exact q1
      · obtain ⟨F, rfl⟩ : ∃ F', F = F' + 1 := ⟨F - 1, by omega⟩
        have n15' : ¬ (1500 : Int32) < nI (c + 1) := by rw [show (1500 : Int32) = nI 1500 from rfl, nI_ltI (by omega) (by omega)]; omega
        have hf1 : f_X9_failed S1 (ad 12) = some 1 := LGs_failed hL1
        obtain ⟨⟨p1, p2, -⟩, p5, p6⟩ := hL1.2.2.2.2
        refine ⟨S1, ?_, bb, g8.trans g8A, Or.inr ⟨c', p, p5, p6, ⟨p1, p2⟩, fun X G hG r h21 hv => ?_⟩⟩
        · simp only [rfB, n15, if_false, hf0, cl_n, if_true, a1, lt_n, k0, hk0, a2, da1]
          rw [lp_s]
          simp only [rfB, n15', if_false, hf1, cl_n, i10]
        · obtain ⟨G, rfl⟩ : ∃ G', G = G' + 1 + 1 := ⟨G - 2, by omega⟩
          have k13 : (gI X (ad 1) 13 = 0) = (tkK B n e = 0) := R_13 r (c := 0) (by omega)
          obtain ⟨X1, w1, w2⟩ := hX X r h21 hv
          refine ⟨X1, ?_, w2⟩
          rw [lp_s]
          simp only [ljB, i10, if_false, lt_n, k13, hk0, w1, cl_n]
          rw [lp_s]
          simp only [ljB, if_true]
def P10 (p : Nat) : Prop := p = 10
/-- the reference copies the text's entries -/
theorem ljC (t : TR X ad) {s : Nat} (hs : s ≤ 40) (h21 : gI X (ad 1) 21 = nI s) : ∃ W, lp (κ := Int32 → St → Option (Int32 × St)) (fun _ _ => none) (ljD (ad 1)) FU 0 X = some (nI s, uI (uI W (ad 1) 19 (nI s)) (ad 1) 20 0) ∧ RX X W ad P10 P0 ∧ ∀ l, l < 5 * s → gI W (ad 10) l = gI X (ad 11) l := by
  refine lp_ex2 (fun (k : Int32 → St → Option (Int32 × St)) i (Z : St) => k (nI i) Z) _ _ (5 * s) (fun i Z => RX X Z ad P10 P0 ∧ ∀ l, l < i → gI Z (ad 10) l = gI X (ad 11) l) (fun r => ∃ W, r = some (nI s, uI (uI W (ad 1) 19 (nI s)) (ad 1) 20 0) ∧ RX X W ad P10 P0 ∧ ∀ l, l < 5 * s → gI W (ad 10) l = gI X (ad 11) l) ?_ ?_ (5 * s) FU 0 X (by omega) ⟨RX.rf, fun l hl => absurd hl (by omega)⟩ (show 5 * s < 6000 by omega)
  · intro k i Z hi hJ
    right
    have tZ := hJ.1.t t
    have g21 : gI Z (ad 1) 21 = nI s := (hJ.1.2.2 21 (fun z => z)).trans h21
    have n1 : ¬ nI (5 * s) ≤ nI i := by rw [nI_leI (by omega) (by omega)]; omega
    have ne : ad 10 ≠ ad 11 := fun z => absurd ((t.1 _ _).mp z) (by decide)
    have s10 : ∀ {β : Type} (w : Int32) (K : St → Option β), stI Z (ad 10) (nI i) w K = K (uI Z (ad 10) i w) := fun w K => stI_at (by rw [n_10 tZ]; omega) (by rw [n_10 tZ]; decide)
    refine ⟨uI Z (ad 10) i (gI Z (ad 11) i), ⟨hJ.1.tr (RX_uI (P := P10) tZ (by decide) rfl), fun l hl => ?_⟩, ?_⟩
    · rw [gI_uI]
      by_cases e : l = i
      · rw [if_pos ⟨rfl, e⟩, e]; exact (hJ.1.2.1 11 (by decide) (by unfold P10; decide) i).1
      · rw [if_neg (fun z => e z.2)]; exact hJ.2 l (by omega)
    · show ljD (ad 1) k (nI i) Z = k (nI (i + 1)) _
      simp only [ljD, lt_n, g21, mu5, n1, if_false, r_1_17 tZ, r_1_18 tZ, ld11 tZ (show i < 200 by omega), s10, da1]
  · intro k Z hJ
    have g21 : gI Z (ad 1) 21 = nI s := (hJ.1.2.2 21 (fun z => z)).trans h21
    have n1 : nI (5 * s) ≤ nI (5 * s) := by rw [nI_leI (by omega) (by omega)]; omega
    refine ⟨Z, ?_, hJ.1, hJ.2⟩
    have g2 : gI (uI (uI Z (ad 1) 19 (nI s)) (ad 1) 20 0) (ad 1) 21 = nI s := by rw [gI_uI, if_neg (fun z => absurd z.2 (by decide)), gI_uI, if_neg (fun z => absurd z.2 (by decide))]; exact g21
    show ljD (ad 1) k (nI (5 * s)) Z = _
    simp only [ljD, lt_n, g21, mu5, n1, if_true, ljU, g2]
