/-! the pure part: the parts of an entry of the journal, the reference -/
variable {S S0 S1 S2 S' S'' S3 X Y : St} {ad : Nat → Nat} {b d j k : Nat} {v v0 v' v1 v2 u w : Nat → Int64} {np nf no mo no' mo' x y : Nat}
theorem or_sy {a b : Prop} (h : a ∨ b) : b ∨ a := h.elim Or.inr Or.inl
def P11 (p : Nat) : Prop := p = 11
theorem st11 (t : TR S ad) {β : Type} {i : Nat} {w : Int32} {K : St → Option β} (hi : i < 200) : stI S (ad 11) (nI i) w K = K (uI S (ad 11) i w) := stI_at (by rw [n_11 t]; exact hi) (by rw [n_11 t]; decide)
theorem ld11 (t : TR S ad) {β : Type} {i : Nat} {K : Int32 → Option β} (hi : i < 200) : ldI S (ad 11) (nI i) K = K (gI S (ad 11) i) := ldI_at (by rw [n_11 t]; exact hi) (by rw [n_11 t]; decide)
theorem g11_e (i : Nat) (w : Int32) : gI (uI S (ad 11) i w) (ad 11) i = w := by rw [gI_uI, if_pos ⟨rfl, rfl⟩]
theorem g11_n {i l : Nat} (h : l ≠ i) (w : Int32) : gI (uI S (ad 11) i w) (ad 11) l = gI S (ad 11) l := by rw [gI_uI, if_neg (fun z => h z.2)]
/-- what a part that is read has done -/
def R11 (S S' : St) (ad : Nat → Nat) (B : Nat → Int32) (n e i : Nat) (w : Int32) : Prop := RS S' ad B n e ∧ RX S S' ad P11 Qt ∧ gI S' (ad 11) i = w ∧ ∀ l, l ≠ i → gI S' (ad 11) l = gI S (ad 11) l
theorem R11_mk {B : Nat → Int32} {n e i : Nat} {w : Int32} (r : RS S' ad B n e) (x : RX S S' ad P0 Qt) : R11 S (uI S' (ad 11) i w) ad B n e i w :=
  ⟨RS_uI r (by decide) (by decide), (x.mono (fun _ z => z.elim) (fun _ z => z)).tr (RX_uI r.1.1 (by decide) rfl), g11_e _ _, fun l hl => (g11_n hl _).trans (x.2.1 11 (by decide) (fun z => z) l).1⟩
theorem Qtf : ∀ i, Qt i → Qf i := fun i h => by unfold Qt at h; unfold Qf; omega
theorem R_part {B : Nat → Int32} {n e a : Nat} (r : RS S ad B n e) {i : Nat} (hi : i < 200) {i0 : Int32} (hi0 : i0 = nI i) (ha : a ≤ 1000000) (hh : Int32) {ia : Int32} (hia : ia = nI a) : (eNum B n e a hh = none ∧ ∃ S', f_X12_readPart S (ad 1) i0 ia hh = some (1, S') ∧ R11 S S' ad B n (tkR B n e) i (nI (vNum B n e a hh))) ∨ (∃ c, eNum B n e a hh = some (c, tkS B n e) ∧ (1 ≤ c ∧ c ≤ 5) ∧ ∃ S', f_X12_readPart S (ad 1) i0 ia hh = some (0, S') ∧ RFl S S' ad P11 Qf c (tkS B n e)) := by
  subst hi0
  rcases R_num r ha hh hia with ⟨h1, S1, h2, h3, h4, h5⟩ | ⟨c, h1, hc, S1, h2, h3⟩
  · refine Or.inl ⟨h1, _, ?_, R11_mk h3 h4⟩
    simp only [f_X12_readPart, h2, cl_n, i10, if_false, lt_n, r_1_18 h3.1.1, h5, st11 h3.1.1 hi]
  · refine Or.inr ⟨c, h1, hc, S1, ?_, h3.mono (fun _ z => z.elim) (fun _ z => z)⟩
    simp only [f_X12_readPart, h2, cl_n, if_true]
theorem R_who {B : Nat → Int32} {n e : Nat} (r : RS S ad B n e) {i : Nat} (hi : i < 200) {i0 : Int32} (hi0 : i0 = nI i) (hv : gJ S (ad 3) = v) (h2 : v 2 = lN nf) (h8 : nf ≤ 8) : (eNm B n e v nf true = none ∧ ∃ f S', f < nf ∧ nmX B n e v nf = nI f ∧ f_X12_readWho S (ad 1) i0 = some (1, S') ∧ R11 S S' ad B n (tkR B n e) i (nI f)) ∨ (∃ c, eNm B n e v nf true = some (c, tkS B n e) ∧ (1 ≤ c ∧ c ≤ 5) ∧ ∃ S', f_X12_readWho S (ad 1) i0 = some (0, S') ∧ RFl S S' ad P11 Qf c (tkS B n e)) := by
  subst hi0
  have ev : (fun i => v (5054 * 0 + i)) = v := funext fun i => by rw [Nat.mul_zero, Nat.zero_add]
  have hn := R_name (nf := nf) r hv (p := 0) (i1 := 0) (by decide) rfl (by rw [Nat.mul_zero, Nat.zero_add]; exact h2) h8
  rw [ev] at hn
  rcases hn with ⟨h1, f, S1, hf, h2, h3, h4, h5⟩ | ⟨c, h1, hc, S1, h3, h4⟩
  · refine Or.inl ⟨h1, f, _, hf, h2, ?_, R11_mk h4 h5⟩
    have nm : ¬ nI f = -1 := nI_m1 (by omega)
    simp only [f_X12_readWho, h3, cl_n, lt_n, r_1_18 r.1.1, st11 h4.1.1 hi, r_1_18 (TR_SR0 (SR0_uI _ _ _ _) h4.1.1), ld11 (TR_SR0 (SR0_uI _ _ _ _) h4.1.1) hi, g11_e, nm, if_false]
  · have t1 := h4.1.t r.1.1
    refine Or.inr ⟨c, h1, hc, uI S1 (ad 11) i (-1), ?_, (h4.mono (P' := P11) (fun _ z => z.elim) (fun _ z => z)).post (RX_uI t1 (by decide) rfl)⟩
    simp only [f_X12_readWho, h3, cl_n, lt_n, r_1_18 r.1.1, st11 t1 hi, r_1_18 (TR_SR0 (SR0_uI _ _ _ _) t1), ld11 (TR_SR0 (SR0_uI _ _ _ _) t1) hi, g11_e, if_true]
def rvT (S : St) (p0 : Nat) (p1 x2 : Int32) : Option (Int32 × St) := lt (gR S p0 18) fun (a7 : Nat) => jn (κ := Int32 → Option (Int32 × St)) (fun x9 => stI S a7 p1 x9 fun (S12 : St) => cl (f_X12_advance S12 p0) fun (S13 : St) => some (1, S13)) fun k10 => if x2 = 0 then (k10 0) else (k10 1)
theorem rvX (S : St) (p0 : Nat) (p1 : Int32) : f_X12_readVote S p0 p1 = (lt (gI S p0 13) fun (v1 : Int32) => jn (κ := Int32 → Option (Int32 × St)) (fun x2 => jn (κ := Option (Int32 × St)) (rvT S p0 p1 x2) fun k5 => if x2 = 0 then (lt (gI S p0 13) fun (v14 : Int32) => jn (κ := Option (Int32 × St)) (cl (f_X12_fail S p0 1) fun (o17 : Int32 × St) => zc o17.1 (some (o17.1, o17.2))) fun k15 => if v14 = 1 then (lt (gJ S p0 16) fun (v18 : Int64) => cl (f_X12_pack S 110 111 0 0 0) fun (v19 : Int64) => if v18 = v19 then (k5) else (k15)) else (k15)) else (k5)) fun k3 => jn (κ := Option (Int32 × St)) (k3 0) fun k20 => if v1 = 1 then (lt (gJ S p0 16) fun (v22 : Int64) => cl (f_X12_pack S 121 101 115 0 0) fun (v23 : Int64) => if v22 = v23 then (k3 1) else (k20)) else (k20)) := by
  unfold f_X12_readVote; rfl
theorem R_rvT {B : Nat → Int32} {n e : Nat} (r : RS S ad B n e) (hk : tkK B n e ≠ 5) {i : Nat} (hi : i < 200) (w : Bool) : ∃ S', rvT S (ad 1) (nI i) (bI w) = some (1, S') ∧ R11 S S' ad B n (tkR B n e) i (bI w) := by
  have r1 : RS (uI S (ad 11) i (bI w)) ad B n e := RS_uI r (by decide) (by decide)
  obtain ⟨S', h1, h2, h3, -⟩ := R_ad r1 hk
  refine ⟨S', ?_, h2, (RX_uI (P := P11) r.1.1 (by decide) rfl).tr (h3.mono (fun _ z => z.elim) (fun _ z => z)), ?_, fun l hl => ?_⟩
  · simp only [rvT, lt_n, r_1_18 r.1.1, jn_n, if_bI, st11 r.1.1 hi]
    cases w
    · rw [if_neg (by decide), show (0 : Int32) = bI false from rfl, h1, cl_n]
    · rw [if_pos rfl, show (1 : Int32) = bI true from rfl, h1, cl_n]
  · rw [(h3.2.1 11 (by decide) (fun z => z) i).1, g11_e]
  · rw [(h3.2.1 11 (by decide) (fun z => z) l).1, g11_n hl]
theorem R_vote {B : Nat → Int32} {n e : Nat} (r : RS S ad B n e) {i : Nat} (hi : i < 200) {i0 : Int32} (hi0 : i0 = nI i) : (eYes B n e = none ∧ ∃ S', f_X12_readVote S (ad 1) i0 = some (1, S') ∧ R11 S S' ad B n (tkR B n e) i (bI (isW B n e 17))) ∨ (eYes B n e = some (1, tkS B n e) ∧ ∃ S', f_X12_readVote S (ad 1) i0 = some (0, S') ∧ RFl S S' ad P11 Qf 1 (tkS B n e)) := by
  subst hi0
  have k1 : (gI S (ad 1) 13 = 1) = (tkK B n e = 1) := R_13 r (c := 1) (by omega)
  rw [rvX]
  simp only [lt_n, k1, pk_121_101_115_0_0, pk_110_111_0_0_0, cl_n, jn_n, i10, if_false, if_true]
  obtain ⟨S', f1, f2⟩ := R_fail r (k := 1) (i := 1) rfl
  by_cases hk : tkK B n e = 1
  · have x17 := isW_x r.2 hk (i := 17) (by decide) (z := 25779) rfl
    have x18 := isW_x r.2 hk (i := 18) (by decide) (z := 463) rfl
    simp only [hk, if_true, x17, x18]
    by_cases h17 : isW B n e 17 = true
    · obtain ⟨S1, g1, g2⟩ := R_rvT r (by omega) hi (isW B n e 17)
      refine Or.inl ⟨by rw [eYes, if_pos (Or.inl h17)], S1, ?_, g2⟩
      rw [if_pos h17]; rw [h17] at g1; exact g1
    · by_cases h18 : isW B n e 18 = true
      · obtain ⟨S1, g1, g2⟩ := R_rvT r (by omega) hi (isW B n e 17)
        refine Or.inl ⟨by rw [eYes, if_pos (Or.inr h18)], S1, ?_, g2⟩
        rw [if_neg h17, if_pos h18]; rw [Bool.eq_false_iff.mpr h17] at g1; exact g1
      · refine Or.inr ⟨by rw [eYes, if_neg (fun z => z.elim h17 h18)], S', ?_, f2.mono (fun _ z => z.elim) (fun _ z => z)⟩
        rw [if_neg h17, if_neg h18, f1, cl_n]; rfl
  · refine Or.inr ⟨?_, S', ?_, f2.mono (fun _ z => z.elim) (fun _ z => z)⟩
    · rw [eYes, if_neg (fun z => by rw [isW_n hk, isW_n hk] at z; simp at z)]
    · simp only [hk, if_false, f1, cl_n]; rfl
theorem dk01 : ((0 : Int32) = 1) = False := by decide
theorem dk02 : ((0 : Int32) = 2) = False := by decide
theorem dk03 : ((0 : Int32) = 3) = False := by decide
theorem dk04 : ((0 : Int32) = 4) = False := by decide
theorem dk05 : ((0 : Int32) = 5) = False := by decide
theorem dk10 : ((1 : Int32) = 0) = False := by decide
theorem dk12 : ((1 : Int32) = 2) = False := by decide
theorem dk13 : ((1 : Int32) = 3) = False := by decide
theorem dk14 : ((1 : Int32) = 4) = False := by decide
theorem dk15 : ((1 : Int32) = 5) = False := by decide
theorem dk20 : ((2 : Int32) = 0) = False := by decide
theorem dk21 : ((2 : Int32) = 1) = False := by decide
theorem dk23 : ((2 : Int32) = 3) = False := by decide
theorem dk24 : ((2 : Int32) = 4) = False := by decide
theorem dk25 : ((2 : Int32) = 5) = False := by decide
theorem dk30 : ((3 : Int32) = 0) = False := by decide
theorem dk31 : ((3 : Int32) = 1) = False := by decide
theorem dk32 : ((3 : Int32) = 2) = False := by decide
theorem dk34 : ((3 : Int32) = 4) = False := by decide
theorem dk35 : ((3 : Int32) = 5) = False := by decide
theorem dk40 : ((4 : Int32) = 0) = False := by decide
theorem dk41 : ((4 : Int32) = 1) = False := by decide
theorem dk42 : ((4 : Int32) = 2) = False := by decide
theorem dk43 : ((4 : Int32) = 3) = False := by decide
theorem dk45 : ((4 : Int32) = 5) = False := by decide
theorem dk50 : ((5 : Int32) = 0) = False := by decide
theorem dk51 : ((5 : Int32) = 1) = False := by decide
theorem dk52 : ((5 : Int32) = 2) = False := by decide
theorem dk53 : ((5 : Int32) = 3) = False := by decide
theorem dk54 : ((5 : Int32) = 4) = False := by decide
theorem dk60 : ((6 : Int32) = 0) = False := by decide
theorem dk61 : ((6 : Int32) = 1) = False := by decide
theorem dk62 : ((6 : Int32) = 2) = False := by decide
theorem dk63 : ((6 : Int32) = 3) = False := by decide
theorem dk64 : ((6 : Int32) = 4) = False := by decide
theorem dk65 : ((6 : Int32) = 5) = False := by decide
def eA0 (B : Nat → Int32) (n e : Nat) (v : Nat → Int64) (nf : Nat) : Option (Nat × Nat) := (qor (eNum B n e 0 15) (qor (eNum B n (tkR B n e) 0 100000) none))
theorem RA0 {B : Nat → Int32} {n e s : Nat} (r : RS S ad B n e) (hs : s < 40) (hv : gJ S (ad 3) = v) (h2 : v 2 = lN nf) (h8 : nf ≤ 8) : (eA0 B n e v nf = none ∧ ∃ S', f_X12_readParts S (ad 1) 0 (nI (5 * s)) = some (1, S') ∧ RS S' ad B n (tkR B n (tkR B n e)) ∧ RX S S' ad P11 Qt ∧ (∀ l, l ≤ 5 * s → gI S' (ad 11) l = gI S (ad 11) l) ∧ (gI S' (ad 11) (5 * s + 1) = (nI (vNum B n e 0 15)) ∧ gI S' (ad 11) (5 * s + 2) = (nI (vNum B n (tkR B n e) 0 100000))) ∧ (True)) ∨ (∃ c p, eA0 B n e v nf = some (c, p) ∧ (1 ≤ c ∧ c ≤ 5) ∧ ∃ S', f_X12_readParts S (ad 1) 0 (nI (5 * s)) = some (0, S') ∧ RFl S S' ad P11 Qf c p) := by
  rcases or_sy (R_part r (i := 5 * s + 1) (by omega) (i0 := nI (5 * s) + 1) (da1 _) (a := 0) (by omega) 15 (ia := 0) rfl) with ⟨c, n1, hc, A1, a1, f1⟩ | ⟨n1, A1, a1, g1⟩
  · refine Or.inr ⟨c, _, by rw [eA0, n1]; rfl, by omega, A1, ?_, f1⟩
    simp only [f_X12_readParts, jn_n, if_true, if_false, dk01, dk02, dk03, dk04, dk05, a1, cl_n, i10, zc_0, zc_1]
  rcases or_sy (R_part g1.1 (i := 5 * s + 2) (by omega) (i0 := nI (5 * s) + 2) (da2 _) (a := 0) (by omega) 100000 (ia := 0) rfl) with ⟨c, n2, hc, A2, a2, f2⟩ | ⟨n2, A2, a2, g2⟩
  · refine Or.inr ⟨c, _, by rw [eA0, n1, n2]; rfl, by omega, A2, ?_, RFl.pre (g1.2.1.mono (fun _ z => z) Qtf) (f2)⟩
    simp only [f_X12_readParts, jn_n, if_true, if_false, dk01, dk02, dk03, dk04, dk05, a1, a2, cl_n, i10, zc_0, zc_1]
  refine Or.inl ⟨by rw [eA0, n1, n2]; rfl, A2, ?_, g2.1, (g1.2.1).tr g2.2.1, fun l hl => (g2.2.2.2 l (by omega)).trans (g1.2.2.2 l (by omega)), ⟨(g2.2.2.2 _ (by omega)).trans (g1.2.2.1), g2.2.2.1⟩, trivial⟩
  simp only [f_X12_readParts, jn_n, if_true, if_false, dk01, dk02, dk03, dk04, dk05, a1, a2,  cl_n, i10, zc_0, zc_1]
def eA1 (B : Nat → Int32) (n e : Nat) (v : Nat → Int64) (nf : Nat) : Option (Nat × Nat) := (qor (eNum B n e 0 15) (qor (eNum B n (tkR B n e) 0 29) (qor (eNum B n (tkR B n (tkR B n e)) 0 29) (qor (eNum B n (tkR B n (tkR B n (tkR B n e))) 1 100000) none))))
theorem RA1 {B : Nat → Int32} {n e s : Nat} (r : RS S ad B n e) (hs : s < 40) (hv : gJ S (ad 3) = v) (h2 : v 2 = lN nf) (h8 : nf ≤ 8) : (eA1 B n e v nf = none ∧ ∃ S', f_X12_readParts S (ad 1) 1 (nI (5 * s)) = some (1, S') ∧ RS S' ad B n (tkR B n (tkR B n (tkR B n (tkR B n e)))) ∧ RX S S' ad P11 Qt ∧ (∀ l, l ≤ 5 * s → gI S' (ad 11) l = gI S (ad 11) l) ∧ (gI S' (ad 11) (5 * s + 1) = (nI (vNum B n e 0 15)) ∧ gI S' (ad 11) (5 * s + 2) = (nI (vNum B n (tkR B n e) 0 29)) ∧ gI S' (ad 11) (5 * s + 3) = (nI (vNum B n (tkR B n (tkR B n e)) 0 29)) ∧ gI S' (ad 11) (5 * s + 4) = (nI (vNum B n (tkR B n (tkR B n (tkR B n e))) 1 100000))) ∧ (True)) ∨ (∃ c p, eA1 B n e v nf = some (c, p) ∧ (1 ≤ c ∧ c ≤ 5) ∧ ∃ S', f_X12_readParts S (ad 1) 1 (nI (5 * s)) = some (0, S') ∧ RFl S S' ad P11 Qf c p) := by
  rcases or_sy (R_part r (i := 5 * s + 1) (by omega) (i0 := nI (5 * s) + 1) (da1 _) (a := 0) (by omega) 15 (ia := 0) rfl) with ⟨c, n1, hc, A1, a1, f1⟩ | ⟨n1, A1, a1, g1⟩
  · refine Or.inr ⟨c, _, by rw [eA1, n1]; rfl, by omega, A1, ?_, f1⟩
    simp only [f_X12_readParts, jn_n, if_true, if_false, dk10, dk12, dk13, dk14, dk15, a1, cl_n, i10, zc_0, zc_1]
  rcases or_sy (R_part g1.1 (i := 5 * s + 2) (by omega) (i0 := nI (5 * s) + 2) (da2 _) (a := 0) (by omega) 29 (ia := 0) rfl) with ⟨c, n2, hc, A2, a2, f2⟩ | ⟨n2, A2, a2, g2⟩
  · refine Or.inr ⟨c, _, by rw [eA1, n1, n2]; rfl, by omega, A2, ?_, RFl.pre (g1.2.1.mono (fun _ z => z) Qtf) (f2)⟩
    simp only [f_X12_readParts, jn_n, if_true, if_false, dk10, dk12, dk13, dk14, dk15, a1, a2, cl_n, i10, zc_0, zc_1]
  rcases or_sy (R_part g2.1 (i := 5 * s + 3) (by omega) (i0 := nI (5 * s) + 3) (da3 _) (a := 0) (by omega) 29 (ia := 0) rfl) with ⟨c, n3, hc, A3, a3, f3⟩ | ⟨n3, A3, a3, g3⟩
  · refine Or.inr ⟨c, _, by rw [eA1, n1, n2, n3]; rfl, by omega, A3, ?_, RFl.pre (g1.2.1.mono (fun _ z => z) Qtf) (RFl.pre (g2.2.1.mono (fun _ z => z) Qtf) (f3))⟩
    simp only [f_X12_readParts, jn_n, if_true, if_false, dk10, dk12, dk13, dk14, dk15, a1, a2, a3, cl_n, i10, zc_0, zc_1]
  rcases or_sy (R_part g3.1 (i := 5 * s + 4) (by omega) (i0 := nI (5 * s) + 4) (da4 _) (a := 1) (by omega) 100000 (ia := 1) rfl) with ⟨c, n4, hc, A4, a4, f4⟩ | ⟨n4, A4, a4, g4⟩
  · refine Or.inr ⟨c, _, by rw [eA1, n1, n2, n3, n4]; rfl, by omega, A4, ?_, RFl.pre (g1.2.1.mono (fun _ z => z) Qtf) (RFl.pre (g2.2.1.mono (fun _ z => z) Qtf) (RFl.pre (g3.2.1.mono (fun _ z => z) Qtf) (f4)))⟩
    simp only [f_X12_readParts, jn_n, if_true, if_false, dk10, dk12, dk13, dk14, dk15, a1, a2, a3, a4, cl_n, i10, zc_0, zc_1]
  refine Or.inl ⟨by rw [eA1, n1, n2, n3, n4]; rfl, A4, ?_, g4.1, (((g1.2.1).tr g2.2.1).tr g3.2.1).tr g4.2.1, fun l hl => (g4.2.2.2 l (by omega)).trans ((g3.2.2.2 l (by omega)).trans ((g2.2.2.2 l (by omega)).trans (g1.2.2.2 l (by omega)))), ⟨(g4.2.2.2 _ (by omega)).trans ((g3.2.2.2 _ (by omega)).trans ((g2.2.2.2 _ (by omega)).trans (g1.2.2.1))), (g4.2.2.2 _ (by omega)).trans ((g3.2.2.2 _ (by omega)).trans (g2.2.2.1)), (g4.2.2.2 _ (by omega)).trans (g3.2.2.1), g4.2.2.1⟩, trivial⟩
  simp only [f_X12_readParts, jn_n, if_true, if_false, dk10, dk12, dk13, dk14, dk15, a1, a2, a3, a4,  cl_n, i10, zc_0, zc_1]
def eA2 (B : Nat → Int32) (n e : Nat) (v : Nat → Int64) (nf : Nat) : Option (Nat × Nat) := (qor (eNm B n e v nf true) (qor (eNum B n (tkR B n e) 1 999999) none))
theorem RA2 {B : Nat → Int32} {n e s : Nat} (r : RS S ad B n e) (hs : s < 40) (hv : gJ S (ad 3) = v) (h2 : v 2 = lN nf) (h8 : nf ≤ 8) : (eA2 B n e v nf = none ∧ ∃ S', f_X12_readParts S (ad 1) 2 (nI (5 * s)) = some (1, S') ∧ RS S' ad B n (tkR B n (tkR B n e)) ∧ RX S S' ad P11 Qt ∧ (∀ l, l ≤ 5 * s → gI S' (ad 11) l = gI S (ad 11) l) ∧ (gI S' (ad 11) (5 * s + 1) = (nmX B n e v nf) ∧ gI S' (ad 11) (5 * s + 2) = (nI (vNum B n (tkR B n e) 1 999999))) ∧ ((∃ f, f < nf ∧ (nmX B n e v nf) = nI f))) ∨ (∃ c p, eA2 B n e v nf = some (c, p) ∧ (1 ≤ c ∧ c ≤ 5) ∧ ∃ S', f_X12_readParts S (ad 1) 2 (nI (5 * s)) = some (0, S') ∧ RFl S S' ad P11 Qf c p) := by
  rcases or_sy (R_who (nf := nf) r (i := 5 * s + 1) (by omega) (i0 := nI (5 * s) + 1) (da1 _) hv h2 h8) with ⟨c, n1, hc, A1, a1, f1⟩ | ⟨n1, fq, A1, hfq, efq, a1, g1⟩
  · refine Or.inr ⟨c, _, by rw [eA2, n1]; rfl, by omega, A1, ?_, f1⟩
    simp only [f_X12_readParts, jn_n, if_true, if_false, dk20, dk21, dk23, dk24, dk25, a1, cl_n, i10, zc_0, zc_1]
  rcases or_sy (R_part g1.1 (i := 5 * s + 2) (by omega) (i0 := nI (5 * s) + 2) (da2 _) (a := 1) (by omega) 999999 (ia := 1) rfl) with ⟨c, n2, hc, A2, a2, f2⟩ | ⟨n2, A2, a2, g2⟩
  · refine Or.inr ⟨c, _, by rw [eA2, n1, n2]; rfl, by omega, A2, ?_, RFl.pre (g1.2.1.mono (fun _ z => z) Qtf) (f2)⟩
    simp only [f_X12_readParts, jn_n, if_true, if_false, dk20, dk21, dk23, dk24, dk25, a1, a2, cl_n, i10, zc_0, zc_1]
  refine Or.inl ⟨by rw [eA2, n1, n2]; rfl, A2, ?_, g2.1, (g1.2.1).tr g2.2.1, fun l hl => (g2.2.2.2 l (by omega)).trans (g1.2.2.2 l (by omega)), ⟨(g2.2.2.2 _ (by omega)).trans (g1.2.2.1.trans efq.symm), g2.2.2.1⟩, ⟨fq, hfq, efq⟩⟩
  simp only [f_X12_readParts, jn_n, if_true, if_false, dk20, dk21, dk23, dk24, dk25, a1, a2,  cl_n, i10, zc_0, zc_1]
def eA3 (B : Nat → Int32) (n e : Nat) (v : Nat → Int64) (nf : Nat) : Option (Nat × Nat) := (qor (eNm B n e v nf true) (qor (eNum B n (tkR B n e) 1 999999) none))
theorem RA3 {B : Nat → Int32} {n e s : Nat} (r : RS S ad B n e) (hs : s < 40) (hv : gJ S (ad 3) = v) (h2 : v 2 = lN nf) (h8 : nf ≤ 8) : (eA3 B n e v nf = none ∧ ∃ S', f_X12_readParts S (ad 1) 3 (nI (5 * s)) = some (1, S') ∧ RS S' ad B n (tkR B n (tkR B n e)) ∧ RX S S' ad P11 Qt ∧ (∀ l, l ≤ 5 * s → gI S' (ad 11) l = gI S (ad 11) l) ∧ (gI S' (ad 11) (5 * s + 1) = (nmX B n e v nf) ∧ gI S' (ad 11) (5 * s + 2) = (nI (vNum B n (tkR B n e) 1 999999))) ∧ ((∃ f, f < nf ∧ (nmX B n e v nf) = nI f))) ∨ (∃ c p, eA3 B n e v nf = some (c, p) ∧ (1 ≤ c ∧ c ≤ 5) ∧ ∃ S', f_X12_readParts S (ad 1) 3 (nI (5 * s)) = some (0, S') ∧ RFl S S' ad P11 Qf c p) := by
  rcases or_sy (R_who (nf := nf) r (i := 5 * s + 1) (by omega) (i0 := nI (5 * s) + 1) (da1 _) hv h2 h8) with ⟨c, n1, hc, A1, a1, f1⟩ | ⟨n1, fq, A1, hfq, efq, a1, g1⟩
  · refine Or.inr ⟨c, _, by rw [eA3, n1]; rfl, by omega, A1, ?_, f1⟩
    simp only [f_X12_readParts, jn_n, if_true, if_false, dk30, dk31, dk32, dk34, dk35, a1, cl_n, i10, zc_0, zc_1]
  rcases or_sy (R_part g1.1 (i := 5 * s + 2) (by omega) (i0 := nI (5 * s) + 2) (da2 _) (a := 1) (by omega) 999999 (ia := 1) rfl) with ⟨c, n2, hc, A2, a2, f2⟩ | ⟨n2, A2, a2, g2⟩
  · refine Or.inr ⟨c, _, by rw [eA3, n1, n2]; rfl, by omega, A2, ?_, RFl.pre (g1.2.1.mono (fun _ z => z) Qtf) (f2)⟩
    simp only [f_X12_readParts, jn_n, if_true, if_false, dk30, dk31, dk32, dk34, dk35, a1, a2, cl_n, i10, zc_0, zc_1]
  refine Or.inl ⟨by rw [eA3, n1, n2]; rfl, A2, ?_, g2.1, (g1.2.1).tr g2.2.1, fun l hl => (g2.2.2.2 l (by omega)).trans (g1.2.2.2 l (by omega)), ⟨(g2.2.2.2 _ (by omega)).trans (g1.2.2.1.trans efq.symm), g2.2.2.1⟩, ⟨fq, hfq, efq⟩⟩
  simp only [f_X12_readParts, jn_n, if_true, if_false, dk30, dk31, dk32, dk34, dk35, a1, a2,  cl_n, i10, zc_0, zc_1]
def eA4 (B : Nat → Int32) (n e : Nat) (v : Nat → Int64) (nf : Nat) : Option (Nat × Nat) := (qor (eNum B n e 1 999999) none)
theorem RA4 {B : Nat → Int32} {n e s : Nat} (r : RS S ad B n e) (hs : s < 40) (hv : gJ S (ad 3) = v) (h2 : v 2 = lN nf) (h8 : nf ≤ 8) : (eA4 B n e v nf = none ∧ ∃ S', f_X12_readParts S (ad 1) 4 (nI (5 * s)) = some (1, S') ∧ RS S' ad B n (tkR B n e) ∧ RX S S' ad P11 Qt ∧ (∀ l, l ≤ 5 * s → gI S' (ad 11) l = gI S (ad 11) l) ∧ (gI S' (ad 11) (5 * s + 1) = (nI (vNum B n e 1 999999))) ∧ (True)) ∨ (∃ c p, eA4 B n e v nf = some (c, p) ∧ (1 ≤ c ∧ c ≤ 5) ∧ ∃ S', f_X12_readParts S (ad 1) 4 (nI (5 * s)) = some (0, S') ∧ RFl S S' ad P11 Qf c p) := by
  rcases or_sy (R_part r (i := 5 * s + 1) (by omega) (i0 := nI (5 * s) + 1) (da1 _) (a := 1) (by omega) 999999 (ia := 1) rfl) with ⟨c, n1, hc, A1, a1, f1⟩ | ⟨n1, A1, a1, g1⟩
  · refine Or.inr ⟨c, _, by rw [eA4, n1]; rfl, by omega, A1, ?_, f1⟩
    simp only [f_X12_readParts, jn_n, if_true, if_false, dk40, dk41, dk42, dk43, dk45, a1, cl_n, i10, zc_0, zc_1]
  refine Or.inl ⟨by rw [eA4, n1]; rfl, A1, ?_, g1.1, g1.2.1, fun l hl => g1.2.2.2 l (by omega), g1.2.2.1, trivial⟩
  simp only [f_X12_readParts, jn_n, if_true, if_false, dk40, dk41, dk42, dk43, dk45, a1,  cl_n, i10, zc_0, zc_1]
def eA5 (B : Nat → Int32) (n e : Nat) (v : Nat → Int64) (nf : Nat) : Option (Nat × Nat) := (qor (eNm B n e v nf true) (qor (eNum B n (tkR B n e) 0 4) (qor (eYes B n (tkR B n (tkR B n e))) none)))
theorem RA5 {B : Nat → Int32} {n e s : Nat} (r : RS S ad B n e) (hs : s < 40) (hv : gJ S (ad 3) = v) (h2 : v 2 = lN nf) (h8 : nf ≤ 8) : (eA5 B n e v nf = none ∧ ∃ S', f_X12_readParts S (ad 1) 5 (nI (5 * s)) = some (1, S') ∧ RS S' ad B n (tkR B n (tkR B n (tkR B n e))) ∧ RX S S' ad P11 Qt ∧ (∀ l, l ≤ 5 * s → gI S' (ad 11) l = gI S (ad 11) l) ∧ (gI S' (ad 11) (5 * s + 1) = (nmX B n e v nf) ∧ gI S' (ad 11) (5 * s + 2) = (nI (vNum B n (tkR B n e) 0 4)) ∧ gI S' (ad 11) (5 * s + 3) = (bI (isW B n (tkR B n (tkR B n e)) 17))) ∧ ((∃ f, f < nf ∧ (nmX B n e v nf) = nI f))) ∨ (∃ c p, eA5 B n e v nf = some (c, p) ∧ (1 ≤ c ∧ c ≤ 5) ∧ ∃ S', f_X12_readParts S (ad 1) 5 (nI (5 * s)) = some (0, S') ∧ RFl S S' ad P11 Qf c p) := by
  rcases or_sy (R_who (nf := nf) r (i := 5 * s + 1) (by omega) (i0 := nI (5 * s) + 1) (da1 _) hv h2 h8) with ⟨c, n1, hc, A1, a1, f1⟩ | ⟨n1, fq, A1, hfq, efq, a1, g1⟩
  · refine Or.inr ⟨c, _, by rw [eA5, n1]; rfl, by omega, A1, ?_, f1⟩
    simp only [f_X12_readParts, jn_n, if_true, if_false, dk50, dk51, dk52, dk53, dk54, a1, cl_n, i10, zc_0, zc_1]
  rcases or_sy (R_part g1.1 (i := 5 * s + 2) (by omega) (i0 := nI (5 * s) + 2) (da2 _) (a := 0) (by omega) 4 (ia := 0) rfl) with ⟨c, n2, hc, A2, a2, f2⟩ | ⟨n2, A2, a2, g2⟩
  · refine Or.inr ⟨c, _, by rw [eA5, n1, n2]; rfl, by omega, A2, ?_, RFl.pre (g1.2.1.mono (fun _ z => z) Qtf) (f2)⟩
    simp only [f_X12_readParts, jn_n, if_true, if_false, dk50, dk51, dk52, dk53, dk54, a1, a2, cl_n, i10, zc_0, zc_1]
  rcases or_sy (R_vote g2.1 (i := 5 * s + 3) (by omega) (i0 := nI (5 * s) + 3) (da3 _)) with ⟨n3, A3, a3, f3⟩ | ⟨n3, A3, a3, g3⟩
  · refine Or.inr ⟨1, _, by rw [eA5, n1, n2, n3]; rfl, by omega, A3, ?_, RFl.pre (g1.2.1.mono (fun _ z => z) Qtf) (RFl.pre (g2.2.1.mono (fun _ z => z) Qtf) (f3))⟩
    simp only [f_X12_readParts, jn_n, if_true, if_false, dk50, dk51, dk52, dk53, dk54, a1, a2, a3, cl_n, i10, zc_0, zc_1]
  refine Or.inl ⟨by rw [eA5, n1, n2, n3]; rfl, A3, ?_, g3.1, ((g1.2.1).tr g2.2.1).tr g3.2.1, fun l hl => (g3.2.2.2 l (by omega)).trans ((g2.2.2.2 l (by omega)).trans (g1.2.2.2 l (by omega))), ⟨(g3.2.2.2 _ (by omega)).trans ((g2.2.2.2 _ (by omega)).trans (g1.2.2.1.trans efq.symm)), (g3.2.2.2 _ (by omega)).trans (g2.2.2.1), g3.2.2.1⟩, ⟨fq, hfq, efq⟩⟩
  simp only [f_X12_readParts, jn_n, if_true, if_false, dk50, dk51, dk52, dk53, dk54, a1, a2, a3,  cl_n, i10, zc_0, zc_1]
def eA6 (B : Nat → Int32) (n e : Nat) (v : Nat → Int64) (nf : Nat) : Option (Nat × Nat) := none
theorem RA6 {B : Nat → Int32} {n e s : Nat} (r : RS S ad B n e) (hs : s < 40) (hv : gJ S (ad 3) = v) (h2 : v 2 = lN nf) (h8 : nf ≤ 8) : (eA6 B n e v nf = none ∧ ∃ S', f_X12_readParts S (ad 1) 6 (nI (5 * s)) = some (1, S') ∧ RS S' ad B n e ∧ RX S S' ad P11 Qt ∧ (∀ l, l ≤ 5 * s → gI S' (ad 11) l = gI S (ad 11) l) ∧ (True) ∧ (True)) ∨ (∃ c p, eA6 B n e v nf = some (c, p) ∧ (1 ≤ c ∧ c ≤ 5) ∧ ∃ S', f_X12_readParts S (ad 1) 6 (nI (5 * s)) = some (0, S') ∧ RFl S S' ad P11 Qf c p) := by
  refine Or.inl ⟨rfl, S, ?_, r, RX.rf, fun l hl => rfl, trivial, trivial⟩
  simp only [f_X12_readParts, jn_n, if_true, if_false, dk60, dk61, dk62, dk63, dk64, dk65,  cl_n, i10, zc_0, zc_1]
